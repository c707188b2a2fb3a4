/-! Row: masks, lowest ranks, pairs in and out, cancelling; the moves -/
def rmask (xs : List Int32) : Int32 := xs.foldl (fun m x => m ||| ((1 : Int32) <<< (rk x &&& 31))) 0
theorem rmask_take {xs : List Int32} {k : Nat} (h : k < xs.length) : rmask (xs.take (k + 1)) = rmask (xs.take k) ||| ((1 : Int32) <<< (rk (xs.getD k 0) &&& 31)) := by
  rw [take_get h, rmask, List.foldl_append]; rfl
set_option maxRecDepth 20000 in
theorem sp_X5_rankMask {G : GG} {h : HP} {r cap : Nat} {xs : List Int32} (w : isRow G h r cap xs) (n : Nat) : Sp G mm_X5_rankMask 1 0 0 [.ref r] h n (fun v h' _ => v = some (.int (rmask xs)) ∧ h' = h) := by
  refine Sp_of (by decide +kernel) (Nat.le_of_ble_eq_true rfl) ?_
  have hle := w.le
  obtain ⟨f, h1, h2, h3, h4, h5⟩ := id w
  have loop : ∀ (j k n1 : Nat), xs.length - k = j → k ≤ xs.length → J (g0 G) mm_X5_rankMask 1 4 [(0, .ref r), (1, .int (rmask (xs.take k))), (2, .int (nI k))] [] h n1 0 0 (RT mm_X5_rankMask (fun v h' _ => v = some (.int (rmask xs)) ∧ h' = h)) := by
    intro j
    induction j using Nat.strongRecOn with
    | _ j ih =>
      intro k n1 hj hk
      refine J_iload_n dX5_rankMask_4 (by rfl) ?_
      refine J_aload_n dX5_rankMask_5 (by rfl) ?_
      refine J_get fg_X5_13 dX5_rankMask_6 (by first | assumption | exact isRow.ob (by assumption) | exact hset_s | exact (hset_n (by first | assumption | omega)).trans (by first | assumption | exact isRow.ob (by assumption) | exact hset_s | exact (hset_n (by first | assumption | omega)).trans (by first | assumption | exact isRow.ob (by assumption) | exact hset_s | exact (hset_n (by first | assumption | omega)).trans (by first | assumption | exact isRow.ob (by assumption))))) (by rfl) ?_
      refine J_icmp_ge (tgt := 31) dX5_rankMask_9 (by decide) (fun c9 => ?_) (fun c9 => ?_)
      · rw [nI_leI (by omega) (by omega)] at c9
        refine J_iload_n dX5_rankMask_31 (by rfl) ?_
        exact J_ireturn dX5_rankMask_32 rfl (by rfl) (⟨by rw [List.take_of_length_le (by omega)], rfl⟩)
      · rw [nI_leI (by omega) (by omega)] at c9
        refine J_iload_n dX5_rankMask_12 (by rfl) ?_
        refine J_iconst (v := 1) dX5_rankMask_13 (by decide) ?_
        refine J_aload_n dX5_rankMask_14 (by rfl) ?_
        refine J_iload_n dX5_rankMask_15 (by rfl) ?_
        refine J_callV mf_X5_at lk_X5_17 mi_X5_at mv_X5_at (sp_X5_at w (k := k) (by omega) n1) dX5_rankMask_16 (by first | assumption | exact isRow.ob (by assumption) | exact hset_s | exact (hset_n (by first | assumption | omega)).trans (by first | assumption | exact isRow.ob (by assumption) | exact hset_s | exact (hset_n (by first | assumption | omega)).trans (by first | assumption | exact isRow.ob (by assumption) | exact hset_s | exact (hset_n (by first | assumption | omega)).trans (by first | assumption | exact isRow.ob (by assumption))))) rfl rfl (by decide) (by rfl) rfl (Nat.le_of_ble_eq_true rfl) (Nat.zero_add _) (Nat.zero_add _) (fun v16 h16 n16 q16 => ?_)
        obtain ⟨rfl, rfl⟩ := q16
        refine J_callS mf_X9_rankOf lk_X5_40 ms_X9_rankOf (sp_X9_rankOf _ (xs.getD k 0) _) dX5_rankMask_19 (by decide) (by rfl) rfl (Nat.le_of_ble_eq_true rfl) (Nat.zero_add _) (Nat.zero_add _) (fun v19 h19 n19 q19 => ?_)
        obtain ⟨rfl, rfl⟩ := q19
        refine J_ishl dX5_rankMask_22 ?_
        refine J_ior dX5_rankMask_23 ?_
        refine J_istore_n dX5_rankMask_24 (by decide) (by rfl) ?_
        refine J_iincN dX5_rankMask_25 (by rfl) (by decide) (by rfl) ?_
        refine J_goto (tgt := 4) dX5_rankMask_28 (by decide) ?_
        exact J_sub (subl_cons rfl (subl_cons (by show some (Value.int _) = some (Value.int _); rw [rmask_take (by omega)]) (subl_cons rfl subl_nil))) (ih (xs.length - (k + 1)) (by omega) (k + 1) _ rfl (by omega))
  refine J_iconst (v := 0) dX5_rankMask_0 (by decide) ?_
  refine J_istore_n dX5_rankMask_1 (by decide) (by rfl) ?_
  refine J_iconst (v := 0) dX5_rankMask_2 (by decide) ?_
  refine J_istore_n dX5_rankMask_3 (by decide) (by rfl) ?_
  exact J_sub (by repeat (first | exact subl_nil | refine subl_cons rfl ?_)) (loop _ 0 n rfl (by omega))
def low (xs : List Int32) : Int32 := xs.foldl (fun l x => if l = 0 ∨ rk x < rk l then x else l) 0
def lowS (xs : List Int32) : Int32 := if low xs = 0 then 0 else sg (low xs)
theorem low_take {xs : List Int32} {k : Nat} (h : k < xs.length) : low (xs.take (k + 1)) = if low (xs.take k) = 0 ∨ rk (xs.getD k 0) < rk (low (xs.take k)) then xs.getD k 0 else low (xs.take k) := by
  rw [take_get h, low, List.foldl_append]; rfl
def rs0 (x y : Int32) : Int32 := if rk x = rk y then (if sg x = sg y then 3 else 0) else 2
def rs1 (x y : Int32) : Int32 := if rk x + rk y = 4 ∧ ¬ rk x = rk y then 0 else 2
def rs2 (x y z : Int32) : Int32 := if rk x = rk z ∧ (rk x - rk y = 1 ∨ rk x - rk y = -1) then (if sg x = sg z ∧ ¬ sg x = sg y then 3 else 0) else 2
set_option maxRecDepth 20000 in
theorem sp_X4_againstCancel {G : GG} (h : HP) (x y : Int32) (n : Nat) : Sp G mm_X4_againstCancel 1 0 0 [.int x, .int y] h n (fun v h' _ => v = some (.int (rs0 x y)) ∧ h' = h) := by
  refine Sp_of (by decide +kernel) (Nat.le_of_ble_eq_true rfl) ?_
  refine J_iload_n dX4_againstCancel_0 (by rfl) ?_
  refine J_callS mf_X9_rankOf lk_X4_25 ms_X9_rankOf (sp_X9_rankOf _ x _) dX4_againstCancel_1 (by decide) (by rfl) rfl (Nat.le_of_ble_eq_true rfl) (Nat.zero_add _) (Nat.zero_add _) (fun v1 h1 n1 q1 => ?_)
  obtain ⟨rfl, rfl⟩ := q1
  refine J_iload_n dX4_againstCancel_4 (by rfl) ?_
  refine J_callS mf_X9_rankOf lk_X4_25 ms_X9_rankOf (sp_X9_rankOf _ y _) dX4_againstCancel_5 (by decide) (by rfl) rfl (Nat.le_of_ble_eq_true rfl) (Nat.zero_add _) (Nat.zero_add _) (fun v5 h5 n5 q5 => ?_)
  obtain ⟨rfl, rfl⟩ := q5
  refine J_icmp_eq (tgt := 13) dX4_againstCancel_8 (by decide) (fun c8 => ?_) (fun c8 => ?_)
  · refine J_iload_n dX4_againstCancel_13 (by rfl) ?_
    refine J_callS mf_X9_signOf lk_X4_32 ms_X9_signOf (sp_X9_signOf _ x _) dX4_againstCancel_14 (by decide) (by rfl) rfl (Nat.le_of_ble_eq_true rfl) (Nat.zero_add _) (Nat.zero_add _) (fun v14 h14 n14 q14 => ?_)
    obtain ⟨rfl, rfl⟩ := q14
    refine J_iload_n dX4_againstCancel_17 (by rfl) ?_
    refine J_callS mf_X9_signOf lk_X4_32 ms_X9_signOf (sp_X9_signOf _ y _) dX4_againstCancel_18 (by decide) (by rfl) rfl (Nat.le_of_ble_eq_true rfl) (Nat.zero_add _) (Nat.zero_add _) (fun v18 h18 n18 q18 => ?_)
    obtain ⟨rfl, rfl⟩ := q18
    refine J_icmp_ne (tgt := 28) dX4_againstCancel_21 (by decide) (fun c21 => ?_) (fun c21 => ?_)
    · refine J_iconst (v := 0) dX4_againstCancel_28 (by decide) ?_
      exact J_ireturn dX4_againstCancel_29 rfl (by rfl) (⟨by rw [rs0, if_pos c8]; first | rw [if_pos c21] | rw [if_neg c21], rfl⟩)
    · refine J_iconst (v := 3) dX4_againstCancel_24 (by decide) ?_
      refine J_goto (tgt := 29) dX4_againstCancel_25 (by decide) ?_
      exact J_ireturn dX4_againstCancel_29 rfl (by rfl) (⟨by rw [rs0, if_pos c8]; first | rw [if_pos c21] | rw [if_neg c21], rfl⟩)
  · refine J_iconst (v := 2) dX4_againstCancel_11 (by decide) ?_
    exact J_ireturn dX4_againstCancel_12 rfl (by rfl) (⟨by rw [rs0, if_neg c8], rfl⟩)
set_option maxRecDepth 20000 in
theorem sp_X4_againstThree {G : GG} (h : HP) (x y z : Int32) (n : Nat) : Sp G mm_X4_againstThree 1 0 0 [.int x, .int y, .int z] h n (fun v h' _ => v = some (.int (rs2 x y z)) ∧ h' = h) := by
  refine Sp_of (by decide +kernel) (Nat.le_of_ble_eq_true rfl) ?_
  refine J_iload_n dX4_againstThree_0 (by rfl) ?_
  refine J_callS mf_X9_rankOf lk_X4_25 ms_X9_rankOf (sp_X9_rankOf _ x _) dX4_againstThree_1 (by decide) (by rfl) rfl (Nat.le_of_ble_eq_true rfl) (Nat.zero_add _) (Nat.zero_add _) (fun v1 h1 n1 q1 => ?_)
  obtain ⟨rfl, rfl⟩ := q1
  refine J_iload_n dX4_againstThree_4 (by rfl) ?_
  refine J_callS mf_X9_rankOf lk_X4_25 ms_X9_rankOf (sp_X9_rankOf _ y _) dX4_againstThree_5 (by decide) (by rfl) rfl (Nat.le_of_ble_eq_true rfl) (Nat.zero_add _) (Nat.zero_add _) (fun v5 h5 n5 q5 => ?_)
  obtain ⟨rfl, rfl⟩ := q5
  refine J_isub dX4_againstThree_8 ?_
  refine J_istore_n dX4_againstThree_9 (by decide) (by rfl) ?_
  refine J_iload_n dX4_againstThree_10 (by rfl) ?_
  refine J_callS mf_X9_rankOf lk_X4_25 ms_X9_rankOf (sp_X9_rankOf _ x _) dX4_againstThree_11 (by decide) (by rfl) rfl (Nat.le_of_ble_eq_true rfl) (Nat.zero_add _) (Nat.zero_add _) (fun v11 h11 n11 q11 => ?_)
  obtain ⟨rfl, rfl⟩ := q11
  refine J_iload_n dX4_againstThree_14 (by rfl) ?_
  refine J_callS mf_X9_rankOf lk_X4_25 ms_X9_rankOf (sp_X9_rankOf _ z _) dX4_againstThree_15 (by decide) (by rfl) rfl (Nat.le_of_ble_eq_true rfl) (Nat.zero_add _) (Nat.zero_add _) (fun v15 h15 n15 q15 => ?_)
  obtain ⟨rfl, rfl⟩ := q15
  refine J_icmp_ne (tgt := 31) dX4_againstThree_18 (by decide) (fun c18 => ?_) (fun c18 => ?_)
  · have bb : ¬ (rk x = rk z ∧ (rk x - rk y = 1 ∨ rk x - rk y = -1)) := by
      intro q
      first | exact c18 q.1 | exact q.2.elim c23 c28
    refine J_iconst (v := 2) dX4_againstThree_31 (by decide) ?_
    exact J_ireturn dX4_againstThree_32 rfl (by rfl) (⟨by rw [rs2, if_neg bb], rfl⟩)
  · refine J_iload_n dX4_againstThree_21 (by rfl) ?_
    refine J_iconst (v := 1) dX4_againstThree_22 (by decide) ?_
    refine J_icmp_eq (tgt := 33) dX4_againstThree_23 (by decide) (fun c23 => ?_) (fun c23 => ?_)
    · have cc : rk x = rk z ∧ (rk x - rk y = 1 ∨ rk x - rk y = -1) := ⟨c18, by first | exact Or.inl c23 | exact Or.inr c28⟩
      refine J_iload_n dX4_againstThree_33 (by rfl) ?_
      refine J_callS mf_X9_signOf lk_X4_32 ms_X9_signOf (sp_X9_signOf _ x _) dX4_againstThree_34 (by decide) (by rfl) rfl (Nat.le_of_ble_eq_true rfl) (Nat.zero_add _) (Nat.zero_add _) (fun v34 h34 n34 q34 => ?_)
      obtain ⟨rfl, rfl⟩ := q34
      refine J_iload_n dX4_againstThree_37 (by rfl) ?_
      refine J_callS mf_X9_signOf lk_X4_32 ms_X9_signOf (sp_X9_signOf _ z _) dX4_againstThree_38 (by decide) (by rfl) rfl (Nat.le_of_ble_eq_true rfl) (Nat.zero_add _) (Nat.zero_add _) (fun v38 h38 n38 q38 => ?_)
      obtain ⟨rfl, rfl⟩ := q38
      refine J_icmp_ne (tgt := 59) dX4_againstThree_41 (by decide) (fun c41 => ?_) (fun c41 => ?_)
      · have dd : ¬ (sg x = sg z ∧ ¬ sg x = sg y) := by
          intro q
          first | exact c41 q.1 | exact q.2 c52
        refine J_iconst (v := 0) dX4_againstThree_59 (by decide) ?_
        exact J_ireturn dX4_againstThree_60 rfl (by rfl) (⟨by rw [rs2, if_pos cc]; first | exact congrArg (fun a => some (Value.int a)) (if_pos dd).symm | exact congrArg (fun a => some (Value.int a)) (if_neg dd).symm, rfl⟩)
      · refine J_iload_n dX4_againstThree_44 (by rfl) ?_
        refine J_callS mf_X9_signOf lk_X4_32 ms_X9_signOf (sp_X9_signOf _ x _) dX4_againstThree_45 (by decide) (by rfl) rfl (Nat.le_of_ble_eq_true rfl) (Nat.zero_add _) (Nat.zero_add _) (fun v45 h45 n45 q45 => ?_)
        obtain ⟨rfl, rfl⟩ := q45
        refine J_iload_n dX4_againstThree_48 (by rfl) ?_
        refine J_callS mf_X9_signOf lk_X4_32 ms_X9_signOf (sp_X9_signOf _ y _) dX4_againstThree_49 (by decide) (by rfl) rfl (Nat.le_of_ble_eq_true rfl) (Nat.zero_add _) (Nat.zero_add _) (fun v49 h49 n49 q49 => ?_)
        obtain ⟨rfl, rfl⟩ := q49
        refine J_icmp_eq (tgt := 59) dX4_againstThree_52 (by decide) (fun c52 => ?_) (fun c52 => ?_)
        · have dd : ¬ (sg x = sg z ∧ ¬ sg x = sg y) := by
            intro q
            first | exact c41 q.1 | exact q.2 c52
          refine J_iconst (v := 0) dX4_againstThree_59 (by decide) ?_
          exact J_ireturn dX4_againstThree_60 rfl (by rfl) (⟨by rw [rs2, if_pos cc]; first | exact congrArg (fun a => some (Value.int a)) (if_pos dd).symm | exact congrArg (fun a => some (Value.int a)) (if_neg dd).symm, rfl⟩)
        · have dd : sg x = sg z ∧ ¬ sg x = sg y := ⟨c41, c52⟩
          refine J_iconst (v := 3) dX4_againstThree_55 (by decide) ?_
          refine J_goto (tgt := 60) dX4_againstThree_56 (by decide) ?_
          exact J_ireturn dX4_againstThree_60 rfl (by rfl) (⟨by rw [rs2, if_pos cc]; first | exact congrArg (fun a => some (Value.int a)) (if_pos dd).symm | exact congrArg (fun a => some (Value.int a)) (if_neg dd).symm, rfl⟩)
    · refine J_iload_n dX4_againstThree_26 (by rfl) ?_
      refine J_iconst (v := (-1)) dX4_againstThree_27 (by decide) ?_
      refine J_icmp_eq (tgt := 33) dX4_againstThree_28 (by decide) (fun c28 => ?_) (fun c28 => ?_)
      · have cc : rk x = rk z ∧ (rk x - rk y = 1 ∨ rk x - rk y = -1) := ⟨c18, by first | exact Or.inl c23 | exact Or.inr c28⟩
        refine J_iload_n dX4_againstThree_33 (by rfl) ?_
        refine J_callS mf_X9_signOf lk_X4_32 ms_X9_signOf (sp_X9_signOf _ x _) dX4_againstThree_34 (by decide) (by rfl) rfl (Nat.le_of_ble_eq_true rfl) (Nat.zero_add _) (Nat.zero_add _) (fun v34 h34 n34 q34 => ?_)
        obtain ⟨rfl, rfl⟩ := q34
        refine J_iload_n dX4_againstThree_37 (by rfl) ?_
        refine J_callS mf_X9_signOf lk_X4_32 ms_X9_signOf (sp_X9_signOf _ z _) dX4_againstThree_38 (by decide) (by rfl) rfl (Nat.le_of_ble_eq_true rfl) (Nat.zero_add _) (Nat.zero_add _) (fun v38 h38 n38 q38 => ?_)
        obtain ⟨rfl, rfl⟩ := q38
        refine J_icmp_ne (tgt := 59) dX4_againstThree_41 (by decide) (fun c41 => ?_) (fun c41 => ?_)
        · have dd : ¬ (sg x = sg z ∧ ¬ sg x = sg y) := by
            intro q
            first | exact c41 q.1 | exact q.2 c52
          refine J_iconst (v := 0) dX4_againstThree_59 (by decide) ?_
          exact J_ireturn dX4_againstThree_60 rfl (by rfl) (⟨by rw [rs2, if_pos cc]; first | exact congrArg (fun a => some (Value.int a)) (if_pos dd).symm | exact congrArg (fun a => some (Value.int a)) (if_neg dd).symm, rfl⟩)
        · refine J_iload_n dX4_againstThree_44 (by rfl) ?_
          refine J_callS mf_X9_signOf lk_X4_32 ms_X9_signOf (sp_X9_signOf _ x _) dX4_againstThree_45 (by decide) (by rfl) rfl (Nat.le_of_ble_eq_true rfl) (Nat.zero_add _) (Nat.zero_add _) (fun v45 h45 n45 q45 => ?_)
          obtain ⟨rfl, rfl⟩ := q45
          refine J_iload_n dX4_againstThree_48 (by rfl) ?_
          refine J_callS mf_X9_signOf lk_X4_32 ms_X9_signOf (sp_X9_signOf _ y _) dX4_againstThree_49 (by decide) (by rfl) rfl (Nat.le_of_ble_eq_true rfl) (Nat.zero_add _) (Nat.zero_add _) (fun v49 h49 n49 q49 => ?_)
          obtain ⟨rfl, rfl⟩ := q49
          refine J_icmp_eq (tgt := 59) dX4_againstThree_52 (by decide) (fun c52 => ?_) (fun c52 => ?_)
          · have dd : ¬ (sg x = sg z ∧ ¬ sg x = sg y) := by
              intro q
              first | exact c41 q.1 | exact q.2 c52
            refine J_iconst (v := 0) dX4_againstThree_59 (by decide) ?_
            exact J_ireturn dX4_againstThree_60 rfl (by rfl) (⟨by rw [rs2, if_pos cc]; first | exact congrArg (fun a => some (Value.int a)) (if_pos dd).symm | exact congrArg (fun a => some (Value.int a)) (if_neg dd).symm, rfl⟩)
          · have dd : sg x = sg z ∧ ¬ sg x = sg y := ⟨c41, c52⟩
            refine J_iconst (v := 3) dX4_againstThree_55 (by decide) ?_
            refine J_goto (tgt := 60) dX4_againstThree_56 (by decide) ?_
            exact J_ireturn dX4_againstThree_60 rfl (by rfl) (⟨by rw [rs2, if_pos cc]; first | exact congrArg (fun a => some (Value.int a)) (if_pos dd).symm | exact congrArg (fun a => some (Value.int a)) (if_neg dd).symm, rfl⟩)
      · have bb : ¬ (rk x = rk z ∧ (rk x - rk y = 1 ∨ rk x - rk y = -1)) := by
          intro q
          first | exact c18 q.1 | exact q.2.elim c23 c28
        refine J_iconst (v := 2) dX4_againstThree_31 (by decide) ?_
        exact J_ireturn dX4_againstThree_32 rfl (by rfl) (⟨by rw [rs2, if_neg bb], rfl⟩)
theorem le_sub {k a c : Nat} (hk : k < 2 ^ 31) (ha : a < 2 ^ 30) (hc : c < 2 ^ 30) : nI k ≤ nI a - nI c ↔ k + c ≤ a := by
  rw [Int32.le_iff_toInt_le, nI_toInt hk, pk_sub_toInt ha hc]
  omega
def rsn (xs : List Int32) (m k : Nat) : Int32 := if xs.length < k + (if m = 2 then 3 else 2) then 1 else if m = 0 then rs0 (xs.getD k 0) (xs.getD (k + 1) 0) else if m = 1 then rs1 (xs.getD k 0) (xs.getD (k + 1) 0) else rs2 (xs.getD k 0) (xs.getD (k + 1) 0) (xs.getD (k + 2) 0)
set_option maxRecDepth 20000 in
theorem sp_X4_reasonAgainst {G : GG} {h : HP} {r cap : Nat} {xs : List Int32} (w : isRow G h r cap xs) {m k : Nat} (hm : m < 3) (hk : k < 2 ^ 31) (n : Nat) : Sp G mm_X4_reasonAgainst 2 0 0 [.ref r, .int (nI m), .int (nI k)] h n (fun v h' _ => v = some (.int (rsn xs m k)) ∧ h' = h) := by
  refine Sp_of (by decide +kernel) (Nat.le_of_ble_eq_true rfl) ?_
  have hle := w.le
  obtain ⟨f, h1, h2, h3, h4, h5⟩ := id w
  rcases (show m = 0 ∨ m = 1 ∨ m = 2 by omega) with rfl | rfl | rfl
  · refine J_iload_n dX4_reasonAgainst_0 (by rfl) ?_
    refine J_iconst (v := 2) dX4_reasonAgainst_1 (by decide) ?_
    refine J_icmp_ne (tgt := 9) dX4_reasonAgainst_2 (by decide) (fun c2 => ?_) (fun c2 => ?_)
    · refine J_iconst (v := nI 2) dX4_reasonAgainst_9 (by decide) ?_
      refine J_istore_n dX4_reasonAgainst_10 (by decide) (by rfl) ?_
      refine J_iload_n dX4_reasonAgainst_11 (by rfl) ?_
      refine J_aload_n dX4_reasonAgainst_12 (by rfl) ?_
      refine J_get fg_X4_9 dX4_reasonAgainst_13 (by first | assumption | exact isRow.ob (by assumption) | exact hset_s | exact (hset_n (by first | assumption | omega)).trans (by first | assumption | exact isRow.ob (by assumption) | exact hset_s | exact (hset_n (by first | assumption | omega)).trans (by first | assumption | exact isRow.ob (by assumption) | exact hset_s | exact (hset_n (by first | assumption | omega)).trans (by first | assumption | exact isRow.ob (by assumption))))) (by rfl) ?_
      refine J_iload_n dX4_reasonAgainst_16 (by rfl) ?_
      refine J_isub dX4_reasonAgainst_17 ?_

      refine J_icmp_le (tgt := 23) dX4_reasonAgainst_18 (by decide) (fun c18 => ?_) (fun c18 => ?_)
      · rw [le_sub hk (by omega) (by omega)] at c18
        refine J_aload_n dX4_reasonAgainst_23 (by rfl) ?_
        refine J_iload_n dX4_reasonAgainst_24 (by rfl) ?_
        refine J_callV mf_X5_at lk_X4_15 mi_X5_at mv_X5_at (sp_X5_at w (k := k) (by omega) _) dX4_reasonAgainst_25 (by first | assumption | exact isRow.ob (by assumption) | exact hset_s | exact (hset_n (by first | assumption | omega)).trans (by first | assumption | exact isRow.ob (by assumption) | exact hset_s | exact (hset_n (by first | assumption | omega)).trans (by first | assumption | exact isRow.ob (by assumption) | exact hset_s | exact (hset_n (by first | assumption | omega)).trans (by first | assumption | exact isRow.ob (by assumption))))) rfl rfl (by decide) (by rfl) rfl (Nat.le_of_ble_eq_true rfl) (Nat.zero_add _) (Nat.zero_add _) (fun v25 h25 n25 q25 => ?_)
        obtain ⟨rfl, rfl⟩ := q25
        refine J_istore dX4_reasonAgainst_28 (by decide) (by rfl) ?_
        have hk1 : k + 1 < 2 ^ 31 := by omega
        refine J_aload_n dX4_reasonAgainst_30 (by rfl) ?_
        refine J_iload_n dX4_reasonAgainst_31 (by rfl) ?_
        refine J_iconst (v := 1) dX4_reasonAgainst_32 (by decide) ?_
        refine J_iadd dX4_reasonAgainst_33 ?_
        rw [show nI k + 1 = nI (k + 1) from nI_1 k]
        refine J_callV mf_X5_at lk_X4_15 mi_X5_at mv_X5_at (sp_X5_at w (k := k + 1) (by omega) _) dX4_reasonAgainst_34 (by first | assumption | exact isRow.ob (by assumption) | exact hset_s | exact (hset_n (by first | assumption | omega)).trans (by first | assumption | exact isRow.ob (by assumption) | exact hset_s | exact (hset_n (by first | assumption | omega)).trans (by first | assumption | exact isRow.ob (by assumption) | exact hset_s | exact (hset_n (by first | assumption | omega)).trans (by first | assumption | exact isRow.ob (by assumption))))) rfl rfl (by decide) (by rfl) rfl (Nat.le_of_ble_eq_true rfl) (Nat.zero_add _) (Nat.zero_add _) (fun v34 h34 n34 q34 => ?_)
        obtain ⟨rfl, rfl⟩ := q34
        refine J_istore dX4_reasonAgainst_37 (by decide) (by rfl) ?_
        refine J_iload_n dX4_reasonAgainst_39 (by rfl) ?_
        refine J_lookup (off := 28) (tgt := 68) dX4_reasonAgainst_40 (by decide) (by decide) (by decide) ?_
        refine J_iload dX4_reasonAgainst_68 (by rfl) ?_
        refine J_iload dX4_reasonAgainst_70 (by rfl) ?_
        refine J_callS mf_X4_againstCancel lk_X4_19 ms_X4_againstCancel (sp_X4_againstCancel _ (xs.getD k 0) (xs.getD (k + 1) 0) _) dX4_reasonAgainst_72 (by decide) (by rfl) rfl (Nat.le_of_ble_eq_true rfl) (Nat.zero_add _) (Nat.zero_add _) (fun v72 h72 n72 q72 => ?_)
        obtain ⟨rfl, rfl⟩ := q72
        exact J_ireturn dX4_reasonAgainst_75 rfl (by rfl) (⟨by rw [rsn, if_neg (by simp; omega)]; rfl, rfl⟩)
      · rw [le_sub hk (by omega) (by omega)] at c18
        refine J_iconst (v := 1) dX4_reasonAgainst_21 (by decide) ?_
        exact J_ireturn dX4_reasonAgainst_22 rfl (by rfl) (⟨by rw [rsn, if_pos (by simp; omega)], rfl⟩)
    · exact absurd c2 (by decide)
  · refine J_iload_n dX4_reasonAgainst_0 (by rfl) ?_
    refine J_iconst (v := 2) dX4_reasonAgainst_1 (by decide) ?_
    refine J_icmp_ne (tgt := 9) dX4_reasonAgainst_2 (by decide) (fun c2 => ?_) (fun c2 => ?_)
    · refine J_iconst (v := nI 2) dX4_reasonAgainst_9 (by decide) ?_
      refine J_istore_n dX4_reasonAgainst_10 (by decide) (by rfl) ?_
      refine J_iload_n dX4_reasonAgainst_11 (by rfl) ?_
      refine J_aload_n dX4_reasonAgainst_12 (by rfl) ?_
      refine J_get fg_X4_9 dX4_reasonAgainst_13 (by first | assumption | exact isRow.ob (by assumption) | exact hset_s | exact (hset_n (by first | assumption | omega)).trans (by first | assumption | exact isRow.ob (by assumption) | exact hset_s | exact (hset_n (by first | assumption | omega)).trans (by first | assumption | exact isRow.ob (by assumption) | exact hset_s | exact (hset_n (by first | assumption | omega)).trans (by first | assumption | exact isRow.ob (by assumption))))) (by rfl) ?_
      refine J_iload_n dX4_reasonAgainst_16 (by rfl) ?_
      refine J_isub dX4_reasonAgainst_17 ?_
      refine J_icmp_le (tgt := 23) dX4_reasonAgainst_18 (by decide) (fun c18 => ?_) (fun c18 => ?_)
      · rw [le_sub hk (by omega) (by omega)] at c18
        refine J_aload_n dX4_reasonAgainst_23 (by rfl) ?_
        refine J_iload_n dX4_reasonAgainst_24 (by rfl) ?_
        refine J_callV mf_X5_at lk_X4_15 mi_X5_at mv_X5_at (sp_X5_at w (k := k) (by omega) _) dX4_reasonAgainst_25 (by first | assumption | exact isRow.ob (by assumption) | exact hset_s | exact (hset_n (by first | assumption | omega)).trans (by first | assumption | exact isRow.ob (by assumption) | exact hset_s | exact (hset_n (by first | assumption | omega)).trans (by first | assumption | exact isRow.ob (by assumption) | exact hset_s | exact (hset_n (by first | assumption | omega)).trans (by first | assumption | exact isRow.ob (by assumption))))) rfl rfl (by decide) (by rfl) rfl (Nat.le_of_ble_eq_true rfl) (Nat.zero_add _) (Nat.zero_add _) (fun v25 h25 n25 q25 => ?_)
        obtain ⟨rfl, rfl⟩ := q25
        refine J_istore dX4_reasonAgainst_28 (by decide) (by rfl) ?_
        have hk1 : k + 1 < 2 ^ 31 := by omega
        refine J_aload_n dX4_reasonAgainst_30 (by rfl) ?_
        refine J_iload_n dX4_reasonAgainst_31 (by rfl) ?_
        refine J_iconst (v := 1) dX4_reasonAgainst_32 (by decide) ?_
        refine J_iadd dX4_reasonAgainst_33 ?_
        rw [show nI k + 1 = nI (k + 1) from nI_1 k]
        refine J_callV mf_X5_at lk_X4_15 mi_X5_at mv_X5_at (sp_X5_at w (k := k + 1) (by omega) _) dX4_reasonAgainst_34 (by first | assumption | exact isRow.ob (by assumption) | exact hset_s | exact (hset_n (by first | assumption | omega)).trans (by first | assumption | exact isRow.ob (by assumption) | exact hset_s | exact (hset_n (by first | assumption | omega)).trans (by first | assumption | exact isRow.ob (by assumption) | exact hset_s | exact (hset_n (by first | assumption | omega)).trans (by first | assumption | exact isRow.ob (by assumption))))) rfl rfl (by decide) (by rfl) rfl (Nat.le_of_ble_eq_true rfl) (Nat.zero_add _) (Nat.zero_add _) (fun v34 h34 n34 q34 => ?_)
        obtain ⟨rfl, rfl⟩ := q34
        refine J_istore dX4_reasonAgainst_37 (by decide) (by rfl) ?_
        refine J_iload_n dX4_reasonAgainst_39 (by rfl) ?_
        refine J_lookup (off := 36) (tgt := 76) dX4_reasonAgainst_40 (by decide) (by decide) (by decide) ?_
        refine J_iload dX4_reasonAgainst_76 (by rfl) ?_
        refine J_callS mf_X9_rankOf lk_X4_25 ms_X9_rankOf (sp_X9_rankOf _ (xs.getD k 0) _) dX4_reasonAgainst_78 (by decide) (by rfl) rfl (Nat.le_of_ble_eq_true rfl) (Nat.zero_add _) (Nat.zero_add _) (fun v78 h78 n78 q78 => ?_)
        obtain ⟨rfl, rfl⟩ := q78
        refine J_iload dX4_reasonAgainst_81 (by rfl) ?_
        refine J_callS mf_X9_rankOf lk_X4_25 ms_X9_rankOf (sp_X9_rankOf _ (xs.getD (k + 1) 0) _) dX4_reasonAgainst_83 (by decide) (by rfl) rfl (Nat.le_of_ble_eq_true rfl) (Nat.zero_add _) (Nat.zero_add _) (fun v83 h83 n83 q83 => ?_)
        obtain ⟨rfl, rfl⟩ := q83
        refine J_iadd dX4_reasonAgainst_86 ?_
        refine J_iconst (v := 4) dX4_reasonAgainst_87 (by decide) ?_
        refine J_icmp_ne (tgt := 108) dX4_reasonAgainst_88 (by decide) (fun c88 => ?_) (fun c88 => ?_)
        · have dd : ¬ (rk (xs.getD k 0) + rk (xs.getD (k + 1) 0) = 4 ∧ ¬ rk (xs.getD k 0) = rk (xs.getD (k + 1) 0)) := by
            intro q
            first | exact c88 q.1 | exact q.2 c101
          refine J_iconst (v := 2) dX4_reasonAgainst_108 (by decide) ?_
          exact J_ireturn dX4_reasonAgainst_109 rfl (by rfl) (⟨by rw [rsn, if_neg (by simp; omega), if_neg (by decide), if_pos rfl]; exact congrArg (fun a => some (Value.int a)) (by rw [rs1]; first | exact (if_pos dd).symm | exact (if_neg dd).symm), rfl⟩)
        · refine J_iload dX4_reasonAgainst_91 (by rfl) ?_
          refine J_callS mf_X9_rankOf lk_X4_25 ms_X9_rankOf (sp_X9_rankOf _ (xs.getD k 0) _) dX4_reasonAgainst_93 (by decide) (by rfl) rfl (Nat.le_of_ble_eq_true rfl) (Nat.zero_add _) (Nat.zero_add _) (fun v93 h93 n93 q93 => ?_)
          obtain ⟨rfl, rfl⟩ := q93
          refine J_iload dX4_reasonAgainst_96 (by rfl) ?_
          refine J_callS mf_X9_rankOf lk_X4_25 ms_X9_rankOf (sp_X9_rankOf _ (xs.getD (k + 1) 0) _) dX4_reasonAgainst_98 (by decide) (by rfl) rfl (Nat.le_of_ble_eq_true rfl) (Nat.zero_add _) (Nat.zero_add _) (fun v98 h98 n98 q98 => ?_)
          obtain ⟨rfl, rfl⟩ := q98
          refine J_icmp_eq (tgt := 108) dX4_reasonAgainst_101 (by decide) (fun c101 => ?_) (fun c101 => ?_)
          · have dd : ¬ (rk (xs.getD k 0) + rk (xs.getD (k + 1) 0) = 4 ∧ ¬ rk (xs.getD k 0) = rk (xs.getD (k + 1) 0)) := by
              intro q
              first | exact c88 q.1 | exact q.2 c101
            refine J_iconst (v := 2) dX4_reasonAgainst_108 (by decide) ?_
            exact J_ireturn dX4_reasonAgainst_109 rfl (by rfl) (⟨by rw [rsn, if_neg (by simp; omega), if_neg (by decide), if_pos rfl]; exact congrArg (fun a => some (Value.int a)) (by rw [rs1]; first | exact (if_pos dd).symm | exact (if_neg dd).symm), rfl⟩)
          · have dd : rk (xs.getD k 0) + rk (xs.getD (k + 1) 0) = 4 ∧ ¬ rk (xs.getD k 0) = rk (xs.getD (k + 1) 0) := ⟨c88, c101⟩
            refine J_iconst (v := 0) dX4_reasonAgainst_104 (by decide) ?_
            refine J_goto (tgt := 109) dX4_reasonAgainst_105 (by decide) ?_
            exact J_ireturn dX4_reasonAgainst_109 rfl (by rfl) (⟨by rw [rsn, if_neg (by simp; omega), if_neg (by decide), if_pos rfl]; exact congrArg (fun a => some (Value.int a)) (by rw [rs1]; first | exact (if_pos dd).symm | exact (if_neg dd).symm), rfl⟩)
      · rw [le_sub hk (by omega) (by omega)] at c18
        refine J_iconst (v := 1) dX4_reasonAgainst_21 (by decide) ?_
        exact J_ireturn dX4_reasonAgainst_22 rfl (by rfl) (⟨by rw [rsn, if_pos (by simp; omega)], rfl⟩)
    · exact absurd c2 (by decide)
  · refine J_iload_n dX4_reasonAgainst_0 (by rfl) ?_
    refine J_iconst (v := 2) dX4_reasonAgainst_1 (by decide) ?_
    refine J_icmp_ne (tgt := 9) dX4_reasonAgainst_2 (by decide) (fun c2 => ?_) (fun c2 => ?_)
    · exact absurd (by decide) c2
    · refine J_iconst (v := nI 3) dX4_reasonAgainst_5 (by decide) ?_
      refine J_goto (tgt := 10) dX4_reasonAgainst_6 (by decide) ?_
      refine J_istore_n dX4_reasonAgainst_10 (by decide) (by rfl) ?_
      refine J_iload_n dX4_reasonAgainst_11 (by rfl) ?_
      refine J_aload_n dX4_reasonAgainst_12 (by rfl) ?_
      refine J_get fg_X4_9 dX4_reasonAgainst_13 (by first | assumption | exact isRow.ob (by assumption) | exact hset_s | exact (hset_n (by first | assumption | omega)).trans (by first | assumption | exact isRow.ob (by assumption) | exact hset_s | exact (hset_n (by first | assumption | omega)).trans (by first | assumption | exact isRow.ob (by assumption) | exact hset_s | exact (hset_n (by first | assumption | omega)).trans (by first | assumption | exact isRow.ob (by assumption))))) (by rfl) ?_
      refine J_iload_n dX4_reasonAgainst_16 (by rfl) ?_
      refine J_isub dX4_reasonAgainst_17 ?_
      refine J_icmp_le (tgt := 23) dX4_reasonAgainst_18 (by decide) (fun c18 => ?_) (fun c18 => ?_)
      · rw [le_sub hk (by omega) (by omega)] at c18
        refine J_aload_n dX4_reasonAgainst_23 (by rfl) ?_
        refine J_iload_n dX4_reasonAgainst_24 (by rfl) ?_
        refine J_callV mf_X5_at lk_X4_15 mi_X5_at mv_X5_at (sp_X5_at w (k := k) (by omega) _) dX4_reasonAgainst_25 (by first | assumption | exact isRow.ob (by assumption) | exact hset_s | exact (hset_n (by first | assumption | omega)).trans (by first | assumption | exact isRow.ob (by assumption) | exact hset_s | exact (hset_n (by first | assumption | omega)).trans (by first | assumption | exact isRow.ob (by assumption) | exact hset_s | exact (hset_n (by first | assumption | omega)).trans (by first | assumption | exact isRow.ob (by assumption))))) rfl rfl (by decide) (by rfl) rfl (Nat.le_of_ble_eq_true rfl) (Nat.zero_add _) (Nat.zero_add _) (fun v25 h25 n25 q25 => ?_)
        obtain ⟨rfl, rfl⟩ := q25
        refine J_istore dX4_reasonAgainst_28 (by decide) (by rfl) ?_
        have hk1 : k + 1 < 2 ^ 31 := by omega
        refine J_aload_n dX4_reasonAgainst_30 (by rfl) ?_
        refine J_iload_n dX4_reasonAgainst_31 (by rfl) ?_
        refine J_iconst (v := 1) dX4_reasonAgainst_32 (by decide) ?_
        refine J_iadd dX4_reasonAgainst_33 ?_
        rw [show nI k + 1 = nI (k + 1) from nI_1 k]
        refine J_callV mf_X5_at lk_X4_15 mi_X5_at mv_X5_at (sp_X5_at w (k := k + 1) (by omega) _) dX4_reasonAgainst_34 (by first | assumption | exact isRow.ob (by assumption) | exact hset_s | exact (hset_n (by first | assumption | omega)).trans (by first | assumption | exact isRow.ob (by assumption) | exact hset_s | exact (hset_n (by first | assumption | omega)).trans (by first | assumption | exact isRow.ob (by assumption) | exact hset_s | exact (hset_n (by first | assumption | omega)).trans (by first | assumption | exact isRow.ob (by assumption))))) rfl rfl (by decide) (by rfl) rfl (Nat.le_of_ble_eq_true rfl) (Nat.zero_add _) (Nat.zero_add _) (fun v34 h34 n34 q34 => ?_)
        obtain ⟨rfl, rfl⟩ := q34
        refine J_istore dX4_reasonAgainst_37 (by decide) (by rfl) ?_
        refine J_iload_n dX4_reasonAgainst_39 (by rfl) ?_
        refine J_lookup (off := 70) (tgt := 110) dX4_reasonAgainst_40 (by decide) (by decide) (by decide) ?_
        refine J_iload dX4_reasonAgainst_110 (by rfl) ?_
        refine J_iload dX4_reasonAgainst_112 (by rfl) ?_
        refine J_aload_n dX4_reasonAgainst_114 (by rfl) ?_
        refine J_iload_n dX4_reasonAgainst_115 (by rfl) ?_
        refine J_iconst (v := 2) dX4_reasonAgainst_116 (by decide) ?_
        refine J_iadd dX4_reasonAgainst_117 ?_
        rw [show nI k + 2 = nI (k + 2) from nI_add k 2]
        refine J_callV mf_X5_at lk_X4_15 mi_X5_at mv_X5_at (sp_X5_at w (k := k + 2) (by omega) _) dX4_reasonAgainst_118 (by first | assumption | exact isRow.ob (by assumption) | exact hset_s | exact (hset_n (by first | assumption | omega)).trans (by first | assumption | exact isRow.ob (by assumption) | exact hset_s | exact (hset_n (by first | assumption | omega)).trans (by first | assumption | exact isRow.ob (by assumption) | exact hset_s | exact (hset_n (by first | assumption | omega)).trans (by first | assumption | exact isRow.ob (by assumption))))) rfl rfl (by decide) (by rfl) rfl (Nat.le_of_ble_eq_true rfl) (Nat.zero_add _) (Nat.zero_add _) (fun v118 h118 n118 q118 => ?_)
        obtain ⟨rfl, rfl⟩ := q118
        refine J_callS mf_X4_againstThree lk_X4_28 ms_X4_againstThree (sp_X4_againstThree _ (xs.getD k 0) (xs.getD (k + 1) 0) (xs.getD (k + 2) 0) _) dX4_reasonAgainst_121 (by decide) (by rfl) rfl (Nat.le_of_ble_eq_true rfl) (Nat.zero_add _) (Nat.zero_add _) (fun v121 h121 n121 q121 => ?_)
        obtain ⟨rfl, rfl⟩ := q121
        exact J_ireturn dX4_reasonAgainst_124 rfl (by rfl) (⟨by rw [rsn, if_neg (by simp; omega)]; rfl, rfl⟩)
      · rw [le_sub hk (by omega) (by omega)] at c18
        refine J_iconst (v := 1) dX4_reasonAgainst_21 (by decide) ?_
        exact J_ireturn dX4_reasonAgainst_22 rfl (by rfl) (⟨by rw [rsn, if_pos (by simp; omega)], rfl⟩)
def plc (xs : List Int32) (m : Nat) : Nat := ((List.range xs.length).filter (fun k => decide (rsn xs m k = 0))).length
def plcT (xs : List Int32) (m k : Nat) : Nat := ((List.range k).filter (fun k => decide (rsn xs m k = 0))).length
theorem plcT_s (xs : List Int32) (m k : Nat) : plcT xs m (k + 1) = plcT xs m k + if rsn xs m k = 0 then 1 else 0 := by
  unfold plcT
  rw [List.range_succ, List.filter_append, List.length_append]
  congr 1
  by_cases e : rsn xs m k = 0
  · have e2 : decide (rsn xs m k = 0) = true := decide_eq_true e
    rw [if_pos e]
    simp only [List.filter_cons, e2, if_true, List.filter_nil, List.length_cons, List.length_nil]
  · have e2 : decide (rsn xs m k = 0) = false := decide_eq_false e
    rw [if_neg e]
    simp only [List.filter_cons, e2, Bool.false_eq_true, if_false, List.filter_nil, List.length_nil]
theorem plcT_le (xs : List Int32) (m k : Nat) : plcT xs m k ≤ k := by
  have := List.length_filter_le (fun k => decide (rsn xs m k = 0)) (List.range k)
  rwa [List.length_range] at this
set_option maxRecDepth 20000 in
theorem sp_X4_placesFor {G : GG} {h : HP} {r cap : Nat} {xs : List Int32} (w : isRow G h r cap xs) {m : Nat} (hm : m < 3) (n : Nat) : Sp G mm_X4_placesFor 3 0 0 [.ref r, .int (nI m)] h n (fun v h' _ => v = some (.int (nI (plc xs m))) ∧ h' = h) := by
  refine Sp_of (by decide +kernel) (Nat.le_of_ble_eq_true rfl) ?_
  have hle := w.le
  obtain ⟨f, h1, h2, h3, h4, h5⟩ := id w
  have loop : ∀ (j k n1 : Nat), xs.length - k = j → k ≤ xs.length → J (g0 G) mm_X4_placesFor 3 4 [(0, .ref r), (1, .int (nI m)), (2, .int (nI (plcT xs m k))), (3, .int (nI k))] [] h n1 0 0 (RT mm_X4_placesFor (fun v h' _ => v = some (.int (nI (plc xs m))) ∧ h' = h)) := by
    intro j
    induction j using Nat.strongRecOn with
    | _ j ih =>
      intro k n1 hj hk
      refine J_iload_n dX4_placesFor_4 (by rfl) ?_
      refine J_aload_n dX4_placesFor_5 (by rfl) ?_
      refine J_get fg_X4_9 dX4_placesFor_6 (by first | assumption | exact isRow.ob (by assumption) | exact hset_s | exact (hset_n (by first | assumption | omega)).trans (by first | assumption | exact isRow.ob (by assumption) | exact hset_s | exact (hset_n (by first | assumption | omega)).trans (by first | assumption | exact isRow.ob (by assumption) | exact hset_s | exact (hset_n (by first | assumption | omega)).trans (by first | assumption | exact isRow.ob (by assumption))))) (by rfl) ?_
      refine J_icmp_ge (tgt := 30) dX4_placesFor_9 (by decide) (fun c9 => ?_) (fun c9 => ?_)
      · rw [nI_leI (by omega) (by omega)] at c9
        refine J_iload_n dX4_placesFor_30 (by rfl) ?_
        exact J_ireturn dX4_placesFor_31 rfl (by rfl) (⟨by rw [plc, show k = xs.length by omega]; rfl, rfl⟩)
      · rw [nI_leI (by omega) (by omega)] at c9
        refine J_aload_n dX4_placesFor_12 (by rfl) ?_
        refine J_iload_n dX4_placesFor_13 (by rfl) ?_
        refine J_iload_n dX4_placesFor_14 (by rfl) ?_
        refine J_callS mf_X4_reasonAgainst lk_X4_43 ms_X4_reasonAgainst (sp_X4_reasonAgainst w (k := k) hm (by omega) _) dX4_placesFor_15 (by decide) (by rfl) rfl (Nat.le_of_ble_eq_true rfl) (Nat.zero_add _) (Nat.zero_add _) (fun v15 h15 n15 q15 => ?_)
        obtain ⟨rfl, rfl⟩ := q15
        refine J_if_ne (tgt := 24) dX4_placesFor_18 (by decide) (fun c18 => ?_) (fun c18 => ?_)
        · refine J_iincN dX4_placesFor_24 (by rfl) (by decide) (by rfl) ?_
          refine J_goto (tgt := 4) dX4_placesFor_27 (by decide) ?_
          exact J_sub (subl_cons rfl (subl_cons rfl (subl_cons (by show some (Value.int _) = some (Value.int _); rw [plcT_s]; first | (rw [if_neg c18]; rfl) | rw [if_pos c18]) (subl_cons rfl subl_nil)))) (ih (xs.length - (k + 1)) (by omega) (k + 1) _ rfl (by omega))
        · refine J_iincN dX4_placesFor_21 (by rfl) (by decide) (by rfl) ?_
          refine J_iincN dX4_placesFor_24 (by rfl) (by decide) (by rfl) ?_
          refine J_goto (tgt := 4) dX4_placesFor_27 (by decide) ?_
          exact J_sub (subl_cons rfl (subl_cons rfl (subl_cons (by show some (Value.int _) = some (Value.int _); rw [plcT_s]; first | (rw [if_neg c18]; rfl) | rw [if_pos c18]) (subl_cons rfl subl_nil)))) (ih (xs.length - (k + 1)) (by omega) (k + 1) _ rfl (by omega))
  refine J_iconst (v := 0) dX4_placesFor_0 (by decide) ?_
  refine J_istore_n dX4_placesFor_1 (by decide) (by rfl) ?_
  refine J_iconst (v := 0) dX4_placesFor_2 (by decide) ?_
  refine J_istore_n dX4_placesFor_3 (by decide) (by rfl) ?_
  exact J_sub (by repeat (first | exact subl_nil | refine subl_cons rfl ?_)) (loop _ 0 n rfl (by omega))
