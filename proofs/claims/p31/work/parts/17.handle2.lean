/-! handles: how long without, what comes of it -/
/-- how many crossings there are when the handle p, q is undone -/
def cntT (xs : List Int32) (p : Nat) : Nat → Nat
  | 0 => 0
  | c + 1 => cntT xs p c + if rk (xs.getD (p + 1 + c) 0) = rk (xs.getD p 0) + 1 then 1 else 0
theorem cntT_le (xs : List Int32) (p c : Nat) : cntT xs p c ≤ c := by
  induction c with
  | zero => exact Nat.le_refl _
  | succ c ih => unfold cntT; split <;> omega
def lwo (xs : List Int32) (p q : Nat) : Nat := xs.length - 2 + 2 * cntT xs p (q - (p + 1))
set_option maxRecDepth 20000 in
theorem sp_X0_lengthWithout {G : GG} {h : HP} {a r cap p q : Nat} {xs : List Int32} (v : isHnd G h a (nI p) (nI q)) (w : isRow G h r cap xs) (hpq : p < q) (hq : q < xs.length) (n : Nat) : Sp G mm_X0_lengthWithout 1 0 0 [.ref a, .ref r] h n (fun v h' _ => v = some (.int (nI (lwo xs p q))) ∧ h' = h) := by
  refine Sp_of (by decide +kernel) (Nat.le_of_ble_eq_true rfl) ?_
  have hle := w.le
  obtain ⟨g1, fl, g2⟩ := id v
  obtain ⟨f, h1, h2, h3, h4, h5⟩ := id w
  have loop : ∀ (j c n1 : Nat), q - (p + 1) - c = j → p + 1 + c ≤ q → J (g0 G) mm_X0_lengthWithout 1 29 [(0, .ref a), (1, .ref r), (2, .int (rk (xs.getD p 0) + 1)), (3, .int (nI (xs.length - 2 + 2 * cntT xs p c))), (4, .int (nI (p + 1 + c)))] [] h n1 0 0 (RT mm_X0_lengthWithout (fun v h' _ => v = some (.int (nI (lwo xs p q))) ∧ h' = h)) := by
    intro j
    induction j using Nat.strongRecOn with
    | _ j ih =>
      intro c n1 hj hc
      have hct := cntT_le xs p c
      refine J_iload dX0_lengthWithout_29 (by rfl) ?_
      refine J_aload_n dX0_lengthWithout_31 (by rfl) ?_
      refine J_get fg_X0_19 dX0_lengthWithout_32 (by first | assumption | exact isRow.ob (by assumption) | exact isHnd.ob (by assumption) | exact hset_s | exact (hset_n (by first | assumption | omega)).trans (by first | assumption | exact isRow.ob (by assumption) | exact isHnd.ob (by assumption) | exact hset_s | exact (hset_n (by first | assumption | omega)).trans (by first | assumption | exact isRow.ob (by assumption) | exact isHnd.ob (by assumption) | exact hset_s | exact (hset_n (by first | assumption | omega)).trans (by first | assumption | exact isRow.ob (by assumption) | exact isHnd.ob (by assumption))))) (by rfl) ?_
      refine J_icmp_ge (tgt := 60) dX0_lengthWithout_35 (by decide) (fun c35 => ?_) (fun c35 => ?_)
      · rw [nI_leI (by omega) (by omega)] at c35
        refine J_iload_n dX0_lengthWithout_60 (by rfl) ?_
        exact J_ireturn dX0_lengthWithout_61 rfl (by rfl) (⟨by rw [lwo, show q - (p + 1) = c by omega], rfl⟩)
      · rw [nI_leI (by omega) (by omega)] at c35
        refine J_aload_n dX0_lengthWithout_38 (by rfl) ?_
        refine J_iload dX0_lengthWithout_39 (by rfl) ?_
        refine J_callV mf_X5_at lk_X0_30 mi_X5_at mv_X5_at (sp_X5_at w (k := p + 1 + c) (by omega) _) dX0_lengthWithout_41 (by first | assumption | exact isRow.ob (by assumption) | exact isHnd.ob (by assumption) | exact hset_s | exact (hset_n (by first | assumption | omega)).trans (by first | assumption | exact isRow.ob (by assumption) | exact isHnd.ob (by assumption) | exact hset_s | exact (hset_n (by first | assumption | omega)).trans (by first | assumption | exact isRow.ob (by assumption) | exact isHnd.ob (by assumption) | exact hset_s | exact (hset_n (by first | assumption | omega)).trans (by first | assumption | exact isRow.ob (by assumption) | exact isHnd.ob (by assumption))))) rfl rfl (by decide) (by rfl) rfl (Nat.le_of_ble_eq_true rfl) (Nat.zero_add _) (Nat.zero_add _) (fun v41 h41 n41 q41 => ?_)
        obtain ⟨rfl, rfl⟩ := q41
        refine J_callS mf_X9_rankOf lk_X0_34 ms_X9_rankOf (sp_X9_rankOf _ (xs.getD (p + 1 + c) 0) _) dX0_lengthWithout_44 (by decide) (by rfl) rfl (Nat.le_of_ble_eq_true rfl) (Nat.zero_add _) (Nat.zero_add _) (fun v44 h44 n44 q44 => ?_)
        obtain ⟨rfl, rfl⟩ := q44
        refine J_iload_n dX0_lengthWithout_47 (by rfl) ?_
        refine J_icmp_ne (tgt := 54) dX0_lengthWithout_48 (by decide) (fun c48 => ?_) (fun c48 => ?_)
        · refine J_iincN dX0_lengthWithout_54 (by rfl) (by decide) (by rfl) ?_
          refine J_goto (tgt := 29) dX0_lengthWithout_57 (by decide) ?_
          exact J_sub (subl_cons rfl (subl_cons rfl (subl_cons rfl (subl_cons (by show some (Value.int _) = some (Value.int _); rw [cntT]; first | (rw [if_neg c48]; rfl) | (rw [if_pos c48, show (2 : Int32) = nI 2 from rfl, nI_add]; congr 3 <;> omega)) (subl_cons rfl subl_nil))))) (ih (q - (p + 1) - (c + 1)) (by omega) (c + 1) _ rfl (by omega))
        · refine J_iinc (v := 2) dX0_lengthWithout_51 (by rfl) (by decide) (by rfl) ?_
          refine J_iincN dX0_lengthWithout_54 (by rfl) (by decide) (by rfl) ?_
          refine J_goto (tgt := 29) dX0_lengthWithout_57 (by decide) ?_
          exact J_sub (subl_cons rfl (subl_cons rfl (subl_cons rfl (subl_cons (by show some (Value.int _) = some (Value.int _); rw [cntT]; first | (rw [if_neg c48]; rfl) | (rw [if_pos c48, show (2 : Int32) = nI 2 from rfl, nI_add]; congr 3 <;> omega)) (subl_cons rfl subl_nil))))) (ih (q - (p + 1) - (c + 1)) (by omega) (c + 1) _ rfl (by omega))
  refine J_aload_n dX0_lengthWithout_0 (by rfl) ?_
  refine J_aload_n dX0_lengthWithout_1 (by rfl) ?_
  refine J_get fg_X0_15 dX0_lengthWithout_2 (by first | assumption | exact isRow.ob (by assumption) | exact isHnd.ob (by assumption) | exact hset_s | exact (hset_n (by first | assumption | omega)).trans (by first | assumption | exact isRow.ob (by assumption) | exact isHnd.ob (by assumption) | exact hset_s | exact (hset_n (by first | assumption | omega)).trans (by first | assumption | exact isRow.ob (by assumption) | exact isHnd.ob (by assumption) | exact hset_s | exact (hset_n (by first | assumption | omega)).trans (by first | assumption | exact isRow.ob (by assumption) | exact isHnd.ob (by assumption))))) (by rfl) ?_
  refine J_callV mf_X5_at lk_X0_30 mi_X5_at mv_X5_at (sp_X5_at w (k := p) (by omega) _) dX0_lengthWithout_5 (by first | assumption | exact isRow.ob (by assumption) | exact isHnd.ob (by assumption) | exact hset_s | exact (hset_n (by first | assumption | omega)).trans (by first | assumption | exact isRow.ob (by assumption) | exact isHnd.ob (by assumption) | exact hset_s | exact (hset_n (by first | assumption | omega)).trans (by first | assumption | exact isRow.ob (by assumption) | exact isHnd.ob (by assumption) | exact hset_s | exact (hset_n (by first | assumption | omega)).trans (by first | assumption | exact isRow.ob (by assumption) | exact isHnd.ob (by assumption))))) rfl rfl (by decide) (by rfl) rfl (Nat.le_of_ble_eq_true rfl) (Nat.zero_add _) (Nat.zero_add _) (fun v5 h5 n5 q5 => ?_)
  obtain ⟨rfl, rfl⟩ := q5
  refine J_callS mf_X9_rankOf lk_X0_34 ms_X9_rankOf (sp_X9_rankOf _ (xs.getD p 0) _) dX0_lengthWithout_8 (by decide) (by rfl) rfl (Nat.le_of_ble_eq_true rfl) (Nat.zero_add _) (Nat.zero_add _) (fun v8 h8 n8 q8 => ?_)
  obtain ⟨rfl, rfl⟩ := q8
  refine J_iconst (v := 1) dX0_lengthWithout_11 (by decide) ?_
  refine J_iadd dX0_lengthWithout_12 ?_
  refine J_istore_n dX0_lengthWithout_13 (by decide) (by rfl) ?_
  refine J_aload_n dX0_lengthWithout_14 (by rfl) ?_
  refine J_get fg_X0_25 dX0_lengthWithout_15 (by first | assumption | exact isRow.ob (by assumption) | exact isHnd.ob (by assumption) | exact hset_s | exact (hset_n (by first | assumption | omega)).trans (by first | assumption | exact isRow.ob (by assumption) | exact isHnd.ob (by assumption) | exact hset_s | exact (hset_n (by first | assumption | omega)).trans (by first | assumption | exact isRow.ob (by assumption) | exact isHnd.ob (by assumption) | exact hset_s | exact (hset_n (by first | assumption | omega)).trans (by first | assumption | exact isRow.ob (by assumption) | exact isHnd.ob (by assumption))))) (by rfl) ?_
  refine J_iconst (v := 2) dX0_lengthWithout_18 (by decide) ?_
  refine J_isub dX0_lengthWithout_19 ?_
  rw [show nI xs.length - 2 = nI (xs.length - 2) from pk_sub (a := xs.length) (b := 2) (by omega)]
  refine J_istore_n dX0_lengthWithout_20 (by decide) (by rfl) ?_
  refine J_aload_n dX0_lengthWithout_21 (by rfl) ?_
  refine J_get fg_X0_15 dX0_lengthWithout_22 (by first | assumption | exact isRow.ob (by assumption) | exact isHnd.ob (by assumption) | exact hset_s | exact (hset_n (by first | assumption | omega)).trans (by first | assumption | exact isRow.ob (by assumption) | exact isHnd.ob (by assumption) | exact hset_s | exact (hset_n (by first | assumption | omega)).trans (by first | assumption | exact isRow.ob (by assumption) | exact isHnd.ob (by assumption) | exact hset_s | exact (hset_n (by first | assumption | omega)).trans (by first | assumption | exact isRow.ob (by assumption) | exact isHnd.ob (by assumption))))) (by rfl) ?_
  refine J_iconst (v := 1) dX0_lengthWithout_25 (by decide) ?_
  refine J_iadd dX0_lengthWithout_26 ?_
  rw [show nI p + 1 = nI (p + 1) from nI_1 p]
  refine J_istore dX0_lengthWithout_27 (by decide) (by rfl) ?_
  exact J_sub (by repeat (first | exact subl_nil | refine subl_cons rfl ?_)) (loop _ 0 _ rfl (by omega))
/-- what comes in the place of the crossing k when the handle p, q is undone -/
def tkp (xs : List Int32) (p q k : Nat) : List Int32 :=
  if k = p ∨ k = q then []
  else if (p < k ∧ k < q) ∧ rk (xs.getD k 0) = rk (xs.getD p 0) + 1 then [-(sg (xs.getD p 0)) * (rk (xs.getD p 0) + 1), sg (xs.getD k 0) * rk (xs.getD p 0), sg (xs.getD p 0) * (rk (xs.getD p 0) + 1)]
  else [xs.getD k 0]
def tkT (xs : List Int32) (p q : Nat) : Nat → List Int32
  | 0 => []
  | k + 1 => tkT xs p q k ++ tkp xs p q k
def tko (xs : List Int32) (p q : Nat) : List Int32 := tkT xs p q xs.length
set_option maxRecDepth 20000 in
theorem sp_X0_takeOut {G : GG} {h : HP} {a r o cap cap2 p q : Nat} {xs ys : List Int32} (v : isHnd G h a (nI p) (nI q)) (w : isRow G h r cap xs) (u : isRow G h o cap2 ys) (hao : a + 2 ≤ o ∨ o + 2 ≤ a) (hro : r + 2 ≤ o ∨ o + 2 ≤ r) (hpq : p < q) (hq : q < xs.length) (n : Nat) : Sp G mm_X0_takeOut 1 0 0 [.ref a, .ref r, .ref o] h n (fun v h' _ => v = none ∧ isRow G h' o cap2 ((tko xs p q).take cap2) ∧ fr o (o + 2) h h') := by
  refine Sp_of (by decide +kernel) (Nat.le_of_ble_eq_true rfl) ?_
  have hle := w.le
  have loop : ∀ (j k : Nat) (hh : HP) (n1 : Nat), xs.length - k = j → k ≤ xs.length → isRow G hh o cap2 ((tkT xs p q k).take cap2) → fr o (o + 2) h hh → J (g0 G) mm_X0_takeOut 1 32 [(0, .ref a), (1, .ref r), (2, .ref o), (3, .int (rk (xs.getD p 0))), (4, .int (sg (xs.getD p 0))), (5, .int (nI k))] [] hh n1 0 0 (RT mm_X0_takeOut (fun v h' _ => v = none ∧ isRow G h' o cap2 ((tko xs p q).take cap2) ∧ fr o (o + 2) h h')) := by
    intro j
    induction j using Nat.strongRecOn with
    | _ j ih =>
      intro k hh n1 hj hk uu hf
      have wr := w.fr hf (by omega)
      have vr := v.fr hf (by omega)
      obtain ⟨f2, o1, o2, o3, o4, o5⟩ := id wr
      obtain ⟨g1, fl, g2⟩ := id vr
      refine J_iload dX0_takeOut_32 (by rfl) ?_
      refine J_aload_n dX0_takeOut_34 (by rfl) ?_
      refine J_get fg_X0_25 dX0_takeOut_35 (by first | assumption | exact isRow.ob (by assumption) | exact isHnd.ob (by assumption) | exact hset_s | exact (hset_n (by first | assumption | omega)).trans (by first | assumption | exact isRow.ob (by assumption) | exact isHnd.ob (by assumption) | exact hset_s | exact (hset_n (by first | assumption | omega)).trans (by first | assumption | exact isRow.ob (by assumption) | exact isHnd.ob (by assumption) | exact hset_s | exact (hset_n (by first | assumption | omega)).trans (by first | assumption | exact isRow.ob (by assumption) | exact isHnd.ob (by assumption))))) (by rfl) ?_
      refine J_icmp_ge (tgt := 150) dX0_takeOut_38 (by decide) (fun c38 => ?_) (fun c38 => ?_)
      · rw [nI_leI (by omega) (by omega)] at c38
        exact J_return dX0_takeOut_150 rfl (⟨rfl, by rw [tko, show xs.length = k by omega]; exact uu, hf⟩)
      · rw [nI_leI (by omega) (by omega)] at c38
        refine J_aload_n dX0_takeOut_41 (by rfl) ?_
        refine J_iload dX0_takeOut_42 (by rfl) ?_
        refine J_callV mf_X5_at lk_X0_30 mi_X5_at mv_X5_at (sp_X5_at wr (k := k) (by omega) _) dX0_takeOut_44 (by first | assumption | exact isRow.ob (by assumption) | exact isHnd.ob (by assumption) | exact hset_s | exact (hset_n (by first | assumption | omega)).trans (by first | assumption | exact isRow.ob (by assumption) | exact isHnd.ob (by assumption) | exact hset_s | exact (hset_n (by first | assumption | omega)).trans (by first | assumption | exact isRow.ob (by assumption) | exact isHnd.ob (by assumption) | exact hset_s | exact (hset_n (by first | assumption | omega)).trans (by first | assumption | exact isRow.ob (by assumption) | exact isHnd.ob (by assumption))))) rfl rfl (by decide) (by rfl) rfl (Nat.le_of_ble_eq_true rfl) (Nat.zero_add _) (Nat.zero_add _) (fun v44 h44 n44 q44 => ?_)
        obtain ⟨rfl, rfl⟩ := q44
        refine J_istore dX0_takeOut_47 (by decide) (by rfl) ?_
        refine J_iload dX0_takeOut_49 (by rfl) ?_
        refine J_aload_n dX0_takeOut_51 (by rfl) ?_
        refine J_get fg_X0_15 dX0_takeOut_52 (by first | assumption | exact isRow.ob (by assumption) | exact isHnd.ob (by assumption) | exact hset_s | exact (hset_n (by first | assumption | omega)).trans (by first | assumption | exact isRow.ob (by assumption) | exact isHnd.ob (by assumption) | exact hset_s | exact (hset_n (by first | assumption | omega)).trans (by first | assumption | exact isRow.ob (by assumption) | exact isHnd.ob (by assumption) | exact hset_s | exact (hset_n (by first | assumption | omega)).trans (by first | assumption | exact isRow.ob (by assumption) | exact isHnd.ob (by assumption))))) (by rfl) ?_
        refine J_icmp_eq (tgt := 144) dX0_takeOut_55 (by decide) (fun c55 => ?_) (fun c55 => ?_)
        · rw [nI_eq (by omega) (by omega)] at c55
          refine J_iincN dX0_takeOut_144 (by rfl) (by decide) (by rfl) ?_
          refine J_goto (tgt := 32) dX0_takeOut_147 (by decide) ?_
          first
            | exact J_sub (by repeat (first | exact subl_nil | refine subl_cons rfl ?_)) (ih (xs.length - (k + 1)) (by omega) (k + 1) _ _ rfl (by omega) (by rw [e99]; simp only [List.append_assoc] at u130; exact u130) (fr_tr hf (fr_tr f107 (fr_tr f119 f130))))
            | exact J_sub (by repeat (first | exact subl_nil | refine subl_cons rfl ?_)) (ih (xs.length - (k + 1)) (by omega) (k + 1) _ _ rfl (by omega) (by rw [e137]; exact u140) (fr_tr hf f140))
            | exact J_sub (by repeat (first | exact subl_nil | refine subl_cons rfl ?_)) (ih (xs.length - (k + 1)) (by omega) (k + 1) _ _ rfl (by omega) (by rw [tkT, tkp, if_pos (by omega), List.append_nil]; exact uu) hf)
        · rw [nI_eq (by omega) (by omega)] at c55
          refine J_iload dX0_takeOut_58 (by rfl) ?_
          refine J_aload_n dX0_takeOut_60 (by rfl) ?_
          refine J_get fg_X0_19 dX0_takeOut_61 (by first | assumption | exact isRow.ob (by assumption) | exact isHnd.ob (by assumption) | exact hset_s | exact (hset_n (by first | assumption | omega)).trans (by first | assumption | exact isRow.ob (by assumption) | exact isHnd.ob (by assumption) | exact hset_s | exact (hset_n (by first | assumption | omega)).trans (by first | assumption | exact isRow.ob (by assumption) | exact isHnd.ob (by assumption) | exact hset_s | exact (hset_n (by first | assumption | omega)).trans (by first | assumption | exact isRow.ob (by assumption) | exact isHnd.ob (by assumption))))) (by rfl) ?_
          refine J_icmp_ne (tgt := 70) dX0_takeOut_64 (by decide) (fun c64 => ?_) (fun c64 => ?_)
          · rw [nI_eq (by omega) (by omega)] at c64
            refine J_iload dX0_takeOut_70 (by rfl) ?_
            refine J_aload_n dX0_takeOut_72 (by rfl) ?_
            refine J_get fg_X0_15 dX0_takeOut_73 (by first | assumption | exact isRow.ob (by assumption) | exact isHnd.ob (by assumption) | exact hset_s | exact (hset_n (by first | assumption | omega)).trans (by first | assumption | exact isRow.ob (by assumption) | exact isHnd.ob (by assumption) | exact hset_s | exact (hset_n (by first | assumption | omega)).trans (by first | assumption | exact isRow.ob (by assumption) | exact isHnd.ob (by assumption) | exact hset_s | exact (hset_n (by first | assumption | omega)).trans (by first | assumption | exact isRow.ob (by assumption) | exact isHnd.ob (by assumption))))) (by rfl) ?_
            refine J_icmp_le (tgt := 137) dX0_takeOut_76 (by decide) (fun c76 => ?_) (fun c76 => ?_)
            · rw [nI_leI (by omega) (by omega)] at c76
              have e137 : tkT xs p q (k + 1) = tkT xs p q k ++ [xs.getD k 0] := by
                rw [tkT, tkp, if_neg (by omega), if_neg]
                intro q0
                first
                  | exact c96 q0.2
                  | omega
              refine J_aload_n dX0_takeOut_137 (by rfl) ?_
              refine J_iload dX0_takeOut_138 (by rfl) ?_
              refine J_callV mf_X5_add lk_X0_43 mi_X5_add mv_X5_add (sp_X5_add uu (xs.getD k 0) _) dX0_takeOut_140 (by first | assumption | exact isRow.ob (by assumption) | exact isHnd.ob (by assumption) | exact hset_s | exact (hset_n (by first | assumption | omega)).trans (by first | assumption | exact isRow.ob (by assumption) | exact isHnd.ob (by assumption) | exact hset_s | exact (hset_n (by first | assumption | omega)).trans (by first | assumption | exact isRow.ob (by assumption) | exact isHnd.ob (by assumption) | exact hset_s | exact (hset_n (by first | assumption | omega)).trans (by first | assumption | exact isRow.ob (by assumption) | exact isHnd.ob (by assumption))))) rfl rfl (by decide) (by rfl) rfl (Nat.le_of_ble_eq_true rfl) (Nat.zero_add _) (Nat.zero_add _) (fun v140 h140 n140 q140 => ?_)
              obtain ⟨rfl, u140, f140⟩ := q140
              rw [take_push] at u140
              refine J_pop dX0_takeOut_143 rfl ?_
              refine J_iincN dX0_takeOut_144 (by rfl) (by decide) (by rfl) ?_
              refine J_goto (tgt := 32) dX0_takeOut_147 (by decide) ?_
              first
                | exact J_sub (by repeat (first | exact subl_nil | refine subl_cons rfl ?_)) (ih (xs.length - (k + 1)) (by omega) (k + 1) _ _ rfl (by omega) (by rw [e99]; simp only [List.append_assoc] at u130; exact u130) (fr_tr hf (fr_tr f107 (fr_tr f119 f130))))
                | exact J_sub (by repeat (first | exact subl_nil | refine subl_cons rfl ?_)) (ih (xs.length - (k + 1)) (by omega) (k + 1) _ _ rfl (by omega) (by rw [e137]; exact u140) (fr_tr hf f140))
                | exact J_sub (by repeat (first | exact subl_nil | refine subl_cons rfl ?_)) (ih (xs.length - (k + 1)) (by omega) (k + 1) _ _ rfl (by omega) (by rw [tkT, tkp, if_pos (by omega), List.append_nil]; exact uu) hf)
            · rw [nI_leI (by omega) (by omega)] at c76
              refine J_iload dX0_takeOut_79 (by rfl) ?_
              refine J_aload_n dX0_takeOut_81 (by rfl) ?_
              refine J_get fg_X0_19 dX0_takeOut_82 (by first | assumption | exact isRow.ob (by assumption) | exact isHnd.ob (by assumption) | exact hset_s | exact (hset_n (by first | assumption | omega)).trans (by first | assumption | exact isRow.ob (by assumption) | exact isHnd.ob (by assumption) | exact hset_s | exact (hset_n (by first | assumption | omega)).trans (by first | assumption | exact isRow.ob (by assumption) | exact isHnd.ob (by assumption) | exact hset_s | exact (hset_n (by first | assumption | omega)).trans (by first | assumption | exact isRow.ob (by assumption) | exact isHnd.ob (by assumption))))) (by rfl) ?_
              refine J_icmp_ge (tgt := 137) dX0_takeOut_85 (by decide) (fun c85 => ?_) (fun c85 => ?_)
              · rw [nI_leI (by omega) (by omega)] at c85
                have e137 : tkT xs p q (k + 1) = tkT xs p q k ++ [xs.getD k 0] := by
                  rw [tkT, tkp, if_neg (by omega), if_neg]
                  intro q0
                  first
                    | exact c96 q0.2
                    | omega
                refine J_aload_n dX0_takeOut_137 (by rfl) ?_
                refine J_iload dX0_takeOut_138 (by rfl) ?_
                refine J_callV mf_X5_add lk_X0_43 mi_X5_add mv_X5_add (sp_X5_add uu (xs.getD k 0) _) dX0_takeOut_140 (by first | assumption | exact isRow.ob (by assumption) | exact isHnd.ob (by assumption) | exact hset_s | exact (hset_n (by first | assumption | omega)).trans (by first | assumption | exact isRow.ob (by assumption) | exact isHnd.ob (by assumption) | exact hset_s | exact (hset_n (by first | assumption | omega)).trans (by first | assumption | exact isRow.ob (by assumption) | exact isHnd.ob (by assumption) | exact hset_s | exact (hset_n (by first | assumption | omega)).trans (by first | assumption | exact isRow.ob (by assumption) | exact isHnd.ob (by assumption))))) rfl rfl (by decide) (by rfl) rfl (Nat.le_of_ble_eq_true rfl) (Nat.zero_add _) (Nat.zero_add _) (fun v140 h140 n140 q140 => ?_)
                obtain ⟨rfl, u140, f140⟩ := q140
                rw [take_push] at u140
                refine J_pop dX0_takeOut_143 rfl ?_
                refine J_iincN dX0_takeOut_144 (by rfl) (by decide) (by rfl) ?_
                refine J_goto (tgt := 32) dX0_takeOut_147 (by decide) ?_
                first
                  | exact J_sub (by repeat (first | exact subl_nil | refine subl_cons rfl ?_)) (ih (xs.length - (k + 1)) (by omega) (k + 1) _ _ rfl (by omega) (by rw [e99]; simp only [List.append_assoc] at u130; exact u130) (fr_tr hf (fr_tr f107 (fr_tr f119 f130))))
                  | exact J_sub (by repeat (first | exact subl_nil | refine subl_cons rfl ?_)) (ih (xs.length - (k + 1)) (by omega) (k + 1) _ _ rfl (by omega) (by rw [e137]; exact u140) (fr_tr hf f140))
                  | exact J_sub (by repeat (first | exact subl_nil | refine subl_cons rfl ?_)) (ih (xs.length - (k + 1)) (by omega) (k + 1) _ _ rfl (by omega) (by rw [tkT, tkp, if_pos (by omega), List.append_nil]; exact uu) hf)
              · rw [nI_leI (by omega) (by omega)] at c85
                refine J_iload dX0_takeOut_88 (by rfl) ?_
                refine J_callS mf_X9_rankOf lk_X0_34 ms_X9_rankOf (sp_X9_rankOf _ (xs.getD k 0) _) dX0_takeOut_90 (by decide) (by rfl) rfl (Nat.le_of_ble_eq_true rfl) (Nat.zero_add _) (Nat.zero_add _) (fun v90 h90 n90 q90 => ?_)
                obtain ⟨rfl, rfl⟩ := q90
                refine J_iload_n dX0_takeOut_93 (by rfl) ?_
                refine J_iconst (v := 1) dX0_takeOut_94 (by decide) ?_
                refine J_iadd dX0_takeOut_95 ?_
                refine J_icmp_ne (tgt := 137) dX0_takeOut_96 (by decide) (fun c96 => ?_) (fun c96 => ?_)
                · have e137 : tkT xs p q (k + 1) = tkT xs p q k ++ [xs.getD k 0] := by
                    rw [tkT, tkp, if_neg (by omega), if_neg]
                    intro q0
                    first
                      | exact c96 q0.2
                      | omega
                  refine J_aload_n dX0_takeOut_137 (by rfl) ?_
                  refine J_iload dX0_takeOut_138 (by rfl) ?_
                  refine J_callV mf_X5_add lk_X0_43 mi_X5_add mv_X5_add (sp_X5_add uu (xs.getD k 0) _) dX0_takeOut_140 (by first | assumption | exact isRow.ob (by assumption) | exact isHnd.ob (by assumption) | exact hset_s | exact (hset_n (by first | assumption | omega)).trans (by first | assumption | exact isRow.ob (by assumption) | exact isHnd.ob (by assumption) | exact hset_s | exact (hset_n (by first | assumption | omega)).trans (by first | assumption | exact isRow.ob (by assumption) | exact isHnd.ob (by assumption) | exact hset_s | exact (hset_n (by first | assumption | omega)).trans (by first | assumption | exact isRow.ob (by assumption) | exact isHnd.ob (by assumption))))) rfl rfl (by decide) (by rfl) rfl (Nat.le_of_ble_eq_true rfl) (Nat.zero_add _) (Nat.zero_add _) (fun v140 h140 n140 q140 => ?_)
                  obtain ⟨rfl, u140, f140⟩ := q140
                  rw [take_push] at u140
                  refine J_pop dX0_takeOut_143 rfl ?_
                  refine J_iincN dX0_takeOut_144 (by rfl) (by decide) (by rfl) ?_
                  refine J_goto (tgt := 32) dX0_takeOut_147 (by decide) ?_
                  first
                    | exact J_sub (by repeat (first | exact subl_nil | refine subl_cons rfl ?_)) (ih (xs.length - (k + 1)) (by omega) (k + 1) _ _ rfl (by omega) (by rw [e99]; simp only [List.append_assoc] at u130; exact u130) (fr_tr hf (fr_tr f107 (fr_tr f119 f130))))
                    | exact J_sub (by repeat (first | exact subl_nil | refine subl_cons rfl ?_)) (ih (xs.length - (k + 1)) (by omega) (k + 1) _ _ rfl (by omega) (by rw [e137]; exact u140) (fr_tr hf f140))
                    | exact J_sub (by repeat (first | exact subl_nil | refine subl_cons rfl ?_)) (ih (xs.length - (k + 1)) (by omega) (k + 1) _ _ rfl (by omega) (by rw [tkT, tkp, if_pos (by omega), List.append_nil]; exact uu) hf)
                · have e99 : tkT xs p q (k + 1) = tkT xs p q k ++ [-(sg (xs.getD p 0)) * (rk (xs.getD p 0) + 1), sg (xs.getD k 0) * rk (xs.getD p 0), sg (xs.getD p 0) * (rk (xs.getD p 0) + 1)] := by
                    rw [tkT, tkp, if_neg (by omega), if_pos ⟨by omega, c96⟩]
                  refine J_aload_n dX0_takeOut_99 (by rfl) ?_
                  refine J_iload dX0_takeOut_100 (by rfl) ?_
                  refine J_ineg dX0_takeOut_102 ?_
                  refine J_iload_n dX0_takeOut_103 (by rfl) ?_
                  refine J_iconst (v := 1) dX0_takeOut_104 (by decide) ?_
                  refine J_iadd dX0_takeOut_105 ?_
                  refine J_imul dX0_takeOut_106 ?_
                  refine J_callV mf_X5_add lk_X0_43 mi_X5_add mv_X5_add (sp_X5_add uu (-(sg (xs.getD p 0)) * (rk (xs.getD p 0) + 1)) _) dX0_takeOut_107 (by first | assumption | exact isRow.ob (by assumption) | exact isHnd.ob (by assumption) | exact hset_s | exact (hset_n (by first | assumption | omega)).trans (by first | assumption | exact isRow.ob (by assumption) | exact isHnd.ob (by assumption) | exact hset_s | exact (hset_n (by first | assumption | omega)).trans (by first | assumption | exact isRow.ob (by assumption) | exact isHnd.ob (by assumption) | exact hset_s | exact (hset_n (by first | assumption | omega)).trans (by first | assumption | exact isRow.ob (by assumption) | exact isHnd.ob (by assumption))))) rfl rfl (by decide) (by rfl) rfl (Nat.le_of_ble_eq_true rfl) (Nat.zero_add _) (Nat.zero_add _) (fun v107 h107 n107 q107 => ?_)
                  obtain ⟨rfl, u107, f107⟩ := q107
                  rw [take_push] at u107
                  refine J_pop dX0_takeOut_110 rfl ?_
                  refine J_aload_n dX0_takeOut_111 (by rfl) ?_
                  refine J_iload dX0_takeOut_112 (by rfl) ?_
                  refine J_callS mf_X9_signOf lk_X0_37 ms_X9_signOf (sp_X9_signOf _ (xs.getD k 0) _) dX0_takeOut_114 (by decide) (by rfl) rfl (Nat.le_of_ble_eq_true rfl) (Nat.zero_add _) (Nat.zero_add _) (fun v114 h114 n114 q114 => ?_)
                  obtain ⟨rfl, rfl⟩ := q114
                  refine J_iload_n dX0_takeOut_117 (by rfl) ?_
                  refine J_imul dX0_takeOut_118 ?_
                  refine J_callV mf_X5_add lk_X0_43 mi_X5_add mv_X5_add (sp_X5_add u107 (sg (xs.getD k 0) * rk (xs.getD p 0)) _) dX0_takeOut_119 (by first | assumption | exact isRow.ob (by assumption) | exact isHnd.ob (by assumption) | exact hset_s | exact (hset_n (by first | assumption | omega)).trans (by first | assumption | exact isRow.ob (by assumption) | exact isHnd.ob (by assumption) | exact hset_s | exact (hset_n (by first | assumption | omega)).trans (by first | assumption | exact isRow.ob (by assumption) | exact isHnd.ob (by assumption) | exact hset_s | exact (hset_n (by first | assumption | omega)).trans (by first | assumption | exact isRow.ob (by assumption) | exact isHnd.ob (by assumption))))) rfl rfl (by decide) (by rfl) rfl (Nat.le_of_ble_eq_true rfl) (Nat.zero_add _) (Nat.zero_add _) (fun v119 h119 n119 q119 => ?_)
                  obtain ⟨rfl, u119, f119⟩ := q119
                  rw [take_push] at u119
                  refine J_pop dX0_takeOut_122 rfl ?_
                  refine J_aload_n dX0_takeOut_123 (by rfl) ?_
                  refine J_iload dX0_takeOut_124 (by rfl) ?_
                  refine J_iload_n dX0_takeOut_126 (by rfl) ?_
                  refine J_iconst (v := 1) dX0_takeOut_127 (by decide) ?_
                  refine J_iadd dX0_takeOut_128 ?_
                  refine J_imul dX0_takeOut_129 ?_
                  refine J_callV mf_X5_add lk_X0_43 mi_X5_add mv_X5_add (sp_X5_add u119 (sg (xs.getD p 0) * (rk (xs.getD p 0) + 1)) _) dX0_takeOut_130 (by first | assumption | exact isRow.ob (by assumption) | exact isHnd.ob (by assumption) | exact hset_s | exact (hset_n (by first | assumption | omega)).trans (by first | assumption | exact isRow.ob (by assumption) | exact isHnd.ob (by assumption) | exact hset_s | exact (hset_n (by first | assumption | omega)).trans (by first | assumption | exact isRow.ob (by assumption) | exact isHnd.ob (by assumption) | exact hset_s | exact (hset_n (by first | assumption | omega)).trans (by first | assumption | exact isRow.ob (by assumption) | exact isHnd.ob (by assumption))))) rfl rfl (by decide) (by rfl) rfl (Nat.le_of_ble_eq_true rfl) (Nat.zero_add _) (Nat.zero_add _) (fun v130 h130 n130 q130 => ?_)
                  obtain ⟨rfl, u130, f130⟩ := q130
                  rw [take_push] at u130
                  refine J_pop dX0_takeOut_133 rfl ?_
                  refine J_goto (tgt := 144) dX0_takeOut_134 (by decide) ?_
                  refine J_iincN dX0_takeOut_144 (by rfl) (by decide) (by rfl) ?_
                  refine J_goto (tgt := 32) dX0_takeOut_147 (by decide) ?_
                  first
                    | exact J_sub (by repeat (first | exact subl_nil | refine subl_cons rfl ?_)) (ih (xs.length - (k + 1)) (by omega) (k + 1) _ _ rfl (by omega) (by rw [e99]; simp only [List.append_assoc] at u130; exact u130) (fr_tr hf (fr_tr f107 (fr_tr f119 f130))))
                    | exact J_sub (by repeat (first | exact subl_nil | refine subl_cons rfl ?_)) (ih (xs.length - (k + 1)) (by omega) (k + 1) _ _ rfl (by omega) (by rw [e137]; exact u140) (fr_tr hf f140))
                    | exact J_sub (by repeat (first | exact subl_nil | refine subl_cons rfl ?_)) (ih (xs.length - (k + 1)) (by omega) (k + 1) _ _ rfl (by omega) (by rw [tkT, tkp, if_pos (by omega), List.append_nil]; exact uu) hf)
          · rw [nI_eq (by omega) (by omega)] at c64
            refine J_goto (tgt := 144) dX0_takeOut_67 (by decide) ?_
            refine J_iincN dX0_takeOut_144 (by rfl) (by decide) (by rfl) ?_
            refine J_goto (tgt := 32) dX0_takeOut_147 (by decide) ?_
            first
              | exact J_sub (by repeat (first | exact subl_nil | refine subl_cons rfl ?_)) (ih (xs.length - (k + 1)) (by omega) (k + 1) _ _ rfl (by omega) (by rw [e99]; simp only [List.append_assoc] at u130; exact u130) (fr_tr hf (fr_tr f107 (fr_tr f119 f130))))
              | exact J_sub (by repeat (first | exact subl_nil | refine subl_cons rfl ?_)) (ih (xs.length - (k + 1)) (by omega) (k + 1) _ _ rfl (by omega) (by rw [e137]; exact u140) (fr_tr hf f140))
              | exact J_sub (by repeat (first | exact subl_nil | refine subl_cons rfl ?_)) (ih (xs.length - (k + 1)) (by omega) (k + 1) _ _ rfl (by omega) (by rw [tkT, tkp, if_pos (by omega), List.append_nil]; exact uu) hf)
  obtain ⟨f, h1, h2, h3, h4, h5⟩ := id w
  refine J_aload_n dX0_takeOut_0 (by rfl) ?_
  refine J_aload_n dX0_takeOut_1 (by rfl) ?_
  refine J_get fg_X0_15 dX0_takeOut_2 (by first | assumption | exact isRow.ob (by assumption) | exact isHnd.ob (by assumption) | exact hset_s | exact (hset_n (by first | assumption | omega)).trans (by first | assumption | exact isRow.ob (by assumption) | exact isHnd.ob (by assumption) | exact hset_s | exact (hset_n (by first | assumption | omega)).trans (by first | assumption | exact isRow.ob (by assumption) | exact isHnd.ob (by assumption) | exact hset_s | exact (hset_n (by first | assumption | omega)).trans (by first | assumption | exact isRow.ob (by assumption) | exact isHnd.ob (by assumption))))) (by rfl) ?_
  refine J_callV mf_X5_at lk_X0_30 mi_X5_at mv_X5_at (sp_X5_at w (k := p) (by omega) _) dX0_takeOut_5 (by first | assumption | exact isRow.ob (by assumption) | exact isHnd.ob (by assumption) | exact hset_s | exact (hset_n (by first | assumption | omega)).trans (by first | assumption | exact isRow.ob (by assumption) | exact isHnd.ob (by assumption) | exact hset_s | exact (hset_n (by first | assumption | omega)).trans (by first | assumption | exact isRow.ob (by assumption) | exact isHnd.ob (by assumption) | exact hset_s | exact (hset_n (by first | assumption | omega)).trans (by first | assumption | exact isRow.ob (by assumption) | exact isHnd.ob (by assumption))))) rfl rfl (by decide) (by rfl) rfl (Nat.le_of_ble_eq_true rfl) (Nat.zero_add _) (Nat.zero_add _) (fun v5 h5 n5 q5 => ?_)
  obtain ⟨rfl, rfl⟩ := q5
  refine J_callS mf_X9_rankOf lk_X0_34 ms_X9_rankOf (sp_X9_rankOf _ (xs.getD p 0) _) dX0_takeOut_8 (by decide) (by rfl) rfl (Nat.le_of_ble_eq_true rfl) (Nat.zero_add _) (Nat.zero_add _) (fun v8 h8 n8 q8 => ?_)
  obtain ⟨rfl, rfl⟩ := q8
  refine J_istore_n dX0_takeOut_11 (by decide) (by rfl) ?_
  refine J_aload_n dX0_takeOut_12 (by rfl) ?_
  refine J_aload_n dX0_takeOut_13 (by rfl) ?_
  refine J_get fg_X0_15 dX0_takeOut_14 (by first | assumption | exact isRow.ob (by assumption) | exact isHnd.ob (by assumption) | exact hset_s | exact (hset_n (by first | assumption | omega)).trans (by first | assumption | exact isRow.ob (by assumption) | exact isHnd.ob (by assumption) | exact hset_s | exact (hset_n (by first | assumption | omega)).trans (by first | assumption | exact isRow.ob (by assumption) | exact isHnd.ob (by assumption) | exact hset_s | exact (hset_n (by first | assumption | omega)).trans (by first | assumption | exact isRow.ob (by assumption) | exact isHnd.ob (by assumption))))) (by rfl) ?_
  refine J_callV mf_X5_at lk_X0_30 mi_X5_at mv_X5_at (sp_X5_at w (k := p) (by omega) _) dX0_takeOut_17 (by first | assumption | exact isRow.ob (by assumption) | exact isHnd.ob (by assumption) | exact hset_s | exact (hset_n (by first | assumption | omega)).trans (by first | assumption | exact isRow.ob (by assumption) | exact isHnd.ob (by assumption) | exact hset_s | exact (hset_n (by first | assumption | omega)).trans (by first | assumption | exact isRow.ob (by assumption) | exact isHnd.ob (by assumption) | exact hset_s | exact (hset_n (by first | assumption | omega)).trans (by first | assumption | exact isRow.ob (by assumption) | exact isHnd.ob (by assumption))))) rfl rfl (by decide) (by rfl) rfl (Nat.le_of_ble_eq_true rfl) (Nat.zero_add _) (Nat.zero_add _) (fun v17 h17 n17 q17 => ?_)
  obtain ⟨rfl, rfl⟩ := q17
  refine J_callS mf_X9_signOf lk_X0_37 ms_X9_signOf (sp_X9_signOf _ (xs.getD p 0) _) dX0_takeOut_20 (by decide) (by rfl) rfl (Nat.le_of_ble_eq_true rfl) (Nat.zero_add _) (Nat.zero_add _) (fun v20 h20 n20 q20 => ?_)
  obtain ⟨rfl, rfl⟩ := q20
  refine J_istore dX0_takeOut_23 (by decide) (by rfl) ?_
  refine J_aload_n dX0_takeOut_25 (by rfl) ?_
  refine J_callV mf_X5_empty lk_X0_40 mi_X5_empty mv_X5_empty (sp_X5_empty u _) dX0_takeOut_26 (by first | assumption | exact isRow.ob (by assumption) | exact isHnd.ob (by assumption) | exact hset_s | exact (hset_n (by first | assumption | omega)).trans (by first | assumption | exact isRow.ob (by assumption) | exact isHnd.ob (by assumption) | exact hset_s | exact (hset_n (by first | assumption | omega)).trans (by first | assumption | exact isRow.ob (by assumption) | exact isHnd.ob (by assumption) | exact hset_s | exact (hset_n (by first | assumption | omega)).trans (by first | assumption | exact isRow.ob (by assumption) | exact isHnd.ob (by assumption))))) rfl rfl (by decide) (by rfl) rfl (Nat.le_of_ble_eq_true rfl) (Nat.zero_add _) (Nat.zero_add _) (fun v26 h26 n26 q26 => ?_)
  obtain ⟨rfl, u26, f26⟩ := q26
  refine J_iconst (v := 0) dX0_takeOut_29 (by decide) ?_
  refine J_istore dX0_takeOut_30 (by decide) (by rfl) ?_
  exact J_sub (by repeat (first | exact subl_nil | refine subl_cons rfl ?_)) (loop _ 0 _ _ rfl (by omega) (by rw [tkT, List.take_nil]; exact u26) f26)
