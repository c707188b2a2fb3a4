/-! the measure -/
def mid (c : Nat) : Nat := if c % 5 = 0 then 1 else 0
def mmulS (A B : Nat → Nat) (r c : Nat) : Nat → Nat
  | 0 => 0
  | k + 1 => mmulS A B r c k + A (r * 4 + k) * B (k * 4 + c)
def mmul (A B : Nat → Nat) (i : Nat) : Nat := mmulS A B (i / 4) (i % 4) 4 % 10007
def moneR (R : Nat) (p : Bool) (c : Nat) : Nat := if c = 5 * (R - 1) then (if p then 10006 else 0) else if c = 5 * (R - 1) + 1 then (if p then 2 else 1) else if c = 5 * (R - 1) + 4 then (if p then 1 else 5004) else if c = 5 * (R - 1) + 5 then (if p then 0 else 5004) else mid c
def mone (x : Int32) : Nat → Nat := moneR (rk x).toNatClampNeg (decide (0 < x))
/-- the product of n crossings from f on -/
def mS (xs : List Int32) (f : Nat) : Nat → Nat → Nat
  | 0 => mid
  | n + 1 => mmul (mS xs f n) (mone (xs.getD (f + n) 0))
def okM (A : Nat → Nat) : Prop := ∀ c, c < 16 → A c < 10007
theorem ok_mid : okM mid := by intro c _; unfold mid; split <;> omega
theorem ok_mul (A B : Nat → Nat) : okM (mmul A B) := fun c _ => Nat.mod_lt _ (by omega)
theorem ok_one (x : Int32) : okM (mone x) := by
  intro c hc
  have := ok_mid c hc
  unfold mone moneR
  repeat' split
  all_goals omega
theorem ok_S (xs : List Int32) (f n : Nat) : okM (mS xs f n) := by
  cases n with
  | zero => exact ok_mid
  | succ n => exact ok_mul _ _
theorem mmul_congr {A A' B B' : Nat → Nat} (hA : ∀ c, c < 16 → A c = A' c) (hB : ∀ c, c < 16 → B c = B' c) {i : Nat} (hi : i < 16) : mmul A B i = mmul A' B' i := by
  simp only [mmul, mmulS]
  rw [hA _ (by omega), hA _ (by omega), hA _ (by omega), hA _ (by omega), hB _ (by omega), hB _ (by omega), hB _ (by omega), hB _ (by omega)]
theorem m4l (a b c d x y z w : Nat) : (0 + a % 10007 * x + b % 10007 * y + c % 10007 * z + d % 10007 * w) % 10007 = (0 + a * x + b * y + c * z + d * w) % 10007 := by
  simp [Nat.add_mod, Nat.mul_mod]
theorem m4r (a b c d x y z w : Nat) : (0 + x * (a % 10007) + y * (b % 10007) + z * (c % 10007) + w * (d % 10007)) % 10007 = (0 + x * a + y * b + z * c + w * d) % 10007 := by
  simp [Nat.add_mod, Nat.mul_mod]
theorem mmul_assoc (A B C : Nat → Nat) {i : Nat} (hi : i < 16) : mmul (mmul A B) C i = mmul A (mmul B C) i := by
  have d0 : ∀ r k, k < 4 → (r * 4 + k) / 4 = r ∧ (r * 4 + k) % 4 = k := fun r k h => ⟨by omega, by omega⟩
  have e : ∀ k c, k < 4 → c < 4 → (k * 4 + c) / 4 = k ∧ (k * 4 + c) % 4 = c := fun k c _ h => ⟨by omega, by omega⟩
  have hc : i % 4 < 4 := Nat.mod_lt _ (by omega)
  show mmulS (mmul A B) C (i / 4) (i % 4) 4 % 10007 = mmulS A (mmul B C) (i / 4) (i % 4) 4 % 10007
  generalize i / 4 = r
  generalize i % 4 = c at hc
  have hl : ∀ k, k < 4 → mmul A B (r * 4 + k) = mmulS A B r k 4 % 10007 := fun k hk => by rw [mmul, (d0 r k hk).1, (d0 r k hk).2]
  have hr : ∀ k, k < 4 → mmul B C (k * 4 + c) = mmulS B C k c 4 % 10007 := fun k hk => by rw [mmul, (d0 k c hc).1, (d0 k c hc).2]
  rw [show mmulS (mmul A B) C r c 4 = 0 + mmul A B (r * 4 + 0) * C (0 * 4 + c) + mmul A B (r * 4 + 1) * C (1 * 4 + c) + mmul A B (r * 4 + 2) * C (2 * 4 + c) + mmul A B (r * 4 + 3) * C (3 * 4 + c) from rfl,
    show mmulS A (mmul B C) r c 4 = 0 + A (r * 4 + 0) * mmul B C (0 * 4 + c) + A (r * 4 + 1) * mmul B C (1 * 4 + c) + A (r * 4 + 2) * mmul B C (2 * 4 + c) + A (r * 4 + 3) * mmul B C (3 * 4 + c) from rfl,
    hl 0 (by omega), hl 1 (by omega), hl 2 (by omega), hl 3 (by omega), hr 0 (by omega), hr 1 (by omega), hr 2 (by omega), hr 3 (by omega), m4l, m4r]
  simp only [mmulS, Nat.zero_add, Nat.add_mul, Nat.mul_add, Nat.mul_assoc]
  congr 1
  omega
theorem mid_l {B : Nat → Nat} (hB : okM B) {i : Nat} (hi : i < 16) : mmul mid B i = B i := by
  have h := hB i hi
  simp only [mmul, mmulS, mid]
  rcases (show i = 0 ∨ i = 1 ∨ i = 2 ∨ i = 3 ∨ i = 4 ∨ i = 5 ∨ i = 6 ∨ i = 7 ∨ i = 8 ∨ i = 9 ∨ i = 10 ∨ i = 11 ∨ i = 12 ∨ i = 13 ∨ i = 14 ∨ i = 15 by omega) with rfl | rfl | rfl | rfl | rfl | rfl | rfl | rfl | rfl | rfl | rfl | rfl | rfl | rfl | rfl | rfl <;> simp <;> omega
theorem mid_r {B : Nat → Nat} (hB : okM B) {i : Nat} (hi : i < 16) : mmul B mid i = B i := by
  have h := hB i hi
  simp only [mmul, mmulS, mid]
  rcases (show i = 0 ∨ i = 1 ∨ i = 2 ∨ i = 3 ∨ i = 4 ∨ i = 5 ∨ i = 6 ∨ i = 7 ∨ i = 8 ∨ i = 9 ∨ i = 10 ∨ i = 11 ∨ i = 12 ∨ i = 13 ∨ i = 14 ∨ i = 15 by omega) with rfl | rfl | rfl | rfl | rfl | rfl | rfl | rfl | rfl | rfl | rfl | rfl | rfl | rfl | rfl | rfl <;> simp <;> omega
theorem mS_app (xs : List Int32) (f a : Nat) : ∀ b i, i < 16 → mmul (mS xs f a) (mS xs (f + a) b) i = mS xs f (a + b) i := by
  intro b
  induction b with
  | zero => intro i hi; exact mid_r (ok_S _ _ _) hi
  | succ b ih =>
    intro i hi
    show mmul (mS xs f a) (mmul (mS xs (f + a) b) _) i = mmul (mS xs f (a + b)) (mone (xs.getD (f + (a + b)) 0)) i
    rw [← mmul_assoc _ _ _ hi, Nat.add_assoc]
    exact mmul_congr (fun c hc => ih c hc) (fun _ _ => rfl) hi
def isMat (G : GG) (h : HP) (t : Nat) (A : Nat → Nat) : Prop := ∃ f : Nat → Int32, h t = some (.inl (G.2.1 0, 16, .inl f)) ∧ ∀ c, c < 16 → f c = nI (A c)
theorem isMat.keep {G : GG} {h h' : HP} {t : Nat} {A : Nat → Nat} (w : isMat G h t A) (k : h' t = h t) : isMat G h' t A := by
  obtain ⟨f, h1, h2⟩ := w
  exact ⟨f, k.trans h1, h2⟩
theorem isMat.to {G : GG} {h : HP} {t : Nat} {A B : Nat → Nat} (w : isMat G h t A) (e : ∀ c, c < 16 → A c = B c) : isMat G h t B := by
  obtain ⟨f, h1, h2⟩ := w
  exact ⟨f, h1, fun c hc => by rw [h2 c hc, e c hc]⟩
set_option maxRecDepth 20000 in
theorem sp_X3_fillWithNone {G : GG} {h : HP} {t : Nat} {f : Nat → Int32} (w : h t = some (.inl (G.2.1 0, 16, .inl f))) (n : Nat) : Sp G mm_X3_fillWithNone 0 0 0 [.ref t] h n (fun v h' _ => v = none ∧ isMat G h' t mid ∧ fr t (t + 1) h h') := by
  refine Sp_of (by decide +kernel) (Nat.le_of_ble_eq_true rfl) ?_
  have loop : ∀ (j k : Nat) (hh : HP) (n1 : Nat) (f : Nat → Int32), k + j = 16 → hh t = some (.inl (G.2.1 0, 16, .inl f)) → (∀ c, c < k → f c = nI (mid c)) → fr t (t + 1) h hh → J (g0 G) mm_X3_fillWithNone 0 2 [(0, .ref t), (1, .int (nI k))] [] hh n1 0 0 (RT mm_X3_fillWithNone (fun v h' _ => v = none ∧ isMat G h' t mid ∧ fr t (t + 1) h h')) := by
    intro j
    induction j with
    | zero =>
      intro k hh n1 f hj g1 g2 hf
      refine J_iload_n dX3_fillWithNone_2 (by rfl) ?_
      refine J_aload_n dX3_fillWithNone_3 (by rfl) ?_
      refine J_alen (t := 0) (by decide) dX3_fillWithNone_4 (by first | assumption | exact isRow.ob (by assumption) | exact isHnd.ob (by assumption) | exact isUnt.ob (by assumption) | exact isSt.ob (by assumption) | exact isHist.ob (by assumption) | exact isTxt.ob (by assumption) | exact isLac.ob (by assumption) | exact hset_s | exact (hset_n (by first | assumption | omega)).trans (by first | assumption | exact isRow.ob (by assumption) | exact isHnd.ob (by assumption) | exact isUnt.ob (by assumption) | exact isSt.ob (by assumption) | exact isHist.ob (by assumption) | exact isTxt.ob (by assumption) | exact isLac.ob (by assumption) | exact hset_s | exact (hset_n (by first | assumption | omega)).trans (by first | assumption | exact isRow.ob (by assumption) | exact isHnd.ob (by assumption) | exact isUnt.ob (by assumption) | exact isSt.ob (by assumption) | exact isHist.ob (by assumption) | exact isTxt.ob (by assumption) | exact isLac.ob (by assumption) | exact hset_s | exact (hset_n (by first | assumption | omega)).trans (by first | assumption | exact isRow.ob (by assumption) | exact isHnd.ob (by assumption) | exact isUnt.ob (by assumption) | exact isSt.ob (by assumption) | exact isHist.ob (by assumption) | exact isTxt.ob (by assumption) | exact isLac.ob (by assumption))))) ?_
      refine J_icmp_ge (tgt := 28) dX3_fillWithNone_5 (by decide) (fun c5 => ?_) (fun c5 => ?_)
      · exact J_return dX3_fillWithNone_28 rfl (⟨rfl, ⟨f, g1, fun c hc => g2 c (by omega)⟩, hf⟩)
      · exact absurd ((nI_leI (a := 16) (by omega) (by omega)).mpr (by omega)) c5
    | succ j ih =>
      intro k hh n1 f hj g1 g2 hf
      have fin : ∀ x : Int32, x = nI (mid k) → J (g0 G) mm_X3_fillWithNone 0 21 [(0, .ref t), (1, .int (nI k))] [.int x, .int (nI k), .ref t] hh n1 0 0 (RT mm_X3_fillWithNone (fun v h' _ => v = none ∧ isMat G h' t mid ∧ fr t (t + 1) h h')) := by
        intro x hx
        refine J_iast dX3_fillWithNone_21 (by first | assumption | exact isRow.ob (by assumption) | exact isHnd.ob (by assumption) | exact isUnt.ob (by assumption) | exact isSt.ob (by assumption) | exact isHist.ob (by assumption) | exact isTxt.ob (by assumption) | exact isLac.ob (by assumption) | exact hset_s | exact (hset_n (by first | assumption | omega)).trans (by first | assumption | exact isRow.ob (by assumption) | exact isHnd.ob (by assumption) | exact isUnt.ob (by assumption) | exact isSt.ob (by assumption) | exact isHist.ob (by assumption) | exact isTxt.ob (by assumption) | exact isLac.ob (by assumption) | exact hset_s | exact (hset_n (by first | assumption | omega)).trans (by first | assumption | exact isRow.ob (by assumption) | exact isHnd.ob (by assumption) | exact isUnt.ob (by assumption) | exact isSt.ob (by assumption) | exact isHist.ob (by assumption) | exact isTxt.ob (by assumption) | exact isLac.ob (by assumption) | exact hset_s | exact (hset_n (by first | assumption | omega)).trans (by first | assumption | exact isRow.ob (by assumption) | exact isHnd.ob (by assumption) | exact isUnt.ob (by assumption) | exact isSt.ob (by assumption) | exact isHist.ob (by assumption) | exact isTxt.ob (by assumption) | exact isLac.ob (by assumption))))) (vp_in_nI (by omega) (by omega)) ?_
        refine J_iincN dX3_fillWithNone_22 (by rfl) (by decide) (by rfl) ?_
        refine J_goto (tgt := 2) dX3_fillWithNone_25 (by decide) ?_
        exact J_sub (by repeat (first | exact subl_nil | refine subl_cons rfl ?_)) (ih (k + 1) _ _ _ (by omega) hset_s (fun c hc => by
          rw [nI_clamp (by omega)]
          unfold upd
          by_cases e : c = k
          · rw [if_pos e, hx, e]
          · rw [if_neg e]; exact g2 c (by omega)) (fr_tr hf (fr_set (by omega) (by omega))))
      refine J_iload_n dX3_fillWithNone_2 (by rfl) ?_
      refine J_aload_n dX3_fillWithNone_3 (by rfl) ?_
      refine J_alen (t := 0) (by decide) dX3_fillWithNone_4 (by first | assumption | exact isRow.ob (by assumption) | exact isHnd.ob (by assumption) | exact isUnt.ob (by assumption) | exact isSt.ob (by assumption) | exact isHist.ob (by assumption) | exact isTxt.ob (by assumption) | exact isLac.ob (by assumption) | exact hset_s | exact (hset_n (by first | assumption | omega)).trans (by first | assumption | exact isRow.ob (by assumption) | exact isHnd.ob (by assumption) | exact isUnt.ob (by assumption) | exact isSt.ob (by assumption) | exact isHist.ob (by assumption) | exact isTxt.ob (by assumption) | exact isLac.ob (by assumption) | exact hset_s | exact (hset_n (by first | assumption | omega)).trans (by first | assumption | exact isRow.ob (by assumption) | exact isHnd.ob (by assumption) | exact isUnt.ob (by assumption) | exact isSt.ob (by assumption) | exact isHist.ob (by assumption) | exact isTxt.ob (by assumption) | exact isLac.ob (by assumption) | exact hset_s | exact (hset_n (by first | assumption | omega)).trans (by first | assumption | exact isRow.ob (by assumption) | exact isHnd.ob (by assumption) | exact isUnt.ob (by assumption) | exact isSt.ob (by assumption) | exact isHist.ob (by assumption) | exact isTxt.ob (by assumption) | exact isLac.ob (by assumption))))) ?_
      refine J_icmp_ge (tgt := 28) dX3_fillWithNone_5 (by decide) (fun c5 => ?_) (fun c5 => ?_)
      · exact absurd ((nI_leI (a := 16) (by omega) (by omega)).mp c5) (by omega)
      · refine J_aload_n dX3_fillWithNone_8 (by rfl) ?_
        refine J_iload_n dX3_fillWithNone_9 (by rfl) ?_
        refine J_iload_n dX3_fillWithNone_10 (by rfl) ?_
        refine J_iconst (v := nI 5) dX3_fillWithNone_11 (by decide) ?_
        refine J_irem dX3_fillWithNone_12 (by decide) ?_
        rw [pk_rem (a := k) (d := 5) (by omega) (by omega) (by omega)]
        refine J_if_ne (tgt := 20) dX3_fillWithNone_13 (by decide) (fun c13 => ?_) (fun c13 => ?_)
        · have c13 : ¬ k % 5 = 0 := fun q => c13 (by rw [q]; rfl)
          refine J_iconst (v := 0) dX3_fillWithNone_20 (by decide) ?_
          first
            | exact J_sub (by repeat (first | exact subl_nil | refine subl_cons rfl ?_)) (fin 1 (by rw [mid, if_pos c13]; rfl))
            | exact J_sub (by repeat (first | exact subl_nil | refine subl_cons rfl ?_)) (fin 0 (by rw [mid, if_neg c13]; rfl))
        · have c13 : k % 5 = 0 := (nI_eq (b := 0) (by omega) (by omega)).mp c13
          refine J_iconst (v := 1) dX3_fillWithNone_16 (by decide) ?_
          refine J_goto (tgt := 21) dX3_fillWithNone_17 (by decide) ?_
          first
            | exact J_sub (by repeat (first | exact subl_nil | refine subl_cons rfl ?_)) (fin 1 (by rw [mid, if_pos c13]; rfl))
            | exact J_sub (by repeat (first | exact subl_nil | refine subl_cons rfl ?_)) (fin 0 (by rw [mid, if_neg c13]; rfl))
  refine J_iconst (v := 0) dX3_fillWithNone_0 (by decide) ?_
  refine J_istore_n dX3_fillWithNone_1 (by decide) (by rfl) ?_
  exact J_sub (by repeat (first | exact subl_nil | refine subl_cons rfl ?_)) (loop 16 0 _ _ f (by omega) w (fun c hc => absurd hc (by omega)) fr_rf)
set_option maxRecDepth 20000 in
theorem sp_X3_multiply {G : GG} {h : HP} {t1 t2 t3 : Nat} {A B : Nat → Nat} {f3 : Nat → Int32} (w1 : isMat G h t1 A) (w2 : isMat G h t2 B) (w3 : h t3 = some (.inl (G.2.1 0, 16, .inl f3))) (hA : okM A) (hB : okM B) (h13 : t1 ≠ t3) (h23 : t2 ≠ t3) (n : Nat) : Sp G mm_X3_multiply 0 0 0 [.ref t1, .ref t2, .ref t3] h n (fun v h' _ => v = none ∧ isMat G h' t3 (mmul A B) ∧ fr t3 (t3 + 1) h h') := by
  refine Sp_of (by decide +kernel) (Nat.le_of_ble_eq_true rfl) ?_
  obtain ⟨f1, a1, a2⟩ := id w1
  obtain ⟨f2, b1, b2⟩ := id w2
  have hmul : ∀ a b, a < 10007 → b < 10007 → a * b ≤ 100120036 := fun a b ha hb => Nat.mul_le_mul (by omega : a ≤ 10006) (by omega : b ≤ 10006)
  have hsum : ∀ r c k, r < 4 → c < 4 → k ≤ 4 → mmulS A B r c k ≤ k * 100120036 := by
    intro r c k hr hc
    induction k with
    | zero => intro _; exact Nat.le_refl _
    | succ k ih =>
      intro hk
      have h1 := ih (by omega)
      have h2 := hmul _ _ (hA (r * 4 + k) (by omega)) (hB (k * 4 + c) (by omega))
      show mmulS A B r c k + _ ≤ _
      omega
  have inner : ∀ (j k r c : Nat) (hh : HP) (n1 : Nat), k + j = 4 → r < 4 → c < 4 → hh t1 = h t1 → hh t2 = h t2 → (∃ f, hh t3 = some (.inl (G.2.1 0, 16, .inl f)) ∧ ∀ i, i < r * 4 + c → f i = nI (mmul A B i)) → fr t3 (t3 + 1) h hh → (∀ (hh : HP) (n1 : Nat), hh t1 = h t1 → hh t2 = h t2 → (∃ f, hh t3 = some (.inl (G.2.1 0, 16, .inl f)) ∧ ∀ i, i < r * 4 + (c + 1) → f i = nI (mmul A B i)) → fr t3 (t3 + 1) h hh → J (g0 G) mm_X3_multiply 0 32 [(0, .ref t1), (1, .ref t2), (2, .ref t3), (3, .int (nI r)), (4, .int (nI (c + 1)))] [] hh n1 0 0 (RT mm_X3_multiply (fun v h' _ => v = none ∧ isMat G h' t3 (mmul A B) ∧ fr t3 (t3 + 1) h h'))) → J (g0 G) mm_X3_multiply 0 44 [(0, .ref t1), (1, .ref t2), (2, .ref t3), (3, .int (nI r)), (4, .int (nI c)), (5, .int (nI (mmulS A B r c k))), (6, .int (nI k))] [] hh n1 0 0 (RT mm_X3_multiply (fun v h' _ => v = none ∧ isMat G h' t3 (mmul A B) ∧ fr t3 (t3 + 1) h h')) := by
    intro j
    induction j with
    | zero =>
      intro k r c hh n1 hj hr hc k1 k2 k3 hf kk
      obtain ⟨f, g1, g2⟩ := k3
      have hs := hsum r c 4 hr hc (by omega)
      obtain rfl : k = 4 := by omega
      refine J_iload dX3_multiply_44 (by rfl) ?_
      refine J_iconst (v := nI 4) dX3_multiply_46 (by decide) ?_
      refine J_icmp_ge (tgt := 79) dX3_multiply_47 (by decide) (fun c47 => ?_) (fun c47 => ?_)
      · rw [nI_leI (by omega) (by omega)] at c47
        refine J_aload_n dX3_multiply_79 (by rfl) ?_
        refine J_iload_n dX3_multiply_80 (by rfl) ?_
        refine J_iconst (v := nI 4) dX3_multiply_81 (by decide) ?_
        refine J_imul dX3_multiply_82 ?_
        rw [pk_mul]
        refine J_iload dX3_multiply_83 (by rfl) ?_
        refine J_iadd dX3_multiply_85 ?_
        rw [nI_add]
        refine J_iload dX3_multiply_86 (by rfl) ?_
        refine J_sipush (v := nI 10007) dX3_multiply_88 (by decide) ?_
        refine J_irem dX3_multiply_91 (by decide) ?_
        rw [pk_rem (by omega) (by omega) (by omega)]
        refine J_iast dX3_multiply_92 (by first | assumption | exact isRow.ob (by assumption) | exact isHnd.ob (by assumption) | exact isUnt.ob (by assumption) | exact isSt.ob (by assumption) | exact isHist.ob (by assumption) | exact isTxt.ob (by assumption) | exact isLac.ob (by assumption) | exact hset_s | exact (hset_n (by first | assumption | omega)).trans (by first | assumption | exact isRow.ob (by assumption) | exact isHnd.ob (by assumption) | exact isUnt.ob (by assumption) | exact isSt.ob (by assumption) | exact isHist.ob (by assumption) | exact isTxt.ob (by assumption) | exact isLac.ob (by assumption) | exact hset_s | exact (hset_n (by first | assumption | omega)).trans (by first | assumption | exact isRow.ob (by assumption) | exact isHnd.ob (by assumption) | exact isUnt.ob (by assumption) | exact isSt.ob (by assumption) | exact isHist.ob (by assumption) | exact isTxt.ob (by assumption) | exact isLac.ob (by assumption) | exact hset_s | exact (hset_n (by first | assumption | omega)).trans (by first | assumption | exact isRow.ob (by assumption) | exact isHnd.ob (by assumption) | exact isUnt.ob (by assumption) | exact isSt.ob (by assumption) | exact isHist.ob (by assumption) | exact isTxt.ob (by assumption) | exact isLac.ob (by assumption))))) (vp_in_nI (by omega) (by omega)) ?_
        refine J_iincN dX3_multiply_93 (by rfl) (by decide) (by rfl) ?_
        refine J_goto (tgt := 32) dX3_multiply_96 (by decide) ?_
        exact J_sub (by repeat (first | exact subl_nil | refine subl_cons rfl ?_)) (kk _ _ ((hset_n (by omega)).trans k1) ((hset_n (by omega)).trans k2) ⟨_, hset_s, fun i hi => by
          rw [nI_clamp (by omega)]
          unfold upd
          by_cases e : i = r * 4 + c
          · subst e
            rw [if_pos rfl, mmul, show (r * 4 + c) / 4 = r by omega, show (r * 4 + c) % 4 = c by omega]
          · rw [if_neg e]; exact g2 i (by omega)⟩ (fr_tr hf (fr_set (by omega) (by omega))))
      · rw [nI_leI (by omega) (by omega)] at c47
        exact absurd (by omega) c47
    | succ j ih =>
      intro k r c hh n1 hj hr hc k1 k2 k3 hf kk
      have g1 := k1.trans a1
      have g2 := k2.trans b1
      have hs := hsum r c k hr hc (by omega)
      have hm := hmul _ _ (hA (r * 4 + k) (by omega)) (hB (k * 4 + c) (by omega))
      refine J_iload dX3_multiply_44 (by rfl) ?_
      refine J_iconst (v := nI 4) dX3_multiply_46 (by decide) ?_
      refine J_icmp_ge (tgt := 79) dX3_multiply_47 (by decide) (fun c47 => ?_) (fun c47 => ?_)
      · rw [nI_leI (by omega) (by omega)] at c47
        exact absurd c47 (by omega)
      · rw [nI_leI (by omega) (by omega)] at c47
        refine J_iload dX3_multiply_50 (by rfl) ?_
        refine J_aload_n dX3_multiply_52 (by rfl) ?_
        refine J_iload_n dX3_multiply_53 (by rfl) ?_
        refine J_iconst (v := nI 4) dX3_multiply_54 (by decide) ?_
        refine J_imul dX3_multiply_55 ?_
        rw [pk_mul]
        refine J_iload dX3_multiply_56 (by rfl) ?_
        refine J_iadd dX3_multiply_58 ?_
        rw [nI_add]
        refine J_iald dX3_multiply_59 (by first | assumption | exact isRow.ob (by assumption) | exact isHnd.ob (by assumption) | exact isUnt.ob (by assumption) | exact isSt.ob (by assumption) | exact isHist.ob (by assumption) | exact isTxt.ob (by assumption) | exact isLac.ob (by assumption) | exact hset_s | exact (hset_n (by first | assumption | omega)).trans (by first | assumption | exact isRow.ob (by assumption) | exact isHnd.ob (by assumption) | exact isUnt.ob (by assumption) | exact isSt.ob (by assumption) | exact isHist.ob (by assumption) | exact isTxt.ob (by assumption) | exact isLac.ob (by assumption) | exact hset_s | exact (hset_n (by first | assumption | omega)).trans (by first | assumption | exact isRow.ob (by assumption) | exact isHnd.ob (by assumption) | exact isUnt.ob (by assumption) | exact isSt.ob (by assumption) | exact isHist.ob (by assumption) | exact isTxt.ob (by assumption) | exact isLac.ob (by assumption) | exact hset_s | exact (hset_n (by first | assumption | omega)).trans (by first | assumption | exact isRow.ob (by assumption) | exact isHnd.ob (by assumption) | exact isUnt.ob (by assumption) | exact isSt.ob (by assumption) | exact isHist.ob (by assumption) | exact isTxt.ob (by assumption) | exact isLac.ob (by assumption))))) (vp_in_nI (by omega) (by omega)) ?_
        rw [nI_clamp (by omega), a2 _ (by omega)]
        refine J_aload_n dX3_multiply_60 (by rfl) ?_
        refine J_iload dX3_multiply_61 (by rfl) ?_
        refine J_iconst (v := nI 4) dX3_multiply_63 (by decide) ?_
        refine J_imul dX3_multiply_64 ?_
        rw [pk_mul]
        refine J_iload dX3_multiply_65 (by rfl) ?_
        refine J_iadd dX3_multiply_67 ?_
        rw [nI_add]
        refine J_iald dX3_multiply_68 (by first | assumption | exact isRow.ob (by assumption) | exact isHnd.ob (by assumption) | exact isUnt.ob (by assumption) | exact isSt.ob (by assumption) | exact isHist.ob (by assumption) | exact isTxt.ob (by assumption) | exact isLac.ob (by assumption) | exact hset_s | exact (hset_n (by first | assumption | omega)).trans (by first | assumption | exact isRow.ob (by assumption) | exact isHnd.ob (by assumption) | exact isUnt.ob (by assumption) | exact isSt.ob (by assumption) | exact isHist.ob (by assumption) | exact isTxt.ob (by assumption) | exact isLac.ob (by assumption) | exact hset_s | exact (hset_n (by first | assumption | omega)).trans (by first | assumption | exact isRow.ob (by assumption) | exact isHnd.ob (by assumption) | exact isUnt.ob (by assumption) | exact isSt.ob (by assumption) | exact isHist.ob (by assumption) | exact isTxt.ob (by assumption) | exact isLac.ob (by assumption) | exact hset_s | exact (hset_n (by first | assumption | omega)).trans (by first | assumption | exact isRow.ob (by assumption) | exact isHnd.ob (by assumption) | exact isUnt.ob (by assumption) | exact isSt.ob (by assumption) | exact isHist.ob (by assumption) | exact isTxt.ob (by assumption) | exact isLac.ob (by assumption))))) (vp_in_nI (by omega) (by omega)) ?_
        rw [nI_clamp (by omega), b2 _ (by omega)]
        refine J_imul dX3_multiply_69 ?_
        rw [pk_mul]
        refine J_iadd dX3_multiply_70 ?_
        rw [nI_add]
        refine J_istore dX3_multiply_71 (by decide) (by rfl) ?_
        refine J_iincN dX3_multiply_73 (by rfl) (by decide) (by rfl) ?_
        refine J_goto (tgt := 44) dX3_multiply_76 (by decide) ?_
        exact J_sub (by repeat (first | exact subl_nil | refine subl_cons rfl ?_)) (ih (k + 1) r c _ _ (by omega) hr hc k1 k2 k3 hf kk)
  have middle : ∀ (j c r : Nat) (hh : HP) (n1 : Nat), c + j = 4 → r < 4 → hh t1 = h t1 → hh t2 = h t2 → (∃ f, hh t3 = some (.inl (G.2.1 0, 16, .inl f)) ∧ ∀ i, i < r * 4 + c → f i = nI (mmul A B i)) → fr t3 (t3 + 1) h hh → (∀ (hh : HP) (n1 : Nat), hh t1 = h t1 → hh t2 = h t2 → (∃ f, hh t3 = some (.inl (G.2.1 0, 16, .inl f)) ∧ ∀ i, i < (r + 1) * 4 → f i = nI (mmul A B i)) → fr t3 (t3 + 1) h hh → J (g0 G) mm_X3_multiply 0 24 [(0, .ref t1), (1, .ref t2), (2, .ref t3), (3, .int (nI (r + 1)))] [] hh n1 0 0 (RT mm_X3_multiply (fun v h' _ => v = none ∧ isMat G h' t3 (mmul A B) ∧ fr t3 (t3 + 1) h h'))) → J (g0 G) mm_X3_multiply 0 32 [(0, .ref t1), (1, .ref t2), (2, .ref t3), (3, .int (nI r)), (4, .int (nI c))] [] hh n1 0 0 (RT mm_X3_multiply (fun v h' _ => v = none ∧ isMat G h' t3 (mmul A B) ∧ fr t3 (t3 + 1) h h')) := by
    intro j
    induction j with
    | zero =>
      intro c r hh n1 hj hr k1 k2 k3 hf kk
      refine J_iload dX3_multiply_32 (by rfl) ?_
      refine J_iconst (v := nI 4) dX3_multiply_34 (by decide) ?_
      refine J_icmp_ge (tgt := 99) dX3_multiply_35 (by decide) (fun c35 => ?_) (fun c35 => ?_)
      · rw [nI_leI (by omega) (by omega)] at c35
        refine J_iincN dX3_multiply_99 (by rfl) (by decide) (by rfl) ?_
        refine J_goto (tgt := 24) dX3_multiply_102 (by decide) ?_
        exact J_sub (by repeat (first | exact subl_nil | refine subl_cons rfl ?_)) (kk _ _ k1 k2 (by obtain ⟨f, g1, g2⟩ := k3; exact ⟨f, g1, fun i hi => g2 i (by omega)⟩) hf)
      · rw [nI_leI (by omega) (by omega)] at c35
        exact absurd (by omega) c35
    | succ j ih =>
      intro c r hh n1 hj hr k1 k2 k3 hf kk
      refine J_iload dX3_multiply_32 (by rfl) ?_
      refine J_iconst (v := nI 4) dX3_multiply_34 (by decide) ?_
      refine J_icmp_ge (tgt := 99) dX3_multiply_35 (by decide) (fun c35 => ?_) (fun c35 => ?_)
      · rw [nI_leI (by omega) (by omega)] at c35
        exact absurd c35 (by omega)
      · rw [nI_leI (by omega) (by omega)] at c35
        refine J_iconst (v := 0) dX3_multiply_38 (by decide) ?_
        refine J_istore dX3_multiply_39 (by decide) (by rfl) ?_
        refine J_iconst (v := 0) dX3_multiply_41 (by decide) ?_
        refine J_istore dX3_multiply_42 (by decide) (by rfl) ?_
        exact J_sub (by repeat (first | exact subl_nil | refine subl_cons rfl ?_)) (inner 4 0 r c _ _ (by omega) hr (by omega) k1 k2 k3 hf (fun hh n1 k1 k2 k3 hf => ih (c + 1) r hh n1 (by omega) hr k1 k2 k3 hf kk))
  have outer : ∀ (j r : Nat) (hh : HP) (n1 : Nat), r + j = 4 → hh t1 = h t1 → hh t2 = h t2 → (∃ f, hh t3 = some (.inl (G.2.1 0, 16, .inl f)) ∧ ∀ i, i < r * 4 → f i = nI (mmul A B i)) → fr t3 (t3 + 1) h hh → J (g0 G) mm_X3_multiply 0 24 [(0, .ref t1), (1, .ref t2), (2, .ref t3), (3, .int (nI r))] [] hh n1 0 0 (RT mm_X3_multiply (fun v h' _ => v = none ∧ isMat G h' t3 (mmul A B) ∧ fr t3 (t3 + 1) h h')) := by
    intro j
    induction j with
    | zero =>
      intro r hh n1 hj k1 k2 k3 hf
      obtain rfl : r = 4 := by omega
      obtain ⟨f, g1, g2⟩ := k3
      refine J_iload_n dX3_multiply_24 (by rfl) ?_
      refine J_iconst (v := nI 4) dX3_multiply_25 (by decide) ?_
      refine J_icmp_ge (tgt := 105) dX3_multiply_26 (by decide) (fun c26 => ?_) (fun c26 => ?_)
      · rw [nI_leI (by omega) (by omega)] at c26
        exact J_return dX3_multiply_105 rfl (⟨rfl, ⟨f, g1, fun i hi => g2 i (by omega)⟩, hf⟩)
      · rw [nI_leI (by omega) (by omega)] at c26
        exact absurd (by omega) c26
    | succ j ih =>
      intro r hh n1 hj k1 k2 k3 hf
      refine J_iload_n dX3_multiply_24 (by rfl) ?_
      refine J_iconst (v := nI 4) dX3_multiply_25 (by decide) ?_
      refine J_icmp_ge (tgt := 105) dX3_multiply_26 (by decide) (fun c26 => ?_) (fun c26 => ?_)
      · rw [nI_leI (by omega) (by omega)] at c26
        exact absurd c26 (by omega)
      · rw [nI_leI (by omega) (by omega)] at c26
        refine J_iconst (v := 0) dX3_multiply_29 (by decide) ?_
        refine J_istore dX3_multiply_30 (by decide) (by rfl) ?_
        exact J_sub (by repeat (first | exact subl_nil | refine subl_cons rfl ?_)) (middle 4 0 r _ _ (by omega) (by omega) k1 k2 k3 hf (fun hh n1 k1 k2 k3 hf => ih (r + 1) hh n1 (by omega) k1 k2 k3 hf))
  refine J_aload_n dX3_multiply_0 (by rfl) ?_
  refine J_alen (t := 0) (by decide) dX3_multiply_1 (by first | assumption | exact isRow.ob (by assumption) | exact isHnd.ob (by assumption) | exact isUnt.ob (by assumption) | exact isSt.ob (by assumption) | exact isHist.ob (by assumption) | exact isTxt.ob (by assumption) | exact isLac.ob (by assumption) | exact hset_s | exact (hset_n (by first | assumption | omega)).trans (by first | assumption | exact isRow.ob (by assumption) | exact isHnd.ob (by assumption) | exact isUnt.ob (by assumption) | exact isSt.ob (by assumption) | exact isHist.ob (by assumption) | exact isTxt.ob (by assumption) | exact isLac.ob (by assumption) | exact hset_s | exact (hset_n (by first | assumption | omega)).trans (by first | assumption | exact isRow.ob (by assumption) | exact isHnd.ob (by assumption) | exact isUnt.ob (by assumption) | exact isSt.ob (by assumption) | exact isHist.ob (by assumption) | exact isTxt.ob (by assumption) | exact isLac.ob (by assumption) | exact hset_s | exact (hset_n (by first | assumption | omega)).trans (by first | assumption | exact isRow.ob (by assumption) | exact isHnd.ob (by assumption) | exact isUnt.ob (by assumption) | exact isSt.ob (by assumption) | exact isHist.ob (by assumption) | exact isTxt.ob (by assumption) | exact isLac.ob (by assumption))))) ?_
  refine J_bipush (v := 16) dX3_multiply_2 (by decide) ?_
  refine J_icmp_lt (tgt := 21) dX3_multiply_4 (by decide) (fun c4 => ?_) (fun c4 => ?_)
  · exact absurd c4 (show ¬ Int32.ofNat 16 < 16 by decide)
  · refine J_aload_n dX3_multiply_7 (by rfl) ?_
    refine J_alen (t := 0) (by decide) dX3_multiply_8 (by first | assumption | exact isRow.ob (by assumption) | exact isHnd.ob (by assumption) | exact isUnt.ob (by assumption) | exact isSt.ob (by assumption) | exact isHist.ob (by assumption) | exact isTxt.ob (by assumption) | exact isLac.ob (by assumption) | exact hset_s | exact (hset_n (by first | assumption | omega)).trans (by first | assumption | exact isRow.ob (by assumption) | exact isHnd.ob (by assumption) | exact isUnt.ob (by assumption) | exact isSt.ob (by assumption) | exact isHist.ob (by assumption) | exact isTxt.ob (by assumption) | exact isLac.ob (by assumption) | exact hset_s | exact (hset_n (by first | assumption | omega)).trans (by first | assumption | exact isRow.ob (by assumption) | exact isHnd.ob (by assumption) | exact isUnt.ob (by assumption) | exact isSt.ob (by assumption) | exact isHist.ob (by assumption) | exact isTxt.ob (by assumption) | exact isLac.ob (by assumption) | exact hset_s | exact (hset_n (by first | assumption | omega)).trans (by first | assumption | exact isRow.ob (by assumption) | exact isHnd.ob (by assumption) | exact isUnt.ob (by assumption) | exact isSt.ob (by assumption) | exact isHist.ob (by assumption) | exact isTxt.ob (by assumption) | exact isLac.ob (by assumption))))) ?_
    refine J_bipush (v := 16) dX3_multiply_9 (by decide) ?_
    refine J_icmp_lt (tgt := 21) dX3_multiply_11 (by decide) (fun c11 => ?_) (fun c11 => ?_)
    · exact absurd c11 (show ¬ Int32.ofNat 16 < 16 by decide)
    · refine J_aload_n dX3_multiply_14 (by rfl) ?_
      refine J_alen (t := 0) (by decide) dX3_multiply_15 (by first | assumption | exact isRow.ob (by assumption) | exact isHnd.ob (by assumption) | exact isUnt.ob (by assumption) | exact isSt.ob (by assumption) | exact isHist.ob (by assumption) | exact isTxt.ob (by assumption) | exact isLac.ob (by assumption) | exact hset_s | exact (hset_n (by first | assumption | omega)).trans (by first | assumption | exact isRow.ob (by assumption) | exact isHnd.ob (by assumption) | exact isUnt.ob (by assumption) | exact isSt.ob (by assumption) | exact isHist.ob (by assumption) | exact isTxt.ob (by assumption) | exact isLac.ob (by assumption) | exact hset_s | exact (hset_n (by first | assumption | omega)).trans (by first | assumption | exact isRow.ob (by assumption) | exact isHnd.ob (by assumption) | exact isUnt.ob (by assumption) | exact isSt.ob (by assumption) | exact isHist.ob (by assumption) | exact isTxt.ob (by assumption) | exact isLac.ob (by assumption) | exact hset_s | exact (hset_n (by first | assumption | omega)).trans (by first | assumption | exact isRow.ob (by assumption) | exact isHnd.ob (by assumption) | exact isUnt.ob (by assumption) | exact isSt.ob (by assumption) | exact isHist.ob (by assumption) | exact isTxt.ob (by assumption) | exact isLac.ob (by assumption))))) ?_
      refine J_bipush (v := 16) dX3_multiply_16 (by decide) ?_
      refine J_icmp_ge (tgt := 22) dX3_multiply_18 (by decide) (fun c18 => ?_) (fun c18 => ?_)
      · refine J_iconst (v := 0) dX3_multiply_22 (by decide) ?_
        refine J_istore_n dX3_multiply_23 (by decide) (by rfl) ?_
        exact J_sub (by repeat (first | exact subl_nil | refine subl_cons rfl ?_)) (outer 4 0 _ _ (by omega) rfl rfl ⟨f3, w3, fun i hi => absurd hi (by omega)⟩ fr_rf)
      · exact absurd (show (16 : Int32) ≤ Int32.ofNat 16 by decide) c18
