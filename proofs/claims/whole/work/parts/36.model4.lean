/-! the reference: laces, measures, counts -/
theorem no1 {A B : Prop} (h : ¬ A) : ¬ (A ∧ B) := fun q => h q.1
theorem no2 {A B : Prop} (h : ¬ B) : ¬ (A ∧ B) := fun q => h q.2
theorem lacA_inj {l : Nat → Nat} {R : Nat} (hR1 : 1 ≤ R) (hR3 : R ≤ 3) (hl : ∀ i j, i < 4 → j < 4 → l i = l j → i = j) : ∀ i j, i < 4 → j < 4 → lacA l R i = lacA l R j → i = j := by
  intro i j hi hj h
  unfold lacA at h
  by_cases a : i = R
  · by_cases b : j = R
    · omega
    · rw [if_pos a, if_neg b] at h
      by_cases c : j = R - 1
      · rw [if_pos c] at h
        have := hl _ _ (by omega) (by omega) h
        omega
      · rw [if_neg c] at h
        have := hl _ _ (by omega) (by omega) h
        omega
  · rw [if_neg a] at h
    by_cases b : j = R
    · rw [if_pos b] at h
      by_cases c : i = R - 1
      · rw [if_pos c] at h
        have := hl _ _ (by omega) (by omega) h
        omega
      · rw [if_neg c] at h
        have := hl _ _ (by omega) (by omega) h
        omega
    · rw [if_neg b] at h
      by_cases c : i = R - 1
      · rw [if_pos c] at h
        by_cases d : j = R - 1
        · omega
        · rw [if_neg d] at h
          have := hl _ _ (by omega) (by omega) h
          omega
      · rw [if_neg c] at h
        by_cases d : j = R - 1
        · rw [if_pos d] at h
          have := hl _ _ (by omega) (by omega) h
          omega
        · rw [if_neg d] at h
          exact hl _ _ hi hj h
theorem lac_inj {xs : List Int32} (hx : allX xs) : ∀ k, k ≤ xs.length → ∀ i j, i < 4 → j < 4 → (lac xs k).1 i = (lac xs k).1 j → i = j := by
  intro k
  induction k with
  | zero => intro _ i j _ _ h; exact h
  | succ k ih =>
    intro hk
    obtain ⟨R, h1, h3, hR⟩ := rk_nat (hx k (by omega))
    rw [lac, hR, nI_clamp (by omega)]
    exact lacA_inj h1 h3 (ih (by omega))
def isB (xs : List Int32) (a b k : Nat) : Prop := ((lac xs k).1 ((rk (xs.getD k 0)).toNatClampNeg - 1) = a ∧ (lac xs k).1 (rk (xs.getD k 0)).toNatClampNeg = b) ∨ ((lac xs k).1 ((rk (xs.getD k 0)).toNatClampNeg - 1) = b ∧ (lac xs k).1 (rk (xs.getD k 0)).toNatClampNeg = a)
theorem lac_sum {xs : List Int32} (hx : allX xs) {k a b : Nat} (hk : k < xs.length) (ha : a < 4) (hb : b < 4) : (isB xs a b k → (lac xs (k + 1)).2 (a * 4 + b) = (lac xs k).2 (a * 4 + b) + sg (xs.getD k 0)) ∧ (¬ isB xs a b k → (lac xs (k + 1)).2 (a * 4 + b) = (lac xs k).2 (a * 4 + b)) := by
  obtain ⟨R, h1, h3, hR⟩ := rk_nat (hx k hk)
  have hlt := lac_lt hx k (by omega)
  have hinj := lac_inj hx k (by omega)
  have l1 := hlt (R - 1) (by omega)
  have l2 := hlt R (by omega)
  have ne : (lac xs k).1 (R - 1) ≠ (lac xs k).1 R := fun q => by
    have := hinj _ _ (by omega) (by omega) q
    omega
  unfold isB
  rw [lac, hR, nI_clamp (by omega)]
  show (_ → lacB _ _ _ _ = _) ∧ (_ → lacB _ _ _ _ = _)
  generalize (lac xs k).1 (R - 1) = u at l1 ne
  generalize (lac xs k).1 R = v at l2 ne
  unfold lacB
  constructor
  · rintro (⟨rfl, rfl⟩ | ⟨rfl, rfl⟩)
    · rw [if_neg (by omega), if_pos rfl]
    · rw [if_pos rfl, if_neg (by omega)]
  · intro q
    rw [if_neg (fun e => q (Or.inr ⟨by omega, by omega⟩)), if_neg (fun e => q (Or.inl ⟨by omega, by omega⟩))]
def tO (x r c : Int32) : Int32 := if (rk x - 1 ≤ r ∧ r ≤ rk x) ∧ (rk x - 1 ≤ c ∧ c ≤ rk x) then (if 0 < x then (if r = rk x - 1 then (if c = rk x - 1 then 10006 else 2) else (if c = rk x - 1 then 1 else 0)) else (if r = rk x - 1 then (if c = rk x - 1 then 0 else 1) else 5004)) else if r = c then 1 else 0
theorem tO_X {x : Int32} (h : isX x) : ∀ r, r < 4 → ∀ c, c < 4 → tO x (nI r) (nI c) = nI (mone x (r * 4 + c)) := by
  unfold isX at h
  rcases h with rfl | rfl | rfl | rfl | rfl | rfl <;> decide +kernel
def mmq (T M : Nat → Nat) (r c : Nat) : Nat → Nat
  | 0 => 0
  | k + 1 => mmq T M r c k + T (r * 4 + k) * M (k * 4 + c) % 10007
theorem mmq_le (T M : Nat → Nat) (r c : Nat) : ∀ k, mmq T M r c k ≤ k * 10006 := by
  intro k
  induction k with
  | zero => exact Nat.le_refl _
  | succ k ih =>
    have := Nat.mod_lt (T (r * 4 + k) * M (k * 4 + c)) (show 0 < 10007 by omega)
    rw [mmq]
    omega
theorem mmq_mod (T M : Nat → Nat) (r c : Nat) : ∀ k, mmq T M r c k % 10007 = mmulS T M r c k % 10007 := by
  intro k
  induction k with
  | zero => rfl
  | succ k ih => rw [mmq, mmulS, Nat.add_mod, ih, Nat.mod_mod, ← Nat.add_mod]
theorem mmq_mul (T M : Nat → Nat) (i : Nat) : mmq T M (i / 4) (i % 4) 4 % 10007 = mmul T M i := mmq_mod T M _ _ 4
theorem prod_lt {a b : Nat} (ha : a < 10007) (hb : b < 10007) : a * b < 2 ^ 31 := Nat.lt_of_le_of_lt (Nat.mul_le_mul (by omega : a ≤ 10006) (by omega : b ≤ 10006)) (by decide)
def tws (xs : List Int32) : Nat → Int32
  | 0 => 0
  | k + 1 => tws xs k + sg (xs.getD k 0)
theorem i_step1 (a b : Int32) : 2 * (a + 1) - (b + 1) = 2 * a - b + 1 := by grind
theorem i_step2 (a b : Int32) : 2 * a - (b + 1) = 2 * a - b + -1 := by grind
theorem tws_eq {xs : List Int32} (hx : allX xs) : ∀ k, k ≤ xs.length → tws xs k = 2 * nI (ovr (xs.take k)) - nI k := by
  intro k
  induction k with
  | zero =>
    intro _
    show (0 : Int32) = 2 * nI (ovr []) - nI 0
    decide
  | succ k ih =>
    intro hk
    rw [tws, ih (by omega), ovr_take (by omega)]
    have hX := hx k (by omega)
    by_cases c : 0 < xs.getD k 0
    · have e : sg (xs.getD k 0) = 1 := by
        unfold isX at hX
        generalize xs.getD k 0 = z at hX c
        rcases hX with rfl | rfl | rfl | rfl | rfl | rfl <;> first | decide | exact absurd c (by decide)
      rw [if_pos c, e, ← nI_1, ← nI_1, i_step1]
    · have e : sg (xs.getD k 0) = -1 := by
        unfold isX at hX
        generalize xs.getD k 0 = z at hX c
        rcases hX with rfl | rfl | rfl | rfl | rfl | rfl <;> first | decide | exact absurd (by decide) c
      rw [if_neg c, e, Nat.add_zero, ← nI_1, i_step2]
theorem twi_tws {xs : List Int32} (hx : allX xs) : tws xs xs.length = twi xs := by
  have := tws_eq hx xs.length (Nat.le_refl _)
  rwa [List.take_length] at this
section MD
variable {G : GG} {h h' : HP} {y : Nat} {σ : Sg} {xs : List Int32} {t b e hd lg a rc rt sm hs ln rl : Int32} {hh : Int64}
theorem isMt_fr2 {lo hi : Nat} (w : isMt G h y σ xs t b e hd lg a rc rt hh) (k : fr lo hi h h') (h1 : y + 7 ≤ lo) (h2 : hi ≤ y + 10) (f7 : ∃ f, h' (y + 7) = some (iA G 4 f)) (f8 : ∃ f, h' (y + 8) = some (iA G 16 f)) (f9 : ∃ f, h' (y + 9) = some (iA G 16 f)) : isMt G h' y σ xs t b e hd lg a rc rt hh ∧ fr y (y + 10) h h' := by
  obtain ⟨o, p, s1, ⟨f6, s2⟩, -⟩ := w
  exact ⟨⟨(k _ (by omega)).trans o, p.keep (fun q _ _ => k q (by omega)), s1.keep (k _ (by omega)), ⟨f6, (k _ (by omega)).trans s2⟩, f7, f8, f9⟩, fr_mono k (by omega) (by omega)⟩
set_option maxRecDepth 20000 in
theorem sp_X10_layLaces (w : isMt G h y σ xs t b e hd lg a rc rt hh) (o : okS σ) {m : Nat} (hm : m ≤ σ.1.1.length) (n : Nat) : Sp G mm_X10_layLaces 1 0 0 [.ref y, .int (nI m)] h n (fun v h' _ => v = none ∧ isMt G h' y σ xs t b e hd lg a rc rt hh ∧ (∃ f, h' (y + 7) = some (iA G 4 f) ∧ ∀ j, j < 4 → f j = nI ((lac σ.1.1 m).1 j)) ∧ fr (y + 7) (y + 8) h h') := by
  refine Sp_of (by decide +kernel) (Nat.le_of_ble_eq_true rfl) ?_
  obtain ⟨ob, p, s1, s2, ⟨fl, s3⟩, s4, s5⟩ := id w
  obtain ⟨⟨f1, p1, q1, q2, q3, q4⟩, p'⟩ := id p
  have hx := o.1.1
  have two : ∀ (j k : Nat) (h1 : HP) (n1 : Nat) (f : Nat → Int32), k + j = m → h1 (y + 7) = some (iA G 4 f) → (∀ j, j < 4 → f j = nI ((lac σ.1.1 k).1 j)) → fr (y + 7) (y + 8) h h1 → J (g0 G) mm_X10_layLaces 1 22 [(0, .ref y), (1, .int (nI m)), (2, .int (nI k))] [] h1 n1 0 0 (RT mm_X10_layLaces (fun v h' _ => v = none ∧ isMt G h' y σ xs t b e hd lg a rc rt hh ∧ (∃ f, h' (y + 7) = some (iA G 4 f) ∧ ∀ j, j < 4 → f j = nI ((lac σ.1.1 m).1 j)) ∧ fr (y + 7) (y + 8) h h')) := by
    intro j
    induction j with
    | zero =>
      intro k h1 n1 f hj g1 g2 kk
      obtain rfl : k = m := by omega
      have fin := isMt_fr2 w kk (by omega) (by omega) ⟨f, g1⟩ (by obtain ⟨f, u⟩ := s4; exact ⟨f, (kk _ (by omega)).trans u⟩) (by obtain ⟨f, u⟩ := s5; exact ⟨f, (kk _ (by omega)).trans u⟩)
      refine J_iload_n dX10_layLaces_22 (by rfl) ?_
      refine J_iload_n dX10_layLaces_23 (by rfl) ?_
      refine J_icmp_ge (tgt := 74) dX10_layLaces_24 (by decide) (fun c24 => ?_) (fun c24 => ?_)
      · rw [nI_leI (by omega) (by omega)] at c24
        exact J_return dX10_layLaces_74 rfl (⟨rfl, fin.1, ⟨f, g1, g2⟩, kk⟩)
      · rw [nI_leI (by omega) (by omega)] at c24
        exact absurd (by omega) c24
    | succ j ih =>
      intro k h1 n1 f hj g1 g2 kk
      have o2 := (kk y (by omega)).trans ob
      have p2 := (kk (y + 1) (by omega)).trans p1
      obtain ⟨R, hR1, hR3, hR⟩ := rk_nat (hx k (by omega))
      have hnext : ∀ j, j < 4 → upd (upd f (R - 1) (nI ((lac σ.1.1 k).1 R))) R (nI ((lac σ.1.1 k).1 (R - 1))) j = nI ((lac σ.1.1 (k + 1)).1 j) := by
        intro j hj
        rw [lac, hR, nI_clamp (by omega)]
        show _ = nI (lacA _ _ _)
        unfold lacA
        by_cases a : j = R
        · subst a; rw [upd_s, if_pos rfl]
        · rw [upd_n a, if_neg a]
          by_cases c : j = R - 1
          · subst c; rw [upd_s, if_pos rfl]
          · rw [upd_n c, if_neg c]; exact g2 j hj
      refine J_iload_n dX10_layLaces_22 (by rfl) ?_
      refine J_iload_n dX10_layLaces_23 (by rfl) ?_
      refine J_icmp_ge (tgt := 74) dX10_layLaces_24 (by decide) (fun c24 => ?_) (fun c24 => ?_)
      · rw [nI_leI (by omega) (by omega)] at c24
        exact absurd c24 (by omega)
      · rw [nI_leI (by omega) (by omega)] at c24
        refine J_aload_n dX10_layLaces_27 (by rfl) ?_
        refine J_iload_n dX10_layLaces_28 (by rfl) ?_
        refine J_callV mf_X10_of lk_X10_62 mi_X10_of mv_X10_of (sp_X10_of o2 p2 (k := k) (by omega) _) dX10_layLaces_29 (by first | assumption | exact isLT.ob (by assumption) | exact isMt.ob (by assumption) | exact isRow.ob (by assumption) | exact isHnd.ob (by assumption) | exact isUnt.ob (by assumption) | exact isSt.ob (by assumption) | exact isHist.ob (by assumption) | exact isTxt.ob (by assumption) | exact isLac.ob (by assumption) | exact isMea.ob (by assumption) | exact hset_s | exact (hset_n (by first | assumption | omega)).trans (by first | assumption | exact isLT.ob (by assumption) | exact isMt.ob (by assumption) | exact isRow.ob (by assumption) | exact isHnd.ob (by assumption) | exact isUnt.ob (by assumption) | exact isSt.ob (by assumption) | exact isHist.ob (by assumption) | exact isTxt.ob (by assumption) | exact isLac.ob (by assumption) | exact isMea.ob (by assumption) | exact hset_s | exact (hset_n (by first | assumption | omega)).trans (by first | assumption | exact isLT.ob (by assumption) | exact isMt.ob (by assumption) | exact isRow.ob (by assumption) | exact isHnd.ob (by assumption) | exact isUnt.ob (by assumption) | exact isSt.ob (by assumption) | exact isHist.ob (by assumption) | exact isTxt.ob (by assumption) | exact isLac.ob (by assumption) | exact isMea.ob (by assumption) | exact hset_s | exact (hset_n (by first | assumption | omega)).trans (by first | assumption | exact isLT.ob (by assumption) | exact isMt.ob (by assumption) | exact isRow.ob (by assumption) | exact isHnd.ob (by assumption) | exact isUnt.ob (by assumption) | exact isSt.ob (by assumption) | exact isHist.ob (by assumption) | exact isTxt.ob (by assumption) | exact isLac.ob (by assumption) | exact isMea.ob (by assumption))))) rfl rfl (by decide) (by rfl) rfl (Nat.le_of_ble_eq_true rfl) (Nat.zero_add _) (Nat.zero_add _) (fun v29 h29 n29 q29 => ?_)
        obtain ⟨rfl, rfl⟩ := q29
        rw [q4 k (by omega)]
        refine J_callS mf_X10_rankOf lk_X10_68 ms_X10_rankOf (sp_X10_rankOf _ (σ.1.1.getD k 0) _) dX10_layLaces_32 (by decide) (by rfl) rfl (Nat.le_of_ble_eq_true rfl) (Nat.zero_add _) (Nat.zero_add _) (fun v32 h32 n32 q32 => ?_)
        obtain ⟨rfl, rfl⟩ := q32
        rw [hR]
        refine J_istore_n dX10_layLaces_35 (by decide) (by rfl) ?_
        refine J_aload_n dX10_layLaces_36 (by rfl) ?_
        refine J_get fg_X10_28 dX10_layLaces_37 (by first | assumption | exact isLT.ob (by assumption) | exact isMt.ob (by assumption) | exact isRow.ob (by assumption) | exact isHnd.ob (by assumption) | exact isUnt.ob (by assumption) | exact isSt.ob (by assumption) | exact isHist.ob (by assumption) | exact isTxt.ob (by assumption) | exact isLac.ob (by assumption) | exact isMea.ob (by assumption) | exact hset_s | exact (hset_n (by first | assumption | omega)).trans (by first | assumption | exact isLT.ob (by assumption) | exact isMt.ob (by assumption) | exact isRow.ob (by assumption) | exact isHnd.ob (by assumption) | exact isUnt.ob (by assumption) | exact isSt.ob (by assumption) | exact isHist.ob (by assumption) | exact isTxt.ob (by assumption) | exact isLac.ob (by assumption) | exact isMea.ob (by assumption) | exact hset_s | exact (hset_n (by first | assumption | omega)).trans (by first | assumption | exact isLT.ob (by assumption) | exact isMt.ob (by assumption) | exact isRow.ob (by assumption) | exact isHnd.ob (by assumption) | exact isUnt.ob (by assumption) | exact isSt.ob (by assumption) | exact isHist.ob (by assumption) | exact isTxt.ob (by assumption) | exact isLac.ob (by assumption) | exact isMea.ob (by assumption) | exact hset_s | exact (hset_n (by first | assumption | omega)).trans (by first | assumption | exact isLT.ob (by assumption) | exact isMt.ob (by assumption) | exact isRow.ob (by assumption) | exact isHnd.ob (by assumption) | exact isUnt.ob (by assumption) | exact isSt.ob (by assumption) | exact isHist.ob (by assumption) | exact isTxt.ob (by assumption) | exact isLac.ob (by assumption) | exact isMea.ob (by assumption))))) (by rfl) ?_
        refine J_iload_n dX10_layLaces_40 (by rfl) ?_
        refine J_iconst (v := nI 1) dX10_layLaces_41 (by decide) ?_
        refine J_isub dX10_layLaces_42 ?_
        rw [pk_sub (by omega)]
        refine J_rd dX10_layLaces_43 (by first | assumption | exact isLT.ob (by assumption) | exact isMt.ob (by assumption) | exact isRow.ob (by assumption) | exact isHnd.ob (by assumption) | exact isUnt.ob (by assumption) | exact isSt.ob (by assumption) | exact isHist.ob (by assumption) | exact isTxt.ob (by assumption) | exact isLac.ob (by assumption) | exact isMea.ob (by assumption) | exact hset_s | exact (hset_n (by first | assumption | omega)).trans (by first | assumption | exact isLT.ob (by assumption) | exact isMt.ob (by assumption) | exact isRow.ob (by assumption) | exact isHnd.ob (by assumption) | exact isUnt.ob (by assumption) | exact isSt.ob (by assumption) | exact isHist.ob (by assumption) | exact isTxt.ob (by assumption) | exact isLac.ob (by assumption) | exact isMea.ob (by assumption) | exact hset_s | exact (hset_n (by first | assumption | omega)).trans (by first | assumption | exact isLT.ob (by assumption) | exact isMt.ob (by assumption) | exact isRow.ob (by assumption) | exact isHnd.ob (by assumption) | exact isUnt.ob (by assumption) | exact isSt.ob (by assumption) | exact isHist.ob (by assumption) | exact isTxt.ob (by assumption) | exact isLac.ob (by assumption) | exact isMea.ob (by assumption) | exact hset_s | exact (hset_n (by first | assumption | omega)).trans (by first | assumption | exact isLT.ob (by assumption) | exact isMt.ob (by assumption) | exact isRow.ob (by assumption) | exact isHnd.ob (by assumption) | exact isUnt.ob (by assumption) | exact isSt.ob (by assumption) | exact isHist.ob (by assumption) | exact isTxt.ob (by assumption) | exact isLac.ob (by assumption) | exact isMea.ob (by assumption))))) (by first | assumption | omega) (by decide) (g2 _ (by omega)) ?_
        refine J_istore dX10_layLaces_44 (by decide) (by rfl) ?_
        refine J_aload_n dX10_layLaces_46 (by rfl) ?_
        refine J_get fg_X10_28 dX10_layLaces_47 (by first | assumption | exact isLT.ob (by assumption) | exact isMt.ob (by assumption) | exact isRow.ob (by assumption) | exact isHnd.ob (by assumption) | exact isUnt.ob (by assumption) | exact isSt.ob (by assumption) | exact isHist.ob (by assumption) | exact isTxt.ob (by assumption) | exact isLac.ob (by assumption) | exact isMea.ob (by assumption) | exact hset_s | exact (hset_n (by first | assumption | omega)).trans (by first | assumption | exact isLT.ob (by assumption) | exact isMt.ob (by assumption) | exact isRow.ob (by assumption) | exact isHnd.ob (by assumption) | exact isUnt.ob (by assumption) | exact isSt.ob (by assumption) | exact isHist.ob (by assumption) | exact isTxt.ob (by assumption) | exact isLac.ob (by assumption) | exact isMea.ob (by assumption) | exact hset_s | exact (hset_n (by first | assumption | omega)).trans (by first | assumption | exact isLT.ob (by assumption) | exact isMt.ob (by assumption) | exact isRow.ob (by assumption) | exact isHnd.ob (by assumption) | exact isUnt.ob (by assumption) | exact isSt.ob (by assumption) | exact isHist.ob (by assumption) | exact isTxt.ob (by assumption) | exact isLac.ob (by assumption) | exact isMea.ob (by assumption) | exact hset_s | exact (hset_n (by first | assumption | omega)).trans (by first | assumption | exact isLT.ob (by assumption) | exact isMt.ob (by assumption) | exact isRow.ob (by assumption) | exact isHnd.ob (by assumption) | exact isUnt.ob (by assumption) | exact isSt.ob (by assumption) | exact isHist.ob (by assumption) | exact isTxt.ob (by assumption) | exact isLac.ob (by assumption) | exact isMea.ob (by assumption))))) (by rfl) ?_
        refine J_iload_n dX10_layLaces_50 (by rfl) ?_
        refine J_iconst (v := nI 1) dX10_layLaces_51 (by decide) ?_
        refine J_isub dX10_layLaces_52 ?_
        rw [pk_sub (by omega)]
        refine J_aload_n dX10_layLaces_53 (by rfl) ?_
        refine J_get fg_X10_28 dX10_layLaces_54 (by first | assumption | exact isLT.ob (by assumption) | exact isMt.ob (by assumption) | exact isRow.ob (by assumption) | exact isHnd.ob (by assumption) | exact isUnt.ob (by assumption) | exact isSt.ob (by assumption) | exact isHist.ob (by assumption) | exact isTxt.ob (by assumption) | exact isLac.ob (by assumption) | exact isMea.ob (by assumption) | exact hset_s | exact (hset_n (by first | assumption | omega)).trans (by first | assumption | exact isLT.ob (by assumption) | exact isMt.ob (by assumption) | exact isRow.ob (by assumption) | exact isHnd.ob (by assumption) | exact isUnt.ob (by assumption) | exact isSt.ob (by assumption) | exact isHist.ob (by assumption) | exact isTxt.ob (by assumption) | exact isLac.ob (by assumption) | exact isMea.ob (by assumption) | exact hset_s | exact (hset_n (by first | assumption | omega)).trans (by first | assumption | exact isLT.ob (by assumption) | exact isMt.ob (by assumption) | exact isRow.ob (by assumption) | exact isHnd.ob (by assumption) | exact isUnt.ob (by assumption) | exact isSt.ob (by assumption) | exact isHist.ob (by assumption) | exact isTxt.ob (by assumption) | exact isLac.ob (by assumption) | exact isMea.ob (by assumption) | exact hset_s | exact (hset_n (by first | assumption | omega)).trans (by first | assumption | exact isLT.ob (by assumption) | exact isMt.ob (by assumption) | exact isRow.ob (by assumption) | exact isHnd.ob (by assumption) | exact isUnt.ob (by assumption) | exact isSt.ob (by assumption) | exact isHist.ob (by assumption) | exact isTxt.ob (by assumption) | exact isLac.ob (by assumption) | exact isMea.ob (by assumption))))) (by rfl) ?_
        refine J_iload_n dX10_layLaces_57 (by rfl) ?_
        refine J_rd dX10_layLaces_58 (by first | assumption | exact isLT.ob (by assumption) | exact isMt.ob (by assumption) | exact isRow.ob (by assumption) | exact isHnd.ob (by assumption) | exact isUnt.ob (by assumption) | exact isSt.ob (by assumption) | exact isHist.ob (by assumption) | exact isTxt.ob (by assumption) | exact isLac.ob (by assumption) | exact isMea.ob (by assumption) | exact hset_s | exact (hset_n (by first | assumption | omega)).trans (by first | assumption | exact isLT.ob (by assumption) | exact isMt.ob (by assumption) | exact isRow.ob (by assumption) | exact isHnd.ob (by assumption) | exact isUnt.ob (by assumption) | exact isSt.ob (by assumption) | exact isHist.ob (by assumption) | exact isTxt.ob (by assumption) | exact isLac.ob (by assumption) | exact isMea.ob (by assumption) | exact hset_s | exact (hset_n (by first | assumption | omega)).trans (by first | assumption | exact isLT.ob (by assumption) | exact isMt.ob (by assumption) | exact isRow.ob (by assumption) | exact isHnd.ob (by assumption) | exact isUnt.ob (by assumption) | exact isSt.ob (by assumption) | exact isHist.ob (by assumption) | exact isTxt.ob (by assumption) | exact isLac.ob (by assumption) | exact isMea.ob (by assumption) | exact hset_s | exact (hset_n (by first | assumption | omega)).trans (by first | assumption | exact isLT.ob (by assumption) | exact isMt.ob (by assumption) | exact isRow.ob (by assumption) | exact isHnd.ob (by assumption) | exact isUnt.ob (by assumption) | exact isSt.ob (by assumption) | exact isHist.ob (by assumption) | exact isTxt.ob (by assumption) | exact isLac.ob (by assumption) | exact isMea.ob (by assumption))))) (by first | assumption | omega) (by decide) (g2 _ (by omega)) ?_
        refine J_wr dX10_layLaces_59 (by first | assumption | exact isLT.ob (by assumption) | exact isMt.ob (by assumption) | exact isRow.ob (by assumption) | exact isHnd.ob (by assumption) | exact isUnt.ob (by assumption) | exact isSt.ob (by assumption) | exact isHist.ob (by assumption) | exact isTxt.ob (by assumption) | exact isLac.ob (by assumption) | exact isMea.ob (by assumption) | exact hset_s | exact (hset_n (by first | assumption | omega)).trans (by first | assumption | exact isLT.ob (by assumption) | exact isMt.ob (by assumption) | exact isRow.ob (by assumption) | exact isHnd.ob (by assumption) | exact isUnt.ob (by assumption) | exact isSt.ob (by assumption) | exact isHist.ob (by assumption) | exact isTxt.ob (by assumption) | exact isLac.ob (by assumption) | exact isMea.ob (by assumption) | exact hset_s | exact (hset_n (by first | assumption | omega)).trans (by first | assumption | exact isLT.ob (by assumption) | exact isMt.ob (by assumption) | exact isRow.ob (by assumption) | exact isHnd.ob (by assumption) | exact isUnt.ob (by assumption) | exact isSt.ob (by assumption) | exact isHist.ob (by assumption) | exact isTxt.ob (by assumption) | exact isLac.ob (by assumption) | exact isMea.ob (by assumption) | exact hset_s | exact (hset_n (by first | assumption | omega)).trans (by first | assumption | exact isLT.ob (by assumption) | exact isMt.ob (by assumption) | exact isRow.ob (by assumption) | exact isHnd.ob (by assumption) | exact isUnt.ob (by assumption) | exact isSt.ob (by assumption) | exact isHist.ob (by assumption) | exact isTxt.ob (by assumption) | exact isLac.ob (by assumption) | exact isMea.ob (by assumption))))) (by first | assumption | omega) (by decide) ?_
        refine J_aload_n dX10_layLaces_60 (by rfl) ?_
        refine J_get fg_X10_28 dX10_layLaces_61 (by first | assumption | exact isLT.ob (by assumption) | exact isMt.ob (by assumption) | exact isRow.ob (by assumption) | exact isHnd.ob (by assumption) | exact isUnt.ob (by assumption) | exact isSt.ob (by assumption) | exact isHist.ob (by assumption) | exact isTxt.ob (by assumption) | exact isLac.ob (by assumption) | exact isMea.ob (by assumption) | exact hset_s | exact (hset_n (by first | assumption | omega)).trans (by first | assumption | exact isLT.ob (by assumption) | exact isMt.ob (by assumption) | exact isRow.ob (by assumption) | exact isHnd.ob (by assumption) | exact isUnt.ob (by assumption) | exact isSt.ob (by assumption) | exact isHist.ob (by assumption) | exact isTxt.ob (by assumption) | exact isLac.ob (by assumption) | exact isMea.ob (by assumption) | exact hset_s | exact (hset_n (by first | assumption | omega)).trans (by first | assumption | exact isLT.ob (by assumption) | exact isMt.ob (by assumption) | exact isRow.ob (by assumption) | exact isHnd.ob (by assumption) | exact isUnt.ob (by assumption) | exact isSt.ob (by assumption) | exact isHist.ob (by assumption) | exact isTxt.ob (by assumption) | exact isLac.ob (by assumption) | exact isMea.ob (by assumption) | exact hset_s | exact (hset_n (by first | assumption | omega)).trans (by first | assumption | exact isLT.ob (by assumption) | exact isMt.ob (by assumption) | exact isRow.ob (by assumption) | exact isHnd.ob (by assumption) | exact isUnt.ob (by assumption) | exact isSt.ob (by assumption) | exact isHist.ob (by assumption) | exact isTxt.ob (by assumption) | exact isLac.ob (by assumption) | exact isMea.ob (by assumption))))) (by rfl) ?_
        refine J_iload_n dX10_layLaces_64 (by rfl) ?_
        refine J_iload dX10_layLaces_65 (by rfl) ?_
        refine J_wr dX10_layLaces_67 (by first | assumption | exact isLT.ob (by assumption) | exact isMt.ob (by assumption) | exact isRow.ob (by assumption) | exact isHnd.ob (by assumption) | exact isUnt.ob (by assumption) | exact isSt.ob (by assumption) | exact isHist.ob (by assumption) | exact isTxt.ob (by assumption) | exact isLac.ob (by assumption) | exact isMea.ob (by assumption) | exact hset_s | exact (hset_n (by first | assumption | omega)).trans (by first | assumption | exact isLT.ob (by assumption) | exact isMt.ob (by assumption) | exact isRow.ob (by assumption) | exact isHnd.ob (by assumption) | exact isUnt.ob (by assumption) | exact isSt.ob (by assumption) | exact isHist.ob (by assumption) | exact isTxt.ob (by assumption) | exact isLac.ob (by assumption) | exact isMea.ob (by assumption) | exact hset_s | exact (hset_n (by first | assumption | omega)).trans (by first | assumption | exact isLT.ob (by assumption) | exact isMt.ob (by assumption) | exact isRow.ob (by assumption) | exact isHnd.ob (by assumption) | exact isUnt.ob (by assumption) | exact isSt.ob (by assumption) | exact isHist.ob (by assumption) | exact isTxt.ob (by assumption) | exact isLac.ob (by assumption) | exact isMea.ob (by assumption) | exact hset_s | exact (hset_n (by first | assumption | omega)).trans (by first | assumption | exact isLT.ob (by assumption) | exact isMt.ob (by assumption) | exact isRow.ob (by assumption) | exact isHnd.ob (by assumption) | exact isUnt.ob (by assumption) | exact isSt.ob (by assumption) | exact isHist.ob (by assumption) | exact isTxt.ob (by assumption) | exact isLac.ob (by assumption) | exact isMea.ob (by assumption))))) (by first | assumption | omega) (by decide) ?_
        refine J_iincN dX10_layLaces_68 (by rfl) (by decide) (by rfl) ?_
        refine J_goto (tgt := 22) dX10_layLaces_71 (by decide) ?_
        exact J_sub (by repeat (first | exact subl_nil | refine subl_cons rfl ?_)) (ih (k + 1) _ _ _ (by omega) hset_s hnext (fr_tr kk (fr_tr (fr_set (by omega) (by omega)) (fr_set (by omega) (by omega)))))
  have one : ∀ (j k : Nat) (h1 : HP) (n1 : Nat) (f : Nat → Int32), k + j = 4 → h1 (y + 7) = some (iA G 4 f) → (∀ j, j < k → f j = nI j) → fr (y + 7) (y + 8) h h1 → J (g0 G) mm_X10_layLaces 1 2 [(0, .ref y), (1, .int (nI m)), (2, .int (nI k))] [] h1 n1 0 0 (RT mm_X10_layLaces (fun v h' _ => v = none ∧ isMt G h' y σ xs t b e hd lg a rc rt hh ∧ (∃ f, h' (y + 7) = some (iA G 4 f) ∧ ∀ j, j < 4 → f j = nI ((lac σ.1.1 m).1 j)) ∧ fr (y + 7) (y + 8) h h')) := by
    intro j
    induction j with
    | zero =>
      intro k h1 n1 f hj g1 g2 kk
      refine J_iload_n dX10_layLaces_2 (by rfl) ?_
      refine J_iconst (v := nI 4) dX10_layLaces_3 (by decide) ?_
      refine J_icmp_ge (tgt := 20) dX10_layLaces_4 (by decide) (fun c4 => ?_) (fun c4 => ?_)
      · rw [nI_leI (by omega) (by omega)] at c4
        refine J_iconst (v := nI 0) dX10_layLaces_20 (by decide) ?_
        refine J_istore_n dX10_layLaces_21 (by decide) (by rfl) ?_
        exact J_sub (by repeat (first | exact subl_nil | refine subl_cons rfl ?_)) (two m 0 _ _ f (by omega) g1 (fun i hi => g2 i (by omega)) kk)
      · rw [nI_leI (by omega) (by omega)] at c4
        exact absurd (by omega) c4
    | succ j ih =>
      intro k h1 n1 f hj g1 g2 kk
      have o2 := (kk y (by omega)).trans ob
      refine J_iload_n dX10_layLaces_2 (by rfl) ?_
      refine J_iconst (v := nI 4) dX10_layLaces_3 (by decide) ?_
      refine J_icmp_ge (tgt := 20) dX10_layLaces_4 (by decide) (fun c4 => ?_) (fun c4 => ?_)
      · rw [nI_leI (by omega) (by omega)] at c4
        exact absurd c4 (by omega)
      · rw [nI_leI (by omega) (by omega)] at c4
        refine J_aload_n dX10_layLaces_7 (by rfl) ?_
        refine J_get fg_X10_28 dX10_layLaces_8 (by first | assumption | exact isLT.ob (by assumption) | exact isMt.ob (by assumption) | exact isRow.ob (by assumption) | exact isHnd.ob (by assumption) | exact isUnt.ob (by assumption) | exact isSt.ob (by assumption) | exact isHist.ob (by assumption) | exact isTxt.ob (by assumption) | exact isLac.ob (by assumption) | exact isMea.ob (by assumption) | exact hset_s | exact (hset_n (by first | assumption | omega)).trans (by first | assumption | exact isLT.ob (by assumption) | exact isMt.ob (by assumption) | exact isRow.ob (by assumption) | exact isHnd.ob (by assumption) | exact isUnt.ob (by assumption) | exact isSt.ob (by assumption) | exact isHist.ob (by assumption) | exact isTxt.ob (by assumption) | exact isLac.ob (by assumption) | exact isMea.ob (by assumption) | exact hset_s | exact (hset_n (by first | assumption | omega)).trans (by first | assumption | exact isLT.ob (by assumption) | exact isMt.ob (by assumption) | exact isRow.ob (by assumption) | exact isHnd.ob (by assumption) | exact isUnt.ob (by assumption) | exact isSt.ob (by assumption) | exact isHist.ob (by assumption) | exact isTxt.ob (by assumption) | exact isLac.ob (by assumption) | exact isMea.ob (by assumption) | exact hset_s | exact (hset_n (by first | assumption | omega)).trans (by first | assumption | exact isLT.ob (by assumption) | exact isMt.ob (by assumption) | exact isRow.ob (by assumption) | exact isHnd.ob (by assumption) | exact isUnt.ob (by assumption) | exact isSt.ob (by assumption) | exact isHist.ob (by assumption) | exact isTxt.ob (by assumption) | exact isLac.ob (by assumption) | exact isMea.ob (by assumption))))) (by rfl) ?_
        refine J_iload_n dX10_layLaces_11 (by rfl) ?_
        refine J_iload_n dX10_layLaces_12 (by rfl) ?_
        refine J_wr dX10_layLaces_13 (by first | assumption | exact isLT.ob (by assumption) | exact isMt.ob (by assumption) | exact isRow.ob (by assumption) | exact isHnd.ob (by assumption) | exact isUnt.ob (by assumption) | exact isSt.ob (by assumption) | exact isHist.ob (by assumption) | exact isTxt.ob (by assumption) | exact isLac.ob (by assumption) | exact isMea.ob (by assumption) | exact hset_s | exact (hset_n (by first | assumption | omega)).trans (by first | assumption | exact isLT.ob (by assumption) | exact isMt.ob (by assumption) | exact isRow.ob (by assumption) | exact isHnd.ob (by assumption) | exact isUnt.ob (by assumption) | exact isSt.ob (by assumption) | exact isHist.ob (by assumption) | exact isTxt.ob (by assumption) | exact isLac.ob (by assumption) | exact isMea.ob (by assumption) | exact hset_s | exact (hset_n (by first | assumption | omega)).trans (by first | assumption | exact isLT.ob (by assumption) | exact isMt.ob (by assumption) | exact isRow.ob (by assumption) | exact isHnd.ob (by assumption) | exact isUnt.ob (by assumption) | exact isSt.ob (by assumption) | exact isHist.ob (by assumption) | exact isTxt.ob (by assumption) | exact isLac.ob (by assumption) | exact isMea.ob (by assumption) | exact hset_s | exact (hset_n (by first | assumption | omega)).trans (by first | assumption | exact isLT.ob (by assumption) | exact isMt.ob (by assumption) | exact isRow.ob (by assumption) | exact isHnd.ob (by assumption) | exact isUnt.ob (by assumption) | exact isSt.ob (by assumption) | exact isHist.ob (by assumption) | exact isTxt.ob (by assumption) | exact isLac.ob (by assumption) | exact isMea.ob (by assumption))))) (by first | assumption | omega) (by decide) ?_
        refine J_iincN dX10_layLaces_14 (by rfl) (by decide) (by rfl) ?_
        refine J_goto (tgt := 2) dX10_layLaces_17 (by decide) ?_
        exact J_sub (by repeat (first | exact subl_nil | refine subl_cons rfl ?_)) (ih (k + 1) _ _ _ (by omega) hset_s (fun i hi => by
          by_cases ei : i = k
          · subst ei; rw [upd_s]
          · rw [upd_n ei]; exact g2 i (by omega)) (fr_tr kk (fr_set (by omega) (by omega))))
  refine J_iconst (v := nI 0) dX10_layLaces_0 (by decide) ?_
  refine J_istore_n dX10_layLaces_1 (by decide) (by rfl) ?_
  exact J_sub (by repeat (first | exact subl_nil | refine subl_cons rfl ?_)) (one 4 0 _ _ fl (by omega) s3 (fun i hi => absurd hi (Nat.not_lt_zero _)) fr_rf)
set_option maxRecDepth 20000 in
theorem sp_X10_laceAt (w : isMt G h y σ xs t b e hd lg a rc rt hh) (o : okS σ) {m p : Nat} (hm : m ≤ σ.1.1.length) (hp : p < 4) (n : Nat) : Sp G mm_X10_laceAt 2 0 0 [.ref y, .int (nI m), .int (nI p)] h n (fun v h' _ => v = some (.int (nI ((lac σ.1.1 m).1 p))) ∧ isMt G h' y σ xs t b e hd lg a rc rt hh ∧ fr y (y + 10) h h') := by
  refine Sp_of (by decide +kernel) (Nat.le_of_ble_eq_true rfl) ?_
  refine J_aload_n dX10_laceAt_0 (by rfl) ?_
  refine J_iload_n dX10_laceAt_1 (by rfl) ?_
  refine J_callV mf_X10_layLaces lk_X10_152 mi_X10_layLaces mv_X10_layLaces (sp_X10_layLaces w o hm _) dX10_laceAt_2 (by first | assumption | exact isLT.ob (by assumption) | exact isMt.ob (by assumption) | exact isRow.ob (by assumption) | exact isHnd.ob (by assumption) | exact isUnt.ob (by assumption) | exact isSt.ob (by assumption) | exact isHist.ob (by assumption) | exact isTxt.ob (by assumption) | exact isLac.ob (by assumption) | exact isMea.ob (by assumption) | exact hset_s | exact (hset_n (by first | assumption | omega)).trans (by first | assumption | exact isLT.ob (by assumption) | exact isMt.ob (by assumption) | exact isRow.ob (by assumption) | exact isHnd.ob (by assumption) | exact isUnt.ob (by assumption) | exact isSt.ob (by assumption) | exact isHist.ob (by assumption) | exact isTxt.ob (by assumption) | exact isLac.ob (by assumption) | exact isMea.ob (by assumption) | exact hset_s | exact (hset_n (by first | assumption | omega)).trans (by first | assumption | exact isLT.ob (by assumption) | exact isMt.ob (by assumption) | exact isRow.ob (by assumption) | exact isHnd.ob (by assumption) | exact isUnt.ob (by assumption) | exact isSt.ob (by assumption) | exact isHist.ob (by assumption) | exact isTxt.ob (by assumption) | exact isLac.ob (by assumption) | exact isMea.ob (by assumption) | exact hset_s | exact (hset_n (by first | assumption | omega)).trans (by first | assumption | exact isLT.ob (by assumption) | exact isMt.ob (by assumption) | exact isRow.ob (by assumption) | exact isHnd.ob (by assumption) | exact isUnt.ob (by assumption) | exact isSt.ob (by assumption) | exact isHist.ob (by assumption) | exact isTxt.ob (by assumption) | exact isLac.ob (by assumption) | exact isMea.ob (by assumption))))) rfl rfl (by decide) (by rfl) rfl (Nat.le_of_ble_eq_true rfl) (Nat.zero_add _) (Nat.zero_add _) (fun v2 h2 n2 q2 => ?_)
  obtain ⟨rfl, u2, ⟨f, g1, g2⟩, k2⟩ := q2
  refine J_aload_n dX10_laceAt_5 (by rfl) ?_
  refine J_get fg_X10_28 dX10_laceAt_6 (by first | assumption | exact isLT.ob (by assumption) | exact isMt.ob (by assumption) | exact isRow.ob (by assumption) | exact isHnd.ob (by assumption) | exact isUnt.ob (by assumption) | exact isSt.ob (by assumption) | exact isHist.ob (by assumption) | exact isTxt.ob (by assumption) | exact isLac.ob (by assumption) | exact isMea.ob (by assumption) | exact hset_s | exact (hset_n (by first | assumption | omega)).trans (by first | assumption | exact isLT.ob (by assumption) | exact isMt.ob (by assumption) | exact isRow.ob (by assumption) | exact isHnd.ob (by assumption) | exact isUnt.ob (by assumption) | exact isSt.ob (by assumption) | exact isHist.ob (by assumption) | exact isTxt.ob (by assumption) | exact isLac.ob (by assumption) | exact isMea.ob (by assumption) | exact hset_s | exact (hset_n (by first | assumption | omega)).trans (by first | assumption | exact isLT.ob (by assumption) | exact isMt.ob (by assumption) | exact isRow.ob (by assumption) | exact isHnd.ob (by assumption) | exact isUnt.ob (by assumption) | exact isSt.ob (by assumption) | exact isHist.ob (by assumption) | exact isTxt.ob (by assumption) | exact isLac.ob (by assumption) | exact isMea.ob (by assumption) | exact hset_s | exact (hset_n (by first | assumption | omega)).trans (by first | assumption | exact isLT.ob (by assumption) | exact isMt.ob (by assumption) | exact isRow.ob (by assumption) | exact isHnd.ob (by assumption) | exact isUnt.ob (by assumption) | exact isSt.ob (by assumption) | exact isHist.ob (by assumption) | exact isTxt.ob (by assumption) | exact isLac.ob (by assumption) | exact isMea.ob (by assumption))))) (by rfl) ?_
  refine J_iload_n dX10_laceAt_9 (by rfl) ?_
  refine J_rd dX10_laceAt_10 (by first | assumption | exact isLT.ob (by assumption) | exact isMt.ob (by assumption) | exact isRow.ob (by assumption) | exact isHnd.ob (by assumption) | exact isUnt.ob (by assumption) | exact isSt.ob (by assumption) | exact isHist.ob (by assumption) | exact isTxt.ob (by assumption) | exact isLac.ob (by assumption) | exact isMea.ob (by assumption) | exact hset_s | exact (hset_n (by first | assumption | omega)).trans (by first | assumption | exact isLT.ob (by assumption) | exact isMt.ob (by assumption) | exact isRow.ob (by assumption) | exact isHnd.ob (by assumption) | exact isUnt.ob (by assumption) | exact isSt.ob (by assumption) | exact isHist.ob (by assumption) | exact isTxt.ob (by assumption) | exact isLac.ob (by assumption) | exact isMea.ob (by assumption) | exact hset_s | exact (hset_n (by first | assumption | omega)).trans (by first | assumption | exact isLT.ob (by assumption) | exact isMt.ob (by assumption) | exact isRow.ob (by assumption) | exact isHnd.ob (by assumption) | exact isUnt.ob (by assumption) | exact isSt.ob (by assumption) | exact isHist.ob (by assumption) | exact isTxt.ob (by assumption) | exact isLac.ob (by assumption) | exact isMea.ob (by assumption) | exact hset_s | exact (hset_n (by first | assumption | omega)).trans (by first | assumption | exact isLT.ob (by assumption) | exact isMt.ob (by assumption) | exact isRow.ob (by assumption) | exact isHnd.ob (by assumption) | exact isUnt.ob (by assumption) | exact isSt.ob (by assumption) | exact isHist.ob (by assumption) | exact isTxt.ob (by assumption) | exact isLac.ob (by assumption) | exact isMea.ob (by assumption))))) (by first | assumption | omega) (by decide) (g2 _ hp) ?_
  exact J_ireturn dX10_laceAt_11 rfl (by rfl) (⟨rfl, u2, fr_mono k2 (by omega) (by omega)⟩)
set_option maxRecDepth 20000 in
theorem sp_X10_windingOf (w : isMt G h y σ xs t b e hd lg a rc rt hh) (o : okS σ) {p q : Nat} (hp : p < 4) (hq : q < 4) (n : Nat) : Sp G mm_X10_windingOf 2 0 0 [.ref y, .int (nI p), .int (nI q)] h n (fun v h' _ => v = some (.int ((lac σ.1.1 σ.1.1.length).2 (p * 4 + q) + 100)) ∧ isMt G h' y σ xs t b e hd lg a rc rt hh ∧ fr y (y + 10) h h') := by
  refine Sp_of (by decide +kernel) (Nat.le_of_ble_eq_true rfl) ?_
  have hx := o.1.1
  have loop : ∀ (j k : Nat) (h1 : HP) (n1 : Nat) (z : Int32), k + j = σ.1.1.length → (lac σ.1.1 k).2 (p * 4 + q) = z → isMt G h1 y σ xs t b e hd lg a rc rt hh → fr y (y + 10) h h1 → J (g0 G) mm_X10_windingOf 2 5 [(0, .ref y), (1, .int (nI p)), (2, .int (nI q)), (3, .int z), (4, .int (nI k))] [] h1 n1 0 0 (RT mm_X10_windingOf (fun v h' _ => v = some (.int ((lac σ.1.1 σ.1.1.length).2 (p * 4 + q) + 100)) ∧ isMt G h' y σ xs t b e hd lg a rc rt hh ∧ fr y (y + 10) h h')) := by
    intro j
    induction j with
    | zero =>
      intro k h1 n1 z hj hz w1 k1
      obtain rfl : k = σ.1.1.length := by omega
      obtain ⟨ob, pp, -⟩ := id w1
      obtain ⟨⟨f1, p1, q1, q2, q3, q4⟩, p'⟩ := id pp
      refine J_iload dX10_windingOf_5 (by rfl) ?_
      refine J_aload_n dX10_windingOf_7 (by rfl) ?_
      refine J_get fg_X10_7 dX10_windingOf_8 (by first | assumption | exact isLT.ob (by assumption) | exact isMt.ob (by assumption) | exact isRow.ob (by assumption) | exact isHnd.ob (by assumption) | exact isUnt.ob (by assumption) | exact isSt.ob (by assumption) | exact isHist.ob (by assumption) | exact isTxt.ob (by assumption) | exact isLac.ob (by assumption) | exact isMea.ob (by assumption) | exact hset_s | exact (hset_n (by first | assumption | omega)).trans (by first | assumption | exact isLT.ob (by assumption) | exact isMt.ob (by assumption) | exact isRow.ob (by assumption) | exact isHnd.ob (by assumption) | exact isUnt.ob (by assumption) | exact isSt.ob (by assumption) | exact isHist.ob (by assumption) | exact isTxt.ob (by assumption) | exact isLac.ob (by assumption) | exact isMea.ob (by assumption) | exact hset_s | exact (hset_n (by first | assumption | omega)).trans (by first | assumption | exact isLT.ob (by assumption) | exact isMt.ob (by assumption) | exact isRow.ob (by assumption) | exact isHnd.ob (by assumption) | exact isUnt.ob (by assumption) | exact isSt.ob (by assumption) | exact isHist.ob (by assumption) | exact isTxt.ob (by assumption) | exact isLac.ob (by assumption) | exact isMea.ob (by assumption) | exact hset_s | exact (hset_n (by first | assumption | omega)).trans (by first | assumption | exact isLT.ob (by assumption) | exact isMt.ob (by assumption) | exact isRow.ob (by assumption) | exact isHnd.ob (by assumption) | exact isUnt.ob (by assumption) | exact isSt.ob (by assumption) | exact isHist.ob (by assumption) | exact isTxt.ob (by assumption) | exact isLac.ob (by assumption) | exact isMea.ob (by assumption))))) (by rfl) ?_
      refine J_iconst (v := nI 0) dX10_windingOf_11 (by decide) ?_
      refine J_rd dX10_windingOf_12 (by first | assumption | exact isLT.ob (by assumption) | exact isMt.ob (by assumption) | exact isRow.ob (by assumption) | exact isHnd.ob (by assumption) | exact isUnt.ob (by assumption) | exact isSt.ob (by assumption) | exact isHist.ob (by assumption) | exact isTxt.ob (by assumption) | exact isLac.ob (by assumption) | exact isMea.ob (by assumption) | exact hset_s | exact (hset_n (by first | assumption | omega)).trans (by first | assumption | exact isLT.ob (by assumption) | exact isMt.ob (by assumption) | exact isRow.ob (by assumption) | exact isHnd.ob (by assumption) | exact isUnt.ob (by assumption) | exact isSt.ob (by assumption) | exact isHist.ob (by assumption) | exact isTxt.ob (by assumption) | exact isLac.ob (by assumption) | exact isMea.ob (by assumption) | exact hset_s | exact (hset_n (by first | assumption | omega)).trans (by first | assumption | exact isLT.ob (by assumption) | exact isMt.ob (by assumption) | exact isRow.ob (by assumption) | exact isHnd.ob (by assumption) | exact isUnt.ob (by assumption) | exact isSt.ob (by assumption) | exact isHist.ob (by assumption) | exact isTxt.ob (by assumption) | exact isLac.ob (by assumption) | exact isMea.ob (by assumption) | exact hset_s | exact (hset_n (by first | assumption | omega)).trans (by first | assumption | exact isLT.ob (by assumption) | exact isMt.ob (by assumption) | exact isRow.ob (by assumption) | exact isHnd.ob (by assumption) | exact isUnt.ob (by assumption) | exact isSt.ob (by assumption) | exact isHist.ob (by assumption) | exact isTxt.ob (by assumption) | exact isLac.ob (by assumption) | exact isMea.ob (by assumption))))) (by first | assumption | omega) (by decide) q2 ?_
      refine J_icmp_ge (tgt := 111) dX10_windingOf_13 (by decide) (fun c13 => ?_) (fun c13 => ?_)
      · rw [nI_leI (by omega) (by omega)] at c13
        refine J_iload_n dX10_windingOf_111 (by rfl) ?_
        refine J_bipush (v := 100) dX10_windingOf_112 (by decide) ?_
        refine J_iadd dX10_windingOf_114 ?_
        exact J_ireturn dX10_windingOf_115 rfl (by rfl) (⟨by rw [hz], w1, k1⟩)
      · rw [nI_leI (by omega) (by omega)] at c13
        exact absurd (by omega) c13
    | succ j ih =>
      intro k h1 n1 z hj hz w1 k1
      obtain ⟨ob, pp, -⟩ := id w1
      obtain ⟨⟨f1, p1, q1, q2, q3, q4⟩, p'⟩ := id pp
      obtain ⟨R, hR1, hR3, hR⟩ := rk_nat (hx k (by omega))
      have hlt := lac_lt hx k (by omega)
      have l1 := hlt (R - 1) (by omega)
      have l2 := hlt R (by omega)
      obtain ⟨yes, no⟩ := lac_sum hx (k := k) (a := p) (b := q) (by omega) hp hq
      unfold isB at yes no
      rw [hR, nI_clamp (by omega)] at yes no
      refine J_iload dX10_windingOf_5 (by rfl) ?_
      refine J_aload_n dX10_windingOf_7 (by rfl) ?_
      refine J_get fg_X10_7 dX10_windingOf_8 (by first | assumption | exact isLT.ob (by assumption) | exact isMt.ob (by assumption) | exact isRow.ob (by assumption) | exact isHnd.ob (by assumption) | exact isUnt.ob (by assumption) | exact isSt.ob (by assumption) | exact isHist.ob (by assumption) | exact isTxt.ob (by assumption) | exact isLac.ob (by assumption) | exact isMea.ob (by assumption) | exact hset_s | exact (hset_n (by first | assumption | omega)).trans (by first | assumption | exact isLT.ob (by assumption) | exact isMt.ob (by assumption) | exact isRow.ob (by assumption) | exact isHnd.ob (by assumption) | exact isUnt.ob (by assumption) | exact isSt.ob (by assumption) | exact isHist.ob (by assumption) | exact isTxt.ob (by assumption) | exact isLac.ob (by assumption) | exact isMea.ob (by assumption) | exact hset_s | exact (hset_n (by first | assumption | omega)).trans (by first | assumption | exact isLT.ob (by assumption) | exact isMt.ob (by assumption) | exact isRow.ob (by assumption) | exact isHnd.ob (by assumption) | exact isUnt.ob (by assumption) | exact isSt.ob (by assumption) | exact isHist.ob (by assumption) | exact isTxt.ob (by assumption) | exact isLac.ob (by assumption) | exact isMea.ob (by assumption) | exact hset_s | exact (hset_n (by first | assumption | omega)).trans (by first | assumption | exact isLT.ob (by assumption) | exact isMt.ob (by assumption) | exact isRow.ob (by assumption) | exact isHnd.ob (by assumption) | exact isUnt.ob (by assumption) | exact isSt.ob (by assumption) | exact isHist.ob (by assumption) | exact isTxt.ob (by assumption) | exact isLac.ob (by assumption) | exact isMea.ob (by assumption))))) (by rfl) ?_
      refine J_iconst (v := nI 0) dX10_windingOf_11 (by decide) ?_
      refine J_rd dX10_windingOf_12 (by first | assumption | exact isLT.ob (by assumption) | exact isMt.ob (by assumption) | exact isRow.ob (by assumption) | exact isHnd.ob (by assumption) | exact isUnt.ob (by assumption) | exact isSt.ob (by assumption) | exact isHist.ob (by assumption) | exact isTxt.ob (by assumption) | exact isLac.ob (by assumption) | exact isMea.ob (by assumption) | exact hset_s | exact (hset_n (by first | assumption | omega)).trans (by first | assumption | exact isLT.ob (by assumption) | exact isMt.ob (by assumption) | exact isRow.ob (by assumption) | exact isHnd.ob (by assumption) | exact isUnt.ob (by assumption) | exact isSt.ob (by assumption) | exact isHist.ob (by assumption) | exact isTxt.ob (by assumption) | exact isLac.ob (by assumption) | exact isMea.ob (by assumption) | exact hset_s | exact (hset_n (by first | assumption | omega)).trans (by first | assumption | exact isLT.ob (by assumption) | exact isMt.ob (by assumption) | exact isRow.ob (by assumption) | exact isHnd.ob (by assumption) | exact isUnt.ob (by assumption) | exact isSt.ob (by assumption) | exact isHist.ob (by assumption) | exact isTxt.ob (by assumption) | exact isLac.ob (by assumption) | exact isMea.ob (by assumption) | exact hset_s | exact (hset_n (by first | assumption | omega)).trans (by first | assumption | exact isLT.ob (by assumption) | exact isMt.ob (by assumption) | exact isRow.ob (by assumption) | exact isHnd.ob (by assumption) | exact isUnt.ob (by assumption) | exact isSt.ob (by assumption) | exact isHist.ob (by assumption) | exact isTxt.ob (by assumption) | exact isLac.ob (by assumption) | exact isMea.ob (by assumption))))) (by first | assumption | omega) (by decide) q2 ?_
      refine J_icmp_ge (tgt := 111) dX10_windingOf_13 (by decide) (fun c13 => ?_) (fun c13 => ?_)
      · rw [nI_leI (by omega) (by omega)] at c13
        exact absurd c13 (by omega)
      · rw [nI_leI (by omega) (by omega)] at c13
        refine J_aload_n dX10_windingOf_16 (by rfl) ?_
        refine J_iload dX10_windingOf_17 (by rfl) ?_
        refine J_callV mf_X10_layLaces lk_X10_152 mi_X10_layLaces mv_X10_layLaces (sp_X10_layLaces w1 o (m := k) (by omega) _) dX10_windingOf_19 (by first | assumption | exact isLT.ob (by assumption) | exact isMt.ob (by assumption) | exact isRow.ob (by assumption) | exact isHnd.ob (by assumption) | exact isUnt.ob (by assumption) | exact isSt.ob (by assumption) | exact isHist.ob (by assumption) | exact isTxt.ob (by assumption) | exact isLac.ob (by assumption) | exact isMea.ob (by assumption) | exact hset_s | exact (hset_n (by first | assumption | omega)).trans (by first | assumption | exact isLT.ob (by assumption) | exact isMt.ob (by assumption) | exact isRow.ob (by assumption) | exact isHnd.ob (by assumption) | exact isUnt.ob (by assumption) | exact isSt.ob (by assumption) | exact isHist.ob (by assumption) | exact isTxt.ob (by assumption) | exact isLac.ob (by assumption) | exact isMea.ob (by assumption) | exact hset_s | exact (hset_n (by first | assumption | omega)).trans (by first | assumption | exact isLT.ob (by assumption) | exact isMt.ob (by assumption) | exact isRow.ob (by assumption) | exact isHnd.ob (by assumption) | exact isUnt.ob (by assumption) | exact isSt.ob (by assumption) | exact isHist.ob (by assumption) | exact isTxt.ob (by assumption) | exact isLac.ob (by assumption) | exact isMea.ob (by assumption) | exact hset_s | exact (hset_n (by first | assumption | omega)).trans (by first | assumption | exact isLT.ob (by assumption) | exact isMt.ob (by assumption) | exact isRow.ob (by assumption) | exact isHnd.ob (by assumption) | exact isUnt.ob (by assumption) | exact isSt.ob (by assumption) | exact isHist.ob (by assumption) | exact isTxt.ob (by assumption) | exact isLac.ob (by assumption) | exact isMea.ob (by assumption))))) rfl rfl (by decide) (by rfl) rfl (Nat.le_of_ble_eq_true rfl) (Nat.zero_add _) (Nat.zero_add _) (fun v19 h19 n19 q19 => ?_)
        obtain ⟨rfl, u19, ⟨f, g1, g2⟩, k19⟩ := q19
        have k19 := fr_mono (lo2 := y) (hi2 := y + 10) k19 (by omega) (by omega)
        obtain ⟨⟨f9, p9, q91, q92, q93, q94⟩, p9x⟩ := id u19.2.1
        refine J_aload_n dX10_windingOf_22 (by rfl) ?_
        refine J_iload dX10_windingOf_23 (by rfl) ?_
        refine J_callV mf_X10_of lk_X10_62 mi_X10_of mv_X10_of (sp_X10_of u19.1 p9 (k := k) (by omega) _) dX10_windingOf_25 (by first | assumption | exact isLT.ob (by assumption) | exact isMt.ob (by assumption) | exact isRow.ob (by assumption) | exact isHnd.ob (by assumption) | exact isUnt.ob (by assumption) | exact isSt.ob (by assumption) | exact isHist.ob (by assumption) | exact isTxt.ob (by assumption) | exact isLac.ob (by assumption) | exact isMea.ob (by assumption) | exact hset_s | exact (hset_n (by first | assumption | omega)).trans (by first | assumption | exact isLT.ob (by assumption) | exact isMt.ob (by assumption) | exact isRow.ob (by assumption) | exact isHnd.ob (by assumption) | exact isUnt.ob (by assumption) | exact isSt.ob (by assumption) | exact isHist.ob (by assumption) | exact isTxt.ob (by assumption) | exact isLac.ob (by assumption) | exact isMea.ob (by assumption) | exact hset_s | exact (hset_n (by first | assumption | omega)).trans (by first | assumption | exact isLT.ob (by assumption) | exact isMt.ob (by assumption) | exact isRow.ob (by assumption) | exact isHnd.ob (by assumption) | exact isUnt.ob (by assumption) | exact isSt.ob (by assumption) | exact isHist.ob (by assumption) | exact isTxt.ob (by assumption) | exact isLac.ob (by assumption) | exact isMea.ob (by assumption) | exact hset_s | exact (hset_n (by first | assumption | omega)).trans (by first | assumption | exact isLT.ob (by assumption) | exact isMt.ob (by assumption) | exact isRow.ob (by assumption) | exact isHnd.ob (by assumption) | exact isUnt.ob (by assumption) | exact isSt.ob (by assumption) | exact isHist.ob (by assumption) | exact isTxt.ob (by assumption) | exact isLac.ob (by assumption) | exact isMea.ob (by assumption))))) rfl rfl (by decide) (by rfl) rfl (Nat.le_of_ble_eq_true rfl) (Nat.zero_add _) (Nat.zero_add _) (fun v25 h25 n25 q25 => ?_)
        obtain ⟨rfl, rfl⟩ := q25
        rw [q94 k (by omega)]
        refine J_callS mf_X10_rankOf lk_X10_68 ms_X10_rankOf (sp_X10_rankOf _ (σ.1.1.getD k 0) _) dX10_windingOf_28 (by decide) (by rfl) rfl (Nat.le_of_ble_eq_true rfl) (Nat.zero_add _) (Nat.zero_add _) (fun v28 h28 n28 q28 => ?_)
        obtain ⟨rfl, rfl⟩ := q28
        rw [hR]
        refine J_istore dX10_windingOf_31 (by decide) (by rfl) ?_
        refine J_aload_n dX10_windingOf_33 (by rfl) ?_
        refine J_get fg_X10_28 dX10_windingOf_34 (by first | assumption | exact isLT.ob (by assumption) | exact isMt.ob (by assumption) | exact isRow.ob (by assumption) | exact isHnd.ob (by assumption) | exact isUnt.ob (by assumption) | exact isSt.ob (by assumption) | exact isHist.ob (by assumption) | exact isTxt.ob (by assumption) | exact isLac.ob (by assumption) | exact isMea.ob (by assumption) | exact hset_s | exact (hset_n (by first | assumption | omega)).trans (by first | assumption | exact isLT.ob (by assumption) | exact isMt.ob (by assumption) | exact isRow.ob (by assumption) | exact isHnd.ob (by assumption) | exact isUnt.ob (by assumption) | exact isSt.ob (by assumption) | exact isHist.ob (by assumption) | exact isTxt.ob (by assumption) | exact isLac.ob (by assumption) | exact isMea.ob (by assumption) | exact hset_s | exact (hset_n (by first | assumption | omega)).trans (by first | assumption | exact isLT.ob (by assumption) | exact isMt.ob (by assumption) | exact isRow.ob (by assumption) | exact isHnd.ob (by assumption) | exact isUnt.ob (by assumption) | exact isSt.ob (by assumption) | exact isHist.ob (by assumption) | exact isTxt.ob (by assumption) | exact isLac.ob (by assumption) | exact isMea.ob (by assumption) | exact hset_s | exact (hset_n (by first | assumption | omega)).trans (by first | assumption | exact isLT.ob (by assumption) | exact isMt.ob (by assumption) | exact isRow.ob (by assumption) | exact isHnd.ob (by assumption) | exact isUnt.ob (by assumption) | exact isSt.ob (by assumption) | exact isHist.ob (by assumption) | exact isTxt.ob (by assumption) | exact isLac.ob (by assumption) | exact isMea.ob (by assumption))))) (by rfl) ?_
        refine J_iload dX10_windingOf_37 (by rfl) ?_
        refine J_iconst (v := nI 1) dX10_windingOf_39 (by decide) ?_
        refine J_isub dX10_windingOf_40 ?_
        rw [pk_sub (by omega)]
        refine J_rd dX10_windingOf_41 (by first | assumption | exact isLT.ob (by assumption) | exact isMt.ob (by assumption) | exact isRow.ob (by assumption) | exact isHnd.ob (by assumption) | exact isUnt.ob (by assumption) | exact isSt.ob (by assumption) | exact isHist.ob (by assumption) | exact isTxt.ob (by assumption) | exact isLac.ob (by assumption) | exact isMea.ob (by assumption) | exact hset_s | exact (hset_n (by first | assumption | omega)).trans (by first | assumption | exact isLT.ob (by assumption) | exact isMt.ob (by assumption) | exact isRow.ob (by assumption) | exact isHnd.ob (by assumption) | exact isUnt.ob (by assumption) | exact isSt.ob (by assumption) | exact isHist.ob (by assumption) | exact isTxt.ob (by assumption) | exact isLac.ob (by assumption) | exact isMea.ob (by assumption) | exact hset_s | exact (hset_n (by first | assumption | omega)).trans (by first | assumption | exact isLT.ob (by assumption) | exact isMt.ob (by assumption) | exact isRow.ob (by assumption) | exact isHnd.ob (by assumption) | exact isUnt.ob (by assumption) | exact isSt.ob (by assumption) | exact isHist.ob (by assumption) | exact isTxt.ob (by assumption) | exact isLac.ob (by assumption) | exact isMea.ob (by assumption) | exact hset_s | exact (hset_n (by first | assumption | omega)).trans (by first | assumption | exact isLT.ob (by assumption) | exact isMt.ob (by assumption) | exact isRow.ob (by assumption) | exact isHnd.ob (by assumption) | exact isUnt.ob (by assumption) | exact isSt.ob (by assumption) | exact isHist.ob (by assumption) | exact isTxt.ob (by assumption) | exact isLac.ob (by assumption) | exact isMea.ob (by assumption))))) (by first | assumption | omega) (by decide) (g2 _ (by omega)) ?_
        refine J_istore dX10_windingOf_42 (by decide) (by rfl) ?_
        refine J_aload_n dX10_windingOf_44 (by rfl) ?_
        refine J_get fg_X10_28 dX10_windingOf_45 (by first | assumption | exact isLT.ob (by assumption) | exact isMt.ob (by assumption) | exact isRow.ob (by assumption) | exact isHnd.ob (by assumption) | exact isUnt.ob (by assumption) | exact isSt.ob (by assumption) | exact isHist.ob (by assumption) | exact isTxt.ob (by assumption) | exact isLac.ob (by assumption) | exact isMea.ob (by assumption) | exact hset_s | exact (hset_n (by first | assumption | omega)).trans (by first | assumption | exact isLT.ob (by assumption) | exact isMt.ob (by assumption) | exact isRow.ob (by assumption) | exact isHnd.ob (by assumption) | exact isUnt.ob (by assumption) | exact isSt.ob (by assumption) | exact isHist.ob (by assumption) | exact isTxt.ob (by assumption) | exact isLac.ob (by assumption) | exact isMea.ob (by assumption) | exact hset_s | exact (hset_n (by first | assumption | omega)).trans (by first | assumption | exact isLT.ob (by assumption) | exact isMt.ob (by assumption) | exact isRow.ob (by assumption) | exact isHnd.ob (by assumption) | exact isUnt.ob (by assumption) | exact isSt.ob (by assumption) | exact isHist.ob (by assumption) | exact isTxt.ob (by assumption) | exact isLac.ob (by assumption) | exact isMea.ob (by assumption) | exact hset_s | exact (hset_n (by first | assumption | omega)).trans (by first | assumption | exact isLT.ob (by assumption) | exact isMt.ob (by assumption) | exact isRow.ob (by assumption) | exact isHnd.ob (by assumption) | exact isUnt.ob (by assumption) | exact isSt.ob (by assumption) | exact isHist.ob (by assumption) | exact isTxt.ob (by assumption) | exact isLac.ob (by assumption) | exact isMea.ob (by assumption))))) (by rfl) ?_
        refine J_iload dX10_windingOf_48 (by rfl) ?_
        refine J_rd dX10_windingOf_50 (by first | assumption | exact isLT.ob (by assumption) | exact isMt.ob (by assumption) | exact isRow.ob (by assumption) | exact isHnd.ob (by assumption) | exact isUnt.ob (by assumption) | exact isSt.ob (by assumption) | exact isHist.ob (by assumption) | exact isTxt.ob (by assumption) | exact isLac.ob (by assumption) | exact isMea.ob (by assumption) | exact hset_s | exact (hset_n (by first | assumption | omega)).trans (by first | assumption | exact isLT.ob (by assumption) | exact isMt.ob (by assumption) | exact isRow.ob (by assumption) | exact isHnd.ob (by assumption) | exact isUnt.ob (by assumption) | exact isSt.ob (by assumption) | exact isHist.ob (by assumption) | exact isTxt.ob (by assumption) | exact isLac.ob (by assumption) | exact isMea.ob (by assumption) | exact hset_s | exact (hset_n (by first | assumption | omega)).trans (by first | assumption | exact isLT.ob (by assumption) | exact isMt.ob (by assumption) | exact isRow.ob (by assumption) | exact isHnd.ob (by assumption) | exact isUnt.ob (by assumption) | exact isSt.ob (by assumption) | exact isHist.ob (by assumption) | exact isTxt.ob (by assumption) | exact isLac.ob (by assumption) | exact isMea.ob (by assumption) | exact hset_s | exact (hset_n (by first | assumption | omega)).trans (by first | assumption | exact isLT.ob (by assumption) | exact isMt.ob (by assumption) | exact isRow.ob (by assumption) | exact isHnd.ob (by assumption) | exact isUnt.ob (by assumption) | exact isSt.ob (by assumption) | exact isHist.ob (by assumption) | exact isTxt.ob (by assumption) | exact isLac.ob (by assumption) | exact isMea.ob (by assumption))))) (by first | assumption | omega) (by decide) (g2 _ (by omega)) ?_
        refine J_istore dX10_windingOf_51 (by decide) (by rfl) ?_
        refine J_iload dX10_windingOf_53 (by rfl) ?_
        refine J_iload_n dX10_windingOf_55 (by rfl) ?_
        refine J_icmp_ne (tgt := 65) dX10_windingOf_56 (by decide) (fun c56 => ?_) (fun c56 => ?_)
        · rw [nI_eq (by omega) (by omega)] at c56
          refine J_iload dX10_windingOf_65 (by rfl) ?_
          refine J_iload_n dX10_windingOf_67 (by rfl) ?_
          refine J_icmp_ne (tgt := 81) dX10_windingOf_68 (by decide) (fun c68 => ?_) (fun c68 => ?_)
          · rw [nI_eq (by omega) (by omega)] at c68
            refine J_iconst (v := 0) dX10_windingOf_81 (by decide) ?_
            refine J_istore dX10_windingOf_82 (by decide) (by rfl) ?_
            refine J_iload_n dX10_windingOf_84 (by rfl) ?_
            refine J_iload dX10_windingOf_85 (by rfl) ?_
            refine J_if_eq (tgt := 102) dX10_windingOf_87 (by decide) (fun c87 => ?_) (fun c87 => ?_)
            · refine J_iconst (v := 0) dX10_windingOf_102 (by decide) ?_
              refine J_iadd dX10_windingOf_103 ?_
              refine J_istore_n dX10_windingOf_104 (by decide) (by rfl) ?_
              refine J_iincN dX10_windingOf_105 (by rfl) (by decide) (by rfl) ?_
              refine J_goto (tgt := 5) dX10_windingOf_108 (by decide) ?_
              exact J_sub (by repeat (first | exact subl_nil | refine subl_cons rfl ?_)) (ih (k + 1) _ _ _ (by omega) (by first | (rw [yes (by first | exact Or.inl (And.intro c56 c62) | exact Or.inr (And.intro c68 c74)), hz]; done) | (rw [no (by rintro (d | d) <;> omega), hz]; exact (Int32.add_zero z).symm)) u19 (fr_tr k1 k19))
            · exact absurd (by decide) c87
          · rw [nI_eq (by omega) (by omega)] at c68
            refine J_iload dX10_windingOf_71 (by rfl) ?_
            refine J_iload_n dX10_windingOf_73 (by rfl) ?_
            refine J_icmp_ne (tgt := 81) dX10_windingOf_74 (by decide) (fun c74 => ?_) (fun c74 => ?_)
            · rw [nI_eq (by omega) (by omega)] at c74
              refine J_iconst (v := 0) dX10_windingOf_81 (by decide) ?_
              refine J_istore dX10_windingOf_82 (by decide) (by rfl) ?_
              refine J_iload_n dX10_windingOf_84 (by rfl) ?_
              refine J_iload dX10_windingOf_85 (by rfl) ?_
              refine J_if_eq (tgt := 102) dX10_windingOf_87 (by decide) (fun c87 => ?_) (fun c87 => ?_)
              · refine J_iconst (v := 0) dX10_windingOf_102 (by decide) ?_
                refine J_iadd dX10_windingOf_103 ?_
                refine J_istore_n dX10_windingOf_104 (by decide) (by rfl) ?_
                refine J_iincN dX10_windingOf_105 (by rfl) (by decide) (by rfl) ?_
                refine J_goto (tgt := 5) dX10_windingOf_108 (by decide) ?_
                exact J_sub (by repeat (first | exact subl_nil | refine subl_cons rfl ?_)) (ih (k + 1) _ _ _ (by omega) (by first | (rw [yes (by first | exact Or.inl (And.intro c56 c62) | exact Or.inr (And.intro c68 c74)), hz]; done) | (rw [no (by rintro (d | d) <;> omega), hz]; exact (Int32.add_zero z).symm)) u19 (fr_tr k1 k19))
              · exact absurd (by decide) c87
            · rw [nI_eq (by omega) (by omega)] at c74
              refine J_iconst (v := 1) dX10_windingOf_77 (by decide) ?_
              refine J_goto (tgt := 82) dX10_windingOf_78 (by decide) ?_
              refine J_istore dX10_windingOf_82 (by decide) (by rfl) ?_
              refine J_iload_n dX10_windingOf_84 (by rfl) ?_
              refine J_iload dX10_windingOf_85 (by rfl) ?_
              refine J_if_eq (tgt := 102) dX10_windingOf_87 (by decide) (fun c87 => ?_) (fun c87 => ?_)
              · exact absurd c87 (by decide)
              · refine J_aload_n dX10_windingOf_90 (by rfl) ?_
                refine J_iload dX10_windingOf_91 (by rfl) ?_
                refine J_callV mf_X10_of lk_X10_62 mi_X10_of mv_X10_of (sp_X10_of u19.1 p9 (k := k) (by omega) _) dX10_windingOf_93 (by first | assumption | exact isLT.ob (by assumption) | exact isMt.ob (by assumption) | exact isRow.ob (by assumption) | exact isHnd.ob (by assumption) | exact isUnt.ob (by assumption) | exact isSt.ob (by assumption) | exact isHist.ob (by assumption) | exact isTxt.ob (by assumption) | exact isLac.ob (by assumption) | exact isMea.ob (by assumption) | exact hset_s | exact (hset_n (by first | assumption | omega)).trans (by first | assumption | exact isLT.ob (by assumption) | exact isMt.ob (by assumption) | exact isRow.ob (by assumption) | exact isHnd.ob (by assumption) | exact isUnt.ob (by assumption) | exact isSt.ob (by assumption) | exact isHist.ob (by assumption) | exact isTxt.ob (by assumption) | exact isLac.ob (by assumption) | exact isMea.ob (by assumption) | exact hset_s | exact (hset_n (by first | assumption | omega)).trans (by first | assumption | exact isLT.ob (by assumption) | exact isMt.ob (by assumption) | exact isRow.ob (by assumption) | exact isHnd.ob (by assumption) | exact isUnt.ob (by assumption) | exact isSt.ob (by assumption) | exact isHist.ob (by assumption) | exact isTxt.ob (by assumption) | exact isLac.ob (by assumption) | exact isMea.ob (by assumption) | exact hset_s | exact (hset_n (by first | assumption | omega)).trans (by first | assumption | exact isLT.ob (by assumption) | exact isMt.ob (by assumption) | exact isRow.ob (by assumption) | exact isHnd.ob (by assumption) | exact isUnt.ob (by assumption) | exact isSt.ob (by assumption) | exact isHist.ob (by assumption) | exact isTxt.ob (by assumption) | exact isLac.ob (by assumption) | exact isMea.ob (by assumption))))) rfl rfl (by decide) (by rfl) rfl (Nat.le_of_ble_eq_true rfl) (Nat.zero_add _) (Nat.zero_add _) (fun v93 h93 n93 q93 => ?_)
                obtain ⟨rfl, rfl⟩ := q93
                rw [q94 k (by omega)]
                refine J_callS mf_X10_signOf lk_X10_71 ms_X10_signOf (sp_X10_signOf _ (σ.1.1.getD k 0) _) dX10_windingOf_96 (by decide) (by rfl) rfl (Nat.le_of_ble_eq_true rfl) (Nat.zero_add _) (Nat.zero_add _) (fun v96 h96 n96 q96 => ?_)
                obtain ⟨rfl, rfl⟩ := q96
                refine J_goto (tgt := 103) dX10_windingOf_99 (by decide) ?_
                refine J_iadd dX10_windingOf_103 ?_
                refine J_istore_n dX10_windingOf_104 (by decide) (by rfl) ?_
                refine J_iincN dX10_windingOf_105 (by rfl) (by decide) (by rfl) ?_
                refine J_goto (tgt := 5) dX10_windingOf_108 (by decide) ?_
                exact J_sub (by repeat (first | exact subl_nil | refine subl_cons rfl ?_)) (ih (k + 1) _ _ _ (by omega) (by first | (rw [yes (by first | exact Or.inl (And.intro c56 c62) | exact Or.inr (And.intro c68 c74)), hz]; done) | (rw [no (by rintro (d | d) <;> omega), hz]; exact (Int32.add_zero z).symm)) u19 (fr_tr k1 k19))
        · rw [nI_eq (by omega) (by omega)] at c56
          refine J_iload dX10_windingOf_59 (by rfl) ?_
          refine J_iload_n dX10_windingOf_61 (by rfl) ?_
          refine J_icmp_eq (tgt := 77) dX10_windingOf_62 (by decide) (fun c62 => ?_) (fun c62 => ?_)
          · rw [nI_eq (by omega) (by omega)] at c62
            refine J_iconst (v := 1) dX10_windingOf_77 (by decide) ?_
            refine J_goto (tgt := 82) dX10_windingOf_78 (by decide) ?_
            refine J_istore dX10_windingOf_82 (by decide) (by rfl) ?_
            refine J_iload_n dX10_windingOf_84 (by rfl) ?_
            refine J_iload dX10_windingOf_85 (by rfl) ?_
            refine J_if_eq (tgt := 102) dX10_windingOf_87 (by decide) (fun c87 => ?_) (fun c87 => ?_)
            · exact absurd c87 (by decide)
            · refine J_aload_n dX10_windingOf_90 (by rfl) ?_
              refine J_iload dX10_windingOf_91 (by rfl) ?_
              refine J_callV mf_X10_of lk_X10_62 mi_X10_of mv_X10_of (sp_X10_of u19.1 p9 (k := k) (by omega) _) dX10_windingOf_93 (by first | assumption | exact isLT.ob (by assumption) | exact isMt.ob (by assumption) | exact isRow.ob (by assumption) | exact isHnd.ob (by assumption) | exact isUnt.ob (by assumption) | exact isSt.ob (by assumption) | exact isHist.ob (by assumption) | exact isTxt.ob (by assumption) | exact isLac.ob (by assumption) | exact isMea.ob (by assumption) | exact hset_s | exact (hset_n (by first | assumption | omega)).trans (by first | assumption | exact isLT.ob (by assumption) | exact isMt.ob (by assumption) | exact isRow.ob (by assumption) | exact isHnd.ob (by assumption) | exact isUnt.ob (by assumption) | exact isSt.ob (by assumption) | exact isHist.ob (by assumption) | exact isTxt.ob (by assumption) | exact isLac.ob (by assumption) | exact isMea.ob (by assumption) | exact hset_s | exact (hset_n (by first | assumption | omega)).trans (by first | assumption | exact isLT.ob (by assumption) | exact isMt.ob (by assumption) | exact isRow.ob (by assumption) | exact isHnd.ob (by assumption) | exact isUnt.ob (by assumption) | exact isSt.ob (by assumption) | exact isHist.ob (by assumption) | exact isTxt.ob (by assumption) | exact isLac.ob (by assumption) | exact isMea.ob (by assumption) | exact hset_s | exact (hset_n (by first | assumption | omega)).trans (by first | assumption | exact isLT.ob (by assumption) | exact isMt.ob (by assumption) | exact isRow.ob (by assumption) | exact isHnd.ob (by assumption) | exact isUnt.ob (by assumption) | exact isSt.ob (by assumption) | exact isHist.ob (by assumption) | exact isTxt.ob (by assumption) | exact isLac.ob (by assumption) | exact isMea.ob (by assumption))))) rfl rfl (by decide) (by rfl) rfl (Nat.le_of_ble_eq_true rfl) (Nat.zero_add _) (Nat.zero_add _) (fun v93 h93 n93 q93 => ?_)
              obtain ⟨rfl, rfl⟩ := q93
              rw [q94 k (by omega)]
              refine J_callS mf_X10_signOf lk_X10_71 ms_X10_signOf (sp_X10_signOf _ (σ.1.1.getD k 0) _) dX10_windingOf_96 (by decide) (by rfl) rfl (Nat.le_of_ble_eq_true rfl) (Nat.zero_add _) (Nat.zero_add _) (fun v96 h96 n96 q96 => ?_)
              obtain ⟨rfl, rfl⟩ := q96
              refine J_goto (tgt := 103) dX10_windingOf_99 (by decide) ?_
              refine J_iadd dX10_windingOf_103 ?_
              refine J_istore_n dX10_windingOf_104 (by decide) (by rfl) ?_
              refine J_iincN dX10_windingOf_105 (by rfl) (by decide) (by rfl) ?_
              refine J_goto (tgt := 5) dX10_windingOf_108 (by decide) ?_
              exact J_sub (by repeat (first | exact subl_nil | refine subl_cons rfl ?_)) (ih (k + 1) _ _ _ (by omega) (by first | (rw [yes (by first | exact Or.inl (And.intro c56 c62) | exact Or.inr (And.intro c68 c74)), hz]; done) | (rw [no (by rintro (d | d) <;> omega), hz]; exact (Int32.add_zero z).symm)) u19 (fr_tr k1 k19))
          · rw [nI_eq (by omega) (by omega)] at c62
            refine J_iload dX10_windingOf_65 (by rfl) ?_
            refine J_iload_n dX10_windingOf_67 (by rfl) ?_
            refine J_icmp_ne (tgt := 81) dX10_windingOf_68 (by decide) (fun c68 => ?_) (fun c68 => ?_)
            · rw [nI_eq (by omega) (by omega)] at c68
              refine J_iconst (v := 0) dX10_windingOf_81 (by decide) ?_
              refine J_istore dX10_windingOf_82 (by decide) (by rfl) ?_
              refine J_iload_n dX10_windingOf_84 (by rfl) ?_
              refine J_iload dX10_windingOf_85 (by rfl) ?_
              refine J_if_eq (tgt := 102) dX10_windingOf_87 (by decide) (fun c87 => ?_) (fun c87 => ?_)
              · refine J_iconst (v := 0) dX10_windingOf_102 (by decide) ?_
                refine J_iadd dX10_windingOf_103 ?_
                refine J_istore_n dX10_windingOf_104 (by decide) (by rfl) ?_
                refine J_iincN dX10_windingOf_105 (by rfl) (by decide) (by rfl) ?_
                refine J_goto (tgt := 5) dX10_windingOf_108 (by decide) ?_
                exact J_sub (by repeat (first | exact subl_nil | refine subl_cons rfl ?_)) (ih (k + 1) _ _ _ (by omega) (by first | (rw [yes (by first | exact Or.inl (And.intro c56 c62) | exact Or.inr (And.intro c68 c74)), hz]; done) | (rw [no (by rintro (d | d) <;> omega), hz]; exact (Int32.add_zero z).symm)) u19 (fr_tr k1 k19))
              · exact absurd (by decide) c87
            · rw [nI_eq (by omega) (by omega)] at c68
              refine J_iload dX10_windingOf_71 (by rfl) ?_
              refine J_iload_n dX10_windingOf_73 (by rfl) ?_
              refine J_icmp_ne (tgt := 81) dX10_windingOf_74 (by decide) (fun c74 => ?_) (fun c74 => ?_)
              · rw [nI_eq (by omega) (by omega)] at c74
                refine J_iconst (v := 0) dX10_windingOf_81 (by decide) ?_
                refine J_istore dX10_windingOf_82 (by decide) (by rfl) ?_
                refine J_iload_n dX10_windingOf_84 (by rfl) ?_
                refine J_iload dX10_windingOf_85 (by rfl) ?_
                refine J_if_eq (tgt := 102) dX10_windingOf_87 (by decide) (fun c87 => ?_) (fun c87 => ?_)
                · refine J_iconst (v := 0) dX10_windingOf_102 (by decide) ?_
                  refine J_iadd dX10_windingOf_103 ?_
                  refine J_istore_n dX10_windingOf_104 (by decide) (by rfl) ?_
                  refine J_iincN dX10_windingOf_105 (by rfl) (by decide) (by rfl) ?_
                  refine J_goto (tgt := 5) dX10_windingOf_108 (by decide) ?_
                  exact J_sub (by repeat (first | exact subl_nil | refine subl_cons rfl ?_)) (ih (k + 1) _ _ _ (by omega) (by first | (rw [yes (by first | exact Or.inl (And.intro c56 c62) | exact Or.inr (And.intro c68 c74)), hz]; done) | (rw [no (by rintro (d | d) <;> omega), hz]; exact (Int32.add_zero z).symm)) u19 (fr_tr k1 k19))
                · exact absurd (by decide) c87
              · rw [nI_eq (by omega) (by omega)] at c74
                refine J_iconst (v := 1) dX10_windingOf_77 (by decide) ?_
                refine J_goto (tgt := 82) dX10_windingOf_78 (by decide) ?_
                refine J_istore dX10_windingOf_82 (by decide) (by rfl) ?_
                refine J_iload_n dX10_windingOf_84 (by rfl) ?_
                refine J_iload dX10_windingOf_85 (by rfl) ?_
                refine J_if_eq (tgt := 102) dX10_windingOf_87 (by decide) (fun c87 => ?_) (fun c87 => ?_)
                · exact absurd c87 (by decide)
                · refine J_aload_n dX10_windingOf_90 (by rfl) ?_
                  refine J_iload dX10_windingOf_91 (by rfl) ?_
                  refine J_callV mf_X10_of lk_X10_62 mi_X10_of mv_X10_of (sp_X10_of u19.1 p9 (k := k) (by omega) _) dX10_windingOf_93 (by first | assumption | exact isLT.ob (by assumption) | exact isMt.ob (by assumption) | exact isRow.ob (by assumption) | exact isHnd.ob (by assumption) | exact isUnt.ob (by assumption) | exact isSt.ob (by assumption) | exact isHist.ob (by assumption) | exact isTxt.ob (by assumption) | exact isLac.ob (by assumption) | exact isMea.ob (by assumption) | exact hset_s | exact (hset_n (by first | assumption | omega)).trans (by first | assumption | exact isLT.ob (by assumption) | exact isMt.ob (by assumption) | exact isRow.ob (by assumption) | exact isHnd.ob (by assumption) | exact isUnt.ob (by assumption) | exact isSt.ob (by assumption) | exact isHist.ob (by assumption) | exact isTxt.ob (by assumption) | exact isLac.ob (by assumption) | exact isMea.ob (by assumption) | exact hset_s | exact (hset_n (by first | assumption | omega)).trans (by first | assumption | exact isLT.ob (by assumption) | exact isMt.ob (by assumption) | exact isRow.ob (by assumption) | exact isHnd.ob (by assumption) | exact isUnt.ob (by assumption) | exact isSt.ob (by assumption) | exact isHist.ob (by assumption) | exact isTxt.ob (by assumption) | exact isLac.ob (by assumption) | exact isMea.ob (by assumption) | exact hset_s | exact (hset_n (by first | assumption | omega)).trans (by first | assumption | exact isLT.ob (by assumption) | exact isMt.ob (by assumption) | exact isRow.ob (by assumption) | exact isHnd.ob (by assumption) | exact isUnt.ob (by assumption) | exact isSt.ob (by assumption) | exact isHist.ob (by assumption) | exact isTxt.ob (by assumption) | exact isLac.ob (by assumption) | exact isMea.ob (by assumption))))) rfl rfl (by decide) (by rfl) rfl (Nat.le_of_ble_eq_true rfl) (Nat.zero_add _) (Nat.zero_add _) (fun v93 h93 n93 q93 => ?_)
                  obtain ⟨rfl, rfl⟩ := q93
                  rw [q94 k (by omega)]
                  refine J_callS mf_X10_signOf lk_X10_71 ms_X10_signOf (sp_X10_signOf _ (σ.1.1.getD k 0) _) dX10_windingOf_96 (by decide) (by rfl) rfl (Nat.le_of_ble_eq_true rfl) (Nat.zero_add _) (Nat.zero_add _) (fun v96 h96 n96 q96 => ?_)
                  obtain ⟨rfl, rfl⟩ := q96
                  refine J_goto (tgt := 103) dX10_windingOf_99 (by decide) ?_
                  refine J_iadd dX10_windingOf_103 ?_
                  refine J_istore_n dX10_windingOf_104 (by decide) (by rfl) ?_
                  refine J_iincN dX10_windingOf_105 (by rfl) (by decide) (by rfl) ?_
                  refine J_goto (tgt := 5) dX10_windingOf_108 (by decide) ?_
                  exact J_sub (by repeat (first | exact subl_nil | refine subl_cons rfl ?_)) (ih (k + 1) _ _ _ (by omega) (by first | (rw [yes (by first | exact Or.inl (And.intro c56 c62) | exact Or.inr (And.intro c68 c74)), hz]; done) | (rw [no (by rintro (d | d) <;> omega), hz]; exact (Int32.add_zero z).symm)) u19 (fr_tr k1 k19))
  refine J_iconst (v := 0) dX10_windingOf_0 (by decide) ?_
  refine J_istore_n dX10_windingOf_1 (by decide) (by rfl) ?_
  refine J_iconst (v := nI 0) dX10_windingOf_2 (by decide) ?_
  refine J_istore dX10_windingOf_3 (by decide) (by rfl) ?_
  exact J_sub (by repeat (first | exact subl_nil | refine subl_cons rfl ?_)) (loop σ.1.1.length 0 h _ _ (by omega) rfl w fr_rf)
theorem sp_X10_tableOf {G : GG} (h : HP) (x r c : Int32) (n : Nat) : Sp G mm_X10_tableOf 1 0 0 [.int x, .int r, .int c] h n (fun v h' _ => v = some (.int (tO x r c)) ∧ h' = h) := by
  refine Sp_of (by decide +kernel) (Nat.le_of_ble_eq_true rfl) ?_
  refine J_iload_n dX10_tableOf_0 (by rfl) ?_
  refine J_callS mf_X10_rankOf lk_X10_68 ms_X10_rankOf (sp_X10_rankOf _ x _) dX10_tableOf_1 (by decide) (by rfl) rfl (Nat.le_of_ble_eq_true rfl) (Nat.zero_add _) (Nat.zero_add _) (fun v1 h1 n1 q1 => ?_)
  obtain ⟨rfl, rfl⟩ := q1
  refine J_istore_n dX10_tableOf_4 (by decide) (by rfl) ?_
  refine J_iload_n dX10_tableOf_5 (by rfl) ?_
  refine J_iload_n dX10_tableOf_6 (by rfl) ?_
  refine J_iconst (v := 1) dX10_tableOf_7 (by decide) ?_
  refine J_isub dX10_tableOf_8 ?_
  refine J_iload_n dX10_tableOf_9 (by rfl) ?_
  refine J_callS mf_X10_within lk_X10_45 ms_X10_within (sp_X10_within _ r (rk x - 1) (rk x) _) dX10_tableOf_10 (by decide) (by rfl) rfl (Nat.le_of_ble_eq_true rfl) (Nat.zero_add _) (Nat.zero_add _) (fun v10 h10 n10 q10 => ?_)
  obtain ⟨rfl, rfl⟩ := q10
  refine J_if_eq (tgt := 112) dX10_tableOf_13 (by decide) (fun c13 => ?_) (fun c13 => ?_)
  · have c13 := fls c13
    refine J_iload_n dX10_tableOf_112 (by rfl) ?_
    refine J_iload_n dX10_tableOf_113 (by rfl) ?_
    refine J_icmp_ne (tgt := 121) dX10_tableOf_114 (by decide) (fun c114 => ?_) (fun c114 => ?_)
    · refine J_iconst (v := 0) dX10_tableOf_121 (by decide) ?_
      exact J_ireturn dX10_tableOf_122 rfl (by rfl) (⟨by (first | rw [tO, if_neg (no1 c13)] | rw [tO, if_neg (no2 c24)]); first | rw [if_pos c114] | rw [if_neg c114], rfl⟩)
    · refine J_iconst (v := 1) dX10_tableOf_117 (by decide) ?_
      refine J_goto (tgt := 122) dX10_tableOf_118 (by decide) ?_
      exact J_ireturn dX10_tableOf_122 rfl (by rfl) (⟨by (first | rw [tO, if_neg (no1 c13)] | rw [tO, if_neg (no2 c24)]); first | rw [if_pos c114] | rw [if_neg c114], rfl⟩)
  · have c13 := tru c13
    refine J_iload_n dX10_tableOf_16 (by rfl) ?_
    refine J_iload_n dX10_tableOf_17 (by rfl) ?_
    refine J_iconst (v := 1) dX10_tableOf_18 (by decide) ?_
    refine J_isub dX10_tableOf_19 ?_
    refine J_iload_n dX10_tableOf_20 (by rfl) ?_
    refine J_callS mf_X10_within lk_X10_45 ms_X10_within (sp_X10_within _ c (rk x - 1) (rk x) _) dX10_tableOf_21 (by decide) (by rfl) rfl (Nat.le_of_ble_eq_true rfl) (Nat.zero_add _) (Nat.zero_add _) (fun v21 h21 n21 q21 => ?_)
    obtain ⟨rfl, rfl⟩ := q21
    refine J_if_eq (tgt := 112) dX10_tableOf_24 (by decide) (fun c24 => ?_) (fun c24 => ?_)
    · have c24 := fls c24
      refine J_iload_n dX10_tableOf_112 (by rfl) ?_
      refine J_iload_n dX10_tableOf_113 (by rfl) ?_
      refine J_icmp_ne (tgt := 121) dX10_tableOf_114 (by decide) (fun c114 => ?_) (fun c114 => ?_)
      · refine J_iconst (v := 0) dX10_tableOf_121 (by decide) ?_
        exact J_ireturn dX10_tableOf_122 rfl (by rfl) (⟨by (first | rw [tO, if_neg (no1 c13)] | rw [tO, if_neg (no2 c24)]); first | rw [if_pos c114] | rw [if_neg c114], rfl⟩)
      · refine J_iconst (v := 1) dX10_tableOf_117 (by decide) ?_
        refine J_goto (tgt := 122) dX10_tableOf_118 (by decide) ?_
        exact J_ireturn dX10_tableOf_122 rfl (by rfl) (⟨by (first | rw [tO, if_neg (no1 c13)] | rw [tO, if_neg (no2 c24)]); first | rw [if_pos c114] | rw [if_neg c114], rfl⟩)
    · have c24 := tru c24
      refine J_iload_n dX10_tableOf_27 (by rfl) ?_
      refine J_iload_n dX10_tableOf_28 (by rfl) ?_
      refine J_iconst (v := 1) dX10_tableOf_29 (by decide) ?_
      refine J_isub dX10_tableOf_30 ?_
      refine J_icmp_ne (tgt := 38) dX10_tableOf_31 (by decide) (fun c31 => ?_) (fun c31 => ?_)
      · refine J_iconst (v := 0) dX10_tableOf_38 (by decide) ?_
        refine J_istore dX10_tableOf_39 (by decide) (by rfl) ?_
        refine J_iload_n dX10_tableOf_41 (by rfl) ?_
        refine J_iload_n dX10_tableOf_42 (by rfl) ?_
        refine J_iconst (v := 1) dX10_tableOf_43 (by decide) ?_
        refine J_isub dX10_tableOf_44 ?_
        refine J_icmp_ne (tgt := 52) dX10_tableOf_45 (by decide) (fun c45 => ?_) (fun c45 => ?_)
        · refine J_iconst (v := 0) dX10_tableOf_52 (by decide) ?_
          refine J_istore dX10_tableOf_53 (by decide) (by rfl) ?_
          refine J_iload_n dX10_tableOf_55 (by rfl) ?_
          refine J_if_le (tgt := 90) dX10_tableOf_56 (by decide) (fun c56 => ?_) (fun c56 => ?_)
          · refine J_iload dX10_tableOf_90 (by rfl) ?_
            refine J_if_eq (tgt := 108) dX10_tableOf_92 (by decide) (fun c92 => ?_) (fun c92 => ?_)
            · refine J_sipush (v := 5004) dX10_tableOf_108 (by decide) ?_
              exact J_ireturn dX10_tableOf_111 rfl (by rfl) (⟨by rw [tO, if_pos (And.intro c13 c24), if_neg (Int32.not_lt.mpr c56)]; first | rw [if_pos c31, if_pos c45] | rw [if_pos c31, if_neg c45] | rw [if_neg c31], rfl⟩)
            · exact absurd (by decide) c92
          · refine J_iload dX10_tableOf_59 (by rfl) ?_
            refine J_if_eq (tgt := 79) dX10_tableOf_61 (by decide) (fun c61 => ?_) (fun c61 => ?_)
            · refine J_iload dX10_tableOf_79 (by rfl) ?_
              refine J_if_eq (tgt := 88) dX10_tableOf_81 (by decide) (fun c81 => ?_) (fun c81 => ?_)
              · refine J_iconst (v := 0) dX10_tableOf_88 (by decide) ?_
                exact J_ireturn dX10_tableOf_89 rfl (by rfl) (⟨by rw [tO, if_pos (And.intro c13 c24), if_pos (i_nle c56)]; first | rw [if_pos c31, if_pos c45] | rw [if_pos c31, if_neg c45] | rw [if_neg c31, if_pos c45] | rw [if_neg c31, if_neg c45], rfl⟩)
              · exact absurd (by decide) c81
            · exact absurd (by decide) c61
        · refine J_iconst (v := 1) dX10_tableOf_48 (by decide) ?_
          refine J_goto (tgt := 53) dX10_tableOf_49 (by decide) ?_
          refine J_istore dX10_tableOf_53 (by decide) (by rfl) ?_
          refine J_iload_n dX10_tableOf_55 (by rfl) ?_
          refine J_if_le (tgt := 90) dX10_tableOf_56 (by decide) (fun c56 => ?_) (fun c56 => ?_)
          · refine J_iload dX10_tableOf_90 (by rfl) ?_
            refine J_if_eq (tgt := 108) dX10_tableOf_92 (by decide) (fun c92 => ?_) (fun c92 => ?_)
            · refine J_sipush (v := 5004) dX10_tableOf_108 (by decide) ?_
              exact J_ireturn dX10_tableOf_111 rfl (by rfl) (⟨by rw [tO, if_pos (And.intro c13 c24), if_neg (Int32.not_lt.mpr c56)]; first | rw [if_pos c31, if_pos c45] | rw [if_pos c31, if_neg c45] | rw [if_neg c31], rfl⟩)
            · exact absurd (by decide) c92
          · refine J_iload dX10_tableOf_59 (by rfl) ?_
            refine J_if_eq (tgt := 79) dX10_tableOf_61 (by decide) (fun c61 => ?_) (fun c61 => ?_)
            · refine J_iload dX10_tableOf_79 (by rfl) ?_
              refine J_if_eq (tgt := 88) dX10_tableOf_81 (by decide) (fun c81 => ?_) (fun c81 => ?_)
              · exact absurd c81 (by decide)
              · refine J_iconst (v := 1) dX10_tableOf_84 (by decide) ?_
                refine J_goto (tgt := 89) dX10_tableOf_85 (by decide) ?_
                exact J_ireturn dX10_tableOf_89 rfl (by rfl) (⟨by rw [tO, if_pos (And.intro c13 c24), if_pos (i_nle c56)]; first | rw [if_pos c31, if_pos c45] | rw [if_pos c31, if_neg c45] | rw [if_neg c31, if_pos c45] | rw [if_neg c31, if_neg c45], rfl⟩)
            · exact absurd (by decide) c61
      · refine J_iconst (v := 1) dX10_tableOf_34 (by decide) ?_
        refine J_goto (tgt := 39) dX10_tableOf_35 (by decide) ?_
        refine J_istore dX10_tableOf_39 (by decide) (by rfl) ?_
        refine J_iload_n dX10_tableOf_41 (by rfl) ?_
        refine J_iload_n dX10_tableOf_42 (by rfl) ?_
        refine J_iconst (v := 1) dX10_tableOf_43 (by decide) ?_
        refine J_isub dX10_tableOf_44 ?_
        refine J_icmp_ne (tgt := 52) dX10_tableOf_45 (by decide) (fun c45 => ?_) (fun c45 => ?_)
        · refine J_iconst (v := 0) dX10_tableOf_52 (by decide) ?_
          refine J_istore dX10_tableOf_53 (by decide) (by rfl) ?_
          refine J_iload_n dX10_tableOf_55 (by rfl) ?_
          refine J_if_le (tgt := 90) dX10_tableOf_56 (by decide) (fun c56 => ?_) (fun c56 => ?_)
          · refine J_iload dX10_tableOf_90 (by rfl) ?_
            refine J_if_eq (tgt := 108) dX10_tableOf_92 (by decide) (fun c92 => ?_) (fun c92 => ?_)
            · exact absurd c92 (by decide)
            · refine J_iload dX10_tableOf_95 (by rfl) ?_
              refine J_if_eq (tgt := 104) dX10_tableOf_97 (by decide) (fun c97 => ?_) (fun c97 => ?_)
              · refine J_iconst (v := 1) dX10_tableOf_104 (by decide) ?_
                refine J_goto (tgt := 111) dX10_tableOf_105 (by decide) ?_
                exact J_ireturn dX10_tableOf_111 rfl (by rfl) (⟨by rw [tO, if_pos (And.intro c13 c24), if_neg (Int32.not_lt.mpr c56)]; first | rw [if_pos c31, if_pos c45] | rw [if_pos c31, if_neg c45] | rw [if_neg c31], rfl⟩)
              · exact absurd (by decide) c97
          · refine J_iload dX10_tableOf_59 (by rfl) ?_
            refine J_if_eq (tgt := 79) dX10_tableOf_61 (by decide) (fun c61 => ?_) (fun c61 => ?_)
            · exact absurd c61 (by decide)
            · refine J_iload dX10_tableOf_64 (by rfl) ?_
              refine J_if_eq (tgt := 75) dX10_tableOf_66 (by decide) (fun c66 => ?_) (fun c66 => ?_)
              · refine J_iconst (v := 2) dX10_tableOf_75 (by decide) ?_
                refine J_goto (tgt := 89) dX10_tableOf_76 (by decide) ?_
                exact J_ireturn dX10_tableOf_89 rfl (by rfl) (⟨by rw [tO, if_pos (And.intro c13 c24), if_pos (i_nle c56)]; first | rw [if_pos c31, if_pos c45] | rw [if_pos c31, if_neg c45] | rw [if_neg c31, if_pos c45] | rw [if_neg c31, if_neg c45], rfl⟩)
              · exact absurd (by decide) c66
        · refine J_iconst (v := 1) dX10_tableOf_48 (by decide) ?_
          refine J_goto (tgt := 53) dX10_tableOf_49 (by decide) ?_
          refine J_istore dX10_tableOf_53 (by decide) (by rfl) ?_
          refine J_iload_n dX10_tableOf_55 (by rfl) ?_
          refine J_if_le (tgt := 90) dX10_tableOf_56 (by decide) (fun c56 => ?_) (fun c56 => ?_)
          · refine J_iload dX10_tableOf_90 (by rfl) ?_
            refine J_if_eq (tgt := 108) dX10_tableOf_92 (by decide) (fun c92 => ?_) (fun c92 => ?_)
            · exact absurd c92 (by decide)
            · refine J_iload dX10_tableOf_95 (by rfl) ?_
              refine J_if_eq (tgt := 104) dX10_tableOf_97 (by decide) (fun c97 => ?_) (fun c97 => ?_)
              · exact absurd c97 (by decide)
              · refine J_iconst (v := 0) dX10_tableOf_100 (by decide) ?_
                refine J_goto (tgt := 111) dX10_tableOf_101 (by decide) ?_
                exact J_ireturn dX10_tableOf_111 rfl (by rfl) (⟨by rw [tO, if_pos (And.intro c13 c24), if_neg (Int32.not_lt.mpr c56)]; first | rw [if_pos c31, if_pos c45] | rw [if_pos c31, if_neg c45] | rw [if_neg c31], rfl⟩)
          · refine J_iload dX10_tableOf_59 (by rfl) ?_
            refine J_if_eq (tgt := 79) dX10_tableOf_61 (by decide) (fun c61 => ?_) (fun c61 => ?_)
            · exact absurd c61 (by decide)
            · refine J_iload dX10_tableOf_64 (by rfl) ?_
              refine J_if_eq (tgt := 75) dX10_tableOf_66 (by decide) (fun c66 => ?_) (fun c66 => ?_)
              · exact absurd c66 (by decide)
              · refine J_sipush (v := 10006) dX10_tableOf_69 (by decide) ?_
                refine J_goto (tgt := 89) dX10_tableOf_72 (by decide) ?_
                exact J_ireturn dX10_tableOf_89 rfl (by rfl) (⟨by rw [tO, if_pos (And.intro c13 c24), if_pos (i_nle c56)]; first | rw [if_pos c31, if_pos c45] | rw [if_pos c31, if_neg c45] | rw [if_neg c31, if_pos c45] | rw [if_neg c31, if_neg c45], rfl⟩)
set_option maxRecDepth 20000 in
theorem sp_X10_layUnit (w : isMt G h y σ xs t b e hd lg a rc rt hh) (n : Nat) : Sp G mm_X10_layUnit 0 0 0 [.ref y] h n (fun v h' _ => v = none ∧ isMt G h' y σ xs t b e hd lg a rc rt hh ∧ isMat G h' (y + 8) mid ∧ fr y (y + 10) h h') := by
  refine Sp_of (by decide +kernel) (Nat.le_of_ble_eq_true rfl) ?_
  obtain ⟨ob, p, s1, s2, s3, ⟨fl, s4⟩, s5⟩ := id w
  have one : ∀ (j k : Nat) (h1 : HP) (n1 : Nat) (f : Nat → Int32), k + j = 16 → h1 (y + 8) = some (iA G 16 f) → (∀ j, j < k → f j = nI (mid j)) → fr (y + 8) (y + 9) h h1 → J (g0 G) mm_X10_layUnit 0 2 [(0, .ref y), (1, .int (nI k))] [] h1 n1 0 0 (RT mm_X10_layUnit (fun v h' _ => v = none ∧ isMt G h' y σ xs t b e hd lg a rc rt hh ∧ isMat G h' (y + 8) mid ∧ fr y (y + 10) h h')) := by
    intro j
    induction j with
    | zero =>
      intro k h1 n1 f hj g1 g2 kk
      have fin := isMt_fr2 w kk (by omega) (by omega) (by obtain ⟨f, u⟩ := s3; exact ⟨f, (kk _ (by omega)).trans u⟩) ⟨f, g1⟩ (by obtain ⟨f, u⟩ := s5; exact ⟨f, (kk _ (by omega)).trans u⟩)
      refine J_iload_n dX10_layUnit_2 (by rfl) ?_
      refine J_bipush (v := nI 16) dX10_layUnit_3 (by decide) ?_
      refine J_icmp_ge (tgt := 34) dX10_layUnit_5 (by decide) (fun c5 => ?_) (fun c5 => ?_)
      · rw [nI_leI (by omega) (by omega)] at c5
        exact J_return dX10_layUnit_34 rfl (⟨rfl, fin.1, ⟨f, g1, fun c hc => g2 c (by omega)⟩, fin.2⟩)
      · rw [nI_leI (by omega) (by omega)] at c5
        exact absurd (by omega) c5
    | succ j ih =>
      intro k h1 n1 f hj g1 g2 kk
      have o2 := (kk y (by omega)).trans ob
      have hnext : ∀ z : Int32, z = nI (mid k) → ∀ j, j < k + 1 → upd f k z j = nI (mid j) := by
        intro z hz i hi
        by_cases ei : i = k
        · subst ei; rw [upd_s, hz]
        · rw [upd_n ei]; exact g2 i (by omega)
      refine J_iload_n dX10_layUnit_2 (by rfl) ?_
      refine J_bipush (v := nI 16) dX10_layUnit_3 (by decide) ?_
      refine J_icmp_ge (tgt := 34) dX10_layUnit_5 (by decide) (fun c5 => ?_) (fun c5 => ?_)
      · rw [nI_leI (by omega) (by omega)] at c5
        exact absurd c5 (by omega)
      · rw [nI_leI (by omega) (by omega)] at c5
        refine J_aload_n dX10_layUnit_8 (by rfl) ?_
        refine J_get fg_X10_31 dX10_layUnit_9 (by first | assumption | exact isLT.ob (by assumption) | exact isMt.ob (by assumption) | exact isRow.ob (by assumption) | exact isHnd.ob (by assumption) | exact isUnt.ob (by assumption) | exact isSt.ob (by assumption) | exact isHist.ob (by assumption) | exact isTxt.ob (by assumption) | exact isLac.ob (by assumption) | exact isMea.ob (by assumption) | exact hset_s | exact (hset_n (by first | assumption | omega)).trans (by first | assumption | exact isLT.ob (by assumption) | exact isMt.ob (by assumption) | exact isRow.ob (by assumption) | exact isHnd.ob (by assumption) | exact isUnt.ob (by assumption) | exact isSt.ob (by assumption) | exact isHist.ob (by assumption) | exact isTxt.ob (by assumption) | exact isLac.ob (by assumption) | exact isMea.ob (by assumption) | exact hset_s | exact (hset_n (by first | assumption | omega)).trans (by first | assumption | exact isLT.ob (by assumption) | exact isMt.ob (by assumption) | exact isRow.ob (by assumption) | exact isHnd.ob (by assumption) | exact isUnt.ob (by assumption) | exact isSt.ob (by assumption) | exact isHist.ob (by assumption) | exact isTxt.ob (by assumption) | exact isLac.ob (by assumption) | exact isMea.ob (by assumption) | exact hset_s | exact (hset_n (by first | assumption | omega)).trans (by first | assumption | exact isLT.ob (by assumption) | exact isMt.ob (by assumption) | exact isRow.ob (by assumption) | exact isHnd.ob (by assumption) | exact isUnt.ob (by assumption) | exact isSt.ob (by assumption) | exact isHist.ob (by assumption) | exact isTxt.ob (by assumption) | exact isLac.ob (by assumption) | exact isMea.ob (by assumption))))) (by rfl) ?_
        refine J_iload_n dX10_layUnit_12 (by rfl) ?_
        refine J_iload_n dX10_layUnit_13 (by rfl) ?_
        refine J_iconst (v := nI 4) dX10_layUnit_14 (by decide) ?_
        refine J_idiv dX10_layUnit_15 (by decide) ?_
        rw [pk_div (by omega) (by omega) (by omega)]
        refine J_iload_n dX10_layUnit_16 (by rfl) ?_
        refine J_iconst (v := nI 4) dX10_layUnit_17 (by decide) ?_
        refine J_irem dX10_layUnit_18 (by decide) ?_
        rw [pk_rem (by omega) (by omega) (by omega)]
        refine J_icmp_ne (tgt := 26) dX10_layUnit_19 (by decide) (fun c19 => ?_) (fun c19 => ?_)
        · rw [nI_eq (by omega) (by omega)] at c19
          refine J_iconst (v := nI 0) dX10_layUnit_26 (by decide) ?_
          refine J_wr dX10_layUnit_27 (by first | assumption | exact isLT.ob (by assumption) | exact isMt.ob (by assumption) | exact isRow.ob (by assumption) | exact isHnd.ob (by assumption) | exact isUnt.ob (by assumption) | exact isSt.ob (by assumption) | exact isHist.ob (by assumption) | exact isTxt.ob (by assumption) | exact isLac.ob (by assumption) | exact isMea.ob (by assumption) | exact hset_s | exact (hset_n (by first | assumption | omega)).trans (by first | assumption | exact isLT.ob (by assumption) | exact isMt.ob (by assumption) | exact isRow.ob (by assumption) | exact isHnd.ob (by assumption) | exact isUnt.ob (by assumption) | exact isSt.ob (by assumption) | exact isHist.ob (by assumption) | exact isTxt.ob (by assumption) | exact isLac.ob (by assumption) | exact isMea.ob (by assumption) | exact hset_s | exact (hset_n (by first | assumption | omega)).trans (by first | assumption | exact isLT.ob (by assumption) | exact isMt.ob (by assumption) | exact isRow.ob (by assumption) | exact isHnd.ob (by assumption) | exact isUnt.ob (by assumption) | exact isSt.ob (by assumption) | exact isHist.ob (by assumption) | exact isTxt.ob (by assumption) | exact isLac.ob (by assumption) | exact isMea.ob (by assumption) | exact hset_s | exact (hset_n (by first | assumption | omega)).trans (by first | assumption | exact isLT.ob (by assumption) | exact isMt.ob (by assumption) | exact isRow.ob (by assumption) | exact isHnd.ob (by assumption) | exact isUnt.ob (by assumption) | exact isSt.ob (by assumption) | exact isHist.ob (by assumption) | exact isTxt.ob (by assumption) | exact isLac.ob (by assumption) | exact isMea.ob (by assumption))))) (by first | assumption | omega) (by decide) ?_
          refine J_iincN dX10_layUnit_28 (by rfl) (by decide) (by rfl) ?_
          refine J_goto (tgt := 2) dX10_layUnit_31 (by decide) ?_
          exact J_sub (by repeat (first | exact subl_nil | refine subl_cons rfl ?_)) (ih (k + 1) _ _ _ (by omega) hset_s (hnext _ (by unfold mid; first | rw [if_pos (by omega)] | rw [if_neg (by omega)])) (fr_tr kk (fr_set (by omega) (by omega))))
        · rw [nI_eq (by omega) (by omega)] at c19
          refine J_iconst (v := nI 1) dX10_layUnit_22 (by decide) ?_
          refine J_goto (tgt := 27) dX10_layUnit_23 (by decide) ?_
          refine J_wr dX10_layUnit_27 (by first | assumption | exact isLT.ob (by assumption) | exact isMt.ob (by assumption) | exact isRow.ob (by assumption) | exact isHnd.ob (by assumption) | exact isUnt.ob (by assumption) | exact isSt.ob (by assumption) | exact isHist.ob (by assumption) | exact isTxt.ob (by assumption) | exact isLac.ob (by assumption) | exact isMea.ob (by assumption) | exact hset_s | exact (hset_n (by first | assumption | omega)).trans (by first | assumption | exact isLT.ob (by assumption) | exact isMt.ob (by assumption) | exact isRow.ob (by assumption) | exact isHnd.ob (by assumption) | exact isUnt.ob (by assumption) | exact isSt.ob (by assumption) | exact isHist.ob (by assumption) | exact isTxt.ob (by assumption) | exact isLac.ob (by assumption) | exact isMea.ob (by assumption) | exact hset_s | exact (hset_n (by first | assumption | omega)).trans (by first | assumption | exact isLT.ob (by assumption) | exact isMt.ob (by assumption) | exact isRow.ob (by assumption) | exact isHnd.ob (by assumption) | exact isUnt.ob (by assumption) | exact isSt.ob (by assumption) | exact isHist.ob (by assumption) | exact isTxt.ob (by assumption) | exact isLac.ob (by assumption) | exact isMea.ob (by assumption) | exact hset_s | exact (hset_n (by first | assumption | omega)).trans (by first | assumption | exact isLT.ob (by assumption) | exact isMt.ob (by assumption) | exact isRow.ob (by assumption) | exact isHnd.ob (by assumption) | exact isUnt.ob (by assumption) | exact isSt.ob (by assumption) | exact isHist.ob (by assumption) | exact isTxt.ob (by assumption) | exact isLac.ob (by assumption) | exact isMea.ob (by assumption))))) (by first | assumption | omega) (by decide) ?_
          refine J_iincN dX10_layUnit_28 (by rfl) (by decide) (by rfl) ?_
          refine J_goto (tgt := 2) dX10_layUnit_31 (by decide) ?_
          exact J_sub (by repeat (first | exact subl_nil | refine subl_cons rfl ?_)) (ih (k + 1) _ _ _ (by omega) hset_s (hnext _ (by unfold mid; first | rw [if_pos (by omega)] | rw [if_neg (by omega)])) (fr_tr kk (fr_set (by omega) (by omega))))
  refine J_iconst (v := nI 0) dX10_layUnit_0 (by decide) ?_
  refine J_istore_n dX10_layUnit_1 (by decide) (by rfl) ?_
  exact J_sub (by repeat (first | exact subl_nil | refine subl_cons rfl ?_)) (one 16 0 _ _ fl (by omega) s4 (fun i hi => absurd hi (Nat.not_lt_zero _)) fr_rf)
set_option maxRecDepth 20000 in
theorem sp_X10_keepProduct {A : Nat → Nat} (w : isMt G h y σ xs t b e hd lg a rc rt hh) (v : isMat G h (y + 9) A) (n : Nat) : Sp G mm_X10_keepProduct 0 0 0 [.ref y] h n (fun v h' _ => v = none ∧ isMt G h' y σ xs t b e hd lg a rc rt hh ∧ isMat G h' (y + 8) A ∧ fr y (y + 10) h h') := by
  refine Sp_of (by decide +kernel) (Nat.le_of_ble_eq_true rfl) ?_
  obtain ⟨ob, p, s1, s2, s3, ⟨fl, s4⟩, s5⟩ := id w
  obtain ⟨fp, v1, v2⟩ := v
  have one : ∀ (j k : Nat) (h1 : HP) (n1 : Nat) (f : Nat → Int32), k + j = 16 → h1 (y + 8) = some (iA G 16 f) → (∀ j, j < k → f j = nI (A j)) → fr (y + 8) (y + 9) h h1 → J (g0 G) mm_X10_keepProduct 0 2 [(0, .ref y), (1, .int (nI k))] [] h1 n1 0 0 (RT mm_X10_keepProduct (fun v h' _ => v = none ∧ isMt G h' y σ xs t b e hd lg a rc rt hh ∧ isMat G h' (y + 8) A ∧ fr y (y + 10) h h')) := by
    intro j
    induction j with
    | zero =>
      intro k h1 n1 f hj g1 g2 kk
      have fin := isMt_fr2 w kk (by omega) (by omega) (by obtain ⟨f, u⟩ := s3; exact ⟨f, (kk _ (by omega)).trans u⟩) ⟨f, g1⟩ ⟨fp, (kk _ (by omega)).trans v1⟩
      refine J_iload_n dX10_keepProduct_2 (by rfl) ?_
      refine J_bipush (v := nI 16) dX10_keepProduct_3 (by decide) ?_
      refine J_icmp_ge (tgt := 26) dX10_keepProduct_5 (by decide) (fun c5 => ?_) (fun c5 => ?_)
      · rw [nI_leI (by omega) (by omega)] at c5
        exact J_return dX10_keepProduct_26 rfl (⟨rfl, fin.1, ⟨f, g1, fun c hc => g2 c (by omega)⟩, fin.2⟩)
      · rw [nI_leI (by omega) (by omega)] at c5
        exact absurd (by omega) c5
    | succ j ih =>
      intro k h1 n1 f hj g1 g2 kk
      have o2 := (kk y (by omega)).trans ob
      have v3 := (kk (y + 9) (by omega)).trans v1
      refine J_iload_n dX10_keepProduct_2 (by rfl) ?_
      refine J_bipush (v := nI 16) dX10_keepProduct_3 (by decide) ?_
      refine J_icmp_ge (tgt := 26) dX10_keepProduct_5 (by decide) (fun c5 => ?_) (fun c5 => ?_)
      · rw [nI_leI (by omega) (by omega)] at c5
        exact absurd c5 (by omega)
      · rw [nI_leI (by omega) (by omega)] at c5
        refine J_aload_n dX10_keepProduct_8 (by rfl) ?_
        refine J_get fg_X10_31 dX10_keepProduct_9 (by first | assumption | exact isLT.ob (by assumption) | exact isMt.ob (by assumption) | exact isRow.ob (by assumption) | exact isHnd.ob (by assumption) | exact isUnt.ob (by assumption) | exact isSt.ob (by assumption) | exact isHist.ob (by assumption) | exact isTxt.ob (by assumption) | exact isLac.ob (by assumption) | exact isMea.ob (by assumption) | exact hset_s | exact (hset_n (by first | assumption | omega)).trans (by first | assumption | exact isLT.ob (by assumption) | exact isMt.ob (by assumption) | exact isRow.ob (by assumption) | exact isHnd.ob (by assumption) | exact isUnt.ob (by assumption) | exact isSt.ob (by assumption) | exact isHist.ob (by assumption) | exact isTxt.ob (by assumption) | exact isLac.ob (by assumption) | exact isMea.ob (by assumption) | exact hset_s | exact (hset_n (by first | assumption | omega)).trans (by first | assumption | exact isLT.ob (by assumption) | exact isMt.ob (by assumption) | exact isRow.ob (by assumption) | exact isHnd.ob (by assumption) | exact isUnt.ob (by assumption) | exact isSt.ob (by assumption) | exact isHist.ob (by assumption) | exact isTxt.ob (by assumption) | exact isLac.ob (by assumption) | exact isMea.ob (by assumption) | exact hset_s | exact (hset_n (by first | assumption | omega)).trans (by first | assumption | exact isLT.ob (by assumption) | exact isMt.ob (by assumption) | exact isRow.ob (by assumption) | exact isHnd.ob (by assumption) | exact isUnt.ob (by assumption) | exact isSt.ob (by assumption) | exact isHist.ob (by assumption) | exact isTxt.ob (by assumption) | exact isLac.ob (by assumption) | exact isMea.ob (by assumption))))) (by rfl) ?_
        refine J_iload_n dX10_keepProduct_12 (by rfl) ?_
        refine J_aload_n dX10_keepProduct_13 (by rfl) ?_
        refine J_get fg_X10_34 dX10_keepProduct_14 (by first | assumption | exact isLT.ob (by assumption) | exact isMt.ob (by assumption) | exact isRow.ob (by assumption) | exact isHnd.ob (by assumption) | exact isUnt.ob (by assumption) | exact isSt.ob (by assumption) | exact isHist.ob (by assumption) | exact isTxt.ob (by assumption) | exact isLac.ob (by assumption) | exact isMea.ob (by assumption) | exact hset_s | exact (hset_n (by first | assumption | omega)).trans (by first | assumption | exact isLT.ob (by assumption) | exact isMt.ob (by assumption) | exact isRow.ob (by assumption) | exact isHnd.ob (by assumption) | exact isUnt.ob (by assumption) | exact isSt.ob (by assumption) | exact isHist.ob (by assumption) | exact isTxt.ob (by assumption) | exact isLac.ob (by assumption) | exact isMea.ob (by assumption) | exact hset_s | exact (hset_n (by first | assumption | omega)).trans (by first | assumption | exact isLT.ob (by assumption) | exact isMt.ob (by assumption) | exact isRow.ob (by assumption) | exact isHnd.ob (by assumption) | exact isUnt.ob (by assumption) | exact isSt.ob (by assumption) | exact isHist.ob (by assumption) | exact isTxt.ob (by assumption) | exact isLac.ob (by assumption) | exact isMea.ob (by assumption) | exact hset_s | exact (hset_n (by first | assumption | omega)).trans (by first | assumption | exact isLT.ob (by assumption) | exact isMt.ob (by assumption) | exact isRow.ob (by assumption) | exact isHnd.ob (by assumption) | exact isUnt.ob (by assumption) | exact isSt.ob (by assumption) | exact isHist.ob (by assumption) | exact isTxt.ob (by assumption) | exact isLac.ob (by assumption) | exact isMea.ob (by assumption))))) (by rfl) ?_
        refine J_iload_n dX10_keepProduct_17 (by rfl) ?_
        refine J_rd dX10_keepProduct_18 (by first | assumption | exact isLT.ob (by assumption) | exact isMt.ob (by assumption) | exact isRow.ob (by assumption) | exact isHnd.ob (by assumption) | exact isUnt.ob (by assumption) | exact isSt.ob (by assumption) | exact isHist.ob (by assumption) | exact isTxt.ob (by assumption) | exact isLac.ob (by assumption) | exact isMea.ob (by assumption) | exact hset_s | exact (hset_n (by first | assumption | omega)).trans (by first | assumption | exact isLT.ob (by assumption) | exact isMt.ob (by assumption) | exact isRow.ob (by assumption) | exact isHnd.ob (by assumption) | exact isUnt.ob (by assumption) | exact isSt.ob (by assumption) | exact isHist.ob (by assumption) | exact isTxt.ob (by assumption) | exact isLac.ob (by assumption) | exact isMea.ob (by assumption) | exact hset_s | exact (hset_n (by first | assumption | omega)).trans (by first | assumption | exact isLT.ob (by assumption) | exact isMt.ob (by assumption) | exact isRow.ob (by assumption) | exact isHnd.ob (by assumption) | exact isUnt.ob (by assumption) | exact isSt.ob (by assumption) | exact isHist.ob (by assumption) | exact isTxt.ob (by assumption) | exact isLac.ob (by assumption) | exact isMea.ob (by assumption) | exact hset_s | exact (hset_n (by first | assumption | omega)).trans (by first | assumption | exact isLT.ob (by assumption) | exact isMt.ob (by assumption) | exact isRow.ob (by assumption) | exact isHnd.ob (by assumption) | exact isUnt.ob (by assumption) | exact isSt.ob (by assumption) | exact isHist.ob (by assumption) | exact isTxt.ob (by assumption) | exact isLac.ob (by assumption) | exact isMea.ob (by assumption))))) (by first | assumption | omega) (by decide) (v2 _ (by omega)) ?_
        refine J_wr dX10_keepProduct_19 (by first | assumption | exact isLT.ob (by assumption) | exact isMt.ob (by assumption) | exact isRow.ob (by assumption) | exact isHnd.ob (by assumption) | exact isUnt.ob (by assumption) | exact isSt.ob (by assumption) | exact isHist.ob (by assumption) | exact isTxt.ob (by assumption) | exact isLac.ob (by assumption) | exact isMea.ob (by assumption) | exact hset_s | exact (hset_n (by first | assumption | omega)).trans (by first | assumption | exact isLT.ob (by assumption) | exact isMt.ob (by assumption) | exact isRow.ob (by assumption) | exact isHnd.ob (by assumption) | exact isUnt.ob (by assumption) | exact isSt.ob (by assumption) | exact isHist.ob (by assumption) | exact isTxt.ob (by assumption) | exact isLac.ob (by assumption) | exact isMea.ob (by assumption) | exact hset_s | exact (hset_n (by first | assumption | omega)).trans (by first | assumption | exact isLT.ob (by assumption) | exact isMt.ob (by assumption) | exact isRow.ob (by assumption) | exact isHnd.ob (by assumption) | exact isUnt.ob (by assumption) | exact isSt.ob (by assumption) | exact isHist.ob (by assumption) | exact isTxt.ob (by assumption) | exact isLac.ob (by assumption) | exact isMea.ob (by assumption) | exact hset_s | exact (hset_n (by first | assumption | omega)).trans (by first | assumption | exact isLT.ob (by assumption) | exact isMt.ob (by assumption) | exact isRow.ob (by assumption) | exact isHnd.ob (by assumption) | exact isUnt.ob (by assumption) | exact isSt.ob (by assumption) | exact isHist.ob (by assumption) | exact isTxt.ob (by assumption) | exact isLac.ob (by assumption) | exact isMea.ob (by assumption))))) (by first | assumption | omega) (by decide) ?_
        refine J_iincN dX10_keepProduct_20 (by rfl) (by decide) (by rfl) ?_
        refine J_goto (tgt := 2) dX10_keepProduct_23 (by decide) ?_
        exact J_sub (by repeat (first | exact subl_nil | refine subl_cons rfl ?_)) (ih (k + 1) _ _ _ (by omega) hset_s (fun i hi => by
          by_cases ei : i = k
          · subst ei; rw [upd_s]
          · rw [upd_n ei]; exact g2 i (by omega)) (fr_tr kk (fr_set (by omega) (by omega))))
  refine J_iconst (v := nI 0) dX10_keepProduct_0 (by decide) ?_
  refine J_istore_n dX10_keepProduct_1 (by decide) (by rfl) ?_
  exact J_sub (by repeat (first | exact subl_nil | refine subl_cons rfl ?_)) (one 16 0 _ _ fl (by omega) s4 (fun i hi => absurd hi (Nat.not_lt_zero _)) fr_rf)
end MD
