/-! the law: the measure, a row of it -/
theorem K_gl {G : GG} {M : MI} {d pc : Nat} {lv : LV} {st : List Value} {h : HP} {n kc kn : Nat} {Q : LV → Nat → List Value → HP → Nat → Prop} {hh : Option (List (Nat × Nat × Nat × Nat))} {a N k : Nat} {f : Nat → Int64} (hd : decode M.2.1 pc = .ok (.laload, 1)) (ha : h a = some (.inl (G.2.1 1, N, .inr (.inl f)))) (hk : k < N) (hN : N < 2 ^ 31) (j : KJ hh G M d (pc + 1) lv (.long (f k) :: st) h n kc kn Q) : KJ hh G M d pc lv (.int (nI k) :: .ref a :: st) h n kc kn Q :=
  K_lald hd ha (vp_in_nI hk hN) (by rw [nI_clamp (Nat.lt_trans hk hN)]; exact j)
theorem K_pl {G : GG} {M : MI} {d pc : Nat} {lv : LV} {st : List Value} {h : HP} {n kc kn : Nat} {Q : LV → Nat → List Value → HP → Nat → Prop} {hh : Option (List (Nat × Nat × Nat × Nat))} {a N k : Nat} {f : Nat → Int64} {x : Int64} (hd : decode M.2.1 pc = .ok (.lastore, 1)) (ha : h a = some (.inl (G.2.1 1, N, .inr (.inl f)))) (hk : k < N) (hN : N < 2 ^ 31) (j : KJ hh G M d (pc + 1) lv st (hset h a (.inl (G.2.1 1, N, .inr (.inl (vp_updL f k x))))) 0 kc kn Q) : KJ hh G M d pc lv (.long x :: .int (nI k) :: .ref a :: st) h n kc kn Q :=
  K_last hd ha (vp_in_nI hk hN) (by rw [nI_clamp (Nat.lt_trans hk hN)]; exact j)
theorem mstep {A : Nat → Nat} {R row c : Nat} {p : Bool} (hA : okM A) (h1 : 1 ≤ R) (h3 : R ≤ 3) (hr : row < 4) (hc : c < 4) : mmul A (moneR R p) (row * 4 + c) = if c = R - 1 then (if p then (10006 * A (row * 4 + (R - 1)) + A (row * 4 + R)) % 10007 else 5004 * A (row * 4 + R) % 10007) else if c = R then (if p then 2 * A (row * 4 + (R - 1)) % 10007 else (A (row * 4 + (R - 1)) + 5004 * A (row * 4 + R)) % 10007) else A (row * 4 + c) := by
  have e1 : (row * 4 + c) / 4 = row := by omega
  have e2 : (row * 4 + c) % 4 = c := by omega
  have a0 := hA (row * 4) (by omega)
  have a1 := hA (row * 4 + 1) (by omega)
  have a2 := hA (row * 4 + 2) (by omega)
  have a3 := hA (row * 4 + 3) (by omega)
  rw [mmul, e1, e2]
  simp only [mmulS]
  rcases (show R = 1 ∨ R = 2 ∨ R = 3 by omega) with rfl | rfl | rfl <;> rcases (show c = 0 ∨ c = 1 ∨ c = 2 ∨ c = 3 by omega) with rfl | rfl | rfl | rfl <;> cases p <;> simp [moneR, mid] <;> omega
def q1 (G : GG) (x : Nat) (h : HP) (σ : Sg) : Option Value → HP → Nat → Prop := fun v h' _ => v = some (.int 1) ∧ isLT G h' x σ ∧ ky (x + 64) (x + 66) h h'
section IM
variable {G : GG} {h : HP} {x : Nat} {σ : Sg}
theorem e_measure {a b : Nat} (ha : a < 4) (hb : b < 4) : opMeasure (nI a) (nI b) σ = (0, nI (mS σ.1.1 0 σ.1.1.length (a * 4 + b)), σ) := by
  unfold opMeasure
  rw [if_pos ⟨⟨nI_pos' (by omega), (nI_ltI (b := 4) (by omega) (by omega)).mpr ha⟩, nI_pos' (by omega), (nI_ltI (b := 4) (by omega) (by omega)).mpr hb⟩, nI_clamp (n := a) (by omega), nI_clamp (n := b) (by omega)]
theorem lr (a : Nat) (ha : a < 2 ^ 63) : lN a - lN a / 10007 * 10007 = lN (a % 10007) := pk_lRem (b := 10007) ha (by omega) (by omega)
theorem l1 {a b : Nat} (ha : a < 10007) (hb : b < 10007) : 10006 * lN a + lN b - (10006 * lN a + lN b) / 10007 * 10007 = lN ((10006 * a + b) % 10007) := by
  rw [show (10006 : Int64) * lN a = lN (10006 * a) from lN_mul 10006 a, lN_add]
  exact lr _ (by omega)
theorem l2 {b : Nat} (hb : b < 10007) : 5004 * lN b - 5004 * lN b / 10007 * 10007 = lN (5004 * b % 10007) := by
  rw [show (5004 : Int64) * lN b = lN (5004 * b) from lN_mul 5004 b]
  exact lr _ (by omega)
theorem l3 {a : Nat} (ha : a < 10007) : 2 * lN a - 2 * lN a / 10007 * 10007 = lN (2 * a % 10007) := by
  rw [show (2 : Int64) * lN a = lN (2 * a) from lN_mul 2 a]
  exact lr _ (by omega)
theorem l4 {a b : Nat} (ha : a < 10007) (hb : b < 10007) : lN a + 5004 * lN b - (lN a + 5004 * lN b) / 10007 * 10007 = lN ((a + 5004 * b) % 10007) := by
  rw [show (5004 : Int64) * lN b = lN (5004 * b) from lN_mul 5004 b, lN_add]
  exact lr _ (by omega)
set_option maxRecDepth 20000 in
theorem sp_L_isMeasure (w : isLT G h x σ) (ok : okS σ) (v : isRA G h (x + 65) σ.1.1) {row : Nat} (hrow : row < 4) (n : Nat) : SpK G mm_L_isMeasure 30 9 60 [.ref x, .int (nI row), .int (nI σ.1.1.length), .ref (x + 65)] h n (q1 G x h σ) := by
  refine SpK_of (by decide +kernel) (Nat.le_of_ble_eq_true rfl) ?_
  obtain ⟨f, h1, h2, h3⟩ := v
  have hx := ok.1.1
  have mb : ∀ k c, c < 4 → mS σ.1.1 0 k (row * 4 + c) < 10007 := fun k c hc => ok_S _ _ _ _ (by omega)
  have check : ∀ (j c Z : Nat) (hh : HP) (n1 : Nat) (g : Nat → Int64), c + j = 4 → x + 66 ≤ Z → hh Z = some (.inl (G.2.1 1, 4, .inr (.inl g))) → (∀ c, c < 4 → g c = lN (mS σ.1.1 0 σ.1.1.length (row * 4 + c))) → isLT G hh x σ → ky (x + 64) (x + 66) h hh → KJ none G mm_L_isMeasure 30 134 [(0, .ref x), (1, .int (nI row)), (4, .ref Z), (5, .int 1), (6, .int (nI c))] [] hh n1 (2 * (4 - c)) (12 * (4 - c)) (fun _ => RT mm_L_isMeasure (q1 G x h σ)) := by
    intro j
    induction j with
    | zero =>
      intro c Z hh n1 g hj hZ g1 g2 u hf
      refine K_iload dL_isMeasure_134 (by rfl) ?_
      refine K_iconst (v := nI 4) dL_isMeasure_136 (by decide) ?_
      refine K_icmp_ge (tgt := 192) dL_isMeasure_137 (by decide) (fun c137 => ?_) (fun c137 => ?_)
      · rw [nI_leI (by omega) (by omega)] at c137
        refine K_iload dL_isMeasure_192 (by rfl) ?_
        exact K_done ⟨_, (⟨rfl, u, hf⟩), Or.inl ⟨dL_isMeasure_194, _, _, rfl, rfl, (by rfl), rfl⟩⟩
      · rw [nI_leI (by omega) (by omega)] at c137
        exact absurd (by omega) c137
    | succ j ih =>
      intro c Z hh n1 g hj hZ g1 g2 u hf
      have hb := mb σ.1.1.length c (by omega)
      refine K_iload dL_isMeasure_134 (by rfl) ?_
      refine K_iconst (v := nI 4) dL_isMeasure_136 (by decide) ?_
      refine K_icmp_ge (tgt := 192) dL_isMeasure_137 (by decide) (fun c137 => ?_) (fun c137 => ?_)
      · rw [nI_leI (by omega) (by omega)] at c137
        exact absurd c137 (by omega)
      · rw [nI_leI (by omega) (by omega)] at c137
        refine K_iload dL_isMeasure_140 (by rfl) ?_
        refine K_if_eq (tgt := 183) dL_isMeasure_142 (by decide) (fun c142 => ?_) (fun c142 => ?_)
        · exact absurd c142 (by decide)
        · refine K_aload_n dL_isMeasure_145 (by rfl) ?_
          refine K_iload_n dL_isMeasure_146 (by rfl) ?_
          refine K_iload dL_isMeasure_147 (by rfl) ?_
          refine K_callW2 mf_L_measure (tb_3 (List.mem_of_getElem? (i := 154) rfl) rfl) ms_L_measure (sp_L_measure u ok (nI row) (nI c) _) dL_isMeasure_149 (by decide) (by rfl) rfl (Nat.le_of_ble_eq_true rfl) (by omega) (by omega) (fun v149 h149 n149 q149 => ?_)
          obtain ⟨rfl, u149, k149⟩ := qW_ok (e_measure hrow (b := c) (by omega)) q149
          have g149 := (k149 Z (by omega)).trans g1
          refine K_i2l dL_isMeasure_152 ?_
          rw [nI_l (by omega)]
          refine K_aload dL_isMeasure_153 (by rfl) ?_
          refine K_iload dL_isMeasure_155 (by rfl) ?_
          refine K_gl dL_isMeasure_157 (by first | assumption | exact isLT.ob (by assumption) | exact isRow.ob (by assumption) | exact isHnd.ob (by assumption) | exact isUnt.ob (by assumption) | exact isSt.ob (by assumption) | exact isHist.ob (by assumption) | exact isTxt.ob (by assumption) | exact isLac.ob (by assumption) | exact isMea.ob (by assumption) | exact hset_s | exact (hset_n (by first | assumption | omega)).trans (by first | assumption | exact isLT.ob (by assumption) | exact isRow.ob (by assumption) | exact isHnd.ob (by assumption) | exact isUnt.ob (by assumption) | exact isSt.ob (by assumption) | exact isHist.ob (by assumption) | exact isTxt.ob (by assumption) | exact isLac.ob (by assumption) | exact isMea.ob (by assumption) | exact hset_s | exact (hset_n (by first | assumption | omega)).trans (by first | assumption | exact isLT.ob (by assumption) | exact isRow.ob (by assumption) | exact isHnd.ob (by assumption) | exact isUnt.ob (by assumption) | exact isSt.ob (by assumption) | exact isHist.ob (by assumption) | exact isTxt.ob (by assumption) | exact isLac.ob (by assumption) | exact isMea.ob (by assumption) | exact hset_s | exact (hset_n (by first | assumption | omega)).trans (by first | assumption | exact isLT.ob (by assumption) | exact isRow.ob (by assumption) | exact isHnd.ob (by assumption) | exact isUnt.ob (by assumption) | exact isSt.ob (by assumption) | exact isHist.ob (by assumption) | exact isTxt.ob (by assumption) | exact isLac.ob (by assumption) | exact isMea.ob (by assumption))))) (by first | assumption | omega) (by omega) ?_
          rw [g2 c (by omega)]
          refine K_lcmp dL_isMeasure_158 ?_
          refine K_if_ne (tgt := 183) dL_isMeasure_159 (by decide) (fun c159 => ?_) (fun c159 => ?_)
          · exact absurd ((lg_cmp_eq _ _).mpr rfl) c159
          · refine K_aload_n dL_isMeasure_162 (by rfl) ?_
            refine K_iload_n dL_isMeasure_163 (by rfl) ?_
            refine K_iload dL_isMeasure_164 (by rfl) ?_
            refine K_callW2 mf_L_halved (tb_3 (List.mem_of_getElem? (i := 182) rfl) rfl) ms_L_halved (sp_L_halved u149 ok (nI row) (nI c) _) dL_isMeasure_166 (by decide) (by rfl) rfl (Nat.le_of_ble_eq_true rfl) (by omega) (by omega) (fun v166 h166 n166 q166 => ?_)
            obtain ⟨rfl, u166, k166⟩ := qW_ok (e_measure hrow (b := c) (by omega)) q166
            have g166 := (k166 Z (by omega)).trans g149
            refine K_i2l dL_isMeasure_169 ?_
            rw [nI_l (by omega)]
            refine K_aload dL_isMeasure_170 (by rfl) ?_
            refine K_iload dL_isMeasure_172 (by rfl) ?_
            refine K_gl dL_isMeasure_174 (by first | assumption | exact isLT.ob (by assumption) | exact isRow.ob (by assumption) | exact isHnd.ob (by assumption) | exact isUnt.ob (by assumption) | exact isSt.ob (by assumption) | exact isHist.ob (by assumption) | exact isTxt.ob (by assumption) | exact isLac.ob (by assumption) | exact isMea.ob (by assumption) | exact hset_s | exact (hset_n (by first | assumption | omega)).trans (by first | assumption | exact isLT.ob (by assumption) | exact isRow.ob (by assumption) | exact isHnd.ob (by assumption) | exact isUnt.ob (by assumption) | exact isSt.ob (by assumption) | exact isHist.ob (by assumption) | exact isTxt.ob (by assumption) | exact isLac.ob (by assumption) | exact isMea.ob (by assumption) | exact hset_s | exact (hset_n (by first | assumption | omega)).trans (by first | assumption | exact isLT.ob (by assumption) | exact isRow.ob (by assumption) | exact isHnd.ob (by assumption) | exact isUnt.ob (by assumption) | exact isSt.ob (by assumption) | exact isHist.ob (by assumption) | exact isTxt.ob (by assumption) | exact isLac.ob (by assumption) | exact isMea.ob (by assumption) | exact hset_s | exact (hset_n (by first | assumption | omega)).trans (by first | assumption | exact isLT.ob (by assumption) | exact isRow.ob (by assumption) | exact isHnd.ob (by assumption) | exact isUnt.ob (by assumption) | exact isSt.ob (by assumption) | exact isHist.ob (by assumption) | exact isTxt.ob (by assumption) | exact isLac.ob (by assumption) | exact isMea.ob (by assumption))))) (by first | assumption | omega) (by omega) ?_
            rw [g2 c (by omega)]
            refine K_lcmp dL_isMeasure_175 ?_
            refine K_if_ne (tgt := 183) dL_isMeasure_176 (by decide) (fun c176 => ?_) (fun c176 => ?_)
            · exact absurd ((lg_cmp_eq _ _).mpr rfl) c176
            · refine K_iconst (v := 1) dL_isMeasure_179 (by decide) ?_
              refine K_goto (tgt := 184) dL_isMeasure_180 (by decide) ?_
              refine K_istore dL_isMeasure_184 (Nat.le_of_ble_eq_true rfl) (by rfl) ?_
              refine K_iincN dL_isMeasure_186 (by rfl) (by decide) (by rfl) ?_
              refine K_goto (tgt := 134) dL_isMeasure_189 (by decide) ?_
              exact K_less (kc2 := 2 * (4 - (c + 1))) (kn2 := 12 * (4 - (c + 1))) (by omega) (by omega) (K_sub (by repeat (first | exact subl_nil | refine subl_cons rfl ?_)) (ih (c + 1) Z _ _ g (by omega) hZ g166 g2 u166 (ky_tr hf (ky_tr (ky_fr k149 (Or.inr (by omega))) (ky_fr k166 (Or.inr (by omega)))))))
  have go : ∀ (j k Z : Nat) (hh : HP) (n1 : Nat) (g : Nat → Int64), k + j = σ.1.1.length → x + 66 ≤ Z → hh Z = some (.inl (G.2.1 1, 4, .inr (.inl g))) → (∀ c, c < 4 → g c = lN (mS σ.1.1 0 k (row * 4 + c))) → isLT G hh x σ → ky (x + 64) (x + 66) h hh → KJ none G mm_L_isMeasure 30 13 [(0, .ref x), (1, .int (nI row)), (2, .int (nI σ.1.1.length)), (3, .ref (x + 65)), (4, .ref Z), (5, .int (nI k))] [] hh n1 8 48 (fun _ => RT mm_L_isMeasure (q1 G x h σ)) := by
    intro j
    induction j with
    | zero =>
      intro k Z hh n1 g hj hZ g1 g2 u hf
      obtain rfl : k = σ.1.1.length := by omega
      refine K_iload dL_isMeasure_13 (by rfl) ?_
      refine K_iload_n dL_isMeasure_15 (by rfl) ?_
      refine K_icmp_ge (tgt := 128) dL_isMeasure_16 (by decide) (fun c16 => ?_) (fun c16 => ?_)
      · rw [nI_leI (by omega) (by omega)] at c16
        refine K_iconst (v := 1) dL_isMeasure_128 (by decide) ?_
        refine K_istore dL_isMeasure_129 (Nat.le_of_ble_eq_true rfl) (by rfl) ?_
        refine K_iconst (v := nI 0) dL_isMeasure_131 (by decide) ?_
        refine K_istore dL_isMeasure_132 (Nat.le_of_ble_eq_true rfl) (by rfl) ?_
        exact K_sub (by repeat (first | exact subl_nil | refine subl_cons rfl ?_)) (check 4 0 Z _ _ g (by omega) hZ g1 g2 u hf)
      · rw [nI_leI (by omega) (by omega)] at c16
        exact absurd (by omega) c16
    | succ j ih =>
      intro k Z hh n1 g hj hZ g1 g2 u hf
      have hr1 := (hf (x + 65) (by omega) (by omega)).trans h1
      obtain ⟨R, r1, r3, hR⟩ := rk_nat (hx k (by omega))
      have hcl : (rk (σ.1.1.getD k 0)).toNatClampNeg = R := by rw [hR, nI_clamp (by omega)]
      have ba := mb k (R - 1) (by omega)
      have bb := mb k R (by omega)
      have ms : ∀ c, mS σ.1.1 0 (k + 1) (row * 4 + c) = mmul (mS σ.1.1 0 k) (moneR R (decide (0 < σ.1.1.getD k 0))) (row * 4 + c) := fun c => (show mmul (mS σ.1.1 0 k) (mone (σ.1.1.getD (0 + k) 0)) (row * 4 + c) = _ by rw [Nat.zero_add, mone, hcl])
      by_cases hp : 0 < σ.1.1.getD k 0
      · rw [decide_eq_true hp] at ms
        refine K_iload dL_isMeasure_13 (by rfl) ?_
        refine K_iload_n dL_isMeasure_15 (by rfl) ?_
        refine K_icmp_ge (tgt := 128) dL_isMeasure_16 (by decide) (fun c16 => ?_) (fun c16 => ?_)
        · rw [nI_leI (by omega) (by omega)] at c16
          exact absurd c16 (by omega)
        · rw [nI_leI (by omega) (by omega)] at c16
          refine K_aload_n dL_isMeasure_19 (by rfl) ?_
          refine K_iload dL_isMeasure_20 (by rfl) ?_
          refine K_ga dL_isMeasure_22 (by first | assumption | exact isLT.ob (by assumption) | exact isRow.ob (by assumption) | exact isHnd.ob (by assumption) | exact isUnt.ob (by assumption) | exact isSt.ob (by assumption) | exact isHist.ob (by assumption) | exact isTxt.ob (by assumption) | exact isLac.ob (by assumption) | exact isMea.ob (by assumption) | exact hset_s | exact (hset_n (by first | assumption | omega)).trans (by first | assumption | exact isLT.ob (by assumption) | exact isRow.ob (by assumption) | exact isHnd.ob (by assumption) | exact isUnt.ob (by assumption) | exact isSt.ob (by assumption) | exact isHist.ob (by assumption) | exact isTxt.ob (by assumption) | exact isLac.ob (by assumption) | exact isMea.ob (by assumption) | exact hset_s | exact (hset_n (by first | assumption | omega)).trans (by first | assumption | exact isLT.ob (by assumption) | exact isRow.ob (by assumption) | exact isHnd.ob (by assumption) | exact isUnt.ob (by assumption) | exact isSt.ob (by assumption) | exact isHist.ob (by assumption) | exact isTxt.ob (by assumption) | exact isLac.ob (by assumption) | exact isMea.ob (by assumption) | exact hset_s | exact (hset_n (by first | assumption | omega)).trans (by first | assumption | exact isLT.ob (by assumption) | exact isRow.ob (by assumption) | exact isHnd.ob (by assumption) | exact isUnt.ob (by assumption) | exact isSt.ob (by assumption) | exact isHist.ob (by assumption) | exact isTxt.ob (by assumption) | exact isLac.ob (by assumption) | exact isMea.ob (by assumption))))) (by first | assumption | omega) (by omega) ?_
          rw [h3 k (by omega)]
          refine K_callS mf_L_rank lk_L_63 ms_L_rank (sp_L_rank _ (σ.1.1.getD k 0) _) dL_isMeasure_23 (by decide) (by rfl) rfl (Nat.le_of_ble_eq_true rfl) (Nat.zero_add _) (Nat.zero_add _) (fun v23 h23 n23 q23 => ?_)
          obtain ⟨rfl, rfl⟩ := q23
          rw [hR]
          refine K_istore dL_isMeasure_26 (Nat.le_of_ble_eq_true rfl) (by rfl) ?_
          refine K_aload dL_isMeasure_28 (by rfl) ?_
          refine K_iload dL_isMeasure_30 (by rfl) ?_
          refine K_iconst (v := nI 1) dL_isMeasure_32 (by decide) ?_
          refine K_isub dL_isMeasure_33 ?_
          rw [pk_sub (by omega)]
          refine K_gl dL_isMeasure_34 (by first | assumption | exact isLT.ob (by assumption) | exact isRow.ob (by assumption) | exact isHnd.ob (by assumption) | exact isUnt.ob (by assumption) | exact isSt.ob (by assumption) | exact isHist.ob (by assumption) | exact isTxt.ob (by assumption) | exact isLac.ob (by assumption) | exact isMea.ob (by assumption) | exact hset_s | exact (hset_n (by first | assumption | omega)).trans (by first | assumption | exact isLT.ob (by assumption) | exact isRow.ob (by assumption) | exact isHnd.ob (by assumption) | exact isUnt.ob (by assumption) | exact isSt.ob (by assumption) | exact isHist.ob (by assumption) | exact isTxt.ob (by assumption) | exact isLac.ob (by assumption) | exact isMea.ob (by assumption) | exact hset_s | exact (hset_n (by first | assumption | omega)).trans (by first | assumption | exact isLT.ob (by assumption) | exact isRow.ob (by assumption) | exact isHnd.ob (by assumption) | exact isUnt.ob (by assumption) | exact isSt.ob (by assumption) | exact isHist.ob (by assumption) | exact isTxt.ob (by assumption) | exact isLac.ob (by assumption) | exact isMea.ob (by assumption) | exact hset_s | exact (hset_n (by first | assumption | omega)).trans (by first | assumption | exact isLT.ob (by assumption) | exact isRow.ob (by assumption) | exact isHnd.ob (by assumption) | exact isUnt.ob (by assumption) | exact isSt.ob (by assumption) | exact isHist.ob (by assumption) | exact isTxt.ob (by assumption) | exact isLac.ob (by assumption) | exact isMea.ob (by assumption))))) (by first | assumption | omega) (by omega) ?_
          rw [g2 _ (by omega)]
          refine K_lstore dL_isMeasure_35 (by decide) (by rfl) ?_
          refine K_aload dL_isMeasure_37 (by rfl) ?_
          refine K_iload dL_isMeasure_39 (by rfl) ?_
          refine K_gl dL_isMeasure_41 (by first | assumption | exact isLT.ob (by assumption) | exact isRow.ob (by assumption) | exact isHnd.ob (by assumption) | exact isUnt.ob (by assumption) | exact isSt.ob (by assumption) | exact isHist.ob (by assumption) | exact isTxt.ob (by assumption) | exact isLac.ob (by assumption) | exact isMea.ob (by assumption) | exact hset_s | exact (hset_n (by first | assumption | omega)).trans (by first | assumption | exact isLT.ob (by assumption) | exact isRow.ob (by assumption) | exact isHnd.ob (by assumption) | exact isUnt.ob (by assumption) | exact isSt.ob (by assumption) | exact isHist.ob (by assumption) | exact isTxt.ob (by assumption) | exact isLac.ob (by assumption) | exact isMea.ob (by assumption) | exact hset_s | exact (hset_n (by first | assumption | omega)).trans (by first | assumption | exact isLT.ob (by assumption) | exact isRow.ob (by assumption) | exact isHnd.ob (by assumption) | exact isUnt.ob (by assumption) | exact isSt.ob (by assumption) | exact isHist.ob (by assumption) | exact isTxt.ob (by assumption) | exact isLac.ob (by assumption) | exact isMea.ob (by assumption) | exact hset_s | exact (hset_n (by first | assumption | omega)).trans (by first | assumption | exact isLT.ob (by assumption) | exact isRow.ob (by assumption) | exact isHnd.ob (by assumption) | exact isUnt.ob (by assumption) | exact isSt.ob (by assumption) | exact isHist.ob (by assumption) | exact isTxt.ob (by assumption) | exact isLac.ob (by assumption) | exact isMea.ob (by assumption))))) (by first | assumption | omega) (by omega) ?_
          rw [g2 _ (by omega)]
          refine K_lstore dL_isMeasure_42 (by decide) (by rfl) ?_
          refine K_aload dL_isMeasure_44 (by rfl) ?_
          refine K_iload dL_isMeasure_46 (by rfl) ?_
          refine K_iconst (v := nI 1) dL_isMeasure_48 (by decide) ?_
          refine K_isub dL_isMeasure_49 ?_
          rw [pk_sub (by omega)]
          refine K_aload_n dL_isMeasure_50 (by rfl) ?_
          refine K_iload dL_isMeasure_51 (by rfl) ?_
          refine K_ga dL_isMeasure_53 (by first | assumption | exact isLT.ob (by assumption) | exact isRow.ob (by assumption) | exact isHnd.ob (by assumption) | exact isUnt.ob (by assumption) | exact isSt.ob (by assumption) | exact isHist.ob (by assumption) | exact isTxt.ob (by assumption) | exact isLac.ob (by assumption) | exact isMea.ob (by assumption) | exact hset_s | exact (hset_n (by first | assumption | omega)).trans (by first | assumption | exact isLT.ob (by assumption) | exact isRow.ob (by assumption) | exact isHnd.ob (by assumption) | exact isUnt.ob (by assumption) | exact isSt.ob (by assumption) | exact isHist.ob (by assumption) | exact isTxt.ob (by assumption) | exact isLac.ob (by assumption) | exact isMea.ob (by assumption) | exact hset_s | exact (hset_n (by first | assumption | omega)).trans (by first | assumption | exact isLT.ob (by assumption) | exact isRow.ob (by assumption) | exact isHnd.ob (by assumption) | exact isUnt.ob (by assumption) | exact isSt.ob (by assumption) | exact isHist.ob (by assumption) | exact isTxt.ob (by assumption) | exact isLac.ob (by assumption) | exact isMea.ob (by assumption) | exact hset_s | exact (hset_n (by first | assumption | omega)).trans (by first | assumption | exact isLT.ob (by assumption) | exact isRow.ob (by assumption) | exact isHnd.ob (by assumption) | exact isUnt.ob (by assumption) | exact isSt.ob (by assumption) | exact isHist.ob (by assumption) | exact isTxt.ob (by assumption) | exact isLac.ob (by assumption) | exact isMea.ob (by assumption))))) (by first | assumption | omega) (by omega) ?_
          rw [h3 k (by omega)]
          refine K_if_le (tgt := 73) dL_isMeasure_54 (by decide) (fun c54 => ?_) (fun c54 => ?_)
          · exact absurd hp (Int32.not_lt.mpr c54)
          · refine K_ldc2 dL_isMeasure_57 kc_L_123 ?_
            refine K_lload dL_isMeasure_60 (by rfl) ?_
            refine K_lmul dL_isMeasure_62 ?_
            refine K_lload dL_isMeasure_63 (by rfl) ?_
            refine K_ladd dL_isMeasure_65 ?_
            refine K_ldc2 dL_isMeasure_66 kc_L_125 ?_
            refine K_lrem dL_isMeasure_69 (by decide) ?_
            refine K_goto (tgt := 83) dL_isMeasure_70 (by decide) ?_
            rw [l1 ba bb]
            refine K_pl dL_isMeasure_83 (by first | assumption | exact isLT.ob (by assumption) | exact isRow.ob (by assumption) | exact isHnd.ob (by assumption) | exact isUnt.ob (by assumption) | exact isSt.ob (by assumption) | exact isHist.ob (by assumption) | exact isTxt.ob (by assumption) | exact isLac.ob (by assumption) | exact isMea.ob (by assumption) | exact hset_s | exact (hset_n (by first | assumption | omega)).trans (by first | assumption | exact isLT.ob (by assumption) | exact isRow.ob (by assumption) | exact isHnd.ob (by assumption) | exact isUnt.ob (by assumption) | exact isSt.ob (by assumption) | exact isHist.ob (by assumption) | exact isTxt.ob (by assumption) | exact isLac.ob (by assumption) | exact isMea.ob (by assumption) | exact hset_s | exact (hset_n (by first | assumption | omega)).trans (by first | assumption | exact isLT.ob (by assumption) | exact isRow.ob (by assumption) | exact isHnd.ob (by assumption) | exact isUnt.ob (by assumption) | exact isSt.ob (by assumption) | exact isHist.ob (by assumption) | exact isTxt.ob (by assumption) | exact isLac.ob (by assumption) | exact isMea.ob (by assumption) | exact hset_s | exact (hset_n (by first | assumption | omega)).trans (by first | assumption | exact isLT.ob (by assumption) | exact isRow.ob (by assumption) | exact isHnd.ob (by assumption) | exact isUnt.ob (by assumption) | exact isSt.ob (by assumption) | exact isHist.ob (by assumption) | exact isTxt.ob (by assumption) | exact isLac.ob (by assumption) | exact isMea.ob (by assumption))))) (by first | assumption | omega) (by omega) ?_
            refine K_aload dL_isMeasure_84 (by rfl) ?_
            refine K_iload dL_isMeasure_86 (by rfl) ?_
            refine K_aload_n dL_isMeasure_88 (by rfl) ?_
            refine K_iload dL_isMeasure_89 (by rfl) ?_
            refine K_ga dL_isMeasure_91 (by first | assumption | exact isLT.ob (by assumption) | exact isRow.ob (by assumption) | exact isHnd.ob (by assumption) | exact isUnt.ob (by assumption) | exact isSt.ob (by assumption) | exact isHist.ob (by assumption) | exact isTxt.ob (by assumption) | exact isLac.ob (by assumption) | exact isMea.ob (by assumption) | exact hset_s | exact (hset_n (by first | assumption | omega)).trans (by first | assumption | exact isLT.ob (by assumption) | exact isRow.ob (by assumption) | exact isHnd.ob (by assumption) | exact isUnt.ob (by assumption) | exact isSt.ob (by assumption) | exact isHist.ob (by assumption) | exact isTxt.ob (by assumption) | exact isLac.ob (by assumption) | exact isMea.ob (by assumption) | exact hset_s | exact (hset_n (by first | assumption | omega)).trans (by first | assumption | exact isLT.ob (by assumption) | exact isRow.ob (by assumption) | exact isHnd.ob (by assumption) | exact isUnt.ob (by assumption) | exact isSt.ob (by assumption) | exact isHist.ob (by assumption) | exact isTxt.ob (by assumption) | exact isLac.ob (by assumption) | exact isMea.ob (by assumption) | exact hset_s | exact (hset_n (by first | assumption | omega)).trans (by first | assumption | exact isLT.ob (by assumption) | exact isRow.ob (by assumption) | exact isHnd.ob (by assumption) | exact isUnt.ob (by assumption) | exact isSt.ob (by assumption) | exact isHist.ob (by assumption) | exact isTxt.ob (by assumption) | exact isLac.ob (by assumption) | exact isMea.ob (by assumption))))) (by first | assumption | omega) (by omega) ?_
            rw [h3 k (by omega)]
            refine K_if_le (tgt := 108) dL_isMeasure_92 (by decide) (fun c92 => ?_) (fun c92 => ?_)
            · exact absurd hp (Int32.not_lt.mpr c92)
            · refine K_ldc2 dL_isMeasure_95 kc_L_129 ?_
              refine K_lload dL_isMeasure_98 (by rfl) ?_
              refine K_lmul dL_isMeasure_100 ?_
              refine K_ldc2 dL_isMeasure_101 kc_L_125 ?_
              refine K_lrem dL_isMeasure_104 (by decide) ?_
              refine K_goto (tgt := 121) dL_isMeasure_105 (by decide) ?_
              rw [l3 ba]
              refine K_pl dL_isMeasure_121 (by first | assumption | exact isLT.ob (by assumption) | exact isRow.ob (by assumption) | exact isHnd.ob (by assumption) | exact isUnt.ob (by assumption) | exact isSt.ob (by assumption) | exact isHist.ob (by assumption) | exact isTxt.ob (by assumption) | exact isLac.ob (by assumption) | exact isMea.ob (by assumption) | exact hset_s | exact (hset_n (by first | assumption | omega)).trans (by first | assumption | exact isLT.ob (by assumption) | exact isRow.ob (by assumption) | exact isHnd.ob (by assumption) | exact isUnt.ob (by assumption) | exact isSt.ob (by assumption) | exact isHist.ob (by assumption) | exact isTxt.ob (by assumption) | exact isLac.ob (by assumption) | exact isMea.ob (by assumption) | exact hset_s | exact (hset_n (by first | assumption | omega)).trans (by first | assumption | exact isLT.ob (by assumption) | exact isRow.ob (by assumption) | exact isHnd.ob (by assumption) | exact isUnt.ob (by assumption) | exact isSt.ob (by assumption) | exact isHist.ob (by assumption) | exact isTxt.ob (by assumption) | exact isLac.ob (by assumption) | exact isMea.ob (by assumption) | exact hset_s | exact (hset_n (by first | assumption | omega)).trans (by first | assumption | exact isLT.ob (by assumption) | exact isRow.ob (by assumption) | exact isHnd.ob (by assumption) | exact isUnt.ob (by assumption) | exact isSt.ob (by assumption) | exact isHist.ob (by assumption) | exact isTxt.ob (by assumption) | exact isLac.ob (by assumption) | exact isMea.ob (by assumption))))) (by first | assumption | omega) (by omega) ?_
              refine K_iincN dL_isMeasure_122 (by rfl) (by decide) (by rfl) ?_
              refine K_goto (tgt := 13) dL_isMeasure_125 (by decide) ?_
              exact K_sub (by repeat (first | exact subl_nil | refine subl_cons rfl ?_)) (ih (k + 1) Z _ _ _ (by omega) hZ hset_s (fun c hc => by
                rw [ms c, mstep (ok_S _ _ _) r1 r3 hrow hc]
                by_cases e1 : c = R
                · subst e1; rw [pk_uLs, if_neg (by omega), if_pos rfl, if_pos rfl]
                · rw [pk_uLn e1]
                  by_cases e2 : c = R - 1
                  · subst e2; rw [pk_uLs, if_pos rfl, if_pos rfl]
                  · rw [pk_uLn e2, if_neg e2, if_neg e1]; exact g2 c hc) (isLT_ky u (ky_tr (ky_set (Or.inr (by omega))) (ky_set (Or.inr (by omega))))) (ky_tr hf (ky_tr (ky_set (Or.inr (by omega))) (ky_set (Or.inr (by omega))))))
      · rw [decide_eq_false hp] at ms
        refine K_iload dL_isMeasure_13 (by rfl) ?_
        refine K_iload_n dL_isMeasure_15 (by rfl) ?_
        refine K_icmp_ge (tgt := 128) dL_isMeasure_16 (by decide) (fun c16 => ?_) (fun c16 => ?_)
        · rw [nI_leI (by omega) (by omega)] at c16
          exact absurd c16 (by omega)
        · rw [nI_leI (by omega) (by omega)] at c16
          refine K_aload_n dL_isMeasure_19 (by rfl) ?_
          refine K_iload dL_isMeasure_20 (by rfl) ?_
          refine K_ga dL_isMeasure_22 (by first | assumption | exact isLT.ob (by assumption) | exact isRow.ob (by assumption) | exact isHnd.ob (by assumption) | exact isUnt.ob (by assumption) | exact isSt.ob (by assumption) | exact isHist.ob (by assumption) | exact isTxt.ob (by assumption) | exact isLac.ob (by assumption) | exact isMea.ob (by assumption) | exact hset_s | exact (hset_n (by first | assumption | omega)).trans (by first | assumption | exact isLT.ob (by assumption) | exact isRow.ob (by assumption) | exact isHnd.ob (by assumption) | exact isUnt.ob (by assumption) | exact isSt.ob (by assumption) | exact isHist.ob (by assumption) | exact isTxt.ob (by assumption) | exact isLac.ob (by assumption) | exact isMea.ob (by assumption) | exact hset_s | exact (hset_n (by first | assumption | omega)).trans (by first | assumption | exact isLT.ob (by assumption) | exact isRow.ob (by assumption) | exact isHnd.ob (by assumption) | exact isUnt.ob (by assumption) | exact isSt.ob (by assumption) | exact isHist.ob (by assumption) | exact isTxt.ob (by assumption) | exact isLac.ob (by assumption) | exact isMea.ob (by assumption) | exact hset_s | exact (hset_n (by first | assumption | omega)).trans (by first | assumption | exact isLT.ob (by assumption) | exact isRow.ob (by assumption) | exact isHnd.ob (by assumption) | exact isUnt.ob (by assumption) | exact isSt.ob (by assumption) | exact isHist.ob (by assumption) | exact isTxt.ob (by assumption) | exact isLac.ob (by assumption) | exact isMea.ob (by assumption))))) (by first | assumption | omega) (by omega) ?_
          rw [h3 k (by omega)]
          refine K_callS mf_L_rank lk_L_63 ms_L_rank (sp_L_rank _ (σ.1.1.getD k 0) _) dL_isMeasure_23 (by decide) (by rfl) rfl (Nat.le_of_ble_eq_true rfl) (Nat.zero_add _) (Nat.zero_add _) (fun v23 h23 n23 q23 => ?_)
          obtain ⟨rfl, rfl⟩ := q23
          rw [hR]
          refine K_istore dL_isMeasure_26 (Nat.le_of_ble_eq_true rfl) (by rfl) ?_
          refine K_aload dL_isMeasure_28 (by rfl) ?_
          refine K_iload dL_isMeasure_30 (by rfl) ?_
          refine K_iconst (v := nI 1) dL_isMeasure_32 (by decide) ?_
          refine K_isub dL_isMeasure_33 ?_
          rw [pk_sub (by omega)]
          refine K_gl dL_isMeasure_34 (by first | assumption | exact isLT.ob (by assumption) | exact isRow.ob (by assumption) | exact isHnd.ob (by assumption) | exact isUnt.ob (by assumption) | exact isSt.ob (by assumption) | exact isHist.ob (by assumption) | exact isTxt.ob (by assumption) | exact isLac.ob (by assumption) | exact isMea.ob (by assumption) | exact hset_s | exact (hset_n (by first | assumption | omega)).trans (by first | assumption | exact isLT.ob (by assumption) | exact isRow.ob (by assumption) | exact isHnd.ob (by assumption) | exact isUnt.ob (by assumption) | exact isSt.ob (by assumption) | exact isHist.ob (by assumption) | exact isTxt.ob (by assumption) | exact isLac.ob (by assumption) | exact isMea.ob (by assumption) | exact hset_s | exact (hset_n (by first | assumption | omega)).trans (by first | assumption | exact isLT.ob (by assumption) | exact isRow.ob (by assumption) | exact isHnd.ob (by assumption) | exact isUnt.ob (by assumption) | exact isSt.ob (by assumption) | exact isHist.ob (by assumption) | exact isTxt.ob (by assumption) | exact isLac.ob (by assumption) | exact isMea.ob (by assumption) | exact hset_s | exact (hset_n (by first | assumption | omega)).trans (by first | assumption | exact isLT.ob (by assumption) | exact isRow.ob (by assumption) | exact isHnd.ob (by assumption) | exact isUnt.ob (by assumption) | exact isSt.ob (by assumption) | exact isHist.ob (by assumption) | exact isTxt.ob (by assumption) | exact isLac.ob (by assumption) | exact isMea.ob (by assumption))))) (by first | assumption | omega) (by omega) ?_
          rw [g2 _ (by omega)]
          refine K_lstore dL_isMeasure_35 (by decide) (by rfl) ?_
          refine K_aload dL_isMeasure_37 (by rfl) ?_
          refine K_iload dL_isMeasure_39 (by rfl) ?_
          refine K_gl dL_isMeasure_41 (by first | assumption | exact isLT.ob (by assumption) | exact isRow.ob (by assumption) | exact isHnd.ob (by assumption) | exact isUnt.ob (by assumption) | exact isSt.ob (by assumption) | exact isHist.ob (by assumption) | exact isTxt.ob (by assumption) | exact isLac.ob (by assumption) | exact isMea.ob (by assumption) | exact hset_s | exact (hset_n (by first | assumption | omega)).trans (by first | assumption | exact isLT.ob (by assumption) | exact isRow.ob (by assumption) | exact isHnd.ob (by assumption) | exact isUnt.ob (by assumption) | exact isSt.ob (by assumption) | exact isHist.ob (by assumption) | exact isTxt.ob (by assumption) | exact isLac.ob (by assumption) | exact isMea.ob (by assumption) | exact hset_s | exact (hset_n (by first | assumption | omega)).trans (by first | assumption | exact isLT.ob (by assumption) | exact isRow.ob (by assumption) | exact isHnd.ob (by assumption) | exact isUnt.ob (by assumption) | exact isSt.ob (by assumption) | exact isHist.ob (by assumption) | exact isTxt.ob (by assumption) | exact isLac.ob (by assumption) | exact isMea.ob (by assumption) | exact hset_s | exact (hset_n (by first | assumption | omega)).trans (by first | assumption | exact isLT.ob (by assumption) | exact isRow.ob (by assumption) | exact isHnd.ob (by assumption) | exact isUnt.ob (by assumption) | exact isSt.ob (by assumption) | exact isHist.ob (by assumption) | exact isTxt.ob (by assumption) | exact isLac.ob (by assumption) | exact isMea.ob (by assumption))))) (by first | assumption | omega) (by omega) ?_
          rw [g2 _ (by omega)]
          refine K_lstore dL_isMeasure_42 (by decide) (by rfl) ?_
          refine K_aload dL_isMeasure_44 (by rfl) ?_
          refine K_iload dL_isMeasure_46 (by rfl) ?_
          refine K_iconst (v := nI 1) dL_isMeasure_48 (by decide) ?_
          refine K_isub dL_isMeasure_49 ?_
          rw [pk_sub (by omega)]
          refine K_aload_n dL_isMeasure_50 (by rfl) ?_
          refine K_iload dL_isMeasure_51 (by rfl) ?_
          refine K_ga dL_isMeasure_53 (by first | assumption | exact isLT.ob (by assumption) | exact isRow.ob (by assumption) | exact isHnd.ob (by assumption) | exact isUnt.ob (by assumption) | exact isSt.ob (by assumption) | exact isHist.ob (by assumption) | exact isTxt.ob (by assumption) | exact isLac.ob (by assumption) | exact isMea.ob (by assumption) | exact hset_s | exact (hset_n (by first | assumption | omega)).trans (by first | assumption | exact isLT.ob (by assumption) | exact isRow.ob (by assumption) | exact isHnd.ob (by assumption) | exact isUnt.ob (by assumption) | exact isSt.ob (by assumption) | exact isHist.ob (by assumption) | exact isTxt.ob (by assumption) | exact isLac.ob (by assumption) | exact isMea.ob (by assumption) | exact hset_s | exact (hset_n (by first | assumption | omega)).trans (by first | assumption | exact isLT.ob (by assumption) | exact isRow.ob (by assumption) | exact isHnd.ob (by assumption) | exact isUnt.ob (by assumption) | exact isSt.ob (by assumption) | exact isHist.ob (by assumption) | exact isTxt.ob (by assumption) | exact isLac.ob (by assumption) | exact isMea.ob (by assumption) | exact hset_s | exact (hset_n (by first | assumption | omega)).trans (by first | assumption | exact isLT.ob (by assumption) | exact isRow.ob (by assumption) | exact isHnd.ob (by assumption) | exact isUnt.ob (by assumption) | exact isSt.ob (by assumption) | exact isHist.ob (by assumption) | exact isTxt.ob (by assumption) | exact isLac.ob (by assumption) | exact isMea.ob (by assumption))))) (by first | assumption | omega) (by omega) ?_
          rw [h3 k (by omega)]
          refine K_if_le (tgt := 73) dL_isMeasure_54 (by decide) (fun c54 => ?_) (fun c54 => ?_)
          · refine K_ldc2 dL_isMeasure_73 kc_L_127 ?_
            refine K_lload dL_isMeasure_76 (by rfl) ?_
            refine K_lmul dL_isMeasure_78 ?_
            refine K_ldc2 dL_isMeasure_79 kc_L_125 ?_
            refine K_lrem dL_isMeasure_82 (by decide) ?_
            rw [l2 bb]
            refine K_pl dL_isMeasure_83 (by first | assumption | exact isLT.ob (by assumption) | exact isRow.ob (by assumption) | exact isHnd.ob (by assumption) | exact isUnt.ob (by assumption) | exact isSt.ob (by assumption) | exact isHist.ob (by assumption) | exact isTxt.ob (by assumption) | exact isLac.ob (by assumption) | exact isMea.ob (by assumption) | exact hset_s | exact (hset_n (by first | assumption | omega)).trans (by first | assumption | exact isLT.ob (by assumption) | exact isRow.ob (by assumption) | exact isHnd.ob (by assumption) | exact isUnt.ob (by assumption) | exact isSt.ob (by assumption) | exact isHist.ob (by assumption) | exact isTxt.ob (by assumption) | exact isLac.ob (by assumption) | exact isMea.ob (by assumption) | exact hset_s | exact (hset_n (by first | assumption | omega)).trans (by first | assumption | exact isLT.ob (by assumption) | exact isRow.ob (by assumption) | exact isHnd.ob (by assumption) | exact isUnt.ob (by assumption) | exact isSt.ob (by assumption) | exact isHist.ob (by assumption) | exact isTxt.ob (by assumption) | exact isLac.ob (by assumption) | exact isMea.ob (by assumption) | exact hset_s | exact (hset_n (by first | assumption | omega)).trans (by first | assumption | exact isLT.ob (by assumption) | exact isRow.ob (by assumption) | exact isHnd.ob (by assumption) | exact isUnt.ob (by assumption) | exact isSt.ob (by assumption) | exact isHist.ob (by assumption) | exact isTxt.ob (by assumption) | exact isLac.ob (by assumption) | exact isMea.ob (by assumption))))) (by first | assumption | omega) (by omega) ?_
            refine K_aload dL_isMeasure_84 (by rfl) ?_
            refine K_iload dL_isMeasure_86 (by rfl) ?_
            refine K_aload_n dL_isMeasure_88 (by rfl) ?_
            refine K_iload dL_isMeasure_89 (by rfl) ?_
            refine K_ga dL_isMeasure_91 (by first | assumption | exact isLT.ob (by assumption) | exact isRow.ob (by assumption) | exact isHnd.ob (by assumption) | exact isUnt.ob (by assumption) | exact isSt.ob (by assumption) | exact isHist.ob (by assumption) | exact isTxt.ob (by assumption) | exact isLac.ob (by assumption) | exact isMea.ob (by assumption) | exact hset_s | exact (hset_n (by first | assumption | omega)).trans (by first | assumption | exact isLT.ob (by assumption) | exact isRow.ob (by assumption) | exact isHnd.ob (by assumption) | exact isUnt.ob (by assumption) | exact isSt.ob (by assumption) | exact isHist.ob (by assumption) | exact isTxt.ob (by assumption) | exact isLac.ob (by assumption) | exact isMea.ob (by assumption) | exact hset_s | exact (hset_n (by first | assumption | omega)).trans (by first | assumption | exact isLT.ob (by assumption) | exact isRow.ob (by assumption) | exact isHnd.ob (by assumption) | exact isUnt.ob (by assumption) | exact isSt.ob (by assumption) | exact isHist.ob (by assumption) | exact isTxt.ob (by assumption) | exact isLac.ob (by assumption) | exact isMea.ob (by assumption) | exact hset_s | exact (hset_n (by first | assumption | omega)).trans (by first | assumption | exact isLT.ob (by assumption) | exact isRow.ob (by assumption) | exact isHnd.ob (by assumption) | exact isUnt.ob (by assumption) | exact isSt.ob (by assumption) | exact isHist.ob (by assumption) | exact isTxt.ob (by assumption) | exact isLac.ob (by assumption) | exact isMea.ob (by assumption))))) (by first | assumption | omega) (by omega) ?_
            rw [h3 k (by omega)]
            refine K_if_le (tgt := 108) dL_isMeasure_92 (by decide) (fun c92 => ?_) (fun c92 => ?_)
            · refine K_lload dL_isMeasure_108 (by rfl) ?_
              refine K_ldc2 dL_isMeasure_110 kc_L_127 ?_
              refine K_lload dL_isMeasure_113 (by rfl) ?_
              refine K_lmul dL_isMeasure_115 ?_
              refine K_ladd dL_isMeasure_116 ?_
              refine K_ldc2 dL_isMeasure_117 kc_L_125 ?_
              refine K_lrem dL_isMeasure_120 (by decide) ?_
              rw [l4 ba bb]
              refine K_pl dL_isMeasure_121 (by first | assumption | exact isLT.ob (by assumption) | exact isRow.ob (by assumption) | exact isHnd.ob (by assumption) | exact isUnt.ob (by assumption) | exact isSt.ob (by assumption) | exact isHist.ob (by assumption) | exact isTxt.ob (by assumption) | exact isLac.ob (by assumption) | exact isMea.ob (by assumption) | exact hset_s | exact (hset_n (by first | assumption | omega)).trans (by first | assumption | exact isLT.ob (by assumption) | exact isRow.ob (by assumption) | exact isHnd.ob (by assumption) | exact isUnt.ob (by assumption) | exact isSt.ob (by assumption) | exact isHist.ob (by assumption) | exact isTxt.ob (by assumption) | exact isLac.ob (by assumption) | exact isMea.ob (by assumption) | exact hset_s | exact (hset_n (by first | assumption | omega)).trans (by first | assumption | exact isLT.ob (by assumption) | exact isRow.ob (by assumption) | exact isHnd.ob (by assumption) | exact isUnt.ob (by assumption) | exact isSt.ob (by assumption) | exact isHist.ob (by assumption) | exact isTxt.ob (by assumption) | exact isLac.ob (by assumption) | exact isMea.ob (by assumption) | exact hset_s | exact (hset_n (by first | assumption | omega)).trans (by first | assumption | exact isLT.ob (by assumption) | exact isRow.ob (by assumption) | exact isHnd.ob (by assumption) | exact isUnt.ob (by assumption) | exact isSt.ob (by assumption) | exact isHist.ob (by assumption) | exact isTxt.ob (by assumption) | exact isLac.ob (by assumption) | exact isMea.ob (by assumption))))) (by first | assumption | omega) (by omega) ?_
              refine K_iincN dL_isMeasure_122 (by rfl) (by decide) (by rfl) ?_
              refine K_goto (tgt := 13) dL_isMeasure_125 (by decide) ?_
              exact K_sub (by repeat (first | exact subl_nil | refine subl_cons rfl ?_)) (ih (k + 1) Z _ _ _ (by omega) hZ hset_s (fun c hc => by
                rw [ms c, mstep (ok_S _ _ _) r1 r3 hrow hc]
                by_cases e1 : c = R
                · subst e1; rw [pk_uLs, if_neg (by omega), if_pos rfl, if_neg (by decide)]
                · rw [pk_uLn e1]
                  by_cases e2 : c = R - 1
                  · subst e2; rw [pk_uLs, if_pos rfl, if_neg (by decide)]
                  · rw [pk_uLn e2, if_neg e2, if_neg e1]; exact g2 c hc) (isLT_ky u (ky_tr (ky_set (Or.inr (by omega))) (ky_set (Or.inr (by omega))))) (ky_tr hf (ky_tr (ky_set (Or.inr (by omega))) (ky_set (Or.inr (by omega))))))
            · exact absurd (Int32.not_le.mp c92) hp
          · exact absurd (Int32.not_le.mp c54) hp
  refine K_iconst (v := 4) dL_isMeasure_0 (by decide) ?_
  refine K_newLu2 (N := 4) ca_long dL_isMeasure_1 (by decide) (by decide) (by decide) (by omega) (by omega) (fun q1 hq1 => ?_)
  have hZ := hq1 (x + 65) (by rw [h1]; simp)
  refine K_astore dL_isMeasure_3 (Nat.le_of_ble_eq_true rfl) (by rfl) ?_
  refine K_aload dL_isMeasure_5 (by rfl) ?_
  refine K_iload_n dL_isMeasure_7 (by rfl) ?_
  refine K_lconst (v := 1) dL_isMeasure_8 (by decide) ?_
  refine K_pl dL_isMeasure_9 (by first | assumption | exact isLT.ob (by assumption) | exact isRow.ob (by assumption) | exact isHnd.ob (by assumption) | exact isUnt.ob (by assumption) | exact isSt.ob (by assumption) | exact isHist.ob (by assumption) | exact isTxt.ob (by assumption) | exact isLac.ob (by assumption) | exact isMea.ob (by assumption) | exact hset_s | exact (hset_n (by first | assumption | omega)).trans (by first | assumption | exact isLT.ob (by assumption) | exact isRow.ob (by assumption) | exact isHnd.ob (by assumption) | exact isUnt.ob (by assumption) | exact isSt.ob (by assumption) | exact isHist.ob (by assumption) | exact isTxt.ob (by assumption) | exact isLac.ob (by assumption) | exact isMea.ob (by assumption) | exact hset_s | exact (hset_n (by first | assumption | omega)).trans (by first | assumption | exact isLT.ob (by assumption) | exact isRow.ob (by assumption) | exact isHnd.ob (by assumption) | exact isUnt.ob (by assumption) | exact isSt.ob (by assumption) | exact isHist.ob (by assumption) | exact isTxt.ob (by assumption) | exact isLac.ob (by assumption) | exact isMea.ob (by assumption) | exact hset_s | exact (hset_n (by first | assumption | omega)).trans (by first | assumption | exact isLT.ob (by assumption) | exact isRow.ob (by assumption) | exact isHnd.ob (by assumption) | exact isUnt.ob (by assumption) | exact isSt.ob (by assumption) | exact isHist.ob (by assumption) | exact isTxt.ob (by assumption) | exact isLac.ob (by assumption) | exact isMea.ob (by assumption))))) (by first | assumption | omega) (by omega) ?_
  refine K_iconst (v := nI 0) dL_isMeasure_10 (by decide) ?_
  refine K_istore dL_isMeasure_11 (Nat.le_of_ble_eq_true rfl) (by rfl) ?_
  exact K_less (kc2 := 8) (kn2 := 48) (by omega) (by omega) (K_sub (by repeat (first | exact subl_nil | refine subl_cons rfl ?_)) (go σ.1.1.length 0 q1 _ _ _ (by omega) (by omega) hset_s (fun c hc => by
    show _ = lN (mid (row * 4 + c))
    unfold mid
    by_cases e : c = row
    · rw [e, pk_uLs, if_pos (by omega)]; rfl
    · rw [pk_uLn e, if_neg (by omega)]; rfl) (isLT_ky w (ky_tr (ky_set (Or.inr (by omega))) (ky_set (Or.inr (by omega))))) (ky_tr (ky_set (Or.inr (by omega))) (ky_set (Or.inr (by omega))))))
end IM
