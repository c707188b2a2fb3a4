/-! the law -/
abbrev ML (nm : String) : MI := (⟨RL, nm, "([I)Z"⟩, code, 9, some .boolean)
def QL : LV → Nat → List Value → HP → Nat → Prop := fun _ pc st _ _ => pc = 1436 ∧ st = [.int 1]
theorem K_sldN {G : GG} {M : MI} {d pc : Nat} {lv : LV} {st : List Value} {h : HP} {n kc kn : Nat} {Q : LV → Nat → List Value → HP → Nat → Prop} {hh : Option (List (Nat × Nat × Nat × Nat))} {a L k : Nat} {xs : Nat → Int32} (hd : decode M.2.1 pc = .ok (.iaload, 1)) (ha : G.2.2 a = some (L, xs)) (hk : k < L) (hL : L < 2 ^ 31) (j : KJ hh G M d (pc + 1) lv (.int (xs k) :: st) h n kc kn Q) : KJ hh G M d pc lv (.int (nI k) :: .ref a :: st) h n kc kn Q :=
  K_sld hd ha (vp_in_nI hk hL) (by rw [nI_clamp (Nat.lt_trans hk hL)]; exact j)
theorem isMd_keep {G : GG} {h h' : HP} {y : Nat} {σ : Sg} {t : Int32} {hh : Int64} (v : isMd G h y σ t hh) (k : ∀ q, y ≤ q → q < y + 10 → h' q = h q) : isMd G h' y σ t hh := by
  obtain ⟨xs, b, e, hd, lg, a, rc, rt, o, p, ms⟩ := v
  exact ⟨xs, b, e, hd, lg, a, rc, rt, (k _ (by omega) (by omega)).trans o, p.keep (fun q _ _ => k q (by omega) (by omega)), ms.keep (fun q _ _ => k q (by omega) (by omega))⟩
theorem ok_1 {σ : Sg} (o : okS σ) (k : Int32) : okS (opCrossing k σ).2.2 ∧ okS (opCount k σ).2.2 ∧ okS (opUnt k σ).2.2 ∧ okS (opLeft k σ).2.2 ∧ okS (opPossible k σ).2.2 := by
  refine ⟨?_, ?_, ?_, ?_, ?_⟩
  · unfold opCrossing; split <;> exact o
  · unfold opCount; split <;> exact o
  · unfold opUnt; split <;> exact o
  · unfold opLeft; split <;> exact o
  · unfold opPossible; split <;> exact o
theorem ok_2 {σ : Sg} (o : okS σ) (k p : Int32) : okS (opLies k p σ).2.2 ∧ okS (opWinding k p σ).2.2 ∧ okS (opMeasure k p σ).2.2 ∧ okS (opWhy k p σ).2.2 := by
  refine ⟨?_, ?_, ?_, ?_⟩
  · unfold opLies
    split
    · split <;> exact o
    · exact o
  · unfold opWinding; split <;> exact o
  · unfold opMeasure; split <;> exact o
  · unfold opWhy; split <;> exact o
theorem ok_0 {σ : Sg} (o : okS σ) : okS (opSame σ).2.2 := by
  unfold opSame
  split <;> exact o
theorem ok_s0 : okS s0 := ⟨⟨fun k hk => absurd hk (Nat.not_lt_zero _), Nat.zero_le _⟩, (fun t ht => by cases ht), (fun t ht => by cases ht)⟩
theorem nI_R0 {k : Nat} (h : nI k = 0) (hk : k ≤ 2) : k = 0 := by
  rcases (show k = 0 ∨ k = 1 ∨ k = 2 by omega) with rfl | rfl | rfl
  · rfl
  · exact absurd h (by decide)
  · exact absurd h (by decide)
section LW
variable {G : GG} {b x L i : Nat} {xs : Nat → Int32} {nm : String} {h : HP} {n : Nat} {σ : Sg} {t : Int32} {hh : Int64} {g : Nat → Int64}
set_option maxRecDepth 20000 in
theorem law_c0 (hs : G.2.2 b = some (L, xs)) (hL : L ≤ 1536) (hi : i + 3 ≤ L) (ok : okS σ) (u : isLT G h x σ) (md : isMd G h (x + 64) σ t hh) (ho : h (x + 74) = some (.inl (G.2.1 1, 1, .inr (.inl g)))) (nxt : ∀ (h' : HP) (n' : Nat) (σ' : Sg) (t' : Int32) (hh' : Int64) (g' : Nat → Int64), okS σ' → isLT G h' x σ' → isMd G h' (x + 64) σ' t' hh' → h' (x + 74) = some (.inl (G.2.1 1, 1, .inr (.inl g'))) → KJ none G (ML nm) 1400 1429 [(0, .ref b), (1, .ref x), (2, .ref (x + 64)), (3, .ref (x + 74)), (4, .int (nI i))] [] h' n' (L - i - 1) (6 * (L - i) - 6) QL) : KJ none G (ML nm) 1400 39 [(0, .ref b), (1, .ref x), (2, .ref (x + 64)), (3, .ref (x + 74)), (4, .int (nI i))] [.int (nI 0)] h n (L - i) (6 * (L - i)) QL := by
  refine K_tableIn (off := 125) (tgt := 164) dL_law_39 (by decide) (by decide) (by decide) (by decide) ?_
  refine K_aload_n dL_law_164 (by rfl) ?_
  refine K_aload_n dL_law_165 (by rfl) ?_
  refine K_iload dL_law_166 (by rfl) ?_
  refine K_iconst (v := nI 1) dL_law_168 (by decide) ?_
  refine K_iadd dL_law_169 ?_
  rw [nI_add]
  refine K_sldN dL_law_170 (by assumption) (by first | assumption | omega) (by omega) ?_
  refine K_aload_n dL_law_171 (by rfl) ?_
  refine K_callW (kc' := L - i - 1) (kn' := 6 * (L - i) - 6) mf_L_cross (tb_3 (List.mem_of_getElem? (i := 24) rfl) rfl) ms_L_cross (sp_L_cross u ok ho (Or.inr (by omega)) (xs (i + 1)) _) dL_law_172 (by decide) (by rfl) rfl (Nat.le_of_ble_eq_true rfl) (by omega) (by omega) (fun v172 h172 n172 q172 => ?_)
  obtain ⟨rfl, u172, ⟨g172, o172, e172⟩, k172, d172⟩ := q172
  have m172 := isMd_keep md (fun q h1 h2 => k172 q (by omega) (by omega))
  obtain ⟨x1, x2, x3, x4, x5, x6, x7, x8, w172⟩ := id m172
  refine K_istore dL_law_175 (Nat.le_of_ble_eq_true rfl) (by rfl) ?_
  refine K_aload_n dL_law_177 (by rfl) ?_
  refine K_aload_n dL_law_178 (by rfl) ?_
  refine K_iload dL_law_179 (by rfl) ?_
  refine K_iconst (v := nI 1) dL_law_181 (by decide) ?_
  refine K_iadd dL_law_182 ?_
  rw [nI_add]
  refine K_sldN dL_law_183 (by assumption) (by first | assumption | omega) (by omega) ?_
  refine K_callV mf_X10_cross lk_L_87 mi_X10_cross mv_X10_cross (sp_X10_cross m172 (xs (i + 1)) _) dL_law_184 (by first | assumption | exact isLT.ob (by assumption) | exact isMt.ob (by assumption) | exact isRow.ob (by assumption) | exact isHnd.ob (by assumption) | exact isUnt.ob (by assumption) | exact isSt.ob (by assumption) | exact isHist.ob (by assumption) | exact isTxt.ob (by assumption) | exact isLac.ob (by assumption) | exact isMea.ob (by assumption) | exact hset_s | exact (hset_n (by first | assumption | omega)).trans (by first | assumption | exact isLT.ob (by assumption) | exact isMt.ob (by assumption) | exact isRow.ob (by assumption) | exact isHnd.ob (by assumption) | exact isUnt.ob (by assumption) | exact isSt.ob (by assumption) | exact isHist.ob (by assumption) | exact isTxt.ob (by assumption) | exact isLac.ob (by assumption) | exact isMea.ob (by assumption) | exact hset_s | exact (hset_n (by first | assumption | omega)).trans (by first | assumption | exact isLT.ob (by assumption) | exact isMt.ob (by assumption) | exact isRow.ob (by assumption) | exact isHnd.ob (by assumption) | exact isUnt.ob (by assumption) | exact isSt.ob (by assumption) | exact isHist.ob (by assumption) | exact isTxt.ob (by assumption) | exact isLac.ob (by assumption) | exact isMea.ob (by assumption) | exact hset_s | exact (hset_n (by first | assumption | omega)).trans (by first | assumption | exact isLT.ob (by assumption) | exact isMt.ob (by assumption) | exact isRow.ob (by assumption) | exact isHnd.ob (by assumption) | exact isUnt.ob (by assumption) | exact isSt.ob (by assumption) | exact isHist.ob (by assumption) | exact isTxt.ob (by assumption) | exact isLac.ob (by assumption) | exact isMea.ob (by assumption))))) rfl rfl (by decide) (by rfl) rfl (Nat.le_of_ble_eq_true rfl) (Nat.zero_add _) (Nat.zero_add _) (fun v184 h184 n184 q184 => ?_)
  obtain ⟨rfl, ⟨hh184, m184⟩, k184⟩ := q184
  obtain ⟨y1, y2, y3, y4, y5, y6, y7, y8, w184⟩ := id m184
  have u184 := isLT_fr u172 k184 (by omega)
  have o184 := (k184 (x + 74) (by omega)).trans o172
  refine K_istore dL_law_187 (Nat.le_of_ble_eq_true rfl) (by rfl) ?_
  refine K_aload_n dL_law_189 (by rfl) ?_
  refine K_callV mf_X10_thrown lk_L_88 mi_X10_thrown mv_X10_thrown (sp_X10_thrown w184.1 _) dL_law_190 (by first | assumption | exact isLT.ob (by assumption) | exact isMt.ob (by assumption) | exact isRow.ob (by assumption) | exact isHnd.ob (by assumption) | exact isUnt.ob (by assumption) | exact isSt.ob (by assumption) | exact isHist.ob (by assumption) | exact isTxt.ob (by assumption) | exact isLac.ob (by assumption) | exact isMea.ob (by assumption) | exact hset_s | exact (hset_n (by first | assumption | omega)).trans (by first | assumption | exact isLT.ob (by assumption) | exact isMt.ob (by assumption) | exact isRow.ob (by assumption) | exact isHnd.ob (by assumption) | exact isUnt.ob (by assumption) | exact isSt.ob (by assumption) | exact isHist.ob (by assumption) | exact isTxt.ob (by assumption) | exact isLac.ob (by assumption) | exact isMea.ob (by assumption) | exact hset_s | exact (hset_n (by first | assumption | omega)).trans (by first | assumption | exact isLT.ob (by assumption) | exact isMt.ob (by assumption) | exact isRow.ob (by assumption) | exact isHnd.ob (by assumption) | exact isUnt.ob (by assumption) | exact isSt.ob (by assumption) | exact isHist.ob (by assumption) | exact isTxt.ob (by assumption) | exact isLac.ob (by assumption) | exact isMea.ob (by assumption) | exact hset_s | exact (hset_n (by first | assumption | omega)).trans (by first | assumption | exact isLT.ob (by assumption) | exact isMt.ob (by assumption) | exact isRow.ob (by assumption) | exact isHnd.ob (by assumption) | exact isUnt.ob (by assumption) | exact isSt.ob (by assumption) | exact isHist.ob (by assumption) | exact isTxt.ob (by assumption) | exact isLac.ob (by assumption) | exact isMea.ob (by assumption))))) rfl rfl (by decide) (by rfl) rfl (Nat.le_of_ble_eq_true rfl) (Nat.zero_add _) (Nat.zero_add _) (fun v190 h190 n190 q190 => ?_)
  obtain ⟨rfl, rfl⟩ := q190
  refine K_iload dL_law_193 (by rfl) ?_
  refine K_icmp_eq (tgt := 200) dL_law_195 (by decide) (fun c195 => ?_) (fun c195 => ?_)
  · refine K_iload dL_law_200 (by rfl) ?_
    refine K_if_ne (tgt := 217) dL_law_202 (by decide) (fun c202 => ?_) (fun c202 => ?_)
    · refine K_goto (tgt := 1429) dL_law_217 (by decide) ?_
      exact K_less (kc2 := L - i - 1) (kn2 := 6 * (L - i) - 6) (by omega) (by omega) (K_sub (by repeat (first | exact subl_nil | refine subl_cons rfl ?_)) (nxt _ _ (opCross (xs (i + 1)) σ).2.2 _ _ _ (ok_cross ok _) u184 m184 o184))
    · have z202 := nI_R0 c202 d172
      have e202 := e172 z202
      refine K_aload_n dL_law_205 (by rfl) ?_
      refine K_iconst (v := 0) dL_law_206 (by decide) ?_
      refine K_lald dL_law_207 (by first | assumption | exact isLT.ob (by assumption) | exact isMt.ob (by assumption) | exact isRow.ob (by assumption) | exact isHnd.ob (by assumption) | exact isUnt.ob (by assumption) | exact isSt.ob (by assumption) | exact isHist.ob (by assumption) | exact isTxt.ob (by assumption) | exact isLac.ob (by assumption) | exact isMea.ob (by assumption) | exact hset_s | exact (hset_n (by first | assumption | omega)).trans (by first | assumption | exact isLT.ob (by assumption) | exact isMt.ob (by assumption) | exact isRow.ob (by assumption) | exact isHnd.ob (by assumption) | exact isUnt.ob (by assumption) | exact isSt.ob (by assumption) | exact isHist.ob (by assumption) | exact isTxt.ob (by assumption) | exact isLac.ob (by assumption) | exact isMea.ob (by assumption) | exact hset_s | exact (hset_n (by first | assumption | omega)).trans (by first | assumption | exact isLT.ob (by assumption) | exact isMt.ob (by assumption) | exact isRow.ob (by assumption) | exact isHnd.ob (by assumption) | exact isUnt.ob (by assumption) | exact isSt.ob (by assumption) | exact isHist.ob (by assumption) | exact isTxt.ob (by assumption) | exact isLac.ob (by assumption) | exact isMea.ob (by assumption) | exact hset_s | exact (hset_n (by first | assumption | omega)).trans (by first | assumption | exact isLT.ob (by assumption) | exact isMt.ob (by assumption) | exact isRow.ob (by assumption) | exact isHnd.ob (by assumption) | exact isUnt.ob (by assumption) | exact isSt.ob (by assumption) | exact isHist.ob (by assumption) | exact isTxt.ob (by assumption) | exact isLac.ob (by assumption) | exact isMea.ob (by assumption))))) (pk_in 0 1 (by omega)) ?_
      rw [show (0 : Int32).toNatClampNeg = 0 by decide, e202]
      refine K_iload dL_law_208 (by rfl) ?_
      refine K_i2l dL_law_210 ?_
      refine K_lcmp dL_law_211 ?_
      refine K_if_eq (tgt := 217) dL_law_212 (by decide) (fun c212 => ?_) (fun c212 => ?_)
      · refine K_goto (tgt := 1429) dL_law_217 (by decide) ?_
        exact K_less (kc2 := L - i - 1) (kn2 := 6 * (L - i) - 6) (by omega) (by omega) (K_sub (by repeat (first | exact subl_nil | refine subl_cons rfl ?_)) (nxt _ _ (opCross (xs (i + 1)) σ).2.2 _ _ _ (ok_cross ok _) u184 m184 o184))
      · exact absurd ((lg_cmp_eq _ _).mpr rfl) c212
  · exact absurd rfl c195
set_option maxRecDepth 20000 in
theorem law_c1 (hs : G.2.2 b = some (L, xs)) (hL : L ≤ 1536) (hi : i + 3 ≤ L) (ok : okS σ) (u : isLT G h x σ) (md : isMd G h (x + 64) σ t hh) (ho : h (x + 74) = some (.inl (G.2.1 1, 1, .inr (.inl g)))) (nxt : ∀ (h' : HP) (n' : Nat) (σ' : Sg) (t' : Int32) (hh' : Int64) (g' : Nat → Int64), okS σ' → isLT G h' x σ' → isMd G h' (x + 64) σ' t' hh' → h' (x + 74) = some (.inl (G.2.1 1, 1, .inr (.inl g'))) → KJ none G (ML nm) 1400 1429 [(0, .ref b), (1, .ref x), (2, .ref (x + 64)), (3, .ref (x + 74)), (4, .int (nI i))] [] h' n' (L - i - 1) (6 * (L - i) - 6) QL) : KJ none G (ML nm) 1400 39 [(0, .ref b), (1, .ref x), (2, .ref (x + 64)), (3, .ref (x + 74)), (4, .int (nI i))] [.int (nI 1)] h n (L - i) (6 * (L - i)) QL := by
  refine K_tableIn (off := 181) (tgt := 220) dL_law_39 (by decide) (by decide) (by decide) (by decide) ?_
  refine K_aload_n dL_law_220 (by rfl) ?_
  refine K_aload_n dL_law_221 (by rfl) ?_
  refine K_callW (kc' := L - i - 1) (kn' := 6 * (L - i) - 6) mf_L_open (tb_3 (List.mem_of_getElem? (i := 121) rfl) rfl) ms_L_open (sp_L_open u ok ho (Or.inr (by omega)) _) dL_law_222 (by decide) (by rfl) rfl (Nat.le_of_ble_eq_true rfl) (by omega) (by omega) (fun v222 h222 n222 q222 => ?_)
  obtain ⟨rfl, u222, ⟨g222, o222, e222⟩, k222, d222⟩ := q222
  have m222 := isMd_keep md (fun q h1 h2 => k222 q (by omega) (by omega))
  obtain ⟨x1, x2, x3, x4, x5, x6, x7, x8, w222⟩ := id m222
  refine K_istore dL_law_225 (Nat.le_of_ble_eq_true rfl) (by rfl) ?_
  refine K_aload_n dL_law_227 (by rfl) ?_
  refine K_callV mf_X10_open lk_L_94 mi_X10_open mv_X10_open (sp_X10_open m222 _) dL_law_228 (by first | assumption | exact isLT.ob (by assumption) | exact isMt.ob (by assumption) | exact isRow.ob (by assumption) | exact isHnd.ob (by assumption) | exact isUnt.ob (by assumption) | exact isSt.ob (by assumption) | exact isHist.ob (by assumption) | exact isTxt.ob (by assumption) | exact isLac.ob (by assumption) | exact isMea.ob (by assumption) | exact hset_s | exact (hset_n (by first | assumption | omega)).trans (by first | assumption | exact isLT.ob (by assumption) | exact isMt.ob (by assumption) | exact isRow.ob (by assumption) | exact isHnd.ob (by assumption) | exact isUnt.ob (by assumption) | exact isSt.ob (by assumption) | exact isHist.ob (by assumption) | exact isTxt.ob (by assumption) | exact isLac.ob (by assumption) | exact isMea.ob (by assumption) | exact hset_s | exact (hset_n (by first | assumption | omega)).trans (by first | assumption | exact isLT.ob (by assumption) | exact isMt.ob (by assumption) | exact isRow.ob (by assumption) | exact isHnd.ob (by assumption) | exact isUnt.ob (by assumption) | exact isSt.ob (by assumption) | exact isHist.ob (by assumption) | exact isTxt.ob (by assumption) | exact isLac.ob (by assumption) | exact isMea.ob (by assumption) | exact hset_s | exact (hset_n (by first | assumption | omega)).trans (by first | assumption | exact isLT.ob (by assumption) | exact isMt.ob (by assumption) | exact isRow.ob (by assumption) | exact isHnd.ob (by assumption) | exact isUnt.ob (by assumption) | exact isSt.ob (by assumption) | exact isHist.ob (by assumption) | exact isTxt.ob (by assumption) | exact isLac.ob (by assumption) | exact isMea.ob (by assumption))))) rfl rfl (by decide) (by rfl) rfl (Nat.le_of_ble_eq_true rfl) (Nat.zero_add _) (Nat.zero_add _) (fun v228 h228 n228 q228 => ?_)
  obtain ⟨rfl, ⟨hh228, m228⟩, k228⟩ := q228
  obtain ⟨y1, y2, y3, y4, y5, y6, y7, y8, w228⟩ := id m228
  have u228 := isLT_fr u222 k228 (by omega)
  have o228 := (k228 (x + 74) (by omega)).trans o222
  refine K_istore dL_law_231 (Nat.le_of_ble_eq_true rfl) (by rfl) ?_
  refine K_aload_n dL_law_233 (by rfl) ?_
  refine K_callV mf_X10_thrown lk_L_88 mi_X10_thrown mv_X10_thrown (sp_X10_thrown w228.1 _) dL_law_234 (by first | assumption | exact isLT.ob (by assumption) | exact isMt.ob (by assumption) | exact isRow.ob (by assumption) | exact isHnd.ob (by assumption) | exact isUnt.ob (by assumption) | exact isSt.ob (by assumption) | exact isHist.ob (by assumption) | exact isTxt.ob (by assumption) | exact isLac.ob (by assumption) | exact isMea.ob (by assumption) | exact hset_s | exact (hset_n (by first | assumption | omega)).trans (by first | assumption | exact isLT.ob (by assumption) | exact isMt.ob (by assumption) | exact isRow.ob (by assumption) | exact isHnd.ob (by assumption) | exact isUnt.ob (by assumption) | exact isSt.ob (by assumption) | exact isHist.ob (by assumption) | exact isTxt.ob (by assumption) | exact isLac.ob (by assumption) | exact isMea.ob (by assumption) | exact hset_s | exact (hset_n (by first | assumption | omega)).trans (by first | assumption | exact isLT.ob (by assumption) | exact isMt.ob (by assumption) | exact isRow.ob (by assumption) | exact isHnd.ob (by assumption) | exact isUnt.ob (by assumption) | exact isSt.ob (by assumption) | exact isHist.ob (by assumption) | exact isTxt.ob (by assumption) | exact isLac.ob (by assumption) | exact isMea.ob (by assumption) | exact hset_s | exact (hset_n (by first | assumption | omega)).trans (by first | assumption | exact isLT.ob (by assumption) | exact isMt.ob (by assumption) | exact isRow.ob (by assumption) | exact isHnd.ob (by assumption) | exact isUnt.ob (by assumption) | exact isSt.ob (by assumption) | exact isHist.ob (by assumption) | exact isTxt.ob (by assumption) | exact isLac.ob (by assumption) | exact isMea.ob (by assumption))))) rfl rfl (by decide) (by rfl) rfl (Nat.le_of_ble_eq_true rfl) (Nat.zero_add _) (Nat.zero_add _) (fun v234 h234 n234 q234 => ?_)
  obtain ⟨rfl, rfl⟩ := q234
  refine K_iload dL_law_237 (by rfl) ?_
  refine K_icmp_eq (tgt := 244) dL_law_239 (by decide) (fun c239 => ?_) (fun c239 => ?_)
  · refine K_iload dL_law_244 (by rfl) ?_
    refine K_if_ne (tgt := 261) dL_law_246 (by decide) (fun c246 => ?_) (fun c246 => ?_)
    · refine K_goto (tgt := 1429) dL_law_261 (by decide) ?_
      exact K_less (kc2 := L - i - 1) (kn2 := 6 * (L - i) - 6) (by omega) (by omega) (K_sub (by repeat (first | exact subl_nil | refine subl_cons rfl ?_)) (nxt _ _ (opOpen σ).2.2 _ _ _ (ok_open ok) u228 m228 o228))
    · have z246 := nI_R0 c246 d222
      have e246 := e222 z246
      refine K_aload_n dL_law_249 (by rfl) ?_
      refine K_iconst (v := 0) dL_law_250 (by decide) ?_
      refine K_lald dL_law_251 (by first | assumption | exact isLT.ob (by assumption) | exact isMt.ob (by assumption) | exact isRow.ob (by assumption) | exact isHnd.ob (by assumption) | exact isUnt.ob (by assumption) | exact isSt.ob (by assumption) | exact isHist.ob (by assumption) | exact isTxt.ob (by assumption) | exact isLac.ob (by assumption) | exact isMea.ob (by assumption) | exact hset_s | exact (hset_n (by first | assumption | omega)).trans (by first | assumption | exact isLT.ob (by assumption) | exact isMt.ob (by assumption) | exact isRow.ob (by assumption) | exact isHnd.ob (by assumption) | exact isUnt.ob (by assumption) | exact isSt.ob (by assumption) | exact isHist.ob (by assumption) | exact isTxt.ob (by assumption) | exact isLac.ob (by assumption) | exact isMea.ob (by assumption) | exact hset_s | exact (hset_n (by first | assumption | omega)).trans (by first | assumption | exact isLT.ob (by assumption) | exact isMt.ob (by assumption) | exact isRow.ob (by assumption) | exact isHnd.ob (by assumption) | exact isUnt.ob (by assumption) | exact isSt.ob (by assumption) | exact isHist.ob (by assumption) | exact isTxt.ob (by assumption) | exact isLac.ob (by assumption) | exact isMea.ob (by assumption) | exact hset_s | exact (hset_n (by first | assumption | omega)).trans (by first | assumption | exact isLT.ob (by assumption) | exact isMt.ob (by assumption) | exact isRow.ob (by assumption) | exact isHnd.ob (by assumption) | exact isUnt.ob (by assumption) | exact isSt.ob (by assumption) | exact isHist.ob (by assumption) | exact isTxt.ob (by assumption) | exact isLac.ob (by assumption) | exact isMea.ob (by assumption))))) (pk_in 0 1 (by omega)) ?_
      rw [show (0 : Int32).toNatClampNeg = 0 by decide, e246]
      refine K_iload dL_law_252 (by rfl) ?_
      refine K_i2l dL_law_254 ?_
      refine K_lcmp dL_law_255 ?_
      refine K_if_eq (tgt := 261) dL_law_256 (by decide) (fun c256 => ?_) (fun c256 => ?_)
      · refine K_goto (tgt := 1429) dL_law_261 (by decide) ?_
        exact K_less (kc2 := L - i - 1) (kn2 := 6 * (L - i) - 6) (by omega) (by omega) (K_sub (by repeat (first | exact subl_nil | refine subl_cons rfl ?_)) (nxt _ _ (opOpen σ).2.2 _ _ _ (ok_open ok) u228 m228 o228))
      · exact absurd ((lg_cmp_eq _ _).mpr rfl) c256
  · exact absurd rfl c239
set_option maxRecDepth 20000 in
theorem law_c2 (hs : G.2.2 b = some (L, xs)) (hL : L ≤ 1536) (hi : i + 3 ≤ L) (ok : okS σ) (u : isLT G h x σ) (md : isMd G h (x + 64) σ t hh) (ho : h (x + 74) = some (.inl (G.2.1 1, 1, .inr (.inl g)))) (nxt : ∀ (h' : HP) (n' : Nat) (σ' : Sg) (t' : Int32) (hh' : Int64) (g' : Nat → Int64), okS σ' → isLT G h' x σ' → isMd G h' (x + 64) σ' t' hh' → h' (x + 74) = some (.inl (G.2.1 1, 1, .inr (.inl g'))) → KJ none G (ML nm) 1400 1429 [(0, .ref b), (1, .ref x), (2, .ref (x + 64)), (3, .ref (x + 74)), (4, .int (nI i))] [] h' n' (L - i - 1) (6 * (L - i) - 6) QL) : KJ none G (ML nm) 1400 39 [(0, .ref b), (1, .ref x), (2, .ref (x + 64)), (3, .ref (x + 74)), (4, .int (nI i))] [.int (nI 2)] h n (L - i) (6 * (L - i)) QL := by
  refine K_tableIn (off := 225) (tgt := 264) dL_law_39 (by decide) (by decide) (by decide) (by decide) ?_
  refine K_aload_n dL_law_264 (by rfl) ?_
  refine K_aload_n dL_law_265 (by rfl) ?_
  refine K_iload dL_law_266 (by rfl) ?_
  refine K_iconst (v := nI 1) dL_law_268 (by decide) ?_
  refine K_iadd dL_law_269 ?_
  rw [nI_add]
  refine K_sldN dL_law_270 (by assumption) (by first | assumption | omega) (by omega) ?_
  refine K_aload_n dL_law_271 (by rfl) ?_
  refine K_iload dL_law_272 (by rfl) ?_
  refine K_iconst (v := nI 2) dL_law_274 (by decide) ?_
  refine K_iadd dL_law_275 ?_
  rw [nI_add]
  refine K_sldN dL_law_276 (by assumption) (by first | assumption | omega) (by omega) ?_
  refine K_aload_n dL_law_277 (by rfl) ?_
  refine K_callW (kc' := L - i - 1) (kn' := 6 * (L - i) - 6) mf_L_move (tb_3 (List.mem_of_getElem? (i := 129) rfl) rfl) ms_L_move (sp_L_move u ok ho (Or.inr (by omega)) (xs (i + 1)) (xs (i + 2)) _) dL_law_278 (by decide) (by rfl) rfl (Nat.le_of_ble_eq_true rfl) (by omega) (by omega) (fun v278 h278 n278 q278 => ?_)
  obtain ⟨rfl, u278, ⟨g278, o278, e278⟩, k278, d278⟩ := q278
  have m278 := isMd_keep md (fun q h1 h2 => k278 q (by omega) (by omega))
  obtain ⟨x1, x2, x3, x4, x5, x6, x7, x8, w278⟩ := id m278
  refine K_istore dL_law_281 (Nat.le_of_ble_eq_true rfl) (by rfl) ?_
  refine K_aload_n dL_law_283 (by rfl) ?_
  refine K_aload_n dL_law_284 (by rfl) ?_
  refine K_iload dL_law_285 (by rfl) ?_
  refine K_iconst (v := nI 1) dL_law_287 (by decide) ?_
  refine K_iadd dL_law_288 ?_
  rw [nI_add]
  refine K_sldN dL_law_289 (by assumption) (by first | assumption | omega) (by omega) ?_
  refine K_aload_n dL_law_290 (by rfl) ?_
  refine K_iload dL_law_291 (by rfl) ?_
  refine K_iconst (v := nI 2) dL_law_293 (by decide) ?_
  refine K_iadd dL_law_294 ?_
  rw [nI_add]
  refine K_sldN dL_law_295 (by assumption) (by first | assumption | omega) (by omega) ?_
  refine K_callV mf_X10_move lk_L_98 mi_X10_move mv_X10_move (sp_X10_move m278 ok (xs (i + 1)) (xs (i + 2)) _) dL_law_296 (by first | assumption | exact isLT.ob (by assumption) | exact isMt.ob (by assumption) | exact isRow.ob (by assumption) | exact isHnd.ob (by assumption) | exact isUnt.ob (by assumption) | exact isSt.ob (by assumption) | exact isHist.ob (by assumption) | exact isTxt.ob (by assumption) | exact isLac.ob (by assumption) | exact isMea.ob (by assumption) | exact hset_s | exact (hset_n (by first | assumption | omega)).trans (by first | assumption | exact isLT.ob (by assumption) | exact isMt.ob (by assumption) | exact isRow.ob (by assumption) | exact isHnd.ob (by assumption) | exact isUnt.ob (by assumption) | exact isSt.ob (by assumption) | exact isHist.ob (by assumption) | exact isTxt.ob (by assumption) | exact isLac.ob (by assumption) | exact isMea.ob (by assumption) | exact hset_s | exact (hset_n (by first | assumption | omega)).trans (by first | assumption | exact isLT.ob (by assumption) | exact isMt.ob (by assumption) | exact isRow.ob (by assumption) | exact isHnd.ob (by assumption) | exact isUnt.ob (by assumption) | exact isSt.ob (by assumption) | exact isHist.ob (by assumption) | exact isTxt.ob (by assumption) | exact isLac.ob (by assumption) | exact isMea.ob (by assumption) | exact hset_s | exact (hset_n (by first | assumption | omega)).trans (by first | assumption | exact isLT.ob (by assumption) | exact isMt.ob (by assumption) | exact isRow.ob (by assumption) | exact isHnd.ob (by assumption) | exact isUnt.ob (by assumption) | exact isSt.ob (by assumption) | exact isHist.ob (by assumption) | exact isTxt.ob (by assumption) | exact isLac.ob (by assumption) | exact isMea.ob (by assumption))))) rfl rfl (by decide) (by rfl) rfl (Nat.le_of_ble_eq_true rfl) (Nat.zero_add _) (Nat.zero_add _) (fun v296 h296 n296 q296 => ?_)
  obtain ⟨rfl, ⟨hh296, m296⟩, k296⟩ := q296
  obtain ⟨y1, y2, y3, y4, y5, y6, y7, y8, w296⟩ := id m296
  have u296 := isLT_fr u278 k296 (by omega)
  have o296 := (k296 (x + 74) (by omega)).trans o278
  refine K_istore dL_law_299 (Nat.le_of_ble_eq_true rfl) (by rfl) ?_
  refine K_aload_n dL_law_301 (by rfl) ?_
  refine K_callV mf_X10_thrown lk_L_88 mi_X10_thrown mv_X10_thrown (sp_X10_thrown w296.1 _) dL_law_302 (by first | assumption | exact isLT.ob (by assumption) | exact isMt.ob (by assumption) | exact isRow.ob (by assumption) | exact isHnd.ob (by assumption) | exact isUnt.ob (by assumption) | exact isSt.ob (by assumption) | exact isHist.ob (by assumption) | exact isTxt.ob (by assumption) | exact isLac.ob (by assumption) | exact isMea.ob (by assumption) | exact hset_s | exact (hset_n (by first | assumption | omega)).trans (by first | assumption | exact isLT.ob (by assumption) | exact isMt.ob (by assumption) | exact isRow.ob (by assumption) | exact isHnd.ob (by assumption) | exact isUnt.ob (by assumption) | exact isSt.ob (by assumption) | exact isHist.ob (by assumption) | exact isTxt.ob (by assumption) | exact isLac.ob (by assumption) | exact isMea.ob (by assumption) | exact hset_s | exact (hset_n (by first | assumption | omega)).trans (by first | assumption | exact isLT.ob (by assumption) | exact isMt.ob (by assumption) | exact isRow.ob (by assumption) | exact isHnd.ob (by assumption) | exact isUnt.ob (by assumption) | exact isSt.ob (by assumption) | exact isHist.ob (by assumption) | exact isTxt.ob (by assumption) | exact isLac.ob (by assumption) | exact isMea.ob (by assumption) | exact hset_s | exact (hset_n (by first | assumption | omega)).trans (by first | assumption | exact isLT.ob (by assumption) | exact isMt.ob (by assumption) | exact isRow.ob (by assumption) | exact isHnd.ob (by assumption) | exact isUnt.ob (by assumption) | exact isSt.ob (by assumption) | exact isHist.ob (by assumption) | exact isTxt.ob (by assumption) | exact isLac.ob (by assumption) | exact isMea.ob (by assumption))))) rfl rfl (by decide) (by rfl) rfl (Nat.le_of_ble_eq_true rfl) (Nat.zero_add _) (Nat.zero_add _) (fun v302 h302 n302 q302 => ?_)
  obtain ⟨rfl, rfl⟩ := q302
  refine K_iload dL_law_305 (by rfl) ?_
  refine K_icmp_eq (tgt := 312) dL_law_307 (by decide) (fun c307 => ?_) (fun c307 => ?_)
  · refine K_iload dL_law_312 (by rfl) ?_
    refine K_if_ne (tgt := 329) dL_law_314 (by decide) (fun c314 => ?_) (fun c314 => ?_)
    · refine K_goto (tgt := 1429) dL_law_329 (by decide) ?_
      exact K_less (kc2 := L - i - 1) (kn2 := 6 * (L - i) - 6) (by omega) (by omega) (K_sub (by repeat (first | exact subl_nil | refine subl_cons rfl ?_)) (nxt _ _ (opMove (xs (i + 1)) (xs (i + 2)) σ).2.2 _ _ _ (ok_move ok _ _) u296 m296 o296))
    · have z314 := nI_R0 c314 d278
      have e314 := e278 z314
      refine K_aload_n dL_law_317 (by rfl) ?_
      refine K_iconst (v := 0) dL_law_318 (by decide) ?_
      refine K_lald dL_law_319 (by first | assumption | exact isLT.ob (by assumption) | exact isMt.ob (by assumption) | exact isRow.ob (by assumption) | exact isHnd.ob (by assumption) | exact isUnt.ob (by assumption) | exact isSt.ob (by assumption) | exact isHist.ob (by assumption) | exact isTxt.ob (by assumption) | exact isLac.ob (by assumption) | exact isMea.ob (by assumption) | exact hset_s | exact (hset_n (by first | assumption | omega)).trans (by first | assumption | exact isLT.ob (by assumption) | exact isMt.ob (by assumption) | exact isRow.ob (by assumption) | exact isHnd.ob (by assumption) | exact isUnt.ob (by assumption) | exact isSt.ob (by assumption) | exact isHist.ob (by assumption) | exact isTxt.ob (by assumption) | exact isLac.ob (by assumption) | exact isMea.ob (by assumption) | exact hset_s | exact (hset_n (by first | assumption | omega)).trans (by first | assumption | exact isLT.ob (by assumption) | exact isMt.ob (by assumption) | exact isRow.ob (by assumption) | exact isHnd.ob (by assumption) | exact isUnt.ob (by assumption) | exact isSt.ob (by assumption) | exact isHist.ob (by assumption) | exact isTxt.ob (by assumption) | exact isLac.ob (by assumption) | exact isMea.ob (by assumption) | exact hset_s | exact (hset_n (by first | assumption | omega)).trans (by first | assumption | exact isLT.ob (by assumption) | exact isMt.ob (by assumption) | exact isRow.ob (by assumption) | exact isHnd.ob (by assumption) | exact isUnt.ob (by assumption) | exact isSt.ob (by assumption) | exact isHist.ob (by assumption) | exact isTxt.ob (by assumption) | exact isLac.ob (by assumption) | exact isMea.ob (by assumption))))) (pk_in 0 1 (by omega)) ?_
      rw [show (0 : Int32).toNatClampNeg = 0 by decide, e314]
      refine K_iload dL_law_320 (by rfl) ?_
      refine K_i2l dL_law_322 ?_
      refine K_lcmp dL_law_323 ?_
      refine K_if_eq (tgt := 329) dL_law_324 (by decide) (fun c324 => ?_) (fun c324 => ?_)
      · refine K_goto (tgt := 1429) dL_law_329 (by decide) ?_
        exact K_less (kc2 := L - i - 1) (kn2 := 6 * (L - i) - 6) (by omega) (by omega) (K_sub (by repeat (first | exact subl_nil | refine subl_cons rfl ?_)) (nxt _ _ (opMove (xs (i + 1)) (xs (i + 2)) σ).2.2 _ _ _ (ok_move ok _ _) u296 m296 o296))
      · exact absurd ((lg_cmp_eq _ _).mpr rfl) c324
  · exact absurd rfl c307
set_option maxRecDepth 20000 in
theorem law_c3 (hs : G.2.2 b = some (L, xs)) (hL : L ≤ 1536) (hi : i + 3 ≤ L) (ok : okS σ) (u : isLT G h x σ) (md : isMd G h (x + 64) σ t hh) (ho : h (x + 74) = some (.inl (G.2.1 1, 1, .inr (.inl g)))) (nxt : ∀ (h' : HP) (n' : Nat) (σ' : Sg) (t' : Int32) (hh' : Int64) (g' : Nat → Int64), okS σ' → isLT G h' x σ' → isMd G h' (x + 64) σ' t' hh' → h' (x + 74) = some (.inl (G.2.1 1, 1, .inr (.inl g'))) → KJ none G (ML nm) 1400 1429 [(0, .ref b), (1, .ref x), (2, .ref (x + 64)), (3, .ref (x + 74)), (4, .int (nI i))] [] h' n' (L - i - 1) (6 * (L - i) - 6) QL) : KJ none G (ML nm) 1400 39 [(0, .ref b), (1, .ref x), (2, .ref (x + 64)), (3, .ref (x + 74)), (4, .int (nI i))] [.int (nI 3)] h n (L - i) (6 * (L - i)) QL := by
  refine K_tableIn (off := 293) (tgt := 332) dL_law_39 (by decide) (by decide) (by decide) (by decide) ?_
  refine K_aload_n dL_law_332 (by rfl) ?_
  refine K_aload_n dL_law_333 (by rfl) ?_
  refine K_iload dL_law_334 (by rfl) ?_
  refine K_iconst (v := nI 1) dL_law_336 (by decide) ?_
  refine K_iadd dL_law_337 ?_
  rw [nI_add]
  refine K_sldN dL_law_338 (by assumption) (by first | assumption | omega) (by omega) ?_
  refine K_aload_n dL_law_339 (by rfl) ?_
  refine K_iload dL_law_340 (by rfl) ?_
  refine K_iconst (v := nI 2) dL_law_342 (by decide) ?_
  refine K_iadd dL_law_343 ?_
  rw [nI_add]
  refine K_sldN dL_law_344 (by assumption) (by first | assumption | omega) (by omega) ?_
  refine K_aload_n dL_law_345 (by rfl) ?_
  refine K_callW (kc' := L - i - 1) (kn' := 6 * (L - i) - 6) mf_L_pair (tb_3 (List.mem_of_getElem? (i := 141) rfl) rfl) ms_L_pair (sp_L_pair u ok ho (Or.inr (by omega)) (xs (i + 1)) (xs (i + 2)) _) dL_law_346 (by decide) (by rfl) rfl (Nat.le_of_ble_eq_true rfl) (by omega) (by omega) (fun v346 h346 n346 q346 => ?_)
  obtain ⟨rfl, u346, ⟨g346, o346, e346⟩, k346, d346⟩ := q346
  have m346 := isMd_keep md (fun q h1 h2 => k346 q (by omega) (by omega))
  obtain ⟨x1, x2, x3, x4, x5, x6, x7, x8, w346⟩ := id m346
  refine K_istore dL_law_349 (Nat.le_of_ble_eq_true rfl) (by rfl) ?_
  refine K_aload_n dL_law_351 (by rfl) ?_
  refine K_aload_n dL_law_352 (by rfl) ?_
  refine K_iload dL_law_353 (by rfl) ?_
  refine K_iconst (v := nI 1) dL_law_355 (by decide) ?_
  refine K_iadd dL_law_356 ?_
  rw [nI_add]
  refine K_sldN dL_law_357 (by assumption) (by first | assumption | omega) (by omega) ?_
  refine K_aload_n dL_law_358 (by rfl) ?_
  refine K_iload dL_law_359 (by rfl) ?_
  refine K_iconst (v := nI 2) dL_law_361 (by decide) ?_
  refine K_iadd dL_law_362 ?_
  rw [nI_add]
  refine K_sldN dL_law_363 (by assumption) (by first | assumption | omega) (by omega) ?_
  refine K_callV mf_X10_pair lk_L_101 mi_X10_pair mv_X10_pair (sp_X10_pair m346 (xs (i + 1)) (xs (i + 2)) _) dL_law_364 (by first | assumption | exact isLT.ob (by assumption) | exact isMt.ob (by assumption) | exact isRow.ob (by assumption) | exact isHnd.ob (by assumption) | exact isUnt.ob (by assumption) | exact isSt.ob (by assumption) | exact isHist.ob (by assumption) | exact isTxt.ob (by assumption) | exact isLac.ob (by assumption) | exact isMea.ob (by assumption) | exact hset_s | exact (hset_n (by first | assumption | omega)).trans (by first | assumption | exact isLT.ob (by assumption) | exact isMt.ob (by assumption) | exact isRow.ob (by assumption) | exact isHnd.ob (by assumption) | exact isUnt.ob (by assumption) | exact isSt.ob (by assumption) | exact isHist.ob (by assumption) | exact isTxt.ob (by assumption) | exact isLac.ob (by assumption) | exact isMea.ob (by assumption) | exact hset_s | exact (hset_n (by first | assumption | omega)).trans (by first | assumption | exact isLT.ob (by assumption) | exact isMt.ob (by assumption) | exact isRow.ob (by assumption) | exact isHnd.ob (by assumption) | exact isUnt.ob (by assumption) | exact isSt.ob (by assumption) | exact isHist.ob (by assumption) | exact isTxt.ob (by assumption) | exact isLac.ob (by assumption) | exact isMea.ob (by assumption) | exact hset_s | exact (hset_n (by first | assumption | omega)).trans (by first | assumption | exact isLT.ob (by assumption) | exact isMt.ob (by assumption) | exact isRow.ob (by assumption) | exact isHnd.ob (by assumption) | exact isUnt.ob (by assumption) | exact isSt.ob (by assumption) | exact isHist.ob (by assumption) | exact isTxt.ob (by assumption) | exact isLac.ob (by assumption) | exact isMea.ob (by assumption))))) rfl rfl (by decide) (by rfl) rfl (Nat.le_of_ble_eq_true rfl) (Nat.zero_add _) (Nat.zero_add _) (fun v364 h364 n364 q364 => ?_)
  obtain ⟨rfl, ⟨hh364, m364⟩, k364⟩ := q364
  obtain ⟨y1, y2, y3, y4, y5, y6, y7, y8, w364⟩ := id m364
  have u364 := isLT_fr u346 k364 (by omega)
  have o364 := (k364 (x + 74) (by omega)).trans o346
  refine K_istore dL_law_367 (Nat.le_of_ble_eq_true rfl) (by rfl) ?_
  refine K_aload_n dL_law_369 (by rfl) ?_
  refine K_callV mf_X10_thrown lk_L_88 mi_X10_thrown mv_X10_thrown (sp_X10_thrown w364.1 _) dL_law_370 (by first | assumption | exact isLT.ob (by assumption) | exact isMt.ob (by assumption) | exact isRow.ob (by assumption) | exact isHnd.ob (by assumption) | exact isUnt.ob (by assumption) | exact isSt.ob (by assumption) | exact isHist.ob (by assumption) | exact isTxt.ob (by assumption) | exact isLac.ob (by assumption) | exact isMea.ob (by assumption) | exact hset_s | exact (hset_n (by first | assumption | omega)).trans (by first | assumption | exact isLT.ob (by assumption) | exact isMt.ob (by assumption) | exact isRow.ob (by assumption) | exact isHnd.ob (by assumption) | exact isUnt.ob (by assumption) | exact isSt.ob (by assumption) | exact isHist.ob (by assumption) | exact isTxt.ob (by assumption) | exact isLac.ob (by assumption) | exact isMea.ob (by assumption) | exact hset_s | exact (hset_n (by first | assumption | omega)).trans (by first | assumption | exact isLT.ob (by assumption) | exact isMt.ob (by assumption) | exact isRow.ob (by assumption) | exact isHnd.ob (by assumption) | exact isUnt.ob (by assumption) | exact isSt.ob (by assumption) | exact isHist.ob (by assumption) | exact isTxt.ob (by assumption) | exact isLac.ob (by assumption) | exact isMea.ob (by assumption) | exact hset_s | exact (hset_n (by first | assumption | omega)).trans (by first | assumption | exact isLT.ob (by assumption) | exact isMt.ob (by assumption) | exact isRow.ob (by assumption) | exact isHnd.ob (by assumption) | exact isUnt.ob (by assumption) | exact isSt.ob (by assumption) | exact isHist.ob (by assumption) | exact isTxt.ob (by assumption) | exact isLac.ob (by assumption) | exact isMea.ob (by assumption))))) rfl rfl (by decide) (by rfl) rfl (Nat.le_of_ble_eq_true rfl) (Nat.zero_add _) (Nat.zero_add _) (fun v370 h370 n370 q370 => ?_)
  obtain ⟨rfl, rfl⟩ := q370
  refine K_iload dL_law_373 (by rfl) ?_
  refine K_icmp_eq (tgt := 380) dL_law_375 (by decide) (fun c375 => ?_) (fun c375 => ?_)
  · refine K_iload dL_law_380 (by rfl) ?_
    refine K_if_ne (tgt := 397) dL_law_382 (by decide) (fun c382 => ?_) (fun c382 => ?_)
    · refine K_goto (tgt := 1429) dL_law_397 (by decide) ?_
      exact K_less (kc2 := L - i - 1) (kn2 := 6 * (L - i) - 6) (by omega) (by omega) (K_sub (by repeat (first | exact subl_nil | refine subl_cons rfl ?_)) (nxt _ _ (opPair (xs (i + 1)) (xs (i + 2)) σ).2.2 _ _ _ (ok_pair ok _ _) u364 m364 o364))
    · have z382 := nI_R0 c382 d346
      have e382 := e346 z382
      refine K_aload_n dL_law_385 (by rfl) ?_
      refine K_iconst (v := 0) dL_law_386 (by decide) ?_
      refine K_lald dL_law_387 (by first | assumption | exact isLT.ob (by assumption) | exact isMt.ob (by assumption) | exact isRow.ob (by assumption) | exact isHnd.ob (by assumption) | exact isUnt.ob (by assumption) | exact isSt.ob (by assumption) | exact isHist.ob (by assumption) | exact isTxt.ob (by assumption) | exact isLac.ob (by assumption) | exact isMea.ob (by assumption) | exact hset_s | exact (hset_n (by first | assumption | omega)).trans (by first | assumption | exact isLT.ob (by assumption) | exact isMt.ob (by assumption) | exact isRow.ob (by assumption) | exact isHnd.ob (by assumption) | exact isUnt.ob (by assumption) | exact isSt.ob (by assumption) | exact isHist.ob (by assumption) | exact isTxt.ob (by assumption) | exact isLac.ob (by assumption) | exact isMea.ob (by assumption) | exact hset_s | exact (hset_n (by first | assumption | omega)).trans (by first | assumption | exact isLT.ob (by assumption) | exact isMt.ob (by assumption) | exact isRow.ob (by assumption) | exact isHnd.ob (by assumption) | exact isUnt.ob (by assumption) | exact isSt.ob (by assumption) | exact isHist.ob (by assumption) | exact isTxt.ob (by assumption) | exact isLac.ob (by assumption) | exact isMea.ob (by assumption) | exact hset_s | exact (hset_n (by first | assumption | omega)).trans (by first | assumption | exact isLT.ob (by assumption) | exact isMt.ob (by assumption) | exact isRow.ob (by assumption) | exact isHnd.ob (by assumption) | exact isUnt.ob (by assumption) | exact isSt.ob (by assumption) | exact isHist.ob (by assumption) | exact isTxt.ob (by assumption) | exact isLac.ob (by assumption) | exact isMea.ob (by assumption))))) (pk_in 0 1 (by omega)) ?_
      rw [show (0 : Int32).toNatClampNeg = 0 by decide, e382]
      refine K_iload dL_law_388 (by rfl) ?_
      refine K_i2l dL_law_390 ?_
      refine K_lcmp dL_law_391 ?_
      refine K_if_eq (tgt := 397) dL_law_392 (by decide) (fun c392 => ?_) (fun c392 => ?_)
      · refine K_goto (tgt := 1429) dL_law_397 (by decide) ?_
        exact K_less (kc2 := L - i - 1) (kn2 := 6 * (L - i) - 6) (by omega) (by omega) (K_sub (by repeat (first | exact subl_nil | refine subl_cons rfl ?_)) (nxt _ _ (opPair (xs (i + 1)) (xs (i + 2)) σ).2.2 _ _ _ (ok_pair ok _ _) u364 m364 o364))
      · exact absurd ((lg_cmp_eq _ _).mpr rfl) c392
  · exact absurd rfl c375
set_option maxRecDepth 20000 in
theorem law_c4 (hs : G.2.2 b = some (L, xs)) (hL : L ≤ 1536) (hi : i + 3 ≤ L) (ok : okS σ) (u : isLT G h x σ) (md : isMd G h (x + 64) σ t hh) (ho : h (x + 74) = some (.inl (G.2.1 1, 1, .inr (.inl g)))) (nxt : ∀ (h' : HP) (n' : Nat) (σ' : Sg) (t' : Int32) (hh' : Int64) (g' : Nat → Int64), okS σ' → isLT G h' x σ' → isMd G h' (x + 64) σ' t' hh' → h' (x + 74) = some (.inl (G.2.1 1, 1, .inr (.inl g'))) → KJ none G (ML nm) 1400 1429 [(0, .ref b), (1, .ref x), (2, .ref (x + 64)), (3, .ref (x + 74)), (4, .int (nI i))] [] h' n' (L - i - 1) (6 * (L - i) - 6) QL) : KJ none G (ML nm) 1400 39 [(0, .ref b), (1, .ref x), (2, .ref (x + 64)), (3, .ref (x + 74)), (4, .int (nI i))] [.int (nI 4)] h n (L - i) (6 * (L - i)) QL := by
  refine K_tableIn (off := 361) (tgt := 400) dL_law_39 (by decide) (by decide) (by decide) (by decide) ?_
  refine K_aload_n dL_law_400 (by rfl) ?_
  refine K_callV mf_X9_pull lk_L_102 mi_X9_pull mv_X9_pull (sp_X9_pull u _) dL_law_401 (by first | assumption | exact isLT.ob (by assumption) | exact isMt.ob (by assumption) | exact isRow.ob (by assumption) | exact isHnd.ob (by assumption) | exact isUnt.ob (by assumption) | exact isSt.ob (by assumption) | exact isHist.ob (by assumption) | exact isTxt.ob (by assumption) | exact isLac.ob (by assumption) | exact isMea.ob (by assumption) | exact hset_s | exact (hset_n (by first | assumption | omega)).trans (by first | assumption | exact isLT.ob (by assumption) | exact isMt.ob (by assumption) | exact isRow.ob (by assumption) | exact isHnd.ob (by assumption) | exact isUnt.ob (by assumption) | exact isSt.ob (by assumption) | exact isHist.ob (by assumption) | exact isTxt.ob (by assumption) | exact isLac.ob (by assumption) | exact isMea.ob (by assumption) | exact hset_s | exact (hset_n (by first | assumption | omega)).trans (by first | assumption | exact isLT.ob (by assumption) | exact isMt.ob (by assumption) | exact isRow.ob (by assumption) | exact isHnd.ob (by assumption) | exact isUnt.ob (by assumption) | exact isSt.ob (by assumption) | exact isHist.ob (by assumption) | exact isTxt.ob (by assumption) | exact isLac.ob (by assumption) | exact isMea.ob (by assumption) | exact hset_s | exact (hset_n (by first | assumption | omega)).trans (by first | assumption | exact isLT.ob (by assumption) | exact isMt.ob (by assumption) | exact isRow.ob (by assumption) | exact isHnd.ob (by assumption) | exact isUnt.ob (by assumption) | exact isSt.ob (by assumption) | exact isHist.ob (by assumption) | exact isTxt.ob (by assumption) | exact isLac.ob (by assumption) | exact isMea.ob (by assumption))))) rfl rfl (by decide) (by rfl) rfl (Nat.le_of_ble_eq_true rfl) (Nat.zero_add _) (Nat.zero_add _) (fun v401 h401 n401 q401 => ?_)
  obtain ⟨-, rfl, u401, k401⟩ := q401
  have m401 := isMd_keep md (fun q h1 h2 => k401 q (by omega))
  obtain ⟨x1, x2, x3, x4, x5, x6, x7, x8, w401⟩ := id m401
  have o401 := (k401 (x + 74) (by omega)).trans ho
  refine K_aload_n dL_law_404 (by rfl) ?_
  refine K_callV mf_X10_pull lk_L_105 mi_X10_pull mv_X10_pull (sp_X10_pull m401 ok _) dL_law_405 (by first | assumption | exact isLT.ob (by assumption) | exact isMt.ob (by assumption) | exact isRow.ob (by assumption) | exact isHnd.ob (by assumption) | exact isUnt.ob (by assumption) | exact isSt.ob (by assumption) | exact isHist.ob (by assumption) | exact isTxt.ob (by assumption) | exact isLac.ob (by assumption) | exact isMea.ob (by assumption) | exact hset_s | exact (hset_n (by first | assumption | omega)).trans (by first | assumption | exact isLT.ob (by assumption) | exact isMt.ob (by assumption) | exact isRow.ob (by assumption) | exact isHnd.ob (by assumption) | exact isUnt.ob (by assumption) | exact isSt.ob (by assumption) | exact isHist.ob (by assumption) | exact isTxt.ob (by assumption) | exact isLac.ob (by assumption) | exact isMea.ob (by assumption) | exact hset_s | exact (hset_n (by first | assumption | omega)).trans (by first | assumption | exact isLT.ob (by assumption) | exact isMt.ob (by assumption) | exact isRow.ob (by assumption) | exact isHnd.ob (by assumption) | exact isUnt.ob (by assumption) | exact isSt.ob (by assumption) | exact isHist.ob (by assumption) | exact isTxt.ob (by assumption) | exact isLac.ob (by assumption) | exact isMea.ob (by assumption) | exact hset_s | exact (hset_n (by first | assumption | omega)).trans (by first | assumption | exact isLT.ob (by assumption) | exact isMt.ob (by assumption) | exact isRow.ob (by assumption) | exact isHnd.ob (by assumption) | exact isUnt.ob (by assumption) | exact isSt.ob (by assumption) | exact isHist.ob (by assumption) | exact isTxt.ob (by assumption) | exact isLac.ob (by assumption) | exact isMea.ob (by assumption))))) rfl rfl (by decide) (by rfl) rfl (Nat.le_of_ble_eq_true rfl) (Nat.zero_add _) (Nat.zero_add _) (fun v405 h405 n405 q405 => ?_)
  obtain ⟨rfl, ⟨hh405, m405⟩, k405⟩ := q405
  have u405 := isLT_fr u401 k405 (by omega)
  have o405 := (k405 (x + 74) (by omega)).trans o401
  refine K_icmp_eq (tgt := 1429) dL_law_408 (by decide) (fun c408 => ?_) (fun c408 => ?_)
  · exact K_less (kc2 := L - i - 1) (kn2 := 6 * (L - i) - 6) (by omega) (by omega) (K_sub (by repeat (first | exact subl_nil | refine subl_cons rfl ?_)) (nxt _ _ (opPull σ).2.2 _ _ _ (ok_pull ok) u405 m405 o405))
  · exact absurd rfl c408
set_option maxRecDepth 20000 in
theorem law_c5 (hs : G.2.2 b = some (L, xs)) (hL : L ≤ 1536) (hi : i + 3 ≤ L) (ok : okS σ) (u : isLT G h x σ) (md : isMd G h (x + 64) σ t hh) (ho : h (x + 74) = some (.inl (G.2.1 1, 1, .inr (.inl g)))) (nxt : ∀ (h' : HP) (n' : Nat) (σ' : Sg) (t' : Int32) (hh' : Int64) (g' : Nat → Int64), okS σ' → isLT G h' x σ' → isMd G h' (x + 64) σ' t' hh' → h' (x + 74) = some (.inl (G.2.1 1, 1, .inr (.inl g'))) → KJ none G (ML nm) 1400 1429 [(0, .ref b), (1, .ref x), (2, .ref (x + 64)), (3, .ref (x + 74)), (4, .int (nI i))] [] h' n' (L - i - 1) (6 * (L - i) - 6) QL) : KJ none G (ML nm) 1400 39 [(0, .ref b), (1, .ref x), (2, .ref (x + 64)), (3, .ref (x + 74)), (4, .int (nI i))] [.int (nI 5)] h n (L - i) (6 * (L - i)) QL := by
  refine K_tableIn (off := 374) (tgt := 413) dL_law_39 (by decide) (by decide) (by decide) (by decide) ?_
  refine K_aload_n dL_law_413 (by rfl) ?_
  refine K_callV mf_X9_turn lk_L_106 mi_X9_turn mv_X9_turn (sp_X9_turn u _) dL_law_414 (by first | assumption | exact isLT.ob (by assumption) | exact isMt.ob (by assumption) | exact isRow.ob (by assumption) | exact isHnd.ob (by assumption) | exact isUnt.ob (by assumption) | exact isSt.ob (by assumption) | exact isHist.ob (by assumption) | exact isTxt.ob (by assumption) | exact isLac.ob (by assumption) | exact isMea.ob (by assumption) | exact hset_s | exact (hset_n (by first | assumption | omega)).trans (by first | assumption | exact isLT.ob (by assumption) | exact isMt.ob (by assumption) | exact isRow.ob (by assumption) | exact isHnd.ob (by assumption) | exact isUnt.ob (by assumption) | exact isSt.ob (by assumption) | exact isHist.ob (by assumption) | exact isTxt.ob (by assumption) | exact isLac.ob (by assumption) | exact isMea.ob (by assumption) | exact hset_s | exact (hset_n (by first | assumption | omega)).trans (by first | assumption | exact isLT.ob (by assumption) | exact isMt.ob (by assumption) | exact isRow.ob (by assumption) | exact isHnd.ob (by assumption) | exact isUnt.ob (by assumption) | exact isSt.ob (by assumption) | exact isHist.ob (by assumption) | exact isTxt.ob (by assumption) | exact isLac.ob (by assumption) | exact isMea.ob (by assumption) | exact hset_s | exact (hset_n (by first | assumption | omega)).trans (by first | assumption | exact isLT.ob (by assumption) | exact isMt.ob (by assumption) | exact isRow.ob (by assumption) | exact isHnd.ob (by assumption) | exact isUnt.ob (by assumption) | exact isSt.ob (by assumption) | exact isHist.ob (by assumption) | exact isTxt.ob (by assumption) | exact isLac.ob (by assumption) | exact isMea.ob (by assumption))))) rfl rfl (by decide) (by rfl) rfl (Nat.le_of_ble_eq_true rfl) (Nat.zero_add _) (Nat.zero_add _) (fun v414 h414 n414 q414 => ?_)
  obtain ⟨-, rfl, u414, k414⟩ := q414
  have m414 := isMd_keep md (fun q h1 h2 => k414 q (by omega))
  obtain ⟨x1, x2, x3, x4, x5, x6, x7, x8, w414⟩ := id m414
  have o414 := (k414 (x + 74) (by omega)).trans ho
  refine K_aload_n dL_law_417 (by rfl) ?_
  refine K_callV mf_X10_turn lk_L_109 mi_X10_turn mv_X10_turn (sp_X10_turn m414 ok _) dL_law_418 (by first | assumption | exact isLT.ob (by assumption) | exact isMt.ob (by assumption) | exact isRow.ob (by assumption) | exact isHnd.ob (by assumption) | exact isUnt.ob (by assumption) | exact isSt.ob (by assumption) | exact isHist.ob (by assumption) | exact isTxt.ob (by assumption) | exact isLac.ob (by assumption) | exact isMea.ob (by assumption) | exact hset_s | exact (hset_n (by first | assumption | omega)).trans (by first | assumption | exact isLT.ob (by assumption) | exact isMt.ob (by assumption) | exact isRow.ob (by assumption) | exact isHnd.ob (by assumption) | exact isUnt.ob (by assumption) | exact isSt.ob (by assumption) | exact isHist.ob (by assumption) | exact isTxt.ob (by assumption) | exact isLac.ob (by assumption) | exact isMea.ob (by assumption) | exact hset_s | exact (hset_n (by first | assumption | omega)).trans (by first | assumption | exact isLT.ob (by assumption) | exact isMt.ob (by assumption) | exact isRow.ob (by assumption) | exact isHnd.ob (by assumption) | exact isUnt.ob (by assumption) | exact isSt.ob (by assumption) | exact isHist.ob (by assumption) | exact isTxt.ob (by assumption) | exact isLac.ob (by assumption) | exact isMea.ob (by assumption) | exact hset_s | exact (hset_n (by first | assumption | omega)).trans (by first | assumption | exact isLT.ob (by assumption) | exact isMt.ob (by assumption) | exact isRow.ob (by assumption) | exact isHnd.ob (by assumption) | exact isUnt.ob (by assumption) | exact isSt.ob (by assumption) | exact isHist.ob (by assumption) | exact isTxt.ob (by assumption) | exact isLac.ob (by assumption) | exact isMea.ob (by assumption))))) rfl rfl (by decide) (by rfl) rfl (Nat.le_of_ble_eq_true rfl) (Nat.zero_add _) (Nat.zero_add _) (fun v418 h418 n418 q418 => ?_)
  obtain ⟨rfl, ⟨hh418, m418⟩, k418⟩ := q418
  have u418 := isLT_fr u414 k418 (by omega)
  have o418 := (k418 (x + 74) (by omega)).trans o414
  refine K_icmp_eq (tgt := 1429) dL_law_421 (by decide) (fun c421 => ?_) (fun c421 => ?_)
  · exact K_less (kc2 := L - i - 1) (kn2 := 6 * (L - i) - 6) (by omega) (by omega) (K_sub (by repeat (first | exact subl_nil | refine subl_cons rfl ?_)) (nxt _ _ (opTurn σ).2.2 _ _ _ (ok_turn ok) u418 m418 o418))
  · exact absurd rfl c421
set_option maxRecDepth 20000 in
theorem law_c6 (hs : G.2.2 b = some (L, xs)) (hL : L ≤ 1536) (hi : i + 3 ≤ L) (ok : okS σ) (u : isLT G h x σ) (md : isMd G h (x + 64) σ t hh) (ho : h (x + 74) = some (.inl (G.2.1 1, 1, .inr (.inl g)))) (nxt : ∀ (h' : HP) (n' : Nat) (σ' : Sg) (t' : Int32) (hh' : Int64) (g' : Nat → Int64), okS σ' → isLT G h' x σ' → isMd G h' (x + 64) σ' t' hh' → h' (x + 74) = some (.inl (G.2.1 1, 1, .inr (.inl g'))) → KJ none G (ML nm) 1400 1429 [(0, .ref b), (1, .ref x), (2, .ref (x + 64)), (3, .ref (x + 74)), (4, .int (nI i))] [] h' n' (L - i - 1) (6 * (L - i) - 6) QL) : KJ none G (ML nm) 1400 39 [(0, .ref b), (1, .ref x), (2, .ref (x + 64)), (3, .ref (x + 74)), (4, .int (nI i))] [.int (nI 6)] h n (L - i) (6 * (L - i)) QL := by
  refine K_tableIn (off := 387) (tgt := 426) dL_law_39 (by decide) (by decide) (by decide) (by decide) ?_
  refine K_aload_n dL_law_426 (by rfl) ?_
  refine K_aload_n dL_law_427 (by rfl) ?_
  refine K_callW (kc' := L - i - 1) (kn' := 6 * (L - i) - 6) mf_L_handle (tb_3 (List.mem_of_getElem? (i := 154) rfl) rfl) ms_L_handle (sp_L_handle u ok ho (Or.inr (by omega)) _) dL_law_428 (by decide) (by rfl) rfl (Nat.le_of_ble_eq_true rfl) (by omega) (by omega) (fun v428 h428 n428 q428 => ?_)
  obtain ⟨rfl, u428, ⟨g428, o428, e428⟩, k428, d428⟩ := q428
  have m428 := isMd_keep md (fun q h1 h2 => k428 q (by omega) (by omega))
  obtain ⟨x1, x2, x3, x4, x5, x6, x7, x8, w428⟩ := id m428
  refine K_istore dL_law_431 (Nat.le_of_ble_eq_true rfl) (by rfl) ?_
  refine K_aload_n dL_law_433 (by rfl) ?_
  refine K_callV mf_X10_handle lk_L_112 mi_X10_handle mv_X10_handle (sp_X10_handle m428 ok _) dL_law_434 (by first | assumption | exact isLT.ob (by assumption) | exact isMt.ob (by assumption) | exact isRow.ob (by assumption) | exact isHnd.ob (by assumption) | exact isUnt.ob (by assumption) | exact isSt.ob (by assumption) | exact isHist.ob (by assumption) | exact isTxt.ob (by assumption) | exact isLac.ob (by assumption) | exact isMea.ob (by assumption) | exact hset_s | exact (hset_n (by first | assumption | omega)).trans (by first | assumption | exact isLT.ob (by assumption) | exact isMt.ob (by assumption) | exact isRow.ob (by assumption) | exact isHnd.ob (by assumption) | exact isUnt.ob (by assumption) | exact isSt.ob (by assumption) | exact isHist.ob (by assumption) | exact isTxt.ob (by assumption) | exact isLac.ob (by assumption) | exact isMea.ob (by assumption) | exact hset_s | exact (hset_n (by first | assumption | omega)).trans (by first | assumption | exact isLT.ob (by assumption) | exact isMt.ob (by assumption) | exact isRow.ob (by assumption) | exact isHnd.ob (by assumption) | exact isUnt.ob (by assumption) | exact isSt.ob (by assumption) | exact isHist.ob (by assumption) | exact isTxt.ob (by assumption) | exact isLac.ob (by assumption) | exact isMea.ob (by assumption) | exact hset_s | exact (hset_n (by first | assumption | omega)).trans (by first | assumption | exact isLT.ob (by assumption) | exact isMt.ob (by assumption) | exact isRow.ob (by assumption) | exact isHnd.ob (by assumption) | exact isUnt.ob (by assumption) | exact isSt.ob (by assumption) | exact isHist.ob (by assumption) | exact isTxt.ob (by assumption) | exact isLac.ob (by assumption) | exact isMea.ob (by assumption))))) rfl rfl (by decide) (by rfl) rfl (Nat.le_of_ble_eq_true rfl) (Nat.zero_add _) (Nat.zero_add _) (fun v434 h434 n434 q434 => ?_)
  obtain ⟨rfl, ⟨hh434, m434⟩, k434⟩ := q434
  obtain ⟨y1, y2, y3, y4, y5, y6, y7, y8, w434⟩ := id m434
  have u434 := isLT_fr u428 k434 (by omega)
  have o434 := (k434 (x + 74) (by omega)).trans o428
  refine K_istore dL_law_437 (Nat.le_of_ble_eq_true rfl) (by rfl) ?_
  refine K_aload_n dL_law_439 (by rfl) ?_
  refine K_callV mf_X10_thrown lk_L_88 mi_X10_thrown mv_X10_thrown (sp_X10_thrown w434.1 _) dL_law_440 (by first | assumption | exact isLT.ob (by assumption) | exact isMt.ob (by assumption) | exact isRow.ob (by assumption) | exact isHnd.ob (by assumption) | exact isUnt.ob (by assumption) | exact isSt.ob (by assumption) | exact isHist.ob (by assumption) | exact isTxt.ob (by assumption) | exact isLac.ob (by assumption) | exact isMea.ob (by assumption) | exact hset_s | exact (hset_n (by first | assumption | omega)).trans (by first | assumption | exact isLT.ob (by assumption) | exact isMt.ob (by assumption) | exact isRow.ob (by assumption) | exact isHnd.ob (by assumption) | exact isUnt.ob (by assumption) | exact isSt.ob (by assumption) | exact isHist.ob (by assumption) | exact isTxt.ob (by assumption) | exact isLac.ob (by assumption) | exact isMea.ob (by assumption) | exact hset_s | exact (hset_n (by first | assumption | omega)).trans (by first | assumption | exact isLT.ob (by assumption) | exact isMt.ob (by assumption) | exact isRow.ob (by assumption) | exact isHnd.ob (by assumption) | exact isUnt.ob (by assumption) | exact isSt.ob (by assumption) | exact isHist.ob (by assumption) | exact isTxt.ob (by assumption) | exact isLac.ob (by assumption) | exact isMea.ob (by assumption) | exact hset_s | exact (hset_n (by first | assumption | omega)).trans (by first | assumption | exact isLT.ob (by assumption) | exact isMt.ob (by assumption) | exact isRow.ob (by assumption) | exact isHnd.ob (by assumption) | exact isUnt.ob (by assumption) | exact isSt.ob (by assumption) | exact isHist.ob (by assumption) | exact isTxt.ob (by assumption) | exact isLac.ob (by assumption) | exact isMea.ob (by assumption))))) rfl rfl (by decide) (by rfl) rfl (Nat.le_of_ble_eq_true rfl) (Nat.zero_add _) (Nat.zero_add _) (fun v440 h440 n440 q440 => ?_)
  obtain ⟨rfl, rfl⟩ := q440
  refine K_iload dL_law_443 (by rfl) ?_
  refine K_icmp_eq (tgt := 450) dL_law_445 (by decide) (fun c445 => ?_) (fun c445 => ?_)
  · refine K_iload dL_law_450 (by rfl) ?_
    refine K_if_ne (tgt := 467) dL_law_452 (by decide) (fun c452 => ?_) (fun c452 => ?_)
    · refine K_goto (tgt := 1429) dL_law_467 (by decide) ?_
      exact K_less (kc2 := L - i - 1) (kn2 := 6 * (L - i) - 6) (by omega) (by omega) (K_sub (by repeat (first | exact subl_nil | refine subl_cons rfl ?_)) (nxt _ _ (opHandle σ).2.2 _ _ _ (ok_handle ok) u434 m434 o434))
    · have z452 := nI_R0 c452 d428
      have e452 := e428 z452
      refine K_aload_n dL_law_455 (by rfl) ?_
      refine K_iconst (v := 0) dL_law_456 (by decide) ?_
      refine K_lald dL_law_457 (by first | assumption | exact isLT.ob (by assumption) | exact isMt.ob (by assumption) | exact isRow.ob (by assumption) | exact isHnd.ob (by assumption) | exact isUnt.ob (by assumption) | exact isSt.ob (by assumption) | exact isHist.ob (by assumption) | exact isTxt.ob (by assumption) | exact isLac.ob (by assumption) | exact isMea.ob (by assumption) | exact hset_s | exact (hset_n (by first | assumption | omega)).trans (by first | assumption | exact isLT.ob (by assumption) | exact isMt.ob (by assumption) | exact isRow.ob (by assumption) | exact isHnd.ob (by assumption) | exact isUnt.ob (by assumption) | exact isSt.ob (by assumption) | exact isHist.ob (by assumption) | exact isTxt.ob (by assumption) | exact isLac.ob (by assumption) | exact isMea.ob (by assumption) | exact hset_s | exact (hset_n (by first | assumption | omega)).trans (by first | assumption | exact isLT.ob (by assumption) | exact isMt.ob (by assumption) | exact isRow.ob (by assumption) | exact isHnd.ob (by assumption) | exact isUnt.ob (by assumption) | exact isSt.ob (by assumption) | exact isHist.ob (by assumption) | exact isTxt.ob (by assumption) | exact isLac.ob (by assumption) | exact isMea.ob (by assumption) | exact hset_s | exact (hset_n (by first | assumption | omega)).trans (by first | assumption | exact isLT.ob (by assumption) | exact isMt.ob (by assumption) | exact isRow.ob (by assumption) | exact isHnd.ob (by assumption) | exact isUnt.ob (by assumption) | exact isSt.ob (by assumption) | exact isHist.ob (by assumption) | exact isTxt.ob (by assumption) | exact isLac.ob (by assumption) | exact isMea.ob (by assumption))))) (pk_in 0 1 (by omega)) ?_
      rw [show (0 : Int32).toNatClampNeg = 0 by decide, e452]
      refine K_iload dL_law_458 (by rfl) ?_
      refine K_i2l dL_law_460 ?_
      refine K_lcmp dL_law_461 ?_
      refine K_if_eq (tgt := 467) dL_law_462 (by decide) (fun c462 => ?_) (fun c462 => ?_)
      · refine K_goto (tgt := 1429) dL_law_467 (by decide) ?_
        exact K_less (kc2 := L - i - 1) (kn2 := 6 * (L - i) - 6) (by omega) (by omega) (K_sub (by repeat (first | exact subl_nil | refine subl_cons rfl ?_)) (nxt _ _ (opHandle σ).2.2 _ _ _ (ok_handle ok) u434 m434 o434))
      · exact absurd ((lg_cmp_eq _ _).mpr rfl) c462
  · exact absurd rfl c445
set_option maxRecDepth 20000 in
theorem law_c7 (hs : G.2.2 b = some (L, xs)) (hL : L ≤ 1536) (hi : i + 3 ≤ L) (ok : okS σ) (u : isLT G h x σ) (md : isMd G h (x + 64) σ t hh) (ho : h (x + 74) = some (.inl (G.2.1 1, 1, .inr (.inl g)))) (nxt : ∀ (h' : HP) (n' : Nat) (σ' : Sg) (t' : Int32) (hh' : Int64) (g' : Nat → Int64), okS σ' → isLT G h' x σ' → isMd G h' (x + 64) σ' t' hh' → h' (x + 74) = some (.inl (G.2.1 1, 1, .inr (.inl g'))) → KJ none G (ML nm) 1400 1429 [(0, .ref b), (1, .ref x), (2, .ref (x + 64)), (3, .ref (x + 74)), (4, .int (nI i))] [] h' n' (L - i - 1) (6 * (L - i) - 6) QL) : KJ none G (ML nm) 1400 39 [(0, .ref b), (1, .ref x), (2, .ref (x + 64)), (3, .ref (x + 74)), (4, .int (nI i))] [.int (nI 7)] h n (L - i) (6 * (L - i)) QL := by
  refine K_tableIn (off := 431) (tgt := 470) dL_law_39 (by decide) (by decide) (by decide) (by decide) ?_
  refine K_aload_n dL_law_470 (by rfl) ?_
  refine K_aload_n dL_law_471 (by rfl) ?_
  refine K_iload dL_law_472 (by rfl) ?_
  refine K_iconst (v := nI 1) dL_law_474 (by decide) ?_
  refine K_iadd dL_law_475 ?_
  rw [nI_add]
  refine K_sldN dL_law_476 (by assumption) (by first | assumption | omega) (by omega) ?_
  refine K_aload_n dL_law_477 (by rfl) ?_
  refine K_callW (kc' := L - i - 1) (kn' := 6 * (L - i) - 6) mf_L_append (tb_3 (List.mem_of_getElem? (i := 165) rfl) rfl) ms_L_append (sp_L_append u ok ho (Or.inr (by omega)) (xs (i + 1)) _) dL_law_478 (by decide) (by rfl) rfl (Nat.le_of_ble_eq_true rfl) (by omega) (by omega) (fun v478 h478 n478 q478 => ?_)
  obtain ⟨rfl, u478, ⟨g478, o478, e478⟩, k478, d478⟩ := q478
  have m478 := isMd_keep md (fun q h1 h2 => k478 q (by omega) (by omega))
  obtain ⟨x1, x2, x3, x4, x5, x6, x7, x8, w478⟩ := id m478
  refine K_istore dL_law_481 (Nat.le_of_ble_eq_true rfl) (by rfl) ?_
  refine K_aload_n dL_law_483 (by rfl) ?_
  refine K_aload_n dL_law_484 (by rfl) ?_
  refine K_iload dL_law_485 (by rfl) ?_
  refine K_iconst (v := nI 1) dL_law_487 (by decide) ?_
  refine K_iadd dL_law_488 ?_
  rw [nI_add]
  refine K_sldN dL_law_489 (by assumption) (by first | assumption | omega) (by omega) ?_
  refine K_callV mf_X10_append lk_L_115 mi_X10_append mv_X10_append (sp_X10_append m478 (xs (i + 1)) _) dL_law_490 (by first | assumption | exact isLT.ob (by assumption) | exact isMt.ob (by assumption) | exact isRow.ob (by assumption) | exact isHnd.ob (by assumption) | exact isUnt.ob (by assumption) | exact isSt.ob (by assumption) | exact isHist.ob (by assumption) | exact isTxt.ob (by assumption) | exact isLac.ob (by assumption) | exact isMea.ob (by assumption) | exact hset_s | exact (hset_n (by first | assumption | omega)).trans (by first | assumption | exact isLT.ob (by assumption) | exact isMt.ob (by assumption) | exact isRow.ob (by assumption) | exact isHnd.ob (by assumption) | exact isUnt.ob (by assumption) | exact isSt.ob (by assumption) | exact isHist.ob (by assumption) | exact isTxt.ob (by assumption) | exact isLac.ob (by assumption) | exact isMea.ob (by assumption) | exact hset_s | exact (hset_n (by first | assumption | omega)).trans (by first | assumption | exact isLT.ob (by assumption) | exact isMt.ob (by assumption) | exact isRow.ob (by assumption) | exact isHnd.ob (by assumption) | exact isUnt.ob (by assumption) | exact isSt.ob (by assumption) | exact isHist.ob (by assumption) | exact isTxt.ob (by assumption) | exact isLac.ob (by assumption) | exact isMea.ob (by assumption) | exact hset_s | exact (hset_n (by first | assumption | omega)).trans (by first | assumption | exact isLT.ob (by assumption) | exact isMt.ob (by assumption) | exact isRow.ob (by assumption) | exact isHnd.ob (by assumption) | exact isUnt.ob (by assumption) | exact isSt.ob (by assumption) | exact isHist.ob (by assumption) | exact isTxt.ob (by assumption) | exact isLac.ob (by assumption) | exact isMea.ob (by assumption))))) rfl rfl (by decide) (by rfl) rfl (Nat.le_of_ble_eq_true rfl) (Nat.zero_add _) (Nat.zero_add _) (fun v490 h490 n490 q490 => ?_)
  obtain ⟨rfl, ⟨hh490, m490⟩, k490⟩ := q490
  obtain ⟨y1, y2, y3, y4, y5, y6, y7, y8, w490⟩ := id m490
  have u490 := isLT_fr u478 k490 (by omega)
  have o490 := (k490 (x + 74) (by omega)).trans o478
  refine K_istore dL_law_493 (Nat.le_of_ble_eq_true rfl) (by rfl) ?_
  refine K_aload_n dL_law_495 (by rfl) ?_
  refine K_callV mf_X10_thrown lk_L_88 mi_X10_thrown mv_X10_thrown (sp_X10_thrown w490.1 _) dL_law_496 (by first | assumption | exact isLT.ob (by assumption) | exact isMt.ob (by assumption) | exact isRow.ob (by assumption) | exact isHnd.ob (by assumption) | exact isUnt.ob (by assumption) | exact isSt.ob (by assumption) | exact isHist.ob (by assumption) | exact isTxt.ob (by assumption) | exact isLac.ob (by assumption) | exact isMea.ob (by assumption) | exact hset_s | exact (hset_n (by first | assumption | omega)).trans (by first | assumption | exact isLT.ob (by assumption) | exact isMt.ob (by assumption) | exact isRow.ob (by assumption) | exact isHnd.ob (by assumption) | exact isUnt.ob (by assumption) | exact isSt.ob (by assumption) | exact isHist.ob (by assumption) | exact isTxt.ob (by assumption) | exact isLac.ob (by assumption) | exact isMea.ob (by assumption) | exact hset_s | exact (hset_n (by first | assumption | omega)).trans (by first | assumption | exact isLT.ob (by assumption) | exact isMt.ob (by assumption) | exact isRow.ob (by assumption) | exact isHnd.ob (by assumption) | exact isUnt.ob (by assumption) | exact isSt.ob (by assumption) | exact isHist.ob (by assumption) | exact isTxt.ob (by assumption) | exact isLac.ob (by assumption) | exact isMea.ob (by assumption) | exact hset_s | exact (hset_n (by first | assumption | omega)).trans (by first | assumption | exact isLT.ob (by assumption) | exact isMt.ob (by assumption) | exact isRow.ob (by assumption) | exact isHnd.ob (by assumption) | exact isUnt.ob (by assumption) | exact isSt.ob (by assumption) | exact isHist.ob (by assumption) | exact isTxt.ob (by assumption) | exact isLac.ob (by assumption) | exact isMea.ob (by assumption))))) rfl rfl (by decide) (by rfl) rfl (Nat.le_of_ble_eq_true rfl) (Nat.zero_add _) (Nat.zero_add _) (fun v496 h496 n496 q496 => ?_)
  obtain ⟨rfl, rfl⟩ := q496
  refine K_iload dL_law_499 (by rfl) ?_
  refine K_icmp_eq (tgt := 506) dL_law_501 (by decide) (fun c501 => ?_) (fun c501 => ?_)
  · refine K_iload dL_law_506 (by rfl) ?_
    refine K_if_ne (tgt := 523) dL_law_508 (by decide) (fun c508 => ?_) (fun c508 => ?_)
    · refine K_goto (tgt := 1429) dL_law_523 (by decide) ?_
      exact K_less (kc2 := L - i - 1) (kn2 := 6 * (L - i) - 6) (by omega) (by omega) (K_sub (by repeat (first | exact subl_nil | refine subl_cons rfl ?_)) (nxt _ _ (opAppend (xs (i + 1)) σ).2.2 _ _ _ (ok_append ok _) u490 m490 o490))
    · have z508 := nI_R0 c508 d478
      have e508 := e478 z508
      refine K_aload_n dL_law_511 (by rfl) ?_
      refine K_iconst (v := 0) dL_law_512 (by decide) ?_
      refine K_lald dL_law_513 (by first | assumption | exact isLT.ob (by assumption) | exact isMt.ob (by assumption) | exact isRow.ob (by assumption) | exact isHnd.ob (by assumption) | exact isUnt.ob (by assumption) | exact isSt.ob (by assumption) | exact isHist.ob (by assumption) | exact isTxt.ob (by assumption) | exact isLac.ob (by assumption) | exact isMea.ob (by assumption) | exact hset_s | exact (hset_n (by first | assumption | omega)).trans (by first | assumption | exact isLT.ob (by assumption) | exact isMt.ob (by assumption) | exact isRow.ob (by assumption) | exact isHnd.ob (by assumption) | exact isUnt.ob (by assumption) | exact isSt.ob (by assumption) | exact isHist.ob (by assumption) | exact isTxt.ob (by assumption) | exact isLac.ob (by assumption) | exact isMea.ob (by assumption) | exact hset_s | exact (hset_n (by first | assumption | omega)).trans (by first | assumption | exact isLT.ob (by assumption) | exact isMt.ob (by assumption) | exact isRow.ob (by assumption) | exact isHnd.ob (by assumption) | exact isUnt.ob (by assumption) | exact isSt.ob (by assumption) | exact isHist.ob (by assumption) | exact isTxt.ob (by assumption) | exact isLac.ob (by assumption) | exact isMea.ob (by assumption) | exact hset_s | exact (hset_n (by first | assumption | omega)).trans (by first | assumption | exact isLT.ob (by assumption) | exact isMt.ob (by assumption) | exact isRow.ob (by assumption) | exact isHnd.ob (by assumption) | exact isUnt.ob (by assumption) | exact isSt.ob (by assumption) | exact isHist.ob (by assumption) | exact isTxt.ob (by assumption) | exact isLac.ob (by assumption) | exact isMea.ob (by assumption))))) (pk_in 0 1 (by omega)) ?_
      rw [show (0 : Int32).toNatClampNeg = 0 by decide, e508]
      refine K_iload dL_law_514 (by rfl) ?_
      refine K_i2l dL_law_516 ?_
      refine K_lcmp dL_law_517 ?_
      refine K_if_eq (tgt := 523) dL_law_518 (by decide) (fun c518 => ?_) (fun c518 => ?_)
      · refine K_goto (tgt := 1429) dL_law_523 (by decide) ?_
        exact K_less (kc2 := L - i - 1) (kn2 := 6 * (L - i) - 6) (by omega) (by omega) (K_sub (by repeat (first | exact subl_nil | refine subl_cons rfl ?_)) (nxt _ _ (opAppend (xs (i + 1)) σ).2.2 _ _ _ (ok_append ok _) u490 m490 o490))
      · exact absurd ((lg_cmp_eq _ _).mpr rfl) c518
  · exact absurd rfl c501
set_option maxRecDepth 20000 in
theorem law_c8 (hs : G.2.2 b = some (L, xs)) (hL : L ≤ 1536) (hi : i + 3 ≤ L) (ok : okS σ) (u : isLT G h x σ) (md : isMd G h (x + 64) σ t hh) (ho : h (x + 74) = some (.inl (G.2.1 1, 1, .inr (.inl g)))) (nxt : ∀ (h' : HP) (n' : Nat) (σ' : Sg) (t' : Int32) (hh' : Int64) (g' : Nat → Int64), okS σ' → isLT G h' x σ' → isMd G h' (x + 64) σ' t' hh' → h' (x + 74) = some (.inl (G.2.1 1, 1, .inr (.inl g'))) → KJ none G (ML nm) 1400 1429 [(0, .ref b), (1, .ref x), (2, .ref (x + 64)), (3, .ref (x + 74)), (4, .int (nI i))] [] h' n' (L - i - 1) (6 * (L - i) - 6) QL) : KJ none G (ML nm) 1400 39 [(0, .ref b), (1, .ref x), (2, .ref (x + 64)), (3, .ref (x + 74)), (4, .int (nI i))] [.int (nI 8)] h n (L - i) (6 * (L - i)) QL := by
  refine K_tableIn (off := 487) (tgt := 526) dL_law_39 (by decide) (by decide) (by decide) (by decide) ?_
  refine K_aload_n dL_law_526 (by rfl) ?_
  refine K_callV mf_X9_clearBuffer lk_L_116 mi_X9_clearBuffer mv_X9_clearBuffer (sp_X9_clearBuffer u _) dL_law_527 (by first | assumption | exact isLT.ob (by assumption) | exact isMt.ob (by assumption) | exact isRow.ob (by assumption) | exact isHnd.ob (by assumption) | exact isUnt.ob (by assumption) | exact isSt.ob (by assumption) | exact isHist.ob (by assumption) | exact isTxt.ob (by assumption) | exact isLac.ob (by assumption) | exact isMea.ob (by assumption) | exact hset_s | exact (hset_n (by first | assumption | omega)).trans (by first | assumption | exact isLT.ob (by assumption) | exact isMt.ob (by assumption) | exact isRow.ob (by assumption) | exact isHnd.ob (by assumption) | exact isUnt.ob (by assumption) | exact isSt.ob (by assumption) | exact isHist.ob (by assumption) | exact isTxt.ob (by assumption) | exact isLac.ob (by assumption) | exact isMea.ob (by assumption) | exact hset_s | exact (hset_n (by first | assumption | omega)).trans (by first | assumption | exact isLT.ob (by assumption) | exact isMt.ob (by assumption) | exact isRow.ob (by assumption) | exact isHnd.ob (by assumption) | exact isUnt.ob (by assumption) | exact isSt.ob (by assumption) | exact isHist.ob (by assumption) | exact isTxt.ob (by assumption) | exact isLac.ob (by assumption) | exact isMea.ob (by assumption) | exact hset_s | exact (hset_n (by first | assumption | omega)).trans (by first | assumption | exact isLT.ob (by assumption) | exact isMt.ob (by assumption) | exact isRow.ob (by assumption) | exact isHnd.ob (by assumption) | exact isUnt.ob (by assumption) | exact isSt.ob (by assumption) | exact isHist.ob (by assumption) | exact isTxt.ob (by assumption) | exact isLac.ob (by assumption) | exact isMea.ob (by assumption))))) rfl rfl (by decide) (by rfl) rfl (Nat.le_of_ble_eq_true rfl) (Nat.zero_add _) (Nat.zero_add _) (fun v527 h527 n527 q527 => ?_)
  obtain ⟨-, rfl, u527, k527⟩ := q527
  have m527 := isMd_keep md (fun q h1 h2 => k527 q (by omega))
  obtain ⟨x1, x2, x3, x4, x5, x6, x7, x8, w527⟩ := id m527
  have o527 := (k527 (x + 74) (by omega)).trans ho
  refine K_aload_n dL_law_530 (by rfl) ?_
  refine K_callV mf_X10_clearBuffer lk_L_119 mi_X10_clearBuffer mv_X10_clearBuffer (sp_X10_clearBuffer m527 _) dL_law_531 (by first | assumption | exact isLT.ob (by assumption) | exact isMt.ob (by assumption) | exact isRow.ob (by assumption) | exact isHnd.ob (by assumption) | exact isUnt.ob (by assumption) | exact isSt.ob (by assumption) | exact isHist.ob (by assumption) | exact isTxt.ob (by assumption) | exact isLac.ob (by assumption) | exact isMea.ob (by assumption) | exact hset_s | exact (hset_n (by first | assumption | omega)).trans (by first | assumption | exact isLT.ob (by assumption) | exact isMt.ob (by assumption) | exact isRow.ob (by assumption) | exact isHnd.ob (by assumption) | exact isUnt.ob (by assumption) | exact isSt.ob (by assumption) | exact isHist.ob (by assumption) | exact isTxt.ob (by assumption) | exact isLac.ob (by assumption) | exact isMea.ob (by assumption) | exact hset_s | exact (hset_n (by first | assumption | omega)).trans (by first | assumption | exact isLT.ob (by assumption) | exact isMt.ob (by assumption) | exact isRow.ob (by assumption) | exact isHnd.ob (by assumption) | exact isUnt.ob (by assumption) | exact isSt.ob (by assumption) | exact isHist.ob (by assumption) | exact isTxt.ob (by assumption) | exact isLac.ob (by assumption) | exact isMea.ob (by assumption) | exact hset_s | exact (hset_n (by first | assumption | omega)).trans (by first | assumption | exact isLT.ob (by assumption) | exact isMt.ob (by assumption) | exact isRow.ob (by assumption) | exact isHnd.ob (by assumption) | exact isUnt.ob (by assumption) | exact isSt.ob (by assumption) | exact isHist.ob (by assumption) | exact isTxt.ob (by assumption) | exact isLac.ob (by assumption) | exact isMea.ob (by assumption))))) rfl rfl (by decide) (by rfl) rfl (Nat.le_of_ble_eq_true rfl) (Nat.zero_add _) (Nat.zero_add _) (fun v531 h531 n531 q531 => ?_)
  obtain ⟨rfl, ⟨hh531, m531⟩, k531⟩ := q531
  have u531 := isLT_fr u527 k531 (by omega)
  have o531 := (k531 (x + 74) (by omega)).trans o527
  refine K_icmp_eq (tgt := 1429) dL_law_534 (by decide) (fun c534 => ?_) (fun c534 => ?_)
  · exact K_less (kc2 := L - i - 1) (kn2 := 6 * (L - i) - 6) (by omega) (by omega) (K_sub (by repeat (first | exact subl_nil | refine subl_cons rfl ?_)) (nxt _ _ (opClear σ).2.2 _ _ _ (ok_clear ok) u531 m531 o531))
  · exact absurd rfl c534
set_option maxRecDepth 20000 in
theorem law_c9 (hs : G.2.2 b = some (L, xs)) (hL : L ≤ 1536) (hi : i + 3 ≤ L) (ok : okS σ) (u : isLT G h x σ) (md : isMd G h (x + 64) σ t hh) (ho : h (x + 74) = some (.inl (G.2.1 1, 1, .inr (.inl g)))) (nxt : ∀ (h' : HP) (n' : Nat) (σ' : Sg) (t' : Int32) (hh' : Int64) (g' : Nat → Int64), okS σ' → isLT G h' x σ' → isMd G h' (x + 64) σ' t' hh' → h' (x + 74) = some (.inl (G.2.1 1, 1, .inr (.inl g'))) → KJ none G (ML nm) 1400 1429 [(0, .ref b), (1, .ref x), (2, .ref (x + 64)), (3, .ref (x + 74)), (4, .int (nI i))] [] h' n' (L - i - 1) (6 * (L - i) - 6) QL) : KJ none G (ML nm) 1400 39 [(0, .ref b), (1, .ref x), (2, .ref (x + 64)), (3, .ref (x + 74)), (4, .int (nI i))] [.int (nI 9)] h n (L - i) (6 * (L - i)) QL := by
  refine K_tableIn (off := 500) (tgt := 539) dL_law_39 (by decide) (by decide) (by decide) (by decide) ?_
  refine K_aload_n dL_law_539 (by rfl) ?_
  refine K_callV mf_X9_firstError lk_L_120 mi_X9_firstError mv_X9_firstError (sp_X9_firstError u _) dL_law_540 (by first | assumption | exact isLT.ob (by assumption) | exact isMt.ob (by assumption) | exact isRow.ob (by assumption) | exact isHnd.ob (by assumption) | exact isUnt.ob (by assumption) | exact isSt.ob (by assumption) | exact isHist.ob (by assumption) | exact isTxt.ob (by assumption) | exact isLac.ob (by assumption) | exact isMea.ob (by assumption) | exact hset_s | exact (hset_n (by first | assumption | omega)).trans (by first | assumption | exact isLT.ob (by assumption) | exact isMt.ob (by assumption) | exact isRow.ob (by assumption) | exact isHnd.ob (by assumption) | exact isUnt.ob (by assumption) | exact isSt.ob (by assumption) | exact isHist.ob (by assumption) | exact isTxt.ob (by assumption) | exact isLac.ob (by assumption) | exact isMea.ob (by assumption) | exact hset_s | exact (hset_n (by first | assumption | omega)).trans (by first | assumption | exact isLT.ob (by assumption) | exact isMt.ob (by assumption) | exact isRow.ob (by assumption) | exact isHnd.ob (by assumption) | exact isUnt.ob (by assumption) | exact isSt.ob (by assumption) | exact isHist.ob (by assumption) | exact isTxt.ob (by assumption) | exact isLac.ob (by assumption) | exact isMea.ob (by assumption) | exact hset_s | exact (hset_n (by first | assumption | omega)).trans (by first | assumption | exact isLT.ob (by assumption) | exact isMt.ob (by assumption) | exact isRow.ob (by assumption) | exact isHnd.ob (by assumption) | exact isUnt.ob (by assumption) | exact isSt.ob (by assumption) | exact isHist.ob (by assumption) | exact isTxt.ob (by assumption) | exact isLac.ob (by assumption) | exact isMea.ob (by assumption))))) rfl rfl (by decide) (by rfl) rfl (Nat.le_of_ble_eq_true rfl) (Nat.zero_add _) (Nat.zero_add _) (fun v540 h540 n540 q540 => ?_)
  obtain ⟨-, rfl, u540, k540⟩ := q540
  have m540 := isMd_keep md (fun q h1 h2 => k540 q (by omega))
  obtain ⟨x1, x2, x3, x4, x5, x6, x7, x8, w540⟩ := id m540
  have o540 := (k540 (x + 74) (by omega)).trans ho
  refine K_aload_n dL_law_543 (by rfl) ?_
  refine K_callV mf_X10_firstError lk_L_123 mi_X10_firstError mv_X10_firstError (sp_X10_firstError m540 _) dL_law_544 (by first | assumption | exact isLT.ob (by assumption) | exact isMt.ob (by assumption) | exact isRow.ob (by assumption) | exact isHnd.ob (by assumption) | exact isUnt.ob (by assumption) | exact isSt.ob (by assumption) | exact isHist.ob (by assumption) | exact isTxt.ob (by assumption) | exact isLac.ob (by assumption) | exact isMea.ob (by assumption) | exact hset_s | exact (hset_n (by first | assumption | omega)).trans (by first | assumption | exact isLT.ob (by assumption) | exact isMt.ob (by assumption) | exact isRow.ob (by assumption) | exact isHnd.ob (by assumption) | exact isUnt.ob (by assumption) | exact isSt.ob (by assumption) | exact isHist.ob (by assumption) | exact isTxt.ob (by assumption) | exact isLac.ob (by assumption) | exact isMea.ob (by assumption) | exact hset_s | exact (hset_n (by first | assumption | omega)).trans (by first | assumption | exact isLT.ob (by assumption) | exact isMt.ob (by assumption) | exact isRow.ob (by assumption) | exact isHnd.ob (by assumption) | exact isUnt.ob (by assumption) | exact isSt.ob (by assumption) | exact isHist.ob (by assumption) | exact isTxt.ob (by assumption) | exact isLac.ob (by assumption) | exact isMea.ob (by assumption) | exact hset_s | exact (hset_n (by first | assumption | omega)).trans (by first | assumption | exact isLT.ob (by assumption) | exact isMt.ob (by assumption) | exact isRow.ob (by assumption) | exact isHnd.ob (by assumption) | exact isUnt.ob (by assumption) | exact isSt.ob (by assumption) | exact isHist.ob (by assumption) | exact isTxt.ob (by assumption) | exact isLac.ob (by assumption) | exact isMea.ob (by assumption))))) rfl rfl (by decide) (by rfl) rfl (Nat.le_of_ble_eq_true rfl) (Nat.zero_add _) (Nat.zero_add _) (fun v544 h544 n544 q544 => ?_)
  obtain ⟨rfl, ⟨hh544, m544⟩, k544⟩ := q544
  have u544 := isLT_fr u540 k544 (by omega)
  have o544 := (k544 (x + 74) (by omega)).trans o540
  refine K_icmp_eq (tgt := 1429) dL_law_547 (by decide) (fun c547 => ?_) (fun c547 => ?_)
  · exact K_less (kc2 := L - i - 1) (kn2 := 6 * (L - i) - 6) (by omega) (by omega) (K_sub (by repeat (first | exact subl_nil | refine subl_cons rfl ?_)) (nxt _ _ (opFirst σ).2.2 _ _ _ (ok) u544 m544 o544))
  · exact absurd rfl c547
set_option maxRecDepth 20000 in
theorem law_c10 (hs : G.2.2 b = some (L, xs)) (hL : L ≤ 1536) (hi : i + 3 ≤ L) (ok : okS σ) (u : isLT G h x σ) (md : isMd G h (x + 64) σ t hh) (ho : h (x + 74) = some (.inl (G.2.1 1, 1, .inr (.inl g)))) (nxt : ∀ (h' : HP) (n' : Nat) (σ' : Sg) (t' : Int32) (hh' : Int64) (g' : Nat → Int64), okS σ' → isLT G h' x σ' → isMd G h' (x + 64) σ' t' hh' → h' (x + 74) = some (.inl (G.2.1 1, 1, .inr (.inl g'))) → KJ none G (ML nm) 1400 1429 [(0, .ref b), (1, .ref x), (2, .ref (x + 64)), (3, .ref (x + 74)), (4, .int (nI i))] [] h' n' (L - i - 1) (6 * (L - i) - 6) QL) : KJ none G (ML nm) 1400 39 [(0, .ref b), (1, .ref x), (2, .ref (x + 64)), (3, .ref (x + 74)), (4, .int (nI i))] [.int (nI 10)] h n (L - i) (6 * (L - i)) QL := by
  refine K_tableIn (off := 513) (tgt := 552) dL_law_39 (by decide) (by decide) (by decide) (by decide) ?_
  refine K_aload_n dL_law_552 (by rfl) ?_
  refine K_aload_n dL_law_553 (by rfl) ?_
  refine K_callW (kc' := L - i - 1) (kn' := 6 * (L - i) - 6) mf_L_lace (tb_3 (List.mem_of_getElem? (i := 178) rfl) rfl) ms_L_lace (sp_L_lace u ok ho (Or.inr (by omega)) _) dL_law_554 (by decide) (by rfl) rfl (Nat.le_of_ble_eq_true rfl) (by omega) (by omega) (fun v554 h554 n554 q554 => ?_)
  obtain ⟨rfl, u554, ⟨g554, o554, e554⟩, k554, d554⟩ := q554
  have m554 := isMd_keep md (fun q h1 h2 => k554 q (by omega) (by omega))
  obtain ⟨x1, x2, x3, x4, x5, x6, x7, x8, w554⟩ := id m554
  refine K_istore dL_law_557 (Nat.le_of_ble_eq_true rfl) (by rfl) ?_
  refine K_aload_n dL_law_559 (by rfl) ?_
  refine K_callV mf_X10_lace lk_L_126 mi_X10_lace mv_X10_lace (sp_X10_lace m554 ok _) dL_law_560 (by first | assumption | exact isLT.ob (by assumption) | exact isMt.ob (by assumption) | exact isRow.ob (by assumption) | exact isHnd.ob (by assumption) | exact isUnt.ob (by assumption) | exact isSt.ob (by assumption) | exact isHist.ob (by assumption) | exact isTxt.ob (by assumption) | exact isLac.ob (by assumption) | exact isMea.ob (by assumption) | exact hset_s | exact (hset_n (by first | assumption | omega)).trans (by first | assumption | exact isLT.ob (by assumption) | exact isMt.ob (by assumption) | exact isRow.ob (by assumption) | exact isHnd.ob (by assumption) | exact isUnt.ob (by assumption) | exact isSt.ob (by assumption) | exact isHist.ob (by assumption) | exact isTxt.ob (by assumption) | exact isLac.ob (by assumption) | exact isMea.ob (by assumption) | exact hset_s | exact (hset_n (by first | assumption | omega)).trans (by first | assumption | exact isLT.ob (by assumption) | exact isMt.ob (by assumption) | exact isRow.ob (by assumption) | exact isHnd.ob (by assumption) | exact isUnt.ob (by assumption) | exact isSt.ob (by assumption) | exact isHist.ob (by assumption) | exact isTxt.ob (by assumption) | exact isLac.ob (by assumption) | exact isMea.ob (by assumption) | exact hset_s | exact (hset_n (by first | assumption | omega)).trans (by first | assumption | exact isLT.ob (by assumption) | exact isMt.ob (by assumption) | exact isRow.ob (by assumption) | exact isHnd.ob (by assumption) | exact isUnt.ob (by assumption) | exact isSt.ob (by assumption) | exact isHist.ob (by assumption) | exact isTxt.ob (by assumption) | exact isLac.ob (by assumption) | exact isMea.ob (by assumption))))) rfl rfl (by decide) (by rfl) rfl (Nat.le_of_ble_eq_true rfl) (Nat.zero_add _) (Nat.zero_add _) (fun v560 h560 n560 q560 => ?_)
  obtain ⟨rfl, ⟨hh560, m560⟩, k560⟩ := q560
  obtain ⟨y1, y2, y3, y4, y5, y6, y7, y8, w560⟩ := id m560
  have u560 := isLT_fr u554 k560 (by omega)
  have o560 := (k560 (x + 74) (by omega)).trans o554
  refine K_istore dL_law_563 (Nat.le_of_ble_eq_true rfl) (by rfl) ?_
  refine K_aload_n dL_law_565 (by rfl) ?_
  refine K_callV mf_X10_thrown lk_L_88 mi_X10_thrown mv_X10_thrown (sp_X10_thrown w560.1 _) dL_law_566 (by first | assumption | exact isLT.ob (by assumption) | exact isMt.ob (by assumption) | exact isRow.ob (by assumption) | exact isHnd.ob (by assumption) | exact isUnt.ob (by assumption) | exact isSt.ob (by assumption) | exact isHist.ob (by assumption) | exact isTxt.ob (by assumption) | exact isLac.ob (by assumption) | exact isMea.ob (by assumption) | exact hset_s | exact (hset_n (by first | assumption | omega)).trans (by first | assumption | exact isLT.ob (by assumption) | exact isMt.ob (by assumption) | exact isRow.ob (by assumption) | exact isHnd.ob (by assumption) | exact isUnt.ob (by assumption) | exact isSt.ob (by assumption) | exact isHist.ob (by assumption) | exact isTxt.ob (by assumption) | exact isLac.ob (by assumption) | exact isMea.ob (by assumption) | exact hset_s | exact (hset_n (by first | assumption | omega)).trans (by first | assumption | exact isLT.ob (by assumption) | exact isMt.ob (by assumption) | exact isRow.ob (by assumption) | exact isHnd.ob (by assumption) | exact isUnt.ob (by assumption) | exact isSt.ob (by assumption) | exact isHist.ob (by assumption) | exact isTxt.ob (by assumption) | exact isLac.ob (by assumption) | exact isMea.ob (by assumption) | exact hset_s | exact (hset_n (by first | assumption | omega)).trans (by first | assumption | exact isLT.ob (by assumption) | exact isMt.ob (by assumption) | exact isRow.ob (by assumption) | exact isHnd.ob (by assumption) | exact isUnt.ob (by assumption) | exact isSt.ob (by assumption) | exact isHist.ob (by assumption) | exact isTxt.ob (by assumption) | exact isLac.ob (by assumption) | exact isMea.ob (by assumption))))) rfl rfl (by decide) (by rfl) rfl (Nat.le_of_ble_eq_true rfl) (Nat.zero_add _) (Nat.zero_add _) (fun v566 h566 n566 q566 => ?_)
  obtain ⟨rfl, rfl⟩ := q566
  refine K_iload dL_law_569 (by rfl) ?_
  refine K_icmp_eq (tgt := 576) dL_law_571 (by decide) (fun c571 => ?_) (fun c571 => ?_)
  · refine K_iload dL_law_576 (by rfl) ?_
    refine K_if_ne (tgt := 593) dL_law_578 (by decide) (fun c578 => ?_) (fun c578 => ?_)
    · refine K_goto (tgt := 1429) dL_law_593 (by decide) ?_
      exact K_less (kc2 := L - i - 1) (kn2 := 6 * (L - i) - 6) (by omega) (by omega) (K_sub (by repeat (first | exact subl_nil | refine subl_cons rfl ?_)) (nxt _ _ (opLace σ).2.2 _ _ _ (ok_lace ok) u560 m560 o560))
    · have z578 := nI_R0 c578 d554
      have e578 := e554 z578
      refine K_aload_n dL_law_581 (by rfl) ?_
      refine K_iconst (v := 0) dL_law_582 (by decide) ?_
      refine K_lald dL_law_583 (by first | assumption | exact isLT.ob (by assumption) | exact isMt.ob (by assumption) | exact isRow.ob (by assumption) | exact isHnd.ob (by assumption) | exact isUnt.ob (by assumption) | exact isSt.ob (by assumption) | exact isHist.ob (by assumption) | exact isTxt.ob (by assumption) | exact isLac.ob (by assumption) | exact isMea.ob (by assumption) | exact hset_s | exact (hset_n (by first | assumption | omega)).trans (by first | assumption | exact isLT.ob (by assumption) | exact isMt.ob (by assumption) | exact isRow.ob (by assumption) | exact isHnd.ob (by assumption) | exact isUnt.ob (by assumption) | exact isSt.ob (by assumption) | exact isHist.ob (by assumption) | exact isTxt.ob (by assumption) | exact isLac.ob (by assumption) | exact isMea.ob (by assumption) | exact hset_s | exact (hset_n (by first | assumption | omega)).trans (by first | assumption | exact isLT.ob (by assumption) | exact isMt.ob (by assumption) | exact isRow.ob (by assumption) | exact isHnd.ob (by assumption) | exact isUnt.ob (by assumption) | exact isSt.ob (by assumption) | exact isHist.ob (by assumption) | exact isTxt.ob (by assumption) | exact isLac.ob (by assumption) | exact isMea.ob (by assumption) | exact hset_s | exact (hset_n (by first | assumption | omega)).trans (by first | assumption | exact isLT.ob (by assumption) | exact isMt.ob (by assumption) | exact isRow.ob (by assumption) | exact isHnd.ob (by assumption) | exact isUnt.ob (by assumption) | exact isSt.ob (by assumption) | exact isHist.ob (by assumption) | exact isTxt.ob (by assumption) | exact isLac.ob (by assumption) | exact isMea.ob (by assumption))))) (pk_in 0 1 (by omega)) ?_
      rw [show (0 : Int32).toNatClampNeg = 0 by decide, e578]
      refine K_iload dL_law_584 (by rfl) ?_
      refine K_i2l dL_law_586 ?_
      refine K_lcmp dL_law_587 ?_
      refine K_if_eq (tgt := 593) dL_law_588 (by decide) (fun c588 => ?_) (fun c588 => ?_)
      · refine K_goto (tgt := 1429) dL_law_593 (by decide) ?_
        exact K_less (kc2 := L - i - 1) (kn2 := 6 * (L - i) - 6) (by omega) (by omega) (K_sub (by repeat (first | exact subl_nil | refine subl_cons rfl ?_)) (nxt _ _ (opLace σ).2.2 _ _ _ (ok_lace ok) u560 m560 o560))
      · exact absurd ((lg_cmp_eq _ _).mpr rfl) c588
  · exact absurd rfl c571
set_option maxRecDepth 20000 in
theorem law_c11 (hs : G.2.2 b = some (L, xs)) (hL : L ≤ 1536) (hi : i + 3 ≤ L) (ok : okS σ) (u : isLT G h x σ) (md : isMd G h (x + 64) σ t hh) (ho : h (x + 74) = some (.inl (G.2.1 1, 1, .inr (.inl g)))) (nxt : ∀ (h' : HP) (n' : Nat) (σ' : Sg) (t' : Int32) (hh' : Int64) (g' : Nat → Int64), okS σ' → isLT G h' x σ' → isMd G h' (x + 64) σ' t' hh' → h' (x + 74) = some (.inl (G.2.1 1, 1, .inr (.inl g'))) → KJ none G (ML nm) 1400 1429 [(0, .ref b), (1, .ref x), (2, .ref (x + 64)), (3, .ref (x + 74)), (4, .int (nI i))] [] h' n' (L - i - 1) (6 * (L - i) - 6) QL) : KJ none G (ML nm) 1400 39 [(0, .ref b), (1, .ref x), (2, .ref (x + 64)), (3, .ref (x + 74)), (4, .int (nI i))] [.int (nI 11)] h n (L - i) (6 * (L - i)) QL := by
  refine K_tableIn (off := 557) (tgt := 596) dL_law_39 (by decide) (by decide) (by decide) (by decide) ?_
  refine K_aload_n dL_law_596 (by rfl) ?_
  refine K_aload_n dL_law_597 (by rfl) ?_
  refine K_callW (kc' := L - i - 1) (kn' := 6 * (L - i) - 6) mf_L_undo (tb_3 (List.mem_of_getElem? (i := 199) rfl) rfl) ms_L_undo (sp_L_undo u ok ho (Or.inr (by omega)) _) dL_law_598 (by decide) (by rfl) rfl (Nat.le_of_ble_eq_true rfl) (by omega) (by omega) (fun v598 h598 n598 q598 => ?_)
  obtain ⟨rfl, u598, ⟨g598, o598, e598⟩, k598, d598⟩ := q598
  have m598 := isMd_keep md (fun q h1 h2 => k598 q (by omega) (by omega))
  obtain ⟨x1, x2, x3, x4, x5, x6, x7, x8, w598⟩ := id m598
  refine K_istore dL_law_601 (Nat.le_of_ble_eq_true rfl) (by rfl) ?_
  refine K_aload_n dL_law_603 (by rfl) ?_
  refine K_callV mf_X10_undo lk_L_129 mi_X10_undo mv_X10_undo (sp_X10_undo m598 _) dL_law_604 (by first | assumption | exact isLT.ob (by assumption) | exact isMt.ob (by assumption) | exact isRow.ob (by assumption) | exact isHnd.ob (by assumption) | exact isUnt.ob (by assumption) | exact isSt.ob (by assumption) | exact isHist.ob (by assumption) | exact isTxt.ob (by assumption) | exact isLac.ob (by assumption) | exact isMea.ob (by assumption) | exact hset_s | exact (hset_n (by first | assumption | omega)).trans (by first | assumption | exact isLT.ob (by assumption) | exact isMt.ob (by assumption) | exact isRow.ob (by assumption) | exact isHnd.ob (by assumption) | exact isUnt.ob (by assumption) | exact isSt.ob (by assumption) | exact isHist.ob (by assumption) | exact isTxt.ob (by assumption) | exact isLac.ob (by assumption) | exact isMea.ob (by assumption) | exact hset_s | exact (hset_n (by first | assumption | omega)).trans (by first | assumption | exact isLT.ob (by assumption) | exact isMt.ob (by assumption) | exact isRow.ob (by assumption) | exact isHnd.ob (by assumption) | exact isUnt.ob (by assumption) | exact isSt.ob (by assumption) | exact isHist.ob (by assumption) | exact isTxt.ob (by assumption) | exact isLac.ob (by assumption) | exact isMea.ob (by assumption) | exact hset_s | exact (hset_n (by first | assumption | omega)).trans (by first | assumption | exact isLT.ob (by assumption) | exact isMt.ob (by assumption) | exact isRow.ob (by assumption) | exact isHnd.ob (by assumption) | exact isUnt.ob (by assumption) | exact isSt.ob (by assumption) | exact isHist.ob (by assumption) | exact isTxt.ob (by assumption) | exact isLac.ob (by assumption) | exact isMea.ob (by assumption))))) rfl rfl (by decide) (by rfl) rfl (Nat.le_of_ble_eq_true rfl) (Nat.zero_add _) (Nat.zero_add _) (fun v604 h604 n604 q604 => ?_)
  obtain ⟨rfl, ⟨hh604, m604⟩, k604⟩ := q604
  obtain ⟨y1, y2, y3, y4, y5, y6, y7, y8, w604⟩ := id m604
  have u604 := isLT_fr u598 k604 (by omega)
  have o604 := (k604 (x + 74) (by omega)).trans o598
  refine K_istore dL_law_607 (Nat.le_of_ble_eq_true rfl) (by rfl) ?_
  refine K_aload_n dL_law_609 (by rfl) ?_
  refine K_callV mf_X10_thrown lk_L_88 mi_X10_thrown mv_X10_thrown (sp_X10_thrown w604.1 _) dL_law_610 (by first | assumption | exact isLT.ob (by assumption) | exact isMt.ob (by assumption) | exact isRow.ob (by assumption) | exact isHnd.ob (by assumption) | exact isUnt.ob (by assumption) | exact isSt.ob (by assumption) | exact isHist.ob (by assumption) | exact isTxt.ob (by assumption) | exact isLac.ob (by assumption) | exact isMea.ob (by assumption) | exact hset_s | exact (hset_n (by first | assumption | omega)).trans (by first | assumption | exact isLT.ob (by assumption) | exact isMt.ob (by assumption) | exact isRow.ob (by assumption) | exact isHnd.ob (by assumption) | exact isUnt.ob (by assumption) | exact isSt.ob (by assumption) | exact isHist.ob (by assumption) | exact isTxt.ob (by assumption) | exact isLac.ob (by assumption) | exact isMea.ob (by assumption) | exact hset_s | exact (hset_n (by first | assumption | omega)).trans (by first | assumption | exact isLT.ob (by assumption) | exact isMt.ob (by assumption) | exact isRow.ob (by assumption) | exact isHnd.ob (by assumption) | exact isUnt.ob (by assumption) | exact isSt.ob (by assumption) | exact isHist.ob (by assumption) | exact isTxt.ob (by assumption) | exact isLac.ob (by assumption) | exact isMea.ob (by assumption) | exact hset_s | exact (hset_n (by first | assumption | omega)).trans (by first | assumption | exact isLT.ob (by assumption) | exact isMt.ob (by assumption) | exact isRow.ob (by assumption) | exact isHnd.ob (by assumption) | exact isUnt.ob (by assumption) | exact isSt.ob (by assumption) | exact isHist.ob (by assumption) | exact isTxt.ob (by assumption) | exact isLac.ob (by assumption) | exact isMea.ob (by assumption))))) rfl rfl (by decide) (by rfl) rfl (Nat.le_of_ble_eq_true rfl) (Nat.zero_add _) (Nat.zero_add _) (fun v610 h610 n610 q610 => ?_)
  obtain ⟨rfl, rfl⟩ := q610
  refine K_iload dL_law_613 (by rfl) ?_
  refine K_icmp_eq (tgt := 620) dL_law_615 (by decide) (fun c615 => ?_) (fun c615 => ?_)
  · refine K_iload dL_law_620 (by rfl) ?_
    refine K_if_ne (tgt := 637) dL_law_622 (by decide) (fun c622 => ?_) (fun c622 => ?_)
    · refine K_goto (tgt := 1429) dL_law_637 (by decide) ?_
      exact K_less (kc2 := L - i - 1) (kn2 := 6 * (L - i) - 6) (by omega) (by omega) (K_sub (by repeat (first | exact subl_nil | refine subl_cons rfl ?_)) (nxt _ _ (opUndo σ).2.2 _ _ _ (ok_undo ok) u604 m604 o604))
    · have z622 := nI_R0 c622 d598
      have e622 := e598 z622
      refine K_aload_n dL_law_625 (by rfl) ?_
      refine K_iconst (v := 0) dL_law_626 (by decide) ?_
      refine K_lald dL_law_627 (by first | assumption | exact isLT.ob (by assumption) | exact isMt.ob (by assumption) | exact isRow.ob (by assumption) | exact isHnd.ob (by assumption) | exact isUnt.ob (by assumption) | exact isSt.ob (by assumption) | exact isHist.ob (by assumption) | exact isTxt.ob (by assumption) | exact isLac.ob (by assumption) | exact isMea.ob (by assumption) | exact hset_s | exact (hset_n (by first | assumption | omega)).trans (by first | assumption | exact isLT.ob (by assumption) | exact isMt.ob (by assumption) | exact isRow.ob (by assumption) | exact isHnd.ob (by assumption) | exact isUnt.ob (by assumption) | exact isSt.ob (by assumption) | exact isHist.ob (by assumption) | exact isTxt.ob (by assumption) | exact isLac.ob (by assumption) | exact isMea.ob (by assumption) | exact hset_s | exact (hset_n (by first | assumption | omega)).trans (by first | assumption | exact isLT.ob (by assumption) | exact isMt.ob (by assumption) | exact isRow.ob (by assumption) | exact isHnd.ob (by assumption) | exact isUnt.ob (by assumption) | exact isSt.ob (by assumption) | exact isHist.ob (by assumption) | exact isTxt.ob (by assumption) | exact isLac.ob (by assumption) | exact isMea.ob (by assumption) | exact hset_s | exact (hset_n (by first | assumption | omega)).trans (by first | assumption | exact isLT.ob (by assumption) | exact isMt.ob (by assumption) | exact isRow.ob (by assumption) | exact isHnd.ob (by assumption) | exact isUnt.ob (by assumption) | exact isSt.ob (by assumption) | exact isHist.ob (by assumption) | exact isTxt.ob (by assumption) | exact isLac.ob (by assumption) | exact isMea.ob (by assumption))))) (pk_in 0 1 (by omega)) ?_
      rw [show (0 : Int32).toNatClampNeg = 0 by decide, e622]
      refine K_iload dL_law_628 (by rfl) ?_
      refine K_i2l dL_law_630 ?_
      refine K_lcmp dL_law_631 ?_
      refine K_if_eq (tgt := 637) dL_law_632 (by decide) (fun c632 => ?_) (fun c632 => ?_)
      · refine K_goto (tgt := 1429) dL_law_637 (by decide) ?_
        exact K_less (kc2 := L - i - 1) (kn2 := 6 * (L - i) - 6) (by omega) (by omega) (K_sub (by repeat (first | exact subl_nil | refine subl_cons rfl ?_)) (nxt _ _ (opUndo σ).2.2 _ _ _ (ok_undo ok) u604 m604 o604))
      · exact absurd ((lg_cmp_eq _ _).mpr rfl) c632
  · exact absurd rfl c615
set_option maxRecDepth 20000 in
theorem law_c12 (hs : G.2.2 b = some (L, xs)) (hL : L ≤ 1536) (hi : i + 3 ≤ L) (ok : okS σ) (u : isLT G h x σ) (md : isMd G h (x + 64) σ t hh) (ho : h (x + 74) = some (.inl (G.2.1 1, 1, .inr (.inl g)))) (nxt : ∀ (h' : HP) (n' : Nat) (σ' : Sg) (t' : Int32) (hh' : Int64) (g' : Nat → Int64), okS σ' → isLT G h' x σ' → isMd G h' (x + 64) σ' t' hh' → h' (x + 74) = some (.inl (G.2.1 1, 1, .inr (.inl g'))) → KJ none G (ML nm) 1400 1429 [(0, .ref b), (1, .ref x), (2, .ref (x + 64)), (3, .ref (x + 74)), (4, .int (nI i))] [] h' n' (L - i - 1) (6 * (L - i) - 6) QL) : KJ none G (ML nm) 1400 39 [(0, .ref b), (1, .ref x), (2, .ref (x + 64)), (3, .ref (x + 74)), (4, .int (nI i))] [.int (nI 12)] h n (L - i) (6 * (L - i)) QL := by
  refine K_tableIn (off := 601) (tgt := 640) dL_law_39 (by decide) (by decide) (by decide) (by decide) ?_
  refine K_aload_n dL_law_640 (by rfl) ?_
  refine K_callV mf_X9_keep lk_L_130 mi_X9_keep mv_X9_keep (sp_X9_keep u _) dL_law_641 (by first | assumption | exact isLT.ob (by assumption) | exact isMt.ob (by assumption) | exact isRow.ob (by assumption) | exact isHnd.ob (by assumption) | exact isUnt.ob (by assumption) | exact isSt.ob (by assumption) | exact isHist.ob (by assumption) | exact isTxt.ob (by assumption) | exact isLac.ob (by assumption) | exact isMea.ob (by assumption) | exact hset_s | exact (hset_n (by first | assumption | omega)).trans (by first | assumption | exact isLT.ob (by assumption) | exact isMt.ob (by assumption) | exact isRow.ob (by assumption) | exact isHnd.ob (by assumption) | exact isUnt.ob (by assumption) | exact isSt.ob (by assumption) | exact isHist.ob (by assumption) | exact isTxt.ob (by assumption) | exact isLac.ob (by assumption) | exact isMea.ob (by assumption) | exact hset_s | exact (hset_n (by first | assumption | omega)).trans (by first | assumption | exact isLT.ob (by assumption) | exact isMt.ob (by assumption) | exact isRow.ob (by assumption) | exact isHnd.ob (by assumption) | exact isUnt.ob (by assumption) | exact isSt.ob (by assumption) | exact isHist.ob (by assumption) | exact isTxt.ob (by assumption) | exact isLac.ob (by assumption) | exact isMea.ob (by assumption) | exact hset_s | exact (hset_n (by first | assumption | omega)).trans (by first | assumption | exact isLT.ob (by assumption) | exact isMt.ob (by assumption) | exact isRow.ob (by assumption) | exact isHnd.ob (by assumption) | exact isUnt.ob (by assumption) | exact isSt.ob (by assumption) | exact isHist.ob (by assumption) | exact isTxt.ob (by assumption) | exact isLac.ob (by assumption) | exact isMea.ob (by assumption))))) rfl rfl (by decide) (by rfl) rfl (Nat.le_of_ble_eq_true rfl) (Nat.zero_add _) (Nat.zero_add _) (fun v641 h641 n641 q641 => ?_)
  obtain ⟨-, rfl, u641, k641⟩ := q641
  have m641 := isMd_keep md (fun q h1 h2 => k641 q (by omega))
  obtain ⟨x1, x2, x3, x4, x5, x6, x7, x8, w641⟩ := id m641
  have o641 := (k641 (x + 74) (by omega)).trans ho
  refine K_aload_n dL_law_644 (by rfl) ?_
  refine K_callV mf_X10_keep lk_L_133 mi_X10_keep mv_X10_keep (sp_X10_keep m641 _) dL_law_645 (by first | assumption | exact isLT.ob (by assumption) | exact isMt.ob (by assumption) | exact isRow.ob (by assumption) | exact isHnd.ob (by assumption) | exact isUnt.ob (by assumption) | exact isSt.ob (by assumption) | exact isHist.ob (by assumption) | exact isTxt.ob (by assumption) | exact isLac.ob (by assumption) | exact isMea.ob (by assumption) | exact hset_s | exact (hset_n (by first | assumption | omega)).trans (by first | assumption | exact isLT.ob (by assumption) | exact isMt.ob (by assumption) | exact isRow.ob (by assumption) | exact isHnd.ob (by assumption) | exact isUnt.ob (by assumption) | exact isSt.ob (by assumption) | exact isHist.ob (by assumption) | exact isTxt.ob (by assumption) | exact isLac.ob (by assumption) | exact isMea.ob (by assumption) | exact hset_s | exact (hset_n (by first | assumption | omega)).trans (by first | assumption | exact isLT.ob (by assumption) | exact isMt.ob (by assumption) | exact isRow.ob (by assumption) | exact isHnd.ob (by assumption) | exact isUnt.ob (by assumption) | exact isSt.ob (by assumption) | exact isHist.ob (by assumption) | exact isTxt.ob (by assumption) | exact isLac.ob (by assumption) | exact isMea.ob (by assumption) | exact hset_s | exact (hset_n (by first | assumption | omega)).trans (by first | assumption | exact isLT.ob (by assumption) | exact isMt.ob (by assumption) | exact isRow.ob (by assumption) | exact isHnd.ob (by assumption) | exact isUnt.ob (by assumption) | exact isSt.ob (by assumption) | exact isHist.ob (by assumption) | exact isTxt.ob (by assumption) | exact isLac.ob (by assumption) | exact isMea.ob (by assumption))))) rfl rfl (by decide) (by rfl) rfl (Nat.le_of_ble_eq_true rfl) (Nat.zero_add _) (Nat.zero_add _) (fun v645 h645 n645 q645 => ?_)
  obtain ⟨rfl, ⟨hh645, m645⟩, k645⟩ := q645
  have u645 := isLT_fr u641 k645 (by omega)
  have o645 := (k645 (x + 74) (by omega)).trans o641
  refine K_icmp_eq (tgt := 1429) dL_law_648 (by decide) (fun c648 => ?_) (fun c648 => ?_)
  · exact K_less (kc2 := L - i - 1) (kn2 := 6 * (L - i) - 6) (by omega) (by omega) (K_sub (by repeat (first | exact subl_nil | refine subl_cons rfl ?_)) (nxt _ _ (opKeep σ).2.2 _ _ _ (ok_keep ok) u645 m645 o645))
  · exact absurd rfl c648
set_option maxRecDepth 20000 in
theorem law_c13 (hs : G.2.2 b = some (L, xs)) (hL : L ≤ 1536) (hi : i + 3 ≤ L) (ok : okS σ) (u : isLT G h x σ) (md : isMd G h (x + 64) σ t hh) (ho : h (x + 74) = some (.inl (G.2.1 1, 1, .inr (.inl g)))) (nxt : ∀ (h' : HP) (n' : Nat) (σ' : Sg) (t' : Int32) (hh' : Int64) (g' : Nat → Int64), okS σ' → isLT G h' x σ' → isMd G h' (x + 64) σ' t' hh' → h' (x + 74) = some (.inl (G.2.1 1, 1, .inr (.inl g'))) → KJ none G (ML nm) 1400 1429 [(0, .ref b), (1, .ref x), (2, .ref (x + 64)), (3, .ref (x + 74)), (4, .int (nI i))] [] h' n' (L - i - 1) (6 * (L - i) - 6) QL) : KJ none G (ML nm) 1400 39 [(0, .ref b), (1, .ref x), (2, .ref (x + 64)), (3, .ref (x + 74)), (4, .int (nI i))] [.int (nI 13)] h n (L - i) (6 * (L - i)) QL := by
  refine K_tableIn (off := 614) (tgt := 653) dL_law_39 (by decide) (by decide) (by decide) (by decide) ?_
  refine K_aload_n dL_law_653 (by rfl) ?_
  refine K_aload_n dL_law_654 (by rfl) ?_
  refine K_callW (kc' := L - i - 1) (kn' := 6 * (L - i) - 6) mf_L_restore (tb_3 (List.mem_of_getElem? (i := 211) rfl) rfl) ms_L_restore (sp_L_restore u ok ho (Or.inr (by omega)) _) dL_law_655 (by decide) (by rfl) rfl (Nat.le_of_ble_eq_true rfl) (by omega) (by omega) (fun v655 h655 n655 q655 => ?_)
  obtain ⟨rfl, u655, ⟨g655, o655, e655⟩, k655, d655⟩ := q655
  have m655 := isMd_keep md (fun q h1 h2 => k655 q (by omega) (by omega))
  obtain ⟨x1, x2, x3, x4, x5, x6, x7, x8, w655⟩ := id m655
  refine K_istore dL_law_658 (Nat.le_of_ble_eq_true rfl) (by rfl) ?_
  refine K_aload_n dL_law_660 (by rfl) ?_
  refine K_callV mf_X10_restore lk_L_136 mi_X10_restore mv_X10_restore (sp_X10_restore m655 _) dL_law_661 (by first | assumption | exact isLT.ob (by assumption) | exact isMt.ob (by assumption) | exact isRow.ob (by assumption) | exact isHnd.ob (by assumption) | exact isUnt.ob (by assumption) | exact isSt.ob (by assumption) | exact isHist.ob (by assumption) | exact isTxt.ob (by assumption) | exact isLac.ob (by assumption) | exact isMea.ob (by assumption) | exact hset_s | exact (hset_n (by first | assumption | omega)).trans (by first | assumption | exact isLT.ob (by assumption) | exact isMt.ob (by assumption) | exact isRow.ob (by assumption) | exact isHnd.ob (by assumption) | exact isUnt.ob (by assumption) | exact isSt.ob (by assumption) | exact isHist.ob (by assumption) | exact isTxt.ob (by assumption) | exact isLac.ob (by assumption) | exact isMea.ob (by assumption) | exact hset_s | exact (hset_n (by first | assumption | omega)).trans (by first | assumption | exact isLT.ob (by assumption) | exact isMt.ob (by assumption) | exact isRow.ob (by assumption) | exact isHnd.ob (by assumption) | exact isUnt.ob (by assumption) | exact isSt.ob (by assumption) | exact isHist.ob (by assumption) | exact isTxt.ob (by assumption) | exact isLac.ob (by assumption) | exact isMea.ob (by assumption) | exact hset_s | exact (hset_n (by first | assumption | omega)).trans (by first | assumption | exact isLT.ob (by assumption) | exact isMt.ob (by assumption) | exact isRow.ob (by assumption) | exact isHnd.ob (by assumption) | exact isUnt.ob (by assumption) | exact isSt.ob (by assumption) | exact isHist.ob (by assumption) | exact isTxt.ob (by assumption) | exact isLac.ob (by assumption) | exact isMea.ob (by assumption))))) rfl rfl (by decide) (by rfl) rfl (Nat.le_of_ble_eq_true rfl) (Nat.zero_add _) (Nat.zero_add _) (fun v661 h661 n661 q661 => ?_)
  obtain ⟨rfl, ⟨hh661, m661⟩, k661⟩ := q661
  obtain ⟨y1, y2, y3, y4, y5, y6, y7, y8, w661⟩ := id m661
  have u661 := isLT_fr u655 k661 (by omega)
  have o661 := (k661 (x + 74) (by omega)).trans o655
  refine K_istore dL_law_664 (Nat.le_of_ble_eq_true rfl) (by rfl) ?_
  refine K_aload_n dL_law_666 (by rfl) ?_
  refine K_callV mf_X10_thrown lk_L_88 mi_X10_thrown mv_X10_thrown (sp_X10_thrown w661.1 _) dL_law_667 (by first | assumption | exact isLT.ob (by assumption) | exact isMt.ob (by assumption) | exact isRow.ob (by assumption) | exact isHnd.ob (by assumption) | exact isUnt.ob (by assumption) | exact isSt.ob (by assumption) | exact isHist.ob (by assumption) | exact isTxt.ob (by assumption) | exact isLac.ob (by assumption) | exact isMea.ob (by assumption) | exact hset_s | exact (hset_n (by first | assumption | omega)).trans (by first | assumption | exact isLT.ob (by assumption) | exact isMt.ob (by assumption) | exact isRow.ob (by assumption) | exact isHnd.ob (by assumption) | exact isUnt.ob (by assumption) | exact isSt.ob (by assumption) | exact isHist.ob (by assumption) | exact isTxt.ob (by assumption) | exact isLac.ob (by assumption) | exact isMea.ob (by assumption) | exact hset_s | exact (hset_n (by first | assumption | omega)).trans (by first | assumption | exact isLT.ob (by assumption) | exact isMt.ob (by assumption) | exact isRow.ob (by assumption) | exact isHnd.ob (by assumption) | exact isUnt.ob (by assumption) | exact isSt.ob (by assumption) | exact isHist.ob (by assumption) | exact isTxt.ob (by assumption) | exact isLac.ob (by assumption) | exact isMea.ob (by assumption) | exact hset_s | exact (hset_n (by first | assumption | omega)).trans (by first | assumption | exact isLT.ob (by assumption) | exact isMt.ob (by assumption) | exact isRow.ob (by assumption) | exact isHnd.ob (by assumption) | exact isUnt.ob (by assumption) | exact isSt.ob (by assumption) | exact isHist.ob (by assumption) | exact isTxt.ob (by assumption) | exact isLac.ob (by assumption) | exact isMea.ob (by assumption))))) rfl rfl (by decide) (by rfl) rfl (Nat.le_of_ble_eq_true rfl) (Nat.zero_add _) (Nat.zero_add _) (fun v667 h667 n667 q667 => ?_)
  obtain ⟨rfl, rfl⟩ := q667
  refine K_iload dL_law_670 (by rfl) ?_
  refine K_icmp_eq (tgt := 677) dL_law_672 (by decide) (fun c672 => ?_) (fun c672 => ?_)
  · refine K_iload dL_law_677 (by rfl) ?_
    refine K_if_ne (tgt := 694) dL_law_679 (by decide) (fun c679 => ?_) (fun c679 => ?_)
    · refine K_goto (tgt := 1429) dL_law_694 (by decide) ?_
      exact K_less (kc2 := L - i - 1) (kn2 := 6 * (L - i) - 6) (by omega) (by omega) (K_sub (by repeat (first | exact subl_nil | refine subl_cons rfl ?_)) (nxt _ _ (opRestore σ).2.2 _ _ _ (ok_restore ok) u661 m661 o661))
    · have z679 := nI_R0 c679 d655
      have e679 := e655 z679
      refine K_aload_n dL_law_682 (by rfl) ?_
      refine K_iconst (v := 0) dL_law_683 (by decide) ?_
      refine K_lald dL_law_684 (by first | assumption | exact isLT.ob (by assumption) | exact isMt.ob (by assumption) | exact isRow.ob (by assumption) | exact isHnd.ob (by assumption) | exact isUnt.ob (by assumption) | exact isSt.ob (by assumption) | exact isHist.ob (by assumption) | exact isTxt.ob (by assumption) | exact isLac.ob (by assumption) | exact isMea.ob (by assumption) | exact hset_s | exact (hset_n (by first | assumption | omega)).trans (by first | assumption | exact isLT.ob (by assumption) | exact isMt.ob (by assumption) | exact isRow.ob (by assumption) | exact isHnd.ob (by assumption) | exact isUnt.ob (by assumption) | exact isSt.ob (by assumption) | exact isHist.ob (by assumption) | exact isTxt.ob (by assumption) | exact isLac.ob (by assumption) | exact isMea.ob (by assumption) | exact hset_s | exact (hset_n (by first | assumption | omega)).trans (by first | assumption | exact isLT.ob (by assumption) | exact isMt.ob (by assumption) | exact isRow.ob (by assumption) | exact isHnd.ob (by assumption) | exact isUnt.ob (by assumption) | exact isSt.ob (by assumption) | exact isHist.ob (by assumption) | exact isTxt.ob (by assumption) | exact isLac.ob (by assumption) | exact isMea.ob (by assumption) | exact hset_s | exact (hset_n (by first | assumption | omega)).trans (by first | assumption | exact isLT.ob (by assumption) | exact isMt.ob (by assumption) | exact isRow.ob (by assumption) | exact isHnd.ob (by assumption) | exact isUnt.ob (by assumption) | exact isSt.ob (by assumption) | exact isHist.ob (by assumption) | exact isTxt.ob (by assumption) | exact isLac.ob (by assumption) | exact isMea.ob (by assumption))))) (pk_in 0 1 (by omega)) ?_
      rw [show (0 : Int32).toNatClampNeg = 0 by decide, e679]
      refine K_iload dL_law_685 (by rfl) ?_
      refine K_i2l dL_law_687 ?_
      refine K_lcmp dL_law_688 ?_
      refine K_if_eq (tgt := 694) dL_law_689 (by decide) (fun c689 => ?_) (fun c689 => ?_)
      · refine K_goto (tgt := 1429) dL_law_694 (by decide) ?_
        exact K_less (kc2 := L - i - 1) (kn2 := 6 * (L - i) - 6) (by omega) (by omega) (K_sub (by repeat (first | exact subl_nil | refine subl_cons rfl ?_)) (nxt _ _ (opRestore σ).2.2 _ _ _ (ok_restore ok) u661 m661 o661))
      · exact absurd ((lg_cmp_eq _ _).mpr rfl) c689
  · exact absurd rfl c672
set_option maxRecDepth 20000 in
theorem law_c14 (hs : G.2.2 b = some (L, xs)) (hL : L ≤ 1536) (hi : i + 3 ≤ L) (ok : okS σ) (u : isLT G h x σ) (md : isMd G h (x + 64) σ t hh) (ho : h (x + 74) = some (.inl (G.2.1 1, 1, .inr (.inl g)))) (nxt : ∀ (h' : HP) (n' : Nat) (σ' : Sg) (t' : Int32) (hh' : Int64) (g' : Nat → Int64), okS σ' → isLT G h' x σ' → isMd G h' (x + 64) σ' t' hh' → h' (x + 74) = some (.inl (G.2.1 1, 1, .inr (.inl g'))) → KJ none G (ML nm) 1400 1429 [(0, .ref b), (1, .ref x), (2, .ref (x + 64)), (3, .ref (x + 74)), (4, .int (nI i))] [] h' n' (L - i - 1) (6 * (L - i) - 6) QL) : KJ none G (ML nm) 1400 39 [(0, .ref b), (1, .ref x), (2, .ref (x + 64)), (3, .ref (x + 74)), (4, .int (nI i))] [.int (nI 14)] h n (L - i) (6 * (L - i)) QL := by
  refine K_tableIn (off := 658) (tgt := 697) dL_law_39 (by decide) (by decide) (by decide) (by decide) ?_
  refine K_aload_n dL_law_697 (by rfl) ?_
  refine K_aload_n dL_law_698 (by rfl) ?_
  refine K_iload dL_law_699 (by rfl) ?_
  refine K_iconst (v := nI 1) dL_law_701 (by decide) ?_
  refine K_iadd dL_law_702 ?_
  rw [nI_add]
  refine K_sldN dL_law_703 (by assumption) (by first | assumption | omega) (by omega) ?_
  refine K_aload_n dL_law_704 (by rfl) ?_
  refine K_callW (kc' := L - i - 1) (kn' := 6 * (L - i) - 6) mf_L_crossing (tb_3 (List.mem_of_getElem? (i := 219) rfl) rfl) ms_L_crossing (sp_L_crossing u ok ho (Or.inr (by omega)) (xs (i + 1)) _) dL_law_705 (by decide) (by rfl) rfl (Nat.le_of_ble_eq_true rfl) (by omega) (by omega) (fun v705 h705 n705 q705 => ?_)
  obtain ⟨rfl, u705, ⟨g705, o705, e705⟩, k705, d705⟩ := q705
  have m705 := isMd_keep md (fun q h1 h2 => k705 q (by omega) (by omega))
  obtain ⟨x1, x2, x3, x4, x5, x6, x7, x8, w705⟩ := id m705
  refine K_istore dL_law_708 (Nat.le_of_ble_eq_true rfl) (by rfl) ?_
  refine K_aload_n dL_law_710 (by rfl) ?_
  refine K_aload_n dL_law_711 (by rfl) ?_
  refine K_iload dL_law_712 (by rfl) ?_
  refine K_iconst (v := nI 1) dL_law_714 (by decide) ?_
  refine K_iadd dL_law_715 ?_
  rw [nI_add]
  refine K_sldN dL_law_716 (by assumption) (by first | assumption | omega) (by omega) ?_
  refine K_callV mf_X10_crossing lk_L_139 mi_X10_crossing mv_X10_crossing (sp_X10_crossing m705 (xs (i + 1)) _) dL_law_717 (by first | assumption | exact isLT.ob (by assumption) | exact isMt.ob (by assumption) | exact isRow.ob (by assumption) | exact isHnd.ob (by assumption) | exact isUnt.ob (by assumption) | exact isSt.ob (by assumption) | exact isHist.ob (by assumption) | exact isTxt.ob (by assumption) | exact isLac.ob (by assumption) | exact isMea.ob (by assumption) | exact hset_s | exact (hset_n (by first | assumption | omega)).trans (by first | assumption | exact isLT.ob (by assumption) | exact isMt.ob (by assumption) | exact isRow.ob (by assumption) | exact isHnd.ob (by assumption) | exact isUnt.ob (by assumption) | exact isSt.ob (by assumption) | exact isHist.ob (by assumption) | exact isTxt.ob (by assumption) | exact isLac.ob (by assumption) | exact isMea.ob (by assumption) | exact hset_s | exact (hset_n (by first | assumption | omega)).trans (by first | assumption | exact isLT.ob (by assumption) | exact isMt.ob (by assumption) | exact isRow.ob (by assumption) | exact isHnd.ob (by assumption) | exact isUnt.ob (by assumption) | exact isSt.ob (by assumption) | exact isHist.ob (by assumption) | exact isTxt.ob (by assumption) | exact isLac.ob (by assumption) | exact isMea.ob (by assumption) | exact hset_s | exact (hset_n (by first | assumption | omega)).trans (by first | assumption | exact isLT.ob (by assumption) | exact isMt.ob (by assumption) | exact isRow.ob (by assumption) | exact isHnd.ob (by assumption) | exact isUnt.ob (by assumption) | exact isSt.ob (by assumption) | exact isHist.ob (by assumption) | exact isTxt.ob (by assumption) | exact isLac.ob (by assumption) | exact isMea.ob (by assumption))))) rfl rfl (by decide) (by rfl) rfl (Nat.le_of_ble_eq_true rfl) (Nat.zero_add _) (Nat.zero_add _) (fun v717 h717 n717 q717 => ?_)
  obtain ⟨rfl, ⟨hh717, m717⟩, k717⟩ := q717
  obtain ⟨y1, y2, y3, y4, y5, y6, y7, y8, w717⟩ := id m717
  have u717 := isLT_fr u705 k717 (by omega)
  have o717 := (k717 (x + 74) (by omega)).trans o705
  refine K_istore dL_law_720 (Nat.le_of_ble_eq_true rfl) (by rfl) ?_
  refine K_aload_n dL_law_722 (by rfl) ?_
  refine K_callV mf_X10_thrown lk_L_88 mi_X10_thrown mv_X10_thrown (sp_X10_thrown w717.1 _) dL_law_723 (by first | assumption | exact isLT.ob (by assumption) | exact isMt.ob (by assumption) | exact isRow.ob (by assumption) | exact isHnd.ob (by assumption) | exact isUnt.ob (by assumption) | exact isSt.ob (by assumption) | exact isHist.ob (by assumption) | exact isTxt.ob (by assumption) | exact isLac.ob (by assumption) | exact isMea.ob (by assumption) | exact hset_s | exact (hset_n (by first | assumption | omega)).trans (by first | assumption | exact isLT.ob (by assumption) | exact isMt.ob (by assumption) | exact isRow.ob (by assumption) | exact isHnd.ob (by assumption) | exact isUnt.ob (by assumption) | exact isSt.ob (by assumption) | exact isHist.ob (by assumption) | exact isTxt.ob (by assumption) | exact isLac.ob (by assumption) | exact isMea.ob (by assumption) | exact hset_s | exact (hset_n (by first | assumption | omega)).trans (by first | assumption | exact isLT.ob (by assumption) | exact isMt.ob (by assumption) | exact isRow.ob (by assumption) | exact isHnd.ob (by assumption) | exact isUnt.ob (by assumption) | exact isSt.ob (by assumption) | exact isHist.ob (by assumption) | exact isTxt.ob (by assumption) | exact isLac.ob (by assumption) | exact isMea.ob (by assumption) | exact hset_s | exact (hset_n (by first | assumption | omega)).trans (by first | assumption | exact isLT.ob (by assumption) | exact isMt.ob (by assumption) | exact isRow.ob (by assumption) | exact isHnd.ob (by assumption) | exact isUnt.ob (by assumption) | exact isSt.ob (by assumption) | exact isHist.ob (by assumption) | exact isTxt.ob (by assumption) | exact isLac.ob (by assumption) | exact isMea.ob (by assumption))))) rfl rfl (by decide) (by rfl) rfl (Nat.le_of_ble_eq_true rfl) (Nat.zero_add _) (Nat.zero_add _) (fun v723 h723 n723 q723 => ?_)
  obtain ⟨rfl, rfl⟩ := q723
  refine K_iload dL_law_726 (by rfl) ?_
  refine K_icmp_eq (tgt := 733) dL_law_728 (by decide) (fun c728 => ?_) (fun c728 => ?_)
  · refine K_iload dL_law_733 (by rfl) ?_
    refine K_if_ne (tgt := 750) dL_law_735 (by decide) (fun c735 => ?_) (fun c735 => ?_)
    · refine K_goto (tgt := 1429) dL_law_750 (by decide) ?_
      exact K_less (kc2 := L - i - 1) (kn2 := 6 * (L - i) - 6) (by omega) (by omega) (K_sub (by repeat (first | exact subl_nil | refine subl_cons rfl ?_)) (nxt _ _ (opCrossing (xs (i + 1)) σ).2.2 _ _ _ ((ok_1 ok _).1) u717 m717 o717))
    · have z735 := nI_R0 c735 d705
      have e735 := e705 z735
      refine K_aload_n dL_law_738 (by rfl) ?_
      refine K_iconst (v := 0) dL_law_739 (by decide) ?_
      refine K_lald dL_law_740 (by first | assumption | exact isLT.ob (by assumption) | exact isMt.ob (by assumption) | exact isRow.ob (by assumption) | exact isHnd.ob (by assumption) | exact isUnt.ob (by assumption) | exact isSt.ob (by assumption) | exact isHist.ob (by assumption) | exact isTxt.ob (by assumption) | exact isLac.ob (by assumption) | exact isMea.ob (by assumption) | exact hset_s | exact (hset_n (by first | assumption | omega)).trans (by first | assumption | exact isLT.ob (by assumption) | exact isMt.ob (by assumption) | exact isRow.ob (by assumption) | exact isHnd.ob (by assumption) | exact isUnt.ob (by assumption) | exact isSt.ob (by assumption) | exact isHist.ob (by assumption) | exact isTxt.ob (by assumption) | exact isLac.ob (by assumption) | exact isMea.ob (by assumption) | exact hset_s | exact (hset_n (by first | assumption | omega)).trans (by first | assumption | exact isLT.ob (by assumption) | exact isMt.ob (by assumption) | exact isRow.ob (by assumption) | exact isHnd.ob (by assumption) | exact isUnt.ob (by assumption) | exact isSt.ob (by assumption) | exact isHist.ob (by assumption) | exact isTxt.ob (by assumption) | exact isLac.ob (by assumption) | exact isMea.ob (by assumption) | exact hset_s | exact (hset_n (by first | assumption | omega)).trans (by first | assumption | exact isLT.ob (by assumption) | exact isMt.ob (by assumption) | exact isRow.ob (by assumption) | exact isHnd.ob (by assumption) | exact isUnt.ob (by assumption) | exact isSt.ob (by assumption) | exact isHist.ob (by assumption) | exact isTxt.ob (by assumption) | exact isLac.ob (by assumption) | exact isMea.ob (by assumption))))) (pk_in 0 1 (by omega)) ?_
      rw [show (0 : Int32).toNatClampNeg = 0 by decide, e735]
      refine K_iload dL_law_741 (by rfl) ?_
      refine K_i2l dL_law_743 ?_
      refine K_lcmp dL_law_744 ?_
      refine K_if_eq (tgt := 750) dL_law_745 (by decide) (fun c745 => ?_) (fun c745 => ?_)
      · refine K_goto (tgt := 1429) dL_law_750 (by decide) ?_
        exact K_less (kc2 := L - i - 1) (kn2 := 6 * (L - i) - 6) (by omega) (by omega) (K_sub (by repeat (first | exact subl_nil | refine subl_cons rfl ?_)) (nxt _ _ (opCrossing (xs (i + 1)) σ).2.2 _ _ _ ((ok_1 ok _).1) u717 m717 o717))
      · exact absurd ((lg_cmp_eq _ _).mpr rfl) c745
  · exact absurd rfl c728
set_option maxRecDepth 20000 in
theorem law_c15 (hs : G.2.2 b = some (L, xs)) (hL : L ≤ 1536) (hi : i + 3 ≤ L) (ok : okS σ) (u : isLT G h x σ) (md : isMd G h (x + 64) σ t hh) (ho : h (x + 74) = some (.inl (G.2.1 1, 1, .inr (.inl g)))) (nxt : ∀ (h' : HP) (n' : Nat) (σ' : Sg) (t' : Int32) (hh' : Int64) (g' : Nat → Int64), okS σ' → isLT G h' x σ' → isMd G h' (x + 64) σ' t' hh' → h' (x + 74) = some (.inl (G.2.1 1, 1, .inr (.inl g'))) → KJ none G (ML nm) 1400 1429 [(0, .ref b), (1, .ref x), (2, .ref (x + 64)), (3, .ref (x + 74)), (4, .int (nI i))] [] h' n' (L - i - 1) (6 * (L - i) - 6) QL) : KJ none G (ML nm) 1400 39 [(0, .ref b), (1, .ref x), (2, .ref (x + 64)), (3, .ref (x + 74)), (4, .int (nI i))] [.int (nI 15)] h n (L - i) (6 * (L - i)) QL := by
  refine K_tableIn (off := 714) (tgt := 753) dL_law_39 (by decide) (by decide) (by decide) (by decide) ?_
  refine K_aload_n dL_law_753 (by rfl) ?_
  refine K_aload_n dL_law_754 (by rfl) ?_
  refine K_iload dL_law_755 (by rfl) ?_
  refine K_iconst (v := nI 1) dL_law_757 (by decide) ?_
  refine K_iadd dL_law_758 ?_
  rw [nI_add]
  refine K_sldN dL_law_759 (by assumption) (by first | assumption | omega) (by omega) ?_
  refine K_aload_n dL_law_760 (by rfl) ?_
  refine K_iload dL_law_761 (by rfl) ?_
  refine K_iconst (v := nI 2) dL_law_763 (by decide) ?_
  refine K_iadd dL_law_764 ?_
  rw [nI_add]
  refine K_sldN dL_law_765 (by assumption) (by first | assumption | omega) (by omega) ?_
  refine K_aload_n dL_law_766 (by rfl) ?_
  refine K_callW (kc' := L - i - 1) (kn' := 6 * (L - i) - 6) mf_L_lies (tb_3 (List.mem_of_getElem? (i := 227) rfl) rfl) ms_L_lies (sp_L_lies u ok ho (Or.inr (by omega)) (xs (i + 1)) (xs (i + 2)) _) dL_law_767 (by decide) (by rfl) rfl (Nat.le_of_ble_eq_true rfl) (by omega) (by omega) (fun v767 h767 n767 q767 => ?_)
  obtain ⟨rfl, u767, ⟨g767, o767, e767⟩, k767, d767⟩ := q767
  have m767 := isMd_keep md (fun q h1 h2 => k767 q (by omega) (by omega))
  obtain ⟨x1, x2, x3, x4, x5, x6, x7, x8, w767⟩ := id m767
  refine K_istore dL_law_770 (Nat.le_of_ble_eq_true rfl) (by rfl) ?_
  refine K_aload_n dL_law_772 (by rfl) ?_
  refine K_aload_n dL_law_773 (by rfl) ?_
  refine K_iload dL_law_774 (by rfl) ?_
  refine K_iconst (v := nI 1) dL_law_776 (by decide) ?_
  refine K_iadd dL_law_777 ?_
  rw [nI_add]
  refine K_sldN dL_law_778 (by assumption) (by first | assumption | omega) (by omega) ?_
  refine K_aload_n dL_law_779 (by rfl) ?_
  refine K_iload dL_law_780 (by rfl) ?_
  refine K_iconst (v := nI 2) dL_law_782 (by decide) ?_
  refine K_iadd dL_law_783 ?_
  rw [nI_add]
  refine K_sldN dL_law_784 (by assumption) (by first | assumption | omega) (by omega) ?_
  refine K_callV mf_X10_lies lk_L_142 mi_X10_lies mv_X10_lies (sp_X10_lies m767 ok (xs (i + 1)) (xs (i + 2)) _) dL_law_785 (by first | assumption | exact isLT.ob (by assumption) | exact isMt.ob (by assumption) | exact isRow.ob (by assumption) | exact isHnd.ob (by assumption) | exact isUnt.ob (by assumption) | exact isSt.ob (by assumption) | exact isHist.ob (by assumption) | exact isTxt.ob (by assumption) | exact isLac.ob (by assumption) | exact isMea.ob (by assumption) | exact hset_s | exact (hset_n (by first | assumption | omega)).trans (by first | assumption | exact isLT.ob (by assumption) | exact isMt.ob (by assumption) | exact isRow.ob (by assumption) | exact isHnd.ob (by assumption) | exact isUnt.ob (by assumption) | exact isSt.ob (by assumption) | exact isHist.ob (by assumption) | exact isTxt.ob (by assumption) | exact isLac.ob (by assumption) | exact isMea.ob (by assumption) | exact hset_s | exact (hset_n (by first | assumption | omega)).trans (by first | assumption | exact isLT.ob (by assumption) | exact isMt.ob (by assumption) | exact isRow.ob (by assumption) | exact isHnd.ob (by assumption) | exact isUnt.ob (by assumption) | exact isSt.ob (by assumption) | exact isHist.ob (by assumption) | exact isTxt.ob (by assumption) | exact isLac.ob (by assumption) | exact isMea.ob (by assumption) | exact hset_s | exact (hset_n (by first | assumption | omega)).trans (by first | assumption | exact isLT.ob (by assumption) | exact isMt.ob (by assumption) | exact isRow.ob (by assumption) | exact isHnd.ob (by assumption) | exact isUnt.ob (by assumption) | exact isSt.ob (by assumption) | exact isHist.ob (by assumption) | exact isTxt.ob (by assumption) | exact isLac.ob (by assumption) | exact isMea.ob (by assumption))))) rfl rfl (by decide) (by rfl) rfl (Nat.le_of_ble_eq_true rfl) (Nat.zero_add _) (Nat.zero_add _) (fun v785 h785 n785 q785 => ?_)
  obtain ⟨rfl, ⟨hh785, m785⟩, k785⟩ := q785
  obtain ⟨y1, y2, y3, y4, y5, y6, y7, y8, w785⟩ := id m785
  have u785 := isLT_fr u767 k785 (by omega)
  have o785 := (k785 (x + 74) (by omega)).trans o767
  refine K_istore dL_law_788 (Nat.le_of_ble_eq_true rfl) (by rfl) ?_
  refine K_aload_n dL_law_790 (by rfl) ?_
  refine K_callV mf_X10_thrown lk_L_88 mi_X10_thrown mv_X10_thrown (sp_X10_thrown w785.1 _) dL_law_791 (by first | assumption | exact isLT.ob (by assumption) | exact isMt.ob (by assumption) | exact isRow.ob (by assumption) | exact isHnd.ob (by assumption) | exact isUnt.ob (by assumption) | exact isSt.ob (by assumption) | exact isHist.ob (by assumption) | exact isTxt.ob (by assumption) | exact isLac.ob (by assumption) | exact isMea.ob (by assumption) | exact hset_s | exact (hset_n (by first | assumption | omega)).trans (by first | assumption | exact isLT.ob (by assumption) | exact isMt.ob (by assumption) | exact isRow.ob (by assumption) | exact isHnd.ob (by assumption) | exact isUnt.ob (by assumption) | exact isSt.ob (by assumption) | exact isHist.ob (by assumption) | exact isTxt.ob (by assumption) | exact isLac.ob (by assumption) | exact isMea.ob (by assumption) | exact hset_s | exact (hset_n (by first | assumption | omega)).trans (by first | assumption | exact isLT.ob (by assumption) | exact isMt.ob (by assumption) | exact isRow.ob (by assumption) | exact isHnd.ob (by assumption) | exact isUnt.ob (by assumption) | exact isSt.ob (by assumption) | exact isHist.ob (by assumption) | exact isTxt.ob (by assumption) | exact isLac.ob (by assumption) | exact isMea.ob (by assumption) | exact hset_s | exact (hset_n (by first | assumption | omega)).trans (by first | assumption | exact isLT.ob (by assumption) | exact isMt.ob (by assumption) | exact isRow.ob (by assumption) | exact isHnd.ob (by assumption) | exact isUnt.ob (by assumption) | exact isSt.ob (by assumption) | exact isHist.ob (by assumption) | exact isTxt.ob (by assumption) | exact isLac.ob (by assumption) | exact isMea.ob (by assumption))))) rfl rfl (by decide) (by rfl) rfl (Nat.le_of_ble_eq_true rfl) (Nat.zero_add _) (Nat.zero_add _) (fun v791 h791 n791 q791 => ?_)
  obtain ⟨rfl, rfl⟩ := q791
  refine K_iload dL_law_794 (by rfl) ?_
  refine K_icmp_eq (tgt := 801) dL_law_796 (by decide) (fun c796 => ?_) (fun c796 => ?_)
  · refine K_iload dL_law_801 (by rfl) ?_
    refine K_if_ne (tgt := 818) dL_law_803 (by decide) (fun c803 => ?_) (fun c803 => ?_)
    · refine K_goto (tgt := 1429) dL_law_818 (by decide) ?_
      exact K_less (kc2 := L - i - 1) (kn2 := 6 * (L - i) - 6) (by omega) (by omega) (K_sub (by repeat (first | exact subl_nil | refine subl_cons rfl ?_)) (nxt _ _ (opLies (xs (i + 1)) (xs (i + 2)) σ).2.2 _ _ _ ((ok_2 ok _ _).1) u785 m785 o785))
    · have z803 := nI_R0 c803 d767
      have e803 := e767 z803
      refine K_aload_n dL_law_806 (by rfl) ?_
      refine K_iconst (v := 0) dL_law_807 (by decide) ?_
      refine K_lald dL_law_808 (by first | assumption | exact isLT.ob (by assumption) | exact isMt.ob (by assumption) | exact isRow.ob (by assumption) | exact isHnd.ob (by assumption) | exact isUnt.ob (by assumption) | exact isSt.ob (by assumption) | exact isHist.ob (by assumption) | exact isTxt.ob (by assumption) | exact isLac.ob (by assumption) | exact isMea.ob (by assumption) | exact hset_s | exact (hset_n (by first | assumption | omega)).trans (by first | assumption | exact isLT.ob (by assumption) | exact isMt.ob (by assumption) | exact isRow.ob (by assumption) | exact isHnd.ob (by assumption) | exact isUnt.ob (by assumption) | exact isSt.ob (by assumption) | exact isHist.ob (by assumption) | exact isTxt.ob (by assumption) | exact isLac.ob (by assumption) | exact isMea.ob (by assumption) | exact hset_s | exact (hset_n (by first | assumption | omega)).trans (by first | assumption | exact isLT.ob (by assumption) | exact isMt.ob (by assumption) | exact isRow.ob (by assumption) | exact isHnd.ob (by assumption) | exact isUnt.ob (by assumption) | exact isSt.ob (by assumption) | exact isHist.ob (by assumption) | exact isTxt.ob (by assumption) | exact isLac.ob (by assumption) | exact isMea.ob (by assumption) | exact hset_s | exact (hset_n (by first | assumption | omega)).trans (by first | assumption | exact isLT.ob (by assumption) | exact isMt.ob (by assumption) | exact isRow.ob (by assumption) | exact isHnd.ob (by assumption) | exact isUnt.ob (by assumption) | exact isSt.ob (by assumption) | exact isHist.ob (by assumption) | exact isTxt.ob (by assumption) | exact isLac.ob (by assumption) | exact isMea.ob (by assumption))))) (pk_in 0 1 (by omega)) ?_
      rw [show (0 : Int32).toNatClampNeg = 0 by decide, e803]
      refine K_iload dL_law_809 (by rfl) ?_
      refine K_i2l dL_law_811 ?_
      refine K_lcmp dL_law_812 ?_
      refine K_if_eq (tgt := 818) dL_law_813 (by decide) (fun c813 => ?_) (fun c813 => ?_)
      · refine K_goto (tgt := 1429) dL_law_818 (by decide) ?_
        exact K_less (kc2 := L - i - 1) (kn2 := 6 * (L - i) - 6) (by omega) (by omega) (K_sub (by repeat (first | exact subl_nil | refine subl_cons rfl ?_)) (nxt _ _ (opLies (xs (i + 1)) (xs (i + 2)) σ).2.2 _ _ _ ((ok_2 ok _ _).1) u785 m785 o785))
      · exact absurd ((lg_cmp_eq _ _).mpr rfl) c813
  · exact absurd rfl c796
set_option maxRecDepth 20000 in
theorem law_c16 (hs : G.2.2 b = some (L, xs)) (hL : L ≤ 1536) (hi : i + 3 ≤ L) (ok : okS σ) (u : isLT G h x σ) (md : isMd G h (x + 64) σ t hh) (ho : h (x + 74) = some (.inl (G.2.1 1, 1, .inr (.inl g)))) (nxt : ∀ (h' : HP) (n' : Nat) (σ' : Sg) (t' : Int32) (hh' : Int64) (g' : Nat → Int64), okS σ' → isLT G h' x σ' → isMd G h' (x + 64) σ' t' hh' → h' (x + 74) = some (.inl (G.2.1 1, 1, .inr (.inl g'))) → KJ none G (ML nm) 1400 1429 [(0, .ref b), (1, .ref x), (2, .ref (x + 64)), (3, .ref (x + 74)), (4, .int (nI i))] [] h' n' (L - i - 1) (6 * (L - i) - 6) QL) : KJ none G (ML nm) 1400 39 [(0, .ref b), (1, .ref x), (2, .ref (x + 64)), (3, .ref (x + 74)), (4, .int (nI i))] [.int (nI 16)] h n (L - i) (6 * (L - i)) QL := by
  refine K_tableIn (off := 782) (tgt := 821) dL_law_39 (by decide) (by decide) (by decide) (by decide) ?_
  refine K_aload_n dL_law_821 (by rfl) ?_
  refine K_aload_n dL_law_822 (by rfl) ?_
  refine K_iload dL_law_823 (by rfl) ?_
  refine K_iconst (v := nI 1) dL_law_825 (by decide) ?_
  refine K_iadd dL_law_826 ?_
  rw [nI_add]
  refine K_sldN dL_law_827 (by assumption) (by first | assumption | omega) (by omega) ?_
  refine K_aload_n dL_law_828 (by rfl) ?_
  refine K_iload dL_law_829 (by rfl) ?_
  refine K_iconst (v := nI 2) dL_law_831 (by decide) ?_
  refine K_iadd dL_law_832 ?_
  rw [nI_add]
  refine K_sldN dL_law_833 (by assumption) (by first | assumption | omega) (by omega) ?_
  refine K_aload_n dL_law_834 (by rfl) ?_
  refine K_callW (kc' := L - i - 1) (kn' := 6 * (L - i) - 6) mf_L_winding (tb_4 (List.mem_of_getElem? (i := 13) rfl) rfl) ms_L_winding (sp_L_winding u ok ho (Or.inr (by omega)) (xs (i + 1)) (xs (i + 2)) _) dL_law_835 (by decide) (by rfl) rfl (Nat.le_of_ble_eq_true rfl) (by omega) (by omega) (fun v835 h835 n835 q835 => ?_)
  obtain ⟨rfl, u835, ⟨g835, o835, e835⟩, k835, d835⟩ := q835
  have m835 := isMd_keep md (fun q h1 h2 => k835 q (by omega) (by omega))
  obtain ⟨x1, x2, x3, x4, x5, x6, x7, x8, w835⟩ := id m835
  refine K_istore dL_law_838 (Nat.le_of_ble_eq_true rfl) (by rfl) ?_
  refine K_aload_n dL_law_840 (by rfl) ?_
  refine K_aload_n dL_law_841 (by rfl) ?_
  refine K_iload dL_law_842 (by rfl) ?_
  refine K_iconst (v := nI 1) dL_law_844 (by decide) ?_
  refine K_iadd dL_law_845 ?_
  rw [nI_add]
  refine K_sldN dL_law_846 (by assumption) (by first | assumption | omega) (by omega) ?_
  refine K_aload_n dL_law_847 (by rfl) ?_
  refine K_iload dL_law_848 (by rfl) ?_
  refine K_iconst (v := nI 2) dL_law_850 (by decide) ?_
  refine K_iadd dL_law_851 ?_
  rw [nI_add]
  refine K_sldN dL_law_852 (by assumption) (by first | assumption | omega) (by omega) ?_
  refine K_callV mf_X10_winding lk_L_145 mi_X10_winding mv_X10_winding (sp_X10_winding m835 ok (xs (i + 1)) (xs (i + 2)) _) dL_law_853 (by first | assumption | exact isLT.ob (by assumption) | exact isMt.ob (by assumption) | exact isRow.ob (by assumption) | exact isHnd.ob (by assumption) | exact isUnt.ob (by assumption) | exact isSt.ob (by assumption) | exact isHist.ob (by assumption) | exact isTxt.ob (by assumption) | exact isLac.ob (by assumption) | exact isMea.ob (by assumption) | exact hset_s | exact (hset_n (by first | assumption | omega)).trans (by first | assumption | exact isLT.ob (by assumption) | exact isMt.ob (by assumption) | exact isRow.ob (by assumption) | exact isHnd.ob (by assumption) | exact isUnt.ob (by assumption) | exact isSt.ob (by assumption) | exact isHist.ob (by assumption) | exact isTxt.ob (by assumption) | exact isLac.ob (by assumption) | exact isMea.ob (by assumption) | exact hset_s | exact (hset_n (by first | assumption | omega)).trans (by first | assumption | exact isLT.ob (by assumption) | exact isMt.ob (by assumption) | exact isRow.ob (by assumption) | exact isHnd.ob (by assumption) | exact isUnt.ob (by assumption) | exact isSt.ob (by assumption) | exact isHist.ob (by assumption) | exact isTxt.ob (by assumption) | exact isLac.ob (by assumption) | exact isMea.ob (by assumption) | exact hset_s | exact (hset_n (by first | assumption | omega)).trans (by first | assumption | exact isLT.ob (by assumption) | exact isMt.ob (by assumption) | exact isRow.ob (by assumption) | exact isHnd.ob (by assumption) | exact isUnt.ob (by assumption) | exact isSt.ob (by assumption) | exact isHist.ob (by assumption) | exact isTxt.ob (by assumption) | exact isLac.ob (by assumption) | exact isMea.ob (by assumption))))) rfl rfl (by decide) (by rfl) rfl (Nat.le_of_ble_eq_true rfl) (Nat.zero_add _) (Nat.zero_add _) (fun v853 h853 n853 q853 => ?_)
  obtain ⟨rfl, ⟨hh853, m853⟩, k853⟩ := q853
  obtain ⟨y1, y2, y3, y4, y5, y6, y7, y8, w853⟩ := id m853
  have u853 := isLT_fr u835 k853 (by omega)
  have o853 := (k853 (x + 74) (by omega)).trans o835
  refine K_istore dL_law_856 (Nat.le_of_ble_eq_true rfl) (by rfl) ?_
  refine K_aload_n dL_law_858 (by rfl) ?_
  refine K_callV mf_X10_thrown lk_L_88 mi_X10_thrown mv_X10_thrown (sp_X10_thrown w853.1 _) dL_law_859 (by first | assumption | exact isLT.ob (by assumption) | exact isMt.ob (by assumption) | exact isRow.ob (by assumption) | exact isHnd.ob (by assumption) | exact isUnt.ob (by assumption) | exact isSt.ob (by assumption) | exact isHist.ob (by assumption) | exact isTxt.ob (by assumption) | exact isLac.ob (by assumption) | exact isMea.ob (by assumption) | exact hset_s | exact (hset_n (by first | assumption | omega)).trans (by first | assumption | exact isLT.ob (by assumption) | exact isMt.ob (by assumption) | exact isRow.ob (by assumption) | exact isHnd.ob (by assumption) | exact isUnt.ob (by assumption) | exact isSt.ob (by assumption) | exact isHist.ob (by assumption) | exact isTxt.ob (by assumption) | exact isLac.ob (by assumption) | exact isMea.ob (by assumption) | exact hset_s | exact (hset_n (by first | assumption | omega)).trans (by first | assumption | exact isLT.ob (by assumption) | exact isMt.ob (by assumption) | exact isRow.ob (by assumption) | exact isHnd.ob (by assumption) | exact isUnt.ob (by assumption) | exact isSt.ob (by assumption) | exact isHist.ob (by assumption) | exact isTxt.ob (by assumption) | exact isLac.ob (by assumption) | exact isMea.ob (by assumption) | exact hset_s | exact (hset_n (by first | assumption | omega)).trans (by first | assumption | exact isLT.ob (by assumption) | exact isMt.ob (by assumption) | exact isRow.ob (by assumption) | exact isHnd.ob (by assumption) | exact isUnt.ob (by assumption) | exact isSt.ob (by assumption) | exact isHist.ob (by assumption) | exact isTxt.ob (by assumption) | exact isLac.ob (by assumption) | exact isMea.ob (by assumption))))) rfl rfl (by decide) (by rfl) rfl (Nat.le_of_ble_eq_true rfl) (Nat.zero_add _) (Nat.zero_add _) (fun v859 h859 n859 q859 => ?_)
  obtain ⟨rfl, rfl⟩ := q859
  refine K_iload dL_law_862 (by rfl) ?_
  refine K_icmp_eq (tgt := 869) dL_law_864 (by decide) (fun c864 => ?_) (fun c864 => ?_)
  · refine K_iload dL_law_869 (by rfl) ?_
    refine K_if_ne (tgt := 886) dL_law_871 (by decide) (fun c871 => ?_) (fun c871 => ?_)
    · refine K_goto (tgt := 1429) dL_law_886 (by decide) ?_
      exact K_less (kc2 := L - i - 1) (kn2 := 6 * (L - i) - 6) (by omega) (by omega) (K_sub (by repeat (first | exact subl_nil | refine subl_cons rfl ?_)) (nxt _ _ (opWinding (xs (i + 1)) (xs (i + 2)) σ).2.2 _ _ _ ((ok_2 ok _ _).2.1) u853 m853 o853))
    · have z871 := nI_R0 c871 d835
      have e871 := e835 z871
      refine K_aload_n dL_law_874 (by rfl) ?_
      refine K_iconst (v := 0) dL_law_875 (by decide) ?_
      refine K_lald dL_law_876 (by first | assumption | exact isLT.ob (by assumption) | exact isMt.ob (by assumption) | exact isRow.ob (by assumption) | exact isHnd.ob (by assumption) | exact isUnt.ob (by assumption) | exact isSt.ob (by assumption) | exact isHist.ob (by assumption) | exact isTxt.ob (by assumption) | exact isLac.ob (by assumption) | exact isMea.ob (by assumption) | exact hset_s | exact (hset_n (by first | assumption | omega)).trans (by first | assumption | exact isLT.ob (by assumption) | exact isMt.ob (by assumption) | exact isRow.ob (by assumption) | exact isHnd.ob (by assumption) | exact isUnt.ob (by assumption) | exact isSt.ob (by assumption) | exact isHist.ob (by assumption) | exact isTxt.ob (by assumption) | exact isLac.ob (by assumption) | exact isMea.ob (by assumption) | exact hset_s | exact (hset_n (by first | assumption | omega)).trans (by first | assumption | exact isLT.ob (by assumption) | exact isMt.ob (by assumption) | exact isRow.ob (by assumption) | exact isHnd.ob (by assumption) | exact isUnt.ob (by assumption) | exact isSt.ob (by assumption) | exact isHist.ob (by assumption) | exact isTxt.ob (by assumption) | exact isLac.ob (by assumption) | exact isMea.ob (by assumption) | exact hset_s | exact (hset_n (by first | assumption | omega)).trans (by first | assumption | exact isLT.ob (by assumption) | exact isMt.ob (by assumption) | exact isRow.ob (by assumption) | exact isHnd.ob (by assumption) | exact isUnt.ob (by assumption) | exact isSt.ob (by assumption) | exact isHist.ob (by assumption) | exact isTxt.ob (by assumption) | exact isLac.ob (by assumption) | exact isMea.ob (by assumption))))) (pk_in 0 1 (by omega)) ?_
      rw [show (0 : Int32).toNatClampNeg = 0 by decide, e871]
      refine K_iload dL_law_877 (by rfl) ?_
      refine K_i2l dL_law_879 ?_
      refine K_lcmp dL_law_880 ?_
      refine K_if_eq (tgt := 886) dL_law_881 (by decide) (fun c881 => ?_) (fun c881 => ?_)
      · refine K_goto (tgt := 1429) dL_law_886 (by decide) ?_
        exact K_less (kc2 := L - i - 1) (kn2 := 6 * (L - i) - 6) (by omega) (by omega) (K_sub (by repeat (first | exact subl_nil | refine subl_cons rfl ?_)) (nxt _ _ (opWinding (xs (i + 1)) (xs (i + 2)) σ).2.2 _ _ _ ((ok_2 ok _ _).2.1) u853 m853 o853))
      · exact absurd ((lg_cmp_eq _ _).mpr rfl) c881
  · exact absurd rfl c864
set_option maxRecDepth 20000 in
theorem law_c17 (hs : G.2.2 b = some (L, xs)) (hL : L ≤ 1536) (hi : i + 3 ≤ L) (ok : okS σ) (u : isLT G h x σ) (md : isMd G h (x + 64) σ t hh) (ho : h (x + 74) = some (.inl (G.2.1 1, 1, .inr (.inl g)))) (nxt : ∀ (h' : HP) (n' : Nat) (σ' : Sg) (t' : Int32) (hh' : Int64) (g' : Nat → Int64), okS σ' → isLT G h' x σ' → isMd G h' (x + 64) σ' t' hh' → h' (x + 74) = some (.inl (G.2.1 1, 1, .inr (.inl g'))) → KJ none G (ML nm) 1400 1429 [(0, .ref b), (1, .ref x), (2, .ref (x + 64)), (3, .ref (x + 74)), (4, .int (nI i))] [] h' n' (L - i - 1) (6 * (L - i) - 6) QL) : KJ none G (ML nm) 1400 39 [(0, .ref b), (1, .ref x), (2, .ref (x + 64)), (3, .ref (x + 74)), (4, .int (nI i))] [.int (nI 17)] h n (L - i) (6 * (L - i)) QL := by
  refine K_tableIn (off := 850) (tgt := 889) dL_law_39 (by decide) (by decide) (by decide) (by decide) ?_
  refine K_aload_n dL_law_889 (by rfl) ?_
  refine K_aload_n dL_law_890 (by rfl) ?_
  refine K_iload dL_law_891 (by rfl) ?_
  refine K_iconst (v := nI 1) dL_law_893 (by decide) ?_
  refine K_iadd dL_law_894 ?_
  rw [nI_add]
  refine K_sldN dL_law_895 (by assumption) (by first | assumption | omega) (by omega) ?_
  refine K_aload_n dL_law_896 (by rfl) ?_
  refine K_iload dL_law_897 (by rfl) ?_
  refine K_iconst (v := nI 2) dL_law_899 (by decide) ?_
  refine K_iadd dL_law_900 ?_
  rw [nI_add]
  refine K_sldN dL_law_901 (by assumption) (by first | assumption | omega) (by omega) ?_
  refine K_aload_n dL_law_902 (by rfl) ?_
  refine K_callW (kc' := L - i - 1) (kn' := 6 * (L - i) - 6) mf_L_measure (tb_4 (List.mem_of_getElem? (i := 21) rfl) rfl) ms_L_measure (sp_L_measure u ok ho (Or.inr (by omega)) (xs (i + 1)) (xs (i + 2)) _) dL_law_903 (by decide) (by rfl) rfl (Nat.le_of_ble_eq_true rfl) (by omega) (by omega) (fun v903 h903 n903 q903 => ?_)
  obtain ⟨rfl, u903, ⟨g903, o903, e903⟩, k903, d903⟩ := q903
  have m903 := isMd_keep md (fun q h1 h2 => k903 q (by omega) (by omega))
  obtain ⟨x1, x2, x3, x4, x5, x6, x7, x8, w903⟩ := id m903
  refine K_istore dL_law_906 (Nat.le_of_ble_eq_true rfl) (by rfl) ?_
  refine K_aload_n dL_law_908 (by rfl) ?_
  refine K_aload_n dL_law_909 (by rfl) ?_
  refine K_iload dL_law_910 (by rfl) ?_
  refine K_iconst (v := nI 1) dL_law_912 (by decide) ?_
  refine K_iadd dL_law_913 ?_
  rw [nI_add]
  refine K_sldN dL_law_914 (by assumption) (by first | assumption | omega) (by omega) ?_
  refine K_aload_n dL_law_915 (by rfl) ?_
  refine K_iload dL_law_916 (by rfl) ?_
  refine K_iconst (v := nI 2) dL_law_918 (by decide) ?_
  refine K_iadd dL_law_919 ?_
  rw [nI_add]
  refine K_sldN dL_law_920 (by assumption) (by first | assumption | omega) (by omega) ?_
  refine K_callV mf_X10_measure lk_L_148 mi_X10_measure mv_X10_measure (sp_X10_measure m903 ok (xs (i + 1)) (xs (i + 2)) _) dL_law_921 (by first | assumption | exact isLT.ob (by assumption) | exact isMt.ob (by assumption) | exact isRow.ob (by assumption) | exact isHnd.ob (by assumption) | exact isUnt.ob (by assumption) | exact isSt.ob (by assumption) | exact isHist.ob (by assumption) | exact isTxt.ob (by assumption) | exact isLac.ob (by assumption) | exact isMea.ob (by assumption) | exact hset_s | exact (hset_n (by first | assumption | omega)).trans (by first | assumption | exact isLT.ob (by assumption) | exact isMt.ob (by assumption) | exact isRow.ob (by assumption) | exact isHnd.ob (by assumption) | exact isUnt.ob (by assumption) | exact isSt.ob (by assumption) | exact isHist.ob (by assumption) | exact isTxt.ob (by assumption) | exact isLac.ob (by assumption) | exact isMea.ob (by assumption) | exact hset_s | exact (hset_n (by first | assumption | omega)).trans (by first | assumption | exact isLT.ob (by assumption) | exact isMt.ob (by assumption) | exact isRow.ob (by assumption) | exact isHnd.ob (by assumption) | exact isUnt.ob (by assumption) | exact isSt.ob (by assumption) | exact isHist.ob (by assumption) | exact isTxt.ob (by assumption) | exact isLac.ob (by assumption) | exact isMea.ob (by assumption) | exact hset_s | exact (hset_n (by first | assumption | omega)).trans (by first | assumption | exact isLT.ob (by assumption) | exact isMt.ob (by assumption) | exact isRow.ob (by assumption) | exact isHnd.ob (by assumption) | exact isUnt.ob (by assumption) | exact isSt.ob (by assumption) | exact isHist.ob (by assumption) | exact isTxt.ob (by assumption) | exact isLac.ob (by assumption) | exact isMea.ob (by assumption))))) rfl rfl (by decide) (by rfl) rfl (Nat.le_of_ble_eq_true rfl) (Nat.zero_add _) (Nat.zero_add _) (fun v921 h921 n921 q921 => ?_)
  obtain ⟨rfl, ⟨hh921, m921⟩, k921⟩ := q921
  obtain ⟨y1, y2, y3, y4, y5, y6, y7, y8, w921⟩ := id m921
  have u921 := isLT_fr u903 k921 (by omega)
  have o921 := (k921 (x + 74) (by omega)).trans o903
  refine K_istore dL_law_924 (Nat.le_of_ble_eq_true rfl) (by rfl) ?_
  refine K_aload_n dL_law_926 (by rfl) ?_
  refine K_callV mf_X10_thrown lk_L_88 mi_X10_thrown mv_X10_thrown (sp_X10_thrown w921.1 _) dL_law_927 (by first | assumption | exact isLT.ob (by assumption) | exact isMt.ob (by assumption) | exact isRow.ob (by assumption) | exact isHnd.ob (by assumption) | exact isUnt.ob (by assumption) | exact isSt.ob (by assumption) | exact isHist.ob (by assumption) | exact isTxt.ob (by assumption) | exact isLac.ob (by assumption) | exact isMea.ob (by assumption) | exact hset_s | exact (hset_n (by first | assumption | omega)).trans (by first | assumption | exact isLT.ob (by assumption) | exact isMt.ob (by assumption) | exact isRow.ob (by assumption) | exact isHnd.ob (by assumption) | exact isUnt.ob (by assumption) | exact isSt.ob (by assumption) | exact isHist.ob (by assumption) | exact isTxt.ob (by assumption) | exact isLac.ob (by assumption) | exact isMea.ob (by assumption) | exact hset_s | exact (hset_n (by first | assumption | omega)).trans (by first | assumption | exact isLT.ob (by assumption) | exact isMt.ob (by assumption) | exact isRow.ob (by assumption) | exact isHnd.ob (by assumption) | exact isUnt.ob (by assumption) | exact isSt.ob (by assumption) | exact isHist.ob (by assumption) | exact isTxt.ob (by assumption) | exact isLac.ob (by assumption) | exact isMea.ob (by assumption) | exact hset_s | exact (hset_n (by first | assumption | omega)).trans (by first | assumption | exact isLT.ob (by assumption) | exact isMt.ob (by assumption) | exact isRow.ob (by assumption) | exact isHnd.ob (by assumption) | exact isUnt.ob (by assumption) | exact isSt.ob (by assumption) | exact isHist.ob (by assumption) | exact isTxt.ob (by assumption) | exact isLac.ob (by assumption) | exact isMea.ob (by assumption))))) rfl rfl (by decide) (by rfl) rfl (Nat.le_of_ble_eq_true rfl) (Nat.zero_add _) (Nat.zero_add _) (fun v927 h927 n927 q927 => ?_)
  obtain ⟨rfl, rfl⟩ := q927
  refine K_iload dL_law_930 (by rfl) ?_
  refine K_icmp_eq (tgt := 937) dL_law_932 (by decide) (fun c932 => ?_) (fun c932 => ?_)
  · refine K_iload dL_law_937 (by rfl) ?_
    refine K_if_ne (tgt := 954) dL_law_939 (by decide) (fun c939 => ?_) (fun c939 => ?_)
    · refine K_goto (tgt := 1429) dL_law_954 (by decide) ?_
      exact K_less (kc2 := L - i - 1) (kn2 := 6 * (L - i) - 6) (by omega) (by omega) (K_sub (by repeat (first | exact subl_nil | refine subl_cons rfl ?_)) (nxt _ _ (opMeasure (xs (i + 1)) (xs (i + 2)) σ).2.2 _ _ _ ((ok_2 ok _ _).2.2.1) u921 m921 o921))
    · have z939 := nI_R0 c939 d903
      have e939 := e903 z939
      refine K_aload_n dL_law_942 (by rfl) ?_
      refine K_iconst (v := 0) dL_law_943 (by decide) ?_
      refine K_lald dL_law_944 (by first | assumption | exact isLT.ob (by assumption) | exact isMt.ob (by assumption) | exact isRow.ob (by assumption) | exact isHnd.ob (by assumption) | exact isUnt.ob (by assumption) | exact isSt.ob (by assumption) | exact isHist.ob (by assumption) | exact isTxt.ob (by assumption) | exact isLac.ob (by assumption) | exact isMea.ob (by assumption) | exact hset_s | exact (hset_n (by first | assumption | omega)).trans (by first | assumption | exact isLT.ob (by assumption) | exact isMt.ob (by assumption) | exact isRow.ob (by assumption) | exact isHnd.ob (by assumption) | exact isUnt.ob (by assumption) | exact isSt.ob (by assumption) | exact isHist.ob (by assumption) | exact isTxt.ob (by assumption) | exact isLac.ob (by assumption) | exact isMea.ob (by assumption) | exact hset_s | exact (hset_n (by first | assumption | omega)).trans (by first | assumption | exact isLT.ob (by assumption) | exact isMt.ob (by assumption) | exact isRow.ob (by assumption) | exact isHnd.ob (by assumption) | exact isUnt.ob (by assumption) | exact isSt.ob (by assumption) | exact isHist.ob (by assumption) | exact isTxt.ob (by assumption) | exact isLac.ob (by assumption) | exact isMea.ob (by assumption) | exact hset_s | exact (hset_n (by first | assumption | omega)).trans (by first | assumption | exact isLT.ob (by assumption) | exact isMt.ob (by assumption) | exact isRow.ob (by assumption) | exact isHnd.ob (by assumption) | exact isUnt.ob (by assumption) | exact isSt.ob (by assumption) | exact isHist.ob (by assumption) | exact isTxt.ob (by assumption) | exact isLac.ob (by assumption) | exact isMea.ob (by assumption))))) (pk_in 0 1 (by omega)) ?_
      rw [show (0 : Int32).toNatClampNeg = 0 by decide, e939]
      refine K_iload dL_law_945 (by rfl) ?_
      refine K_i2l dL_law_947 ?_
      refine K_lcmp dL_law_948 ?_
      refine K_if_eq (tgt := 954) dL_law_949 (by decide) (fun c949 => ?_) (fun c949 => ?_)
      · refine K_goto (tgt := 1429) dL_law_954 (by decide) ?_
        exact K_less (kc2 := L - i - 1) (kn2 := 6 * (L - i) - 6) (by omega) (by omega) (K_sub (by repeat (first | exact subl_nil | refine subl_cons rfl ?_)) (nxt _ _ (opMeasure (xs (i + 1)) (xs (i + 2)) σ).2.2 _ _ _ ((ok_2 ok _ _).2.2.1) u921 m921 o921))
      · exact absurd ((lg_cmp_eq _ _).mpr rfl) c949
  · exact absurd rfl c932
set_option maxRecDepth 20000 in
theorem law_c18 (hs : G.2.2 b = some (L, xs)) (hL : L ≤ 1536) (hi : i + 3 ≤ L) (ok : okS σ) (u : isLT G h x σ) (md : isMd G h (x + 64) σ t hh) (ho : h (x + 74) = some (.inl (G.2.1 1, 1, .inr (.inl g)))) (nxt : ∀ (h' : HP) (n' : Nat) (σ' : Sg) (t' : Int32) (hh' : Int64) (g' : Nat → Int64), okS σ' → isLT G h' x σ' → isMd G h' (x + 64) σ' t' hh' → h' (x + 74) = some (.inl (G.2.1 1, 1, .inr (.inl g'))) → KJ none G (ML nm) 1400 1429 [(0, .ref b), (1, .ref x), (2, .ref (x + 64)), (3, .ref (x + 74)), (4, .int (nI i))] [] h' n' (L - i - 1) (6 * (L - i) - 6) QL) : KJ none G (ML nm) 1400 39 [(0, .ref b), (1, .ref x), (2, .ref (x + 64)), (3, .ref (x + 74)), (4, .int (nI i))] [.int (nI 18)] h n (L - i) (6 * (L - i)) QL := by
  refine K_tableIn (off := 918) (tgt := 957) dL_law_39 (by decide) (by decide) (by decide) (by decide) ?_
  refine K_aload_n dL_law_957 (by rfl) ?_
  refine K_aload_n dL_law_958 (by rfl) ?_
  refine K_iload dL_law_959 (by rfl) ?_
  refine K_iconst (v := nI 1) dL_law_961 (by decide) ?_
  refine K_iadd dL_law_962 ?_
  rw [nI_add]
  refine K_sldN dL_law_963 (by assumption) (by first | assumption | omega) (by omega) ?_
  refine K_aload_n dL_law_964 (by rfl) ?_
  refine K_iload dL_law_965 (by rfl) ?_
  refine K_iconst (v := nI 2) dL_law_967 (by decide) ?_
  refine K_iadd dL_law_968 ?_
  rw [nI_add]
  refine K_sldN dL_law_969 (by assumption) (by first | assumption | omega) (by omega) ?_
  refine K_aload_n dL_law_970 (by rfl) ?_
  refine K_callW (kc' := L - i - 1) (kn' := 6 * (L - i) - 6) mf_L_halved (tb_4 (List.mem_of_getElem? (i := 29) rfl) rfl) ms_L_halved (sp_L_halved u ok ho (Or.inr (by omega)) (xs (i + 1)) (xs (i + 2)) _) dL_law_971 (by decide) (by rfl) rfl (Nat.le_of_ble_eq_true rfl) (by omega) (by omega) (fun v971 h971 n971 q971 => ?_)
  obtain ⟨rfl, u971, ⟨g971, o971, e971⟩, k971, d971⟩ := q971
  have m971 := isMd_keep md (fun q h1 h2 => k971 q (by omega) (by omega))
  obtain ⟨x1, x2, x3, x4, x5, x6, x7, x8, w971⟩ := id m971
  refine K_istore dL_law_974 (Nat.le_of_ble_eq_true rfl) (by rfl) ?_
  refine K_aload_n dL_law_976 (by rfl) ?_
  refine K_aload_n dL_law_977 (by rfl) ?_
  refine K_iload dL_law_978 (by rfl) ?_
  refine K_iconst (v := nI 1) dL_law_980 (by decide) ?_
  refine K_iadd dL_law_981 ?_
  rw [nI_add]
  refine K_sldN dL_law_982 (by assumption) (by first | assumption | omega) (by omega) ?_
  refine K_aload_n dL_law_983 (by rfl) ?_
  refine K_iload dL_law_984 (by rfl) ?_
  refine K_iconst (v := nI 2) dL_law_986 (by decide) ?_
  refine K_iadd dL_law_987 ?_
  rw [nI_add]
  refine K_sldN dL_law_988 (by assumption) (by first | assumption | omega) (by omega) ?_
  refine K_callV mf_X10_halved lk_L_151 mi_X10_halved mv_X10_halved (sp_X10_halved m971 ok (xs (i + 1)) (xs (i + 2)) _) dL_law_989 (by first | assumption | exact isLT.ob (by assumption) | exact isMt.ob (by assumption) | exact isRow.ob (by assumption) | exact isHnd.ob (by assumption) | exact isUnt.ob (by assumption) | exact isSt.ob (by assumption) | exact isHist.ob (by assumption) | exact isTxt.ob (by assumption) | exact isLac.ob (by assumption) | exact isMea.ob (by assumption) | exact hset_s | exact (hset_n (by first | assumption | omega)).trans (by first | assumption | exact isLT.ob (by assumption) | exact isMt.ob (by assumption) | exact isRow.ob (by assumption) | exact isHnd.ob (by assumption) | exact isUnt.ob (by assumption) | exact isSt.ob (by assumption) | exact isHist.ob (by assumption) | exact isTxt.ob (by assumption) | exact isLac.ob (by assumption) | exact isMea.ob (by assumption) | exact hset_s | exact (hset_n (by first | assumption | omega)).trans (by first | assumption | exact isLT.ob (by assumption) | exact isMt.ob (by assumption) | exact isRow.ob (by assumption) | exact isHnd.ob (by assumption) | exact isUnt.ob (by assumption) | exact isSt.ob (by assumption) | exact isHist.ob (by assumption) | exact isTxt.ob (by assumption) | exact isLac.ob (by assumption) | exact isMea.ob (by assumption) | exact hset_s | exact (hset_n (by first | assumption | omega)).trans (by first | assumption | exact isLT.ob (by assumption) | exact isMt.ob (by assumption) | exact isRow.ob (by assumption) | exact isHnd.ob (by assumption) | exact isUnt.ob (by assumption) | exact isSt.ob (by assumption) | exact isHist.ob (by assumption) | exact isTxt.ob (by assumption) | exact isLac.ob (by assumption) | exact isMea.ob (by assumption))))) rfl rfl (by decide) (by rfl) rfl (Nat.le_of_ble_eq_true rfl) (Nat.zero_add _) (Nat.zero_add _) (fun v989 h989 n989 q989 => ?_)
  obtain ⟨rfl, ⟨hh989, m989⟩, k989⟩ := q989
  obtain ⟨y1, y2, y3, y4, y5, y6, y7, y8, w989⟩ := id m989
  have u989 := isLT_fr u971 k989 (by omega)
  have o989 := (k989 (x + 74) (by omega)).trans o971
  refine K_istore dL_law_992 (Nat.le_of_ble_eq_true rfl) (by rfl) ?_
  refine K_aload_n dL_law_994 (by rfl) ?_
  refine K_callV mf_X10_thrown lk_L_88 mi_X10_thrown mv_X10_thrown (sp_X10_thrown w989.1 _) dL_law_995 (by first | assumption | exact isLT.ob (by assumption) | exact isMt.ob (by assumption) | exact isRow.ob (by assumption) | exact isHnd.ob (by assumption) | exact isUnt.ob (by assumption) | exact isSt.ob (by assumption) | exact isHist.ob (by assumption) | exact isTxt.ob (by assumption) | exact isLac.ob (by assumption) | exact isMea.ob (by assumption) | exact hset_s | exact (hset_n (by first | assumption | omega)).trans (by first | assumption | exact isLT.ob (by assumption) | exact isMt.ob (by assumption) | exact isRow.ob (by assumption) | exact isHnd.ob (by assumption) | exact isUnt.ob (by assumption) | exact isSt.ob (by assumption) | exact isHist.ob (by assumption) | exact isTxt.ob (by assumption) | exact isLac.ob (by assumption) | exact isMea.ob (by assumption) | exact hset_s | exact (hset_n (by first | assumption | omega)).trans (by first | assumption | exact isLT.ob (by assumption) | exact isMt.ob (by assumption) | exact isRow.ob (by assumption) | exact isHnd.ob (by assumption) | exact isUnt.ob (by assumption) | exact isSt.ob (by assumption) | exact isHist.ob (by assumption) | exact isTxt.ob (by assumption) | exact isLac.ob (by assumption) | exact isMea.ob (by assumption) | exact hset_s | exact (hset_n (by first | assumption | omega)).trans (by first | assumption | exact isLT.ob (by assumption) | exact isMt.ob (by assumption) | exact isRow.ob (by assumption) | exact isHnd.ob (by assumption) | exact isUnt.ob (by assumption) | exact isSt.ob (by assumption) | exact isHist.ob (by assumption) | exact isTxt.ob (by assumption) | exact isLac.ob (by assumption) | exact isMea.ob (by assumption))))) rfl rfl (by decide) (by rfl) rfl (Nat.le_of_ble_eq_true rfl) (Nat.zero_add _) (Nat.zero_add _) (fun v995 h995 n995 q995 => ?_)
  obtain ⟨rfl, rfl⟩ := q995
  refine K_iload dL_law_998 (by rfl) ?_
  refine K_icmp_eq (tgt := 1005) dL_law_1000 (by decide) (fun c1000 => ?_) (fun c1000 => ?_)
  · refine K_iload dL_law_1005 (by rfl) ?_
    refine K_if_ne (tgt := 1022) dL_law_1007 (by decide) (fun c1007 => ?_) (fun c1007 => ?_)
    · refine K_goto (tgt := 1429) dL_law_1022 (by decide) ?_
      exact K_less (kc2 := L - i - 1) (kn2 := 6 * (L - i) - 6) (by omega) (by omega) (K_sub (by repeat (first | exact subl_nil | refine subl_cons rfl ?_)) (nxt _ _ (opMeasure (xs (i + 1)) (xs (i + 2)) σ).2.2 _ _ _ ((ok_2 ok _ _).2.2.1) u989 m989 o989))
    · have z1007 := nI_R0 c1007 d971
      have e1007 := e971 z1007
      refine K_aload_n dL_law_1010 (by rfl) ?_
      refine K_iconst (v := 0) dL_law_1011 (by decide) ?_
      refine K_lald dL_law_1012 (by first | assumption | exact isLT.ob (by assumption) | exact isMt.ob (by assumption) | exact isRow.ob (by assumption) | exact isHnd.ob (by assumption) | exact isUnt.ob (by assumption) | exact isSt.ob (by assumption) | exact isHist.ob (by assumption) | exact isTxt.ob (by assumption) | exact isLac.ob (by assumption) | exact isMea.ob (by assumption) | exact hset_s | exact (hset_n (by first | assumption | omega)).trans (by first | assumption | exact isLT.ob (by assumption) | exact isMt.ob (by assumption) | exact isRow.ob (by assumption) | exact isHnd.ob (by assumption) | exact isUnt.ob (by assumption) | exact isSt.ob (by assumption) | exact isHist.ob (by assumption) | exact isTxt.ob (by assumption) | exact isLac.ob (by assumption) | exact isMea.ob (by assumption) | exact hset_s | exact (hset_n (by first | assumption | omega)).trans (by first | assumption | exact isLT.ob (by assumption) | exact isMt.ob (by assumption) | exact isRow.ob (by assumption) | exact isHnd.ob (by assumption) | exact isUnt.ob (by assumption) | exact isSt.ob (by assumption) | exact isHist.ob (by assumption) | exact isTxt.ob (by assumption) | exact isLac.ob (by assumption) | exact isMea.ob (by assumption) | exact hset_s | exact (hset_n (by first | assumption | omega)).trans (by first | assumption | exact isLT.ob (by assumption) | exact isMt.ob (by assumption) | exact isRow.ob (by assumption) | exact isHnd.ob (by assumption) | exact isUnt.ob (by assumption) | exact isSt.ob (by assumption) | exact isHist.ob (by assumption) | exact isTxt.ob (by assumption) | exact isLac.ob (by assumption) | exact isMea.ob (by assumption))))) (pk_in 0 1 (by omega)) ?_
      rw [show (0 : Int32).toNatClampNeg = 0 by decide, e1007]
      refine K_iload dL_law_1013 (by rfl) ?_
      refine K_i2l dL_law_1015 ?_
      refine K_lcmp dL_law_1016 ?_
      refine K_if_eq (tgt := 1022) dL_law_1017 (by decide) (fun c1017 => ?_) (fun c1017 => ?_)
      · refine K_goto (tgt := 1429) dL_law_1022 (by decide) ?_
        exact K_less (kc2 := L - i - 1) (kn2 := 6 * (L - i) - 6) (by omega) (by omega) (K_sub (by repeat (first | exact subl_nil | refine subl_cons rfl ?_)) (nxt _ _ (opMeasure (xs (i + 1)) (xs (i + 2)) σ).2.2 _ _ _ ((ok_2 ok _ _).2.2.1) u989 m989 o989))
      · exact absurd ((lg_cmp_eq _ _).mpr rfl) c1017
  · exact absurd rfl c1000
set_option maxRecDepth 20000 in
theorem law_c19 (hs : G.2.2 b = some (L, xs)) (hL : L ≤ 1536) (hi : i + 3 ≤ L) (ok : okS σ) (u : isLT G h x σ) (md : isMd G h (x + 64) σ t hh) (ho : h (x + 74) = some (.inl (G.2.1 1, 1, .inr (.inl g)))) (nxt : ∀ (h' : HP) (n' : Nat) (σ' : Sg) (t' : Int32) (hh' : Int64) (g' : Nat → Int64), okS σ' → isLT G h' x σ' → isMd G h' (x + 64) σ' t' hh' → h' (x + 74) = some (.inl (G.2.1 1, 1, .inr (.inl g'))) → KJ none G (ML nm) 1400 1429 [(0, .ref b), (1, .ref x), (2, .ref (x + 64)), (3, .ref (x + 74)), (4, .int (nI i))] [] h' n' (L - i - 1) (6 * (L - i) - 6) QL) : KJ none G (ML nm) 1400 39 [(0, .ref b), (1, .ref x), (2, .ref (x + 64)), (3, .ref (x + 74)), (4, .int (nI i))] [.int (nI 19)] h n (L - i) (6 * (L - i)) QL := by
  refine K_tableIn (off := 986) (tgt := 1025) dL_law_39 (by decide) (by decide) (by decide) (by decide) ?_
  refine K_aload_n dL_law_1025 (by rfl) ?_
  refine K_aload_n dL_law_1026 (by rfl) ?_
  refine K_iload dL_law_1027 (by rfl) ?_
  refine K_iconst (v := nI 1) dL_law_1029 (by decide) ?_
  refine K_iadd dL_law_1030 ?_
  rw [nI_add]
  refine K_sldN dL_law_1031 (by assumption) (by first | assumption | omega) (by omega) ?_
  refine K_aload_n dL_law_1032 (by rfl) ?_
  refine K_callW (kc' := L - i - 1) (kn' := 6 * (L - i) - 6) mf_L_count (tb_4 (List.mem_of_getElem? (i := 36) rfl) rfl) ms_L_count (sp_L_count u ok ho (Or.inr (by omega)) (xs (i + 1)) _) dL_law_1033 (by decide) (by rfl) rfl (Nat.le_of_ble_eq_true rfl) (by omega) (by omega) (fun v1033 h1033 n1033 q1033 => ?_)
  obtain ⟨rfl, u1033, ⟨g1033, o1033, e1033⟩, k1033, d1033⟩ := q1033
  have m1033 := isMd_keep md (fun q h1 h2 => k1033 q (by omega) (by omega))
  obtain ⟨x1, x2, x3, x4, x5, x6, x7, x8, w1033⟩ := id m1033
  refine K_istore dL_law_1036 (Nat.le_of_ble_eq_true rfl) (by rfl) ?_
  refine K_aload_n dL_law_1038 (by rfl) ?_
  refine K_aload_n dL_law_1039 (by rfl) ?_
  refine K_iload dL_law_1040 (by rfl) ?_
  refine K_iconst (v := nI 1) dL_law_1042 (by decide) ?_
  refine K_iadd dL_law_1043 ?_
  rw [nI_add]
  refine K_sldN dL_law_1044 (by assumption) (by first | assumption | omega) (by omega) ?_
  refine K_callV mf_X10_count lk_L_154 mi_X10_count mv_X10_count (sp_X10_count m1033 ok (xs (i + 1)) _) dL_law_1045 (by first | assumption | exact isLT.ob (by assumption) | exact isMt.ob (by assumption) | exact isRow.ob (by assumption) | exact isHnd.ob (by assumption) | exact isUnt.ob (by assumption) | exact isSt.ob (by assumption) | exact isHist.ob (by assumption) | exact isTxt.ob (by assumption) | exact isLac.ob (by assumption) | exact isMea.ob (by assumption) | exact hset_s | exact (hset_n (by first | assumption | omega)).trans (by first | assumption | exact isLT.ob (by assumption) | exact isMt.ob (by assumption) | exact isRow.ob (by assumption) | exact isHnd.ob (by assumption) | exact isUnt.ob (by assumption) | exact isSt.ob (by assumption) | exact isHist.ob (by assumption) | exact isTxt.ob (by assumption) | exact isLac.ob (by assumption) | exact isMea.ob (by assumption) | exact hset_s | exact (hset_n (by first | assumption | omega)).trans (by first | assumption | exact isLT.ob (by assumption) | exact isMt.ob (by assumption) | exact isRow.ob (by assumption) | exact isHnd.ob (by assumption) | exact isUnt.ob (by assumption) | exact isSt.ob (by assumption) | exact isHist.ob (by assumption) | exact isTxt.ob (by assumption) | exact isLac.ob (by assumption) | exact isMea.ob (by assumption) | exact hset_s | exact (hset_n (by first | assumption | omega)).trans (by first | assumption | exact isLT.ob (by assumption) | exact isMt.ob (by assumption) | exact isRow.ob (by assumption) | exact isHnd.ob (by assumption) | exact isUnt.ob (by assumption) | exact isSt.ob (by assumption) | exact isHist.ob (by assumption) | exact isTxt.ob (by assumption) | exact isLac.ob (by assumption) | exact isMea.ob (by assumption))))) rfl rfl (by decide) (by rfl) rfl (Nat.le_of_ble_eq_true rfl) (Nat.zero_add _) (Nat.zero_add _) (fun v1045 h1045 n1045 q1045 => ?_)
  obtain ⟨rfl, ⟨hh1045, m1045⟩, k1045⟩ := q1045
  obtain ⟨y1, y2, y3, y4, y5, y6, y7, y8, w1045⟩ := id m1045
  have u1045 := isLT_fr u1033 k1045 (by omega)
  have o1045 := (k1045 (x + 74) (by omega)).trans o1033
  refine K_istore dL_law_1048 (Nat.le_of_ble_eq_true rfl) (by rfl) ?_
  refine K_aload_n dL_law_1050 (by rfl) ?_
  refine K_callV mf_X10_thrown lk_L_88 mi_X10_thrown mv_X10_thrown (sp_X10_thrown w1045.1 _) dL_law_1051 (by first | assumption | exact isLT.ob (by assumption) | exact isMt.ob (by assumption) | exact isRow.ob (by assumption) | exact isHnd.ob (by assumption) | exact isUnt.ob (by assumption) | exact isSt.ob (by assumption) | exact isHist.ob (by assumption) | exact isTxt.ob (by assumption) | exact isLac.ob (by assumption) | exact isMea.ob (by assumption) | exact hset_s | exact (hset_n (by first | assumption | omega)).trans (by first | assumption | exact isLT.ob (by assumption) | exact isMt.ob (by assumption) | exact isRow.ob (by assumption) | exact isHnd.ob (by assumption) | exact isUnt.ob (by assumption) | exact isSt.ob (by assumption) | exact isHist.ob (by assumption) | exact isTxt.ob (by assumption) | exact isLac.ob (by assumption) | exact isMea.ob (by assumption) | exact hset_s | exact (hset_n (by first | assumption | omega)).trans (by first | assumption | exact isLT.ob (by assumption) | exact isMt.ob (by assumption) | exact isRow.ob (by assumption) | exact isHnd.ob (by assumption) | exact isUnt.ob (by assumption) | exact isSt.ob (by assumption) | exact isHist.ob (by assumption) | exact isTxt.ob (by assumption) | exact isLac.ob (by assumption) | exact isMea.ob (by assumption) | exact hset_s | exact (hset_n (by first | assumption | omega)).trans (by first | assumption | exact isLT.ob (by assumption) | exact isMt.ob (by assumption) | exact isRow.ob (by assumption) | exact isHnd.ob (by assumption) | exact isUnt.ob (by assumption) | exact isSt.ob (by assumption) | exact isHist.ob (by assumption) | exact isTxt.ob (by assumption) | exact isLac.ob (by assumption) | exact isMea.ob (by assumption))))) rfl rfl (by decide) (by rfl) rfl (Nat.le_of_ble_eq_true rfl) (Nat.zero_add _) (Nat.zero_add _) (fun v1051 h1051 n1051 q1051 => ?_)
  obtain ⟨rfl, rfl⟩ := q1051
  refine K_iload dL_law_1054 (by rfl) ?_
  refine K_icmp_eq (tgt := 1061) dL_law_1056 (by decide) (fun c1056 => ?_) (fun c1056 => ?_)
  · refine K_iload dL_law_1061 (by rfl) ?_
    refine K_if_ne (tgt := 1078) dL_law_1063 (by decide) (fun c1063 => ?_) (fun c1063 => ?_)
    · refine K_goto (tgt := 1429) dL_law_1078 (by decide) ?_
      exact K_less (kc2 := L - i - 1) (kn2 := 6 * (L - i) - 6) (by omega) (by omega) (K_sub (by repeat (first | exact subl_nil | refine subl_cons rfl ?_)) (nxt _ _ (opCount (xs (i + 1)) σ).2.2 _ _ _ ((ok_1 ok _).2.1) u1045 m1045 o1045))
    · have z1063 := nI_R0 c1063 d1033
      have e1063 := e1033 z1063
      refine K_aload_n dL_law_1066 (by rfl) ?_
      refine K_iconst (v := 0) dL_law_1067 (by decide) ?_
      refine K_lald dL_law_1068 (by first | assumption | exact isLT.ob (by assumption) | exact isMt.ob (by assumption) | exact isRow.ob (by assumption) | exact isHnd.ob (by assumption) | exact isUnt.ob (by assumption) | exact isSt.ob (by assumption) | exact isHist.ob (by assumption) | exact isTxt.ob (by assumption) | exact isLac.ob (by assumption) | exact isMea.ob (by assumption) | exact hset_s | exact (hset_n (by first | assumption | omega)).trans (by first | assumption | exact isLT.ob (by assumption) | exact isMt.ob (by assumption) | exact isRow.ob (by assumption) | exact isHnd.ob (by assumption) | exact isUnt.ob (by assumption) | exact isSt.ob (by assumption) | exact isHist.ob (by assumption) | exact isTxt.ob (by assumption) | exact isLac.ob (by assumption) | exact isMea.ob (by assumption) | exact hset_s | exact (hset_n (by first | assumption | omega)).trans (by first | assumption | exact isLT.ob (by assumption) | exact isMt.ob (by assumption) | exact isRow.ob (by assumption) | exact isHnd.ob (by assumption) | exact isUnt.ob (by assumption) | exact isSt.ob (by assumption) | exact isHist.ob (by assumption) | exact isTxt.ob (by assumption) | exact isLac.ob (by assumption) | exact isMea.ob (by assumption) | exact hset_s | exact (hset_n (by first | assumption | omega)).trans (by first | assumption | exact isLT.ob (by assumption) | exact isMt.ob (by assumption) | exact isRow.ob (by assumption) | exact isHnd.ob (by assumption) | exact isUnt.ob (by assumption) | exact isSt.ob (by assumption) | exact isHist.ob (by assumption) | exact isTxt.ob (by assumption) | exact isLac.ob (by assumption) | exact isMea.ob (by assumption))))) (pk_in 0 1 (by omega)) ?_
      rw [show (0 : Int32).toNatClampNeg = 0 by decide, e1063]
      refine K_iload dL_law_1069 (by rfl) ?_
      refine K_i2l dL_law_1071 ?_
      refine K_lcmp dL_law_1072 ?_
      refine K_if_eq (tgt := 1078) dL_law_1073 (by decide) (fun c1073 => ?_) (fun c1073 => ?_)
      · refine K_goto (tgt := 1429) dL_law_1078 (by decide) ?_
        exact K_less (kc2 := L - i - 1) (kn2 := 6 * (L - i) - 6) (by omega) (by omega) (K_sub (by repeat (first | exact subl_nil | refine subl_cons rfl ?_)) (nxt _ _ (opCount (xs (i + 1)) σ).2.2 _ _ _ ((ok_1 ok _).2.1) u1045 m1045 o1045))
      · exact absurd ((lg_cmp_eq _ _).mpr rfl) c1073
  · exact absurd rfl c1056
set_option maxRecDepth 20000 in
theorem law_c20 (hs : G.2.2 b = some (L, xs)) (hL : L ≤ 1536) (hi : i + 3 ≤ L) (ok : okS σ) (u : isLT G h x σ) (md : isMd G h (x + 64) σ t hh) (ho : h (x + 74) = some (.inl (G.2.1 1, 1, .inr (.inl g)))) (nxt : ∀ (h' : HP) (n' : Nat) (σ' : Sg) (t' : Int32) (hh' : Int64) (g' : Nat → Int64), okS σ' → isLT G h' x σ' → isMd G h' (x + 64) σ' t' hh' → h' (x + 74) = some (.inl (G.2.1 1, 1, .inr (.inl g'))) → KJ none G (ML nm) 1400 1429 [(0, .ref b), (1, .ref x), (2, .ref (x + 64)), (3, .ref (x + 74)), (4, .int (nI i))] [] h' n' (L - i - 1) (6 * (L - i) - 6) QL) : KJ none G (ML nm) 1400 39 [(0, .ref b), (1, .ref x), (2, .ref (x + 64)), (3, .ref (x + 74)), (4, .int (nI i))] [.int (nI 20)] h n (L - i) (6 * (L - i)) QL := by
  refine K_tableIn (off := 1042) (tgt := 1081) dL_law_39 (by decide) (by decide) (by decide) (by decide) ?_
  refine K_aload_n dL_law_1081 (by rfl) ?_
  refine K_aload_n dL_law_1082 (by rfl) ?_
  refine K_iload dL_law_1083 (by rfl) ?_
  refine K_iconst (v := nI 1) dL_law_1085 (by decide) ?_
  refine K_iadd dL_law_1086 ?_
  rw [nI_add]
  refine K_sldN dL_law_1087 (by assumption) (by first | assumption | omega) (by omega) ?_
  refine K_aload_n dL_law_1088 (by rfl) ?_
  refine K_iload dL_law_1089 (by rfl) ?_
  refine K_iconst (v := nI 2) dL_law_1091 (by decide) ?_
  refine K_iadd dL_law_1092 ?_
  rw [nI_add]
  refine K_sldN dL_law_1093 (by assumption) (by first | assumption | omega) (by omega) ?_
  refine K_aload_n dL_law_1094 (by rfl) ?_
  refine K_callW (kc' := L - i - 1) (kn' := 6 * (L - i) - 6) mf_L_whyNot (tb_4 (List.mem_of_getElem? (i := 44) rfl) rfl) ms_L_whyNot (sp_L_whyNot u ok ho (Or.inr (by omega)) (xs (i + 1)) (xs (i + 2)) _) dL_law_1095 (by decide) (by rfl) rfl (Nat.le_of_ble_eq_true rfl) (by omega) (by omega) (fun v1095 h1095 n1095 q1095 => ?_)
  obtain ⟨rfl, u1095, ⟨g1095, o1095, e1095⟩, k1095, d1095⟩ := q1095
  have m1095 := isMd_keep md (fun q h1 h2 => k1095 q (by omega) (by omega))
  obtain ⟨x1, x2, x3, x4, x5, x6, x7, x8, w1095⟩ := id m1095
  refine K_istore dL_law_1098 (Nat.le_of_ble_eq_true rfl) (by rfl) ?_
  refine K_aload_n dL_law_1100 (by rfl) ?_
  refine K_aload_n dL_law_1101 (by rfl) ?_
  refine K_iload dL_law_1102 (by rfl) ?_
  refine K_iconst (v := nI 1) dL_law_1104 (by decide) ?_
  refine K_iadd dL_law_1105 ?_
  rw [nI_add]
  refine K_sldN dL_law_1106 (by assumption) (by first | assumption | omega) (by omega) ?_
  refine K_aload_n dL_law_1107 (by rfl) ?_
  refine K_iload dL_law_1108 (by rfl) ?_
  refine K_iconst (v := nI 2) dL_law_1110 (by decide) ?_
  refine K_iadd dL_law_1111 ?_
  rw [nI_add]
  refine K_sldN dL_law_1112 (by assumption) (by first | assumption | omega) (by omega) ?_
  refine K_callV mf_X10_whyNot lk_L_157 mi_X10_whyNot mv_X10_whyNot (sp_X10_whyNot m1095 ok (xs (i + 1)) (xs (i + 2)) _) dL_law_1113 (by first | assumption | exact isLT.ob (by assumption) | exact isMt.ob (by assumption) | exact isRow.ob (by assumption) | exact isHnd.ob (by assumption) | exact isUnt.ob (by assumption) | exact isSt.ob (by assumption) | exact isHist.ob (by assumption) | exact isTxt.ob (by assumption) | exact isLac.ob (by assumption) | exact isMea.ob (by assumption) | exact hset_s | exact (hset_n (by first | assumption | omega)).trans (by first | assumption | exact isLT.ob (by assumption) | exact isMt.ob (by assumption) | exact isRow.ob (by assumption) | exact isHnd.ob (by assumption) | exact isUnt.ob (by assumption) | exact isSt.ob (by assumption) | exact isHist.ob (by assumption) | exact isTxt.ob (by assumption) | exact isLac.ob (by assumption) | exact isMea.ob (by assumption) | exact hset_s | exact (hset_n (by first | assumption | omega)).trans (by first | assumption | exact isLT.ob (by assumption) | exact isMt.ob (by assumption) | exact isRow.ob (by assumption) | exact isHnd.ob (by assumption) | exact isUnt.ob (by assumption) | exact isSt.ob (by assumption) | exact isHist.ob (by assumption) | exact isTxt.ob (by assumption) | exact isLac.ob (by assumption) | exact isMea.ob (by assumption) | exact hset_s | exact (hset_n (by first | assumption | omega)).trans (by first | assumption | exact isLT.ob (by assumption) | exact isMt.ob (by assumption) | exact isRow.ob (by assumption) | exact isHnd.ob (by assumption) | exact isUnt.ob (by assumption) | exact isSt.ob (by assumption) | exact isHist.ob (by assumption) | exact isTxt.ob (by assumption) | exact isLac.ob (by assumption) | exact isMea.ob (by assumption))))) rfl rfl (by decide) (by rfl) rfl (Nat.le_of_ble_eq_true rfl) (Nat.zero_add _) (Nat.zero_add _) (fun v1113 h1113 n1113 q1113 => ?_)
  obtain ⟨rfl, ⟨hh1113, m1113⟩, k1113⟩ := q1113
  obtain ⟨y1, y2, y3, y4, y5, y6, y7, y8, w1113⟩ := id m1113
  have u1113 := isLT_fr u1095 k1113 (by omega)
  have o1113 := (k1113 (x + 74) (by omega)).trans o1095
  refine K_istore dL_law_1116 (Nat.le_of_ble_eq_true rfl) (by rfl) ?_
  refine K_aload_n dL_law_1118 (by rfl) ?_
  refine K_callV mf_X10_thrown lk_L_88 mi_X10_thrown mv_X10_thrown (sp_X10_thrown w1113.1 _) dL_law_1119 (by first | assumption | exact isLT.ob (by assumption) | exact isMt.ob (by assumption) | exact isRow.ob (by assumption) | exact isHnd.ob (by assumption) | exact isUnt.ob (by assumption) | exact isSt.ob (by assumption) | exact isHist.ob (by assumption) | exact isTxt.ob (by assumption) | exact isLac.ob (by assumption) | exact isMea.ob (by assumption) | exact hset_s | exact (hset_n (by first | assumption | omega)).trans (by first | assumption | exact isLT.ob (by assumption) | exact isMt.ob (by assumption) | exact isRow.ob (by assumption) | exact isHnd.ob (by assumption) | exact isUnt.ob (by assumption) | exact isSt.ob (by assumption) | exact isHist.ob (by assumption) | exact isTxt.ob (by assumption) | exact isLac.ob (by assumption) | exact isMea.ob (by assumption) | exact hset_s | exact (hset_n (by first | assumption | omega)).trans (by first | assumption | exact isLT.ob (by assumption) | exact isMt.ob (by assumption) | exact isRow.ob (by assumption) | exact isHnd.ob (by assumption) | exact isUnt.ob (by assumption) | exact isSt.ob (by assumption) | exact isHist.ob (by assumption) | exact isTxt.ob (by assumption) | exact isLac.ob (by assumption) | exact isMea.ob (by assumption) | exact hset_s | exact (hset_n (by first | assumption | omega)).trans (by first | assumption | exact isLT.ob (by assumption) | exact isMt.ob (by assumption) | exact isRow.ob (by assumption) | exact isHnd.ob (by assumption) | exact isUnt.ob (by assumption) | exact isSt.ob (by assumption) | exact isHist.ob (by assumption) | exact isTxt.ob (by assumption) | exact isLac.ob (by assumption) | exact isMea.ob (by assumption))))) rfl rfl (by decide) (by rfl) rfl (Nat.le_of_ble_eq_true rfl) (Nat.zero_add _) (Nat.zero_add _) (fun v1119 h1119 n1119 q1119 => ?_)
  obtain ⟨rfl, rfl⟩ := q1119
  refine K_iload dL_law_1122 (by rfl) ?_
  refine K_icmp_eq (tgt := 1129) dL_law_1124 (by decide) (fun c1124 => ?_) (fun c1124 => ?_)
  · refine K_iload dL_law_1129 (by rfl) ?_
    refine K_if_ne (tgt := 1146) dL_law_1131 (by decide) (fun c1131 => ?_) (fun c1131 => ?_)
    · refine K_goto (tgt := 1429) dL_law_1146 (by decide) ?_
      exact K_less (kc2 := L - i - 1) (kn2 := 6 * (L - i) - 6) (by omega) (by omega) (K_sub (by repeat (first | exact subl_nil | refine subl_cons rfl ?_)) (nxt _ _ (opWhy (xs (i + 1)) (xs (i + 2)) σ).2.2 _ _ _ ((ok_2 ok _ _).2.2.2) u1113 m1113 o1113))
    · have z1131 := nI_R0 c1131 d1095
      have e1131 := e1095 z1131
      refine K_aload_n dL_law_1134 (by rfl) ?_
      refine K_iconst (v := 0) dL_law_1135 (by decide) ?_
      refine K_lald dL_law_1136 (by first | assumption | exact isLT.ob (by assumption) | exact isMt.ob (by assumption) | exact isRow.ob (by assumption) | exact isHnd.ob (by assumption) | exact isUnt.ob (by assumption) | exact isSt.ob (by assumption) | exact isHist.ob (by assumption) | exact isTxt.ob (by assumption) | exact isLac.ob (by assumption) | exact isMea.ob (by assumption) | exact hset_s | exact (hset_n (by first | assumption | omega)).trans (by first | assumption | exact isLT.ob (by assumption) | exact isMt.ob (by assumption) | exact isRow.ob (by assumption) | exact isHnd.ob (by assumption) | exact isUnt.ob (by assumption) | exact isSt.ob (by assumption) | exact isHist.ob (by assumption) | exact isTxt.ob (by assumption) | exact isLac.ob (by assumption) | exact isMea.ob (by assumption) | exact hset_s | exact (hset_n (by first | assumption | omega)).trans (by first | assumption | exact isLT.ob (by assumption) | exact isMt.ob (by assumption) | exact isRow.ob (by assumption) | exact isHnd.ob (by assumption) | exact isUnt.ob (by assumption) | exact isSt.ob (by assumption) | exact isHist.ob (by assumption) | exact isTxt.ob (by assumption) | exact isLac.ob (by assumption) | exact isMea.ob (by assumption) | exact hset_s | exact (hset_n (by first | assumption | omega)).trans (by first | assumption | exact isLT.ob (by assumption) | exact isMt.ob (by assumption) | exact isRow.ob (by assumption) | exact isHnd.ob (by assumption) | exact isUnt.ob (by assumption) | exact isSt.ob (by assumption) | exact isHist.ob (by assumption) | exact isTxt.ob (by assumption) | exact isLac.ob (by assumption) | exact isMea.ob (by assumption))))) (pk_in 0 1 (by omega)) ?_
      rw [show (0 : Int32).toNatClampNeg = 0 by decide, e1131]
      refine K_iload dL_law_1137 (by rfl) ?_
      refine K_i2l dL_law_1139 ?_
      refine K_lcmp dL_law_1140 ?_
      refine K_if_eq (tgt := 1146) dL_law_1141 (by decide) (fun c1141 => ?_) (fun c1141 => ?_)
      · refine K_goto (tgt := 1429) dL_law_1146 (by decide) ?_
        exact K_less (kc2 := L - i - 1) (kn2 := 6 * (L - i) - 6) (by omega) (by omega) (K_sub (by repeat (first | exact subl_nil | refine subl_cons rfl ?_)) (nxt _ _ (opWhy (xs (i + 1)) (xs (i + 2)) σ).2.2 _ _ _ ((ok_2 ok _ _).2.2.2) u1113 m1113 o1113))
      · exact absurd ((lg_cmp_eq _ _).mpr rfl) c1141
  · exact absurd rfl c1124
set_option maxRecDepth 20000 in
theorem law_c21 (hs : G.2.2 b = some (L, xs)) (hL : L ≤ 1536) (hi : i + 3 ≤ L) (ok : okS σ) (u : isLT G h x σ) (md : isMd G h (x + 64) σ t hh) (ho : h (x + 74) = some (.inl (G.2.1 1, 1, .inr (.inl g)))) (nxt : ∀ (h' : HP) (n' : Nat) (σ' : Sg) (t' : Int32) (hh' : Int64) (g' : Nat → Int64), okS σ' → isLT G h' x σ' → isMd G h' (x + 64) σ' t' hh' → h' (x + 74) = some (.inl (G.2.1 1, 1, .inr (.inl g'))) → KJ none G (ML nm) 1400 1429 [(0, .ref b), (1, .ref x), (2, .ref (x + 64)), (3, .ref (x + 74)), (4, .int (nI i))] [] h' n' (L - i - 1) (6 * (L - i) - 6) QL) : KJ none G (ML nm) 1400 39 [(0, .ref b), (1, .ref x), (2, .ref (x + 64)), (3, .ref (x + 74)), (4, .int (nI i))] [.int (nI 21)] h n (L - i) (6 * (L - i)) QL := by
  refine K_tableIn (off := 1110) (tgt := 1149) dL_law_39 (by decide) (by decide) (by decide) (by decide) ?_
  refine K_aload_n dL_law_1149 (by rfl) ?_
  refine K_aload_n dL_law_1150 (by rfl) ?_
  refine K_iload dL_law_1151 (by rfl) ?_
  refine K_iconst (v := nI 1) dL_law_1153 (by decide) ?_
  refine K_iadd dL_law_1154 ?_
  rw [nI_add]
  refine K_sldN dL_law_1155 (by assumption) (by first | assumption | omega) (by omega) ?_
  refine K_aload_n dL_law_1156 (by rfl) ?_
  refine K_callW (kc' := L - i - 1) (kn' := 6 * (L - i) - 6) mf_L_untangled (tb_4 (List.mem_of_getElem? (i := 51) rfl) rfl) ms_L_untangled (sp_L_untangled u ok ho (Or.inr (by omega)) (xs (i + 1)) _) dL_law_1157 (by decide) (by rfl) rfl (Nat.le_of_ble_eq_true rfl) (by omega) (by omega) (fun v1157 h1157 n1157 q1157 => ?_)
  obtain ⟨rfl, u1157, ⟨g1157, o1157, e1157⟩, k1157, d1157⟩ := q1157
  have m1157 := isMd_keep md (fun q h1 h2 => k1157 q (by omega) (by omega))
  obtain ⟨x1, x2, x3, x4, x5, x6, x7, x8, w1157⟩ := id m1157
  refine K_istore dL_law_1160 (Nat.le_of_ble_eq_true rfl) (by rfl) ?_
  refine K_aload_n dL_law_1162 (by rfl) ?_
  refine K_aload_n dL_law_1163 (by rfl) ?_
  refine K_iload dL_law_1164 (by rfl) ?_
  refine K_iconst (v := nI 1) dL_law_1166 (by decide) ?_
  refine K_iadd dL_law_1167 ?_
  rw [nI_add]
  refine K_sldN dL_law_1168 (by assumption) (by first | assumption | omega) (by omega) ?_
  refine K_callV mf_X10_untangled lk_L_160 mi_X10_untangled mv_X10_untangled (sp_X10_untangled m1157 ok (xs (i + 1)) _) dL_law_1169 (by first | assumption | exact isLT.ob (by assumption) | exact isMt.ob (by assumption) | exact isRow.ob (by assumption) | exact isHnd.ob (by assumption) | exact isUnt.ob (by assumption) | exact isSt.ob (by assumption) | exact isHist.ob (by assumption) | exact isTxt.ob (by assumption) | exact isLac.ob (by assumption) | exact isMea.ob (by assumption) | exact hset_s | exact (hset_n (by first | assumption | omega)).trans (by first | assumption | exact isLT.ob (by assumption) | exact isMt.ob (by assumption) | exact isRow.ob (by assumption) | exact isHnd.ob (by assumption) | exact isUnt.ob (by assumption) | exact isSt.ob (by assumption) | exact isHist.ob (by assumption) | exact isTxt.ob (by assumption) | exact isLac.ob (by assumption) | exact isMea.ob (by assumption) | exact hset_s | exact (hset_n (by first | assumption | omega)).trans (by first | assumption | exact isLT.ob (by assumption) | exact isMt.ob (by assumption) | exact isRow.ob (by assumption) | exact isHnd.ob (by assumption) | exact isUnt.ob (by assumption) | exact isSt.ob (by assumption) | exact isHist.ob (by assumption) | exact isTxt.ob (by assumption) | exact isLac.ob (by assumption) | exact isMea.ob (by assumption) | exact hset_s | exact (hset_n (by first | assumption | omega)).trans (by first | assumption | exact isLT.ob (by assumption) | exact isMt.ob (by assumption) | exact isRow.ob (by assumption) | exact isHnd.ob (by assumption) | exact isUnt.ob (by assumption) | exact isSt.ob (by assumption) | exact isHist.ob (by assumption) | exact isTxt.ob (by assumption) | exact isLac.ob (by assumption) | exact isMea.ob (by assumption))))) rfl rfl (by decide) (by rfl) rfl (Nat.le_of_ble_eq_true rfl) (Nat.zero_add _) (Nat.zero_add _) (fun v1169 h1169 n1169 q1169 => ?_)
  obtain ⟨rfl, ⟨hh1169, m1169⟩, k1169⟩ := q1169
  obtain ⟨y1, y2, y3, y4, y5, y6, y7, y8, w1169⟩ := id m1169
  have u1169 := isLT_fr u1157 k1169 (by omega)
  have o1169 := (k1169 (x + 74) (by omega)).trans o1157
  refine K_istore dL_law_1172 (Nat.le_of_ble_eq_true rfl) (by rfl) ?_
  refine K_aload_n dL_law_1174 (by rfl) ?_
  refine K_callV mf_X10_thrown lk_L_88 mi_X10_thrown mv_X10_thrown (sp_X10_thrown w1169.1 _) dL_law_1175 (by first | assumption | exact isLT.ob (by assumption) | exact isMt.ob (by assumption) | exact isRow.ob (by assumption) | exact isHnd.ob (by assumption) | exact isUnt.ob (by assumption) | exact isSt.ob (by assumption) | exact isHist.ob (by assumption) | exact isTxt.ob (by assumption) | exact isLac.ob (by assumption) | exact isMea.ob (by assumption) | exact hset_s | exact (hset_n (by first | assumption | omega)).trans (by first | assumption | exact isLT.ob (by assumption) | exact isMt.ob (by assumption) | exact isRow.ob (by assumption) | exact isHnd.ob (by assumption) | exact isUnt.ob (by assumption) | exact isSt.ob (by assumption) | exact isHist.ob (by assumption) | exact isTxt.ob (by assumption) | exact isLac.ob (by assumption) | exact isMea.ob (by assumption) | exact hset_s | exact (hset_n (by first | assumption | omega)).trans (by first | assumption | exact isLT.ob (by assumption) | exact isMt.ob (by assumption) | exact isRow.ob (by assumption) | exact isHnd.ob (by assumption) | exact isUnt.ob (by assumption) | exact isSt.ob (by assumption) | exact isHist.ob (by assumption) | exact isTxt.ob (by assumption) | exact isLac.ob (by assumption) | exact isMea.ob (by assumption) | exact hset_s | exact (hset_n (by first | assumption | omega)).trans (by first | assumption | exact isLT.ob (by assumption) | exact isMt.ob (by assumption) | exact isRow.ob (by assumption) | exact isHnd.ob (by assumption) | exact isUnt.ob (by assumption) | exact isSt.ob (by assumption) | exact isHist.ob (by assumption) | exact isTxt.ob (by assumption) | exact isLac.ob (by assumption) | exact isMea.ob (by assumption))))) rfl rfl (by decide) (by rfl) rfl (Nat.le_of_ble_eq_true rfl) (Nat.zero_add _) (Nat.zero_add _) (fun v1175 h1175 n1175 q1175 => ?_)
  obtain ⟨rfl, rfl⟩ := q1175
  refine K_iload dL_law_1178 (by rfl) ?_
  refine K_icmp_eq (tgt := 1185) dL_law_1180 (by decide) (fun c1180 => ?_) (fun c1180 => ?_)
  · refine K_iload dL_law_1185 (by rfl) ?_
    refine K_if_ne (tgt := 1202) dL_law_1187 (by decide) (fun c1187 => ?_) (fun c1187 => ?_)
    · refine K_goto (tgt := 1429) dL_law_1202 (by decide) ?_
      exact K_less (kc2 := L - i - 1) (kn2 := 6 * (L - i) - 6) (by omega) (by omega) (K_sub (by repeat (first | exact subl_nil | refine subl_cons rfl ?_)) (nxt _ _ (opUnt (xs (i + 1)) σ).2.2 _ _ _ ((ok_1 ok _).2.2.1) u1169 m1169 o1169))
    · have z1187 := nI_R0 c1187 d1157
      have e1187 := e1157 z1187
      refine K_aload_n dL_law_1190 (by rfl) ?_
      refine K_iconst (v := 0) dL_law_1191 (by decide) ?_
      refine K_lald dL_law_1192 (by first | assumption | exact isLT.ob (by assumption) | exact isMt.ob (by assumption) | exact isRow.ob (by assumption) | exact isHnd.ob (by assumption) | exact isUnt.ob (by assumption) | exact isSt.ob (by assumption) | exact isHist.ob (by assumption) | exact isTxt.ob (by assumption) | exact isLac.ob (by assumption) | exact isMea.ob (by assumption) | exact hset_s | exact (hset_n (by first | assumption | omega)).trans (by first | assumption | exact isLT.ob (by assumption) | exact isMt.ob (by assumption) | exact isRow.ob (by assumption) | exact isHnd.ob (by assumption) | exact isUnt.ob (by assumption) | exact isSt.ob (by assumption) | exact isHist.ob (by assumption) | exact isTxt.ob (by assumption) | exact isLac.ob (by assumption) | exact isMea.ob (by assumption) | exact hset_s | exact (hset_n (by first | assumption | omega)).trans (by first | assumption | exact isLT.ob (by assumption) | exact isMt.ob (by assumption) | exact isRow.ob (by assumption) | exact isHnd.ob (by assumption) | exact isUnt.ob (by assumption) | exact isSt.ob (by assumption) | exact isHist.ob (by assumption) | exact isTxt.ob (by assumption) | exact isLac.ob (by assumption) | exact isMea.ob (by assumption) | exact hset_s | exact (hset_n (by first | assumption | omega)).trans (by first | assumption | exact isLT.ob (by assumption) | exact isMt.ob (by assumption) | exact isRow.ob (by assumption) | exact isHnd.ob (by assumption) | exact isUnt.ob (by assumption) | exact isSt.ob (by assumption) | exact isHist.ob (by assumption) | exact isTxt.ob (by assumption) | exact isLac.ob (by assumption) | exact isMea.ob (by assumption))))) (pk_in 0 1 (by omega)) ?_
      rw [show (0 : Int32).toNatClampNeg = 0 by decide, e1187]
      refine K_iload dL_law_1193 (by rfl) ?_
      refine K_i2l dL_law_1195 ?_
      refine K_lcmp dL_law_1196 ?_
      refine K_if_eq (tgt := 1202) dL_law_1197 (by decide) (fun c1197 => ?_) (fun c1197 => ?_)
      · refine K_goto (tgt := 1429) dL_law_1202 (by decide) ?_
        exact K_less (kc2 := L - i - 1) (kn2 := 6 * (L - i) - 6) (by omega) (by omega) (K_sub (by repeat (first | exact subl_nil | refine subl_cons rfl ?_)) (nxt _ _ (opUnt (xs (i + 1)) σ).2.2 _ _ _ ((ok_1 ok _).2.2.1) u1169 m1169 o1169))
      · exact absurd ((lg_cmp_eq _ _).mpr rfl) c1197
  · exact absurd rfl c1180
set_option maxRecDepth 20000 in
theorem law_c22 (hs : G.2.2 b = some (L, xs)) (hL : L ≤ 1536) (hi : i + 3 ≤ L) (ok : okS σ) (u : isLT G h x σ) (md : isMd G h (x + 64) σ t hh) (ho : h (x + 74) = some (.inl (G.2.1 1, 1, .inr (.inl g)))) (nxt : ∀ (h' : HP) (n' : Nat) (σ' : Sg) (t' : Int32) (hh' : Int64) (g' : Nat → Int64), okS σ' → isLT G h' x σ' → isMd G h' (x + 64) σ' t' hh' → h' (x + 74) = some (.inl (G.2.1 1, 1, .inr (.inl g'))) → KJ none G (ML nm) 1400 1429 [(0, .ref b), (1, .ref x), (2, .ref (x + 64)), (3, .ref (x + 74)), (4, .int (nI i))] [] h' n' (L - i - 1) (6 * (L - i) - 6) QL) : KJ none G (ML nm) 1400 39 [(0, .ref b), (1, .ref x), (2, .ref (x + 64)), (3, .ref (x + 74)), (4, .int (nI i))] [.int (nI 22)] h n (L - i) (6 * (L - i)) QL := by
  refine K_tableIn (off := 1166) (tgt := 1205) dL_law_39 (by decide) (by decide) (by decide) (by decide) ?_
  refine K_aload_n dL_law_1205 (by rfl) ?_
  refine K_aload_n dL_law_1206 (by rfl) ?_
  refine K_iload dL_law_1207 (by rfl) ?_
  refine K_iconst (v := nI 1) dL_law_1209 (by decide) ?_
  refine K_iadd dL_law_1210 ?_
  rw [nI_add]
  refine K_sldN dL_law_1211 (by assumption) (by first | assumption | omega) (by omega) ?_
  refine K_aload_n dL_law_1212 (by rfl) ?_
  refine K_callW (kc' := L - i - 1) (kn' := 6 * (L - i) - 6) mf_L_left (tb_4 (List.mem_of_getElem? (i := 59) rfl) rfl) ms_L_left (sp_L_left u ok ho (Or.inr (by omega)) (xs (i + 1)) _) dL_law_1213 (by decide) (by rfl) rfl (Nat.le_of_ble_eq_true rfl) (by omega) (by omega) (fun v1213 h1213 n1213 q1213 => ?_)
  obtain ⟨rfl, u1213, ⟨g1213, o1213, e1213⟩, k1213, d1213⟩ := q1213
  have m1213 := isMd_keep md (fun q h1 h2 => k1213 q (by omega) (by omega))
  obtain ⟨x1, x2, x3, x4, x5, x6, x7, x8, w1213⟩ := id m1213
  refine K_istore dL_law_1216 (Nat.le_of_ble_eq_true rfl) (by rfl) ?_
  refine K_aload_n dL_law_1218 (by rfl) ?_
  refine K_aload_n dL_law_1219 (by rfl) ?_
  refine K_iload dL_law_1220 (by rfl) ?_
  refine K_iconst (v := nI 1) dL_law_1222 (by decide) ?_
  refine K_iadd dL_law_1223 ?_
  rw [nI_add]
  refine K_sldN dL_law_1224 (by assumption) (by first | assumption | omega) (by omega) ?_
  refine K_callV mf_X10_left lk_L_163 mi_X10_left mv_X10_left (sp_X10_left m1213 ok (xs (i + 1)) _) dL_law_1225 (by first | assumption | exact isLT.ob (by assumption) | exact isMt.ob (by assumption) | exact isRow.ob (by assumption) | exact isHnd.ob (by assumption) | exact isUnt.ob (by assumption) | exact isSt.ob (by assumption) | exact isHist.ob (by assumption) | exact isTxt.ob (by assumption) | exact isLac.ob (by assumption) | exact isMea.ob (by assumption) | exact hset_s | exact (hset_n (by first | assumption | omega)).trans (by first | assumption | exact isLT.ob (by assumption) | exact isMt.ob (by assumption) | exact isRow.ob (by assumption) | exact isHnd.ob (by assumption) | exact isUnt.ob (by assumption) | exact isSt.ob (by assumption) | exact isHist.ob (by assumption) | exact isTxt.ob (by assumption) | exact isLac.ob (by assumption) | exact isMea.ob (by assumption) | exact hset_s | exact (hset_n (by first | assumption | omega)).trans (by first | assumption | exact isLT.ob (by assumption) | exact isMt.ob (by assumption) | exact isRow.ob (by assumption) | exact isHnd.ob (by assumption) | exact isUnt.ob (by assumption) | exact isSt.ob (by assumption) | exact isHist.ob (by assumption) | exact isTxt.ob (by assumption) | exact isLac.ob (by assumption) | exact isMea.ob (by assumption) | exact hset_s | exact (hset_n (by first | assumption | omega)).trans (by first | assumption | exact isLT.ob (by assumption) | exact isMt.ob (by assumption) | exact isRow.ob (by assumption) | exact isHnd.ob (by assumption) | exact isUnt.ob (by assumption) | exact isSt.ob (by assumption) | exact isHist.ob (by assumption) | exact isTxt.ob (by assumption) | exact isLac.ob (by assumption) | exact isMea.ob (by assumption))))) rfl rfl (by decide) (by rfl) rfl (Nat.le_of_ble_eq_true rfl) (Nat.zero_add _) (Nat.zero_add _) (fun v1225 h1225 n1225 q1225 => ?_)
  obtain ⟨rfl, ⟨hh1225, m1225⟩, k1225⟩ := q1225
  obtain ⟨y1, y2, y3, y4, y5, y6, y7, y8, w1225⟩ := id m1225
  have u1225 := isLT_fr u1213 k1225 (by omega)
  have o1225 := (k1225 (x + 74) (by omega)).trans o1213
  refine K_istore dL_law_1228 (Nat.le_of_ble_eq_true rfl) (by rfl) ?_
  refine K_aload_n dL_law_1230 (by rfl) ?_
  refine K_callV mf_X10_thrown lk_L_88 mi_X10_thrown mv_X10_thrown (sp_X10_thrown w1225.1 _) dL_law_1231 (by first | assumption | exact isLT.ob (by assumption) | exact isMt.ob (by assumption) | exact isRow.ob (by assumption) | exact isHnd.ob (by assumption) | exact isUnt.ob (by assumption) | exact isSt.ob (by assumption) | exact isHist.ob (by assumption) | exact isTxt.ob (by assumption) | exact isLac.ob (by assumption) | exact isMea.ob (by assumption) | exact hset_s | exact (hset_n (by first | assumption | omega)).trans (by first | assumption | exact isLT.ob (by assumption) | exact isMt.ob (by assumption) | exact isRow.ob (by assumption) | exact isHnd.ob (by assumption) | exact isUnt.ob (by assumption) | exact isSt.ob (by assumption) | exact isHist.ob (by assumption) | exact isTxt.ob (by assumption) | exact isLac.ob (by assumption) | exact isMea.ob (by assumption) | exact hset_s | exact (hset_n (by first | assumption | omega)).trans (by first | assumption | exact isLT.ob (by assumption) | exact isMt.ob (by assumption) | exact isRow.ob (by assumption) | exact isHnd.ob (by assumption) | exact isUnt.ob (by assumption) | exact isSt.ob (by assumption) | exact isHist.ob (by assumption) | exact isTxt.ob (by assumption) | exact isLac.ob (by assumption) | exact isMea.ob (by assumption) | exact hset_s | exact (hset_n (by first | assumption | omega)).trans (by first | assumption | exact isLT.ob (by assumption) | exact isMt.ob (by assumption) | exact isRow.ob (by assumption) | exact isHnd.ob (by assumption) | exact isUnt.ob (by assumption) | exact isSt.ob (by assumption) | exact isHist.ob (by assumption) | exact isTxt.ob (by assumption) | exact isLac.ob (by assumption) | exact isMea.ob (by assumption))))) rfl rfl (by decide) (by rfl) rfl (Nat.le_of_ble_eq_true rfl) (Nat.zero_add _) (Nat.zero_add _) (fun v1231 h1231 n1231 q1231 => ?_)
  obtain ⟨rfl, rfl⟩ := q1231
  refine K_iload dL_law_1234 (by rfl) ?_
  refine K_icmp_eq (tgt := 1241) dL_law_1236 (by decide) (fun c1236 => ?_) (fun c1236 => ?_)
  · refine K_iload dL_law_1241 (by rfl) ?_
    refine K_if_ne (tgt := 1258) dL_law_1243 (by decide) (fun c1243 => ?_) (fun c1243 => ?_)
    · refine K_goto (tgt := 1429) dL_law_1258 (by decide) ?_
      exact K_less (kc2 := L - i - 1) (kn2 := 6 * (L - i) - 6) (by omega) (by omega) (K_sub (by repeat (first | exact subl_nil | refine subl_cons rfl ?_)) (nxt _ _ (opLeft (xs (i + 1)) σ).2.2 _ _ _ ((ok_1 ok _).2.2.2.1) u1225 m1225 o1225))
    · have z1243 := nI_R0 c1243 d1213
      have e1243 := e1213 z1243
      refine K_aload_n dL_law_1246 (by rfl) ?_
      refine K_iconst (v := 0) dL_law_1247 (by decide) ?_
      refine K_lald dL_law_1248 (by first | assumption | exact isLT.ob (by assumption) | exact isMt.ob (by assumption) | exact isRow.ob (by assumption) | exact isHnd.ob (by assumption) | exact isUnt.ob (by assumption) | exact isSt.ob (by assumption) | exact isHist.ob (by assumption) | exact isTxt.ob (by assumption) | exact isLac.ob (by assumption) | exact isMea.ob (by assumption) | exact hset_s | exact (hset_n (by first | assumption | omega)).trans (by first | assumption | exact isLT.ob (by assumption) | exact isMt.ob (by assumption) | exact isRow.ob (by assumption) | exact isHnd.ob (by assumption) | exact isUnt.ob (by assumption) | exact isSt.ob (by assumption) | exact isHist.ob (by assumption) | exact isTxt.ob (by assumption) | exact isLac.ob (by assumption) | exact isMea.ob (by assumption) | exact hset_s | exact (hset_n (by first | assumption | omega)).trans (by first | assumption | exact isLT.ob (by assumption) | exact isMt.ob (by assumption) | exact isRow.ob (by assumption) | exact isHnd.ob (by assumption) | exact isUnt.ob (by assumption) | exact isSt.ob (by assumption) | exact isHist.ob (by assumption) | exact isTxt.ob (by assumption) | exact isLac.ob (by assumption) | exact isMea.ob (by assumption) | exact hset_s | exact (hset_n (by first | assumption | omega)).trans (by first | assumption | exact isLT.ob (by assumption) | exact isMt.ob (by assumption) | exact isRow.ob (by assumption) | exact isHnd.ob (by assumption) | exact isUnt.ob (by assumption) | exact isSt.ob (by assumption) | exact isHist.ob (by assumption) | exact isTxt.ob (by assumption) | exact isLac.ob (by assumption) | exact isMea.ob (by assumption))))) (pk_in 0 1 (by omega)) ?_
      rw [show (0 : Int32).toNatClampNeg = 0 by decide, e1243]
      refine K_iload dL_law_1249 (by rfl) ?_
      refine K_i2l dL_law_1251 ?_
      refine K_lcmp dL_law_1252 ?_
      refine K_if_eq (tgt := 1258) dL_law_1253 (by decide) (fun c1253 => ?_) (fun c1253 => ?_)
      · refine K_goto (tgt := 1429) dL_law_1258 (by decide) ?_
        exact K_less (kc2 := L - i - 1) (kn2 := 6 * (L - i) - 6) (by omega) (by omega) (K_sub (by repeat (first | exact subl_nil | refine subl_cons rfl ?_)) (nxt _ _ (opLeft (xs (i + 1)) σ).2.2 _ _ _ ((ok_1 ok _).2.2.2.1) u1225 m1225 o1225))
      · exact absurd ((lg_cmp_eq _ _).mpr rfl) c1253
  · exact absurd rfl c1236
set_option maxRecDepth 20000 in
theorem law_c23 (hs : G.2.2 b = some (L, xs)) (hL : L ≤ 1536) (hi : i + 3 ≤ L) (ok : okS σ) (u : isLT G h x σ) (md : isMd G h (x + 64) σ t hh) (ho : h (x + 74) = some (.inl (G.2.1 1, 1, .inr (.inl g)))) (nxt : ∀ (h' : HP) (n' : Nat) (σ' : Sg) (t' : Int32) (hh' : Int64) (g' : Nat → Int64), okS σ' → isLT G h' x σ' → isMd G h' (x + 64) σ' t' hh' → h' (x + 74) = some (.inl (G.2.1 1, 1, .inr (.inl g'))) → KJ none G (ML nm) 1400 1429 [(0, .ref b), (1, .ref x), (2, .ref (x + 64)), (3, .ref (x + 74)), (4, .int (nI i))] [] h' n' (L - i - 1) (6 * (L - i) - 6) QL) : KJ none G (ML nm) 1400 39 [(0, .ref b), (1, .ref x), (2, .ref (x + 64)), (3, .ref (x + 74)), (4, .int (nI i))] [.int (nI 23)] h n (L - i) (6 * (L - i)) QL := by
  refine K_tableIn (off := 1222) (tgt := 1261) dL_law_39 (by decide) (by decide) (by decide) (by decide) ?_
  refine K_aload_n dL_law_1261 (by rfl) ?_
  refine K_aload_n dL_law_1262 (by rfl) ?_
  refine K_callW (kc' := L - i - 1) (kn' := 6 * (L - i) - 6) mf_L_same (tb_4 (List.mem_of_getElem? (i := 66) rfl) rfl) ms_L_same (sp_L_same u ok ho (Or.inr (by omega)) _) dL_law_1263 (by decide) (by rfl) rfl (Nat.le_of_ble_eq_true rfl) (by omega) (by omega) (fun v1263 h1263 n1263 q1263 => ?_)
  obtain ⟨rfl, u1263, ⟨g1263, o1263, e1263⟩, k1263, d1263⟩ := q1263
  have m1263 := isMd_keep md (fun q h1 h2 => k1263 q (by omega) (by omega))
  obtain ⟨x1, x2, x3, x4, x5, x6, x7, x8, w1263⟩ := id m1263
  refine K_istore dL_law_1266 (Nat.le_of_ble_eq_true rfl) (by rfl) ?_
  refine K_aload_n dL_law_1268 (by rfl) ?_
  refine K_callV mf_X10_same lk_L_166 mi_X10_same mv_X10_same (sp_X10_same m1263 ok _) dL_law_1269 (by first | assumption | exact isLT.ob (by assumption) | exact isMt.ob (by assumption) | exact isRow.ob (by assumption) | exact isHnd.ob (by assumption) | exact isUnt.ob (by assumption) | exact isSt.ob (by assumption) | exact isHist.ob (by assumption) | exact isTxt.ob (by assumption) | exact isLac.ob (by assumption) | exact isMea.ob (by assumption) | exact hset_s | exact (hset_n (by first | assumption | omega)).trans (by first | assumption | exact isLT.ob (by assumption) | exact isMt.ob (by assumption) | exact isRow.ob (by assumption) | exact isHnd.ob (by assumption) | exact isUnt.ob (by assumption) | exact isSt.ob (by assumption) | exact isHist.ob (by assumption) | exact isTxt.ob (by assumption) | exact isLac.ob (by assumption) | exact isMea.ob (by assumption) | exact hset_s | exact (hset_n (by first | assumption | omega)).trans (by first | assumption | exact isLT.ob (by assumption) | exact isMt.ob (by assumption) | exact isRow.ob (by assumption) | exact isHnd.ob (by assumption) | exact isUnt.ob (by assumption) | exact isSt.ob (by assumption) | exact isHist.ob (by assumption) | exact isTxt.ob (by assumption) | exact isLac.ob (by assumption) | exact isMea.ob (by assumption) | exact hset_s | exact (hset_n (by first | assumption | omega)).trans (by first | assumption | exact isLT.ob (by assumption) | exact isMt.ob (by assumption) | exact isRow.ob (by assumption) | exact isHnd.ob (by assumption) | exact isUnt.ob (by assumption) | exact isSt.ob (by assumption) | exact isHist.ob (by assumption) | exact isTxt.ob (by assumption) | exact isLac.ob (by assumption) | exact isMea.ob (by assumption))))) rfl rfl (by decide) (by rfl) rfl (Nat.le_of_ble_eq_true rfl) (Nat.zero_add _) (Nat.zero_add _) (fun v1269 h1269 n1269 q1269 => ?_)
  obtain ⟨rfl, ⟨hh1269, m1269⟩, k1269⟩ := q1269
  obtain ⟨y1, y2, y3, y4, y5, y6, y7, y8, w1269⟩ := id m1269
  have u1269 := isLT_fr u1263 k1269 (by omega)
  have o1269 := (k1269 (x + 74) (by omega)).trans o1263
  refine K_istore dL_law_1272 (Nat.le_of_ble_eq_true rfl) (by rfl) ?_
  refine K_aload_n dL_law_1274 (by rfl) ?_
  refine K_callV mf_X10_thrown lk_L_88 mi_X10_thrown mv_X10_thrown (sp_X10_thrown w1269.1 _) dL_law_1275 (by first | assumption | exact isLT.ob (by assumption) | exact isMt.ob (by assumption) | exact isRow.ob (by assumption) | exact isHnd.ob (by assumption) | exact isUnt.ob (by assumption) | exact isSt.ob (by assumption) | exact isHist.ob (by assumption) | exact isTxt.ob (by assumption) | exact isLac.ob (by assumption) | exact isMea.ob (by assumption) | exact hset_s | exact (hset_n (by first | assumption | omega)).trans (by first | assumption | exact isLT.ob (by assumption) | exact isMt.ob (by assumption) | exact isRow.ob (by assumption) | exact isHnd.ob (by assumption) | exact isUnt.ob (by assumption) | exact isSt.ob (by assumption) | exact isHist.ob (by assumption) | exact isTxt.ob (by assumption) | exact isLac.ob (by assumption) | exact isMea.ob (by assumption) | exact hset_s | exact (hset_n (by first | assumption | omega)).trans (by first | assumption | exact isLT.ob (by assumption) | exact isMt.ob (by assumption) | exact isRow.ob (by assumption) | exact isHnd.ob (by assumption) | exact isUnt.ob (by assumption) | exact isSt.ob (by assumption) | exact isHist.ob (by assumption) | exact isTxt.ob (by assumption) | exact isLac.ob (by assumption) | exact isMea.ob (by assumption) | exact hset_s | exact (hset_n (by first | assumption | omega)).trans (by first | assumption | exact isLT.ob (by assumption) | exact isMt.ob (by assumption) | exact isRow.ob (by assumption) | exact isHnd.ob (by assumption) | exact isUnt.ob (by assumption) | exact isSt.ob (by assumption) | exact isHist.ob (by assumption) | exact isTxt.ob (by assumption) | exact isLac.ob (by assumption) | exact isMea.ob (by assumption))))) rfl rfl (by decide) (by rfl) rfl (Nat.le_of_ble_eq_true rfl) (Nat.zero_add _) (Nat.zero_add _) (fun v1275 h1275 n1275 q1275 => ?_)
  obtain ⟨rfl, rfl⟩ := q1275
  refine K_iload dL_law_1278 (by rfl) ?_
  refine K_icmp_eq (tgt := 1285) dL_law_1280 (by decide) (fun c1280 => ?_) (fun c1280 => ?_)
  · refine K_iload dL_law_1285 (by rfl) ?_
    refine K_if_ne (tgt := 1302) dL_law_1287 (by decide) (fun c1287 => ?_) (fun c1287 => ?_)
    · refine K_goto (tgt := 1429) dL_law_1302 (by decide) ?_
      exact K_less (kc2 := L - i - 1) (kn2 := 6 * (L - i) - 6) (by omega) (by omega) (K_sub (by repeat (first | exact subl_nil | refine subl_cons rfl ?_)) (nxt _ _ (opSame σ).2.2 _ _ _ (ok_0 ok) u1269 m1269 o1269))
    · have z1287 := nI_R0 c1287 d1263
      have e1287 := e1263 z1287
      refine K_aload_n dL_law_1290 (by rfl) ?_
      refine K_iconst (v := 0) dL_law_1291 (by decide) ?_
      refine K_lald dL_law_1292 (by first | assumption | exact isLT.ob (by assumption) | exact isMt.ob (by assumption) | exact isRow.ob (by assumption) | exact isHnd.ob (by assumption) | exact isUnt.ob (by assumption) | exact isSt.ob (by assumption) | exact isHist.ob (by assumption) | exact isTxt.ob (by assumption) | exact isLac.ob (by assumption) | exact isMea.ob (by assumption) | exact hset_s | exact (hset_n (by first | assumption | omega)).trans (by first | assumption | exact isLT.ob (by assumption) | exact isMt.ob (by assumption) | exact isRow.ob (by assumption) | exact isHnd.ob (by assumption) | exact isUnt.ob (by assumption) | exact isSt.ob (by assumption) | exact isHist.ob (by assumption) | exact isTxt.ob (by assumption) | exact isLac.ob (by assumption) | exact isMea.ob (by assumption) | exact hset_s | exact (hset_n (by first | assumption | omega)).trans (by first | assumption | exact isLT.ob (by assumption) | exact isMt.ob (by assumption) | exact isRow.ob (by assumption) | exact isHnd.ob (by assumption) | exact isUnt.ob (by assumption) | exact isSt.ob (by assumption) | exact isHist.ob (by assumption) | exact isTxt.ob (by assumption) | exact isLac.ob (by assumption) | exact isMea.ob (by assumption) | exact hset_s | exact (hset_n (by first | assumption | omega)).trans (by first | assumption | exact isLT.ob (by assumption) | exact isMt.ob (by assumption) | exact isRow.ob (by assumption) | exact isHnd.ob (by assumption) | exact isUnt.ob (by assumption) | exact isSt.ob (by assumption) | exact isHist.ob (by assumption) | exact isTxt.ob (by assumption) | exact isLac.ob (by assumption) | exact isMea.ob (by assumption))))) (pk_in 0 1 (by omega)) ?_
      rw [show (0 : Int32).toNatClampNeg = 0 by decide, e1287]
      refine K_iload dL_law_1293 (by rfl) ?_
      refine K_i2l dL_law_1295 ?_
      refine K_lcmp dL_law_1296 ?_
      refine K_if_eq (tgt := 1302) dL_law_1297 (by decide) (fun c1297 => ?_) (fun c1297 => ?_)
      · refine K_goto (tgt := 1429) dL_law_1302 (by decide) ?_
        exact K_less (kc2 := L - i - 1) (kn2 := 6 * (L - i) - 6) (by omega) (by omega) (K_sub (by repeat (first | exact subl_nil | refine subl_cons rfl ?_)) (nxt _ _ (opSame σ).2.2 _ _ _ (ok_0 ok) u1269 m1269 o1269))
      · exact absurd ((lg_cmp_eq _ _).mpr rfl) c1297
  · exact absurd rfl c1280
set_option maxRecDepth 20000 in
theorem law_c24 (hs : G.2.2 b = some (L, xs)) (hL : L ≤ 1536) (hi : i + 3 ≤ L) (ok : okS σ) (u : isLT G h x σ) (md : isMd G h (x + 64) σ t hh) (ho : h (x + 74) = some (.inl (G.2.1 1, 1, .inr (.inl g)))) (nxt : ∀ (h' : HP) (n' : Nat) (σ' : Sg) (t' : Int32) (hh' : Int64) (g' : Nat → Int64), okS σ' → isLT G h' x σ' → isMd G h' (x + 64) σ' t' hh' → h' (x + 74) = some (.inl (G.2.1 1, 1, .inr (.inl g'))) → KJ none G (ML nm) 1400 1429 [(0, .ref b), (1, .ref x), (2, .ref (x + 64)), (3, .ref (x + 74)), (4, .int (nI i))] [] h' n' (L - i - 1) (6 * (L - i) - 6) QL) : KJ none G (ML nm) 1400 39 [(0, .ref b), (1, .ref x), (2, .ref (x + 64)), (3, .ref (x + 74)), (4, .int (nI i))] [.int (nI 24)] h n (L - i) (6 * (L - i)) QL := by
  refine K_tableIn (off := 1266) (tgt := 1305) dL_law_39 (by decide) (by decide) (by decide) (by decide) ?_
  refine K_aload_n dL_law_1305 (by rfl) ?_
  refine K_aload_n dL_law_1306 (by rfl) ?_
  refine K_iload dL_law_1307 (by rfl) ?_
  refine K_iconst (v := nI 1) dL_law_1309 (by decide) ?_
  refine K_iadd dL_law_1310 ?_
  rw [nI_add]
  refine K_sldN dL_law_1311 (by assumption) (by first | assumption | omega) (by omega) ?_
  refine K_aload_n dL_law_1312 (by rfl) ?_
  refine K_callW (kc' := L - i - 1) (kn' := 6 * (L - i) - 6) mf_L_possible (tb_4 (List.mem_of_getElem? (i := 73) rfl) rfl) ms_L_possible (sp_L_possible u ok ho (Or.inr (by omega)) (xs (i + 1)) _) dL_law_1313 (by decide) (by rfl) rfl (Nat.le_of_ble_eq_true rfl) (by omega) (by omega) (fun v1313 h1313 n1313 q1313 => ?_)
  obtain ⟨rfl, u1313, ⟨g1313, o1313, e1313⟩, k1313, d1313⟩ := q1313
  have m1313 := isMd_keep md (fun q h1 h2 => k1313 q (by omega) (by omega))
  obtain ⟨x1, x2, x3, x4, x5, x6, x7, x8, w1313⟩ := id m1313
  refine K_istore dL_law_1316 (Nat.le_of_ble_eq_true rfl) (by rfl) ?_
  refine K_aload_n dL_law_1318 (by rfl) ?_
  refine K_aload_n dL_law_1319 (by rfl) ?_
  refine K_iload dL_law_1320 (by rfl) ?_
  refine K_iconst (v := nI 1) dL_law_1322 (by decide) ?_
  refine K_iadd dL_law_1323 ?_
  rw [nI_add]
  refine K_sldN dL_law_1324 (by assumption) (by first | assumption | omega) (by omega) ?_
  refine K_callV mf_X10_possible lk_L_169 mi_X10_possible mv_X10_possible (sp_X10_possible m1313 ok (xs (i + 1)) _) dL_law_1325 (by first | assumption | exact isLT.ob (by assumption) | exact isMt.ob (by assumption) | exact isRow.ob (by assumption) | exact isHnd.ob (by assumption) | exact isUnt.ob (by assumption) | exact isSt.ob (by assumption) | exact isHist.ob (by assumption) | exact isTxt.ob (by assumption) | exact isLac.ob (by assumption) | exact isMea.ob (by assumption) | exact hset_s | exact (hset_n (by first | assumption | omega)).trans (by first | assumption | exact isLT.ob (by assumption) | exact isMt.ob (by assumption) | exact isRow.ob (by assumption) | exact isHnd.ob (by assumption) | exact isUnt.ob (by assumption) | exact isSt.ob (by assumption) | exact isHist.ob (by assumption) | exact isTxt.ob (by assumption) | exact isLac.ob (by assumption) | exact isMea.ob (by assumption) | exact hset_s | exact (hset_n (by first | assumption | omega)).trans (by first | assumption | exact isLT.ob (by assumption) | exact isMt.ob (by assumption) | exact isRow.ob (by assumption) | exact isHnd.ob (by assumption) | exact isUnt.ob (by assumption) | exact isSt.ob (by assumption) | exact isHist.ob (by assumption) | exact isTxt.ob (by assumption) | exact isLac.ob (by assumption) | exact isMea.ob (by assumption) | exact hset_s | exact (hset_n (by first | assumption | omega)).trans (by first | assumption | exact isLT.ob (by assumption) | exact isMt.ob (by assumption) | exact isRow.ob (by assumption) | exact isHnd.ob (by assumption) | exact isUnt.ob (by assumption) | exact isSt.ob (by assumption) | exact isHist.ob (by assumption) | exact isTxt.ob (by assumption) | exact isLac.ob (by assumption) | exact isMea.ob (by assumption))))) rfl rfl (by decide) (by rfl) rfl (Nat.le_of_ble_eq_true rfl) (Nat.zero_add _) (Nat.zero_add _) (fun v1325 h1325 n1325 q1325 => ?_)
  obtain ⟨rfl, ⟨hh1325, m1325⟩, k1325⟩ := q1325
  obtain ⟨y1, y2, y3, y4, y5, y6, y7, y8, w1325⟩ := id m1325
  have u1325 := isLT_fr u1313 k1325 (by omega)
  have o1325 := (k1325 (x + 74) (by omega)).trans o1313
  refine K_istore dL_law_1328 (Nat.le_of_ble_eq_true rfl) (by rfl) ?_
  refine K_aload_n dL_law_1330 (by rfl) ?_
  refine K_callV mf_X10_thrown lk_L_88 mi_X10_thrown mv_X10_thrown (sp_X10_thrown w1325.1 _) dL_law_1331 (by first | assumption | exact isLT.ob (by assumption) | exact isMt.ob (by assumption) | exact isRow.ob (by assumption) | exact isHnd.ob (by assumption) | exact isUnt.ob (by assumption) | exact isSt.ob (by assumption) | exact isHist.ob (by assumption) | exact isTxt.ob (by assumption) | exact isLac.ob (by assumption) | exact isMea.ob (by assumption) | exact hset_s | exact (hset_n (by first | assumption | omega)).trans (by first | assumption | exact isLT.ob (by assumption) | exact isMt.ob (by assumption) | exact isRow.ob (by assumption) | exact isHnd.ob (by assumption) | exact isUnt.ob (by assumption) | exact isSt.ob (by assumption) | exact isHist.ob (by assumption) | exact isTxt.ob (by assumption) | exact isLac.ob (by assumption) | exact isMea.ob (by assumption) | exact hset_s | exact (hset_n (by first | assumption | omega)).trans (by first | assumption | exact isLT.ob (by assumption) | exact isMt.ob (by assumption) | exact isRow.ob (by assumption) | exact isHnd.ob (by assumption) | exact isUnt.ob (by assumption) | exact isSt.ob (by assumption) | exact isHist.ob (by assumption) | exact isTxt.ob (by assumption) | exact isLac.ob (by assumption) | exact isMea.ob (by assumption) | exact hset_s | exact (hset_n (by first | assumption | omega)).trans (by first | assumption | exact isLT.ob (by assumption) | exact isMt.ob (by assumption) | exact isRow.ob (by assumption) | exact isHnd.ob (by assumption) | exact isUnt.ob (by assumption) | exact isSt.ob (by assumption) | exact isHist.ob (by assumption) | exact isTxt.ob (by assumption) | exact isLac.ob (by assumption) | exact isMea.ob (by assumption))))) rfl rfl (by decide) (by rfl) rfl (Nat.le_of_ble_eq_true rfl) (Nat.zero_add _) (Nat.zero_add _) (fun v1331 h1331 n1331 q1331 => ?_)
  obtain ⟨rfl, rfl⟩ := q1331
  refine K_iload dL_law_1334 (by rfl) ?_
  refine K_icmp_eq (tgt := 1341) dL_law_1336 (by decide) (fun c1336 => ?_) (fun c1336 => ?_)
  · refine K_iload dL_law_1341 (by rfl) ?_
    refine K_if_ne (tgt := 1358) dL_law_1343 (by decide) (fun c1343 => ?_) (fun c1343 => ?_)
    · refine K_goto (tgt := 1429) dL_law_1358 (by decide) ?_
      exact K_less (kc2 := L - i - 1) (kn2 := 6 * (L - i) - 6) (by omega) (by omega) (K_sub (by repeat (first | exact subl_nil | refine subl_cons rfl ?_)) (nxt _ _ (opPossible (xs (i + 1)) σ).2.2 _ _ _ ((ok_1 ok _).2.2.2.2) u1325 m1325 o1325))
    · have z1343 := nI_R0 c1343 d1313
      have e1343 := e1313 z1343
      refine K_aload_n dL_law_1346 (by rfl) ?_
      refine K_iconst (v := 0) dL_law_1347 (by decide) ?_
      refine K_lald dL_law_1348 (by first | assumption | exact isLT.ob (by assumption) | exact isMt.ob (by assumption) | exact isRow.ob (by assumption) | exact isHnd.ob (by assumption) | exact isUnt.ob (by assumption) | exact isSt.ob (by assumption) | exact isHist.ob (by assumption) | exact isTxt.ob (by assumption) | exact isLac.ob (by assumption) | exact isMea.ob (by assumption) | exact hset_s | exact (hset_n (by first | assumption | omega)).trans (by first | assumption | exact isLT.ob (by assumption) | exact isMt.ob (by assumption) | exact isRow.ob (by assumption) | exact isHnd.ob (by assumption) | exact isUnt.ob (by assumption) | exact isSt.ob (by assumption) | exact isHist.ob (by assumption) | exact isTxt.ob (by assumption) | exact isLac.ob (by assumption) | exact isMea.ob (by assumption) | exact hset_s | exact (hset_n (by first | assumption | omega)).trans (by first | assumption | exact isLT.ob (by assumption) | exact isMt.ob (by assumption) | exact isRow.ob (by assumption) | exact isHnd.ob (by assumption) | exact isUnt.ob (by assumption) | exact isSt.ob (by assumption) | exact isHist.ob (by assumption) | exact isTxt.ob (by assumption) | exact isLac.ob (by assumption) | exact isMea.ob (by assumption) | exact hset_s | exact (hset_n (by first | assumption | omega)).trans (by first | assumption | exact isLT.ob (by assumption) | exact isMt.ob (by assumption) | exact isRow.ob (by assumption) | exact isHnd.ob (by assumption) | exact isUnt.ob (by assumption) | exact isSt.ob (by assumption) | exact isHist.ob (by assumption) | exact isTxt.ob (by assumption) | exact isLac.ob (by assumption) | exact isMea.ob (by assumption))))) (pk_in 0 1 (by omega)) ?_
      rw [show (0 : Int32).toNatClampNeg = 0 by decide, e1343]
      refine K_iload dL_law_1349 (by rfl) ?_
      refine K_i2l dL_law_1351 ?_
      refine K_lcmp dL_law_1352 ?_
      refine K_if_eq (tgt := 1358) dL_law_1353 (by decide) (fun c1353 => ?_) (fun c1353 => ?_)
      · refine K_goto (tgt := 1429) dL_law_1358 (by decide) ?_
        exact K_less (kc2 := L - i - 1) (kn2 := 6 * (L - i) - 6) (by omega) (by omega) (K_sub (by repeat (first | exact subl_nil | refine subl_cons rfl ?_)) (nxt _ _ (opPossible (xs (i + 1)) σ).2.2 _ _ _ ((ok_1 ok _).2.2.2.2) u1325 m1325 o1325))
      · exact absurd ((lg_cmp_eq _ _).mpr rfl) c1353
  · exact absurd rfl c1336
set_option maxRecDepth 20000 in
theorem law_c25 (hs : G.2.2 b = some (L, xs)) (hL : L ≤ 1536) (hi : i + 3 ≤ L) (ok : okS σ) (u : isLT G h x σ) (md : isMd G h (x + 64) σ t hh) (ho : h (x + 74) = some (.inl (G.2.1 1, 1, .inr (.inl g)))) (nxt : ∀ (h' : HP) (n' : Nat) (σ' : Sg) (t' : Int32) (hh' : Int64) (g' : Nat → Int64), okS σ' → isLT G h' x σ' → isMd G h' (x + 64) σ' t' hh' → h' (x + 74) = some (.inl (G.2.1 1, 1, .inr (.inl g'))) → KJ none G (ML nm) 1400 1429 [(0, .ref b), (1, .ref x), (2, .ref (x + 64)), (3, .ref (x + 74)), (4, .int (nI i))] [] h' n' (L - i - 1) (6 * (L - i) - 6) QL) : KJ none G (ML nm) 1400 39 [(0, .ref b), (1, .ref x), (2, .ref (x + 64)), (3, .ref (x + 74)), (4, .int (nI i))] [.int (nI 25)] h n (L - i) (6 * (L - i)) QL := by
  refine K_tableIn (off := 1322) (tgt := 1361) dL_law_39 (by decide) (by decide) (by decide) (by decide) ?_
  refine K_aload_n dL_law_1361 (by rfl) ?_
  refine K_callV mf_X9_bestMove lk_L_170 mi_X9_bestMove mv_X9_bestMove (sp_X9_bestMove u _) dL_law_1362 (by first | assumption | exact isLT.ob (by assumption) | exact isMt.ob (by assumption) | exact isRow.ob (by assumption) | exact isHnd.ob (by assumption) | exact isUnt.ob (by assumption) | exact isSt.ob (by assumption) | exact isHist.ob (by assumption) | exact isTxt.ob (by assumption) | exact isLac.ob (by assumption) | exact isMea.ob (by assumption) | exact hset_s | exact (hset_n (by first | assumption | omega)).trans (by first | assumption | exact isLT.ob (by assumption) | exact isMt.ob (by assumption) | exact isRow.ob (by assumption) | exact isHnd.ob (by assumption) | exact isUnt.ob (by assumption) | exact isSt.ob (by assumption) | exact isHist.ob (by assumption) | exact isTxt.ob (by assumption) | exact isLac.ob (by assumption) | exact isMea.ob (by assumption) | exact hset_s | exact (hset_n (by first | assumption | omega)).trans (by first | assumption | exact isLT.ob (by assumption) | exact isMt.ob (by assumption) | exact isRow.ob (by assumption) | exact isHnd.ob (by assumption) | exact isUnt.ob (by assumption) | exact isSt.ob (by assumption) | exact isHist.ob (by assumption) | exact isTxt.ob (by assumption) | exact isLac.ob (by assumption) | exact isMea.ob (by assumption) | exact hset_s | exact (hset_n (by first | assumption | omega)).trans (by first | assumption | exact isLT.ob (by assumption) | exact isMt.ob (by assumption) | exact isRow.ob (by assumption) | exact isHnd.ob (by assumption) | exact isUnt.ob (by assumption) | exact isSt.ob (by assumption) | exact isHist.ob (by assumption) | exact isTxt.ob (by assumption) | exact isLac.ob (by assumption) | exact isMea.ob (by assumption))))) rfl rfl (by decide) (by rfl) rfl (Nat.le_of_ble_eq_true rfl) (Nat.zero_add _) (Nat.zero_add _) (fun v1362 h1362 n1362 q1362 => ?_)
  obtain ⟨rfl, u1362, k1362⟩ := q1362
  have m1362 := isMd_keep md (fun q h1 h2 => k1362 q (by omega))
  obtain ⟨x1, x2, x3, x4, x5, x6, x7, x8, w1362⟩ := id m1362
  have o1362 := (k1362 (x + 74) (by omega)).trans ho
  refine K_aload_n dL_law_1365 (by rfl) ?_
  refine K_callV mf_X10_bestMove lk_L_173 mi_X10_bestMove mv_X10_bestMove (sp_X10_bestMove m1362 ok _) dL_law_1366 (by first | assumption | exact isLT.ob (by assumption) | exact isMt.ob (by assumption) | exact isRow.ob (by assumption) | exact isHnd.ob (by assumption) | exact isUnt.ob (by assumption) | exact isSt.ob (by assumption) | exact isHist.ob (by assumption) | exact isTxt.ob (by assumption) | exact isLac.ob (by assumption) | exact isMea.ob (by assumption) | exact hset_s | exact (hset_n (by first | assumption | omega)).trans (by first | assumption | exact isLT.ob (by assumption) | exact isMt.ob (by assumption) | exact isRow.ob (by assumption) | exact isHnd.ob (by assumption) | exact isUnt.ob (by assumption) | exact isSt.ob (by assumption) | exact isHist.ob (by assumption) | exact isTxt.ob (by assumption) | exact isLac.ob (by assumption) | exact isMea.ob (by assumption) | exact hset_s | exact (hset_n (by first | assumption | omega)).trans (by first | assumption | exact isLT.ob (by assumption) | exact isMt.ob (by assumption) | exact isRow.ob (by assumption) | exact isHnd.ob (by assumption) | exact isUnt.ob (by assumption) | exact isSt.ob (by assumption) | exact isHist.ob (by assumption) | exact isTxt.ob (by assumption) | exact isLac.ob (by assumption) | exact isMea.ob (by assumption) | exact hset_s | exact (hset_n (by first | assumption | omega)).trans (by first | assumption | exact isLT.ob (by assumption) | exact isMt.ob (by assumption) | exact isRow.ob (by assumption) | exact isHnd.ob (by assumption) | exact isUnt.ob (by assumption) | exact isSt.ob (by assumption) | exact isHist.ob (by assumption) | exact isTxt.ob (by assumption) | exact isLac.ob (by assumption) | exact isMea.ob (by assumption))))) rfl rfl (by decide) (by rfl) rfl (Nat.le_of_ble_eq_true rfl) (Nat.zero_add _) (Nat.zero_add _) (fun v1366 h1366 n1366 q1366 => ?_)
  obtain ⟨rfl, ⟨hh1366, m1366⟩, k1366⟩ := q1366
  have u1366 := isLT_fr u1362 k1366 (by omega)
  have o1366 := (k1366 (x + 74) (by omega)).trans o1362
  refine K_icmp_eq (tgt := 1429) dL_law_1369 (by decide) (fun c1369 => ?_) (fun c1369 => ?_)
  · exact K_less (kc2 := L - i - 1) (kn2 := 6 * (L - i) - 6) (by omega) (by omega) (K_sub (by repeat (first | exact subl_nil | refine subl_cons rfl ?_)) (nxt _ _ σ _ _ _ (ok) u1366 m1366 o1366))
  · exact absurd rfl c1369
set_option maxRecDepth 20000 in
theorem law_c26 (hs : G.2.2 b = some (L, xs)) (hL : L ≤ 1536) (hi : i + 3 ≤ L) (ok : okS σ) (u : isLT G h x σ) (md : isMd G h (x + 64) σ t hh) (ho : h (x + 74) = some (.inl (G.2.1 1, 1, .inr (.inl g)))) (nxt : ∀ (h' : HP) (n' : Nat) (σ' : Sg) (t' : Int32) (hh' : Int64) (g' : Nat → Int64), okS σ' → isLT G h' x σ' → isMd G h' (x + 64) σ' t' hh' → h' (x + 74) = some (.inl (G.2.1 1, 1, .inr (.inl g'))) → KJ none G (ML nm) 1400 1429 [(0, .ref b), (1, .ref x), (2, .ref (x + 64)), (3, .ref (x + 74)), (4, .int (nI i))] [] h' n' (L - i - 1) (6 * (L - i) - 6) QL) : KJ none G (ML nm) 1400 39 [(0, .ref b), (1, .ref x), (2, .ref (x + 64)), (3, .ref (x + 74)), (4, .int (nI i))] [.int (nI 26)] h n (L - i) (6 * (L - i)) QL := by
  refine K_tableIn (off := 1335) (tgt := 1374) dL_law_39 (by decide) (by decide) (by decide) (by decide) ?_
  refine K_aload_n dL_law_1374 (by rfl) ?_
  refine K_callV mf_X9_slack lk_L_174 mi_X9_slack mv_X9_slack (sp_X9_slack u _) dL_law_1375 (by first | assumption | exact isLT.ob (by assumption) | exact isMt.ob (by assumption) | exact isRow.ob (by assumption) | exact isHnd.ob (by assumption) | exact isUnt.ob (by assumption) | exact isSt.ob (by assumption) | exact isHist.ob (by assumption) | exact isTxt.ob (by assumption) | exact isLac.ob (by assumption) | exact isMea.ob (by assumption) | exact hset_s | exact (hset_n (by first | assumption | omega)).trans (by first | assumption | exact isLT.ob (by assumption) | exact isMt.ob (by assumption) | exact isRow.ob (by assumption) | exact isHnd.ob (by assumption) | exact isUnt.ob (by assumption) | exact isSt.ob (by assumption) | exact isHist.ob (by assumption) | exact isTxt.ob (by assumption) | exact isLac.ob (by assumption) | exact isMea.ob (by assumption) | exact hset_s | exact (hset_n (by first | assumption | omega)).trans (by first | assumption | exact isLT.ob (by assumption) | exact isMt.ob (by assumption) | exact isRow.ob (by assumption) | exact isHnd.ob (by assumption) | exact isUnt.ob (by assumption) | exact isSt.ob (by assumption) | exact isHist.ob (by assumption) | exact isTxt.ob (by assumption) | exact isLac.ob (by assumption) | exact isMea.ob (by assumption) | exact hset_s | exact (hset_n (by first | assumption | omega)).trans (by first | assumption | exact isLT.ob (by assumption) | exact isMt.ob (by assumption) | exact isRow.ob (by assumption) | exact isHnd.ob (by assumption) | exact isUnt.ob (by assumption) | exact isSt.ob (by assumption) | exact isHist.ob (by assumption) | exact isTxt.ob (by assumption) | exact isLac.ob (by assumption) | exact isMea.ob (by assumption))))) rfl rfl (by decide) (by rfl) rfl (Nat.le_of_ble_eq_true rfl) (Nat.zero_add _) (Nat.zero_add _) (fun v1375 h1375 n1375 q1375 => ?_)
  obtain ⟨rfl, u1375, k1375⟩ := q1375
  have m1375 := isMd_keep md (fun q h1 h2 => k1375 q (by omega))
  obtain ⟨x1, x2, x3, x4, x5, x6, x7, x8, w1375⟩ := id m1375
  have o1375 := (k1375 (x + 74) (by omega)).trans ho
  refine K_dstore dL_law_1378 (Nat.le_of_ble_eq_true rfl) (by rfl) ?_
  refine K_aload_n dL_law_1380 (by rfl) ?_
  refine K_callV mf_X10_slack lk_L_178 mi_X10_slack mv_X10_slack (sp_X10_slack m1375 ok _) dL_law_1381 (by first | assumption | exact isLT.ob (by assumption) | exact isMt.ob (by assumption) | exact isRow.ob (by assumption) | exact isHnd.ob (by assumption) | exact isUnt.ob (by assumption) | exact isSt.ob (by assumption) | exact isHist.ob (by assumption) | exact isTxt.ob (by assumption) | exact isLac.ob (by assumption) | exact isMea.ob (by assumption) | exact hset_s | exact (hset_n (by first | assumption | omega)).trans (by first | assumption | exact isLT.ob (by assumption) | exact isMt.ob (by assumption) | exact isRow.ob (by assumption) | exact isHnd.ob (by assumption) | exact isUnt.ob (by assumption) | exact isSt.ob (by assumption) | exact isHist.ob (by assumption) | exact isTxt.ob (by assumption) | exact isLac.ob (by assumption) | exact isMea.ob (by assumption) | exact hset_s | exact (hset_n (by first | assumption | omega)).trans (by first | assumption | exact isLT.ob (by assumption) | exact isMt.ob (by assumption) | exact isRow.ob (by assumption) | exact isHnd.ob (by assumption) | exact isUnt.ob (by assumption) | exact isSt.ob (by assumption) | exact isHist.ob (by assumption) | exact isTxt.ob (by assumption) | exact isLac.ob (by assumption) | exact isMea.ob (by assumption) | exact hset_s | exact (hset_n (by first | assumption | omega)).trans (by first | assumption | exact isLT.ob (by assumption) | exact isMt.ob (by assumption) | exact isRow.ob (by assumption) | exact isHnd.ob (by assumption) | exact isUnt.ob (by assumption) | exact isSt.ob (by assumption) | exact isHist.ob (by assumption) | exact isTxt.ob (by assumption) | exact isLac.ob (by assumption) | exact isMea.ob (by assumption))))) rfl rfl (by decide) (by rfl) rfl (Nat.le_of_ble_eq_true rfl) (Nat.zero_add _) (Nat.zero_add _) (fun v1381 h1381 n1381 q1381 => ?_)
  obtain ⟨rfl, ⟨hh1381, m1381⟩, k1381⟩ := q1381
  have u1381 := isLT_fr u1375 k1381 (by omega)
  have o1381 := (k1381 (x + 74) (by omega)).trans o1375
  refine K_dstore dL_law_1384 (Nat.le_of_ble_eq_true rfl) (by rfl) ?_
  refine K_dload dL_law_1386 (by rfl) ?_
  refine K_dload dL_law_1388 (by rfl) ?_
  refine K_dcmp dL_law_1390 ?_
  refine K_if_eq (tgt := 1412) dL_law_1391 (by decide) (fun c1391 => ?_) (fun c1391 => ?_)
  · refine K_goto (tgt := 1429) dL_law_1412 (by decide) ?_
    exact K_less (kc2 := L - i - 1) (kn2 := 6 * (L - i) - 6) (by omega) (by omega) (K_sub (by repeat (first | exact subl_nil | refine subl_cons rfl ?_)) (nxt _ _ σ _ _ _ (ok) u1381 m1381 o1381))
  · exact absurd (of_decide_eq_true (slk_nan (xs := σ.1.1) ok.1.2)) c1391
set_option maxRecDepth 20000 in
theorem law_c27 (hs : G.2.2 b = some (L, xs)) (hL : L ≤ 1536) (hi : i + 3 ≤ L) (ok : okS σ) (u : isLT G h x σ) (md : isMd G h (x + 64) σ t hh) (ho : h (x + 74) = some (.inl (G.2.1 1, 1, .inr (.inl g)))) (nxt : ∀ (h' : HP) (n' : Nat) (σ' : Sg) (t' : Int32) (hh' : Int64) (g' : Nat → Int64), okS σ' → isLT G h' x σ' → isMd G h' (x + 64) σ' t' hh' → h' (x + 74) = some (.inl (G.2.1 1, 1, .inr (.inl g'))) → KJ none G (ML nm) 1400 1429 [(0, .ref b), (1, .ref x), (2, .ref (x + 64)), (3, .ref (x + 74)), (4, .int (nI i))] [] h' n' (L - i - 1) (6 * (L - i) - 6) QL) : KJ none G (ML nm) 1400 39 [(0, .ref b), (1, .ref x), (2, .ref (x + 64)), (3, .ref (x + 74)), (4, .int (nI i))] [.int (nI 27)] h n (L - i) (6 * (L - i)) QL := by
  refine K_tableIn (off := 1376) (tgt := 1415) dL_law_39 (by decide) (by decide) (by decide) (by decide) ?_
  refine K_aload_n dL_law_1415 (by rfl) ?_
  refine K_callV mf_X9_digest lk_L_179 mi_X9_digest mv_X9_digest (sp_X9_digest u ok _) dL_law_1416 (by first | assumption | exact isLT.ob (by assumption) | exact isMt.ob (by assumption) | exact isRow.ob (by assumption) | exact isHnd.ob (by assumption) | exact isUnt.ob (by assumption) | exact isSt.ob (by assumption) | exact isHist.ob (by assumption) | exact isTxt.ob (by assumption) | exact isLac.ob (by assumption) | exact isMea.ob (by assumption) | exact hset_s | exact (hset_n (by first | assumption | omega)).trans (by first | assumption | exact isLT.ob (by assumption) | exact isMt.ob (by assumption) | exact isRow.ob (by assumption) | exact isHnd.ob (by assumption) | exact isUnt.ob (by assumption) | exact isSt.ob (by assumption) | exact isHist.ob (by assumption) | exact isTxt.ob (by assumption) | exact isLac.ob (by assumption) | exact isMea.ob (by assumption) | exact hset_s | exact (hset_n (by first | assumption | omega)).trans (by first | assumption | exact isLT.ob (by assumption) | exact isMt.ob (by assumption) | exact isRow.ob (by assumption) | exact isHnd.ob (by assumption) | exact isUnt.ob (by assumption) | exact isSt.ob (by assumption) | exact isHist.ob (by assumption) | exact isTxt.ob (by assumption) | exact isLac.ob (by assumption) | exact isMea.ob (by assumption) | exact hset_s | exact (hset_n (by first | assumption | omega)).trans (by first | assumption | exact isLT.ob (by assumption) | exact isMt.ob (by assumption) | exact isRow.ob (by assumption) | exact isHnd.ob (by assumption) | exact isUnt.ob (by assumption) | exact isSt.ob (by assumption) | exact isHist.ob (by assumption) | exact isTxt.ob (by assumption) | exact isLac.ob (by assumption) | exact isMea.ob (by assumption))))) rfl rfl (by decide) (by rfl) rfl (Nat.le_of_ble_eq_true rfl) (Nat.zero_add _) (Nat.zero_add _) (fun v1416 h1416 n1416 q1416 => ?_)
  obtain ⟨rfl, u1416, k1416⟩ := q1416
  have m1416 := isMd_keep md (fun q h1 h2 => k1416 q (by omega))
  obtain ⟨x1, x2, x3, x4, x5, x6, x7, x8, w1416⟩ := id m1416
  have o1416 := (k1416 (x + 74) (by omega)).trans ho
  refine K_aload_n dL_law_1419 (by rfl) ?_
  refine K_callV mf_X10_digest lk_L_183 mi_X10_digest mv_X10_digest (sp_X10_digest m1416 ok _) dL_law_1420 (by first | assumption | exact isLT.ob (by assumption) | exact isMt.ob (by assumption) | exact isRow.ob (by assumption) | exact isHnd.ob (by assumption) | exact isUnt.ob (by assumption) | exact isSt.ob (by assumption) | exact isHist.ob (by assumption) | exact isTxt.ob (by assumption) | exact isLac.ob (by assumption) | exact isMea.ob (by assumption) | exact hset_s | exact (hset_n (by first | assumption | omega)).trans (by first | assumption | exact isLT.ob (by assumption) | exact isMt.ob (by assumption) | exact isRow.ob (by assumption) | exact isHnd.ob (by assumption) | exact isUnt.ob (by assumption) | exact isSt.ob (by assumption) | exact isHist.ob (by assumption) | exact isTxt.ob (by assumption) | exact isLac.ob (by assumption) | exact isMea.ob (by assumption) | exact hset_s | exact (hset_n (by first | assumption | omega)).trans (by first | assumption | exact isLT.ob (by assumption) | exact isMt.ob (by assumption) | exact isRow.ob (by assumption) | exact isHnd.ob (by assumption) | exact isUnt.ob (by assumption) | exact isSt.ob (by assumption) | exact isHist.ob (by assumption) | exact isTxt.ob (by assumption) | exact isLac.ob (by assumption) | exact isMea.ob (by assumption) | exact hset_s | exact (hset_n (by first | assumption | omega)).trans (by first | assumption | exact isLT.ob (by assumption) | exact isMt.ob (by assumption) | exact isRow.ob (by assumption) | exact isHnd.ob (by assumption) | exact isUnt.ob (by assumption) | exact isSt.ob (by assumption) | exact isHist.ob (by assumption) | exact isTxt.ob (by assumption) | exact isLac.ob (by assumption) | exact isMea.ob (by assumption))))) rfl rfl (by decide) (by rfl) rfl (Nat.le_of_ble_eq_true rfl) (Nat.zero_add _) (Nat.zero_add _) (fun v1420 h1420 n1420 q1420 => ?_)
  obtain ⟨rfl, ⟨hh1420, m1420⟩, k1420⟩ := q1420
  have u1420 := isLT_fr u1416 k1420 (by omega)
  have o1420 := (k1420 (x + 74) (by omega)).trans o1416
  refine K_lcmp dL_law_1423 ?_
  refine K_if_eq (tgt := 1429) dL_law_1424 (by decide) (fun c1424 => ?_) (fun c1424 => ?_)
  · exact K_less (kc2 := L - i - 1) (kn2 := 6 * (L - i) - 6) (by omega) (by omega) (K_sub (by repeat (first | exact subl_nil | refine subl_cons rfl ?_)) (nxt _ _ σ _ _ _ (ok) u1420 m1420 o1420))
  · exact absurd ((lg_cmp_eq _ _).mpr rfl) c1424
set_option maxRecDepth 20000 in
theorem law_cd {z : Nat} (hz : z < 32) (hz2 : 28 ≤ z) (hs : G.2.2 b = some (L, xs)) (hL : L ≤ 1536) (hi : i + 3 ≤ L) (ok : okS σ) (u : isLT G h x σ) (md : isMd G h (x + 64) σ t hh) (ho : h (x + 74) = some (.inl (G.2.1 1, 1, .inr (.inl g)))) (nxt : ∀ (h' : HP) (n' : Nat) (σ' : Sg) (t' : Int32) (hh' : Int64) (g' : Nat → Int64), okS σ' → isLT G h' x σ' → isMd G h' (x + 64) σ' t' hh' → h' (x + 74) = some (.inl (G.2.1 1, 1, .inr (.inl g'))) → KJ none G (ML nm) 1400 1429 [(0, .ref b), (1, .ref x), (2, .ref (x + 64)), (3, .ref (x + 74)), (4, .int (nI i))] [] h' n' (L - i - 1) (6 * (L - i) - 6) QL) : KJ none G (ML nm) 1400 39 [(0, .ref b), (1, .ref x), (2, .ref (x + 64)), (3, .ref (x + 74)), (4, .int (nI i))] [.int (nI z)] h n (L - i) (6 * (L - i)) QL := by
  refine K_tableOut (tgt := 1429) dL_law_39 (Or.inr (by rw [nI_toInt (by omega)]; omega)) (by decide) ?_
  exact K_less (by omega) (by omega) (nxt _ _ σ _ _ _ ok u md ho)
set_option maxRecDepth 20000 in
theorem law_c {z : Nat} (hz : z < 32) (hs : G.2.2 b = some (L, xs)) (hL : L ≤ 1536) (hi : i + 3 ≤ L) (ok : okS σ) (u : isLT G h x σ) (md : isMd G h (x + 64) σ t hh) (ho : h (x + 74) = some (.inl (G.2.1 1, 1, .inr (.inl g)))) (nxt : ∀ (h' : HP) (n' : Nat) (σ' : Sg) (t' : Int32) (hh' : Int64) (g' : Nat → Int64), okS σ' → isLT G h' x σ' → isMd G h' (x + 64) σ' t' hh' → h' (x + 74) = some (.inl (G.2.1 1, 1, .inr (.inl g'))) → KJ none G (ML nm) 1400 1429 [(0, .ref b), (1, .ref x), (2, .ref (x + 64)), (3, .ref (x + 74)), (4, .int (nI i))] [] h' n' (L - i - 1) (6 * (L - i) - 6) QL) : KJ none G (ML nm) 1400 39 [(0, .ref b), (1, .ref x), (2, .ref (x + 64)), (3, .ref (x + 74)), (4, .int (nI i))] [.int (nI z)] h n (L - i) (6 * (L - i)) QL := by
  rcases (show z = 0 ∨ z = 1 ∨ z = 2 ∨ z = 3 ∨ z = 4 ∨ z = 5 ∨ z = 6 ∨ z = 7 ∨ z = 8 ∨ z = 9 ∨ z = 10 ∨ z = 11 ∨ z = 12 ∨ z = 13 ∨ z = 14 ∨ z = 15 ∨ z = 16 ∨ z = 17 ∨ z = 18 ∨ z = 19 ∨ z = 20 ∨ z = 21 ∨ z = 22 ∨ z = 23 ∨ z = 24 ∨ z = 25 ∨ z = 26 ∨ z = 27 ∨ 28 ≤ z by omega) with rfl | rfl | rfl | rfl | rfl | rfl | rfl | rfl | rfl | rfl | rfl | rfl | rfl | rfl | rfl | rfl | rfl | rfl | rfl | rfl | rfl | rfl | rfl | rfl | rfl | rfl | rfl | rfl | hz2
  · exact law_c0 hs hL hi ok u md ho nxt
  · exact law_c1 hs hL hi ok u md ho nxt
  · exact law_c2 hs hL hi ok u md ho nxt
  · exact law_c3 hs hL hi ok u md ho nxt
  · exact law_c4 hs hL hi ok u md ho nxt
  · exact law_c5 hs hL hi ok u md ho nxt
  · exact law_c6 hs hL hi ok u md ho nxt
  · exact law_c7 hs hL hi ok u md ho nxt
  · exact law_c8 hs hL hi ok u md ho nxt
  · exact law_c9 hs hL hi ok u md ho nxt
  · exact law_c10 hs hL hi ok u md ho nxt
  · exact law_c11 hs hL hi ok u md ho nxt
  · exact law_c12 hs hL hi ok u md ho nxt
  · exact law_c13 hs hL hi ok u md ho nxt
  · exact law_c14 hs hL hi ok u md ho nxt
  · exact law_c15 hs hL hi ok u md ho nxt
  · exact law_c16 hs hL hi ok u md ho nxt
  · exact law_c17 hs hL hi ok u md ho nxt
  · exact law_c18 hs hL hi ok u md ho nxt
  · exact law_c19 hs hL hi ok u md ho nxt
  · exact law_c20 hs hL hi ok u md ho nxt
  · exact law_c21 hs hL hi ok u md ho nxt
  · exact law_c22 hs hL hi ok u md ho nxt
  · exact law_c23 hs hL hi ok u md ho nxt
  · exact law_c24 hs hL hi ok u md ho nxt
  · exact law_c25 hs hL hi ok u md ho nxt
  · exact law_c26 hs hL hi ok u md ho nxt
  · exact law_c27 hs hL hi ok u md ho nxt
  · exact law_cd hz hz2 hs hL hi ok u md ho nxt
set_option maxRecDepth 20000 in
theorem law_loop (hs : G.2.2 b = some (L, xs)) (hL : L ≤ 1536) : ∀ (j i : Nat) (h : HP) (n : Nat) (σ : Sg) (t : Int32) (hh : Int64) (g : Nat → Int64), L - i = j → i ≤ L + 3 → okS σ → isLT G h x σ → isMd G h (x + 64) σ t hh → h (x + 74) = some (.inl (G.2.1 1, 1, .inr (.inl g))) → KJ none G (ML nm) 1400 23 [(0, .ref b), (1, .ref x), (2, .ref (x + 64)), (3, .ref (x + 74)), (4, .int (nI i))] [] h n (L - i) (6 * (L - i)) QL := by
  intro j
  induction j using Nat.strongRecOn with
  | _ j ih =>
    intro i h n σ t hh g hj hi2 ok u md ho
    refine K_iload dL_law_23 (by rfl) ?_
    refine K_aload_n dL_law_25 (by rfl) ?_
    refine K_slen dL_law_26 (by assumption) ?_
    rw [show Int32.ofNat L = nI L from rfl]
    refine K_iconst (v := nI 3) dL_law_27 (by decide) ?_
    refine K_isub dL_law_28 ?_
    refine K_icmp_gt (tgt := 1435) dL_law_29 (by decide) (fun c29 => ?_) (fun c29 => ?_)
    · have c29 : ¬ i + 3 ≤ L := fun q => absurd ((le_sub (by omega) (by omega) (by omega)).mpr q) (Int32.not_le.mpr c29)
      refine K_iconst (v := 1) dL_law_1435 (by decide) ?_
      exact K_done ⟨rfl, rfl⟩
    · have c29 : i + 3 ≤ L := (le_sub (by omega) (by omega) (by omega)).mp (i_nlt c29)
      refine K_aload_n dL_law_32 (by rfl) ?_
      refine K_iload dL_law_33 (by rfl) ?_
      refine K_sldN dL_law_35 (by assumption) (by first | assumption | omega) (by omega) ?_
      refine K_bipush (v := 31) dL_law_36 (by decide) ?_
      refine K_iand dL_law_38 ?_
      obtain ⟨z, hz, ez⟩ := pk_andE (xs i) 5 (m := 31) (by decide)
      rw [ez]
      exact law_c hz hs hL c29 ok u md ho (fun h' n' σ' t' hh' g' a1 a2 a3 a4 => by
        refine K_iinc (v := 3) dL_law_1429 (by rfl) (by decide) (by rfl) ?_
        rw [show nI i + 3 = nI (i + 3) from nI_add i 3]
        refine K_goto (tgt := 23) dL_law_1432 (by decide) ?_
        exact K_less (kc2 := L - (i + 3)) (kn2 := 6 * (L - (i + 3))) (by omega) (by omega) (K_sub (by repeat (first | exact subl_nil | refine subl_cons rfl ?_)) (ih (L - (i + 3)) (by omega) (i + 3) h' _ σ' t' hh' g' rfl (by omega) a1 a2 a3 a4)))
set_option maxRecDepth 20000 in
theorem law_all (hs : G.2.2 b = some (L, xs)) (hL : L ≤ 1536) (hx0 : 0 < x) : KJ none G (ML nm) 1400 0 [(0, .ref b)] [] (fun _ => none) x 3000 20000 QL := by
  refine K_new (kc' := 2999) (kn' := 19990) fn_L_8 dL_law_0 (by omega) (by omega) (by first | rfl | (simp only [List.length_cons, List.length_nil]; omega)) ?_
  refine K_dup dL_law_3 rfl ?_
  refine K_callI (kc' := 2936) (kn' := 18445) mf_X9_init lk_L_78 mi_X9_init rfl rfl (sp_X9_init (x := x) hset_s) dL_law_4 (by decide) (by rfl) rfl (Nat.le_of_ble_eq_true rfl) (by omega) (by omega) (fun v4 h4 n4 q4 => ?_)
  obtain ⟨rfl, a4, b4, rfl⟩ := q4
  refine K_astore_n dL_law_7 (Nat.le_of_ble_eq_true rfl) (by rfl) ?_
  refine K_new (kc' := 2935) (kn' := 18423) fn_L_79 dL_law_8 (by omega) (by omega) (by first | rfl | (simp only [List.length_cons, List.length_nil]; omega)) ?_
  refine K_dup dL_law_11 rfl ?_
  refine K_callI (kc' := 2926) (kn' := 17271) mf_X10_init lk_L_81 mi_X10_init rfl rfl (sp_X10_init (y := x + 64) hset_s) dL_law_12 (by decide) (by rfl) rfl (Nat.le_of_ble_eq_true rfl) (by omega) (by omega) (fun v12 h12 n12 q12 => ?_)
  obtain ⟨rfl, a12, b12, rfl⟩ := q12
  have c12 := isLT_fr (isLT_fr a4 (fr_set (lo := x + 64) (hi := x + 65) (by omega) (by omega)) (Or.inl (by omega))) b12 (Or.inl (by omega))
  refine K_astore_n dL_law_15 (Nat.le_of_ble_eq_true rfl) (by rfl) ?_
  refine K_iconst (v := 1) dL_law_16 (by decide) ?_
  refine K_newL (N := 1) (kc' := 2925) (kn' := 17270) ca_long dL_law_17 (by omega) (by decide) (by decide) (by decide) (by omega) (by omega) ?_
  refine K_astore_n dL_law_19 (Nat.le_of_ble_eq_true rfl) (by rfl) ?_
  refine K_iconst (v := nI 0) dL_law_20 (by decide) ?_
  refine K_istore dL_law_21 (Nat.le_of_ble_eq_true rfl) (by rfl) ?_
  exact K_less (kc2 := L - 0) (kn2 := 6 * (L - 0)) (by omega) (by omega) (K_sub (by repeat (first | exact subl_nil | refine subl_cons rfl ?_)) (law_loop hs hL L 0 _ _ s0 0 0 (fun _ => 0) rfl (by omega) ok_s0 (isLT_fr c12 (fr_set (lo := x + 74) (hi := x + 75) (by omega) (by omega)) (Or.inl (by omega))) (isMd_keep a12 (fun q h1 h2 => hset_n (by omega))) hset_s))
end LW
