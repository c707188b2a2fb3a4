/-! the law: laces, one by one -/
/-- at tells where each lace lies, L which lace lies where -/
def isIv (p L : Nat → Nat) : Prop := ∀ e, e < 4 → p e < 4 ∧ L e < 4 ∧ L (p e) = e ∧ p (L e) = e
/-- how often a lace winds over another, and how often two wind round each other -/
def isWd (f S : Nat → Int32) : Prop := (∀ a b, a < 4 → b < 4 → a ≠ b → f (4 * a + b) + f (4 * b + a) = S (a * 4 + b)) ∧ ∀ a, a < 4 → S (a * 4 + a) = 0
theorem isIv_0 : isIv (fun e => e) (fun e => e) := fun e he => ⟨he, he, rfl, rfl⟩
theorem isIv_s {p L : Nat → Nat} (w : isIv p L) {R : Nat} (h1 : 1 ≤ R) (h3 : R ≤ 3) : isIv (fun e => if e = L R then R - 1 else if e = L (R - 1) then R else p e) (lacA L R) := by
  intro e he
  obtain ⟨a1, a2, a3, a4⟩ := w e he
  obtain ⟨b1, b2, b3, b4⟩ := w R (by omega)
  obtain ⟨c1, c2, c3, c4⟩ := w (R - 1) (by omega)
  have hne : L R ≠ L (R - 1) := fun q => by
    rw [← q, b4] at c4
    omega
  show (if e = L R then R - 1 else if e = L (R - 1) then R else p e) < 4 ∧ lacA L R e < 4 ∧ lacA L R (if e = L R then R - 1 else if e = L (R - 1) then R else p e) = e ∧ (if lacA L R e = L R then R - 1 else if lacA L R e = L (R - 1) then R else p (lacA L R e)) = e
  refine ⟨?_, ?_, ?_, ?_⟩
  · split
    · omega
    · split
      · omega
      · exact a1
  · unfold lacA
    split
    · exact c2
    · split
      · exact b2
      · exact a2
  · by_cases q1 : e = L R
    · rw [if_pos q1, lacA, if_neg (by omega), if_pos rfl, q1]
    · rw [if_neg q1]
      by_cases q2 : e = L (R - 1)
      · rw [if_pos q2, lacA, if_pos rfl, q2]
      · rw [if_neg q2, lacA, if_neg (fun z => q1 (by rw [← z, a3])), if_neg (fun z => q2 (by rw [← z, a3])), a3]
  · unfold lacA
    by_cases q1 : e = R
    · rw [if_pos q1, if_neg (Ne.symm hne), if_pos rfl, q1]
    · rw [if_neg q1]
      by_cases q2 : e = R - 1
      · rw [if_pos q2, if_pos rfl, q2]
      · rw [if_neg q2, if_neg (fun z => q1 (by rw [← a4, z, b4])), if_neg (fun z => q2 (by rw [← a4, z, c4])), a4]
theorem isWd_0 : isWd (fun _ => 0) (fun _ => 0) := ⟨fun _ _ _ _ _ => rfl, fun _ _ => rfl⟩
theorem isWd_s {f S : Nat → Int32} (w : isWd f S) {l r : Nat} (hl : l < 4) (hr : r < 4) (hlr : l ≠ r) (g : Int32) : isWd (upd f (4 * l + r) (f (4 * l + r) + g)) (lacB (lacB S (l * 4 + r) g) (r * 4 + l) g) := by
  have e1 : ∀ a b, a < 4 → b < 4 → ¬ (a = l ∧ b = r) → 4 * a + b ≠ 4 * l + r := fun a b ha hb q z => q ⟨by omega, by omega⟩
  have e2 : ∀ a b c d, a < 4 → b < 4 → c < 4 → d < 4 → ¬ (a = c ∧ b = d) → a * 4 + b ≠ c * 4 + d := fun a b c d _ _ _ _ q z => q ⟨by omega, by omega⟩
  constructor
  · intro a b ha hb hab
    have h0 := w.1 a b ha hb hab
    by_cases q1 : a = l ∧ b = r
    · obtain ⟨rfl, rfl⟩ := q1
      rw [upd_s, upd_n (e1 _ _ hb ha (by omega)), lacB, if_neg (e2 _ _ _ _ ha hb hb ha (by omega)), lacB, if_pos rfl, ← h0]
      grind
    · by_cases q2 : a = r ∧ b = l
      · obtain ⟨rfl, rfl⟩ := q2
        rw [upd_s, upd_n (e1 _ _ ha hb (by omega)), lacB, if_pos rfl, lacB, if_neg (e2 _ _ _ _ ha hb hb ha (by omega)), ← h0]
        grind
      · rw [upd_n (e1 _ _ ha hb q1), upd_n (e1 _ _ hb ha (by omega)), lacB, if_neg (e2 _ _ _ _ ha hb hr hl (by omega)), lacB, if_neg (e2 _ _ _ _ ha hb hl hr q1)]
        exact h0
  · intro a ha
    rw [lacB, if_neg (e2 _ _ _ _ ha ha hr hl (by omega)), lacB, if_neg (e2 _ _ _ _ ha ha hl hr (by omega))]
    exact w.2 a ha
theorem lsx : ∀ x ∈ xl, (if 0 < x then (1 : Int32) else -1) = sg x := by decide +kernel
theorem lsxp {x : Int32} (hx : isX x) (c : ¬ x ≤ 0) : 1 = sg x := by
  have := lsx x hx.xl
  rwa [if_pos (Int32.not_le.mp c)] at this
theorem lsxn {x : Int32} (hx : isX x) (c : x ≤ 0) : -1 = sg x := by
  have := lsx x hx.xl
  rwa [if_neg (Int32.not_lt.mpr c)] at this
section AL
variable {G : GG} {h : HP} {x : Nat} {σ : Sg}
theorem e_lies {k p : Nat} (hl : σ.1.1.length ≤ 30) (hk : k ≤ σ.1.1.length) (hp : p < 4) : opLies (nI k) (nI p) σ = (0, nI ((lac σ.1.1 k).1 p), σ) := by
  unfold opLies
  rw [if_pos ⟨nI_pos' (by omega), (nI_ltI (b := 4) (by omega) (by omega)).mpr hp⟩, if_pos ⟨nI_pos' (by omega), (nI_leI (by omega) (by omega)).mpr hk⟩, nI_clamp (n := k) (by omega), nI_clamp (n := p) (by omega)]
theorem e_winding {a b : Nat} (ha : a < 4) (hb : b < 4) : opWinding (nI a) (nI b) σ = (0, (lac σ.1.1 σ.1.1.length).2 (a * 4 + b) + 100, σ) := by
  unfold opWinding
  rw [if_pos ⟨⟨nI_pos' (by omega), (nI_ltI (b := 4) (by omega) (by omega)).mpr ha⟩, nI_pos' (by omega), (nI_ltI (b := 4) (by omega) (by omega)).mpr hb⟩, nI_clamp (n := a) (by omega), nI_clamp (n := b) (by omega)]
set_option maxRecDepth 20000 in
theorem sp_L_areLaces (w : isLT G h x σ) (ok : okS σ) (v : isRA G h (x + 65) σ.1.1) (z : Int32) (n : Nat) : SpK G mm_L_areLaces 30 30 200 [.ref x, .int z, .int (nI σ.1.1.length), .ref (x + 65)] h n (q1 G x h σ) := by
  refine SpK_of (by decide +kernel) (Nat.le_of_ble_eq_true rfl) ?_
  obtain ⟨f, h1, h2, h3⟩ := v
  have hx := ok.1.1
  have pairs : ∀ (j b a A B : Nat) (hh : HP) (n1 : Nat) (p : Nat → Nat) (g m : Nat → Int32), b + j = 4 → a < 4 → x + 66 ≤ A → x + 66 ≤ B → isIv p (lac σ.1.1 σ.1.1.length).1 → isWd m (lac σ.1.1 σ.1.1.length).2 → hh A = some (.inl (G.2.1 0, 4, .inl g)) → (∀ e, e < 4 → g e = nI (p e)) → hh B = some (.inl (G.2.1 0, 16, .inl m)) → isLT G hh x σ → ky (x + 64) (x + 66) h hh → (∀ (hh : HP) (n1 : Nat), hh A = some (.inl (G.2.1 0, 4, .inl g)) → hh B = some (.inl (G.2.1 0, 16, .inl m)) → isLT G hh x σ → ky (x + 64) (x + 66) h hh → KJ none G mm_L_areLaces 30 217 [(0, .ref x), (2, .int (nI σ.1.1.length)), (4, .ref A), (5, .ref B), (7, .int 1), (8, .int (nI (a + 1)))] [] hh n1 (5 * (3 - a)) (30 * (3 - a)) (fun _ => RT mm_L_areLaces (q1 G x h σ))) → KJ none G mm_L_areLaces 30 253 [(0, .ref x), (2, .int (nI σ.1.1.length)), (4, .ref A), (5, .ref B), (7, .int 1), (8, .int (nI a)), (9, .int (nI b))] [] hh n1 (4 - b + 5 * (3 - a)) (6 * (4 - b) + 30 * (3 - a)) (fun _ => RT mm_L_areLaces (q1 G x h σ)) := by
    intro j
    induction j with
    | zero =>
      intro b a A B hh n1 p g m hj ha hA hB iv wd g1 g2 g3 u hf kk
      refine K_iload dL_areLaces_253 (by rfl) ?_
      refine K_iconst (v := nI 4) dL_areLaces_255 (by decide) ?_
      refine K_icmp_ge (tgt := 323) dL_areLaces_256 (by decide) (fun c256 => ?_) (fun c256 => ?_)
      · rw [nI_leI (by omega) (by omega)] at c256
        refine K_iincN dL_areLaces_323 (by rfl) (by decide) (by rfl) ?_
        refine K_goto (tgt := 217) dL_areLaces_326 (by decide) ?_
        exact K_less (kc2 := 5 * (3 - a)) (kn2 := 30 * (3 - a)) (by omega) (by omega) (K_sub (by repeat (first | exact subl_nil | refine subl_cons rfl ?_)) (kk _ _ g1 g3 u hf))
      · rw [nI_leI (by omega) (by omega)] at c256
        exact absurd (by omega) c256
    | succ j ih =>
      intro b a A B hh n1 p g m hj ha hA hB iv wd g1 g2 g3 u hf kk
      have w1 := wd.1 a b ha (by omega)
      have w2 := wd.2 a ha
      have fin : ∀ (hh : HP) (n1 : Nat), hh A = some (.inl (G.2.1 0, 4, .inl g)) → hh B = some (.inl (G.2.1 0, 16, .inl m)) → isLT G hh x σ → ky (x + 64) (x + 66) h hh → KJ none G mm_L_areLaces 30 253 [(0, .ref x), (2, .int (nI σ.1.1.length)), (4, .ref A), (5, .ref B), (7, .int 1), (8, .int (nI a)), (9, .int (nI (b + 1)))] [] hh n1 (4 - b + 5 * (3 - a) - 1) (6 * (4 - b) + 30 * (3 - a) - 6) (fun _ => RT mm_L_areLaces (q1 G x h σ)) := fun hh n1 d1 d2 d3 d4 => K_less (kc2 := 4 - (b + 1) + 5 * (3 - a)) (kn2 := 6 * (4 - (b + 1)) + 30 * (3 - a)) (by omega) (by omega) (ih (b + 1) a A B hh n1 p g m (by omega) ha hA hB iv wd d1 g2 d2 d3 d4 kk)
      refine K_iload dL_areLaces_253 (by rfl) ?_
      refine K_iconst (v := nI 4) dL_areLaces_255 (by decide) ?_
      refine K_icmp_ge (tgt := 323) dL_areLaces_256 (by decide) (fun c256 => ?_) (fun c256 => ?_)
      · rw [nI_leI (by omega) (by omega)] at c256
        exact absurd c256 (by omega)
      · rw [nI_leI (by omega) (by omega)] at c256
        refine K_iload dL_areLaces_259 (by rfl) ?_
        refine K_if_eq (tgt := 314) dL_areLaces_261 (by decide) (fun c261 => ?_) (fun c261 => ?_)
        · exact absurd c261 (by decide)
        · refine K_aload_n dL_areLaces_264 (by rfl) ?_
          refine K_iload dL_areLaces_265 (by rfl) ?_
          refine K_iload dL_areLaces_267 (by rfl) ?_
          refine K_callW2 mf_L_winding (tb_3 (List.mem_of_getElem? (i := 135) rfl) rfl) ms_L_winding (sp_L_winding u ok (nI a) (nI b) _) dL_areLaces_269 (by decide) (by rfl) rfl (Nat.le_of_ble_eq_true rfl) (by omega) (by omega) (fun v269 h269 n269 q269 => ?_)
          obtain ⟨rfl, u269, k269⟩ := qW_ok (e_winding ha (b := b) (by omega)) q269
          have a269 := (k269 A (by omega)).trans g1
          have b269 := (k269 B (by omega)).trans g3
          refine K_bipush (v := 100) dL_areLaces_272 (by decide) ?_
          refine K_iload dL_areLaces_274 (by rfl) ?_
          refine K_iload dL_areLaces_276 (by rfl) ?_
          refine K_icmp_ne (tgt := 285) dL_areLaces_278 (by decide) (fun c278 => ?_) (fun c278 => ?_)
          · rw [nI_eq (by omega) (by omega)] at c278
            refine K_aload dL_areLaces_285 (by rfl) ?_
            refine K_iconst (v := nI 4) dL_areLaces_287 (by decide) ?_
            refine K_iload dL_areLaces_288 (by rfl) ?_
            refine K_imul dL_areLaces_290 ?_
            rw [pk_mul]
            refine K_iload dL_areLaces_291 (by rfl) ?_
            refine K_iadd dL_areLaces_293 ?_
            rw [nI_add]
            refine K_ga dL_areLaces_294 (by first | assumption | exact isLT.ob (by assumption) | exact isRow.ob (by assumption) | exact isHnd.ob (by assumption) | exact isUnt.ob (by assumption) | exact isSt.ob (by assumption) | exact isHist.ob (by assumption) | exact isTxt.ob (by assumption) | exact isLac.ob (by assumption) | exact isMea.ob (by assumption) | exact hset_s | exact (hset_n (by first | assumption | omega)).trans (by first | assumption | exact isLT.ob (by assumption) | exact isRow.ob (by assumption) | exact isHnd.ob (by assumption) | exact isUnt.ob (by assumption) | exact isSt.ob (by assumption) | exact isHist.ob (by assumption) | exact isTxt.ob (by assumption) | exact isLac.ob (by assumption) | exact isMea.ob (by assumption) | exact hset_s | exact (hset_n (by first | assumption | omega)).trans (by first | assumption | exact isLT.ob (by assumption) | exact isRow.ob (by assumption) | exact isHnd.ob (by assumption) | exact isUnt.ob (by assumption) | exact isSt.ob (by assumption) | exact isHist.ob (by assumption) | exact isTxt.ob (by assumption) | exact isLac.ob (by assumption) | exact isMea.ob (by assumption) | exact hset_s | exact (hset_n (by first | assumption | omega)).trans (by first | assumption | exact isLT.ob (by assumption) | exact isRow.ob (by assumption) | exact isHnd.ob (by assumption) | exact isUnt.ob (by assumption) | exact isSt.ob (by assumption) | exact isHist.ob (by assumption) | exact isTxt.ob (by assumption) | exact isLac.ob (by assumption) | exact isMea.ob (by assumption))))) (by first | assumption | omega) (by omega) ?_
            refine K_aload dL_areLaces_295 (by rfl) ?_
            refine K_iconst (v := nI 4) dL_areLaces_297 (by decide) ?_
            refine K_iload dL_areLaces_298 (by rfl) ?_
            refine K_imul dL_areLaces_300 ?_
            rw [pk_mul]
            refine K_iload dL_areLaces_301 (by rfl) ?_
            refine K_iadd dL_areLaces_303 ?_
            rw [nI_add]
            refine K_ga dL_areLaces_304 (by first | assumption | exact isLT.ob (by assumption) | exact isRow.ob (by assumption) | exact isHnd.ob (by assumption) | exact isUnt.ob (by assumption) | exact isSt.ob (by assumption) | exact isHist.ob (by assumption) | exact isTxt.ob (by assumption) | exact isLac.ob (by assumption) | exact isMea.ob (by assumption) | exact hset_s | exact (hset_n (by first | assumption | omega)).trans (by first | assumption | exact isLT.ob (by assumption) | exact isRow.ob (by assumption) | exact isHnd.ob (by assumption) | exact isUnt.ob (by assumption) | exact isSt.ob (by assumption) | exact isHist.ob (by assumption) | exact isTxt.ob (by assumption) | exact isLac.ob (by assumption) | exact isMea.ob (by assumption) | exact hset_s | exact (hset_n (by first | assumption | omega)).trans (by first | assumption | exact isLT.ob (by assumption) | exact isRow.ob (by assumption) | exact isHnd.ob (by assumption) | exact isUnt.ob (by assumption) | exact isSt.ob (by assumption) | exact isHist.ob (by assumption) | exact isTxt.ob (by assumption) | exact isLac.ob (by assumption) | exact isMea.ob (by assumption) | exact hset_s | exact (hset_n (by first | assumption | omega)).trans (by first | assumption | exact isLT.ob (by assumption) | exact isRow.ob (by assumption) | exact isHnd.ob (by assumption) | exact isUnt.ob (by assumption) | exact isSt.ob (by assumption) | exact isHist.ob (by assumption) | exact isTxt.ob (by assumption) | exact isLac.ob (by assumption) | exact isMea.ob (by assumption))))) (by first | assumption | omega) (by omega) ?_
            refine K_iadd dL_areLaces_305 ?_
            refine K_iadd dL_areLaces_306 ?_
            refine K_icmp_ne (tgt := 314) dL_areLaces_307 (by decide) (fun c307 => ?_) (fun c307 => ?_)
            · exact absurd (by first | (rw [← w1 c278]; exact Int32.add_comm _ _) | (subst c278; rw [w2]; decide)) c307
            · refine K_iconst (v := 1) dL_areLaces_310 (by decide) ?_
              refine K_goto (tgt := 315) dL_areLaces_311 (by decide) ?_
              refine K_istore dL_areLaces_315 (Nat.le_of_ble_eq_true rfl) (by rfl) ?_
              refine K_iincN dL_areLaces_317 (by rfl) (by decide) (by rfl) ?_
              refine K_goto (tgt := 253) dL_areLaces_320 (by decide) ?_
              exact K_sub (by repeat (first | exact subl_nil | refine subl_cons rfl ?_)) (fin _ _ a269 b269 u269 (ky_tr hf (ky_fr k269 (Or.inr (by omega)))))
          · rw [nI_eq (by omega) (by omega)] at c278
            refine K_iconst (v := 0) dL_areLaces_281 (by decide) ?_
            refine K_goto (tgt := 306) dL_areLaces_282 (by decide) ?_
            refine K_iadd dL_areLaces_306 ?_
            refine K_icmp_ne (tgt := 314) dL_areLaces_307 (by decide) (fun c307 => ?_) (fun c307 => ?_)
            · exact absurd (by first | (rw [← w1 c278]; exact Int32.add_comm _ _) | (subst c278; rw [w2]; decide)) c307
            · refine K_iconst (v := 1) dL_areLaces_310 (by decide) ?_
              refine K_goto (tgt := 315) dL_areLaces_311 (by decide) ?_
              refine K_istore dL_areLaces_315 (Nat.le_of_ble_eq_true rfl) (by rfl) ?_
              refine K_iincN dL_areLaces_317 (by rfl) (by decide) (by rfl) ?_
              refine K_goto (tgt := 253) dL_areLaces_320 (by decide) ?_
              exact K_sub (by repeat (first | exact subl_nil | refine subl_cons rfl ?_)) (fin _ _ a269 b269 u269 (ky_tr hf (ky_fr k269 (Or.inr (by omega)))))
  have ends : ∀ (j a A B : Nat) (hh : HP) (n1 : Nat) (p : Nat → Nat) (g m : Nat → Int32), a + j = 4 → x + 66 ≤ A → x + 66 ≤ B → isIv p (lac σ.1.1 σ.1.1.length).1 → isWd m (lac σ.1.1 σ.1.1.length).2 → hh A = some (.inl (G.2.1 0, 4, .inl g)) → (∀ e, e < 4 → g e = nI (p e)) → hh B = some (.inl (G.2.1 0, 16, .inl m)) → isLT G hh x σ → ky (x + 64) (x + 66) h hh → KJ none G mm_L_areLaces 30 217 [(0, .ref x), (2, .int (nI σ.1.1.length)), (4, .ref A), (5, .ref B), (7, .int 1), (8, .int (nI a))] [] hh n1 (5 * (4 - a)) (30 * (4 - a)) (fun _ => RT mm_L_areLaces (q1 G x h σ)) := by
    intro j
    induction j with
    | zero =>
      intro a A B hh n1 p g m hj hA hB iv wd g1 g2 g3 u hf
      refine K_iload dL_areLaces_217 (by rfl) ?_
      refine K_iconst (v := nI 4) dL_areLaces_219 (by decide) ?_
      refine K_icmp_ge (tgt := 329) dL_areLaces_220 (by decide) (fun c220 => ?_) (fun c220 => ?_)
      · rw [nI_leI (by omega) (by omega)] at c220
        refine K_iload dL_areLaces_329 (by rfl) ?_
        exact K_done ⟨_, (⟨rfl, u, hf⟩), Or.inl ⟨dL_areLaces_331, _, _, rfl, rfl, (by rfl), rfl⟩⟩
      · rw [nI_leI (by omega) (by omega)] at c220
        exact absurd (by omega) c220
    | succ j ih =>
      intro a A B hh n1 p g m hj hA hB iv wd g1 g2 g3 u hf
      obtain ⟨i1, i2, i3, i4⟩ := iv a (by omega)
      refine K_iload dL_areLaces_217 (by rfl) ?_
      refine K_iconst (v := nI 4) dL_areLaces_219 (by decide) ?_
      refine K_icmp_ge (tgt := 329) dL_areLaces_220 (by decide) (fun c220 => ?_) (fun c220 => ?_)
      · rw [nI_leI (by omega) (by omega)] at c220
        exact absurd c220 (by omega)
      · rw [nI_leI (by omega) (by omega)] at c220
        refine K_iload dL_areLaces_223 (by rfl) ?_
        refine K_if_eq (tgt := 247) dL_areLaces_225 (by decide) (fun c225 => ?_) (fun c225 => ?_)
        · exact absurd c225 (by decide)
        · refine K_aload_n dL_areLaces_228 (by rfl) ?_
          refine K_iload_n dL_areLaces_229 (by rfl) ?_
          refine K_aload dL_areLaces_230 (by rfl) ?_
          refine K_iload dL_areLaces_232 (by rfl) ?_
          refine K_ga dL_areLaces_234 (by first | assumption | exact isLT.ob (by assumption) | exact isRow.ob (by assumption) | exact isHnd.ob (by assumption) | exact isUnt.ob (by assumption) | exact isSt.ob (by assumption) | exact isHist.ob (by assumption) | exact isTxt.ob (by assumption) | exact isLac.ob (by assumption) | exact isMea.ob (by assumption) | exact hset_s | exact (hset_n (by first | assumption | omega)).trans (by first | assumption | exact isLT.ob (by assumption) | exact isRow.ob (by assumption) | exact isHnd.ob (by assumption) | exact isUnt.ob (by assumption) | exact isSt.ob (by assumption) | exact isHist.ob (by assumption) | exact isTxt.ob (by assumption) | exact isLac.ob (by assumption) | exact isMea.ob (by assumption) | exact hset_s | exact (hset_n (by first | assumption | omega)).trans (by first | assumption | exact isLT.ob (by assumption) | exact isRow.ob (by assumption) | exact isHnd.ob (by assumption) | exact isUnt.ob (by assumption) | exact isSt.ob (by assumption) | exact isHist.ob (by assumption) | exact isTxt.ob (by assumption) | exact isLac.ob (by assumption) | exact isMea.ob (by assumption) | exact hset_s | exact (hset_n (by first | assumption | omega)).trans (by first | assumption | exact isLT.ob (by assumption) | exact isRow.ob (by assumption) | exact isHnd.ob (by assumption) | exact isUnt.ob (by assumption) | exact isSt.ob (by assumption) | exact isHist.ob (by assumption) | exact isTxt.ob (by assumption) | exact isLac.ob (by assumption) | exact isMea.ob (by assumption))))) (by first | assumption | omega) (by omega) ?_
          rw [g2 a (by omega)]
          refine K_callW2 mf_L_lies (tb_3 (List.mem_of_getElem? (i := 87) rfl) rfl) ms_L_lies (sp_L_lies u ok (nI σ.1.1.length) (nI (p a)) _) dL_areLaces_235 (by decide) (by rfl) rfl (Nat.le_of_ble_eq_true rfl) (by omega) (by omega) (fun v235 h235 n235 q235 => ?_)
          obtain ⟨rfl, u235, k235⟩ := qW_ok (e_lies h2 (Nat.le_refl _) i1) q235
          have a235 := (k235 A (by omega)).trans g1
          have b235 := (k235 B (by omega)).trans g3
          refine K_iload dL_areLaces_238 (by rfl) ?_
          refine K_icmp_ne (tgt := 247) dL_areLaces_240 (by decide) (fun c240 => ?_) (fun c240 => ?_)
          · exact absurd (by rw [i3]) c240
          · refine K_iconst (v := 1) dL_areLaces_243 (by decide) ?_
            refine K_goto (tgt := 248) dL_areLaces_244 (by decide) ?_
            refine K_istore dL_areLaces_248 (Nat.le_of_ble_eq_true rfl) (by rfl) ?_
            refine K_iconst (v := nI 0) dL_areLaces_250 (by decide) ?_
            refine K_istore dL_areLaces_251 (Nat.le_of_ble_eq_true rfl) (by rfl) ?_
            exact K_less (kc2 := 4 - 0 + 5 * (3 - a)) (kn2 := 6 * (4 - 0) + 30 * (3 - a)) (by omega) (by omega) (K_sub (by repeat (first | exact subl_nil | refine subl_cons rfl ?_)) (pairs 4 0 a A B _ _ p g m (by omega) (by omega) hA hB iv wd a235 g2 b235 u235 (ky_tr hf (ky_fr k235 (Or.inr (by omega)))) (fun hh n1 d1 d2 d3 d4 => by
              have := ih (a + 1) A B hh n1 p g m (by omega) hA hB iv wd d1 g2 d2 d3 d4
              rw [show 4 - (a + 1) = 3 - a by omega] at this
              exact this)))
  have go : ∀ (j k bh A B kc kn : Nat) (hh : HP) (n1 : Nat) (p : Nat → Nat) (g m : Nat → Int32), k + j = σ.1.1.length → bh ≤ σ.1.1.length → x + 66 ≤ A → A < B → 20 + (if k ≤ bh then 4 else 0) ≤ kc → 6 * (20 + (if k ≤ bh then 4 else 0)) ≤ kn → isIv p (lac σ.1.1 k).1 → isWd m (lac σ.1.1 k).2 → hh A = some (.inl (G.2.1 0, 4, .inl g)) → (∀ e, e < 4 → g e = nI (p e)) → hh B = some (.inl (G.2.1 0, 16, .inl m)) → isLT G hh x σ → ky (x + 64) (x + 66) h hh → KJ none G mm_L_areLaces 30 45 [(0, .ref x), (2, .int (nI σ.1.1.length)), (3, .ref (x + 65)), (4, .ref A), (5, .ref B), (6, .int (nI bh)), (7, .int (nI k))] [] hh n1 kc kn (fun _ => RT mm_L_areLaces (q1 G x h σ)) := by
    intro j
    induction j with
    | zero =>
      intro k bh A B kc kn hh n1 p g m hj hbh hA hB b1 b2 iv wd g1 g2 g3 u hf
      obtain rfl : k = σ.1.1.length := by omega
      refine K_iload dL_areLaces_45 (by rfl) ?_
      refine K_iload_n dL_areLaces_47 (by rfl) ?_
      refine K_icmp_ge (tgt := 211) dL_areLaces_48 (by decide) (fun c48 => ?_) (fun c48 => ?_)
      · rw [nI_leI (by omega) (by omega)] at c48
        refine K_iconst (v := 1) dL_areLaces_211 (by decide) ?_
        refine K_istore dL_areLaces_212 (Nat.le_of_ble_eq_true rfl) (by rfl) ?_
        refine K_iconst (v := nI 0) dL_areLaces_214 (by decide) ?_
        refine K_istore dL_areLaces_215 (Nat.le_of_ble_eq_true rfl) (by rfl) ?_
        exact K_less (kc2 := 5 * (4 - 0)) (kn2 := 30 * (4 - 0)) (by omega) (by omega) (K_sub (by repeat (first | exact subl_nil | refine subl_cons rfl ?_)) (ends 4 0 A B _ _ p g m (by omega) hA (by omega) iv wd g1 g2 g3 u hf))
      · rw [nI_leI (by omega) (by omega)] at c48
        exact absurd (by omega) c48
    | succ j ih =>
      intro k bh A B kc kn hh n1 p g m hj hbh hA hB b1 b2 iv wd g1 g2 g3 u hf
      obtain ⟨R, r1, r3, hR⟩ := rk_nat (hx k (by omega))
      have hcl : (rk (σ.1.1.getD k 0)).toNatClampNeg = R := by rw [hR, nI_clamp (by omega)]
      obtain ⟨i1, i2, i3, i4⟩ := iv R (by omega)
      obtain ⟨j1, j2, j3, j4⟩ := iv (R - 1) (by omega)
      have hne : (lac σ.1.1 k).1 (R - 1) ≠ (lac σ.1.1 k).1 R := fun q => by
        rw [q, i4] at j4
        omega
      have iv' := isIv_s iv r1 r3
      have wd' := isWd_s wd j2 i2 hne (sg (σ.1.1.getD k 0))
      have lc : lac σ.1.1 (k + 1) = (lacA (lac σ.1.1 k).1 R, lacB (lacB (lac σ.1.1 k).2 ((lac σ.1.1 k).1 (R - 1) * 4 + (lac σ.1.1 k).1 R) (sg (σ.1.1.getD k 0))) ((lac σ.1.1 k).1 R * 4 + (lac σ.1.1 k).1 (R - 1)) (sg (σ.1.1.getD k 0))) := by rw [lac, hcl]
      generalize hlf : (lac σ.1.1 k).1 (R - 1) = lf at *
      generalize hrt : (lac σ.1.1 k).1 R = rt at *
      have find : ∀ (j2 e kc2 kn2 : Nat) (hh : HP) (n1 : Nat), e + j2 = 4 → 20 + (if k + 1 ≤ bh then 4 else 0) ≤ kc2 → 6 * (20 + (if k + 1 ≤ bh then 4 else 0)) ≤ kn2 → hh A = some (.inl (G.2.1 0, 4, .inl g)) → hh B = some (.inl (G.2.1 0, 16, .inl m)) → isLT G hh x σ → ky (x + 64) (x + 66) h hh → KJ none G mm_L_areLaces 30 100 [(0, .ref x), (2, .int (nI σ.1.1.length)), (3, .ref (x + 65)), (4, .ref A), (5, .ref B), (6, .int (nI bh)), (7, .int (nI k)), (8, .int (nI (if lf < e then lf else 0))), (9, .int (nI (if rt < e then rt else 0))), (10, .int (nI e))] [] hh n1 kc2 kn2 (fun _ => RT mm_L_areLaces (q1 G x h σ)) := by
        intro j2
        induction j2 with
        | zero =>
          intro e kc2 kn2 hh n1 hj b1 b2 g1 g3 u hf
          have hr1 := (hf (x + 65) (by omega) (by omega)).trans h1
          rw [if_pos (show lf < e by omega), if_pos (show rt < e by omega)]
          have fin : ∀ s : Int32, s = sg (σ.1.1.getD k 0) → ∀ n1, KJ none G mm_L_areLaces 30 45 [(0, .ref x), (2, .int (nI σ.1.1.length)), (3, .ref (x + 65)), (4, .ref A), (5, .ref B), (6, .int (nI bh)), (7, .int (nI (k + 1)))] [] (hset (hset (hset hh A (.inl (G.2.1 0, 4, .inl (upd g lf (nI R))))) A (.inl (G.2.1 0, 4, .inl (upd (upd g lf (nI R)) rt (nI (R - 1)))))) B (.inl (G.2.1 0, 16, .inl (upd m (4 * lf + rt) (m (4 * lf + rt) + s))))) n1 kc2 kn2 (fun _ => RT mm_L_areLaces (q1 G x h σ)) := fun s hs n1 => by
            refine ih (k + 1) bh A B kc2 kn2 _ n1 _ _ _ (by omega) hbh hA hB b1 b2 (by rw [lc]; exact iv') (by rw [lc, hs]; exact wd') ((hset_n (by omega)).trans hset_s) (fun e he => ?_) hset_s (isLT_ky u (ky_tr (ky_set (Or.inr (by omega))) (ky_tr (ky_set (Or.inr (by omega))) (ky_set (Or.inr (by omega)))))) (ky_tr hf (ky_tr (ky_set (Or.inr (by omega))) (ky_tr (ky_set (Or.inr (by omega))) (ky_set (Or.inr (by omega))))))
            by_cases q1 : e = rt
            · rw [q1, upd_s, if_pos rfl]
            · rw [upd_n q1, if_neg q1]
              by_cases q2 : e = lf
              · rw [q2, upd_s, if_pos rfl]
              · rw [upd_n q2, if_neg q2]; exact g2 e he
          refine K_iload dL_areLaces_100 (by rfl) ?_
          refine K_iconst (v := nI 4) dL_areLaces_102 (by decide) ?_
          refine K_icmp_ge (tgt := 162) dL_areLaces_103 (by decide) (fun c103 => ?_) (fun c103 => ?_)
          · rw [nI_leI (by omega) (by omega)] at c103
            refine K_aload dL_areLaces_162 (by rfl) ?_
            refine K_iload dL_areLaces_164 (by rfl) ?_
            refine K_dup2 dL_areLaces_166 rfl rfl ?_
            refine K_ga dL_areLaces_167 (by first | assumption | exact isLT.ob (by assumption) | exact isRow.ob (by assumption) | exact isHnd.ob (by assumption) | exact isUnt.ob (by assumption) | exact isSt.ob (by assumption) | exact isHist.ob (by assumption) | exact isTxt.ob (by assumption) | exact isLac.ob (by assumption) | exact isMea.ob (by assumption) | exact hset_s | exact (hset_n (by first | assumption | omega)).trans (by first | assumption | exact isLT.ob (by assumption) | exact isRow.ob (by assumption) | exact isHnd.ob (by assumption) | exact isUnt.ob (by assumption) | exact isSt.ob (by assumption) | exact isHist.ob (by assumption) | exact isTxt.ob (by assumption) | exact isLac.ob (by assumption) | exact isMea.ob (by assumption) | exact hset_s | exact (hset_n (by first | assumption | omega)).trans (by first | assumption | exact isLT.ob (by assumption) | exact isRow.ob (by assumption) | exact isHnd.ob (by assumption) | exact isUnt.ob (by assumption) | exact isSt.ob (by assumption) | exact isHist.ob (by assumption) | exact isTxt.ob (by assumption) | exact isLac.ob (by assumption) | exact isMea.ob (by assumption) | exact hset_s | exact (hset_n (by first | assumption | omega)).trans (by first | assumption | exact isLT.ob (by assumption) | exact isRow.ob (by assumption) | exact isHnd.ob (by assumption) | exact isUnt.ob (by assumption) | exact isSt.ob (by assumption) | exact isHist.ob (by assumption) | exact isTxt.ob (by assumption) | exact isLac.ob (by assumption) | exact isMea.ob (by assumption))))) (by first | assumption | omega) (by omega) ?_
            rw [g2 lf (by omega), j4]
            refine K_iconst (v := nI 1) dL_areLaces_168 (by decide) ?_
            refine K_iadd dL_areLaces_169 ?_
            rw [nI_add, show R - 1 + 1 = R by omega]
            refine K_pa dL_areLaces_170 (by first | assumption | exact isLT.ob (by assumption) | exact isRow.ob (by assumption) | exact isHnd.ob (by assumption) | exact isUnt.ob (by assumption) | exact isSt.ob (by assumption) | exact isHist.ob (by assumption) | exact isTxt.ob (by assumption) | exact isLac.ob (by assumption) | exact isMea.ob (by assumption) | exact hset_s | exact (hset_n (by first | assumption | omega)).trans (by first | assumption | exact isLT.ob (by assumption) | exact isRow.ob (by assumption) | exact isHnd.ob (by assumption) | exact isUnt.ob (by assumption) | exact isSt.ob (by assumption) | exact isHist.ob (by assumption) | exact isTxt.ob (by assumption) | exact isLac.ob (by assumption) | exact isMea.ob (by assumption) | exact hset_s | exact (hset_n (by first | assumption | omega)).trans (by first | assumption | exact isLT.ob (by assumption) | exact isRow.ob (by assumption) | exact isHnd.ob (by assumption) | exact isUnt.ob (by assumption) | exact isSt.ob (by assumption) | exact isHist.ob (by assumption) | exact isTxt.ob (by assumption) | exact isLac.ob (by assumption) | exact isMea.ob (by assumption) | exact hset_s | exact (hset_n (by first | assumption | omega)).trans (by first | assumption | exact isLT.ob (by assumption) | exact isRow.ob (by assumption) | exact isHnd.ob (by assumption) | exact isUnt.ob (by assumption) | exact isSt.ob (by assumption) | exact isHist.ob (by assumption) | exact isTxt.ob (by assumption) | exact isLac.ob (by assumption) | exact isMea.ob (by assumption))))) (by first | assumption | omega) (by omega) ?_
            refine K_aload dL_areLaces_171 (by rfl) ?_
            refine K_iload dL_areLaces_173 (by rfl) ?_
            refine K_dup2 dL_areLaces_175 rfl rfl ?_
            refine K_ga dL_areLaces_176 (by first | assumption | exact isLT.ob (by assumption) | exact isRow.ob (by assumption) | exact isHnd.ob (by assumption) | exact isUnt.ob (by assumption) | exact isSt.ob (by assumption) | exact isHist.ob (by assumption) | exact isTxt.ob (by assumption) | exact isLac.ob (by assumption) | exact isMea.ob (by assumption) | exact hset_s | exact (hset_n (by first | assumption | omega)).trans (by first | assumption | exact isLT.ob (by assumption) | exact isRow.ob (by assumption) | exact isHnd.ob (by assumption) | exact isUnt.ob (by assumption) | exact isSt.ob (by assumption) | exact isHist.ob (by assumption) | exact isTxt.ob (by assumption) | exact isLac.ob (by assumption) | exact isMea.ob (by assumption) | exact hset_s | exact (hset_n (by first | assumption | omega)).trans (by first | assumption | exact isLT.ob (by assumption) | exact isRow.ob (by assumption) | exact isHnd.ob (by assumption) | exact isUnt.ob (by assumption) | exact isSt.ob (by assumption) | exact isHist.ob (by assumption) | exact isTxt.ob (by assumption) | exact isLac.ob (by assumption) | exact isMea.ob (by assumption) | exact hset_s | exact (hset_n (by first | assumption | omega)).trans (by first | assumption | exact isLT.ob (by assumption) | exact isRow.ob (by assumption) | exact isHnd.ob (by assumption) | exact isUnt.ob (by assumption) | exact isSt.ob (by assumption) | exact isHist.ob (by assumption) | exact isTxt.ob (by assumption) | exact isLac.ob (by assumption) | exact isMea.ob (by assumption))))) (by first | assumption | omega) (by omega) ?_
            rw [upd_n (Ne.symm hne), g2 rt (by omega), i4]
            refine K_iconst (v := nI 1) dL_areLaces_177 (by decide) ?_
            refine K_isub dL_areLaces_178 ?_
            rw [pk_sub (by omega)]
            refine K_pa dL_areLaces_179 (by first | assumption | exact isLT.ob (by assumption) | exact isRow.ob (by assumption) | exact isHnd.ob (by assumption) | exact isUnt.ob (by assumption) | exact isSt.ob (by assumption) | exact isHist.ob (by assumption) | exact isTxt.ob (by assumption) | exact isLac.ob (by assumption) | exact isMea.ob (by assumption) | exact hset_s | exact (hset_n (by first | assumption | omega)).trans (by first | assumption | exact isLT.ob (by assumption) | exact isRow.ob (by assumption) | exact isHnd.ob (by assumption) | exact isUnt.ob (by assumption) | exact isSt.ob (by assumption) | exact isHist.ob (by assumption) | exact isTxt.ob (by assumption) | exact isLac.ob (by assumption) | exact isMea.ob (by assumption) | exact hset_s | exact (hset_n (by first | assumption | omega)).trans (by first | assumption | exact isLT.ob (by assumption) | exact isRow.ob (by assumption) | exact isHnd.ob (by assumption) | exact isUnt.ob (by assumption) | exact isSt.ob (by assumption) | exact isHist.ob (by assumption) | exact isTxt.ob (by assumption) | exact isLac.ob (by assumption) | exact isMea.ob (by assumption) | exact hset_s | exact (hset_n (by first | assumption | omega)).trans (by first | assumption | exact isLT.ob (by assumption) | exact isRow.ob (by assumption) | exact isHnd.ob (by assumption) | exact isUnt.ob (by assumption) | exact isSt.ob (by assumption) | exact isHist.ob (by assumption) | exact isTxt.ob (by assumption) | exact isLac.ob (by assumption) | exact isMea.ob (by assumption))))) (by first | assumption | omega) (by omega) ?_
            refine K_aload dL_areLaces_180 (by rfl) ?_
            refine K_iconst (v := nI 4) dL_areLaces_182 (by decide) ?_
            refine K_iload dL_areLaces_183 (by rfl) ?_
            refine K_imul dL_areLaces_185 ?_
            rw [pk_mul]
            refine K_iload dL_areLaces_186 (by rfl) ?_
            refine K_iadd dL_areLaces_188 ?_
            rw [nI_add]
            refine K_dup2 dL_areLaces_189 rfl rfl ?_
            refine K_ga dL_areLaces_190 (by first | assumption | exact isLT.ob (by assumption) | exact isRow.ob (by assumption) | exact isHnd.ob (by assumption) | exact isUnt.ob (by assumption) | exact isSt.ob (by assumption) | exact isHist.ob (by assumption) | exact isTxt.ob (by assumption) | exact isLac.ob (by assumption) | exact isMea.ob (by assumption) | exact hset_s | exact (hset_n (by first | assumption | omega)).trans (by first | assumption | exact isLT.ob (by assumption) | exact isRow.ob (by assumption) | exact isHnd.ob (by assumption) | exact isUnt.ob (by assumption) | exact isSt.ob (by assumption) | exact isHist.ob (by assumption) | exact isTxt.ob (by assumption) | exact isLac.ob (by assumption) | exact isMea.ob (by assumption) | exact hset_s | exact (hset_n (by first | assumption | omega)).trans (by first | assumption | exact isLT.ob (by assumption) | exact isRow.ob (by assumption) | exact isHnd.ob (by assumption) | exact isUnt.ob (by assumption) | exact isSt.ob (by assumption) | exact isHist.ob (by assumption) | exact isTxt.ob (by assumption) | exact isLac.ob (by assumption) | exact isMea.ob (by assumption) | exact hset_s | exact (hset_n (by first | assumption | omega)).trans (by first | assumption | exact isLT.ob (by assumption) | exact isRow.ob (by assumption) | exact isHnd.ob (by assumption) | exact isUnt.ob (by assumption) | exact isSt.ob (by assumption) | exact isHist.ob (by assumption) | exact isTxt.ob (by assumption) | exact isLac.ob (by assumption) | exact isMea.ob (by assumption))))) (by first | assumption | omega) (by omega) ?_
            refine K_aload_n dL_areLaces_191 (by rfl) ?_
            refine K_iload dL_areLaces_192 (by rfl) ?_
            refine K_ga dL_areLaces_194 (by first | assumption | exact isLT.ob (by assumption) | exact isRow.ob (by assumption) | exact isHnd.ob (by assumption) | exact isUnt.ob (by assumption) | exact isSt.ob (by assumption) | exact isHist.ob (by assumption) | exact isTxt.ob (by assumption) | exact isLac.ob (by assumption) | exact isMea.ob (by assumption) | exact hset_s | exact (hset_n (by first | assumption | omega)).trans (by first | assumption | exact isLT.ob (by assumption) | exact isRow.ob (by assumption) | exact isHnd.ob (by assumption) | exact isUnt.ob (by assumption) | exact isSt.ob (by assumption) | exact isHist.ob (by assumption) | exact isTxt.ob (by assumption) | exact isLac.ob (by assumption) | exact isMea.ob (by assumption) | exact hset_s | exact (hset_n (by first | assumption | omega)).trans (by first | assumption | exact isLT.ob (by assumption) | exact isRow.ob (by assumption) | exact isHnd.ob (by assumption) | exact isUnt.ob (by assumption) | exact isSt.ob (by assumption) | exact isHist.ob (by assumption) | exact isTxt.ob (by assumption) | exact isLac.ob (by assumption) | exact isMea.ob (by assumption) | exact hset_s | exact (hset_n (by first | assumption | omega)).trans (by first | assumption | exact isLT.ob (by assumption) | exact isRow.ob (by assumption) | exact isHnd.ob (by assumption) | exact isUnt.ob (by assumption) | exact isSt.ob (by assumption) | exact isHist.ob (by assumption) | exact isTxt.ob (by assumption) | exact isLac.ob (by assumption) | exact isMea.ob (by assumption))))) (by first | assumption | omega) (by omega) ?_
            rw [h3 k (by omega)]
            refine K_if_le (tgt := 202) dL_areLaces_195 (by decide) (fun c195 => ?_) (fun c195 => ?_)
            · refine K_iconst (v := (-1)) dL_areLaces_202 (by decide) ?_
              refine K_iadd dL_areLaces_203 ?_
              refine K_pa dL_areLaces_204 (by first | assumption | exact isLT.ob (by assumption) | exact isRow.ob (by assumption) | exact isHnd.ob (by assumption) | exact isUnt.ob (by assumption) | exact isSt.ob (by assumption) | exact isHist.ob (by assumption) | exact isTxt.ob (by assumption) | exact isLac.ob (by assumption) | exact isMea.ob (by assumption) | exact hset_s | exact (hset_n (by first | assumption | omega)).trans (by first | assumption | exact isLT.ob (by assumption) | exact isRow.ob (by assumption) | exact isHnd.ob (by assumption) | exact isUnt.ob (by assumption) | exact isSt.ob (by assumption) | exact isHist.ob (by assumption) | exact isTxt.ob (by assumption) | exact isLac.ob (by assumption) | exact isMea.ob (by assumption) | exact hset_s | exact (hset_n (by first | assumption | omega)).trans (by first | assumption | exact isLT.ob (by assumption) | exact isRow.ob (by assumption) | exact isHnd.ob (by assumption) | exact isUnt.ob (by assumption) | exact isSt.ob (by assumption) | exact isHist.ob (by assumption) | exact isTxt.ob (by assumption) | exact isLac.ob (by assumption) | exact isMea.ob (by assumption) | exact hset_s | exact (hset_n (by first | assumption | omega)).trans (by first | assumption | exact isLT.ob (by assumption) | exact isRow.ob (by assumption) | exact isHnd.ob (by assumption) | exact isUnt.ob (by assumption) | exact isSt.ob (by assumption) | exact isHist.ob (by assumption) | exact isTxt.ob (by assumption) | exact isLac.ob (by assumption) | exact isMea.ob (by assumption))))) (by first | assumption | omega) (by omega) ?_
              refine K_iincN dL_areLaces_205 (by rfl) (by decide) (by rfl) ?_
              refine K_goto (tgt := 45) dL_areLaces_208 (by decide) ?_
              first | (have c9 := lsxp (hx k (by omega)) c195; exact K_sub (by repeat (first | exact subl_nil | refine subl_cons rfl ?_)) (fin 1 c9 _)) | (have c9 := lsxn (hx k (by omega)) c195; exact K_sub (by repeat (first | exact subl_nil | refine subl_cons rfl ?_)) (fin (-1) c9 _))
            · refine K_iconst (v := 1) dL_areLaces_198 (by decide) ?_
              refine K_goto (tgt := 203) dL_areLaces_199 (by decide) ?_
              refine K_iadd dL_areLaces_203 ?_
              refine K_pa dL_areLaces_204 (by first | assumption | exact isLT.ob (by assumption) | exact isRow.ob (by assumption) | exact isHnd.ob (by assumption) | exact isUnt.ob (by assumption) | exact isSt.ob (by assumption) | exact isHist.ob (by assumption) | exact isTxt.ob (by assumption) | exact isLac.ob (by assumption) | exact isMea.ob (by assumption) | exact hset_s | exact (hset_n (by first | assumption | omega)).trans (by first | assumption | exact isLT.ob (by assumption) | exact isRow.ob (by assumption) | exact isHnd.ob (by assumption) | exact isUnt.ob (by assumption) | exact isSt.ob (by assumption) | exact isHist.ob (by assumption) | exact isTxt.ob (by assumption) | exact isLac.ob (by assumption) | exact isMea.ob (by assumption) | exact hset_s | exact (hset_n (by first | assumption | omega)).trans (by first | assumption | exact isLT.ob (by assumption) | exact isRow.ob (by assumption) | exact isHnd.ob (by assumption) | exact isUnt.ob (by assumption) | exact isSt.ob (by assumption) | exact isHist.ob (by assumption) | exact isTxt.ob (by assumption) | exact isLac.ob (by assumption) | exact isMea.ob (by assumption) | exact hset_s | exact (hset_n (by first | assumption | omega)).trans (by first | assumption | exact isLT.ob (by assumption) | exact isRow.ob (by assumption) | exact isHnd.ob (by assumption) | exact isUnt.ob (by assumption) | exact isSt.ob (by assumption) | exact isHist.ob (by assumption) | exact isTxt.ob (by assumption) | exact isLac.ob (by assumption) | exact isMea.ob (by assumption))))) (by first | assumption | omega) (by omega) ?_
              refine K_iincN dL_areLaces_205 (by rfl) (by decide) (by rfl) ?_
              refine K_goto (tgt := 45) dL_areLaces_208 (by decide) ?_
              first | (have c9 := lsxp (hx k (by omega)) c195; exact K_sub (by repeat (first | exact subl_nil | refine subl_cons rfl ?_)) (fin 1 c9 _)) | (have c9 := lsxn (hx k (by omega)) c195; exact K_sub (by repeat (first | exact subl_nil | refine subl_cons rfl ?_)) (fin (-1) c9 _))
          · rw [nI_leI (by omega) (by omega)] at c103
            exact absurd (by omega) c103
        | succ j2 ih2 =>
          intro e kc2 kn2 hh n1 hj b1 b2 g1 g3 u hf
          have hr1 := (hf (x + 65) (by omega) (by omega)).trans h1
          obtain ⟨e1, e2, e3, e4⟩ := iv e (by omega)
          have q1 : p e = R - 1 ↔ e = lf := ⟨fun q => by rw [← hlf, ← q, e3], fun q => by rw [q]; exact j4⟩
          have q2 : p e = R ↔ e = rt := ⟨fun q => by rw [← hrt, ← q, e3], fun q => by rw [q]; exact i4⟩
          refine K_iload dL_areLaces_100 (by rfl) ?_
          refine K_iconst (v := nI 4) dL_areLaces_102 (by decide) ?_
          refine K_icmp_ge (tgt := 162) dL_areLaces_103 (by decide) (fun c103 => ?_) (fun c103 => ?_)
          · rw [nI_leI (by omega) (by omega)] at c103
            exact absurd c103 (by omega)
          · rw [nI_leI (by omega) (by omega)] at c103
            refine K_aload dL_areLaces_106 (by rfl) ?_
            refine K_iload dL_areLaces_108 (by rfl) ?_
            refine K_ga dL_areLaces_110 (by first | assumption | exact isLT.ob (by assumption) | exact isRow.ob (by assumption) | exact isHnd.ob (by assumption) | exact isUnt.ob (by assumption) | exact isSt.ob (by assumption) | exact isHist.ob (by assumption) | exact isTxt.ob (by assumption) | exact isLac.ob (by assumption) | exact isMea.ob (by assumption) | exact hset_s | exact (hset_n (by first | assumption | omega)).trans (by first | assumption | exact isLT.ob (by assumption) | exact isRow.ob (by assumption) | exact isHnd.ob (by assumption) | exact isUnt.ob (by assumption) | exact isSt.ob (by assumption) | exact isHist.ob (by assumption) | exact isTxt.ob (by assumption) | exact isLac.ob (by assumption) | exact isMea.ob (by assumption) | exact hset_s | exact (hset_n (by first | assumption | omega)).trans (by first | assumption | exact isLT.ob (by assumption) | exact isRow.ob (by assumption) | exact isHnd.ob (by assumption) | exact isUnt.ob (by assumption) | exact isSt.ob (by assumption) | exact isHist.ob (by assumption) | exact isTxt.ob (by assumption) | exact isLac.ob (by assumption) | exact isMea.ob (by assumption) | exact hset_s | exact (hset_n (by first | assumption | omega)).trans (by first | assumption | exact isLT.ob (by assumption) | exact isRow.ob (by assumption) | exact isHnd.ob (by assumption) | exact isUnt.ob (by assumption) | exact isSt.ob (by assumption) | exact isHist.ob (by assumption) | exact isTxt.ob (by assumption) | exact isLac.ob (by assumption) | exact isMea.ob (by assumption))))) (by first | assumption | omega) (by omega) ?_
            rw [g2 e (by omega)]
            refine K_aload_n dL_areLaces_111 (by rfl) ?_
            refine K_iload dL_areLaces_112 (by rfl) ?_
            refine K_ga dL_areLaces_114 (by first | assumption | exact isLT.ob (by assumption) | exact isRow.ob (by assumption) | exact isHnd.ob (by assumption) | exact isUnt.ob (by assumption) | exact isSt.ob (by assumption) | exact isHist.ob (by assumption) | exact isTxt.ob (by assumption) | exact isLac.ob (by assumption) | exact isMea.ob (by assumption) | exact hset_s | exact (hset_n (by first | assumption | omega)).trans (by first | assumption | exact isLT.ob (by assumption) | exact isRow.ob (by assumption) | exact isHnd.ob (by assumption) | exact isUnt.ob (by assumption) | exact isSt.ob (by assumption) | exact isHist.ob (by assumption) | exact isTxt.ob (by assumption) | exact isLac.ob (by assumption) | exact isMea.ob (by assumption) | exact hset_s | exact (hset_n (by first | assumption | omega)).trans (by first | assumption | exact isLT.ob (by assumption) | exact isRow.ob (by assumption) | exact isHnd.ob (by assumption) | exact isUnt.ob (by assumption) | exact isSt.ob (by assumption) | exact isHist.ob (by assumption) | exact isTxt.ob (by assumption) | exact isLac.ob (by assumption) | exact isMea.ob (by assumption) | exact hset_s | exact (hset_n (by first | assumption | omega)).trans (by first | assumption | exact isLT.ob (by assumption) | exact isRow.ob (by assumption) | exact isHnd.ob (by assumption) | exact isUnt.ob (by assumption) | exact isSt.ob (by assumption) | exact isHist.ob (by assumption) | exact isTxt.ob (by assumption) | exact isLac.ob (by assumption) | exact isMea.ob (by assumption))))) (by first | assumption | omega) (by omega) ?_
            rw [h3 k (by omega)]
            refine K_callS mf_L_rank lk_L_63 ms_L_rank (sp_L_rank _ (σ.1.1.getD k 0) _) dL_areLaces_115 (by decide) (by rfl) rfl (Nat.le_of_ble_eq_true rfl) (Nat.zero_add _) (Nat.zero_add _) (fun v115 h115 n115 q115 => ?_)
            obtain ⟨rfl, rfl⟩ := q115
            rw [hR]
            refine K_iconst (v := nI 1) dL_areLaces_118 (by decide) ?_
            refine K_isub dL_areLaces_119 ?_
            rw [pk_sub (by omega)]
            refine K_icmp_ne (tgt := 128) dL_areLaces_120 (by decide) (fun c120 => ?_) (fun c120 => ?_)
            · rw [nI_eq (by omega) (by omega)] at c120
              rw [q1] at c120
              refine K_iload dL_areLaces_128 (by rfl) ?_
              refine K_istore dL_areLaces_130 (Nat.le_of_ble_eq_true rfl) (by rfl) ?_
              refine K_aload dL_areLaces_132 (by rfl) ?_
              refine K_iload dL_areLaces_134 (by rfl) ?_
              refine K_ga dL_areLaces_136 (by first | assumption | exact isLT.ob (by assumption) | exact isRow.ob (by assumption) | exact isHnd.ob (by assumption) | exact isUnt.ob (by assumption) | exact isSt.ob (by assumption) | exact isHist.ob (by assumption) | exact isTxt.ob (by assumption) | exact isLac.ob (by assumption) | exact isMea.ob (by assumption) | exact hset_s | exact (hset_n (by first | assumption | omega)).trans (by first | assumption | exact isLT.ob (by assumption) | exact isRow.ob (by assumption) | exact isHnd.ob (by assumption) | exact isUnt.ob (by assumption) | exact isSt.ob (by assumption) | exact isHist.ob (by assumption) | exact isTxt.ob (by assumption) | exact isLac.ob (by assumption) | exact isMea.ob (by assumption) | exact hset_s | exact (hset_n (by first | assumption | omega)).trans (by first | assumption | exact isLT.ob (by assumption) | exact isRow.ob (by assumption) | exact isHnd.ob (by assumption) | exact isUnt.ob (by assumption) | exact isSt.ob (by assumption) | exact isHist.ob (by assumption) | exact isTxt.ob (by assumption) | exact isLac.ob (by assumption) | exact isMea.ob (by assumption) | exact hset_s | exact (hset_n (by first | assumption | omega)).trans (by first | assumption | exact isLT.ob (by assumption) | exact isRow.ob (by assumption) | exact isHnd.ob (by assumption) | exact isUnt.ob (by assumption) | exact isSt.ob (by assumption) | exact isHist.ob (by assumption) | exact isTxt.ob (by assumption) | exact isLac.ob (by assumption) | exact isMea.ob (by assumption))))) (by first | assumption | omega) (by omega) ?_
              rw [g2 e (by omega)]
              refine K_aload_n dL_areLaces_137 (by rfl) ?_
              refine K_iload dL_areLaces_138 (by rfl) ?_
              refine K_ga dL_areLaces_140 (by first | assumption | exact isLT.ob (by assumption) | exact isRow.ob (by assumption) | exact isHnd.ob (by assumption) | exact isUnt.ob (by assumption) | exact isSt.ob (by assumption) | exact isHist.ob (by assumption) | exact isTxt.ob (by assumption) | exact isLac.ob (by assumption) | exact isMea.ob (by assumption) | exact hset_s | exact (hset_n (by first | assumption | omega)).trans (by first | assumption | exact isLT.ob (by assumption) | exact isRow.ob (by assumption) | exact isHnd.ob (by assumption) | exact isUnt.ob (by assumption) | exact isSt.ob (by assumption) | exact isHist.ob (by assumption) | exact isTxt.ob (by assumption) | exact isLac.ob (by assumption) | exact isMea.ob (by assumption) | exact hset_s | exact (hset_n (by first | assumption | omega)).trans (by first | assumption | exact isLT.ob (by assumption) | exact isRow.ob (by assumption) | exact isHnd.ob (by assumption) | exact isUnt.ob (by assumption) | exact isSt.ob (by assumption) | exact isHist.ob (by assumption) | exact isTxt.ob (by assumption) | exact isLac.ob (by assumption) | exact isMea.ob (by assumption) | exact hset_s | exact (hset_n (by first | assumption | omega)).trans (by first | assumption | exact isLT.ob (by assumption) | exact isRow.ob (by assumption) | exact isHnd.ob (by assumption) | exact isUnt.ob (by assumption) | exact isSt.ob (by assumption) | exact isHist.ob (by assumption) | exact isTxt.ob (by assumption) | exact isLac.ob (by assumption) | exact isMea.ob (by assumption))))) (by first | assumption | omega) (by omega) ?_
              rw [h3 k (by omega)]
              refine K_callS mf_L_rank lk_L_63 ms_L_rank (sp_L_rank _ (σ.1.1.getD k 0) _) dL_areLaces_141 (by decide) (by rfl) rfl (Nat.le_of_ble_eq_true rfl) (Nat.zero_add _) (Nat.zero_add _) (fun v141 h141 n141 q141 => ?_)
              obtain ⟨rfl, rfl⟩ := q141
              rw [hR]
              refine K_icmp_ne (tgt := 152) dL_areLaces_144 (by decide) (fun c144 => ?_) (fun c144 => ?_)
              · rw [nI_eq (by omega) (by omega)] at c144
                rw [q2] at c144
                refine K_iload dL_areLaces_152 (by rfl) ?_
                refine K_istore dL_areLaces_154 (Nat.le_of_ble_eq_true rfl) (by rfl) ?_
                refine K_iincN dL_areLaces_156 (by rfl) (by decide) (by rfl) ?_
                refine K_goto (tgt := 100) dL_areLaces_159 (by decide) ?_
                exact K_sub (subl_cons rfl (subl_cons rfl (subl_cons rfl (subl_cons rfl (subl_cons rfl (subl_cons rfl (subl_cons rfl (subl_cons (by show some (Value.int (nI _)) = some (Value.int (nI _)); first | (rw [if_pos (show lf < e + 1 by omega), show lf = e by omega]) | (by_cases z : lf < e; (rw [if_pos z, if_pos (by omega)]); (rw [if_neg z, if_neg (by omega)]))) (subl_cons (by show some (Value.int (nI _)) = some (Value.int (nI _)); first | (rw [if_pos (show rt < e + 1 by omega), show rt = e by omega]) | (by_cases z : rt < e; (rw [if_pos z, if_pos (by omega)]); (rw [if_neg z, if_neg (by omega)]))) (subl_cons rfl subl_nil)))))))))) (ih2 (e + 1) kc2 kn2 _ _ (by omega) b1 b2 g1 g3 u hf)
              · rw [nI_eq (by omega) (by omega)] at c144
                rw [q2] at c144
                refine K_iload dL_areLaces_147 (by rfl) ?_
                refine K_goto (tgt := 154) dL_areLaces_149 (by decide) ?_
                refine K_istore dL_areLaces_154 (Nat.le_of_ble_eq_true rfl) (by rfl) ?_
                refine K_iincN dL_areLaces_156 (by rfl) (by decide) (by rfl) ?_
                refine K_goto (tgt := 100) dL_areLaces_159 (by decide) ?_
                exact K_sub (subl_cons rfl (subl_cons rfl (subl_cons rfl (subl_cons rfl (subl_cons rfl (subl_cons rfl (subl_cons rfl (subl_cons (by show some (Value.int (nI _)) = some (Value.int (nI _)); first | (rw [if_pos (show lf < e + 1 by omega), show lf = e by omega]) | (by_cases z : lf < e; (rw [if_pos z, if_pos (by omega)]); (rw [if_neg z, if_neg (by omega)]))) (subl_cons (by show some (Value.int (nI _)) = some (Value.int (nI _)); first | (rw [if_pos (show rt < e + 1 by omega), show rt = e by omega]) | (by_cases z : rt < e; (rw [if_pos z, if_pos (by omega)]); (rw [if_neg z, if_neg (by omega)]))) (subl_cons rfl subl_nil)))))))))) (ih2 (e + 1) kc2 kn2 _ _ (by omega) b1 b2 g1 g3 u hf)
            · rw [nI_eq (by omega) (by omega)] at c120
              rw [q1] at c120
              refine K_iload dL_areLaces_123 (by rfl) ?_
              refine K_goto (tgt := 130) dL_areLaces_125 (by decide) ?_
              refine K_istore dL_areLaces_130 (Nat.le_of_ble_eq_true rfl) (by rfl) ?_
              refine K_aload dL_areLaces_132 (by rfl) ?_
              refine K_iload dL_areLaces_134 (by rfl) ?_
              refine K_ga dL_areLaces_136 (by first | assumption | exact isLT.ob (by assumption) | exact isRow.ob (by assumption) | exact isHnd.ob (by assumption) | exact isUnt.ob (by assumption) | exact isSt.ob (by assumption) | exact isHist.ob (by assumption) | exact isTxt.ob (by assumption) | exact isLac.ob (by assumption) | exact isMea.ob (by assumption) | exact hset_s | exact (hset_n (by first | assumption | omega)).trans (by first | assumption | exact isLT.ob (by assumption) | exact isRow.ob (by assumption) | exact isHnd.ob (by assumption) | exact isUnt.ob (by assumption) | exact isSt.ob (by assumption) | exact isHist.ob (by assumption) | exact isTxt.ob (by assumption) | exact isLac.ob (by assumption) | exact isMea.ob (by assumption) | exact hset_s | exact (hset_n (by first | assumption | omega)).trans (by first | assumption | exact isLT.ob (by assumption) | exact isRow.ob (by assumption) | exact isHnd.ob (by assumption) | exact isUnt.ob (by assumption) | exact isSt.ob (by assumption) | exact isHist.ob (by assumption) | exact isTxt.ob (by assumption) | exact isLac.ob (by assumption) | exact isMea.ob (by assumption) | exact hset_s | exact (hset_n (by first | assumption | omega)).trans (by first | assumption | exact isLT.ob (by assumption) | exact isRow.ob (by assumption) | exact isHnd.ob (by assumption) | exact isUnt.ob (by assumption) | exact isSt.ob (by assumption) | exact isHist.ob (by assumption) | exact isTxt.ob (by assumption) | exact isLac.ob (by assumption) | exact isMea.ob (by assumption))))) (by first | assumption | omega) (by omega) ?_
              rw [g2 e (by omega)]
              refine K_aload_n dL_areLaces_137 (by rfl) ?_
              refine K_iload dL_areLaces_138 (by rfl) ?_
              refine K_ga dL_areLaces_140 (by first | assumption | exact isLT.ob (by assumption) | exact isRow.ob (by assumption) | exact isHnd.ob (by assumption) | exact isUnt.ob (by assumption) | exact isSt.ob (by assumption) | exact isHist.ob (by assumption) | exact isTxt.ob (by assumption) | exact isLac.ob (by assumption) | exact isMea.ob (by assumption) | exact hset_s | exact (hset_n (by first | assumption | omega)).trans (by first | assumption | exact isLT.ob (by assumption) | exact isRow.ob (by assumption) | exact isHnd.ob (by assumption) | exact isUnt.ob (by assumption) | exact isSt.ob (by assumption) | exact isHist.ob (by assumption) | exact isTxt.ob (by assumption) | exact isLac.ob (by assumption) | exact isMea.ob (by assumption) | exact hset_s | exact (hset_n (by first | assumption | omega)).trans (by first | assumption | exact isLT.ob (by assumption) | exact isRow.ob (by assumption) | exact isHnd.ob (by assumption) | exact isUnt.ob (by assumption) | exact isSt.ob (by assumption) | exact isHist.ob (by assumption) | exact isTxt.ob (by assumption) | exact isLac.ob (by assumption) | exact isMea.ob (by assumption) | exact hset_s | exact (hset_n (by first | assumption | omega)).trans (by first | assumption | exact isLT.ob (by assumption) | exact isRow.ob (by assumption) | exact isHnd.ob (by assumption) | exact isUnt.ob (by assumption) | exact isSt.ob (by assumption) | exact isHist.ob (by assumption) | exact isTxt.ob (by assumption) | exact isLac.ob (by assumption) | exact isMea.ob (by assumption))))) (by first | assumption | omega) (by omega) ?_
              rw [h3 k (by omega)]
              refine K_callS mf_L_rank lk_L_63 ms_L_rank (sp_L_rank _ (σ.1.1.getD k 0) _) dL_areLaces_141 (by decide) (by rfl) rfl (Nat.le_of_ble_eq_true rfl) (Nat.zero_add _) (Nat.zero_add _) (fun v141 h141 n141 q141 => ?_)
              obtain ⟨rfl, rfl⟩ := q141
              rw [hR]
              refine K_icmp_ne (tgt := 152) dL_areLaces_144 (by decide) (fun c144 => ?_) (fun c144 => ?_)
              · rw [nI_eq (by omega) (by omega)] at c144
                rw [q2] at c144
                refine K_iload dL_areLaces_152 (by rfl) ?_
                refine K_istore dL_areLaces_154 (Nat.le_of_ble_eq_true rfl) (by rfl) ?_
                refine K_iincN dL_areLaces_156 (by rfl) (by decide) (by rfl) ?_
                refine K_goto (tgt := 100) dL_areLaces_159 (by decide) ?_
                exact K_sub (subl_cons rfl (subl_cons rfl (subl_cons rfl (subl_cons rfl (subl_cons rfl (subl_cons rfl (subl_cons rfl (subl_cons (by show some (Value.int (nI _)) = some (Value.int (nI _)); first | (rw [if_pos (show lf < e + 1 by omega), show lf = e by omega]) | (by_cases z : lf < e; (rw [if_pos z, if_pos (by omega)]); (rw [if_neg z, if_neg (by omega)]))) (subl_cons (by show some (Value.int (nI _)) = some (Value.int (nI _)); first | (rw [if_pos (show rt < e + 1 by omega), show rt = e by omega]) | (by_cases z : rt < e; (rw [if_pos z, if_pos (by omega)]); (rw [if_neg z, if_neg (by omega)]))) (subl_cons rfl subl_nil)))))))))) (ih2 (e + 1) kc2 kn2 _ _ (by omega) b1 b2 g1 g3 u hf)
              · rw [nI_eq (by omega) (by omega)] at c144
                rw [q2] at c144
                refine K_iload dL_areLaces_147 (by rfl) ?_
                refine K_goto (tgt := 154) dL_areLaces_149 (by decide) ?_
                refine K_istore dL_areLaces_154 (Nat.le_of_ble_eq_true rfl) (by rfl) ?_
                refine K_iincN dL_areLaces_156 (by rfl) (by decide) (by rfl) ?_
                refine K_goto (tgt := 100) dL_areLaces_159 (by decide) ?_
                exact K_sub (subl_cons rfl (subl_cons rfl (subl_cons rfl (subl_cons rfl (subl_cons rfl (subl_cons rfl (subl_cons rfl (subl_cons (by show some (Value.int (nI _)) = some (Value.int (nI _)); first | (rw [if_pos (show lf < e + 1 by omega), show lf = e by omega]) | (by_cases z : lf < e; (rw [if_pos z, if_pos (by omega)]); (rw [if_neg z, if_neg (by omega)]))) (subl_cons (by show some (Value.int (nI _)) = some (Value.int (nI _)); first | (rw [if_pos (show rt < e + 1 by omega), show rt = e by omega]) | (by_cases z : rt < e; (rw [if_pos z, if_pos (by omega)]); (rw [if_neg z, if_neg (by omega)]))) (subl_cons rfl subl_nil)))))))))) (ih2 (e + 1) kc2 kn2 _ _ (by omega) b1 b2 g1 g3 u hf)
      have look : ∀ (j2 e kc2 kn2 : Nat) (hh : HP) (n1 : Nat), e + j2 = 4 → k = bh → 24 - e ≤ kc2 → 6 * (24 - e) ≤ kn2 → hh A = some (.inl (G.2.1 0, 4, .inl g)) → hh B = some (.inl (G.2.1 0, 16, .inl m)) → isLT G hh x σ → ky (x + 64) (x + 66) h hh → KJ none G mm_L_areLaces 30 54 [(0, .ref x), (2, .int (nI σ.1.1.length)), (3, .ref (x + 65)), (4, .ref A), (5, .ref B), (6, .int (nI bh)), (7, .int (nI k)), (8, .int (nI e))] [] hh n1 kc2 kn2 (fun _ => RT mm_L_areLaces (q1 G x h σ)) := by
        intro j2
        induction j2 with
        | zero =>
          intro e kc2 kn2 hh n1 hj hk b1 b2 g1 g3 u hf
          refine K_iload dL_areLaces_54 (by rfl) ?_
          refine K_iconst (v := nI 4) dL_areLaces_56 (by decide) ?_
          refine K_icmp_ge (tgt := 91) dL_areLaces_57 (by decide) (fun c57 => ?_) (fun c57 => ?_)
          · rw [nI_leI (by omega) (by omega)] at c57
            refine K_iconst (v := nI 0) dL_areLaces_91 (by decide) ?_
            refine K_istore dL_areLaces_92 (Nat.le_of_ble_eq_true rfl) (by rfl) ?_
            refine K_iconst (v := nI 0) dL_areLaces_94 (by decide) ?_
            refine K_istore dL_areLaces_95 (Nat.le_of_ble_eq_true rfl) (by rfl) ?_
            refine K_iconst (v := nI 0) dL_areLaces_97 (by decide) ?_
            refine K_istore dL_areLaces_98 (Nat.le_of_ble_eq_true rfl) (by rfl) ?_
            exact K_sub (by repeat (first | exact subl_nil | refine subl_cons rfl ?_)) (find 4 0 kc2 kn2 _ _ (by omega) (by rw [if_neg (by omega)]; omega) (by rw [if_neg (by omega)]; omega) g1 g3 u hf)
          · rw [nI_leI (by omega) (by omega)] at c57
            exact absurd (by omega) c57
        | succ j2 ih2 =>
          intro e kc2 kn2 hh n1 hj hk b1 b2 g1 g3 u hf
          obtain ⟨e1, e2, e3, e4⟩ := iv e (by omega)
          refine K_iload dL_areLaces_54 (by rfl) ?_
          refine K_iconst (v := nI 4) dL_areLaces_56 (by decide) ?_
          refine K_icmp_ge (tgt := 91) dL_areLaces_57 (by decide) (fun c57 => ?_) (fun c57 => ?_)
          · rw [nI_leI (by omega) (by omega)] at c57
            exact absurd c57 (by omega)
          · rw [nI_leI (by omega) (by omega)] at c57
            refine K_iload dL_areLaces_60 (by rfl) ?_
            refine K_iload dL_areLaces_62 (by rfl) ?_
            refine K_icmp_ne (tgt := 91) dL_areLaces_64 (by decide) (fun c64 => ?_) (fun c64 => ?_)
            · rw [nI_eq (by omega) (by omega)] at c64
              exact absurd hk c64
            · rw [nI_eq (by omega) (by omega)] at c64
              refine K_aload_n dL_areLaces_67 (by rfl) ?_
              refine K_iload dL_areLaces_68 (by rfl) ?_
              refine K_aload dL_areLaces_70 (by rfl) ?_
              refine K_iload dL_areLaces_72 (by rfl) ?_
              refine K_ga dL_areLaces_74 (by first | assumption | exact isLT.ob (by assumption) | exact isRow.ob (by assumption) | exact isHnd.ob (by assumption) | exact isUnt.ob (by assumption) | exact isSt.ob (by assumption) | exact isHist.ob (by assumption) | exact isTxt.ob (by assumption) | exact isLac.ob (by assumption) | exact isMea.ob (by assumption) | exact hset_s | exact (hset_n (by first | assumption | omega)).trans (by first | assumption | exact isLT.ob (by assumption) | exact isRow.ob (by assumption) | exact isHnd.ob (by assumption) | exact isUnt.ob (by assumption) | exact isSt.ob (by assumption) | exact isHist.ob (by assumption) | exact isTxt.ob (by assumption) | exact isLac.ob (by assumption) | exact isMea.ob (by assumption) | exact hset_s | exact (hset_n (by first | assumption | omega)).trans (by first | assumption | exact isLT.ob (by assumption) | exact isRow.ob (by assumption) | exact isHnd.ob (by assumption) | exact isUnt.ob (by assumption) | exact isSt.ob (by assumption) | exact isHist.ob (by assumption) | exact isTxt.ob (by assumption) | exact isLac.ob (by assumption) | exact isMea.ob (by assumption) | exact hset_s | exact (hset_n (by first | assumption | omega)).trans (by first | assumption | exact isLT.ob (by assumption) | exact isRow.ob (by assumption) | exact isHnd.ob (by assumption) | exact isUnt.ob (by assumption) | exact isSt.ob (by assumption) | exact isHist.ob (by assumption) | exact isTxt.ob (by assumption) | exact isLac.ob (by assumption) | exact isMea.ob (by assumption))))) (by first | assumption | omega) (by omega) ?_
              rw [g2 e (by omega)]
              refine K_callW2 mf_L_lies (tb_3 (List.mem_of_getElem? (i := 87) rfl) rfl) ms_L_lies (sp_L_lies u ok (nI bh) (nI (p e)) _) dL_areLaces_75 (by decide) (by rfl) rfl (Nat.le_of_ble_eq_true rfl) (by omega) (by omega) (fun v75 h75 n75 q75 => ?_)
              obtain ⟨rfl, u75, k75⟩ := qW_ok (e_lies h2 hbh e1) q75
              have a75 := (k75 A (by omega)).trans g1
              have b75 := (k75 B (by omega)).trans g3
              refine K_iload dL_areLaces_78 (by rfl) ?_
              refine K_icmp_eq (tgt := 85) dL_areLaces_80 (by decide) (fun c80 => ?_) (fun c80 => ?_)
              · refine K_iincN dL_areLaces_85 (by rfl) (by decide) (by rfl) ?_
                refine K_goto (tgt := 54) dL_areLaces_88 (by decide) ?_
                exact K_sub (by repeat (first | exact subl_nil | refine subl_cons rfl ?_)) (ih2 (e + 1) _ _ _ _ (by omega) hk (by omega) (by omega) a75 b75 u75 (ky_tr hf (ky_fr k75 (Or.inr (by omega)))))
              · exact absurd (by rw [← hk, e3]) c80
      refine K_iload dL_areLaces_45 (by rfl) ?_
      refine K_iload_n dL_areLaces_47 (by rfl) ?_
      refine K_icmp_ge (tgt := 211) dL_areLaces_48 (by decide) (fun c48 => ?_) (fun c48 => ?_)
      · rw [nI_leI (by omega) (by omega)] at c48
        exact absurd c48 (by omega)
      · rw [nI_leI (by omega) (by omega)] at c48
        refine K_iconst (v := nI 0) dL_areLaces_51 (by decide) ?_
        refine K_istore dL_areLaces_52 (Nat.le_of_ble_eq_true rfl) (by rfl) ?_
        by_cases hk : k = bh
        · rw [if_pos (by omega)] at b1 b2
          exact K_sub (by repeat (first | exact subl_nil | refine subl_cons rfl ?_)) (look 4 0 kc kn _ _ (by omega) hk (by omega) (by omega) g1 g3 u hf)
        · refine K_iload dL_areLaces_54 (by rfl) ?_
          refine K_iconst (v := nI 4) dL_areLaces_56 (by decide) ?_
          refine K_icmp_ge (tgt := 91) dL_areLaces_57 (by decide) (fun c57 => ?_) (fun c57 => ?_)
          · exact absurd c57 (by decide)
          · refine K_iload dL_areLaces_60 (by rfl) ?_
            refine K_iload dL_areLaces_62 (by rfl) ?_
            refine K_icmp_ne (tgt := 91) dL_areLaces_64 (by decide) (fun c64 => ?_) (fun c64 => ?_)
            · rw [nI_eq (by omega) (by omega)] at c64
              refine K_iconst (v := nI 0) dL_areLaces_91 (by decide) ?_
              refine K_istore dL_areLaces_92 (Nat.le_of_ble_eq_true rfl) (by rfl) ?_
              refine K_iconst (v := nI 0) dL_areLaces_94 (by decide) ?_
              refine K_istore dL_areLaces_95 (Nat.le_of_ble_eq_true rfl) (by rfl) ?_
              refine K_iconst (v := nI 0) dL_areLaces_97 (by decide) ?_
              refine K_istore dL_areLaces_98 (Nat.le_of_ble_eq_true rfl) (by rfl) ?_
              exact K_sub (by repeat (first | exact subl_nil | refine subl_cons rfl ?_)) (find 4 0 kc kn _ _ (by omega) (Nat.le_trans (by split <;> split <;> omega) b1) (Nat.le_trans (by split <;> split <;> omega) b2) g1 g3 u hf)
            · rw [nI_eq (by omega) (by omega)] at c64
              exact absurd c64 hk
  have init : ∀ (j e A : Nat) (hh : HP) (n1 : Nat) (g : Nat → Int32), e + j = 4 → x + 66 ≤ A → hh A = some (.inl (G.2.1 0, 4, .inl g)) → (∀ i, i < e → g i = nI i) → isLT G hh x σ → ky (x + 64) (x + 66) h hh → KJ none G mm_L_areLaces 30 8 [(0, .ref x), (1, .int z), (2, .int (nI σ.1.1.length)), (3, .ref (x + 65)), (4, .ref A), (5, .int (nI e))] [] hh n1 28 190 (fun _ => RT mm_L_areLaces (q1 G x h σ)) := by
    intro j
    induction j with
    | zero =>
      intro e A hh n1 g hj hA g1 g2 u hf
      refine K_iload dL_areLaces_8 (by rfl) ?_
      refine K_iconst (v := nI 4) dL_areLaces_10 (by decide) ?_
      refine K_icmp_ge (tgt := 27) dL_areLaces_11 (by decide) (fun c11 => ?_) (fun c11 => ?_)
      · rw [nI_leI (by omega) (by omega)] at c11
        refine K_bipush (v := 16) dL_areLaces_27 (by decide) ?_
        refine K_newIu2 (N := 16) ca_int dL_areLaces_29 (by decide) (by decide) (by decide) (by omega) (by omega) (fun q29 hq29 => ?_)
        have hB := hq29 A (by rw [g1]; simp)
        refine K_astore dL_areLaces_31 (Nat.le_of_ble_eq_true rfl) (by rfl) ?_
        refine K_iload_n dL_areLaces_33 (by rfl) ?_
        refine K_iload_n dL_areLaces_34 (by rfl) ?_
        refine K_iconst (v := nI 1) dL_areLaces_35 (by decide) ?_
        refine K_iadd dL_areLaces_36 ?_
        rw [nI_add]
        refine K_callS mf_L_low lk_L_116 ms_L_low (sp_L_low _ z (m := σ.1.1.length + 1) (by omega) (by omega) _) dL_areLaces_37 (by decide) (by rfl) rfl (Nat.le_of_ble_eq_true rfl) (Nat.zero_add _) (Nat.zero_add _) (fun v37 h37 n37 q37 => ?_)
        obtain ⟨⟨bh, hbh, rfl⟩, rfl⟩ := q37
        refine K_istore dL_areLaces_40 (Nat.le_of_ble_eq_true rfl) (by rfl) ?_
        refine K_iconst (v := nI 0) dL_areLaces_42 (by decide) ?_
        refine K_istore dL_areLaces_43 (Nat.le_of_ble_eq_true rfl) (by rfl) ?_
        exact K_less (kc2 := 24) (kn2 := 144) (by omega) (by omega) (K_sub (by repeat (first | exact subl_nil | refine subl_cons rfl ?_)) (go σ.1.1.length 0 bh A q29 24 144 _ _ (fun e => e) g (fun _ => 0) (by omega) (by omega) hA hB (by split <;> omega) (by split <;> omega) isIv_0 isWd_0 ((hset_n (by omega)).trans g1) (fun e he => g2 e (by omega)) hset_s (isLT_ky u (ky_set (Or.inr (by omega)))) (ky_tr hf (ky_set (Or.inr (by omega))))))
      · rw [nI_leI (by omega) (by omega)] at c11
        exact absurd (by omega) c11
    | succ j ih =>
      intro e A hh n1 g hj hA g1 g2 u hf
      refine K_iload dL_areLaces_8 (by rfl) ?_
      refine K_iconst (v := nI 4) dL_areLaces_10 (by decide) ?_
      refine K_icmp_ge (tgt := 27) dL_areLaces_11 (by decide) (fun c11 => ?_) (fun c11 => ?_)
      · rw [nI_leI (by omega) (by omega)] at c11
        exact absurd c11 (by omega)
      · rw [nI_leI (by omega) (by omega)] at c11
        refine K_aload dL_areLaces_14 (by rfl) ?_
        refine K_iload dL_areLaces_16 (by rfl) ?_
        refine K_iload dL_areLaces_18 (by rfl) ?_
        refine K_pa dL_areLaces_20 (by first | assumption | exact isLT.ob (by assumption) | exact isRow.ob (by assumption) | exact isHnd.ob (by assumption) | exact isUnt.ob (by assumption) | exact isSt.ob (by assumption) | exact isHist.ob (by assumption) | exact isTxt.ob (by assumption) | exact isLac.ob (by assumption) | exact isMea.ob (by assumption) | exact hset_s | exact (hset_n (by first | assumption | omega)).trans (by first | assumption | exact isLT.ob (by assumption) | exact isRow.ob (by assumption) | exact isHnd.ob (by assumption) | exact isUnt.ob (by assumption) | exact isSt.ob (by assumption) | exact isHist.ob (by assumption) | exact isTxt.ob (by assumption) | exact isLac.ob (by assumption) | exact isMea.ob (by assumption) | exact hset_s | exact (hset_n (by first | assumption | omega)).trans (by first | assumption | exact isLT.ob (by assumption) | exact isRow.ob (by assumption) | exact isHnd.ob (by assumption) | exact isUnt.ob (by assumption) | exact isSt.ob (by assumption) | exact isHist.ob (by assumption) | exact isTxt.ob (by assumption) | exact isLac.ob (by assumption) | exact isMea.ob (by assumption) | exact hset_s | exact (hset_n (by first | assumption | omega)).trans (by first | assumption | exact isLT.ob (by assumption) | exact isRow.ob (by assumption) | exact isHnd.ob (by assumption) | exact isUnt.ob (by assumption) | exact isSt.ob (by assumption) | exact isHist.ob (by assumption) | exact isTxt.ob (by assumption) | exact isLac.ob (by assumption) | exact isMea.ob (by assumption))))) (by first | assumption | omega) (by omega) ?_
        refine K_iincN dL_areLaces_21 (by rfl) (by decide) (by rfl) ?_
        refine K_goto (tgt := 8) dL_areLaces_24 (by decide) ?_
        exact K_sub (by repeat (first | exact subl_nil | refine subl_cons rfl ?_)) (ih (e + 1) A _ _ _ (by omega) hA hset_s (fun i hi => by
          by_cases q : i = e
          · rw [q, upd_s]
          · rw [upd_n q]; exact g2 i (by omega)) (isLT_ky u (ky_set (Or.inr (by omega)))) (ky_tr hf (ky_set (Or.inr (by omega)))))
  refine K_iconst (v := 4) dL_areLaces_0 (by decide) ?_
  refine K_newIu2 (N := 4) ca_int dL_areLaces_1 (by decide) (by decide) (by decide) (by omega) (by omega) (fun q1 hq1 => ?_)
  have hA := hq1 (x + 65) (by rw [h1]; simp)
  refine K_astore dL_areLaces_3 (Nat.le_of_ble_eq_true rfl) (by rfl) ?_
  refine K_iconst (v := nI 0) dL_areLaces_5 (by decide) ?_
  refine K_istore dL_areLaces_6 (Nat.le_of_ble_eq_true rfl) (by rfl) ?_
  exact K_less (kc2 := 28) (kn2 := 190) (by omega) (by omega) (K_sub (by repeat (first | exact subl_nil | refine subl_cons rfl ?_)) (init 4 0 q1 _ _ _ (by omega) (by omega) hset_s (fun i hi => absurd hi (Nat.not_lt_zero _)) (isLT_ky w (ky_set (Or.inr (by omega)))) (ky_set (Or.inr (by omega)))))
end AL
