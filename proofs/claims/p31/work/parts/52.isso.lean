/-! the law: whether the object is so as the row says -/
theorem e_why {σ : Sg} {m k : Nat} (hm : m < 3) (hk : k < 2 ^ 31) : opWhy (nI m) (nI k) σ = (0, rsn σ.1.1 m k, σ) := by
  unfold opWhy
  rw [if_pos ⟨⟨nI_pos' (by omega), (nI_leI (b := 2) (by omega) (by omega)).mpr (by omega)⟩, nI_pos' hk⟩, nI_clamp (n := m) (by omega), nI_clamp hk]
theorem e_possible {σ : Sg} {m : Nat} (hm : m < 3) : opPossible (nI m) σ = (0, nI (plc σ.1.1 m), σ) := by
  unfold opPossible
  rw [if_pos ⟨nI_pos' (by omega), (nI_leI (b := 2) (by omega) (by omega)).mpr (by omega)⟩, nI_clamp (n := m) (by omega)]
theorem imax : (2147483647 : Int32) = nI 2147483647 := by decide +kernel
theorem dz : Op.cmpValue (FP.dcmp 0 0) .l = 0 := by decide +kernel
section SO
variable {G : GG} {h : HP} {x : Nat} {σ : Sg}
set_option maxRecDepth 20000 in
theorem sp_L_isSo (w : isLT G h x σ) (ok : okS σ) (v : isRA G h (x + 65) σ.1.1) (vq : isQA G h (x + 64) σ.1.1.length σ.1.2) (z : Int32) (n : Nat) : SpK G mm_L_isSo 40 200 3000 [.ref x, .int z, .ref (x + 64), .ref (x + 65)] h n (q1 G x h σ) := by
  refine SpK_of (by decide +kernel) (Nat.le_of_ble_eq_true rfl) ?_
  obtain ⟨f, h1, h2, h3⟩ := id v
  obtain ⟨fq, q0, qn, q2⟩ := vq
  have hx := ok.1.1
  have hrl := red_len σ.1.1 σ.1.1.length
  rw [List.take_length] at hrl
  have last : ∀ (hh : HP) (n1 : Nat), isLT G hh x σ → ky (x + 64) (x + 66) h hh → KJ none G mm_L_isSo 40 348 [(0, .ref x), (1, .int z), (3, .ref (x + 65)), (4, .int (nI σ.1.1.length)), (9, .int 1), (12, .int (nI (σ.1.1.length - (red σ.1.1).length)))] [] hh n1 100 2300 (fun _ => RT mm_L_isSo (q1 G x h σ)) := by
    intro hh n1 u hf
    have hs := n64_of (slk_ok (xs := σ.1.1) h2).1
    refine K_iload dL_isSo_348 (by rfl) ?_
    refine K_if_eq (tgt := 425) dL_isSo_350 (by decide) (fun c350 => ?_) (fun c350 => ?_)
    · exact absurd c350 (by decide)
    · refine K_aload_n dL_isSo_353 (by rfl) ?_
      refine K_callV mf_X9_slack lk_L_142 mi_X9_slack mv_X9_slack (sp_X9_slack u _) dL_isSo_354 (by first | assumption | exact isLT.ob (by assumption) | exact isRow.ob (by assumption) | exact isHnd.ob (by assumption) | exact isUnt.ob (by assumption) | exact isSt.ob (by assumption) | exact isHist.ob (by assumption) | exact isTxt.ob (by assumption) | exact isLac.ob (by assumption) | exact isMea.ob (by assumption) | exact hset_s | exact (hset_n (by first | assumption | omega)).trans (by first | assumption | exact isLT.ob (by assumption) | exact isRow.ob (by assumption) | exact isHnd.ob (by assumption) | exact isUnt.ob (by assumption) | exact isSt.ob (by assumption) | exact isHist.ob (by assumption) | exact isTxt.ob (by assumption) | exact isLac.ob (by assumption) | exact isMea.ob (by assumption) | exact hset_s | exact (hset_n (by first | assumption | omega)).trans (by first | assumption | exact isLT.ob (by assumption) | exact isRow.ob (by assumption) | exact isHnd.ob (by assumption) | exact isUnt.ob (by assumption) | exact isSt.ob (by assumption) | exact isHist.ob (by assumption) | exact isTxt.ob (by assumption) | exact isLac.ob (by assumption) | exact isMea.ob (by assumption) | exact hset_s | exact (hset_n (by first | assumption | omega)).trans (by first | assumption | exact isLT.ob (by assumption) | exact isRow.ob (by assumption) | exact isHnd.ob (by assumption) | exact isUnt.ob (by assumption) | exact isSt.ob (by assumption) | exact isHist.ob (by assumption) | exact isTxt.ob (by assumption) | exact isLac.ob (by assumption) | exact isMea.ob (by assumption))))) rfl rfl (by decide) (by rfl) rfl (Nat.le_of_ble_eq_true rfl) (Nat.zero_add _) (Nat.zero_add _) (fun v354 h354 n354 q354 => ?_)
      obtain ⟨rfl, u354, k354⟩ := q354
      have f354 := ky_tr hf (ky_fr (lo2 := x + 64) (hi2 := x + 66) k354 (Or.inr (by omega)))
      refine K_iload dL_isSo_357 (by rfl) ?_
      refine K_if_ne (tgt := 366) dL_isSo_359 (by decide) (fun c359 => ?_) (fun c359 => ?_)
      · rw [nI_z (by omega) (by omega)] at c359
        have e359 : slk σ.1.1 = slq (σ.1.1.length - (red σ.1.1).length) σ.1.1.length := if_neg c359
        have hs2 := hs
        rw [e359] at hs2
        refine K_iload dL_isSo_366 (by rfl) ?_
        refine K_i2d dL_isSo_368 ?_
        refine K_iload dL_isSo_369 (by rfl) ?_
        refine K_i2d dL_isSo_371 ?_
        refine K_ddiv dL_isSo_372 hs2 ?_
        try rw [show FP.ddiv (FP.i2d (nI (σ.1.1.length - (red σ.1.1).length))) (FP.i2d (nI σ.1.1.length)) = slk σ.1.1 from e359.symm]
        refine K_dcmp dL_isSo_373 ?_
        refine K_if_ne (tgt := 425) dL_isSo_374 (by decide) (fun c374 => ?_) (fun c374 => ?_)
        · exact absurd (by first | exact of_decide_eq_true (slk_nan h2) | (rw [show slk σ.1.1 = 0 from if_pos c359]; exact dz)) c374
        · refine K_aload_n dL_isSo_377 (by rfl) ?_
          refine K_iload_n dL_isSo_378 (by rfl) ?_
          refine K_iconst (v := 5) dL_isSo_379 (by decide) ?_
          refine K_ishr dL_isSo_380 ?_
          refine K_iload dL_isSo_381 (by rfl) ?_
          refine K_aload_n dL_isSo_383 (by rfl) ?_
          refine K_callK2 mf_L_areLaces (tb_3 (List.mem_of_getElem? (i := 84) rfl) rfl) ms_L_areLaces (sp_L_areLaces u354 ok (v.keep (f354 _ (by omega) (by omega))) _ _) dL_isSo_384 (by decide) (by rfl) rfl (Nat.le_of_ble_eq_true rfl) (by omega) (by omega) (fun v384 h384 n384 q384 => ?_)
          obtain ⟨rfl, u384, k384⟩ := q384
          have f384 := ky_tr f354 k384
          refine K_if_eq (tgt := 425) dL_isSo_387 (by decide) (fun c387 => ?_) (fun c387 => ?_)
          · exact absurd c387 (by decide)
          · refine K_aload_n dL_isSo_390 (by rfl) ?_
            refine K_iload_n dL_isSo_391 (by rfl) ?_
            refine K_bipush (v := 10) dL_isSo_392 (by decide) ?_
            refine K_ishr dL_isSo_394 ?_
            refine K_iconst (v := nI 4) dL_isSo_395 (by decide) ?_
            refine K_callS mf_L_low lk_L_116 ms_L_low (sp_L_low _ _ (m := 4) (by omega) (by omega) _) dL_isSo_396 (by decide) (by rfl) rfl (Nat.le_of_ble_eq_true rfl) (Nat.zero_add _) (Nat.zero_add _) (fun v396 h396 n396 q396 => ?_)
            obtain ⟨⟨row, hrow, rfl⟩, rfl⟩ := q396
            refine K_iload dL_isSo_399 (by rfl) ?_
            refine K_aload_n dL_isSo_401 (by rfl) ?_
            refine K_callK2 mf_L_isMeasure (tb_3 (List.mem_of_getElem? (i := 147) rfl) rfl) ms_L_isMeasure (sp_L_isMeasure u384 ok (v.keep (f384 _ (by omega) (by omega))) hrow _) dL_isSo_402 (by decide) (by rfl) rfl (Nat.le_of_ble_eq_true rfl) (by omega) (by omega) (fun v402 h402 n402 q402 => ?_)
            obtain ⟨rfl, u402, k402⟩ := q402
            have f402 := ky_tr f384 k402
            refine K_if_eq (tgt := 425) dL_isSo_405 (by decide) (fun c405 => ?_) (fun c405 => ?_)
            · exact absurd c405 (by decide)
            · refine K_aload_n dL_isSo_408 (by rfl) ?_
              refine K_callV mf_X9_bestMove lk_L_153 mi_X9_bestMove mv_X9_bestMove (sp_X9_bestMove u402 _) dL_isSo_409 (by first | assumption | exact isLT.ob (by assumption) | exact isRow.ob (by assumption) | exact isHnd.ob (by assumption) | exact isUnt.ob (by assumption) | exact isSt.ob (by assumption) | exact isHist.ob (by assumption) | exact isTxt.ob (by assumption) | exact isLac.ob (by assumption) | exact isMea.ob (by assumption) | exact hset_s | exact (hset_n (by first | assumption | omega)).trans (by first | assumption | exact isLT.ob (by assumption) | exact isRow.ob (by assumption) | exact isHnd.ob (by assumption) | exact isUnt.ob (by assumption) | exact isSt.ob (by assumption) | exact isHist.ob (by assumption) | exact isTxt.ob (by assumption) | exact isLac.ob (by assumption) | exact isMea.ob (by assumption) | exact hset_s | exact (hset_n (by first | assumption | omega)).trans (by first | assumption | exact isLT.ob (by assumption) | exact isRow.ob (by assumption) | exact isHnd.ob (by assumption) | exact isUnt.ob (by assumption) | exact isSt.ob (by assumption) | exact isHist.ob (by assumption) | exact isTxt.ob (by assumption) | exact isLac.ob (by assumption) | exact isMea.ob (by assumption) | exact hset_s | exact (hset_n (by first | assumption | omega)).trans (by first | assumption | exact isLT.ob (by assumption) | exact isRow.ob (by assumption) | exact isHnd.ob (by assumption) | exact isUnt.ob (by assumption) | exact isSt.ob (by assumption) | exact isHist.ob (by assumption) | exact isTxt.ob (by assumption) | exact isLac.ob (by assumption) | exact isMea.ob (by assumption))))) rfl rfl (by decide) (by rfl) rfl (Nat.le_of_ble_eq_true rfl) (Nat.zero_add _) (Nat.zero_add _) (fun v409 h409 n409 q409 => ?_)
              obtain ⟨rfl, u409, k409⟩ := q409
              have f409 := ky_tr f402 (ky_fr (lo2 := x + 64) (hi2 := x + 66) k409 (Or.inr (by omega)))
              refine K_iload dL_isSo_412 (by rfl) ?_
              refine K_aload_n dL_isSo_414 (by rfl) ?_
              refine K_callS2 mf_L_best lk_L_156 ms_L_best (sp_L_best (v.keep (f409 _ (by omega) (by omega))) hx _) dL_isSo_415 (by decide) (by rfl) rfl (Nat.le_of_ble_eq_true rfl) (by omega) (by omega) (fun v415 h415 n415 q415 => ?_)
              obtain ⟨rfl, k415⟩ := q415
              refine K_icmp_ne (tgt := 425) dL_isSo_418 (by decide) (fun c418 => ?_) (fun c418 => ?_)
              · exact absurd rfl c418
              · refine K_iconst (v := 1) dL_isSo_421 (by decide) ?_
                refine K_goto (tgt := 426) dL_isSo_422 (by decide) ?_
                exact K_done ⟨_, (⟨rfl, isLT_ky u409 (ky_mono k415 (by omega) (by omega)), ky_tr f409 (ky_mono k415 (by omega) (by omega))⟩), Or.inl ⟨dL_isSo_426, _, _, rfl, rfl, (by rfl), rfl⟩⟩
      · rw [nI_z (by omega) (by omega)] at c359
        refine K_dconst0 dL_isSo_362 ?_
        refine K_goto (tgt := 373) dL_isSo_363 (by decide) ?_
        try rw [show FP.ddiv (FP.i2d (nI (σ.1.1.length - (red σ.1.1).length))) (FP.i2d (nI σ.1.1.length)) = slk σ.1.1 from e359.symm]
        refine K_dcmp dL_isSo_373 ?_
        refine K_if_ne (tgt := 425) dL_isSo_374 (by decide) (fun c374 => ?_) (fun c374 => ?_)
        · exact absurd (by first | exact of_decide_eq_true (slk_nan h2) | (rw [show slk σ.1.1 = 0 from if_pos c359]; exact dz)) c374
        · refine K_aload_n dL_isSo_377 (by rfl) ?_
          refine K_iload_n dL_isSo_378 (by rfl) ?_
          refine K_iconst (v := 5) dL_isSo_379 (by decide) ?_
          refine K_ishr dL_isSo_380 ?_
          refine K_iload dL_isSo_381 (by rfl) ?_
          refine K_aload_n dL_isSo_383 (by rfl) ?_
          refine K_callK2 mf_L_areLaces (tb_3 (List.mem_of_getElem? (i := 84) rfl) rfl) ms_L_areLaces (sp_L_areLaces u354 ok (v.keep (f354 _ (by omega) (by omega))) _ _) dL_isSo_384 (by decide) (by rfl) rfl (Nat.le_of_ble_eq_true rfl) (by omega) (by omega) (fun v384 h384 n384 q384 => ?_)
          obtain ⟨rfl, u384, k384⟩ := q384
          have f384 := ky_tr f354 k384
          refine K_if_eq (tgt := 425) dL_isSo_387 (by decide) (fun c387 => ?_) (fun c387 => ?_)
          · exact absurd c387 (by decide)
          · refine K_aload_n dL_isSo_390 (by rfl) ?_
            refine K_iload_n dL_isSo_391 (by rfl) ?_
            refine K_bipush (v := 10) dL_isSo_392 (by decide) ?_
            refine K_ishr dL_isSo_394 ?_
            refine K_iconst (v := nI 4) dL_isSo_395 (by decide) ?_
            refine K_callS mf_L_low lk_L_116 ms_L_low (sp_L_low _ _ (m := 4) (by omega) (by omega) _) dL_isSo_396 (by decide) (by rfl) rfl (Nat.le_of_ble_eq_true rfl) (Nat.zero_add _) (Nat.zero_add _) (fun v396 h396 n396 q396 => ?_)
            obtain ⟨⟨row, hrow, rfl⟩, rfl⟩ := q396
            refine K_iload dL_isSo_399 (by rfl) ?_
            refine K_aload_n dL_isSo_401 (by rfl) ?_
            refine K_callK2 mf_L_isMeasure (tb_3 (List.mem_of_getElem? (i := 147) rfl) rfl) ms_L_isMeasure (sp_L_isMeasure u384 ok (v.keep (f384 _ (by omega) (by omega))) hrow _) dL_isSo_402 (by decide) (by rfl) rfl (Nat.le_of_ble_eq_true rfl) (by omega) (by omega) (fun v402 h402 n402 q402 => ?_)
            obtain ⟨rfl, u402, k402⟩ := q402
            have f402 := ky_tr f384 k402
            refine K_if_eq (tgt := 425) dL_isSo_405 (by decide) (fun c405 => ?_) (fun c405 => ?_)
            · exact absurd c405 (by decide)
            · refine K_aload_n dL_isSo_408 (by rfl) ?_
              refine K_callV mf_X9_bestMove lk_L_153 mi_X9_bestMove mv_X9_bestMove (sp_X9_bestMove u402 _) dL_isSo_409 (by first | assumption | exact isLT.ob (by assumption) | exact isRow.ob (by assumption) | exact isHnd.ob (by assumption) | exact isUnt.ob (by assumption) | exact isSt.ob (by assumption) | exact isHist.ob (by assumption) | exact isTxt.ob (by assumption) | exact isLac.ob (by assumption) | exact isMea.ob (by assumption) | exact hset_s | exact (hset_n (by first | assumption | omega)).trans (by first | assumption | exact isLT.ob (by assumption) | exact isRow.ob (by assumption) | exact isHnd.ob (by assumption) | exact isUnt.ob (by assumption) | exact isSt.ob (by assumption) | exact isHist.ob (by assumption) | exact isTxt.ob (by assumption) | exact isLac.ob (by assumption) | exact isMea.ob (by assumption) | exact hset_s | exact (hset_n (by first | assumption | omega)).trans (by first | assumption | exact isLT.ob (by assumption) | exact isRow.ob (by assumption) | exact isHnd.ob (by assumption) | exact isUnt.ob (by assumption) | exact isSt.ob (by assumption) | exact isHist.ob (by assumption) | exact isTxt.ob (by assumption) | exact isLac.ob (by assumption) | exact isMea.ob (by assumption) | exact hset_s | exact (hset_n (by first | assumption | omega)).trans (by first | assumption | exact isLT.ob (by assumption) | exact isRow.ob (by assumption) | exact isHnd.ob (by assumption) | exact isUnt.ob (by assumption) | exact isSt.ob (by assumption) | exact isHist.ob (by assumption) | exact isTxt.ob (by assumption) | exact isLac.ob (by assumption) | exact isMea.ob (by assumption))))) rfl rfl (by decide) (by rfl) rfl (Nat.le_of_ble_eq_true rfl) (Nat.zero_add _) (Nat.zero_add _) (fun v409 h409 n409 q409 => ?_)
              obtain ⟨rfl, u409, k409⟩ := q409
              have f409 := ky_tr f402 (ky_fr (lo2 := x + 64) (hi2 := x + 66) k409 (Or.inr (by omega)))
              refine K_iload dL_isSo_412 (by rfl) ?_
              refine K_aload_n dL_isSo_414 (by rfl) ?_
              refine K_callS2 mf_L_best lk_L_156 ms_L_best (sp_L_best (v.keep (f409 _ (by omega) (by omega))) hx _) dL_isSo_415 (by decide) (by rfl) rfl (Nat.le_of_ble_eq_true rfl) (by omega) (by omega) (fun v415 h415 n415 q415 => ?_)
              obtain ⟨rfl, k415⟩ := q415
              refine K_icmp_ne (tgt := 425) dL_isSo_418 (by decide) (fun c418 => ?_) (fun c418 => ?_)
              · exact absurd rfl c418
              · refine K_iconst (v := 1) dL_isSo_421 (by decide) ?_
                refine K_goto (tgt := 426) dL_isSo_422 (by decide) ?_
                exact K_done ⟨_, (⟨rfl, isLT_ky u409 (ky_mono k415 (by omega) (by omega)), ky_tr f409 (ky_mono k415 (by omega) (by omega))⟩), Or.inl ⟨dL_isSo_426, _, _, rfl, rfl, (by rfl), rfl⟩⟩
  have copy : ∀ (j i Z : Nat) (hh : HP) (n1 : Nat) (g : Nat → Int32), i + j = 32 → x + 66 ≤ Z → hh Z = some (.inl (G.2.1 0, 32, .inl g)) → (∀ t, t < i → g t = f t) → isLT G hh x σ → ky (x + 64) (x + 66) h hh → KJ none G mm_L_isSo 40 314 [(0, .ref x), (1, .int z), (3, .ref (x + 65)), (4, .int (nI σ.1.1.length)), (9, .int 1), (11, .ref Z), (12, .int (nI i))] [] hh n1 100 2300 (fun _ => RT mm_L_isSo (q1 G x h σ)) := by
    intro j
    induction j with
    | zero =>
      intro i Z hh n1 g hj hZ g1 g2 u hf
      have wz : isRA G hh Z σ.1.1 := ⟨g, g1, h2, fun t ht => (g2 t (by omega)).trans (h3 t ht)⟩
      refine K_iload dL_isSo_314 (by rfl) ?_
      refine K_bipush (v := nI 32) dL_isSo_316 (by decide) ?_
      refine K_icmp_ge (tgt := 336) dL_isSo_318 (by decide) (fun c318 => ?_) (fun c318 => ?_)
      · rw [nI_leI (by omega) (by omega)] at c318
        refine K_iload dL_isSo_336 (by rfl) ?_
        refine K_iload dL_isSo_338 (by rfl) ?_
        refine K_aload dL_isSo_340 (by rfl) ?_
        refine K_callS mf_L_pulls lk_L_110 ms_L_pulls (sp_L_pulls wz _) dL_isSo_342 (by decide) (by rfl) rfl (Nat.le_of_ble_eq_true rfl) (Nat.zero_add _) (Nat.zero_add _) (fun v342 h342 n342 q342 => ?_)
        obtain ⟨rfl, w342, k342⟩ := q342
        have f342 : ky x (x + 66) hh h342 := ky_fr k342 (Or.inl (by omega))
        refine K_isub dL_isSo_345 ?_
        rw [pk_sub hrl]
        refine K_istore dL_isSo_346 (Nat.le_of_ble_eq_true rfl) (by rfl) ?_
        exact K_sub (by repeat (first | exact subl_nil | refine subl_cons rfl ?_)) (last _ _ (isLT_ky u (ky_mono f342 (by omega) (by omega))) (ky_tr hf (ky_mono f342 (by omega) (by omega))))
      · rw [nI_leI (by omega) (by omega)] at c318
        exact absurd (by omega) c318
    | succ j ih =>
      intro i Z hh n1 g hj hZ g1 g2 u hf
      have hr1 := (hf (x + 65) (by omega) (by omega)).trans h1
      refine K_iload dL_isSo_314 (by rfl) ?_
      refine K_bipush (v := nI 32) dL_isSo_316 (by decide) ?_
      refine K_icmp_ge (tgt := 336) dL_isSo_318 (by decide) (fun c318 => ?_) (fun c318 => ?_)
      · rw [nI_leI (by omega) (by omega)] at c318
        exact absurd c318 (by omega)
      · rw [nI_leI (by omega) (by omega)] at c318
        refine K_aload dL_isSo_321 (by rfl) ?_
        refine K_iload dL_isSo_323 (by rfl) ?_
        refine K_aload_n dL_isSo_325 (by rfl) ?_
        refine K_iload dL_isSo_326 (by rfl) ?_
        refine K_ga dL_isSo_328 (by first | assumption | exact isLT.ob (by assumption) | exact isRow.ob (by assumption) | exact isHnd.ob (by assumption) | exact isUnt.ob (by assumption) | exact isSt.ob (by assumption) | exact isHist.ob (by assumption) | exact isTxt.ob (by assumption) | exact isLac.ob (by assumption) | exact isMea.ob (by assumption) | exact hset_s | exact (hset_n (by first | assumption | omega)).trans (by first | assumption | exact isLT.ob (by assumption) | exact isRow.ob (by assumption) | exact isHnd.ob (by assumption) | exact isUnt.ob (by assumption) | exact isSt.ob (by assumption) | exact isHist.ob (by assumption) | exact isTxt.ob (by assumption) | exact isLac.ob (by assumption) | exact isMea.ob (by assumption) | exact hset_s | exact (hset_n (by first | assumption | omega)).trans (by first | assumption | exact isLT.ob (by assumption) | exact isRow.ob (by assumption) | exact isHnd.ob (by assumption) | exact isUnt.ob (by assumption) | exact isSt.ob (by assumption) | exact isHist.ob (by assumption) | exact isTxt.ob (by assumption) | exact isLac.ob (by assumption) | exact isMea.ob (by assumption) | exact hset_s | exact (hset_n (by first | assumption | omega)).trans (by first | assumption | exact isLT.ob (by assumption) | exact isRow.ob (by assumption) | exact isHnd.ob (by assumption) | exact isUnt.ob (by assumption) | exact isSt.ob (by assumption) | exact isHist.ob (by assumption) | exact isTxt.ob (by assumption) | exact isLac.ob (by assumption) | exact isMea.ob (by assumption))))) (by first | assumption | omega) (by omega) ?_
        refine K_pa dL_isSo_329 (by first | assumption | exact isLT.ob (by assumption) | exact isRow.ob (by assumption) | exact isHnd.ob (by assumption) | exact isUnt.ob (by assumption) | exact isSt.ob (by assumption) | exact isHist.ob (by assumption) | exact isTxt.ob (by assumption) | exact isLac.ob (by assumption) | exact isMea.ob (by assumption) | exact hset_s | exact (hset_n (by first | assumption | omega)).trans (by first | assumption | exact isLT.ob (by assumption) | exact isRow.ob (by assumption) | exact isHnd.ob (by assumption) | exact isUnt.ob (by assumption) | exact isSt.ob (by assumption) | exact isHist.ob (by assumption) | exact isTxt.ob (by assumption) | exact isLac.ob (by assumption) | exact isMea.ob (by assumption) | exact hset_s | exact (hset_n (by first | assumption | omega)).trans (by first | assumption | exact isLT.ob (by assumption) | exact isRow.ob (by assumption) | exact isHnd.ob (by assumption) | exact isUnt.ob (by assumption) | exact isSt.ob (by assumption) | exact isHist.ob (by assumption) | exact isTxt.ob (by assumption) | exact isLac.ob (by assumption) | exact isMea.ob (by assumption) | exact hset_s | exact (hset_n (by first | assumption | omega)).trans (by first | assumption | exact isLT.ob (by assumption) | exact isRow.ob (by assumption) | exact isHnd.ob (by assumption) | exact isUnt.ob (by assumption) | exact isSt.ob (by assumption) | exact isHist.ob (by assumption) | exact isTxt.ob (by assumption) | exact isLac.ob (by assumption) | exact isMea.ob (by assumption))))) (by first | assumption | omega) (by omega) ?_
        refine K_iincN dL_isSo_330 (by rfl) (by decide) (by rfl) ?_
        refine K_goto (tgt := 314) dL_isSo_333 (by decide) ?_
        exact K_sub (by repeat (first | exact subl_nil | refine subl_cons rfl ?_)) (ih (i + 1) Z _ _ _ (by omega) hZ hset_s (fun t ht => by
          by_cases e : t = i
          · subst e; rw [upd_s]
          · rw [upd_n e]; exact g2 t (by omega)) (isLT_ky u (ky_set (Or.inr (by omega)))) (ky_tr hf (ky_set (Or.inr (by omega)))))
  have moves : ∀ (j m pl : Nat) (hh : HP) (n1 : Nat), m + j = 3 → pl < 1000 → isLT G hh x σ → ky (x + 64) (x + 66) h hh → KJ none G mm_L_isSo 40 231 [(0, .ref x), (1, .int z), (3, .ref (x + 65)), (4, .int (nI σ.1.1.length)), (9, .int 1), (10, .int (nI pl)), (11, .int (nI m))] [] hh n1 (101 + 3 * (3 - m)) (2332 + 18 * (3 - m)) (fun _ => RT mm_L_isSo (q1 G x h σ)) := by
    intro j
    induction j with
    | zero =>
      intro m pl hh n1 hj hpl u hf
      have hr1 := (hf (x + 65) (by omega) (by omega)).trans h1
      refine K_iload dL_isSo_231 (by rfl) ?_
      refine K_iconst (v := nI 3) dL_isSo_233 (by decide) ?_
      refine K_icmp_ge (tgt := 305) dL_isSo_234 (by decide) (fun c234 => ?_) (fun c234 => ?_)
      · rw [nI_leI (by omega) (by omega)] at c234
        refine K_bipush (v := 32) dL_isSo_305 (by decide) ?_
        refine K_newIu2 (N := 32) ca_int dL_isSo_307 (by decide) (by decide) (by decide) (by omega) (by omega) (fun q307 hq307 => ?_)
        have hZ := hq307 (x + 65) (by rw [hr1]; simp)
        refine K_astore dL_isSo_309 (Nat.le_of_ble_eq_true rfl) (by rfl) ?_
        refine K_iconst (v := nI 0) dL_isSo_311 (by decide) ?_
        refine K_istore dL_isSo_312 (Nat.le_of_ble_eq_true rfl) (by rfl) ?_
        exact K_less (kc2 := 100) (kn2 := 2300) (by omega) (by omega) (K_sub (by repeat (first | exact subl_nil | refine subl_cons rfl ?_)) (copy 32 0 q307 _ _ _ (by omega) (by omega) hset_s (fun t ht => absurd ht (Nat.not_lt_zero _)) (isLT_ky u (ky_set (Or.inr (by omega)))) (ky_tr hf (ky_set (Or.inr (by omega))))))
      · rw [nI_leI (by omega) (by omega)] at c234
        exact absurd (by omega) c234
    | succ j ih =>
      intro m pl hh n1 hj hpl u hf
      have hm : m < 3 := by omega
      have rmax : rsn σ.1.1 m 2147483647 = 1 := by rw [rsn, if_pos (by split <;> omega)]
      refine K_iload dL_isSo_231 (by rfl) ?_
      refine K_iconst (v := nI 3) dL_isSo_233 (by decide) ?_
      refine K_icmp_ge (tgt := 305) dL_isSo_234 (by decide) (fun c234 => ?_) (fun c234 => ?_)
      · rw [nI_leI (by omega) (by omega)] at c234
        exact absurd c234 (by omega)
      · rw [nI_leI (by omega) (by omega)] at c234
        refine K_iload dL_isSo_237 (by rfl) ?_
        refine K_if_eq (tgt := 296) dL_isSo_239 (by decide) (fun c239 => ?_) (fun c239 => ?_)
        · exact absurd c239 (by decide)
        · refine K_aload_n dL_isSo_242 (by rfl) ?_
          refine K_iload dL_isSo_243 (by rfl) ?_
          refine K_iload dL_isSo_245 (by rfl) ?_
          refine K_callW2 mf_L_whyNot (tb_3 (List.mem_of_getElem? (i := 58) rfl) rfl) ms_L_whyNot (sp_L_whyNot u ok (nI m) (nI pl) _) dL_isSo_247 (by decide) (by rfl) rfl (Nat.le_of_ble_eq_true rfl) (by omega) (by omega) (fun v247 h247 n247 q247 => ?_)
          obtain ⟨rfl, u247, k247⟩ := qW_ok (e_why hm (k := pl) (by omega)) q247
          have f247 := ky_tr hf (ky_fr (lo2 := x + 64) (hi2 := x + 66) k247 (Or.inr (by omega)))
          refine K_iload dL_isSo_250 (by rfl) ?_
          refine K_iload dL_isSo_252 (by rfl) ?_
          refine K_iload dL_isSo_254 (by rfl) ?_
          refine K_aload_n dL_isSo_256 (by rfl) ?_
          refine K_callS mf_L_why lk_L_103 ms_L_why (sp_L_why (v.keep (f247 _ (by omega) (by omega))) hx hm (k := pl) (by omega) _) dL_isSo_257 (by decide) (by rfl) rfl (Nat.le_of_ble_eq_true rfl) (Nat.zero_add _) (Nat.zero_add _) (fun v257 h257 n257 q257 => ?_)
          obtain ⟨rfl, rfl⟩ := q257
          refine K_icmp_ne (tgt := 296) dL_isSo_260 (by decide) (fun c260 => ?_) (fun c260 => ?_)
          · exact absurd rfl c260
          · refine K_aload_n dL_isSo_263 (by rfl) ?_
            refine K_iload dL_isSo_264 (by rfl) ?_
            refine K_callW2 mf_L_possible (tb_3 (List.mem_of_getElem? (i := 65) rfl) rfl) ms_L_possible (sp_L_possible u247 ok (nI m) _) dL_isSo_266 (by decide) (by rfl) rfl (Nat.le_of_ble_eq_true rfl) (by omega) (by omega) (fun v266 h266 n266 q266 => ?_)
            obtain ⟨rfl, u266, k266⟩ := qW_ok (e_possible hm) q266
            have f266 := ky_tr f247 (ky_fr (lo2 := x + 64) (hi2 := x + 66) k266 (Or.inr (by omega)))
            refine K_iload dL_isSo_269 (by rfl) ?_
            refine K_iload dL_isSo_271 (by rfl) ?_
            refine K_aload_n dL_isSo_273 (by rfl) ?_
            refine K_callS mf_L_possibles lk_L_135 ms_L_possibles (sp_L_possibles (v.keep (f266 _ (by omega) (by omega))) hx hm _) dL_isSo_274 (by decide) (by rfl) rfl (Nat.le_of_ble_eq_true rfl) (Nat.zero_add _) (Nat.zero_add _) (fun v274 h274 n274 q274 => ?_)
            obtain ⟨rfl, rfl⟩ := q274
            refine K_icmp_ne (tgt := 296) dL_isSo_277 (by decide) (fun c277 => ?_) (fun c277 => ?_)
            · exact absurd rfl c277
            · refine K_aload_n dL_isSo_280 (by rfl) ?_
              refine K_iload dL_isSo_281 (by rfl) ?_
              refine K_ldc dL_isSo_283 kc_L_9 ?_
              rw [imax]
              refine K_callW2 mf_L_whyNot (tb_3 (List.mem_of_getElem? (i := 58) rfl) rfl) ms_L_whyNot (sp_L_whyNot u266 ok (nI m) (nI 2147483647) _) dL_isSo_285 (by decide) (by rfl) rfl (Nat.le_of_ble_eq_true rfl) (by omega) (by omega) (fun v285 h285 n285 q285 => ?_)
              obtain ⟨rfl, u285, k285⟩ := qW_ok (e_why hm (k := 2147483647) (by omega)) q285
              have f285 := ky_tr f266 (ky_fr (lo2 := x + 64) (hi2 := x + 66) k285 (Or.inr (by omega)))
              refine K_iconst (v := 1) dL_isSo_288 (by decide) ?_
              refine K_icmp_ne (tgt := 296) dL_isSo_289 (by decide) (fun c289 => ?_) (fun c289 => ?_)
              · exact absurd rmax c289
              · refine K_iconst (v := 1) dL_isSo_292 (by decide) ?_
                refine K_goto (tgt := 297) dL_isSo_293 (by decide) ?_
                refine K_istore dL_isSo_297 (Nat.le_of_ble_eq_true rfl) (by rfl) ?_
                refine K_iincN dL_isSo_299 (by rfl) (by decide) (by rfl) ?_
                refine K_goto (tgt := 231) dL_isSo_302 (by decide) ?_
                exact K_less (kc2 := 101 + 3 * (3 - (m + 1))) (kn2 := 2332 + 18 * (3 - (m + 1))) (by omega) (by omega) (K_sub (by repeat (first | exact subl_nil | refine subl_cons rfl ?_)) (ih (m + 1) pl _ _ (by omega) hpl u285 f285))
  have numbers : ∀ (hh : HP) (n1 : Nat), isLT G hh x σ → ky (x + 64) (x + 66) h hh → KJ none G mm_L_isSo 40 97 [(0, .ref x), (1, .int z), (2, .ref (x + 64)), (3, .ref (x + 65)), (4, .int (nI σ.1.1.length)), (5, .int (twi σ.1.1 + 100)), (6, .int (nI (ovr σ.1.1))), (7, .int (rmask σ.1.1))] [] hh n1 120 2600 (fun _ => RT mm_L_isSo (q1 G x h σ)) := by
    intro hh n1 u hf
    have c0 : cON σ.1.1 σ.1.1.length = -1 := by rw [cON, if_neg (Nat.lt_irrefl _)]
    cases hfh : fh σ.1.1 with
    | none =>
      refine K_iload dL_isSo_97 (by rfl) ?_
      refine K_aload_n dL_isSo_99 (by rfl) ?_
      refine K_callS mf_L_first lk_L_72 ms_L_first (sp_L_first (v.keep (hf _ (by omega) (by omega))) hx _) dL_isSo_100 (by decide) (by rfl) rfl (Nat.le_of_ble_eq_true rfl) (Nat.zero_add _) (Nat.zero_add _) (fun v100 h100 n100 q100 => ?_)
      obtain ⟨rfl, rfl⟩ := q100
      rw [show encF (fh σ.1.1) = -1 by rw [hfh]; rfl]
      refine K_istore dL_isSo_103 (Nat.le_of_ble_eq_true rfl) (by rfl) ?_
      refine K_aload_n dL_isSo_105 (by rfl) ?_
      refine K_iload dL_isSo_106 (by rfl) ?_
      refine K_callW2 mf_L_crossing (tb_2 (List.mem_of_getElem? (i := 94) rfl) rfl) ms_L_crossing (sp_L_crossing u ok (nI σ.1.1.length) _) dL_isSo_108 (by decide) (by rfl) rfl (Nat.le_of_ble_eq_true rfl) (by omega) (by omega) (fun v108 h108 n108 q108 => ?_)
      obtain ⟨rfl, u108, k108⟩ := qW_ok (e_crossing (k := σ.1.1.length) (by omega)) q108
      have f108 := ky_tr hf (ky_fr (lo2 := x + 64) (hi2 := x + 66) k108 (Or.inr (by omega)))
      refine K_iconst (v := (-1)) dL_isSo_111 (by decide) ?_
      refine K_icmp_ne (tgt := 215) dL_isSo_112 (by decide) (fun c112 => ?_) (fun c112 => ?_)
      · exact absurd c0 c112
      · refine K_aload_n dL_isSo_115 (by rfl) ?_
        refine K_iconst (v := nI 0) dL_isSo_116 (by decide) ?_
        refine K_callW2 mf_L_count (tb_2 (List.mem_of_getElem? (i := 122) rfl) rfl) ms_L_count (sp_L_count u108 ok (nI 0) _) dL_isSo_117 (by decide) (by rfl) rfl (Nat.le_of_ble_eq_true rfl) (by omega) (by omega) (fun v117 h117 n117 q117 => ?_)
        obtain ⟨rfl, u117, k117⟩ := qW_ok (e_count (k := 0) (by omega)) q117
        have f117 := ky_tr f108 (ky_fr (lo2 := x + 64) (hi2 := x + 66) k117 (Or.inr (by omega)))
        refine K_iload dL_isSo_120 (by rfl) ?_
        refine K_icmp_ne (tgt := 215) dL_isSo_122 (by decide) (fun c122 => ?_) (fun c122 => ?_)
        · exact absurd rfl c122
        · refine K_aload_n dL_isSo_125 (by rfl) ?_
          refine K_iconst (v := nI 1) dL_isSo_126 (by decide) ?_
          refine K_callW2 mf_L_count (tb_2 (List.mem_of_getElem? (i := 122) rfl) rfl) ms_L_count (sp_L_count u117 ok (nI 1) _) dL_isSo_127 (by decide) (by rfl) rfl (Nat.le_of_ble_eq_true rfl) (by omega) (by omega) (fun v127 h127 n127 q127 => ?_)
          obtain ⟨rfl, u127, k127⟩ := qW_ok (e_count (k := 1) (by omega)) q127
          have f127 := ky_tr f117 (ky_fr (lo2 := x + 64) (hi2 := x + 66) k127 (Or.inr (by omega)))
          refine K_iload dL_isSo_130 (by rfl) ?_
          refine K_icmp_ne (tgt := 215) dL_isSo_132 (by decide) (fun c132 => ?_) (fun c132 => ?_)
          · exact absurd rfl c132
          · refine K_aload_n dL_isSo_135 (by rfl) ?_
            refine K_iconst (v := nI 2) dL_isSo_136 (by decide) ?_
            refine K_callW2 mf_L_count (tb_2 (List.mem_of_getElem? (i := 122) rfl) rfl) ms_L_count (sp_L_count u127 ok (nI 2) _) dL_isSo_137 (by decide) (by rfl) rfl (Nat.le_of_ble_eq_true rfl) (by omega) (by omega) (fun v137 h137 n137 q137 => ?_)
            obtain ⟨rfl, u137, k137⟩ := qW_ok (e_count (k := 2) (by omega)) q137
            have f137 := ky_tr f127 (ky_fr (lo2 := x + 64) (hi2 := x + 66) k137 (Or.inr (by omega)))
            have q9 := (f137 (x + 64) (by omega) (by omega)).trans q0
            refine K_aload_n dL_isSo_140 (by rfl) ?_
            refine K_iconst (v := nI 1) dL_isSo_141 (by decide) ?_
            refine K_ga dL_isSo_142 (by first | assumption | exact isLT.ob (by assumption) | exact isRow.ob (by assumption) | exact isHnd.ob (by assumption) | exact isUnt.ob (by assumption) | exact isSt.ob (by assumption) | exact isHist.ob (by assumption) | exact isTxt.ob (by assumption) | exact isLac.ob (by assumption) | exact isMea.ob (by assumption) | exact hset_s | exact (hset_n (by first | assumption | omega)).trans (by first | assumption | exact isLT.ob (by assumption) | exact isRow.ob (by assumption) | exact isHnd.ob (by assumption) | exact isUnt.ob (by assumption) | exact isSt.ob (by assumption) | exact isHist.ob (by assumption) | exact isTxt.ob (by assumption) | exact isLac.ob (by assumption) | exact isMea.ob (by assumption) | exact hset_s | exact (hset_n (by first | assumption | omega)).trans (by first | assumption | exact isLT.ob (by assumption) | exact isRow.ob (by assumption) | exact isHnd.ob (by assumption) | exact isUnt.ob (by assumption) | exact isSt.ob (by assumption) | exact isHist.ob (by assumption) | exact isTxt.ob (by assumption) | exact isLac.ob (by assumption) | exact isMea.ob (by assumption) | exact hset_s | exact (hset_n (by first | assumption | omega)).trans (by first | assumption | exact isLT.ob (by assumption) | exact isRow.ob (by assumption) | exact isHnd.ob (by assumption) | exact isUnt.ob (by assumption) | exact isSt.ob (by assumption) | exact isHist.ob (by assumption) | exact isTxt.ob (by assumption) | exact isLac.ob (by assumption) | exact isMea.ob (by assumption))))) (by first | assumption | omega) (by omega) ?_
            refine K_icmp_ne (tgt := 215) dL_isSo_143 (by decide) (fun c143 => ?_) (fun c143 => ?_)
            · exact absurd q2.symm c143
            · refine K_aload_n dL_isSo_146 (by rfl) ?_
              refine K_iconst (v := nI 3) dL_isSo_147 (by decide) ?_
              refine K_callW2 mf_L_count (tb_2 (List.mem_of_getElem? (i := 122) rfl) rfl) ms_L_count (sp_L_count u137 ok (nI 3) _) dL_isSo_148 (by decide) (by rfl) rfl (Nat.le_of_ble_eq_true rfl) (by omega) (by omega) (fun v148 h148 n148 q148 => ?_)
              obtain ⟨rfl, u148, k148⟩ := qW_ok (e_count (k := 3) (by omega)) q148
              have f148 := ky_tr f137 (ky_fr (lo2 := x + 64) (hi2 := x + 66) k148 (Or.inr (by omega)))
              refine K_iload dL_isSo_151 (by rfl) ?_
              refine K_icmp_ne (tgt := 215) dL_isSo_153 (by decide) (fun c153 => ?_) (fun c153 => ?_)
              · exact absurd rfl c153
              · refine K_aload_n dL_isSo_156 (by rfl) ?_
                refine K_iconst (v := nI 4) dL_isSo_157 (by decide) ?_
                refine K_callW2 mf_L_count (tb_2 (List.mem_of_getElem? (i := 122) rfl) rfl) ms_L_count (sp_L_count u148 ok (nI 4) _) dL_isSo_158 (by decide) (by rfl) rfl (Nat.le_of_ble_eq_true rfl) (by omega) (by omega) (fun v158 h158 n158 q158 => ?_)
                obtain ⟨rfl, u158, k158⟩ := qW_ok (e_count (k := 4) (by omega)) q158
                have f158 := ky_tr f148 (ky_fr (lo2 := x + 64) (hi2 := x + 66) k158 (Or.inr (by omega)))
                refine K_iload dL_isSo_161 (by rfl) ?_
                refine K_icmp_ne (tgt := 215) dL_isSo_163 (by decide) (fun c163 => ?_) (fun c163 => ?_)
                · exact absurd rfl c163
                · refine K_aload_n dL_isSo_166 (by rfl) ?_
                  refine K_iconst (v := nI 5) dL_isSo_167 (by decide) ?_
                  refine K_callW2 mf_L_count (tb_2 (List.mem_of_getElem? (i := 122) rfl) rfl) ms_L_count (sp_L_count u158 ok (nI 5) _) dL_isSo_168 (by decide) (by rfl) rfl (Nat.le_of_ble_eq_true rfl) (by omega) (by omega) (fun v168 h168 n168 q168 => ?_)
                  obtain ⟨rfl, u168, k168⟩ := qW_ok (e_count (k := 5) (by omega)) q168
                  have f168 := ky_tr f158 (ky_fr (lo2 := x + 64) (hi2 := x + 66) k168 (Or.inr (by omega)))
                  refine K_iload dL_isSo_171 (by rfl) ?_
                  refine K_if_ge (tgt := 180) dL_isSo_173 (by decide) (fun c173 => ?_) (fun c173 => ?_)
                  · exact absurd c173 (by decide)
                  · refine K_iconst (v := (-1)) dL_isSo_176 (by decide) ?_
                    refine K_goto (tgt := 185) dL_isSo_177 (by decide) ?_
                    refine K_icmp_ne (tgt := 215) dL_isSo_185 (by decide) (fun c185 => ?_) (fun c185 => ?_)
                    · exact absurd (show encB (fh σ.1.1) = -1 by rw [hfh]; rfl) c185
                    · refine K_aload_n dL_isSo_188 (by rfl) ?_
                      refine K_bipush (v := nI 6) dL_isSo_189 (by decide) ?_
                      refine K_callW2 mf_L_count (tb_2 (List.mem_of_getElem? (i := 122) rfl) rfl) ms_L_count (sp_L_count u168 ok (nI 6) _) dL_isSo_191 (by decide) (by rfl) rfl (Nat.le_of_ble_eq_true rfl) (by omega) (by omega) (fun v191 h191 n191 q191 => ?_)
                      obtain ⟨rfl, u191, k191⟩ := qW_ok (e_count (k := 6) (by omega)) q191
                      have f191 := ky_tr f168 (ky_fr (lo2 := x + 64) (hi2 := x + 66) k191 (Or.inr (by omega)))
                      refine K_iload dL_isSo_194 (by rfl) ?_
                      refine K_if_ge (tgt := 203) dL_isSo_196 (by decide) (fun c196 => ?_) (fun c196 => ?_)
                      · exact absurd c196 (by decide)
                      · refine K_iconst (v := (-1)) dL_isSo_199 (by decide) ?_
                        refine K_goto (tgt := 208) dL_isSo_200 (by decide) ?_
                        refine K_icmp_ne (tgt := 215) dL_isSo_208 (by decide) (fun c208 => ?_) (fun c208 => ?_)
                        · exact absurd (show encE (fh σ.1.1) = -1 by rw [hfh]; rfl) c208
                        · refine K_iconst (v := 1) dL_isSo_211 (by decide) ?_
                          refine K_goto (tgt := 216) dL_isSo_212 (by decide) ?_
                          refine K_istore dL_isSo_216 (Nat.le_of_ble_eq_true rfl) (by rfl) ?_
                          refine K_iload_n dL_isSo_218 (by rfl) ?_
                          refine K_iload dL_isSo_219 (by rfl) ?_
                          refine K_iconst (v := nI 2) dL_isSo_221 (by decide) ?_
                          refine K_iadd dL_isSo_222 ?_
                          rw [nI_add]
                          refine K_callS mf_L_low lk_L_116 ms_L_low (sp_L_low _ z (m := σ.1.1.length + 2) (by omega) (by omega) _) dL_isSo_223 (by decide) (by rfl) rfl (Nat.le_of_ble_eq_true rfl) (Nat.zero_add _) (Nat.zero_add _) (fun v223 h223 n223 q223 => ?_)
                          obtain ⟨⟨pl, hpl, rfl⟩, rfl⟩ := q223
                          refine K_istore dL_isSo_226 (Nat.le_of_ble_eq_true rfl) (by rfl) ?_
                          refine K_iconst (v := nI 0) dL_isSo_228 (by decide) ?_
                          refine K_istore dL_isSo_229 (Nat.le_of_ble_eq_true rfl) (by rfl) ?_
                          exact K_less (kc2 := 101 + 3 * (3 - 0)) (kn2 := 2332 + 18 * (3 - 0)) (by omega) (by omega) (K_sub (by repeat (first | exact subl_nil | refine subl_cons rfl ?_)) (moves 3 0 pl _ _ (by omega) (by omega) u191 f191))
    | some p =>
      obtain ⟨hpq, hpl9, -⟩ := fh_lt (p := p.1) (q := p.2) hfh
      refine K_iload dL_isSo_97 (by rfl) ?_
      refine K_aload_n dL_isSo_99 (by rfl) ?_
      refine K_callS mf_L_first lk_L_72 ms_L_first (sp_L_first (v.keep (hf _ (by omega) (by omega))) hx _) dL_isSo_100 (by decide) (by rfl) rfl (Nat.le_of_ble_eq_true rfl) (Nat.zero_add _) (Nat.zero_add _) (fun v100 h100 n100 q100 => ?_)
      obtain ⟨rfl, rfl⟩ := q100
      rw [show encF (fh σ.1.1) = nI (64 * p.1 + p.2) by rw [hfh]; rfl]
      refine K_istore dL_isSo_103 (Nat.le_of_ble_eq_true rfl) (by rfl) ?_
      refine K_aload_n dL_isSo_105 (by rfl) ?_
      refine K_iload dL_isSo_106 (by rfl) ?_
      refine K_callW2 mf_L_crossing (tb_2 (List.mem_of_getElem? (i := 94) rfl) rfl) ms_L_crossing (sp_L_crossing u ok (nI σ.1.1.length) _) dL_isSo_108 (by decide) (by rfl) rfl (Nat.le_of_ble_eq_true rfl) (by omega) (by omega) (fun v108 h108 n108 q108 => ?_)
      obtain ⟨rfl, u108, k108⟩ := qW_ok (e_crossing (k := σ.1.1.length) (by omega)) q108
      have f108 := ky_tr hf (ky_fr (lo2 := x + 64) (hi2 := x + 66) k108 (Or.inr (by omega)))
      refine K_iconst (v := (-1)) dL_isSo_111 (by decide) ?_
      refine K_icmp_ne (tgt := 215) dL_isSo_112 (by decide) (fun c112 => ?_) (fun c112 => ?_)
      · exact absurd c0 c112
      · refine K_aload_n dL_isSo_115 (by rfl) ?_
        refine K_iconst (v := nI 0) dL_isSo_116 (by decide) ?_
        refine K_callW2 mf_L_count (tb_2 (List.mem_of_getElem? (i := 122) rfl) rfl) ms_L_count (sp_L_count u108 ok (nI 0) _) dL_isSo_117 (by decide) (by rfl) rfl (Nat.le_of_ble_eq_true rfl) (by omega) (by omega) (fun v117 h117 n117 q117 => ?_)
        obtain ⟨rfl, u117, k117⟩ := qW_ok (e_count (k := 0) (by omega)) q117
        have f117 := ky_tr f108 (ky_fr (lo2 := x + 64) (hi2 := x + 66) k117 (Or.inr (by omega)))
        refine K_iload dL_isSo_120 (by rfl) ?_
        refine K_icmp_ne (tgt := 215) dL_isSo_122 (by decide) (fun c122 => ?_) (fun c122 => ?_)
        · exact absurd rfl c122
        · refine K_aload_n dL_isSo_125 (by rfl) ?_
          refine K_iconst (v := nI 1) dL_isSo_126 (by decide) ?_
          refine K_callW2 mf_L_count (tb_2 (List.mem_of_getElem? (i := 122) rfl) rfl) ms_L_count (sp_L_count u117 ok (nI 1) _) dL_isSo_127 (by decide) (by rfl) rfl (Nat.le_of_ble_eq_true rfl) (by omega) (by omega) (fun v127 h127 n127 q127 => ?_)
          obtain ⟨rfl, u127, k127⟩ := qW_ok (e_count (k := 1) (by omega)) q127
          have f127 := ky_tr f117 (ky_fr (lo2 := x + 64) (hi2 := x + 66) k127 (Or.inr (by omega)))
          refine K_iload dL_isSo_130 (by rfl) ?_
          refine K_icmp_ne (tgt := 215) dL_isSo_132 (by decide) (fun c132 => ?_) (fun c132 => ?_)
          · exact absurd rfl c132
          · refine K_aload_n dL_isSo_135 (by rfl) ?_
            refine K_iconst (v := nI 2) dL_isSo_136 (by decide) ?_
            refine K_callW2 mf_L_count (tb_2 (List.mem_of_getElem? (i := 122) rfl) rfl) ms_L_count (sp_L_count u127 ok (nI 2) _) dL_isSo_137 (by decide) (by rfl) rfl (Nat.le_of_ble_eq_true rfl) (by omega) (by omega) (fun v137 h137 n137 q137 => ?_)
            obtain ⟨rfl, u137, k137⟩ := qW_ok (e_count (k := 2) (by omega)) q137
            have f137 := ky_tr f127 (ky_fr (lo2 := x + 64) (hi2 := x + 66) k137 (Or.inr (by omega)))
            have q9 := (f137 (x + 64) (by omega) (by omega)).trans q0
            refine K_aload_n dL_isSo_140 (by rfl) ?_
            refine K_iconst (v := nI 1) dL_isSo_141 (by decide) ?_
            refine K_ga dL_isSo_142 (by first | assumption | exact isLT.ob (by assumption) | exact isRow.ob (by assumption) | exact isHnd.ob (by assumption) | exact isUnt.ob (by assumption) | exact isSt.ob (by assumption) | exact isHist.ob (by assumption) | exact isTxt.ob (by assumption) | exact isLac.ob (by assumption) | exact isMea.ob (by assumption) | exact hset_s | exact (hset_n (by first | assumption | omega)).trans (by first | assumption | exact isLT.ob (by assumption) | exact isRow.ob (by assumption) | exact isHnd.ob (by assumption) | exact isUnt.ob (by assumption) | exact isSt.ob (by assumption) | exact isHist.ob (by assumption) | exact isTxt.ob (by assumption) | exact isLac.ob (by assumption) | exact isMea.ob (by assumption) | exact hset_s | exact (hset_n (by first | assumption | omega)).trans (by first | assumption | exact isLT.ob (by assumption) | exact isRow.ob (by assumption) | exact isHnd.ob (by assumption) | exact isUnt.ob (by assumption) | exact isSt.ob (by assumption) | exact isHist.ob (by assumption) | exact isTxt.ob (by assumption) | exact isLac.ob (by assumption) | exact isMea.ob (by assumption) | exact hset_s | exact (hset_n (by first | assumption | omega)).trans (by first | assumption | exact isLT.ob (by assumption) | exact isRow.ob (by assumption) | exact isHnd.ob (by assumption) | exact isUnt.ob (by assumption) | exact isSt.ob (by assumption) | exact isHist.ob (by assumption) | exact isTxt.ob (by assumption) | exact isLac.ob (by assumption) | exact isMea.ob (by assumption))))) (by first | assumption | omega) (by omega) ?_
            refine K_icmp_ne (tgt := 215) dL_isSo_143 (by decide) (fun c143 => ?_) (fun c143 => ?_)
            · exact absurd q2.symm c143
            · refine K_aload_n dL_isSo_146 (by rfl) ?_
              refine K_iconst (v := nI 3) dL_isSo_147 (by decide) ?_
              refine K_callW2 mf_L_count (tb_2 (List.mem_of_getElem? (i := 122) rfl) rfl) ms_L_count (sp_L_count u137 ok (nI 3) _) dL_isSo_148 (by decide) (by rfl) rfl (Nat.le_of_ble_eq_true rfl) (by omega) (by omega) (fun v148 h148 n148 q148 => ?_)
              obtain ⟨rfl, u148, k148⟩ := qW_ok (e_count (k := 3) (by omega)) q148
              have f148 := ky_tr f137 (ky_fr (lo2 := x + 64) (hi2 := x + 66) k148 (Or.inr (by omega)))
              refine K_iload dL_isSo_151 (by rfl) ?_
              refine K_icmp_ne (tgt := 215) dL_isSo_153 (by decide) (fun c153 => ?_) (fun c153 => ?_)
              · exact absurd rfl c153
              · refine K_aload_n dL_isSo_156 (by rfl) ?_
                refine K_iconst (v := nI 4) dL_isSo_157 (by decide) ?_
                refine K_callW2 mf_L_count (tb_2 (List.mem_of_getElem? (i := 122) rfl) rfl) ms_L_count (sp_L_count u148 ok (nI 4) _) dL_isSo_158 (by decide) (by rfl) rfl (Nat.le_of_ble_eq_true rfl) (by omega) (by omega) (fun v158 h158 n158 q158 => ?_)
                obtain ⟨rfl, u158, k158⟩ := qW_ok (e_count (k := 4) (by omega)) q158
                have f158 := ky_tr f148 (ky_fr (lo2 := x + 64) (hi2 := x + 66) k158 (Or.inr (by omega)))
                refine K_iload dL_isSo_161 (by rfl) ?_
                refine K_icmp_ne (tgt := 215) dL_isSo_163 (by decide) (fun c163 => ?_) (fun c163 => ?_)
                · exact absurd rfl c163
                · refine K_aload_n dL_isSo_166 (by rfl) ?_
                  refine K_iconst (v := nI 5) dL_isSo_167 (by decide) ?_
                  refine K_callW2 mf_L_count (tb_2 (List.mem_of_getElem? (i := 122) rfl) rfl) ms_L_count (sp_L_count u158 ok (nI 5) _) dL_isSo_168 (by decide) (by rfl) rfl (Nat.le_of_ble_eq_true rfl) (by omega) (by omega) (fun v168 h168 n168 q168 => ?_)
                  obtain ⟨rfl, u168, k168⟩ := qW_ok (e_count (k := 5) (by omega)) q168
                  have f168 := ky_tr f158 (ky_fr (lo2 := x + 64) (hi2 := x + 66) k168 (Or.inr (by omega)))
                  refine K_iload dL_isSo_171 (by rfl) ?_
                  refine K_if_ge (tgt := 180) dL_isSo_173 (by decide) (fun c173 => ?_) (fun c173 => ?_)
                  · refine K_iload dL_isSo_180 (by rfl) ?_
                    refine K_bipush (v := nI 64) dL_isSo_182 (by decide) ?_
                    refine K_idiv dL_isSo_184 (by decide) ?_
                    rw [pk_div (by omega) (by omega) (by omega), show (64 * p.1 + p.2) / 64 = p.1 by omega]
                    refine K_icmp_ne (tgt := 215) dL_isSo_185 (by decide) (fun c185 => ?_) (fun c185 => ?_)
                    · exact absurd (show encB (fh σ.1.1) = nI p.1 by rw [hfh]; rfl) c185
                    · refine K_aload_n dL_isSo_188 (by rfl) ?_
                      refine K_bipush (v := nI 6) dL_isSo_189 (by decide) ?_
                      refine K_callW2 mf_L_count (tb_2 (List.mem_of_getElem? (i := 122) rfl) rfl) ms_L_count (sp_L_count u168 ok (nI 6) _) dL_isSo_191 (by decide) (by rfl) rfl (Nat.le_of_ble_eq_true rfl) (by omega) (by omega) (fun v191 h191 n191 q191 => ?_)
                      obtain ⟨rfl, u191, k191⟩ := qW_ok (e_count (k := 6) (by omega)) q191
                      have f191 := ky_tr f168 (ky_fr (lo2 := x + 64) (hi2 := x + 66) k191 (Or.inr (by omega)))
                      refine K_iload dL_isSo_194 (by rfl) ?_
                      refine K_if_ge (tgt := 203) dL_isSo_196 (by decide) (fun c196 => ?_) (fun c196 => ?_)
                      · refine K_iload dL_isSo_203 (by rfl) ?_
                        refine K_bipush (v := nI 64) dL_isSo_205 (by decide) ?_
                        refine K_irem dL_isSo_207 (by decide) ?_
                        rw [pk_rem (by omega) (by omega) (by omega), show (64 * p.1 + p.2) % 64 = p.2 by omega]
                        refine K_icmp_ne (tgt := 215) dL_isSo_208 (by decide) (fun c208 => ?_) (fun c208 => ?_)
                        · exact absurd (show encE (fh σ.1.1) = nI p.2 by rw [hfh]; rfl) c208
                        · refine K_iconst (v := 1) dL_isSo_211 (by decide) ?_
                          refine K_goto (tgt := 216) dL_isSo_212 (by decide) ?_
                          refine K_istore dL_isSo_216 (Nat.le_of_ble_eq_true rfl) (by rfl) ?_
                          refine K_iload_n dL_isSo_218 (by rfl) ?_
                          refine K_iload dL_isSo_219 (by rfl) ?_
                          refine K_iconst (v := nI 2) dL_isSo_221 (by decide) ?_
                          refine K_iadd dL_isSo_222 ?_
                          rw [nI_add]
                          refine K_callS mf_L_low lk_L_116 ms_L_low (sp_L_low _ z (m := σ.1.1.length + 2) (by omega) (by omega) _) dL_isSo_223 (by decide) (by rfl) rfl (Nat.le_of_ble_eq_true rfl) (Nat.zero_add _) (Nat.zero_add _) (fun v223 h223 n223 q223 => ?_)
                          obtain ⟨⟨pl, hpl, rfl⟩, rfl⟩ := q223
                          refine K_istore dL_isSo_226 (Nat.le_of_ble_eq_true rfl) (by rfl) ?_
                          refine K_iconst (v := nI 0) dL_isSo_228 (by decide) ?_
                          refine K_istore dL_isSo_229 (Nat.le_of_ble_eq_true rfl) (by rfl) ?_
                          exact K_less (kc2 := 101 + 3 * (3 - 0)) (kn2 := 2332 + 18 * (3 - 0)) (by omega) (by omega) (K_sub (by repeat (first | exact subl_nil | refine subl_cons rfl ?_)) (moves 3 0 pl _ _ (by omega) (by omega) u191 f191))
                      · exact absurd (nI_pos' (by omega)) c196
                  · exact absurd (nI_pos' (by omega)) c173
  have each : ∀ (j k : Nat) (hh : HP) (n1 : Nat), k + j = σ.1.1.length → isLT G hh x σ → ky (x + 64) (x + 66) h hh → KJ none G mm_L_isSo 40 18 [(0, .ref x), (1, .int z), (2, .ref (x + 64)), (3, .ref (x + 65)), (4, .int (nI σ.1.1.length)), (5, .int (twi (σ.1.1.take k) + 100)), (6, .int (nI (ovr (σ.1.1.take k)))), (7, .int (rmask (σ.1.1.take k))), (8, .int (nI k))] [] hh n1 (120 + (30 - k)) (2600 + 6 * (30 - k)) (fun _ => RT mm_L_isSo (q1 G x h σ)) := by
    intro j
    induction j with
    | zero =>
      intro k hh n1 hj u hf
      obtain rfl : k = σ.1.1.length := by omega
      rw [List.take_length]
      refine K_iload dL_isSo_18 (by rfl) ?_
      refine K_iload dL_isSo_20 (by rfl) ?_
      refine K_icmp_ge (tgt := 97) dL_isSo_22 (by decide) (fun c22 => ?_) (fun c22 => ?_)
      · rw [nI_leI (by omega) (by omega)] at c22
        exact K_less (kc2 := 120) (kn2 := 2600) (by omega) (by omega) (K_sub (by repeat (first | exact subl_nil | refine subl_cons rfl ?_)) (numbers _ _ u hf))
      · rw [nI_leI (by omega) (by omega)] at c22
        exact absurd (by omega) c22
    | succ j ih =>
      intro k hh n1 hj u hf
      have hr1 := (hf (x + 65) (by omega) (by omega)).trans h1
      have ck : cON σ.1.1 k = σ.1.1.getD k 0 + 10 := by rw [cON, if_pos (by omega)]
      have tw := twi_take (xs := σ.1.1) (k := k) (by omega)
      have ov := ovr_take (xs := σ.1.1) (k := k) (by omega)
      have rm := rmask_take (xs := σ.1.1) (k := k) (by omega)
      by_cases hp : 0 < σ.1.1.getD k 0
      · rw [if_pos hp] at tw ov
        refine K_iload dL_isSo_18 (by rfl) ?_
        refine K_iload dL_isSo_20 (by rfl) ?_
        refine K_icmp_ge (tgt := 97) dL_isSo_22 (by decide) (fun c22 => ?_) (fun c22 => ?_)
        · rw [nI_leI (by omega) (by omega)] at c22
          exact absurd c22 (by omega)
        · rw [nI_leI (by omega) (by omega)] at c22
          refine K_iload dL_isSo_25 (by rfl) ?_
          refine K_aload_n dL_isSo_27 (by rfl) ?_
          refine K_iload dL_isSo_28 (by rfl) ?_
          refine K_ga dL_isSo_30 (by first | assumption | exact isLT.ob (by assumption) | exact isRow.ob (by assumption) | exact isHnd.ob (by assumption) | exact isUnt.ob (by assumption) | exact isSt.ob (by assumption) | exact isHist.ob (by assumption) | exact isTxt.ob (by assumption) | exact isLac.ob (by assumption) | exact isMea.ob (by assumption) | exact hset_s | exact (hset_n (by first | assumption | omega)).trans (by first | assumption | exact isLT.ob (by assumption) | exact isRow.ob (by assumption) | exact isHnd.ob (by assumption) | exact isUnt.ob (by assumption) | exact isSt.ob (by assumption) | exact isHist.ob (by assumption) | exact isTxt.ob (by assumption) | exact isLac.ob (by assumption) | exact isMea.ob (by assumption) | exact hset_s | exact (hset_n (by first | assumption | omega)).trans (by first | assumption | exact isLT.ob (by assumption) | exact isRow.ob (by assumption) | exact isHnd.ob (by assumption) | exact isUnt.ob (by assumption) | exact isSt.ob (by assumption) | exact isHist.ob (by assumption) | exact isTxt.ob (by assumption) | exact isLac.ob (by assumption) | exact isMea.ob (by assumption) | exact hset_s | exact (hset_n (by first | assumption | omega)).trans (by first | assumption | exact isLT.ob (by assumption) | exact isRow.ob (by assumption) | exact isHnd.ob (by assumption) | exact isUnt.ob (by assumption) | exact isSt.ob (by assumption) | exact isHist.ob (by assumption) | exact isTxt.ob (by assumption) | exact isLac.ob (by assumption) | exact isMea.ob (by assumption))))) (by first | assumption | omega) (by omega) ?_
          rw [h3 k (by omega)]
          refine K_if_le (tgt := 38) dL_isSo_31 (by decide) (fun c31 => ?_) (fun c31 => ?_)
          · exact absurd hp (Int32.not_lt.mpr c31)
          · refine K_iconst (v := 1) dL_isSo_34 (by decide) ?_
            refine K_goto (tgt := 39) dL_isSo_35 (by decide) ?_
            refine K_iadd dL_isSo_39 ?_
            refine K_istore dL_isSo_40 (Nat.le_of_ble_eq_true rfl) (by rfl) ?_
            refine K_iload dL_isSo_42 (by rfl) ?_
            refine K_aload_n dL_isSo_44 (by rfl) ?_
            refine K_iload dL_isSo_45 (by rfl) ?_
            refine K_ga dL_isSo_47 (by first | assumption | exact isLT.ob (by assumption) | exact isRow.ob (by assumption) | exact isHnd.ob (by assumption) | exact isUnt.ob (by assumption) | exact isSt.ob (by assumption) | exact isHist.ob (by assumption) | exact isTxt.ob (by assumption) | exact isLac.ob (by assumption) | exact isMea.ob (by assumption) | exact hset_s | exact (hset_n (by first | assumption | omega)).trans (by first | assumption | exact isLT.ob (by assumption) | exact isRow.ob (by assumption) | exact isHnd.ob (by assumption) | exact isUnt.ob (by assumption) | exact isSt.ob (by assumption) | exact isHist.ob (by assumption) | exact isTxt.ob (by assumption) | exact isLac.ob (by assumption) | exact isMea.ob (by assumption) | exact hset_s | exact (hset_n (by first | assumption | omega)).trans (by first | assumption | exact isLT.ob (by assumption) | exact isRow.ob (by assumption) | exact isHnd.ob (by assumption) | exact isUnt.ob (by assumption) | exact isSt.ob (by assumption) | exact isHist.ob (by assumption) | exact isTxt.ob (by assumption) | exact isLac.ob (by assumption) | exact isMea.ob (by assumption) | exact hset_s | exact (hset_n (by first | assumption | omega)).trans (by first | assumption | exact isLT.ob (by assumption) | exact isRow.ob (by assumption) | exact isHnd.ob (by assumption) | exact isUnt.ob (by assumption) | exact isSt.ob (by assumption) | exact isHist.ob (by assumption) | exact isTxt.ob (by assumption) | exact isLac.ob (by assumption) | exact isMea.ob (by assumption))))) (by first | assumption | omega) (by omega) ?_
            rw [h3 k (by omega)]
            refine K_if_le (tgt := 55) dL_isSo_48 (by decide) (fun c48 => ?_) (fun c48 => ?_)
            · exact absurd hp (Int32.not_lt.mpr c48)
            · refine K_iconst (v := nI 1) dL_isSo_51 (by decide) ?_
              refine K_goto (tgt := 56) dL_isSo_52 (by decide) ?_
              refine K_iadd dL_isSo_56 ?_
              rw [nI_add]
              refine K_istore dL_isSo_57 (Nat.le_of_ble_eq_true rfl) (by rfl) ?_
              refine K_iload dL_isSo_59 (by rfl) ?_
              refine K_iconst (v := 1) dL_isSo_61 (by decide) ?_
              refine K_aload_n dL_isSo_62 (by rfl) ?_
              refine K_iload dL_isSo_63 (by rfl) ?_
              refine K_ga dL_isSo_65 (by first | assumption | exact isLT.ob (by assumption) | exact isRow.ob (by assumption) | exact isHnd.ob (by assumption) | exact isUnt.ob (by assumption) | exact isSt.ob (by assumption) | exact isHist.ob (by assumption) | exact isTxt.ob (by assumption) | exact isLac.ob (by assumption) | exact isMea.ob (by assumption) | exact hset_s | exact (hset_n (by first | assumption | omega)).trans (by first | assumption | exact isLT.ob (by assumption) | exact isRow.ob (by assumption) | exact isHnd.ob (by assumption) | exact isUnt.ob (by assumption) | exact isSt.ob (by assumption) | exact isHist.ob (by assumption) | exact isTxt.ob (by assumption) | exact isLac.ob (by assumption) | exact isMea.ob (by assumption) | exact hset_s | exact (hset_n (by first | assumption | omega)).trans (by first | assumption | exact isLT.ob (by assumption) | exact isRow.ob (by assumption) | exact isHnd.ob (by assumption) | exact isUnt.ob (by assumption) | exact isSt.ob (by assumption) | exact isHist.ob (by assumption) | exact isTxt.ob (by assumption) | exact isLac.ob (by assumption) | exact isMea.ob (by assumption) | exact hset_s | exact (hset_n (by first | assumption | omega)).trans (by first | assumption | exact isLT.ob (by assumption) | exact isRow.ob (by assumption) | exact isHnd.ob (by assumption) | exact isUnt.ob (by assumption) | exact isSt.ob (by assumption) | exact isHist.ob (by assumption) | exact isTxt.ob (by assumption) | exact isLac.ob (by assumption) | exact isMea.ob (by assumption))))) (by first | assumption | omega) (by omega) ?_
              rw [h3 k (by omega)]
              refine K_callS mf_L_rank lk_L_63 ms_L_rank (sp_L_rank _ (σ.1.1.getD k 0) _) dL_isSo_66 (by decide) (by rfl) rfl (Nat.le_of_ble_eq_true rfl) (Nat.zero_add _) (Nat.zero_add _) (fun v66 h66 n66 q66 => ?_)
              obtain ⟨rfl, rfl⟩ := q66
              refine K_ishl dL_isSo_69 ?_
              refine K_ior dL_isSo_70 ?_
              refine K_istore dL_isSo_71 (Nat.le_of_ble_eq_true rfl) (by rfl) ?_
              refine K_aload_n dL_isSo_73 (by rfl) ?_
              refine K_iload dL_isSo_74 (by rfl) ?_
              refine K_callW2 mf_L_crossing (tb_2 (List.mem_of_getElem? (i := 94) rfl) rfl) ms_L_crossing (sp_L_crossing u ok (nI k) _) dL_isSo_76 (by decide) (by rfl) rfl (Nat.le_of_ble_eq_true rfl) (by omega) (by omega) (fun v76 h76 n76 q76 => ?_)
              obtain ⟨rfl, u76, k76⟩ := qW_ok (e_crossing (k := k) (by omega)) q76
              have r76 := (k76 (x + 65) (by omega)).trans hr1
              refine K_aload_n dL_isSo_79 (by rfl) ?_
              refine K_iload dL_isSo_80 (by rfl) ?_
              refine K_ga dL_isSo_82 (by first | assumption | exact isLT.ob (by assumption) | exact isRow.ob (by assumption) | exact isHnd.ob (by assumption) | exact isUnt.ob (by assumption) | exact isSt.ob (by assumption) | exact isHist.ob (by assumption) | exact isTxt.ob (by assumption) | exact isLac.ob (by assumption) | exact isMea.ob (by assumption) | exact hset_s | exact (hset_n (by first | assumption | omega)).trans (by first | assumption | exact isLT.ob (by assumption) | exact isRow.ob (by assumption) | exact isHnd.ob (by assumption) | exact isUnt.ob (by assumption) | exact isSt.ob (by assumption) | exact isHist.ob (by assumption) | exact isTxt.ob (by assumption) | exact isLac.ob (by assumption) | exact isMea.ob (by assumption) | exact hset_s | exact (hset_n (by first | assumption | omega)).trans (by first | assumption | exact isLT.ob (by assumption) | exact isRow.ob (by assumption) | exact isHnd.ob (by assumption) | exact isUnt.ob (by assumption) | exact isSt.ob (by assumption) | exact isHist.ob (by assumption) | exact isTxt.ob (by assumption) | exact isLac.ob (by assumption) | exact isMea.ob (by assumption) | exact hset_s | exact (hset_n (by first | assumption | omega)).trans (by first | assumption | exact isLT.ob (by assumption) | exact isRow.ob (by assumption) | exact isHnd.ob (by assumption) | exact isUnt.ob (by assumption) | exact isSt.ob (by assumption) | exact isHist.ob (by assumption) | exact isTxt.ob (by assumption) | exact isLac.ob (by assumption) | exact isMea.ob (by assumption))))) (by first | assumption | omega) (by omega) ?_
              rw [h3 k (by omega)]
              refine K_bipush (v := 10) dL_isSo_83 (by decide) ?_
              refine K_iadd dL_isSo_85 ?_
              refine K_icmp_eq (tgt := 91) dL_isSo_86 (by decide) (fun c86 => ?_) (fun c86 => ?_)
              · refine K_iincN dL_isSo_91 (by rfl) (by decide) (by rfl) ?_
                refine K_goto (tgt := 18) dL_isSo_94 (by decide) ?_
                exact K_less (kc2 := 120 + (30 - (k + 1))) (kn2 := 2600 + 6 * (30 - (k + 1))) (by omega) (by omega) (K_sub (subl_cons rfl (subl_cons rfl (subl_cons rfl (subl_cons rfl (subl_cons rfl (subl_cons (by show some (Value.int _) = some (Value.int _); rw [tw, ← i32c]) (subl_cons (by show some (Value.int _) = some (Value.int _); rw [ov]) (subl_cons (by show some (Value.int _) = some (Value.int _); rw [rm]) (subl_cons rfl subl_nil))))))))) (ih (k + 1) _ _ (by omega) u76 (ky_tr hf (ky_fr k76 (Or.inr (by omega))))))
              · exact absurd ck c86
      · rw [if_neg hp] at tw ov
        refine K_iload dL_isSo_18 (by rfl) ?_
        refine K_iload dL_isSo_20 (by rfl) ?_
        refine K_icmp_ge (tgt := 97) dL_isSo_22 (by decide) (fun c22 => ?_) (fun c22 => ?_)
        · rw [nI_leI (by omega) (by omega)] at c22
          exact absurd c22 (by omega)
        · rw [nI_leI (by omega) (by omega)] at c22
          refine K_iload dL_isSo_25 (by rfl) ?_
          refine K_aload_n dL_isSo_27 (by rfl) ?_
          refine K_iload dL_isSo_28 (by rfl) ?_
          refine K_ga dL_isSo_30 (by first | assumption | exact isLT.ob (by assumption) | exact isRow.ob (by assumption) | exact isHnd.ob (by assumption) | exact isUnt.ob (by assumption) | exact isSt.ob (by assumption) | exact isHist.ob (by assumption) | exact isTxt.ob (by assumption) | exact isLac.ob (by assumption) | exact isMea.ob (by assumption) | exact hset_s | exact (hset_n (by first | assumption | omega)).trans (by first | assumption | exact isLT.ob (by assumption) | exact isRow.ob (by assumption) | exact isHnd.ob (by assumption) | exact isUnt.ob (by assumption) | exact isSt.ob (by assumption) | exact isHist.ob (by assumption) | exact isTxt.ob (by assumption) | exact isLac.ob (by assumption) | exact isMea.ob (by assumption) | exact hset_s | exact (hset_n (by first | assumption | omega)).trans (by first | assumption | exact isLT.ob (by assumption) | exact isRow.ob (by assumption) | exact isHnd.ob (by assumption) | exact isUnt.ob (by assumption) | exact isSt.ob (by assumption) | exact isHist.ob (by assumption) | exact isTxt.ob (by assumption) | exact isLac.ob (by assumption) | exact isMea.ob (by assumption) | exact hset_s | exact (hset_n (by first | assumption | omega)).trans (by first | assumption | exact isLT.ob (by assumption) | exact isRow.ob (by assumption) | exact isHnd.ob (by assumption) | exact isUnt.ob (by assumption) | exact isSt.ob (by assumption) | exact isHist.ob (by assumption) | exact isTxt.ob (by assumption) | exact isLac.ob (by assumption) | exact isMea.ob (by assumption))))) (by first | assumption | omega) (by omega) ?_
          rw [h3 k (by omega)]
          refine K_if_le (tgt := 38) dL_isSo_31 (by decide) (fun c31 => ?_) (fun c31 => ?_)
          · refine K_iconst (v := (-1)) dL_isSo_38 (by decide) ?_
            refine K_iadd dL_isSo_39 ?_
            refine K_istore dL_isSo_40 (Nat.le_of_ble_eq_true rfl) (by rfl) ?_
            refine K_iload dL_isSo_42 (by rfl) ?_
            refine K_aload_n dL_isSo_44 (by rfl) ?_
            refine K_iload dL_isSo_45 (by rfl) ?_
            refine K_ga dL_isSo_47 (by first | assumption | exact isLT.ob (by assumption) | exact isRow.ob (by assumption) | exact isHnd.ob (by assumption) | exact isUnt.ob (by assumption) | exact isSt.ob (by assumption) | exact isHist.ob (by assumption) | exact isTxt.ob (by assumption) | exact isLac.ob (by assumption) | exact isMea.ob (by assumption) | exact hset_s | exact (hset_n (by first | assumption | omega)).trans (by first | assumption | exact isLT.ob (by assumption) | exact isRow.ob (by assumption) | exact isHnd.ob (by assumption) | exact isUnt.ob (by assumption) | exact isSt.ob (by assumption) | exact isHist.ob (by assumption) | exact isTxt.ob (by assumption) | exact isLac.ob (by assumption) | exact isMea.ob (by assumption) | exact hset_s | exact (hset_n (by first | assumption | omega)).trans (by first | assumption | exact isLT.ob (by assumption) | exact isRow.ob (by assumption) | exact isHnd.ob (by assumption) | exact isUnt.ob (by assumption) | exact isSt.ob (by assumption) | exact isHist.ob (by assumption) | exact isTxt.ob (by assumption) | exact isLac.ob (by assumption) | exact isMea.ob (by assumption) | exact hset_s | exact (hset_n (by first | assumption | omega)).trans (by first | assumption | exact isLT.ob (by assumption) | exact isRow.ob (by assumption) | exact isHnd.ob (by assumption) | exact isUnt.ob (by assumption) | exact isSt.ob (by assumption) | exact isHist.ob (by assumption) | exact isTxt.ob (by assumption) | exact isLac.ob (by assumption) | exact isMea.ob (by assumption))))) (by first | assumption | omega) (by omega) ?_
            rw [h3 k (by omega)]
            refine K_if_le (tgt := 55) dL_isSo_48 (by decide) (fun c48 => ?_) (fun c48 => ?_)
            · refine K_iconst (v := nI 0) dL_isSo_55 (by decide) ?_
              refine K_iadd dL_isSo_56 ?_
              rw [nI_add]
              refine K_istore dL_isSo_57 (Nat.le_of_ble_eq_true rfl) (by rfl) ?_
              refine K_iload dL_isSo_59 (by rfl) ?_
              refine K_iconst (v := 1) dL_isSo_61 (by decide) ?_
              refine K_aload_n dL_isSo_62 (by rfl) ?_
              refine K_iload dL_isSo_63 (by rfl) ?_
              refine K_ga dL_isSo_65 (by first | assumption | exact isLT.ob (by assumption) | exact isRow.ob (by assumption) | exact isHnd.ob (by assumption) | exact isUnt.ob (by assumption) | exact isSt.ob (by assumption) | exact isHist.ob (by assumption) | exact isTxt.ob (by assumption) | exact isLac.ob (by assumption) | exact isMea.ob (by assumption) | exact hset_s | exact (hset_n (by first | assumption | omega)).trans (by first | assumption | exact isLT.ob (by assumption) | exact isRow.ob (by assumption) | exact isHnd.ob (by assumption) | exact isUnt.ob (by assumption) | exact isSt.ob (by assumption) | exact isHist.ob (by assumption) | exact isTxt.ob (by assumption) | exact isLac.ob (by assumption) | exact isMea.ob (by assumption) | exact hset_s | exact (hset_n (by first | assumption | omega)).trans (by first | assumption | exact isLT.ob (by assumption) | exact isRow.ob (by assumption) | exact isHnd.ob (by assumption) | exact isUnt.ob (by assumption) | exact isSt.ob (by assumption) | exact isHist.ob (by assumption) | exact isTxt.ob (by assumption) | exact isLac.ob (by assumption) | exact isMea.ob (by assumption) | exact hset_s | exact (hset_n (by first | assumption | omega)).trans (by first | assumption | exact isLT.ob (by assumption) | exact isRow.ob (by assumption) | exact isHnd.ob (by assumption) | exact isUnt.ob (by assumption) | exact isSt.ob (by assumption) | exact isHist.ob (by assumption) | exact isTxt.ob (by assumption) | exact isLac.ob (by assumption) | exact isMea.ob (by assumption))))) (by first | assumption | omega) (by omega) ?_
              rw [h3 k (by omega)]
              refine K_callS mf_L_rank lk_L_63 ms_L_rank (sp_L_rank _ (σ.1.1.getD k 0) _) dL_isSo_66 (by decide) (by rfl) rfl (Nat.le_of_ble_eq_true rfl) (Nat.zero_add _) (Nat.zero_add _) (fun v66 h66 n66 q66 => ?_)
              obtain ⟨rfl, rfl⟩ := q66
              refine K_ishl dL_isSo_69 ?_
              refine K_ior dL_isSo_70 ?_
              refine K_istore dL_isSo_71 (Nat.le_of_ble_eq_true rfl) (by rfl) ?_
              refine K_aload_n dL_isSo_73 (by rfl) ?_
              refine K_iload dL_isSo_74 (by rfl) ?_
              refine K_callW2 mf_L_crossing (tb_2 (List.mem_of_getElem? (i := 94) rfl) rfl) ms_L_crossing (sp_L_crossing u ok (nI k) _) dL_isSo_76 (by decide) (by rfl) rfl (Nat.le_of_ble_eq_true rfl) (by omega) (by omega) (fun v76 h76 n76 q76 => ?_)
              obtain ⟨rfl, u76, k76⟩ := qW_ok (e_crossing (k := k) (by omega)) q76
              have r76 := (k76 (x + 65) (by omega)).trans hr1
              refine K_aload_n dL_isSo_79 (by rfl) ?_
              refine K_iload dL_isSo_80 (by rfl) ?_
              refine K_ga dL_isSo_82 (by first | assumption | exact isLT.ob (by assumption) | exact isRow.ob (by assumption) | exact isHnd.ob (by assumption) | exact isUnt.ob (by assumption) | exact isSt.ob (by assumption) | exact isHist.ob (by assumption) | exact isTxt.ob (by assumption) | exact isLac.ob (by assumption) | exact isMea.ob (by assumption) | exact hset_s | exact (hset_n (by first | assumption | omega)).trans (by first | assumption | exact isLT.ob (by assumption) | exact isRow.ob (by assumption) | exact isHnd.ob (by assumption) | exact isUnt.ob (by assumption) | exact isSt.ob (by assumption) | exact isHist.ob (by assumption) | exact isTxt.ob (by assumption) | exact isLac.ob (by assumption) | exact isMea.ob (by assumption) | exact hset_s | exact (hset_n (by first | assumption | omega)).trans (by first | assumption | exact isLT.ob (by assumption) | exact isRow.ob (by assumption) | exact isHnd.ob (by assumption) | exact isUnt.ob (by assumption) | exact isSt.ob (by assumption) | exact isHist.ob (by assumption) | exact isTxt.ob (by assumption) | exact isLac.ob (by assumption) | exact isMea.ob (by assumption) | exact hset_s | exact (hset_n (by first | assumption | omega)).trans (by first | assumption | exact isLT.ob (by assumption) | exact isRow.ob (by assumption) | exact isHnd.ob (by assumption) | exact isUnt.ob (by assumption) | exact isSt.ob (by assumption) | exact isHist.ob (by assumption) | exact isTxt.ob (by assumption) | exact isLac.ob (by assumption) | exact isMea.ob (by assumption))))) (by first | assumption | omega) (by omega) ?_
              rw [h3 k (by omega)]
              refine K_bipush (v := 10) dL_isSo_83 (by decide) ?_
              refine K_iadd dL_isSo_85 ?_
              refine K_icmp_eq (tgt := 91) dL_isSo_86 (by decide) (fun c86 => ?_) (fun c86 => ?_)
              · refine K_iincN dL_isSo_91 (by rfl) (by decide) (by rfl) ?_
                refine K_goto (tgt := 18) dL_isSo_94 (by decide) ?_
                exact K_less (kc2 := 120 + (30 - (k + 1))) (kn2 := 2600 + 6 * (30 - (k + 1))) (by omega) (by omega) (K_sub (subl_cons rfl (subl_cons rfl (subl_cons rfl (subl_cons rfl (subl_cons rfl (subl_cons (by show some (Value.int _) = some (Value.int _); rw [tw, ← i32d]) (subl_cons (by show some (Value.int _) = some (Value.int _); rw [ov]) (subl_cons (by show some (Value.int _) = some (Value.int _); rw [rm]) (subl_cons rfl subl_nil))))))))) (ih (k + 1) _ _ (by omega) u76 (ky_tr hf (ky_fr k76 (Or.inr (by omega))))))
              · exact absurd ck c86
            · exact absurd (Int32.not_le.mp c48) hp
          · exact absurd (Int32.not_le.mp c31) hp
  refine K_aload_n dL_isSo_0 (by rfl) ?_
  refine K_iconst (v := nI 0) dL_isSo_1 (by decide) ?_
  refine K_ga dL_isSo_2 (by first | assumption | exact isLT.ob (by assumption) | exact isRow.ob (by assumption) | exact isHnd.ob (by assumption) | exact isUnt.ob (by assumption) | exact isSt.ob (by assumption) | exact isHist.ob (by assumption) | exact isTxt.ob (by assumption) | exact isLac.ob (by assumption) | exact isMea.ob (by assumption) | exact hset_s | exact (hset_n (by first | assumption | omega)).trans (by first | assumption | exact isLT.ob (by assumption) | exact isRow.ob (by assumption) | exact isHnd.ob (by assumption) | exact isUnt.ob (by assumption) | exact isSt.ob (by assumption) | exact isHist.ob (by assumption) | exact isTxt.ob (by assumption) | exact isLac.ob (by assumption) | exact isMea.ob (by assumption) | exact hset_s | exact (hset_n (by first | assumption | omega)).trans (by first | assumption | exact isLT.ob (by assumption) | exact isRow.ob (by assumption) | exact isHnd.ob (by assumption) | exact isUnt.ob (by assumption) | exact isSt.ob (by assumption) | exact isHist.ob (by assumption) | exact isTxt.ob (by assumption) | exact isLac.ob (by assumption) | exact isMea.ob (by assumption) | exact hset_s | exact (hset_n (by first | assumption | omega)).trans (by first | assumption | exact isLT.ob (by assumption) | exact isRow.ob (by assumption) | exact isHnd.ob (by assumption) | exact isUnt.ob (by assumption) | exact isSt.ob (by assumption) | exact isHist.ob (by assumption) | exact isTxt.ob (by assumption) | exact isLac.ob (by assumption) | exact isMea.ob (by assumption))))) (by first | assumption | omega) (by omega) ?_
  rw [qn]
  refine K_istore dL_isSo_3 (Nat.le_of_ble_eq_true rfl) (by rfl) ?_
  refine K_bipush (v := 100) dL_isSo_5 (by decide) ?_
  refine K_istore dL_isSo_7 (Nat.le_of_ble_eq_true rfl) (by rfl) ?_
  refine K_iconst (v := nI 0) dL_isSo_9 (by decide) ?_
  refine K_istore dL_isSo_10 (Nat.le_of_ble_eq_true rfl) (by rfl) ?_
  refine K_iconst (v := nI 0) dL_isSo_12 (by decide) ?_
  refine K_istore dL_isSo_13 (Nat.le_of_ble_eq_true rfl) (by rfl) ?_
  refine K_iconst (v := nI 0) dL_isSo_15 (by decide) ?_
  refine K_istore dL_isSo_16 (Nat.le_of_ble_eq_true rfl) (by rfl) ?_
  have e0 := fun n1 => each σ.1.1.length 0 h n1 (by omega) w ky_rf
  rw [List.take_zero, show twi [] + 100 = (100 : Int32) by decide, show ovr [] = 0 from rfl, show rmask [] = nI 0 by decide] at e0
  exact K_less (kc2 := 120 + (30 - 0)) (kn2 := 2600 + 6 * (30 - 0)) (by omega) (by omega) (K_sub (by repeat (first | exact subl_nil | refine subl_cons rfl ?_)) (e0 _))
end SO
