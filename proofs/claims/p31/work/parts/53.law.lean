/-! the law -/
abbrev ML (nm : String) : MI := (⟨RL, nm, "([I)Z"⟩, code, 13, some .boolean)
def QL : LV → Nat → List Value → HP → Nat → Prop := fun _ pc st _ _ => pc = 441 ∧ st = [.int 1]
section DD
variable {G : GG} {h : HP} {q r : Nat} {σ : Sg}
theorem sp_L_due (ok : okS σ) (w : isRA G h r σ.1.1) (v : isQA G h q σ.1.1.length σ.1.2) (hqr : q < r) {kd : Nat} (hkd : kd < 7) {a b : Int32} (hab : okA kd a b σ) (n : Nat) : Sp G mm_L_due 3 1 64 [.int (nI kd), .int a, .int b, .ref q, .ref r] h n (qDue G q r h (opK kd a b σ)) := by
  obtain ⟨a0, a2, a3⟩ := hab
  have hl := ok.1.2
  rcases (show kd = 0 ∨ kd = 1 ∨ kd = 2 ∨ kd = 3 ∨ kd = 4 ∨ kd = 5 ∨ kd = 6 by omega) with rfl | rfl | rfl | rfl | rfl | rfl | rfl
  · exact sp_L_due0 w v hqr (a0 rfl) b n
  · exact sp_L_due1 w v hqr a b n
  · obtain ⟨m, k, hm, hk, rfl, rfl⟩ := a2 rfl
    exact sp_L_due2 ok w v hqr hm hk n
  · obtain ⟨ha, k, hk, rfl⟩ := a3 rfl
    exact sp_L_due3 w v hqr ha hk n
  · exact sp_L_due4 w v hqr a b n
  · exact sp_L_due5 w v hqr a b n
  · exact sp_L_due6 ok w v hqr a b n
end DD
theorem opK_ok {kd : Nat} {a b : Int32} {σ : Sg} (o : okS σ) : okS (opK kd a b σ).2.2 := by
  unfold opK
  split
  · exact ok_cross o a
  · exact ok_open o
  · exact ok_move o a b
  · exact ok_pair o b a
  · exact ok_pull o
  · exact ok_turn o
  · exact ok_handle o
/-- a call that answers saves the state; one that does not leaves it; what it answers is no refusal -/
def opG (σ : Sg) (R : Nat × Int32 × Sg) : Prop := (R.1 = 0 ∧ ∃ t, R.2.2 = sv6 σ t) ∨ (R.1 ≠ 0 ∧ R.2.2 = σ)
theorem opG_fl {σ : Sg} {i : Nat} : opG σ (fl (i + 1) σ) := Or.inr ⟨Nat.succ_ne_zero i, rfl⟩
theorem opG_sv {σ : Sg} {v : Int32} {t : List Int32 × Nat} : opG σ (0, v, sv6 σ t) := Or.inl ⟨rfl, t, rfl⟩
theorem opK_G {kd : Nat} {a b : Int32} {σ : Sg} : opG σ (opK kd a b σ) := by
  unfold opK
  split
  · unfold opCross; split
    · split
      · exact opG_fl
      · exact opG_sv
    · exact opG_fl
  · unfold opOpen; split
    · exact opG_fl
    · exact opG_sv
  · unfold opMove; split
    · split
      · exact opG_sv
      · exact opG_fl
    · exact opG_fl
  · unfold opPair; split
    · split
      · exact opG_fl
      · exact opG_sv
    · exact opG_fl
  · exact opG_sv
  · exact opG_sv
  · unfold opHandle; split
    · exact opG_fl
    · split
      · exact opG_fl
      · exact opG_sv
theorem m100 {k : Nat} (h : k < 1000) : (-100 : Int32) ≤ nI k := by
  rw [Int32.le_iff_toInt_le, nI_toInt (by omega)]
  have : (-100 : Int32).toInt = -100 := by decide
  omega
theorem x100 : ∀ x ∈ xl, (-100 : Int32) ≤ x + 10 := by decide +kernel
theorem t100 : ∀ l, l < 31 → ∀ o, o < 31 → (-100 : Int32) ≤ 2 * nI o - nI l + 100 := by decide +kernel
theorem ge_cross {a : Int32} {σ : Sg} (h0 : (opCross a σ).1 = 0) : (-100 : Int32) ≤ (opCross a σ).2.1 := by
  unfold opCross at h0 ⊢
  split at h0
  · rename_i hc
    rw [if_pos hc]
    split at h0
    · cases h0
    · rename_i hc2
      rw [if_neg hc2]
      exact m100 (by omega)
  · cases h0
theorem ge_open {σ : Sg} (o : okS σ) (h0 : (opOpen σ).1 = 0) : (-100 : Int32) ≤ (opOpen σ).2.1 := by
  unfold opOpen at h0 ⊢
  split at h0
  · cases h0
  · rename_i hc
    rw [if_neg hc]
    exact x100 _ (o.1.1 _ (by omega)).xl
theorem ge_move {a b : Int32} {σ : Sg} (ho : okS (opMove a b σ).2.2) (h0 : (opMove a b σ).1 = 0) : (-100 : Int32) ≤ (opMove a b σ).2.1 := by
  unfold opMove at h0 ho ⊢
  split at h0
  · rename_i hc
    rw [if_pos hc] at ho ⊢
    split at h0
    · rename_i hc2
      rw [if_pos hc2] at ho ⊢
      exact m100 (Nat.lt_of_le_of_lt ho.1.2 (by omega))
    · cases h0
  · cases h0
theorem ge_pair {a b : Int32} {σ : Sg} (hl : σ.1.1.length ≤ 30) (h0 : (opPair a b σ).1 = 0) : (-100 : Int32) ≤ (opPair a b σ).2.1 := by
  unfold opPair at h0 ⊢
  split at h0
  · rename_i hc
    rw [if_pos hc]
    split at h0
    · cases h0
    · rename_i hc2
      rw [if_neg hc2]
      exact m100 (by omega)
  · cases h0
theorem ge_handle {σ : Sg} (ho : okS (opHandle σ).2.2) (h0 : (opHandle σ).1 = 0) : (-100 : Int32) ≤ (opHandle σ).2.1 := by
  unfold opHandle at h0 ho ⊢
  cases hfh : fh σ.1.1 with
  | none => rw [hfh] at h0; cases h0
  | some pq =>
    rw [hfh] at h0 ho
    have ho : okS (if 30 < lwo σ.1.1 pq.1 pq.2 then fl 1 σ else (0, nI (tko σ.1.1 pq.1 pq.2).length, sv6 σ (tko σ.1.1 pq.1 pq.2, σ.1.2 + 1))).2.2 := ho
    have h0 : (if 30 < lwo σ.1.1 pq.1 pq.2 then fl 1 σ else (0, nI (tko σ.1.1 pq.1 pq.2).length, sv6 σ (tko σ.1.1 pq.1 pq.2, σ.1.2 + 1))).1 = 0 := h0
    show (-100 : Int32) ≤ (if 30 < lwo σ.1.1 pq.1 pq.2 then fl 1 σ else (0, nI (tko σ.1.1 pq.1 pq.2).length, sv6 σ (tko σ.1.1 pq.1 pq.2, σ.1.2 + 1))).2.1
    by_cases hc : 30 < lwo σ.1.1 pq.1 pq.2
    · rw [if_pos hc] at h0; cases h0
    · rw [if_neg hc] at ho ⊢
      exact m100 (Nat.lt_of_le_of_lt ho.1.2 (by omega))
theorem opK_ge {kd : Nat} {a b : Int32} {σ : Sg} (o : okS σ) (ho : okS (opK kd a b σ).2.2) (h0 : (opK kd a b σ).1 = 0) : (-100 : Int32) ≤ (opK kd a b σ).2.1 := by
  have hl := o.1.2
  rcases kd with _ | _ | _ | _ | _ | _ | kd
  · exact ge_cross h0
  · exact ge_open o h0
  · exact ge_move ho h0
  · exact ge_pair hl h0
  · exact m100 (by omega)
  · show (-100 : Int32) ≤ twi (trn σ.1.1) + 100
    have h1 := ovr_le (trn σ.1.1)
    have h2 := trn_len σ.1.1
    exact t100 _ (by omega) _ (by omega)
  · exact ge_handle ho h0
theorem opK_same {kd : Nat} {a b : Int32} {σ σ2 : Sg} (e : σ2.1 = σ.1) : (opK kd a b σ2).1 = (opK kd a b σ).1 ∧ (opK kd a b σ2).2.1 = (opK kd a b σ).2.1 ∧ (opK kd a b σ2).2.2.1 = (opK kd a b σ).2.2.1 := by
  unfold opK
  split
  · unfold opCross; rw [e]; split
    · split
      · exact ⟨rfl, rfl, e⟩
      · exact ⟨rfl, rfl, rfl⟩
    · exact ⟨rfl, rfl, e⟩
  · unfold opOpen; rw [e]; split
    · exact ⟨rfl, rfl, e⟩
    · exact ⟨rfl, rfl, rfl⟩
  · unfold opMove; rw [e]; split
    · split
      · exact ⟨rfl, rfl, rfl⟩
      · exact ⟨rfl, rfl, e⟩
    · exact ⟨rfl, rfl, e⟩
  · unfold opPair; rw [e]; split
    · split
      · exact ⟨rfl, rfl, e⟩
      · exact ⟨rfl, rfl, rfl⟩
    · exact ⟨rfl, rfl, e⟩
  · unfold opPull; rw [e]; exact ⟨rfl, rfl, rfl⟩
  · unfold opTurn; rw [e]; exact ⟨rfl, rfl, rfl⟩
  · unfold opHandle; rw [e]; split
    · exact ⟨rfl, rfl, e⟩
    · split
      · exact ⟨rfl, rfl, e⟩
      · exact ⟨rfl, rfl, rfl⟩
theorem opK_okA {kd : Nat} {a b : Int32} {σ σ2 : Sg} (e : σ2.1 = σ.1) (h : okA kd a b σ) : okA kd a b σ2 := by
  obtain ⟨h1, h2, h3⟩ := h
  refine ⟨h1, h2, fun z => ?_⟩
  rw [e]
  exact h3 z
theorem e_undo {σ : Sg} {t : List Int32 × Nat} : opUndo (sv6 σ t) = (0, nI (σ.2.1.take 5).length, (σ.1, σ.2.1.take 5, σ.2.2)) := rfl
section LW
variable {G : GG} {b x L : Nat} {xs : Nat → Int32} {nm : String}



set_option maxRecDepth 20000 in
theorem law_7 {j t mn kd : Nat} {z a b2 : Int32} {σ σ1 : Sg} {hh : HP} {n1 : Nat} (hkd : kd < 7) (hab : okA kd a b2 σ) (ok : okS σ) (ok1 : okS σ1) (e1 : σ1.1 = (opK kd a b2 σ).2.2.1) (u : isLT G hh x σ1) (v : isRA G hh (x + 65) σ.1.1) (vq : isQA G hh (x + 64) σ.1.1.length σ.1.2) (nxt : ∀ (hh : HP) (n1 : Nat) (σ2 : Sg), okS σ2 → isLT G hh x σ2 → isRA G hh (x + 65) σ2.1.1 → isQA G hh (x + 64) σ2.1.1.length σ2.1.2 → KJ none G (ML nm) 1400 34 [(0, .ref b), (1, .ref x), (2, .ref (x + 64)), (3, .ref (x + 65)), (4, .int (nI mn)), (5, .int (nI (t + 1)))] [] hh n1 (400 * j) (4000 * j) QL) : KJ none G (ML nm) 1400 387 [(0, .ref b), (1, .ref x), (2, .ref (x + 64)), (3, .ref (x + 65)), (4, .int (nI mn)), (5, .int (nI t)), (6, .int z), (7, .int (nI kd)), (8, .int a), (9, .int b2), (12, .int (if (opK kd a b2 σ).1 = 0 then (opK kd a b2 σ).2.1 else -103))] [] hh n1 (201 + 400 * j) (3064 + 4000 * j) QL := by
  refine K_iload dL_law_387 (by rfl) ?_
  refine K_iload dL_law_389 (by rfl) ?_
  refine K_iload dL_law_391 (by rfl) ?_
  refine K_iload dL_law_393 (by rfl) ?_
  refine K_aload_n dL_law_395 (by rfl) ?_
  refine K_aload_n dL_law_396 (by rfl) ?_
  refine K_callS2 mf_L_due lk_L_174 ms_L_due (sp_L_due ok v vq (by omega) hkd hab _) dL_law_397 (by decide) (by rfl) rfl (Nat.le_of_ble_eq_true rfl) (by omega) (by omega) (fun v397 h397 n397 q397 => ?_)
  obtain ⟨rfl, w397, y397, k397⟩ := q397
  rw [← e1] at w397 y397
  have u397 := isLT_ky u (ky_mono k397 (by omega) (Nat.le_refl _))
  refine K_icmp_ne (tgt := 432) dL_law_400 (by decide) (fun c400 => ?_) (fun c400 => ?_)
  · exact absurd rfl c400
  · refine K_iload dL_law_403 (by rfl) ?_
    refine K_iload dL_law_405 (by rfl) ?_
    refine K_icmp_ge (tgt := 418) dL_law_407 (by decide) (fun c407 => ?_) (fun c407 => ?_)
    · refine K_aload_n dL_law_418 (by rfl) ?_
      refine K_iload dL_law_419 (by rfl) ?_
      refine K_bipush (v := 6) dL_law_421 (by decide) ?_
      refine K_ishr dL_law_423 ?_
      refine K_aload_n dL_law_424 (by rfl) ?_
      refine K_aload_n dL_law_425 (by rfl) ?_
      refine K_callK2 mf_L_isSo (tb_3 (List.mem_of_getElem? (i := 55) rfl) rfl) ms_L_isSo (sp_L_isSo u397 ok1 w397 y397 _ _) dL_law_426 (by decide) (by rfl) rfl (Nat.le_of_ble_eq_true rfl) (by omega) (by omega) (fun v426 h426 n426 q426 => ?_)
      obtain ⟨rfl, u426, k426⟩ := q426
      refine K_if_ne (tgt := 434) dL_law_429 (by decide) (fun c429 => ?_) (fun c429 => ?_)
      · refine K_iincN dL_law_434 (by rfl) (by decide) (by rfl) ?_
        refine K_goto (tgt := 34) dL_law_437 (by decide) ?_
        first | exact K_less (kc2 := 400 * j) (kn2 := 4000 * j) (by omega) (by omega) (K_sub (by repeat (first | exact subl_nil | refine subl_cons rfl ?_)) (nxt _ _ σ1 ok1 u426 (w397.keep (k426 _ (by omega) (by omega))) (y397.keep (k426 _ (by omega) (by omega))))) | exact K_less (kc2 := 400 * j) (kn2 := 4000 * j) (by omega) (by omega) (K_sub (by repeat (first | exact subl_nil | refine subl_cons rfl ?_)) (nxt _ _ σ1 ok1 u397 w397 y397))
      · exact absurd c429 (by decide)
    · refine K_iload dL_law_410 (by rfl) ?_
      refine K_iconst (v := 4) dL_law_412 (by decide) ?_
      refine K_irem dL_law_413 (by decide) ?_
      refine K_iconst (v := 3) dL_law_414 (by decide) ?_
      refine K_icmp_ne (tgt := 434) dL_law_415 (by decide) (fun c415 => ?_) (fun c415 => ?_)
      · refine K_iincN dL_law_434 (by rfl) (by decide) (by rfl) ?_
        refine K_goto (tgt := 34) dL_law_437 (by decide) ?_
        first | exact K_less (kc2 := 400 * j) (kn2 := 4000 * j) (by omega) (by omega) (K_sub (by repeat (first | exact subl_nil | refine subl_cons rfl ?_)) (nxt _ _ σ1 ok1 u426 (w397.keep (k426 _ (by omega) (by omega))) (y397.keep (k426 _ (by omega) (by omega))))) | exact K_less (kc2 := 400 * j) (kn2 := 4000 * j) (by omega) (by omega) (K_sub (by repeat (first | exact subl_nil | refine subl_cons rfl ?_)) (nxt _ _ σ1 ok1 u397 w397 y397))
      · refine K_aload_n dL_law_418 (by rfl) ?_
        refine K_iload dL_law_419 (by rfl) ?_
        refine K_bipush (v := 6) dL_law_421 (by decide) ?_
        refine K_ishr dL_law_423 ?_
        refine K_aload_n dL_law_424 (by rfl) ?_
        refine K_aload_n dL_law_425 (by rfl) ?_
        refine K_callK2 mf_L_isSo (tb_3 (List.mem_of_getElem? (i := 55) rfl) rfl) ms_L_isSo (sp_L_isSo u397 ok1 w397 y397 _ _) dL_law_426 (by decide) (by rfl) rfl (Nat.le_of_ble_eq_true rfl) (by omega) (by omega) (fun v426 h426 n426 q426 => ?_)
        obtain ⟨rfl, u426, k426⟩ := q426
        refine K_if_ne (tgt := 434) dL_law_429 (by decide) (fun c429 => ?_) (fun c429 => ?_)
        · refine K_iincN dL_law_434 (by rfl) (by decide) (by rfl) ?_
          refine K_goto (tgt := 34) dL_law_437 (by decide) ?_
          first | exact K_less (kc2 := 400 * j) (kn2 := 4000 * j) (by omega) (by omega) (K_sub (by repeat (first | exact subl_nil | refine subl_cons rfl ?_)) (nxt _ _ σ1 ok1 u426 (w397.keep (k426 _ (by omega) (by omega))) (y397.keep (k426 _ (by omega) (by omega))))) | exact K_less (kc2 := 400 * j) (kn2 := 4000 * j) (by omega) (by omega) (K_sub (by repeat (first | exact subl_nil | refine subl_cons rfl ?_)) (nxt _ _ σ1 ok1 u397 w397 y397))
        · exact absurd c429 (by decide)
set_option maxRecDepth 20000 in
theorem law_6 {j t mn kd : Nat} {z a b2 : Int32} {σ : Sg} {hh : HP} {n1 : Nat} (hkd : kd < 7) (hab : okA kd a b2 σ) (ok : okS σ) (u : isLT G hh x σ) (v : isRA G hh (x + 65) σ.1.1) (vq : isQA G hh (x + 64) σ.1.1.length σ.1.2) (nxt : ∀ (hh : HP) (n1 : Nat) (σ2 : Sg), okS σ2 → isLT G hh x σ2 → isRA G hh (x + 65) σ2.1.1 → isQA G hh (x + 64) σ2.1.1.length σ2.1.2 → KJ none G (ML nm) 1400 34 [(0, .ref b), (1, .ref x), (2, .ref (x + 64)), (3, .ref (x + 65)), (4, .int (nI mn)), (5, .int (nI (t + 1)))] [] hh n1 (400 * j) (4000 * j) QL) : KJ none G (ML nm) 1400 305 [(0, .ref b), (1, .ref x), (2, .ref (x + 64)), (3, .ref (x + 65)), (4, .int (nI mn)), (5, .int (nI t)), (6, .int z), (7, .int (nI kd)), (8, .int a), (9, .int b2)] [] hh n1 (400 * (j + 1)) (4000 * (j + 1)) QL := by
  have ok1 := opK_ok (kd := kd) (a := a) (b := b2) ok
  rcases opK_G (kd := kd) (a := a) (b := b2) (σ := σ) with ⟨hR, t9, ht9⟩ | ⟨hR, hs⟩
  · have hge := opK_ge ok ok1 hR
    have hu : ∀ (cds : List Int32) (v' : Option Value) (hh hh2 : HP) (n2 : Nat), qW G x hh (opUndo (opK kd a b2 σ).2.2) cds v' hh2 n2 → v' = some (.int (nI (σ.2.1.take 5).length)) ∧ isLT G hh2 x (σ.1, σ.2.1.take 5, σ.2.2) ∧ fr x (x + 64) hh hh2 := fun cds v' hh hh2 n2 q => qW_ok (by rw [ht9]; exact e_undo) q
    have ok2 : okS (σ.1, σ.2.1.take 5, σ.2.2) := ⟨ok.1, fun y hy => ok.2.1 y (List.mem_of_mem_take hy), ok.2.2⟩
    obtain ⟨s1, s2, s3⟩ := opK_same (kd := kd) (a := a) (b := b2) (σ := σ) (σ2 := (σ.1, σ.2.1.take 5, σ.2.2)) rfl
    refine K_aload_n dL_law_305 (by rfl) ?_
    refine K_callK2 mf_L_told (tb_2 (List.mem_of_getElem? (i := 89) rfl) rfl) ms_L_told (sp_L_told u ok _) dL_law_306 (by decide) (by rfl) rfl (Nat.le_of_ble_eq_true rfl) (by omega) (by omega) (fun v306 h306 n306 q306 => ?_)
    obtain ⟨rfl, u306, k306⟩ := q306
    refine K_lstore dL_law_309 (Nat.le_of_ble_eq_true rfl) (by rfl) ?_
    refine K_aload_n dL_law_311 (by rfl) ?_
    refine K_iload dL_law_312 (by rfl) ?_
    refine K_iload dL_law_314 (by rfl) ?_
    refine K_iload dL_law_316 (by rfl) ?_
    refine K_callK2 mf_L_call (tb_2 (List.mem_of_getElem? (i := 160) rfl) rfl) ms_L_call (sp_L_call u306 ok hkd hab _) dL_law_318 (by decide) (by rfl) rfl (Nat.le_of_ble_eq_true rfl) (by omega) (by omega) (fun v318 h318 n318 q318 => ?_)
    obtain ⟨rfl, u318, k318⟩ := q318
    refine K_istore dL_law_321 (Nat.le_of_ble_eq_true rfl) (by rfl) ?_
    refine K_iload dL_law_323 (by rfl) ?_
    refine K_bipush (v := (-100)) dL_law_325 (by decide) ?_
    refine K_icmp_ge (tgt := 343) dL_law_327 (by decide) (fun c327 => ?_) (fun c327 => ?_)
    · refine K_iload dL_law_343 (by rfl) ?_
      refine K_bipush (v := 24) dL_law_345 (by decide) ?_
      refine K_ishr dL_law_347 ?_
      refine K_iconst (v := 3) dL_law_348 (by decide) ?_
      refine K_iand dL_law_349 ?_
      refine K_if_ne (tgt := 387) dL_law_350 (by decide) (fun c350 => ?_) (fun c350 => ?_)
      · first | exact K_less (kc2 := 201 + 400 * j) (kn2 := 3064 + 4000 * j) (by omega) (by omega) (K_sub (by repeat (first | exact subl_nil | refine subl_cons rfl ?_)) (law_7 hkd hab ok (opK_ok ok2) s3 u377 (v.keep ((k377 _ (by omega)).trans ((k361 _ (by omega)).trans ((k354 _ (by omega)).trans ((k318 _ (by omega)).trans (k306 _ (by omega))))))) (vq.keep ((k377 _ (by omega)).trans ((k361 _ (by omega)).trans ((k354 _ (by omega)).trans ((k318 _ (by omega)).trans (k306 _ (by omega))))))) nxt)) | exact K_less (kc2 := 201 + 400 * j) (kn2 := 3064 + 4000 * j) (by omega) (by omega) (K_sub (by repeat (first | exact subl_nil | refine subl_cons rfl ?_)) (law_7 hkd hab ok ok1 rfl u318 (v.keep ((k318 _ (by omega)).trans (k306 _ (by omega)))) (vq.keep ((k318 _ (by omega)).trans (k306 _ (by omega)))) nxt))
      · refine K_aload_n dL_law_353 (by rfl) ?_
        refine K_callW2 mf_L_undo (tb_1 (List.mem_of_getElem? (i := 215) rfl) rfl) ms_L_undo (sp_L_undo u318 ok1 _) dL_law_354 (by decide) (by rfl) rfl (Nat.le_of_ble_eq_true rfl) (by omega) (by omega) (fun v354 h354 n354 q354 => ?_)
        obtain ⟨rfl, u354, k354⟩ := hu _ _ _ _ _ q354
        refine K_if_lt (tgt := 385) dL_law_357 (by decide) (fun c357 => ?_) (fun c357 => ?_)
        · exact absurd c357 (nI_pos (by rw [List.length_take]; omega))
        · refine K_aload_n dL_law_360 (by rfl) ?_
          refine K_callK2 mf_L_told (tb_2 (List.mem_of_getElem? (i := 89) rfl) rfl) ms_L_told (sp_L_told u354 ok2 _) dL_law_361 (by decide) (by rfl) rfl (Nat.le_of_ble_eq_true rfl) (by omega) (by omega) (fun v361 h361 n361 q361 => ?_)
          obtain ⟨rfl, u361, k361⟩ := q361
          refine K_lload dL_law_364 (by rfl) ?_
          refine K_lcmp dL_law_366 ?_
          refine K_if_ne (tgt := 385) dL_law_367 (by decide) (fun c367 => ?_) (fun c367 => ?_)
          · exact absurd ((lg_cmp_eq _ _).mpr rfl) c367
          · refine K_aload_n dL_law_370 (by rfl) ?_
            refine K_iload dL_law_371 (by rfl) ?_
            refine K_iload dL_law_373 (by rfl) ?_
            refine K_iload dL_law_375 (by rfl) ?_
            refine K_callK2 mf_L_call (tb_2 (List.mem_of_getElem? (i := 160) rfl) rfl) ms_L_call (sp_L_call u361 ok2 hkd (opK_okA rfl hab) _) dL_law_377 (by decide) (by rfl) rfl (Nat.le_of_ble_eq_true rfl) (by omega) (by omega) (fun v377 h377 n377 q377 => ?_)
            obtain ⟨rfl, u377, k377⟩ := q377
            refine K_iload dL_law_380 (by rfl) ?_
            refine K_icmp_eq (tgt := 387) dL_law_382 (by decide) (fun c382 => ?_) (fun c382 => ?_)
            · first | exact K_less (kc2 := 201 + 400 * j) (kn2 := 3064 + 4000 * j) (by omega) (by omega) (K_sub (by repeat (first | exact subl_nil | refine subl_cons rfl ?_)) (law_7 hkd hab ok (opK_ok ok2) s3 u377 (v.keep ((k377 _ (by omega)).trans ((k361 _ (by omega)).trans ((k354 _ (by omega)).trans ((k318 _ (by omega)).trans (k306 _ (by omega))))))) (vq.keep ((k377 _ (by omega)).trans ((k361 _ (by omega)).trans ((k354 _ (by omega)).trans ((k318 _ (by omega)).trans (k306 _ (by omega))))))) nxt)) | exact K_less (kc2 := 201 + 400 * j) (kn2 := 3064 + 4000 * j) (by omega) (by omega) (K_sub (by repeat (first | exact subl_nil | refine subl_cons rfl ?_)) (law_7 hkd hab ok ok1 rfl u318 (v.keep ((k318 _ (by omega)).trans (k306 _ (by omega)))) (vq.keep ((k318 _ (by omega)).trans (k306 _ (by omega)))) nxt))
            · exact absurd (by rw [s1, s2]) c382
    · exact absurd (by rw [if_pos hR]; exact hge) c327
  · refine K_aload_n dL_law_305 (by rfl) ?_
    refine K_callK2 mf_L_told (tb_2 (List.mem_of_getElem? (i := 89) rfl) rfl) ms_L_told (sp_L_told u ok _) dL_law_306 (by decide) (by rfl) rfl (Nat.le_of_ble_eq_true rfl) (by omega) (by omega) (fun v306 h306 n306 q306 => ?_)
    obtain ⟨rfl, u306, k306⟩ := q306
    refine K_lstore dL_law_309 (Nat.le_of_ble_eq_true rfl) (by rfl) ?_
    refine K_aload_n dL_law_311 (by rfl) ?_
    refine K_iload dL_law_312 (by rfl) ?_
    refine K_iload dL_law_314 (by rfl) ?_
    refine K_iload dL_law_316 (by rfl) ?_
    refine K_callK2 mf_L_call (tb_2 (List.mem_of_getElem? (i := 160) rfl) rfl) ms_L_call (sp_L_call u306 ok hkd hab _) dL_law_318 (by decide) (by rfl) rfl (Nat.le_of_ble_eq_true rfl) (by omega) (by omega) (fun v318 h318 n318 q318 => ?_)
    obtain ⟨rfl, u318, k318⟩ := q318
    refine K_istore dL_law_321 (Nat.le_of_ble_eq_true rfl) (by rfl) ?_
    refine K_iload dL_law_323 (by rfl) ?_
    refine K_bipush (v := (-100)) dL_law_325 (by decide) ?_
    refine K_icmp_ge (tgt := 343) dL_law_327 (by decide) (fun c327 => ?_) (fun c327 => ?_)
    · exact absurd c327 (by rw [if_neg hR]; decide)
    · refine K_aload_n dL_law_330 (by rfl) ?_
      refine K_callK2 mf_L_told (tb_2 (List.mem_of_getElem? (i := 89) rfl) rfl) ms_L_told (sp_L_told u318 ok1 _) dL_law_331 (by decide) (by rfl) rfl (Nat.le_of_ble_eq_true rfl) (by omega) (by omega) (fun v331 h331 n331 q331 => ?_)
      obtain ⟨rfl, u331, k331⟩ := q331
      refine K_lload dL_law_334 (by rfl) ?_
      refine K_lcmp dL_law_336 ?_
      refine K_if_eq (tgt := 387) dL_law_337 (by decide) (fun c337 => ?_) (fun c337 => ?_)
      · exact K_less (kc2 := 201 + 400 * j) (kn2 := 3064 + 4000 * j) (by omega) (by omega) (K_sub (by repeat (first | exact subl_nil | refine subl_cons rfl ?_)) (law_7 hkd hab ok ok1 rfl u331 (v.keep ((k331 _ (by omega)).trans ((k318 _ (by omega)).trans (k306 _ (by omega))))) (vq.keep ((k331 _ (by omega)).trans ((k318 _ (by omega)).trans (k306 _ (by omega))))) nxt))
      · exact absurd ((lg_cmp_eq _ _).mpr (by rw [hs])) c337
set_option maxRecDepth 20000 in
theorem law_5 {j t mn kd : Nat} {z a : Int32} {σ : Sg} {hh : HP} (hkd : kd < 7) (ok : okS σ) (u : isLT G hh x σ) (v : isRA G hh (x + 65) σ.1.1) (vq : isQA G hh (x + 64) σ.1.1.length σ.1.2) (nxt : ∀ (hh : HP) (n1 : Nat) (σ2 : Sg), okS σ2 → isLT G hh x σ2 → isRA G hh (x + 65) σ2.1.1 → isQA G hh (x + 64) σ2.1.1.length σ2.1.2 → KJ none G (ML nm) 1400 34 [(0, .ref b), (1, .ref x), (2, .ref (x + 64)), (3, .ref (x + 65)), (4, .int (nI mn)), (5, .int (nI (t + 1)))] [] hh n1 (400 * j) (4000 * j) QL) (ha2 : kd = 2 → ∃ m : Nat, m < 3 ∧ a = nI m) (ha : ¬ kd = 2 → isX a) : ∀ (i k bb n1 : Nat), k + i = σ.1.1.length → (kd = 3 → bb ≤ σ.1.1.length) → bb < σ.1.1.length + 2 → KJ none G (ML nm) 1400 247 [(0, .ref b), (1, .ref x), (2, .ref (x + 64)), (3, .ref (x + 65)), (4, .int (nI mn)), (5, .int (nI t)), (6, .int z), (7, .int (nI kd)), (8, .int a), (9, .int (nI bb)), (10, .int (nI k))] [] hh n1 (400 * (j + 1)) (4000 * (j + 1)) QL := by
  have hx := ok.1.1
  have hl := ok.1.2
  have v0 := v
  obtain ⟨fq, g0, g1, g2⟩ := id vq
  have fin : ∀ (bb n1 : Nat), (kd = 3 → bb ≤ σ.1.1.length) → bb < σ.1.1.length + 2 → KJ none G (ML nm) 1400 305 [(0, .ref b), (1, .ref x), (2, .ref (x + 64)), (3, .ref (x + 65)), (4, .int (nI mn)), (5, .int (nI t)), (6, .int z), (7, .int (nI kd)), (8, .int a), (9, .int (nI bb))] [] hh n1 (400 * (j + 1)) (4000 * (j + 1)) QL := fun bb n1 b1 b2 => law_6 hkd ⟨fun e => ha (by omega), fun e => by
    obtain ⟨m, hm, rfl⟩ := ha2 e
    exact ⟨m, bb, hm, by omega, rfl, rfl⟩, fun e => ⟨ha (by omega), bb, b1 e, rfl⟩⟩ ok u v0 vq nxt
  intro i
  induction i with
  | zero =>
    intro k bb n1 hi b1 b2
    refine K_iload dL_law_247 (by rfl) ?_
    refine K_iconst (v := nI 2) dL_law_249 (by decide) ?_
    refine K_icmp_ne (tgt := 305) dL_law_250 (by decide) (fun c250 => ?_) (fun c250 => ?_)
    · rw [nI_eq (by omega) (by omega)] at c250
      exact K_sub (by repeat (first | exact subl_nil | refine subl_cons rfl ?_)) (fin bb _ b1 b2)
    · rw [nI_eq (by omega) (by omega)] at c250
      refine K_iload dL_law_253 (by rfl) ?_
      refine K_aload_n dL_law_255 (by rfl) ?_
      refine K_iconst (v := nI 0) dL_law_256 (by decide) ?_
      refine K_ga dL_law_257 (by first | assumption | exact isLT.ob (by assumption) | exact isRow.ob (by assumption) | exact isHnd.ob (by assumption) | exact isUnt.ob (by assumption) | exact isSt.ob (by assumption) | exact isHist.ob (by assumption) | exact isTxt.ob (by assumption) | exact isLac.ob (by assumption) | exact isMea.ob (by assumption) | exact hset_s | exact (hset_n (by first | assumption | omega)).trans (by first | assumption | exact isLT.ob (by assumption) | exact isRow.ob (by assumption) | exact isHnd.ob (by assumption) | exact isUnt.ob (by assumption) | exact isSt.ob (by assumption) | exact isHist.ob (by assumption) | exact isTxt.ob (by assumption) | exact isLac.ob (by assumption) | exact isMea.ob (by assumption) | exact hset_s | exact (hset_n (by first | assumption | omega)).trans (by first | assumption | exact isLT.ob (by assumption) | exact isRow.ob (by assumption) | exact isHnd.ob (by assumption) | exact isUnt.ob (by assumption) | exact isSt.ob (by assumption) | exact isHist.ob (by assumption) | exact isTxt.ob (by assumption) | exact isLac.ob (by assumption) | exact isMea.ob (by assumption) | exact hset_s | exact (hset_n (by first | assumption | omega)).trans (by first | assumption | exact isLT.ob (by assumption) | exact isRow.ob (by assumption) | exact isHnd.ob (by assumption) | exact isUnt.ob (by assumption) | exact isSt.ob (by assumption) | exact isHist.ob (by assumption) | exact isTxt.ob (by assumption) | exact isLac.ob (by assumption) | exact isMea.ob (by assumption))))) (by first | assumption | omega) (by omega) ?_
      rw [g1]
      refine K_icmp_ge (tgt := 305) dL_law_258 (by decide) (fun c258 => ?_) (fun c258 => ?_)
      · rw [nI_leI (by omega) (by omega)] at c258
        exact K_sub (by repeat (first | exact subl_nil | refine subl_cons rfl ?_)) (fin bb _ b1 b2)
      · rw [nI_leI (by omega) (by omega)] at c258
        exact absurd (by omega) c258
  | succ i ih =>
    intro k bb n1 hi b1 b2
    by_cases hk2 : kd = 2
    · obtain ⟨m, hm, rfl⟩ := ha2 hk2
      refine K_iload dL_law_247 (by rfl) ?_
      refine K_iconst (v := nI 2) dL_law_249 (by decide) ?_
      refine K_icmp_ne (tgt := 305) dL_law_250 (by decide) (fun c250 => ?_) (fun c250 => ?_)
      · rw [nI_eq (by omega) (by omega)] at c250
        exact absurd hk2 c250
      · rw [nI_eq (by omega) (by omega)] at c250
        refine K_iload dL_law_253 (by rfl) ?_
        refine K_aload_n dL_law_255 (by rfl) ?_
        refine K_iconst (v := nI 0) dL_law_256 (by decide) ?_
        refine K_ga dL_law_257 (by first | assumption | exact isLT.ob (by assumption) | exact isRow.ob (by assumption) | exact isHnd.ob (by assumption) | exact isUnt.ob (by assumption) | exact isSt.ob (by assumption) | exact isHist.ob (by assumption) | exact isTxt.ob (by assumption) | exact isLac.ob (by assumption) | exact isMea.ob (by assumption) | exact hset_s | exact (hset_n (by first | assumption | omega)).trans (by first | assumption | exact isLT.ob (by assumption) | exact isRow.ob (by assumption) | exact isHnd.ob (by assumption) | exact isUnt.ob (by assumption) | exact isSt.ob (by assumption) | exact isHist.ob (by assumption) | exact isTxt.ob (by assumption) | exact isLac.ob (by assumption) | exact isMea.ob (by assumption) | exact hset_s | exact (hset_n (by first | assumption | omega)).trans (by first | assumption | exact isLT.ob (by assumption) | exact isRow.ob (by assumption) | exact isHnd.ob (by assumption) | exact isUnt.ob (by assumption) | exact isSt.ob (by assumption) | exact isHist.ob (by assumption) | exact isTxt.ob (by assumption) | exact isLac.ob (by assumption) | exact isMea.ob (by assumption) | exact hset_s | exact (hset_n (by first | assumption | omega)).trans (by first | assumption | exact isLT.ob (by assumption) | exact isRow.ob (by assumption) | exact isHnd.ob (by assumption) | exact isUnt.ob (by assumption) | exact isSt.ob (by assumption) | exact isHist.ob (by assumption) | exact isTxt.ob (by assumption) | exact isLac.ob (by assumption) | exact isMea.ob (by assumption))))) (by first | assumption | omega) (by omega) ?_
        rw [g1]
        refine K_icmp_ge (tgt := 305) dL_law_258 (by decide) (fun c258 => ?_) (fun c258 => ?_)
        · rw [nI_leI (by omega) (by omega)] at c258
          exact absurd c258 (by omega)
        · rw [nI_leI (by omega) (by omega)] at c258
          refine K_iload dL_law_261 (by rfl) ?_
          refine K_iload dL_law_263 (by rfl) ?_
          refine K_aload_n dL_law_265 (by rfl) ?_
          refine K_iconst (v := nI 0) dL_law_266 (by decide) ?_
          refine K_ga dL_law_267 (by first | assumption | exact isLT.ob (by assumption) | exact isRow.ob (by assumption) | exact isHnd.ob (by assumption) | exact isUnt.ob (by assumption) | exact isSt.ob (by assumption) | exact isHist.ob (by assumption) | exact isTxt.ob (by assumption) | exact isLac.ob (by assumption) | exact isMea.ob (by assumption) | exact hset_s | exact (hset_n (by first | assumption | omega)).trans (by first | assumption | exact isLT.ob (by assumption) | exact isRow.ob (by assumption) | exact isHnd.ob (by assumption) | exact isUnt.ob (by assumption) | exact isSt.ob (by assumption) | exact isHist.ob (by assumption) | exact isTxt.ob (by assumption) | exact isLac.ob (by assumption) | exact isMea.ob (by assumption) | exact hset_s | exact (hset_n (by first | assumption | omega)).trans (by first | assumption | exact isLT.ob (by assumption) | exact isRow.ob (by assumption) | exact isHnd.ob (by assumption) | exact isUnt.ob (by assumption) | exact isSt.ob (by assumption) | exact isHist.ob (by assumption) | exact isTxt.ob (by assumption) | exact isLac.ob (by assumption) | exact isMea.ob (by assumption) | exact hset_s | exact (hset_n (by first | assumption | omega)).trans (by first | assumption | exact isLT.ob (by assumption) | exact isRow.ob (by assumption) | exact isHnd.ob (by assumption) | exact isUnt.ob (by assumption) | exact isSt.ob (by assumption) | exact isHist.ob (by assumption) | exact isTxt.ob (by assumption) | exact isLac.ob (by assumption) | exact isMea.ob (by assumption))))) (by first | assumption | omega) (by omega) ?_
          rw [g1]
          refine K_aload_n dL_law_268 (by rfl) ?_
          refine K_callS mf_L_why lk_L_103 ms_L_why (sp_L_why v0 hx hm (k := bb) (by omega) _) dL_law_269 (by decide) (by rfl) rfl (Nat.le_of_ble_eq_true rfl) (Nat.zero_add _) (Nat.zero_add _) (fun v269 h269 n269 q269 => ?_)
          obtain ⟨rfl, rfl⟩ := q269
          refine K_if_eq (tgt := 305) dL_law_272 (by decide) (fun c272 => ?_) (fun c272 => ?_)
          · exact K_sub (by repeat (first | exact subl_nil | refine subl_cons rfl ?_)) (fin bb _ b1 b2)
          · refine K_iload dL_law_275 (by rfl) ?_
            refine K_bipush (v := 20) dL_law_277 (by decide) ?_
            refine K_ishr dL_law_279 ?_
            refine K_iconst (v := nI 4) dL_law_280 (by decide) ?_
            refine K_callS mf_L_low lk_L_116 ms_L_low (sp_L_low _ _ (m := 4) (by omega) (by omega) _) dL_law_281 (by decide) (by rfl) rfl (Nat.le_of_ble_eq_true rfl) (Nat.zero_add _) (Nat.zero_add _) (fun v281 h281 n281 q281 => ?_)
            obtain ⟨⟨z4, hz4, rfl⟩, rfl⟩ := q281
            refine K_if_le (tgt := 305) dL_law_284 (by decide) (fun c284 => ?_) (fun c284 => ?_)
            · exact K_sub (by repeat (first | exact subl_nil | refine subl_cons rfl ?_)) (fin bb _ b1 b2)
            · refine K_iload dL_law_287 (by rfl) ?_
              refine K_iconst (v := nI 1) dL_law_289 (by decide) ?_
              refine K_iadd dL_law_290 ?_
              rw [nI_add]
              refine K_aload_n dL_law_291 (by rfl) ?_
              refine K_iconst (v := nI 0) dL_law_292 (by decide) ?_
              refine K_ga dL_law_293 (by first | assumption | exact isLT.ob (by assumption) | exact isRow.ob (by assumption) | exact isHnd.ob (by assumption) | exact isUnt.ob (by assumption) | exact isSt.ob (by assumption) | exact isHist.ob (by assumption) | exact isTxt.ob (by assumption) | exact isLac.ob (by assumption) | exact isMea.ob (by assumption) | exact hset_s | exact (hset_n (by first | assumption | omega)).trans (by first | assumption | exact isLT.ob (by assumption) | exact isRow.ob (by assumption) | exact isHnd.ob (by assumption) | exact isUnt.ob (by assumption) | exact isSt.ob (by assumption) | exact isHist.ob (by assumption) | exact isTxt.ob (by assumption) | exact isLac.ob (by assumption) | exact isMea.ob (by assumption) | exact hset_s | exact (hset_n (by first | assumption | omega)).trans (by first | assumption | exact isLT.ob (by assumption) | exact isRow.ob (by assumption) | exact isHnd.ob (by assumption) | exact isUnt.ob (by assumption) | exact isSt.ob (by assumption) | exact isHist.ob (by assumption) | exact isTxt.ob (by assumption) | exact isLac.ob (by assumption) | exact isMea.ob (by assumption) | exact hset_s | exact (hset_n (by first | assumption | omega)).trans (by first | assumption | exact isLT.ob (by assumption) | exact isRow.ob (by assumption) | exact isHnd.ob (by assumption) | exact isUnt.ob (by assumption) | exact isSt.ob (by assumption) | exact isHist.ob (by assumption) | exact isTxt.ob (by assumption) | exact isLac.ob (by assumption) | exact isMea.ob (by assumption))))) (by first | assumption | omega) (by omega) ?_
              rw [g1]
              refine K_iconst (v := nI 1) dL_law_294 (by decide) ?_
              refine K_iadd dL_law_295 ?_
              rw [nI_add]
              refine K_irem dL_law_296 (nI_ne0 (by omega) (by omega)) ?_
              rw [pk_rem (by omega) (by omega) (by omega)]
              refine K_istore dL_law_297 (Nat.le_of_ble_eq_true rfl) (by rfl) ?_
              refine K_iincN dL_law_299 (by rfl) (by decide) (by rfl) ?_
              refine K_goto (tgt := 247) dL_law_302 (by decide) ?_
              have hb9 : (bb + 1) % (σ.1.1.length + 1) < σ.1.1.length + 1 := Nat.mod_lt _ (by omega)
              exact K_sub (by repeat (first | exact subl_nil | refine subl_cons rfl ?_)) (ih (k + 1) ((bb + 1) % (σ.1.1.length + 1)) _ (by omega) (fun e => by omega) (by omega))
    · refine K_iload dL_law_247 (by rfl) ?_
      refine K_iconst (v := nI 2) dL_law_249 (by decide) ?_
      refine K_icmp_ne (tgt := 305) dL_law_250 (by decide) (fun c250 => ?_) (fun c250 => ?_)
      · rw [nI_eq (by omega) (by omega)] at c250
        exact K_sub (by repeat (first | exact subl_nil | refine subl_cons rfl ?_)) (fin bb _ b1 b2)
      · rw [nI_eq (by omega) (by omega)] at c250
        exact absurd c250 hk2
set_option maxRecDepth 20000 in
theorem law_4 {j t mn kd : Nat} {z a : Int32} {σ : Sg} {hh : HP} {n1 : Nat} (hkd : kd < 7) (ok : okS σ) (u : isLT G hh x σ) (v : isRA G hh (x + 65) σ.1.1) (vq : isQA G hh (x + 64) σ.1.1.length σ.1.2) (nxt : ∀ (hh : HP) (n1 : Nat) (σ2 : Sg), okS σ2 → isLT G hh x σ2 → isRA G hh (x + 65) σ2.1.1 → isQA G hh (x + 64) σ2.1.1.length σ2.1.2 → KJ none G (ML nm) 1400 34 [(0, .ref b), (1, .ref x), (2, .ref (x + 64)), (3, .ref (x + 65)), (4, .int (nI mn)), (5, .int (nI (t + 1)))] [] hh n1 (400 * j) (4000 * j) QL) (ha2 : kd = 2 → ∃ m : Nat, m < 3 ∧ a = nI m) (ha : ¬ kd = 2 → isX a) : KJ none G (ML nm) 1400 209 [(0, .ref b), (1, .ref x), (2, .ref (x + 64)), (3, .ref (x + 65)), (4, .int (nI mn)), (5, .int (nI t)), (6, .int z), (7, .int (nI kd)), (8, .int a)] [] hh n1 (400 * (j + 1)) (4000 * (j + 1)) QL := by
  have hl := ok.1.2
  obtain ⟨fq, g0, g1, g2⟩ := id vq
  refine K_iload dL_law_209 (by rfl) ?_
  refine K_iconst (v := nI 3) dL_law_211 (by decide) ?_
  refine K_icmp_ne (tgt := 230) dL_law_212 (by decide) (fun c212 => ?_) (fun c212 => ?_)
  · rw [nI_eq (by omega) (by omega)] at c212
    refine K_iload dL_law_230 (by rfl) ?_
    refine K_iconst (v := 4) dL_law_232 (by decide) ?_
    refine K_ishr dL_law_233 ?_
    refine K_aload_n dL_law_234 (by rfl) ?_
    refine K_iconst (v := nI 0) dL_law_235 (by decide) ?_
    refine K_ga dL_law_236 (by first | assumption | exact isLT.ob (by assumption) | exact isRow.ob (by assumption) | exact isHnd.ob (by assumption) | exact isUnt.ob (by assumption) | exact isSt.ob (by assumption) | exact isHist.ob (by assumption) | exact isTxt.ob (by assumption) | exact isLac.ob (by assumption) | exact isMea.ob (by assumption) | exact hset_s | exact (hset_n (by first | assumption | omega)).trans (by first | assumption | exact isLT.ob (by assumption) | exact isRow.ob (by assumption) | exact isHnd.ob (by assumption) | exact isUnt.ob (by assumption) | exact isSt.ob (by assumption) | exact isHist.ob (by assumption) | exact isTxt.ob (by assumption) | exact isLac.ob (by assumption) | exact isMea.ob (by assumption) | exact hset_s | exact (hset_n (by first | assumption | omega)).trans (by first | assumption | exact isLT.ob (by assumption) | exact isRow.ob (by assumption) | exact isHnd.ob (by assumption) | exact isUnt.ob (by assumption) | exact isSt.ob (by assumption) | exact isHist.ob (by assumption) | exact isTxt.ob (by assumption) | exact isLac.ob (by assumption) | exact isMea.ob (by assumption) | exact hset_s | exact (hset_n (by first | assumption | omega)).trans (by first | assumption | exact isLT.ob (by assumption) | exact isRow.ob (by assumption) | exact isHnd.ob (by assumption) | exact isUnt.ob (by assumption) | exact isSt.ob (by assumption) | exact isHist.ob (by assumption) | exact isTxt.ob (by assumption) | exact isLac.ob (by assumption) | exact isMea.ob (by assumption))))) (by first | assumption | omega) (by omega) ?_
    rw [g1]
    refine K_iconst (v := nI 2) dL_law_237 (by decide) ?_
    refine K_iadd dL_law_238 ?_
    rw [nI_add]
    refine K_callS mf_L_low lk_L_116 ms_L_low (sp_L_low _ _ (m := σ.1.1.length + 2) (by omega) (by omega) _) dL_law_239 (by decide) (by rfl) rfl (Nat.le_of_ble_eq_true rfl) (Nat.zero_add _) (Nat.zero_add _) (fun v239 h239 n239 q239 => ?_)
    obtain ⟨⟨bb, hbb, rfl⟩, rfl⟩ := q239
    refine K_istore dL_law_242 (Nat.le_of_ble_eq_true rfl) (by rfl) ?_
    refine K_iconst (v := nI 0) dL_law_244 (by decide) ?_
    refine K_istore dL_law_245 (Nat.le_of_ble_eq_true rfl) (by rfl) ?_
    exact K_sub (by repeat (first | exact subl_nil | refine subl_cons rfl ?_)) (law_5 hkd ok u v vq nxt ha2 ha σ.1.1.length 0 bb _ (by omega) (fun e => by omega) (by omega))
  · rw [nI_eq (by omega) (by omega)] at c212
    refine K_iload dL_law_215 (by rfl) ?_
    refine K_iconst (v := 4) dL_law_217 (by decide) ?_
    refine K_ishr dL_law_218 ?_
    refine K_aload_n dL_law_219 (by rfl) ?_
    refine K_iconst (v := nI 0) dL_law_220 (by decide) ?_
    refine K_ga dL_law_221 (by first | assumption | exact isLT.ob (by assumption) | exact isRow.ob (by assumption) | exact isHnd.ob (by assumption) | exact isUnt.ob (by assumption) | exact isSt.ob (by assumption) | exact isHist.ob (by assumption) | exact isTxt.ob (by assumption) | exact isLac.ob (by assumption) | exact isMea.ob (by assumption) | exact hset_s | exact (hset_n (by first | assumption | omega)).trans (by first | assumption | exact isLT.ob (by assumption) | exact isRow.ob (by assumption) | exact isHnd.ob (by assumption) | exact isUnt.ob (by assumption) | exact isSt.ob (by assumption) | exact isHist.ob (by assumption) | exact isTxt.ob (by assumption) | exact isLac.ob (by assumption) | exact isMea.ob (by assumption) | exact hset_s | exact (hset_n (by first | assumption | omega)).trans (by first | assumption | exact isLT.ob (by assumption) | exact isRow.ob (by assumption) | exact isHnd.ob (by assumption) | exact isUnt.ob (by assumption) | exact isSt.ob (by assumption) | exact isHist.ob (by assumption) | exact isTxt.ob (by assumption) | exact isLac.ob (by assumption) | exact isMea.ob (by assumption) | exact hset_s | exact (hset_n (by first | assumption | omega)).trans (by first | assumption | exact isLT.ob (by assumption) | exact isRow.ob (by assumption) | exact isHnd.ob (by assumption) | exact isUnt.ob (by assumption) | exact isSt.ob (by assumption) | exact isHist.ob (by assumption) | exact isTxt.ob (by assumption) | exact isLac.ob (by assumption) | exact isMea.ob (by assumption))))) (by first | assumption | omega) (by omega) ?_
    rw [g1]
    refine K_iconst (v := nI 1) dL_law_222 (by decide) ?_
    refine K_iadd dL_law_223 ?_
    rw [nI_add]
    refine K_callS mf_L_low lk_L_116 ms_L_low (sp_L_low _ _ (m := σ.1.1.length + 1) (by omega) (by omega) _) dL_law_224 (by decide) (by rfl) rfl (Nat.le_of_ble_eq_true rfl) (Nat.zero_add _) (Nat.zero_add _) (fun v224 h224 n224 q224 => ?_)
    obtain ⟨⟨bb, hbb, rfl⟩, rfl⟩ := q224
    refine K_goto (tgt := 242) dL_law_227 (by decide) ?_
    refine K_istore dL_law_242 (Nat.le_of_ble_eq_true rfl) (by rfl) ?_
    refine K_iconst (v := nI 0) dL_law_244 (by decide) ?_
    refine K_istore dL_law_245 (Nat.le_of_ble_eq_true rfl) (by rfl) ?_
    exact K_sub (by repeat (first | exact subl_nil | refine subl_cons rfl ?_)) (law_5 hkd ok u v vq nxt ha2 ha σ.1.1.length 0 bb _ (by omega) (fun e => by omega) (by omega))
theorem aX : ∀ j, j < 3 → isX (nI (1 + j)) ∧ isX (-(nI (1 + j))) := by
  intro j hj
  rcases (show j = 0 ∨ j = 1 ∨ j = 2 by omega) with rfl | rfl | rfl
  · exact ⟨Or.inl rfl, Or.inr (Or.inr (Or.inr (Or.inl rfl)))⟩
  · exact ⟨Or.inr (Or.inl rfl), Or.inr (Or.inr (Or.inr (Or.inr (Or.inl rfl))))⟩
  · exact ⟨Or.inr (Or.inr (Or.inl rfl)), Or.inr (Or.inr (Or.inr (Or.inr (Or.inr rfl))))⟩
set_option maxRecDepth 20000 in
theorem law_3 {j t mn kd : Nat} {z : Int32} {σ : Sg} {hh : HP} {n1 : Nat} (hkd : kd < 7) (ok : okS σ) (u : isLT G hh x σ) (v : isRA G hh (x + 65) σ.1.1) (vq : isQA G hh (x + 64) σ.1.1.length σ.1.2) (nxt : ∀ (hh : HP) (n1 : Nat) (σ2 : Sg), okS σ2 → isLT G hh x σ2 → isRA G hh (x + 65) σ2.1.1 → isQA G hh (x + 64) σ2.1.1.length σ2.1.2 → KJ none G (ML nm) 1400 34 [(0, .ref b), (1, .ref x), (2, .ref (x + 64)), (3, .ref (x + 65)), (4, .int (nI mn)), (5, .int (nI (t + 1)))] [] hh n1 (400 * j) (4000 * j) QL) : KJ none G (ML nm) 1400 152 [(0, .ref b), (1, .ref x), (2, .ref (x + 64)), (3, .ref (x + 65)), (4, .int (nI mn)), (5, .int (nI t)), (6, .int z)] [.int (nI kd)] hh n1 (400 * (j + 1)) (4000 * (j + 1)) QL := by
  by_cases hk2 : kd = 2
  · refine K_istore dL_law_152 (Nat.le_of_ble_eq_true rfl) (by rfl) ?_
    refine K_iload dL_law_154 (by rfl) ?_
    refine K_iconst (v := nI 2) dL_law_156 (by decide) ?_
    refine K_icmp_ne (tgt := 172) dL_law_157 (by decide) (fun c157 => ?_) (fun c157 => ?_)
    · rw [nI_eq (by omega) (by omega)] at c157
      exact absurd hk2 c157
    · rw [nI_eq (by omega) (by omega)] at c157
      refine K_iload dL_law_160 (by rfl) ?_
      refine K_bipush (v := 17) dL_law_162 (by decide) ?_
      refine K_ishr dL_law_164 ?_
      refine K_iconst (v := nI 3) dL_law_165 (by decide) ?_
      refine K_callS mf_L_low lk_L_116 ms_L_low (sp_L_low _ _ (m := 3) (by omega) (by omega) _) dL_law_166 (by decide) (by rfl) rfl (Nat.le_of_ble_eq_true rfl) (Nat.zero_add _) (Nat.zero_add _) (fun v166 h166 n166 q166 => ?_)
      obtain ⟨⟨m, hm, rfl⟩, rfl⟩ := q166
      refine K_goto (tgt := 180) dL_law_169 (by decide) ?_
      refine K_istore dL_law_180 (Nat.le_of_ble_eq_true rfl) (by rfl) ?_
      refine K_iload dL_law_182 (by rfl) ?_
      refine K_iconst (v := nI 2) dL_law_184 (by decide) ?_
      refine K_icmp_eq (tgt := 205) dL_law_185 (by decide) (fun c185 => ?_) (fun c185 => ?_)
      · rw [nI_eq (by omega) (by omega)] at c185
        refine K_iload dL_law_205 (by rfl) ?_
        refine K_istore dL_law_207 (Nat.le_of_ble_eq_true rfl) (by rfl) ?_
        exact K_sub (by repeat (first | exact subl_nil | refine subl_cons rfl ?_)) (law_4 hkd ok u v vq nxt (fun _ => ⟨m, hm, rfl⟩) (fun e => absurd hk2 e))
      · rw [nI_eq (by omega) (by omega)] at c185
        exact absurd hk2 c185
  · refine K_istore dL_law_152 (Nat.le_of_ble_eq_true rfl) (by rfl) ?_
    refine K_iload dL_law_154 (by rfl) ?_
    refine K_iconst (v := nI 2) dL_law_156 (by decide) ?_
    refine K_icmp_ne (tgt := 172) dL_law_157 (by decide) (fun c157 => ?_) (fun c157 => ?_)
    · rw [nI_eq (by omega) (by omega)] at c157
      refine K_iconst (v := nI 1) dL_law_172 (by decide) ?_
      refine K_iload dL_law_173 (by rfl) ?_
      refine K_iconst (v := nI 3) dL_law_175 (by decide) ?_
      refine K_callS mf_L_low lk_L_116 ms_L_low (sp_L_low _ _ (m := 3) (by omega) (by omega) _) dL_law_176 (by decide) (by rfl) rfl (Nat.le_of_ble_eq_true rfl) (Nat.zero_add _) (Nat.zero_add _) (fun v176 h176 n176 q176 => ?_)
      obtain ⟨⟨m, hm, rfl⟩, rfl⟩ := q176
      refine K_iadd dL_law_179 ?_
      rw [nI_add]
      refine K_istore dL_law_180 (Nat.le_of_ble_eq_true rfl) (by rfl) ?_
      refine K_iload dL_law_182 (by rfl) ?_
      refine K_iconst (v := nI 2) dL_law_184 (by decide) ?_
      refine K_icmp_eq (tgt := 205) dL_law_185 (by decide) (fun c185 => ?_) (fun c185 => ?_)
      · rw [nI_eq (by omega) (by omega)] at c185
        exact absurd c185 hk2
      · rw [nI_eq (by omega) (by omega)] at c185
        refine K_iload dL_law_188 (by rfl) ?_
        refine K_iconst (v := 2) dL_law_190 (by decide) ?_
        refine K_ishr dL_law_191 ?_
        refine K_iconst (v := nI 2) dL_law_192 (by decide) ?_
        refine K_callS mf_L_low lk_L_116 ms_L_low (sp_L_low _ _ (m := 2) (by omega) (by omega) _) dL_law_193 (by decide) (by rfl) rfl (Nat.le_of_ble_eq_true rfl) (Nat.zero_add _) (Nat.zero_add _) (fun v193 h193 n193 q193 => ?_)
        obtain ⟨⟨s, hs, rfl⟩, rfl⟩ := q193
        refine K_if_ne (tgt := 205) dL_law_196 (by decide) (fun c196 => ?_) (fun c196 => ?_)
        · refine K_iload dL_law_205 (by rfl) ?_
          refine K_istore dL_law_207 (Nat.le_of_ble_eq_true rfl) (by rfl) ?_
          first | (have c9 : ¬ nI s = 0 := c196; exact K_sub (by repeat (first | exact subl_nil | refine subl_cons rfl ?_)) (law_4 hkd ok u v vq nxt (fun e => absurd e hk2) (fun _ => (aX m hm).1))) | (have c9 : nI s = 0 := c196; exact K_sub (by repeat (first | exact subl_nil | refine subl_cons rfl ?_)) (law_4 hkd ok u v vq nxt (fun e => absurd e hk2) (fun _ => (aX m hm).2)))
        · refine K_iload dL_law_199 (by rfl) ?_
          refine K_ineg dL_law_201 ?_
          refine K_goto (tgt := 207) dL_law_202 (by decide) ?_
          refine K_istore dL_law_207 (Nat.le_of_ble_eq_true rfl) (by rfl) ?_
          first | (have c9 : ¬ nI s = 0 := c196; exact K_sub (by repeat (first | exact subl_nil | refine subl_cons rfl ?_)) (law_4 hkd ok u v vq nxt (fun e => absurd e hk2) (fun _ => (aX m hm).1))) | (have c9 : nI s = 0 := c196; exact K_sub (by repeat (first | exact subl_nil | refine subl_cons rfl ?_)) (law_4 hkd ok u v vq nxt (fun e => absurd e hk2) (fun _ => (aX m hm).2)))
    · rw [nI_eq (by omega) (by omega)] at c157
      exact absurd c157 hk2
set_option maxRecDepth 20000 in
theorem law_2 {j t mn kk : Nat} {z : Int32} {σ : Sg} {hh : HP} {n1 : Nat} (ok : okS σ) (u : isLT G hh x σ) (v : isRA G hh (x + 65) σ.1.1) (vq : isQA G hh (x + 64) σ.1.1.length σ.1.2) (nxt : ∀ (hh : HP) (n1 : Nat) (σ2 : Sg), okS σ2 → isLT G hh x σ2 → isRA G hh (x + 65) σ2.1.1 → isQA G hh (x + 64) σ2.1.1.length σ2.1.2 → KJ none G (ML nm) 1400 34 [(0, .ref b), (1, .ref x), (2, .ref (x + 64)), (3, .ref (x + 65)), (4, .int (nI mn)), (5, .int (nI (t + 1)))] [] hh n1 (400 * j) (4000 * j) QL) : KJ none G (ML nm) 1400 72 [(0, .ref b), (1, .ref x), (2, .ref (x + 64)), (3, .ref (x + 65)), (4, .int (nI mn)), (5, .int (nI t)), (6, .int z)] [.int (nI kk)] hh n1 (400 * (j + 1)) (4000 * (j + 1)) QL := by
  refine K_istore dL_law_72 (Nat.le_of_ble_eq_true rfl) (by rfl) ?_
  refine K_iload dL_law_74 (by rfl) ?_
  refine K_iconst (v := 3) dL_law_76 (by decide) ?_
  refine K_icmp_ge (tgt := 84) dL_law_77 (by decide) (fun c77 => ?_) (fun c77 => ?_)
  · refine K_iload dL_law_84 (by rfl) ?_
    refine K_iconst (v := 3) dL_law_86 (by decide) ?_
    refine K_icmp_ne (tgt := 94) dL_law_87 (by decide) (fun c87 => ?_) (fun c87 => ?_)
    · refine K_iload dL_law_94 (by rfl) ?_
      refine K_bipush (v := 8) dL_law_96 (by decide) ?_
      refine K_icmp_ge (tgt := 105) dL_law_98 (by decide) (fun c98 => ?_) (fun c98 => ?_)
      · refine K_iload dL_law_105 (by rfl) ?_
        refine K_bipush (v := 8) dL_law_107 (by decide) ?_
        refine K_icmp_ne (tgt := 116) dL_law_109 (by decide) (fun c109 => ?_) (fun c109 => ?_)
        · refine K_iload dL_law_116 (by rfl) ?_
          refine K_bipush (v := 9) dL_law_118 (by decide) ?_
          refine K_icmp_ne (tgt := 139) dL_law_120 (by decide) (fun c120 => ?_) (fun c120 => ?_)
          · refine K_iload dL_law_139 (by rfl) ?_
            refine K_bipush (v := 10) dL_law_141 (by decide) ?_
            refine K_icmp_ne (tgt := 150) dL_law_143 (by decide) (fun c143 => ?_) (fun c143 => ?_)
            · refine K_bipush (v := nI 6) dL_law_150 (by decide) ?_
              exact K_sub (by repeat (first | exact subl_nil | refine subl_cons rfl ?_)) (law_3 (by omega) ok u v vq nxt)
            · refine K_iconst (v := nI 5) dL_law_146 (by decide) ?_
              refine K_goto (tgt := 152) dL_law_147 (by decide) ?_
              exact K_sub (by repeat (first | exact subl_nil | refine subl_cons rfl ?_)) (law_3 (by omega) ok u v vq nxt)
          · refine K_iload dL_law_123 (by rfl) ?_
            refine K_iconst (v := 4) dL_law_125 (by decide) ?_
            refine K_irem dL_law_126 (by decide) ?_
            refine K_if_ne (tgt := 134) dL_law_127 (by decide) (fun c127 => ?_) (fun c127 => ?_)
            · refine K_bipush (v := nI 6) dL_law_134 (by decide) ?_
              refine K_goto (tgt := 152) dL_law_136 (by decide) ?_
              exact K_sub (by repeat (first | exact subl_nil | refine subl_cons rfl ?_)) (law_3 (by omega) ok u v vq nxt)
            · refine K_iconst (v := nI 4) dL_law_130 (by decide) ?_
              refine K_goto (tgt := 152) dL_law_131 (by decide) ?_
              exact K_sub (by repeat (first | exact subl_nil | refine subl_cons rfl ?_)) (law_3 (by omega) ok u v vq nxt)
        · refine K_iconst (v := nI 3) dL_law_112 (by decide) ?_
          refine K_goto (tgt := 152) dL_law_113 (by decide) ?_
          exact K_sub (by repeat (first | exact subl_nil | refine subl_cons rfl ?_)) (law_3 (by omega) ok u v vq nxt)
      · refine K_iconst (v := nI 2) dL_law_101 (by decide) ?_
        refine K_goto (tgt := 152) dL_law_102 (by decide) ?_
        exact K_sub (by repeat (first | exact subl_nil | refine subl_cons rfl ?_)) (law_3 (by omega) ok u v vq nxt)
    · refine K_iconst (v := nI 1) dL_law_90 (by decide) ?_
      refine K_goto (tgt := 152) dL_law_91 (by decide) ?_
      exact K_sub (by repeat (first | exact subl_nil | refine subl_cons rfl ?_)) (law_3 (by omega) ok u v vq nxt)
  · refine K_iconst (v := nI 0) dL_law_80 (by decide) ?_
    refine K_goto (tgt := 152) dL_law_81 (by decide) ?_
    exact K_sub (by repeat (first | exact subl_nil | refine subl_cons rfl ?_)) (law_3 (by omega) ok u v vq nxt)
set_option maxRecDepth 20000 in
theorem law_1 (hs : G.2.2 b = some (L, xs)) (hL : L ≤ 260) {mn : Nat} (hmn : mn < 100) : ∀ (j t : Nat) (σ : Sg) (hh : HP) (n1 : Nat), t + j = 46 → okS σ → isLT G hh x σ → isRA G hh (x + 65) σ.1.1 → isQA G hh (x + 64) σ.1.1.length σ.1.2 → KJ none G (ML nm) 1400 34 [(0, .ref b), (1, .ref x), (2, .ref (x + 64)), (3, .ref (x + 65)), (4, .int (nI mn)), (5, .int (nI t))] [] hh n1 (400 * j) (4000 * j) QL := by
  intro j
  induction j with
  | zero =>
    intro t σ hh n1 hj ok u v vq
    refine K_iload dL_law_34 (by rfl) ?_
    refine K_bipush (v := nI 46) dL_law_36 (by decide) ?_
    refine K_icmp_ge (tgt := 440) dL_law_38 (by decide) (fun c38 => ?_) (fun c38 => ?_)
    · rw [nI_leI (by omega) (by omega)] at c38
      refine K_iconst (v := 1) dL_law_440 (by decide) ?_
      exact K_done ⟨rfl, rfl⟩
    · rw [nI_leI (by omega) (by omega)] at c38
      exact absurd (by omega) c38
  | succ j ih =>
    intro t σ hh n1 hj ok u v vq
    have nx : ∀ (hh : HP) (n1 : Nat) (σ2 : Sg), okS σ2 → isLT G hh x σ2 → isRA G hh (x + 65) σ2.1.1 → isQA G hh (x + 64) σ2.1.1.length σ2.1.2 → KJ none G (ML nm) 1400 34 [(0, .ref b), (1, .ref x), (2, .ref (x + 64)), (3, .ref (x + 65)), (4, .int (nI mn)), (5, .int (nI (t + 1)))] [] hh n1 (400 * j) (4000 * j) QL := fun hh n1 σ2 a1 a2 a3 a4 => ih (t + 1) σ2 hh n1 (by omega) a1 a2 a3 a4
    refine K_iload dL_law_34 (by rfl) ?_
    refine K_bipush (v := nI 46) dL_law_36 (by decide) ?_
    refine K_icmp_ge (tgt := 440) dL_law_38 (by decide) (fun c38 => ?_) (fun c38 => ?_)
    · rw [nI_leI (by omega) (by omega)] at c38
      exact absurd c38 (by omega)
    · rw [nI_leI (by omega) (by omega)] at c38
      refine K_aload_n dL_law_41 (by rfl) ?_
      refine K_iconst (v := nI 1) dL_law_42 (by decide) ?_
      refine K_iload dL_law_43 (by rfl) ?_
      refine K_iadd dL_law_45 ?_
      rw [nI_add]
      refine K_callK2 mf_L_cell (tb_1 (List.mem_of_getElem? (i := 206) rfl) rfl) ms_L_cell (sp_L_cell hs hL (k := 1 + t) (by omega) _) dL_law_46 (by decide) (by rfl) rfl (Nat.le_of_ble_eq_true rfl) (by omega) (by omega) (fun v46 h46 n46 q46 => ?_)
      obtain ⟨⟨z, rfl⟩, rfl⟩ := q46
      refine K_istore dL_law_49 (Nat.le_of_ble_eq_true rfl) (by rfl) ?_
      refine K_iload dL_law_51 (by rfl) ?_
      refine K_iload dL_law_53 (by rfl) ?_
      refine K_icmp_ge (tgt := 62) dL_law_55 (by decide) (fun c55 => ?_) (fun c55 => ?_)
      · refine K_iload dL_law_62 (by rfl) ?_
        refine K_bipush (v := 13) dL_law_64 (by decide) ?_
        refine K_ishr dL_law_66 ?_
        refine K_bipush (v := nI 12) dL_law_67 (by decide) ?_
        refine K_callS mf_L_low lk_L_116 ms_L_low (sp_L_low _ _ (m := 12) (by omega) (by omega) _) dL_law_69 (by decide) (by rfl) rfl (Nat.le_of_ble_eq_true rfl) (Nat.zero_add _) (Nat.zero_add _) (fun v69 h69 n69 q69 => ?_)
        obtain ⟨⟨kk, hkk, rfl⟩, rfl⟩ := q69
        exact K_less (kc2 := 400 * (j + 1)) (kn2 := 4000 * (j + 1)) (by omega) (by omega) (K_sub (by repeat (first | exact subl_nil | refine subl_cons rfl ?_)) (law_2 ok u v vq nx))
      · refine K_iconst (v := nI 0) dL_law_58 (by decide) ?_
        refine K_goto (tgt := 72) dL_law_59 (by decide) ?_
        exact K_less (kc2 := 400 * (j + 1)) (kn2 := 4000 * (j + 1)) (by omega) (by omega) (K_sub (by repeat (first | exact subl_nil | refine subl_cons rfl ?_)) (law_2 ok u v vq nx))
theorem ok_s0 : okS s0 := ⟨⟨fun k hk => absurd hk (Nat.not_lt_zero _), Nat.zero_le _⟩, (fun t ht => by cases ht), (fun t ht => by cases ht)⟩
set_option maxRecDepth 20000 in
theorem law_all (hs : G.2.2 b = some (L, xs)) (hL : L ≤ 260) (hx0 : 0 < x) : KJ none G (ML nm) 1400 0 [(0, .ref b)] [] (fun _ => none) x 20000 200000 QL := by
  refine K_new (kc' := 19999) (kn' := 199990) fn_L_11 dL_law_0 (by omega) (by omega) (by first | rfl | (simp only [List.length_cons, List.length_nil]; omega)) ?_
  refine K_dup dL_law_3 rfl ?_
  refine K_callI (kc' := 19936) (kn' := 198445) mf_X9_init lk_L_159 mi_X9_init rfl rfl (sp_X9_init (x := x) hset_s) dL_law_4 (by decide) (by rfl) rfl (Nat.le_of_ble_eq_true rfl) (by omega) (by omega) (fun v4 h4 n4 q4 => ?_)
  obtain ⟨rfl, a4, b4, rfl⟩ := q4
  refine K_astore_n dL_law_7 (Nat.le_of_ble_eq_true rfl) (by rfl) ?_
  refine K_iconst (v := 2) dL_law_8 (by decide) ?_
  refine K_newI (N := 2) (kc' := 19935) (kn' := 198443) ca_int dL_law_9 (by omega) (by decide) (by decide) (by decide) (by omega) (by omega) ?_
  refine K_astore_n dL_law_11 (Nat.le_of_ble_eq_true rfl) (by rfl) ?_
  refine K_bipush (v := 32) dL_law_12 (by decide) ?_
  refine K_newI (N := 32) (kc' := 19934) (kn' := 198411) ca_int dL_law_14 (by omega) (by decide) (by decide) (by decide) (by omega) (by omega) ?_
  refine K_astore_n dL_law_16 (Nat.le_of_ble_eq_true rfl) (by rfl) ?_
  refine K_iconst (v := nI 3) dL_law_17 (by decide) ?_
  refine K_aload_n dL_law_18 (by rfl) ?_
  refine K_iconst (v := nI 0) dL_law_19 (by decide) ?_
  refine K_callK2 mf_L_cell (tb_1 (List.mem_of_getElem? (i := 206) rfl) rfl) ms_L_cell (sp_L_cell hs hL (k := 0) (by omega) _) dL_law_20 (by decide) (by rfl) rfl (Nat.le_of_ble_eq_true rfl) (by omega) (by omega) (fun v20 h20 n20 q20 => ?_)
  obtain ⟨⟨z, rfl⟩, rfl⟩ := q20
  refine K_bipush (v := nI 20) dL_law_23 (by decide) ?_
  refine K_callS mf_L_low lk_L_116 ms_L_low (sp_L_low _ _ (m := 20) (by omega) (by omega) _) dL_law_25 (by decide) (by rfl) rfl (Nat.le_of_ble_eq_true rfl) (Nat.zero_add _) (Nat.zero_add _) (fun v25 h25 n25 q25 => ?_)
  obtain ⟨⟨mm, hmm, rfl⟩, rfl⟩ := q25
  refine K_iadd dL_law_28 ?_
  rw [nI_add]
  refine K_istore dL_law_29 (Nat.le_of_ble_eq_true rfl) (by rfl) ?_
  refine K_iconst (v := nI 0) dL_law_31 (by decide) ?_
  refine K_istore dL_law_32 (Nat.le_of_ble_eq_true rfl) (by rfl) ?_
  exact K_less (kc2 := 400 * 46) (kn2 := 4000 * 46) (by omega) (by omega) (K_sub (by repeat (first | exact subl_nil | refine subl_cons rfl ?_)) (law_1 hs hL (mn := 3 + mm) (by omega) 46 0 s0 _ _ (by omega) ok_s0 (isLT_ky a4 (ky_tr (ky_set (Or.inr (by omega))) (ky_set (Or.inr (by omega))))) ⟨_, hset_s, Nat.zero_le _, fun k hk => absurd hk (Nat.not_lt_zero _)⟩ ⟨_, (hset_n (by omega)).trans hset_s, rfl, rfl⟩))
end LW
