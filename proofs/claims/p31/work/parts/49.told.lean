/-! rows that count the room down; what the law reads of an object; a call by its kind -/
theorem K_callW2 {G : GG} {M M2 : MI} {d pc : Nat} {lv : LV} {st : List Value} {h : HP} {n kc kn : Nat} {Q : LV → Nat → List Value → HP → Nat → Prop} {hh : Option (List (Nat × Nat × Nat × Nat))} {tb : List (Nat × Nat × Nat × Nat)} {d2 np idx : Nat} {As rest : List Value} {Q2 : Option Value → HP → Nat → Prop} (f : MFW M2 tb np) (lk : Cond.methodLink M.1.cls idx M2.1 ∈ WS) (hstat : Cond.static M2.1 ∈ WS)
    (sp : SpW G M2 tb d2 As h n Q2) (hd : decode M.2.1 pc = .ok (.invokestatic idx, 3)) (hdd : d2 + 1 ≤ d) (hst : st = As.reverse ++ rest) (hnp : As.length = np) (hrest : (rest.map fun v => v.category).sum ≤ 8) (hkc : 1 ≤ kc) (hkn : 6 ≤ kn)
    (kk : ∀ v h' n', Q2 v h' n' → KJ hh G M d (pc + 3) lv (v.toList ++ rest) h' n' (kc - 1) (kn - 6) Q) : KJ hh G M d pc lv st h n kc kn Q := K_callW f lk hstat sp hd hdd hst hnp hrest (by omega) (by omega) kk
theorem K_callK2 {G : GG} {M M2 : MI} {d pc : Nat} {lv : LV} {st : List Value} {h : HP} {n kc kn : Nat} {Q : LV → Nat → List Value → HP → Nat → Prop} {hh : Option (List (Nat × Nat × Nat × Nat))} {d2 kc2 kn2 np idx : Nat} {As rest : List Value} {Q2 : Option Value → HP → Nat → Prop} (f : MF M2 np) (lk : Cond.methodLink M.1.cls idx M2.1 ∈ WS) (hstat : Cond.static M2.1 ∈ WS)
    (sp : SpK G M2 d2 kc2 kn2 As h n Q2) (hd : decode M.2.1 pc = .ok (.invokestatic idx, 3)) (hdd : d2 + 1 ≤ d) (hst : st = As.reverse ++ rest) (hnp : As.length = np) (hrest : (rest.map fun v => v.category).sum ≤ 8) (hkc : kc2 ≤ kc) (hkn : kn2 ≤ kn)
    (kk : ∀ v h' n', Q2 v h' n' → KJ hh G M d (pc + 3) lv (v.toList ++ rest) h' n' (kc - kc2) (kn - kn2) Q) : KJ hh G M d pc lv st h n kc kn Q := K_callK f lk hstat sp hd hdd hst hnp hrest (by omega) (by omega) kk
theorem K_callS2 {G : GG} {M M2 : MI} {d pc : Nat} {lv : LV} {st : List Value} {h : HP} {n kc kn : Nat} {Q : LV → Nat → List Value → HP → Nat → Prop} {hh : Option (List (Nat × Nat × Nat × Nat))} {d2 kc2 kn2 np idx : Nat} {As rest : List Value} {Q2 : Option Value → HP → Nat → Prop} (f : MF M2 np) (lk : LK M.1.cls idx M2) (hstat : Cond.static M2.1 ∈ WS)
    (sp : Sp G M2 d2 kc2 kn2 As h n Q2) (hd : decode M.2.1 pc = .ok (.invokestatic idx, 3)) (hdd : d2 + 1 ≤ d) (hst : st = As.reverse ++ rest) (hnp : As.length = np) (hrest : (rest.map fun v => v.category).sum ≤ 8) (hkc : kc2 ≤ kc) (hkn : kn2 ≤ kn)
    (kk : ∀ v h' n', Q2 v h' n' → KJ hh G M d (pc + 3) lv (v.toList ++ rest) h' n' (kc - kc2) (kn - kn2) Q) : KJ hh G M d pc lv st h n kc kn Q := K_callS f lk hstat sp hd hdd hst hnp hrest (by omega) (by omega) kk
theorem K_newIu2 {G : GG} {M : MI} {d pc : Nat} {lv : LV} {st : List Value} {h : HP} {n kc kn : Nat} {Q : LV → Nat → List Value → HP → Nat → Prop} {hh : Option (List (Nat × Nat × Nat × Nat))} {N : Nat} {z : Int32} (ha : Cond.arrayClass .int ∈ WS) (hd : decode M.2.1 pc = .ok (.newarray .int, 2)) (hz : ¬ z < 0) (hN : z.toNatClampNeg = N) (hb : N ≤ 100000) (hkc : 1 ≤ kc) (hkn : N ≤ kn)
    (k : ∀ q, (∀ a, h a ≠ none → a < q) → KJ hh G M d (pc + 2) lv (.ref q :: st) (hset h q (.inl (G.2.1 0, N, .inl (fun _ => 0)))) (q + 1) (kc - 1) (kn - N) Q) : KJ hh G M d pc lv (.int z :: st) h n kc kn Q := K_newIu ha hd hz hN hb (by omega) (by omega) k
theorem K_newLu2 {G : GG} {M : MI} {d pc : Nat} {lv : LV} {st : List Value} {h : HP} {n kc kn : Nat} {Q : LV → Nat → List Value → HP → Nat → Prop} {hh : Option (List (Nat × Nat × Nat × Nat))} {N : Nat} {z : Int32} (ha : Cond.arrayClass .long ∈ WS) (hd : decode M.2.1 pc = .ok (.newarray .long, 2)) (hz : ¬ z < 0) (hN : z.toNatClampNeg = N) (hb : N ≤ 100000) (hkc : 1 ≤ kc) (hkn : N ≤ kn)
    (k : ∀ q, (∀ a, h a ≠ none → a < q) → KJ hh G M d (pc + 2) lv (.ref q :: st) (hset h q (.inl (G.2.1 1, N, .inr (.inl (fun _ => 0))))) (q + 1) (kc - 1) (kn - N) Q) : KJ hh G M d pc lv (.int z :: st) h n kc kn Q := K_newLu ha hd hz hN hb (by omega) (by omega) k
theorem K_sldN {G : GG} {M : MI} {d pc : Nat} {lv : LV} {st : List Value} {h : HP} {n kc kn : Nat} {Q : LV → Nat → List Value → HP → Nat → Prop} {hh : Option (List (Nat × Nat × Nat × Nat))} {a L k : Nat} {xs : Nat → Int32} (hd : decode M.2.1 pc = .ok (.iaload, 1)) (ha : G.2.2 a = some (L, xs)) (hk : k < L) (hL : L < 2 ^ 31) (j : KJ hh G M d (pc + 1) lv (.int (xs k) :: st) h n kc kn Q) : KJ hh G M d pc lv (.int (nI k) :: .ref a :: st) h n kc kn Q :=
  K_sld hd ha (vp_in_nI hk hL) (by rw [nI_clamp (Nat.lt_trans hk hL)]; exact j)
theorem qW_ok {G : GG} {x n : Nat} {h h' : HP} {R : Nat × Int32 × Sg} {cds : List Int32} {a : Int32} {σ : Sg} {v : Option Value} (e : R = (0, a, σ)) (q : qW G x h R cds v h' n) : v = some (.int a) ∧ isLT G h' x σ ∧ fr x (x + 64) h h' := by
  subst e
  exact q
theorem qW_no {G : GG} {x n i : Nat} {h h' : HP} {R : Nat × Int32 × Sg} {cds : List Int32} {σ : Sg} {v : Option Value} (e : R = fl (i + 1) σ) (q : qW G x h R cds v h' n) : v = some (.int (cds.getD i 0)) ∧ isLT G h' x σ ∧ fr x (x + 64) h h' := by
  subst e
  obtain ⟨q1, q2, q3⟩ := q
  exact ⟨q1.trans (by rw [if_neg (show ¬ (fl (i + 1) σ).1 = 0 from Nat.succ_ne_zero i)]; rfl), q2, q3⟩
section TO
variable {G : GG} {h : HP} {x : Nat} {σ : Sg}
theorem e_crossing {k : Nat} (hk : k < 2 ^ 31) : opCrossing (nI k) σ = (0, cON σ.1.1 k, σ) := by unfold opCrossing; rw [if_pos (nI_pos' hk), nI_clamp hk]
theorem e_count {k : Nat} (hk : k < 8) : opCount (nI k) σ = (0, cnt k σ, σ) := by unfold opCount; rw [if_pos ⟨nI_pos' (by omega), (nI_ltI (b := 8) (by omega) (by omega)).mpr hk⟩, nI_clamp (by omega)]
/-- the hash that the law takes of an object, as far as k places -/
def tlA (t : List Int32 × Nat) : Nat → Int64
  | 0 => 61
  | k + 1 => 31 * tlA t k + (cON t.1 k).toInt64
def tl (t : List Int32 × Nat) : Int64 := 31 * tlA t 31 + (nI t.2).toInt64
set_option maxRecDepth 20000 in
theorem sp_L_told (w : isLT G h x σ) (ok : okS σ) (n : Nat) : SpK G mm_L_told 20 32 192 [.ref x] h n (fun v h' _ => v = some (.long (tl σ.1)) ∧ isLT G h' x σ ∧ fr x (x + 64) h h') := by
  refine SpK_of (by decide +kernel) (Nat.le_of_ble_eq_true rfl) ?_
  have loop : ∀ (j k : Nat) (hh : HP) (n1 : Nat), k + j = 31 → isLT G hh x σ → fr x (x + 64) h hh → KJ none G mm_L_told 20 6 [(0, .ref x), (1, .long (tlA σ.1 k)), (3, .int (nI k))] [] hh n1 (32 - k) (192 - 6 * k) (fun _ => RT mm_L_told (fun v h' _ => v = some (.long (tl σ.1)) ∧ isLT G h' x σ ∧ fr x (x + 64) h h')) := by
    intro j
    induction j with
    | zero =>
      intro k hh n1 hj u hf
      obtain rfl : k = 31 := by omega
      refine K_iload_n dL_told_6 (by rfl) ?_
      refine K_bipush (v := nI 31) dL_told_7 (by decide) ?_
      refine K_icmp_ge (tgt := 31) dL_told_9 (by decide) (fun c9 => ?_) (fun c9 => ?_)
      · rw [nI_leI (by omega) (by omega)] at c9
        refine K_ldc2 dL_told_31 kc_L_78 ?_
        refine K_lload_n dL_told_34 (by rfl) ?_
        refine K_lmul dL_told_35 ?_
        refine K_aload_n dL_told_36 (by rfl) ?_
        refine K_iconst (v := nI 2) dL_told_37 (by decide) ?_
        refine K_callW2 mf_L_count (tb_2 (List.mem_of_getElem? (i := 122) rfl) rfl) ms_L_count (sp_L_count u ok (nI 2) _) dL_told_38 (by decide) (by rfl) rfl (Nat.le_of_ble_eq_true rfl) (by omega) (by omega) (fun v38 h38 n38 q38 => ?_)
        obtain ⟨rfl, u38, k38⟩ := qW_ok (e_count (k := 2) (by omega)) q38
        refine K_i2l dL_told_41 ?_
        refine K_ladd dL_told_42 ?_
        exact K_done ⟨_, (⟨rfl, u38, fr_tr hf k38⟩), Or.inr (Or.inl ⟨dL_told_43, _, rfl, rfl, rfl⟩)⟩
      · rw [nI_leI (by omega) (by omega)] at c9
        exact absurd (by omega) c9
    | succ j ih =>
      intro k hh n1 hj u hf
      refine K_iload_n dL_told_6 (by rfl) ?_
      refine K_bipush (v := nI 31) dL_told_7 (by decide) ?_
      refine K_icmp_ge (tgt := 31) dL_told_9 (by decide) (fun c9 => ?_) (fun c9 => ?_)
      · rw [nI_leI (by omega) (by omega)] at c9
        exact absurd c9 (by omega)
      · rw [nI_leI (by omega) (by omega)] at c9
        refine K_ldc2 dL_told_12 kc_L_78 ?_
        refine K_lload_n dL_told_15 (by rfl) ?_
        refine K_lmul dL_told_16 ?_
        refine K_aload_n dL_told_17 (by rfl) ?_
        refine K_iload_n dL_told_18 (by rfl) ?_
        refine K_callW2 mf_L_crossing (tb_2 (List.mem_of_getElem? (i := 94) rfl) rfl) ms_L_crossing (sp_L_crossing u ok (nI k) _) dL_told_19 (by decide) (by rfl) rfl (Nat.le_of_ble_eq_true rfl) (by omega) (by omega) (fun v19 h19 n19 q19 => ?_)
        obtain ⟨rfl, u19, k19⟩ := qW_ok (e_crossing (k := k) (by omega)) q19
        refine K_i2l dL_told_22 ?_
        refine K_ladd dL_told_23 ?_
        refine K_lstore_n dL_told_24 (by decide) (by rfl) ?_
        refine K_iincN dL_told_25 (by rfl) (by decide) (by rfl) ?_
        refine K_goto (tgt := 6) dL_told_28 (by decide) ?_
        exact K_less (kc2 := 32 - (k + 1)) (kn2 := 192 - 6 * (k + 1)) (by omega) (by omega) (K_sub (by repeat (first | exact subl_nil | refine subl_cons rfl ?_)) (ih (k + 1) _ _ (by omega) u19 (fr_tr hf k19)))
  refine K_ldc2 dL_told_0 kc_L_76 ?_
  refine K_lstore_n dL_told_3 (by decide) (by rfl) ?_
  refine K_iconst (v := nI 0) dL_told_4 (by decide) ?_
  refine K_istore_n dL_told_5 (Nat.le_of_ble_eq_true rfl) (by rfl) ?_
  exact K_sub (by repeat (first | exact subl_nil | refine subl_cons rfl ?_)) (loop 31 0 _ _ (by omega) w fr_rf)
set_option maxRecDepth 20000 in
theorem sp_L_cell {b L k : Nat} {xs : Nat → Int32} (hs : G.2.2 b = some (L, xs)) (hL : L ≤ 260) (hk : k < 1000) (n : Nat) : SpK G mm_L_cell 6 0 0 [.ref b, .int (nI k)] h n (fun v h' _ => (∃ z, v = some (.int z)) ∧ h' = h) := by
  refine SpK_of (by decide +kernel) (Nat.le_of_ble_eq_true rfl) ?_
  refine K_iload_n dL_cell_0 (by rfl) ?_
  refine K_aload_n dL_cell_1 (by rfl) ?_
  refine K_slen dL_cell_2 (by assumption) ?_
  rw [show Int32.ofNat L = nI L from rfl]
  refine K_icmp_ge (tgt := 12) dL_cell_3 (by decide) (fun c3 => ?_) (fun c3 => ?_)
  · rw [nI_leI (by omega) (by omega)] at c3
    refine K_ldc dL_cell_12 kc_L_7 ?_
    refine K_iload_n dL_cell_14 (by rfl) ?_
    refine K_bipush (v := 9) dL_cell_15 (by decide) ?_
    refine K_iadd dL_cell_17 ?_
    refine K_imul dL_cell_18 ?_
    refine K_ldc dL_cell_19 kc_L_8 ?_
    refine K_iadd dL_cell_21 ?_
    exact K_done ⟨_, (⟨⟨_, rfl⟩, rfl⟩), Or.inl ⟨dL_cell_22, _, _, rfl, rfl, (by rfl), rfl⟩⟩
  · rw [nI_leI (by omega) (by omega)] at c3
    refine K_aload_n dL_cell_6 (by rfl) ?_
    refine K_iload_n dL_cell_7 (by rfl) ?_
    refine K_sldN dL_cell_8 (by assumption) (by first | assumption | omega) (by omega) ?_
    refine K_goto (tgt := 22) dL_cell_9 (by decide) ?_
    exact K_done ⟨_, (⟨⟨_, rfl⟩, rfl⟩), Or.inl ⟨dL_cell_22, _, _, rfl, rfl, (by rfl), rfl⟩⟩
/-- the law's call of the kind kd -/
def opK (kd : Nat) (a b : Int32) (σ : Sg) : Nat × Int32 × Sg := match kd with
  | 0 => opCross a σ
  | 1 => opOpen σ
  | 2 => opMove a b σ
  | 3 => opPair b a σ
  | 4 => opPull σ
  | 5 => opTurn σ
  | _ => opHandle σ
def okA (kd : Nat) (a b : Int32) (σ : Sg) : Prop := (kd = 0 → isX a) ∧ (kd = 2 → ∃ m k : Nat, m < 3 ∧ k < 1000 ∧ a = nI m ∧ b = nI k) ∧ (kd = 3 → isX a ∧ ∃ k : Nat, k ≤ σ.1.1.length ∧ b = nI k)
def qC (G : GG) (x : Nat) (h : HP) (R : Nat × Int32 × Sg) : Option Value → HP → Nat → Prop := fun v h' _ => v = some (.int (if R.1 = 0 then R.2.1 else -103)) ∧ isLT G h' x R.2.2 ∧ fr x (x + 64) h h'
theorem qC_of {n c : Nat} {h' : HP} {R : Nat × Int32 × Sg} {cds : List Int32} {v : Option Value} (q : qW G x h R cds v h' n) (hR : R.1 = 0 ∨ R.1 = c) (hc : cds.getD (c - 1) 0 = -103) : qC G x h R v h' n := by
  obtain ⟨q1, q2, q3⟩ := q
  refine ⟨q1.trans ?_, q2, q3⟩
  rcases hR with e | e
  · rw [if_pos e, if_pos e]
  · by_cases e0 : R.1 = 0
    · rw [if_pos e0, if_pos e0]
    · rw [if_neg e0, if_neg e0, e, hc]
theorem R_cross {a : Int32} (ha : isX a) : (opCross a σ).1 = 0 ∨ (opCross a σ).1 = 2 := by
  unfold opCross
  rw [if_pos (cr_ok a ha.xl)]
  split
  · exact Or.inr rfl
  · exact Or.inl rfl
theorem R_open : (opOpen σ).1 = 0 ∨ (opOpen σ).1 = 1 := by
  unfold opOpen
  split
  · exact Or.inr rfl
  · exact Or.inl rfl
theorem R_move {m k : Nat} (hm : m < 3) (hk : k < 1000) : (opMove (nI m) (nI k) σ).1 = 0 ∨ (opMove (nI m) (nI k) σ).1 = 2 := by
  unfold opMove
  rw [if_pos ⟨⟨nI_pos' (by omega), (nI_leI (b := 2) (by omega) (by omega)).mpr (by omega)⟩, nI_pos' (by omega)⟩]
  split
  · exact Or.inl rfl
  · exact Or.inr rfl
theorem R_pair {a : Int32} (ha : isX a) (hl : σ.1.1.length ≤ 30) {k : Nat} (hk : k ≤ σ.1.1.length) : (opPair (nI k) a σ).1 = 0 ∨ (opPair (nI k) a σ).1 = 2 := by
  unfold opPair
  rw [if_pos ⟨⟨nI_pos' (by omega), (nI_leI (by omega) (by omega)).mpr hk⟩, cr_ok a ha.xl⟩]
  split
  · exact Or.inr rfl
  · exact Or.inl rfl
theorem R_handle : (opHandle σ).1 = 0 ∨ (opHandle σ).1 = 1 := by
  unfold opHandle
  split
  · exact Or.inr rfl
  · split
    · exact Or.inr rfl
    · exact Or.inl rfl
set_option maxRecDepth 20000 in
theorem sp_L_call (w : isLT G h x σ) (ok : okS σ) {kd : Nat} (hkd : kd < 7) {a b : Int32} (hab : okA kd a b σ) (n : Nat) : SpK G mm_L_call 20 1 6 [.ref x, .int (nI kd), .int a, .int b] h n (qC G x h (opK kd a b σ)) := by
  refine SpK_of (by decide +kernel) (Nat.le_of_ble_eq_true rfl) ?_
  obtain ⟨a0, a2, a3⟩ := hab
  have hl := ok.1.2
  rcases (show kd = 0 ∨ kd = 1 ∨ kd = 2 ∨ kd = 3 ∨ kd = 4 ∨ kd = 5 ∨ kd = 6 by omega) with rfl | rfl | rfl | rfl | rfl | rfl | rfl
  · refine K_iload_n dL_call_0 (by rfl) ?_
    refine K_tableIn (off := 39) (tgt := 40) dL_call_1 (by decide) (by decide) (by decide) (by decide) ?_
    refine K_aload_n dL_call_40 (by rfl) ?_
    refine K_iload_n dL_call_41 (by rfl) ?_
    refine K_callW2 mf_L_cross (tb_2 (List.mem_of_getElem? (i := 163) rfl) rfl) ms_L_cross (sp_L_cross w ok a _) dL_call_42 (by decide) (by rfl) rfl (Nat.le_of_ble_eq_true rfl) (by omega) (by omega) (fun v42 h42 n42 q42 => ?_)
    have q42 := qC_of (c := 2) q42 (R_cross (a0 rfl)) rfl
    obtain ⟨rfl, u42⟩ := q42
    exact K_done ⟨_, (⟨rfl, u42⟩), Or.inl ⟨dL_call_45, _, _, rfl, rfl, (by rfl), rfl⟩⟩
  · refine K_iload_n dL_call_0 (by rfl) ?_
    refine K_tableIn (off := 45) (tgt := 46) dL_call_1 (by decide) (by decide) (by decide) (by decide) ?_
    refine K_aload_n dL_call_46 (by rfl) ?_
    refine K_callW2 mf_L_open (tb_2 (List.mem_of_getElem? (i := 180) rfl) rfl) ms_L_open (sp_L_open w ok _) dL_call_47 (by decide) (by rfl) rfl (Nat.le_of_ble_eq_true rfl) (by omega) (by omega) (fun v47 h47 n47 q47 => ?_)
    have q47 := qC_of (c := 1) q47 R_open rfl
    obtain ⟨rfl, u47⟩ := q47
    exact K_done ⟨_, (⟨rfl, u47⟩), Or.inl ⟨dL_call_50, _, _, rfl, rfl, (by rfl), rfl⟩⟩
  · obtain ⟨m, k, hm, hk, rfl, rfl⟩ := a2 rfl
    refine K_iload_n dL_call_0 (by rfl) ?_
    refine K_tableIn (off := 50) (tgt := 51) dL_call_1 (by decide) (by decide) (by decide) (by decide) ?_
    refine K_aload_n dL_call_51 (by rfl) ?_
    refine K_iload_n dL_call_52 (by rfl) ?_
    refine K_iload_n dL_call_53 (by rfl) ?_
    refine K_callW2 mf_L_move (tb_2 (List.mem_of_getElem? (i := 188) rfl) rfl) ms_L_move (sp_L_move w ok (nI m) (nI k) _) dL_call_54 (by decide) (by rfl) rfl (Nat.le_of_ble_eq_true rfl) (by omega) (by omega) (fun v54 h54 n54 q54 => ?_)
    have q54 := qC_of (c := 2) q54 (R_move hm hk) rfl
    obtain ⟨rfl, u54⟩ := q54
    exact K_done ⟨_, (⟨rfl, u54⟩), Or.inl ⟨dL_call_57, _, _, rfl, rfl, (by rfl), rfl⟩⟩
  · obtain ⟨ha, k, hk, rfl⟩ := a3 rfl
    refine K_iload_n dL_call_0 (by rfl) ?_
    refine K_tableIn (off := 57) (tgt := 58) dL_call_1 (by decide) (by decide) (by decide) (by decide) ?_
    refine K_aload_n dL_call_58 (by rfl) ?_
    refine K_iload_n dL_call_59 (by rfl) ?_
    refine K_iload_n dL_call_60 (by rfl) ?_
    refine K_callW2 mf_L_pair (tb_2 (List.mem_of_getElem? (i := 226) rfl) rfl) ms_L_pair (sp_L_pair w ok (nI k) a _) dL_call_61 (by decide) (by rfl) rfl (Nat.le_of_ble_eq_true rfl) (by omega) (by omega) (fun v61 h61 n61 q61 => ?_)
    have q61 := qC_of (c := 2) q61 (R_pair ha hl hk) rfl
    obtain ⟨rfl, u61⟩ := q61
    exact K_done ⟨_, (⟨rfl, u61⟩), Or.inl ⟨dL_call_64, _, _, rfl, rfl, (by rfl), rfl⟩⟩
  · refine K_iload_n dL_call_0 (by rfl) ?_
    refine K_tableIn (off := 64) (tgt := 65) dL_call_1 (by decide) (by decide) (by decide) (by decide) ?_
    refine K_aload_n dL_call_65 (by rfl) ?_
    refine K_callV mf_X9_pull lk_L_95 mi_X9_pull mv_X9_pull (sp_X9_pull w _) dL_call_66 (by first | assumption | exact isLT.ob (by assumption) | exact isRow.ob (by assumption) | exact isHnd.ob (by assumption) | exact isUnt.ob (by assumption) | exact isSt.ob (by assumption) | exact isHist.ob (by assumption) | exact isTxt.ob (by assumption) | exact isLac.ob (by assumption) | exact isMea.ob (by assumption) | exact hset_s | exact (hset_n (by first | assumption | omega)).trans (by first | assumption | exact isLT.ob (by assumption) | exact isRow.ob (by assumption) | exact isHnd.ob (by assumption) | exact isUnt.ob (by assumption) | exact isSt.ob (by assumption) | exact isHist.ob (by assumption) | exact isTxt.ob (by assumption) | exact isLac.ob (by assumption) | exact isMea.ob (by assumption) | exact hset_s | exact (hset_n (by first | assumption | omega)).trans (by first | assumption | exact isLT.ob (by assumption) | exact isRow.ob (by assumption) | exact isHnd.ob (by assumption) | exact isUnt.ob (by assumption) | exact isSt.ob (by assumption) | exact isHist.ob (by assumption) | exact isTxt.ob (by assumption) | exact isLac.ob (by assumption) | exact isMea.ob (by assumption) | exact hset_s | exact (hset_n (by first | assumption | omega)).trans (by first | assumption | exact isLT.ob (by assumption) | exact isRow.ob (by assumption) | exact isHnd.ob (by assumption) | exact isUnt.ob (by assumption) | exact isSt.ob (by assumption) | exact isHist.ob (by assumption) | exact isTxt.ob (by assumption) | exact isLac.ob (by assumption) | exact isMea.ob (by assumption))))) rfl rfl (by decide) (by rfl) rfl (Nat.le_of_ble_eq_true rfl) (Nat.zero_add _) (Nat.zero_add _) (fun v66 h66 n66 q66 => ?_)
    obtain ⟨e66, rfl, u66⟩ := q66
    exact K_done ⟨_, (⟨rfl, u66⟩), Or.inl ⟨dL_call_69, _, _, rfl, rfl, (by rfl), rfl⟩⟩
  · refine K_iload_n dL_call_0 (by rfl) ?_
    refine K_tableIn (off := 69) (tgt := 70) dL_call_1 (by decide) (by decide) (by decide) (by decide) ?_
    refine K_aload_n dL_call_70 (by rfl) ?_
    refine K_callV mf_X9_turn lk_L_98 mi_X9_turn mv_X9_turn (sp_X9_turn w _) dL_call_71 (by first | assumption | exact isLT.ob (by assumption) | exact isRow.ob (by assumption) | exact isHnd.ob (by assumption) | exact isUnt.ob (by assumption) | exact isSt.ob (by assumption) | exact isHist.ob (by assumption) | exact isTxt.ob (by assumption) | exact isLac.ob (by assumption) | exact isMea.ob (by assumption) | exact hset_s | exact (hset_n (by first | assumption | omega)).trans (by first | assumption | exact isLT.ob (by assumption) | exact isRow.ob (by assumption) | exact isHnd.ob (by assumption) | exact isUnt.ob (by assumption) | exact isSt.ob (by assumption) | exact isHist.ob (by assumption) | exact isTxt.ob (by assumption) | exact isLac.ob (by assumption) | exact isMea.ob (by assumption) | exact hset_s | exact (hset_n (by first | assumption | omega)).trans (by first | assumption | exact isLT.ob (by assumption) | exact isRow.ob (by assumption) | exact isHnd.ob (by assumption) | exact isUnt.ob (by assumption) | exact isSt.ob (by assumption) | exact isHist.ob (by assumption) | exact isTxt.ob (by assumption) | exact isLac.ob (by assumption) | exact isMea.ob (by assumption) | exact hset_s | exact (hset_n (by first | assumption | omega)).trans (by first | assumption | exact isLT.ob (by assumption) | exact isRow.ob (by assumption) | exact isHnd.ob (by assumption) | exact isUnt.ob (by assumption) | exact isSt.ob (by assumption) | exact isHist.ob (by assumption) | exact isTxt.ob (by assumption) | exact isLac.ob (by assumption) | exact isMea.ob (by assumption))))) rfl rfl (by decide) (by rfl) rfl (Nat.le_of_ble_eq_true rfl) (Nat.zero_add _) (Nat.zero_add _) (fun v71 h71 n71 q71 => ?_)
    obtain ⟨e71, rfl, u71⟩ := q71
    exact K_done ⟨_, (⟨rfl, u71⟩), Or.inl ⟨dL_call_74, _, _, rfl, rfl, (by rfl), rfl⟩⟩
  · refine K_iload_n dL_call_0 (by rfl) ?_
    refine K_tableOut (tgt := 75) dL_call_1 (by decide) (by decide) ?_
    refine K_aload_n dL_call_75 (by rfl) ?_
    refine K_callW2 mf_L_handle (tb_3 (List.mem_of_getElem? (i := 17) rfl) rfl) ms_L_handle (sp_L_handle w ok _) dL_call_76 (by decide) (by rfl) rfl (Nat.le_of_ble_eq_true rfl) (by omega) (by omega) (fun v76 h76 n76 q76 => ?_)
    have q76 := qC_of (c := 1) q76 R_handle rfl
    obtain ⟨rfl, u76⟩ := q76
    exact K_done ⟨_, (⟨rfl, u76⟩), Or.inl ⟨dL_call_79, _, _, rfl, rfl, (by rfl), rfl⟩⟩
end TO
