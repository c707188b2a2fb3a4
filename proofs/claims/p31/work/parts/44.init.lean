/-! making: an array of arrays; the constructors -/
theorem mx_outer (c : ClassId) (N h0 : Nat) : ∀ i : Nat, Jvm.Free.Multi.outerC c N h0 i = arrV c N (fun j => va_rf (if j < i then some (h0 + 1 + j) else none))
  | 0 => by
    show ({ cls := c, slots := Array.replicate N .null, vm := .none } : Cell) = _
    rw [arrV_new]
    refine congrArg (arrV c N) (funext fun j => ?_)
    simp [va_rf]
  | i + 1 => by
    show (Jvm.Free.Multi.outerC c N h0 i).setSlot i (.ref (h0 + 1 + i)) = _
    rw [mx_outer c N h0 i, arrV_store]
    refine congrArg (arrV c N) (funext fun j => ?_)
    by_cases e : j = i
    · subst e
      simp [updV, va_rf]
    · by_cases h : j < i
      · simp [updV, e, h, Nat.lt_succ_of_lt h]
      · simp [updV, e, h, show ¬ j < i + 1 by omega]
def hsR (h : HP) (n : Nat) (e : Nat → va_E) : Nat → HP
  | 0 => h
  | i + 1 => hset (hsR h n e i) (n + i) (e i)
theorem hsR_in {h : HP} {n : Nat} {e : Nat → va_E} : ∀ {m i : Nat}, i < m → hsR h n e m (n + i) = some (e i) := by
  intro m
  induction m with
  | zero => intro i hi; exact absurd hi (Nat.not_lt_zero _)
  | succ m ih =>
    intro i hi
    rw [hsR]
    by_cases q : i = m
    · subst q; exact hset_s
    · rw [hset_n (by omega)]; exact ih (by omega)
theorem hsR_out {h : HP} {n q : Nat} {e : Nat → va_E} : ∀ {m : Nat}, q < n ∨ n + m ≤ q → hsR h n e m q = h q := by
  intro m
  induction m with
  | zero => intro _; rfl
  | succ m ih =>
    intro hq
    rw [hsR, hset_n (by omega)]
    exact ih (by omega)
theorem ext_get {H : Heap} {m q : Nat} (hq : q < m) : (H.extract 0 m)[q]? = H[q]? := by
  rw [Array.getElem?_extract]
  simp
  omega
theorem WL.more {D : va_G} {h : HP} {A : Nat → Prop} {H H1 : Heap} {e : Nat → va_E} {m : Nat} (w : WL D h A H) (hA : ∀ q, H.size ≤ q → A q) (hk : ∀ q, q < H.size → H1[q]? = H[q]?) (hs : H1.size = H.size + m) (h1 : ∀ i, i < m → va_at D vwCl (H.size + i, e i) H1) : WL D (hsR h H.size e m) A H1 := by
  have cellAt : ∀ (i m2 : Nat), i < m → H.size + i < m2 → va_at D vwCl (H.size + i, e i) (H1.extract 0 m2) := by
    intro i m2 hi hm2
    have := h1 i hi
    unfold va_at at this ⊢
    revert this
    show (match e i with | .inl a => _ | .inr o => _) → (match e i with | .inl a => _ | .inr o => _)
    cases e i with
    | inl a => exact fun q => (ext_get hm2).trans q
    | inr o =>
      rintro ⟨r, g1, cell, c1, c2⟩
      exact ⟨r, g1, cell, (ext_get hm2).trans c1, c2⟩
  have step : ∀ i, i ≤ m → WL D (hsR h H.size e i) A (H1.extract 0 (H.size + i)) := by
    intro i
    induction i with
    | zero =>
      intro _
      have e0 : H1.extract 0 (H.size + 0) = H := by
        refine Array.ext_getElem? (fun q => ?_)
        by_cases hq : q < H.size
        · rw [Nat.add_zero, ext_get hq]; exact hk q hq
        · rw [Array.getElem?_eq_none (by rw [Array.size_extract]; omega), Array.getElem?_eq_none (by omega)]
      rw [e0]
      exact w
    | succ i ih =>
      intro hi
      have hsz : (H1.extract 0 (H.size + i)).size = H.size + i := by rw [Array.size_extract]; omega
      have := (ih (by omega)).new (H1 := H1.extract 0 (H.size + (i + 1))) (e := e i) (by rw [hsz]; exact hA _ (by omega)) (by rw [hsz]; exact cellAt i _ (by omega) (by omega)) (fun q hq => by rw [hsz] at hq; rw [ext_get (by omega), ext_get hq])
      rw [hsz] at this
      exact this
  have := step m (Nat.le_refl _)
  rwa [← hs, Array.extract_size] at this
def mnE (G : GG) (n : Nat) : Nat → va_E
  | 0 => .inl (G.2.1 3, 16, .inr (.inr (.inr (.inr (fun i => if i < 16 then some (n + 1 + i) else none)))))
  | _ + 1 => .inl (G.2.1 0, 16, .inl (fun _ => 0))
theorem J_mna {G : GG} {M : MI} {d pc : Nat} {lv : LV} {st : List Value} {h : HP} {n kc kn : Nat} {Q : Nat → List Value → HP → Nat → Prop} {idx kc' kn' : Nat} (hl : Cond.classLink M.1.cls idx "[[I" ∈ WS) (ho : Cond.arrayOver (.array .int) ∈ WS) (ha : Cond.arrayClass .int ∈ WS) (hd : decode M.2.1 pc = .ok (.multianewarray idx 2, 4)) (hn : n ≠ 0) (hkc : 17 + kc' = kc) (hkn : 272 + kn' = kn) (k : J G M d (pc + 4) lv (.ref n :: st) (hsR h n (mnE G n) 17) (n + 17) kc' kn' Q) : J G M d pc lv (.int 16 :: .int 16 :: st) h n kc kn Q := by
  intro p l e R s m args below meth c A mc ms Z C E H locs cells slots ls r T hT Xs
  obtain ⟨r1, r2, r3, r4, r5, r6⟩ := r
  have hR := C.2.2.2.2.1
  have hs0 := r2.1
  have hzz : n = H.size := r3.resolve_left hn
  subst hzz
  have c16 : (16 : Int32).toNatClampNeg = 16 := by decide
  have hcl : (Cond.classLink M.1.cls idx ("[" ++ (FieldType.array FieldType.int).toString)).before args s = true := C.2.1 _ hl
  obtain ⟨vm₁, cA, comp, -, fA, fC, hO, -, X', step⟩ := Xs.multianewarray2F C.1.1 C.1.2.2.2.2.2.2 hcl (C.2.1 _ ho) (C.2.1 _ ha) (g := F0 m pc ls (.int 16 :: .int 16 :: st)) rfl (by rw [C.1.2.1]; exact hd) rfl (by decide) (by decide) (by decide) (by decide) (by decide) rfl rfl (by rw [c16]; omega) (by rw [c16]; omega)
  rw [c16] at X' step
  have ecA : cA = G.2.1 3 := Option.some.inj (fA.symm.trans (C.2.2.1.2 3 _ rfl).2)
  have ecC : comp = G.2.1 0 := Option.some.inj (fC.symm.trans (C.2.2.1.2 0 _ rfl).2)
  subst ecA
  subst ecC
  generalize hF : Jvm.Free.Multi.fill (T.setVm vm₁) (G.2.1 3) (G.2.1 0) 16 16 (defaultValue .int) 16 = F at X' step
  have hTh : (T.setVm vm₁).heap = H := hT
  obtain ⟨f1, f2, -, -⟩ := Jvm.Free.Multi.fill_facts (T.setVm vm₁) (G.2.1 3) (G.2.1 0) 16 16 (defaultValue .int) 16
  rw [hF, hTh] at f1 f2
  have hold : ∀ x : Nat, x < H.size → F.heap[x]? = H[x]? := fun x hx => by
    have := Jvm.Free.Multi.fill_old (T.setVm vm₁) (G.2.1 3) (G.2.1 0) 16 16 (defaultValue .int) (a := x) (by rw [hTh]; exact hx) 16
    rw [hF, hTh] at this
    exact this
  have hrow : ∀ j : Nat, j < 16 → F.heap[H.size + 1 + j]? = some (vp_cell (G.2.1 0) (16, .inl (fun _ => 0))) := fun j hj => by
    have := Jvm.Free.Multi.fill_inner (T.setVm vm₁) (G.2.1 3) (G.2.1 0) 16 16 (defaultValue .int) 16 j hj
    rw [hF, hTh] at this
    rw [this, vp_cell_i, ← arrV_new]
    rfl
  have hsz : F.heap.size = H.size + 17 := by rw [f1]
  have wl := r1.more (H1 := F.heap) (e := mnE G H.size) (m := 17) (fun q hq => C.2.2.2.1 q (by omega)) hold hsz (fun i hi => by
    cases i with
    | zero =>
      show F.heap[H.size + 0]? = some (vp_cell _ _)
      rw [Nat.add_zero, f2, vp_cell_q]
      exact congrArg some (mx_outer (G.2.1 3) 16 H.size 16)
    | succ i =>
      show F.heap[H.size + (i + 1)]? = some (vp_cell _ _)
      rw [show H.size + (i + 1) = H.size + 1 + i by omega]
      exact hrow i (by omega))
  obtain ⟨t2, a1, b1⟩ := k C E (H := F.heap) (locs := locs) (cells := cells + 1 + 16) (slots := slots + 16 + 16 * 16) (ls := ls) ⟨wl, ⟨by omega, fun x g1 g2 => (hold x (by omega)).trans (r2.2.1 x g1 g2), r2.2.2⟩, Or.inr hsz.symm, r4, by omega, by omega⟩ F rfl X'
  exact ⟨t2, step t2 (by rw [hT]; exact a1), b1⟩
set_option maxRecDepth 20000 in
theorem sp_X5_init {G : GG} {h : HP} {r cap : Nat} (h1 : h r = some (.inr (4, [.null, .int 0]))) (hc : cap < 1000) : Sp G mm_X5_init 1 1 cap [.ref r, .int (nI cap)] h (r + 1) (fun v h' n' => v = none ∧ isRow G h' r cap [] ∧ fr r (r + 2) h h' ∧ n' = r + 2) := by
  refine Sp_of (by decide +kernel) (Nat.le_of_ble_eq_true rfl) ?_
  refine J_aload_n dX5_init_0 (by rfl) ?_
  refine J_objInit lo_X5_1 mi_Object mc_Object dX5_init_1 (by decide) (Nat.le_of_ble_eq_true rfl) ?_
  refine J_aload_n dX5_init_4 (by rfl) ?_
  refine J_iload_n dX5_init_5 (by rfl) ?_
  refine J_if_ge (tgt := 13) dX5_init_6 (by decide) (fun c6 => ?_) (fun c6 => ?_)
  · refine J_iload_n dX5_init_13 (by rfl) ?_
    refine J_newI (kc' := 0) (kn' := 0) ca_int dX5_init_14 (by omega) (nI_pos (by omega)) (nI_clamp (by omega)) (by omega) (by omega) (by omega) ?_
    refine J_putF fp_X5_7 rfl dX5_init_16 (by first | assumption | exact isLT.ob (by assumption) | exact isRow.ob (by assumption) | exact isHnd.ob (by assumption) | exact isUnt.ob (by assumption) | exact isSt.ob (by assumption) | exact isHist.ob (by assumption) | exact isTxt.ob (by assumption) | exact isLac.ob (by assumption) | exact isMea.ob (by assumption) | exact hset_s | exact (hset_n (by first | assumption | omega)).trans (by first | assumption | exact isLT.ob (by assumption) | exact isRow.ob (by assumption) | exact isHnd.ob (by assumption) | exact isUnt.ob (by assumption) | exact isSt.ob (by assumption) | exact isHist.ob (by assumption) | exact isTxt.ob (by assumption) | exact isLac.ob (by assumption) | exact isMea.ob (by assumption) | exact hset_s | exact (hset_n (by first | assumption | omega)).trans (by first | assumption | exact isLT.ob (by assumption) | exact isRow.ob (by assumption) | exact isHnd.ob (by assumption) | exact isUnt.ob (by assumption) | exact isSt.ob (by assumption) | exact isHist.ob (by assumption) | exact isTxt.ob (by assumption) | exact isLac.ob (by assumption) | exact isMea.ob (by assumption) | exact hset_s | exact (hset_n (by first | assumption | omega)).trans (by first | assumption | exact isLT.ob (by assumption) | exact isRow.ob (by assumption) | exact isHnd.ob (by assumption) | exact isUnt.ob (by assumption) | exact isSt.ob (by assumption) | exact isHist.ob (by assumption) | exact isTxt.ob (by assumption) | exact isLac.ob (by assumption) | exact isMea.ob (by assumption))))) (Nat.le_of_ble_eq_true rfl) (by rfl) (by rfl) ?_
    refine J_aload_n dX5_init_19 (by rfl) ?_
    refine J_iconst (v := 0) dX5_init_20 (by decide) ?_
    refine J_put fp_X5_13 dX5_init_21 (by first | assumption | exact isLT.ob (by assumption) | exact isRow.ob (by assumption) | exact isHnd.ob (by assumption) | exact isUnt.ob (by assumption) | exact isSt.ob (by assumption) | exact isHist.ob (by assumption) | exact isTxt.ob (by assumption) | exact isLac.ob (by assumption) | exact isMea.ob (by assumption) | exact hset_s | exact (hset_n (by first | assumption | omega)).trans (by first | assumption | exact isLT.ob (by assumption) | exact isRow.ob (by assumption) | exact isHnd.ob (by assumption) | exact isUnt.ob (by assumption) | exact isSt.ob (by assumption) | exact isHist.ob (by assumption) | exact isTxt.ob (by assumption) | exact isLac.ob (by assumption) | exact isMea.ob (by assumption) | exact hset_s | exact (hset_n (by first | assumption | omega)).trans (by first | assumption | exact isLT.ob (by assumption) | exact isRow.ob (by assumption) | exact isHnd.ob (by assumption) | exact isUnt.ob (by assumption) | exact isSt.ob (by assumption) | exact isHist.ob (by assumption) | exact isTxt.ob (by assumption) | exact isLac.ob (by assumption) | exact isMea.ob (by assumption) | exact hset_s | exact (hset_n (by first | assumption | omega)).trans (by first | assumption | exact isLT.ob (by assumption) | exact isRow.ob (by assumption) | exact isHnd.ob (by assumption) | exact isUnt.ob (by assumption) | exact isSt.ob (by assumption) | exact isHist.ob (by assumption) | exact isTxt.ob (by assumption) | exact isLac.ob (by assumption) | exact isMea.ob (by assumption))))) (Nat.le_of_ble_eq_true rfl) (by rfl) (by rfl) ?_
    exact J_return dX5_init_24 rfl (⟨rfl, ⟨fun _ => 0, hset_s, (hset_n (by omega)).trans ((hset_n (by omega)).trans hset_s), Nat.zero_le _, hc, fun k hk => absurd hk (Nat.not_lt_zero _)⟩, fr_tr (fr_set (by omega) (by omega)) (fr_tr (fr_set (by omega) (by omega)) (fr_set (by omega) (by omega))), rfl⟩)
  · exact absurd (nI_pos' (by omega)) c6
set_option maxRecDepth 20000 in
theorem sp_X6_init {G : GG} {h : HP} {a : Nat} (h1 : h a = some (.inr (5, [.null, .int 0]))) : Sp G mm_X6_init 2 2 32 [.ref a] h (a + 1) (fun v h' n' => v = none ∧ isSt G h' a [] 0 ∧ fr a (a + 3) h h' ∧ n' = a + 3) := by
  refine Sp_of (by decide +kernel) (Nat.le_of_ble_eq_true rfl) ?_
  refine J_aload_n dX6_init_0 (by rfl) ?_
  refine J_objInit lo_X6_3 mi_Object mc_Object dX6_init_1 (by decide) (Nat.le_of_ble_eq_true rfl) ?_
  refine J_aload_n dX6_init_4 (by rfl) ?_
  refine J_new (kc' := 1) (kn' := 30) fn_X6_9 dX6_init_5 (by omega) (by omega) (by first | rfl | (simp only [List.length_cons, List.length_nil]; omega)) ?_
  refine J_dup dX6_init_8 rfl ?_
  refine J_bipush (v := nI 30) dX6_init_9 (by decide) ?_
  refine J_callI (kc' := 0) (kn' := 0) mf_X5_init lk_X6_11 mi_X5_init rfl rfl (sp_X5_init (r := a + 1) (cap := 30) hset_s (by omega)) dX6_init_11 (by decide) (by rfl) rfl (Nat.le_of_ble_eq_true rfl) (by omega) (by omega) (fun v11 h11 n11 q11 => ?_)
  obtain ⟨rfl, a11, b11, rfl⟩ := q11
  have o11 := (b11 a (by omega)).trans ((hset_n (by omega)).trans h1)
  refine J_putF fp_X6_14 rfl dX6_init_14 (by first | assumption | exact isLT.ob (by assumption) | exact isRow.ob (by assumption) | exact isHnd.ob (by assumption) | exact isUnt.ob (by assumption) | exact isSt.ob (by assumption) | exact isHist.ob (by assumption) | exact isTxt.ob (by assumption) | exact isLac.ob (by assumption) | exact isMea.ob (by assumption) | exact hset_s | exact (hset_n (by first | assumption | omega)).trans (by first | assumption | exact isLT.ob (by assumption) | exact isRow.ob (by assumption) | exact isHnd.ob (by assumption) | exact isUnt.ob (by assumption) | exact isSt.ob (by assumption) | exact isHist.ob (by assumption) | exact isTxt.ob (by assumption) | exact isLac.ob (by assumption) | exact isMea.ob (by assumption) | exact hset_s | exact (hset_n (by first | assumption | omega)).trans (by first | assumption | exact isLT.ob (by assumption) | exact isRow.ob (by assumption) | exact isHnd.ob (by assumption) | exact isUnt.ob (by assumption) | exact isSt.ob (by assumption) | exact isHist.ob (by assumption) | exact isTxt.ob (by assumption) | exact isLac.ob (by assumption) | exact isMea.ob (by assumption) | exact hset_s | exact (hset_n (by first | assumption | omega)).trans (by first | assumption | exact isLT.ob (by assumption) | exact isRow.ob (by assumption) | exact isHnd.ob (by assumption) | exact isUnt.ob (by assumption) | exact isSt.ob (by assumption) | exact isHist.ob (by assumption) | exact isTxt.ob (by assumption) | exact isLac.ob (by assumption) | exact isMea.ob (by assumption))))) (Nat.le_of_ble_eq_true rfl) (by rfl) (by rfl) ?_
  refine J_aload_n dX6_init_17 (by rfl) ?_
  refine J_iconst (v := nI 0) dX6_init_18 (by decide) ?_
  refine J_put fp_X6_20 dX6_init_19 (by first | assumption | exact isLT.ob (by assumption) | exact isRow.ob (by assumption) | exact isHnd.ob (by assumption) | exact isUnt.ob (by assumption) | exact isSt.ob (by assumption) | exact isHist.ob (by assumption) | exact isTxt.ob (by assumption) | exact isLac.ob (by assumption) | exact isMea.ob (by assumption) | exact hset_s | exact (hset_n (by first | assumption | omega)).trans (by first | assumption | exact isLT.ob (by assumption) | exact isRow.ob (by assumption) | exact isHnd.ob (by assumption) | exact isUnt.ob (by assumption) | exact isSt.ob (by assumption) | exact isHist.ob (by assumption) | exact isTxt.ob (by assumption) | exact isLac.ob (by assumption) | exact isMea.ob (by assumption) | exact hset_s | exact (hset_n (by first | assumption | omega)).trans (by first | assumption | exact isLT.ob (by assumption) | exact isRow.ob (by assumption) | exact isHnd.ob (by assumption) | exact isUnt.ob (by assumption) | exact isSt.ob (by assumption) | exact isHist.ob (by assumption) | exact isTxt.ob (by assumption) | exact isLac.ob (by assumption) | exact isMea.ob (by assumption) | exact hset_s | exact (hset_n (by first | assumption | omega)).trans (by first | assumption | exact isLT.ob (by assumption) | exact isRow.ob (by assumption) | exact isHnd.ob (by assumption) | exact isUnt.ob (by assumption) | exact isSt.ob (by assumption) | exact isHist.ob (by assumption) | exact isTxt.ob (by assumption) | exact isLac.ob (by assumption) | exact isMea.ob (by assumption))))) (Nat.le_of_ble_eq_true rfl) (by rfl) (by rfl) ?_
  exact J_return dX6_init_22 rfl (⟨rfl, ⟨hset_s, a11.fr (lo := a) (hi := a + 1) (fr_tr (fr_set (by omega) (by omega)) (fr_set (by omega) (by omega))) (by omega)⟩, fr_tr (fr_set (by omega) (by omega)) (fr_tr (fr_mono b11 (by omega) (by omega)) (fr_tr (fr_set (by omega) (by omega)) (fr_set (by omega) (by omega)))), rfl⟩)
set_option maxRecDepth 20000 in
theorem sp_X0_init {G : GG} {h : HP} {a : Nat} (h1 : h a = some (.inr (0, [.null, .int 0, .int 0]))) : Sp G mm_X0_init 1 1 4 [.ref a] h (a + 1) (fun v h' n' => v = none ∧ isHnd G h' a (-1) (-1) ∧ fr a (a + 2) h h' ∧ n' = a + 2) := by
  refine Sp_of (by decide +kernel) (Nat.le_of_ble_eq_true rfl) ?_
  refine J_aload_n dX0_init_0 (by rfl) ?_
  refine J_objInit lo_X0_3 mi_Object mc_Object dX0_init_1 (by decide) (Nat.le_of_ble_eq_true rfl) ?_
  refine J_aload_n dX0_init_4 (by rfl) ?_
  refine J_iconst (v := 4) dX0_init_5 (by decide) ?_
  refine J_newI (N := 4) (kc' := 0) (kn' := 0) ca_int dX0_init_6 (by omega) (by decide) (by decide) (by decide) (by omega) (by omega) ?_
  refine J_putF fp_X0_9 rfl dX0_init_8 (by first | assumption | exact isLT.ob (by assumption) | exact isRow.ob (by assumption) | exact isHnd.ob (by assumption) | exact isUnt.ob (by assumption) | exact isSt.ob (by assumption) | exact isHist.ob (by assumption) | exact isTxt.ob (by assumption) | exact isLac.ob (by assumption) | exact isMea.ob (by assumption) | exact hset_s | exact (hset_n (by first | assumption | omega)).trans (by first | assumption | exact isLT.ob (by assumption) | exact isRow.ob (by assumption) | exact isHnd.ob (by assumption) | exact isUnt.ob (by assumption) | exact isSt.ob (by assumption) | exact isHist.ob (by assumption) | exact isTxt.ob (by assumption) | exact isLac.ob (by assumption) | exact isMea.ob (by assumption) | exact hset_s | exact (hset_n (by first | assumption | omega)).trans (by first | assumption | exact isLT.ob (by assumption) | exact isRow.ob (by assumption) | exact isHnd.ob (by assumption) | exact isUnt.ob (by assumption) | exact isSt.ob (by assumption) | exact isHist.ob (by assumption) | exact isTxt.ob (by assumption) | exact isLac.ob (by assumption) | exact isMea.ob (by assumption) | exact hset_s | exact (hset_n (by first | assumption | omega)).trans (by first | assumption | exact isLT.ob (by assumption) | exact isRow.ob (by assumption) | exact isHnd.ob (by assumption) | exact isUnt.ob (by assumption) | exact isSt.ob (by assumption) | exact isHist.ob (by assumption) | exact isTxt.ob (by assumption) | exact isLac.ob (by assumption) | exact isMea.ob (by assumption))))) (Nat.le_of_ble_eq_true rfl) (by rfl) (by rfl) ?_
  refine J_aload_n dX0_init_11 (by rfl) ?_
  refine J_iconst (v := (-1)) dX0_init_12 (by decide) ?_
  refine J_put fp_X0_15 dX0_init_13 (by first | assumption | exact isLT.ob (by assumption) | exact isRow.ob (by assumption) | exact isHnd.ob (by assumption) | exact isUnt.ob (by assumption) | exact isSt.ob (by assumption) | exact isHist.ob (by assumption) | exact isTxt.ob (by assumption) | exact isLac.ob (by assumption) | exact isMea.ob (by assumption) | exact hset_s | exact (hset_n (by first | assumption | omega)).trans (by first | assumption | exact isLT.ob (by assumption) | exact isRow.ob (by assumption) | exact isHnd.ob (by assumption) | exact isUnt.ob (by assumption) | exact isSt.ob (by assumption) | exact isHist.ob (by assumption) | exact isTxt.ob (by assumption) | exact isLac.ob (by assumption) | exact isMea.ob (by assumption) | exact hset_s | exact (hset_n (by first | assumption | omega)).trans (by first | assumption | exact isLT.ob (by assumption) | exact isRow.ob (by assumption) | exact isHnd.ob (by assumption) | exact isUnt.ob (by assumption) | exact isSt.ob (by assumption) | exact isHist.ob (by assumption) | exact isTxt.ob (by assumption) | exact isLac.ob (by assumption) | exact isMea.ob (by assumption) | exact hset_s | exact (hset_n (by first | assumption | omega)).trans (by first | assumption | exact isLT.ob (by assumption) | exact isRow.ob (by assumption) | exact isHnd.ob (by assumption) | exact isUnt.ob (by assumption) | exact isSt.ob (by assumption) | exact isHist.ob (by assumption) | exact isTxt.ob (by assumption) | exact isLac.ob (by assumption) | exact isMea.ob (by assumption))))) (Nat.le_of_ble_eq_true rfl) (by rfl) (by rfl) ?_
  refine J_aload_n dX0_init_16 (by rfl) ?_
  refine J_iconst (v := (-1)) dX0_init_17 (by decide) ?_
  refine J_put fp_X0_19 dX0_init_18 (by first | assumption | exact isLT.ob (by assumption) | exact isRow.ob (by assumption) | exact isHnd.ob (by assumption) | exact isUnt.ob (by assumption) | exact isSt.ob (by assumption) | exact isHist.ob (by assumption) | exact isTxt.ob (by assumption) | exact isLac.ob (by assumption) | exact isMea.ob (by assumption) | exact hset_s | exact (hset_n (by first | assumption | omega)).trans (by first | assumption | exact isLT.ob (by assumption) | exact isRow.ob (by assumption) | exact isHnd.ob (by assumption) | exact isUnt.ob (by assumption) | exact isSt.ob (by assumption) | exact isHist.ob (by assumption) | exact isTxt.ob (by assumption) | exact isLac.ob (by assumption) | exact isMea.ob (by assumption) | exact hset_s | exact (hset_n (by first | assumption | omega)).trans (by first | assumption | exact isLT.ob (by assumption) | exact isRow.ob (by assumption) | exact isHnd.ob (by assumption) | exact isUnt.ob (by assumption) | exact isSt.ob (by assumption) | exact isHist.ob (by assumption) | exact isTxt.ob (by assumption) | exact isLac.ob (by assumption) | exact isMea.ob (by assumption) | exact hset_s | exact (hset_n (by first | assumption | omega)).trans (by first | assumption | exact isLT.ob (by assumption) | exact isRow.ob (by assumption) | exact isHnd.ob (by assumption) | exact isUnt.ob (by assumption) | exact isSt.ob (by assumption) | exact isHist.ob (by assumption) | exact isTxt.ob (by assumption) | exact isLac.ob (by assumption) | exact isMea.ob (by assumption))))) (Nat.le_of_ble_eq_true rfl) (by rfl) (by rfl) ?_
  exact J_return dX0_init_21 rfl (⟨rfl, ⟨hset_s, fun _ => 0, (hset_n (by omega)).trans ((hset_n (by omega)).trans ((hset_n (by omega)).trans hset_s))⟩, fr_tr (fr_set (by omega) (by omega)) (fr_tr (fr_set (by omega) (by omega)) (fr_tr (fr_set (by omega) (by omega)) (fr_set (by omega) (by omega)))), rfl⟩)
set_option maxRecDepth 20000 in
theorem sp_X2_init {G : GG} {h : HP} {a : Nat} (h1 : h a = some (.inr (2, [.null, .null]))) : Sp G mm_X2_init 1 2 20 [.ref a] h (a + 1) (fun v h' n' => v = none ∧ (∃ l q, isLac G h' a l q) ∧ fr a (a + 3) h h' ∧ n' = a + 3) := by
  refine Sp_of (by decide +kernel) (Nat.le_of_ble_eq_true rfl) ?_
  refine J_aload_n dX2_init_0 (by rfl) ?_
  refine J_objInit lo_X2_3 mi_Object mc_Object dX2_init_1 (by decide) (Nat.le_of_ble_eq_true rfl) ?_
  refine J_aload_n dX2_init_4 (by rfl) ?_
  refine J_iconst (v := 4) dX2_init_5 (by decide) ?_
  refine J_newI (N := 4) (kc' := 1) (kn' := 16) ca_int dX2_init_6 (by omega) (by decide) (by decide) (by decide) (by omega) (by omega) ?_
  refine J_putF fp_X2_9 rfl dX2_init_8 (by first | assumption | exact isLT.ob (by assumption) | exact isRow.ob (by assumption) | exact isHnd.ob (by assumption) | exact isUnt.ob (by assumption) | exact isSt.ob (by assumption) | exact isHist.ob (by assumption) | exact isTxt.ob (by assumption) | exact isLac.ob (by assumption) | exact isMea.ob (by assumption) | exact hset_s | exact (hset_n (by first | assumption | omega)).trans (by first | assumption | exact isLT.ob (by assumption) | exact isRow.ob (by assumption) | exact isHnd.ob (by assumption) | exact isUnt.ob (by assumption) | exact isSt.ob (by assumption) | exact isHist.ob (by assumption) | exact isTxt.ob (by assumption) | exact isLac.ob (by assumption) | exact isMea.ob (by assumption) | exact hset_s | exact (hset_n (by first | assumption | omega)).trans (by first | assumption | exact isLT.ob (by assumption) | exact isRow.ob (by assumption) | exact isHnd.ob (by assumption) | exact isUnt.ob (by assumption) | exact isSt.ob (by assumption) | exact isHist.ob (by assumption) | exact isTxt.ob (by assumption) | exact isLac.ob (by assumption) | exact isMea.ob (by assumption) | exact hset_s | exact (hset_n (by first | assumption | omega)).trans (by first | assumption | exact isLT.ob (by assumption) | exact isRow.ob (by assumption) | exact isHnd.ob (by assumption) | exact isUnt.ob (by assumption) | exact isSt.ob (by assumption) | exact isHist.ob (by assumption) | exact isTxt.ob (by assumption) | exact isLac.ob (by assumption) | exact isMea.ob (by assumption))))) (Nat.le_of_ble_eq_true rfl) (by rfl) (by rfl) ?_
  refine J_aload_n dX2_init_11 (by rfl) ?_
  refine J_bipush (v := 16) dX2_init_12 (by decide) ?_
  refine J_newI (N := 16) (kc' := 0) (kn' := 0) ca_int dX2_init_14 (by omega) (by decide) (by decide) (by decide) (by omega) (by omega) ?_
  refine J_putF fp_X2_15 rfl dX2_init_16 (by first | assumption | exact isLT.ob (by assumption) | exact isRow.ob (by assumption) | exact isHnd.ob (by assumption) | exact isUnt.ob (by assumption) | exact isSt.ob (by assumption) | exact isHist.ob (by assumption) | exact isTxt.ob (by assumption) | exact isLac.ob (by assumption) | exact isMea.ob (by assumption) | exact hset_s | exact (hset_n (by first | assumption | omega)).trans (by first | assumption | exact isLT.ob (by assumption) | exact isRow.ob (by assumption) | exact isHnd.ob (by assumption) | exact isUnt.ob (by assumption) | exact isSt.ob (by assumption) | exact isHist.ob (by assumption) | exact isTxt.ob (by assumption) | exact isLac.ob (by assumption) | exact isMea.ob (by assumption) | exact hset_s | exact (hset_n (by first | assumption | omega)).trans (by first | assumption | exact isLT.ob (by assumption) | exact isRow.ob (by assumption) | exact isHnd.ob (by assumption) | exact isUnt.ob (by assumption) | exact isSt.ob (by assumption) | exact isHist.ob (by assumption) | exact isTxt.ob (by assumption) | exact isLac.ob (by assumption) | exact isMea.ob (by assumption) | exact hset_s | exact (hset_n (by first | assumption | omega)).trans (by first | assumption | exact isLT.ob (by assumption) | exact isRow.ob (by assumption) | exact isHnd.ob (by assumption) | exact isUnt.ob (by assumption) | exact isSt.ob (by assumption) | exact isHist.ob (by assumption) | exact isTxt.ob (by assumption) | exact isLac.ob (by assumption) | exact isMea.ob (by assumption))))) (Nat.le_of_ble_eq_true rfl) (by rfl) (by rfl) ?_
  exact J_return dX2_init_19 rfl (⟨rfl, ⟨fun _ => 0, fun _ => 0, hset_s, ⟨fun _ => 0, (hset_n (by omega)).trans ((hset_n (by omega)).trans ((hset_n (by omega)).trans hset_s)), fun j hj => rfl⟩, fun _ => 0, (hset_n (by omega)).trans hset_s, fun j hj => rfl⟩, fr_tr (fr_set (by omega) (by omega)) (fr_tr (fr_set (by omega) (by omega)) (fr_tr (fr_set (by omega) (by omega)) (fr_set (by omega) (by omega)))), rfl⟩)
set_option maxRecDepth 20000 in
theorem sp_X7_init {G : GG} {h : HP} {a : Nat} (h1 : h a = some (.inr (6, [.null, .int 0]))) : Sp G mm_X7_init 1 1 60 [.ref a] h (a + 1) (fun v h' n' => v = none ∧ isTxt G h' a [] ∧ fr a (a + 2) h h' ∧ n' = a + 2) := by
  refine Sp_of (by decide +kernel) (Nat.le_of_ble_eq_true rfl) ?_
  refine J_aload_n dX7_init_0 (by rfl) ?_
  refine J_objInit lo_X7_3 mi_Object mc_Object dX7_init_1 (by decide) (Nat.le_of_ble_eq_true rfl) ?_
  refine J_aload_n dX7_init_4 (by rfl) ?_
  refine J_bipush (v := 60) dX7_init_5 (by decide) ?_
  refine J_newI (N := 60) (kc' := 0) (kn' := 0) ca_int dX7_init_7 (by omega) (by decide) (by decide) (by decide) (by omega) (by omega) ?_
  refine J_putF fp_X7_9 rfl dX7_init_9 (by first | assumption | exact isLT.ob (by assumption) | exact isRow.ob (by assumption) | exact isHnd.ob (by assumption) | exact isUnt.ob (by assumption) | exact isSt.ob (by assumption) | exact isHist.ob (by assumption) | exact isTxt.ob (by assumption) | exact isLac.ob (by assumption) | exact isMea.ob (by assumption) | exact hset_s | exact (hset_n (by first | assumption | omega)).trans (by first | assumption | exact isLT.ob (by assumption) | exact isRow.ob (by assumption) | exact isHnd.ob (by assumption) | exact isUnt.ob (by assumption) | exact isSt.ob (by assumption) | exact isHist.ob (by assumption) | exact isTxt.ob (by assumption) | exact isLac.ob (by assumption) | exact isMea.ob (by assumption) | exact hset_s | exact (hset_n (by first | assumption | omega)).trans (by first | assumption | exact isLT.ob (by assumption) | exact isRow.ob (by assumption) | exact isHnd.ob (by assumption) | exact isUnt.ob (by assumption) | exact isSt.ob (by assumption) | exact isHist.ob (by assumption) | exact isTxt.ob (by assumption) | exact isLac.ob (by assumption) | exact isMea.ob (by assumption) | exact hset_s | exact (hset_n (by first | assumption | omega)).trans (by first | assumption | exact isLT.ob (by assumption) | exact isRow.ob (by assumption) | exact isHnd.ob (by assumption) | exact isUnt.ob (by assumption) | exact isSt.ob (by assumption) | exact isHist.ob (by assumption) | exact isTxt.ob (by assumption) | exact isLac.ob (by assumption) | exact isMea.ob (by assumption))))) (Nat.le_of_ble_eq_true rfl) (by rfl) (by rfl) ?_
  refine J_aload_n dX7_init_12 (by rfl) ?_
  refine J_iconst (v := 0) dX7_init_13 (by decide) ?_
  refine J_put fp_X7_15 dX7_init_14 (by first | assumption | exact isLT.ob (by assumption) | exact isRow.ob (by assumption) | exact isHnd.ob (by assumption) | exact isUnt.ob (by assumption) | exact isSt.ob (by assumption) | exact isHist.ob (by assumption) | exact isTxt.ob (by assumption) | exact isLac.ob (by assumption) | exact isMea.ob (by assumption) | exact hset_s | exact (hset_n (by first | assumption | omega)).trans (by first | assumption | exact isLT.ob (by assumption) | exact isRow.ob (by assumption) | exact isHnd.ob (by assumption) | exact isUnt.ob (by assumption) | exact isSt.ob (by assumption) | exact isHist.ob (by assumption) | exact isTxt.ob (by assumption) | exact isLac.ob (by assumption) | exact isMea.ob (by assumption) | exact hset_s | exact (hset_n (by first | assumption | omega)).trans (by first | assumption | exact isLT.ob (by assumption) | exact isRow.ob (by assumption) | exact isHnd.ob (by assumption) | exact isUnt.ob (by assumption) | exact isSt.ob (by assumption) | exact isHist.ob (by assumption) | exact isTxt.ob (by assumption) | exact isLac.ob (by assumption) | exact isMea.ob (by assumption) | exact hset_s | exact (hset_n (by first | assumption | omega)).trans (by first | assumption | exact isLT.ob (by assumption) | exact isRow.ob (by assumption) | exact isHnd.ob (by assumption) | exact isUnt.ob (by assumption) | exact isSt.ob (by assumption) | exact isHist.ob (by assumption) | exact isTxt.ob (by assumption) | exact isLac.ob (by assumption) | exact isMea.ob (by assumption))))) (Nat.le_of_ble_eq_true rfl) (by rfl) (by rfl) ?_
  exact J_return dX7_init_17 rfl (⟨rfl, ⟨fun _ => 0, hset_s, (hset_n (by omega)).trans ((hset_n (by omega)).trans hset_s), Nat.zero_le _, fun k hk => absurd hk (Nat.not_lt_zero _)⟩, fr_tr (fr_set (by omega) (by omega)) (fr_tr (fr_set (by omega) (by omega)) (fr_set (by omega) (by omega))), rfl⟩)
set_option maxRecDepth 20000 in
theorem sp_X3_init {G : GG} {h : HP} {a : Nat} (h1 : h a = some (.inr (3, [.null, .null, .null, .null]))) : Sp G mm_X3_init 1 20 320 [.ref a] h (a + 1) (fun v h' n' => v = none ∧ isMea G h' a ∧ fr a (a + 21) h h' ∧ n' = a + 21) := by
  refine Sp_of (by decide +kernel) (Nat.le_of_ble_eq_true rfl) ?_
  have hin : ∀ (h9 : HP) (i : Nat), i < 17 → hsR h9 (a + 1 + 1 + 1 + 1) (mnE G (a + 1 + 1 + 1 + 1)) 17 (a + 1 + 1 + 1 + 1 + i) = some (mnE G (a + 1 + 1 + 1 + 1) i) := fun h9 i hi => hsR_in hi
  have hout : ∀ (h9 : HP) (q : Nat), q < a + 1 + 1 + 1 + 1 ∨ a + 21 ≤ q → hsR h9 (a + 1 + 1 + 1 + 1) (mnE G (a + 1 + 1 + 1 + 1)) 17 q = h9 q := fun h9 q hq => hsR_out (by omega)
  refine J_aload_n dX3_init_0 (by rfl) ?_
  refine J_objInit lo_X3_3 mi_Object mc_Object dX3_init_1 (by decide) (Nat.le_of_ble_eq_true rfl) ?_
  refine J_aload_n dX3_init_4 (by rfl) ?_
  refine J_bipush (v := 16) dX3_init_5 (by decide) ?_
  refine J_newI (N := 16) (kc' := 19) (kn' := 304) ca_int dX3_init_7 (by omega) (by decide) (by decide) (by decide) (by omega) (by omega) ?_
  refine J_putF fp_X3_11 rfl dX3_init_9 (by first | assumption | exact isLT.ob (by assumption) | exact isRow.ob (by assumption) | exact isHnd.ob (by assumption) | exact isUnt.ob (by assumption) | exact isSt.ob (by assumption) | exact isHist.ob (by assumption) | exact isTxt.ob (by assumption) | exact isLac.ob (by assumption) | exact isMea.ob (by assumption) | exact hset_s | exact (hset_n (by first | assumption | omega)).trans (by first | assumption | exact isLT.ob (by assumption) | exact isRow.ob (by assumption) | exact isHnd.ob (by assumption) | exact isUnt.ob (by assumption) | exact isSt.ob (by assumption) | exact isHist.ob (by assumption) | exact isTxt.ob (by assumption) | exact isLac.ob (by assumption) | exact isMea.ob (by assumption) | exact hset_s | exact (hset_n (by first | assumption | omega)).trans (by first | assumption | exact isLT.ob (by assumption) | exact isRow.ob (by assumption) | exact isHnd.ob (by assumption) | exact isUnt.ob (by assumption) | exact isSt.ob (by assumption) | exact isHist.ob (by assumption) | exact isTxt.ob (by assumption) | exact isLac.ob (by assumption) | exact isMea.ob (by assumption) | exact hset_s | exact (hset_n (by first | assumption | omega)).trans (by first | assumption | exact isLT.ob (by assumption) | exact isRow.ob (by assumption) | exact isHnd.ob (by assumption) | exact isUnt.ob (by assumption) | exact isSt.ob (by assumption) | exact isHist.ob (by assumption) | exact isTxt.ob (by assumption) | exact isLac.ob (by assumption) | exact isMea.ob (by assumption))))) (Nat.le_of_ble_eq_true rfl) (by rfl) (by rfl) ?_
  refine J_aload_n dX3_init_12 (by rfl) ?_
  refine J_bipush (v := 16) dX3_init_13 (by decide) ?_
  refine J_newI (N := 16) (kc' := 18) (kn' := 288) ca_int dX3_init_15 (by omega) (by decide) (by decide) (by decide) (by omega) (by omega) ?_
  refine J_putF fp_X3_15 rfl dX3_init_17 (by first | assumption | exact isLT.ob (by assumption) | exact isRow.ob (by assumption) | exact isHnd.ob (by assumption) | exact isUnt.ob (by assumption) | exact isSt.ob (by assumption) | exact isHist.ob (by assumption) | exact isTxt.ob (by assumption) | exact isLac.ob (by assumption) | exact isMea.ob (by assumption) | exact hset_s | exact (hset_n (by first | assumption | omega)).trans (by first | assumption | exact isLT.ob (by assumption) | exact isRow.ob (by assumption) | exact isHnd.ob (by assumption) | exact isUnt.ob (by assumption) | exact isSt.ob (by assumption) | exact isHist.ob (by assumption) | exact isTxt.ob (by assumption) | exact isLac.ob (by assumption) | exact isMea.ob (by assumption) | exact hset_s | exact (hset_n (by first | assumption | omega)).trans (by first | assumption | exact isLT.ob (by assumption) | exact isRow.ob (by assumption) | exact isHnd.ob (by assumption) | exact isUnt.ob (by assumption) | exact isSt.ob (by assumption) | exact isHist.ob (by assumption) | exact isTxt.ob (by assumption) | exact isLac.ob (by assumption) | exact isMea.ob (by assumption) | exact hset_s | exact (hset_n (by first | assumption | omega)).trans (by first | assumption | exact isLT.ob (by assumption) | exact isRow.ob (by assumption) | exact isHnd.ob (by assumption) | exact isUnt.ob (by assumption) | exact isSt.ob (by assumption) | exact isHist.ob (by assumption) | exact isTxt.ob (by assumption) | exact isLac.ob (by assumption) | exact isMea.ob (by assumption))))) (Nat.le_of_ble_eq_true rfl) (by rfl) (by rfl) ?_
  refine J_aload_n dX3_init_20 (by rfl) ?_
  refine J_bipush (v := 16) dX3_init_21 (by decide) ?_
  refine J_newI (N := 16) (kc' := 17) (kn' := 272) ca_int dX3_init_23 (by omega) (by decide) (by decide) (by decide) (by omega) (by omega) ?_
  refine J_putF fp_X3_18 rfl dX3_init_25 (by first | assumption | exact isLT.ob (by assumption) | exact isRow.ob (by assumption) | exact isHnd.ob (by assumption) | exact isUnt.ob (by assumption) | exact isSt.ob (by assumption) | exact isHist.ob (by assumption) | exact isTxt.ob (by assumption) | exact isLac.ob (by assumption) | exact isMea.ob (by assumption) | exact hset_s | exact (hset_n (by first | assumption | omega)).trans (by first | assumption | exact isLT.ob (by assumption) | exact isRow.ob (by assumption) | exact isHnd.ob (by assumption) | exact isUnt.ob (by assumption) | exact isSt.ob (by assumption) | exact isHist.ob (by assumption) | exact isTxt.ob (by assumption) | exact isLac.ob (by assumption) | exact isMea.ob (by assumption) | exact hset_s | exact (hset_n (by first | assumption | omega)).trans (by first | assumption | exact isLT.ob (by assumption) | exact isRow.ob (by assumption) | exact isHnd.ob (by assumption) | exact isUnt.ob (by assumption) | exact isSt.ob (by assumption) | exact isHist.ob (by assumption) | exact isTxt.ob (by assumption) | exact isLac.ob (by assumption) | exact isMea.ob (by assumption) | exact hset_s | exact (hset_n (by first | assumption | omega)).trans (by first | assumption | exact isLT.ob (by assumption) | exact isRow.ob (by assumption) | exact isHnd.ob (by assumption) | exact isUnt.ob (by assumption) | exact isSt.ob (by assumption) | exact isHist.ob (by assumption) | exact isTxt.ob (by assumption) | exact isLac.ob (by assumption) | exact isMea.ob (by assumption))))) (Nat.le_of_ble_eq_true rfl) (by rfl) (by rfl) ?_
  refine J_aload_n dX3_init_28 (by rfl) ?_
  refine J_bipush (v := 16) dX3_init_29 (by decide) ?_
  refine J_bipush (v := 16) dX3_init_31 (by decide) ?_
  refine J_mna (kc' := 0) (kn' := 0) cl_X3_21 oa_array_int ca_int dX3_init_33 (by omega) (by omega) (by omega) ?_
  refine J_putF fp_X3_23 rfl dX3_init_37 ((hout _ _ (by omega)).trans hset_s) (Nat.le_of_ble_eq_true rfl) (by rfl) (by rfl) ?_
  exact J_return dX3_init_40 rfl (⟨rfl, ⟨hset_s, ⟨fun _ => 0, (hset_n (by omega)).trans ((hout _ _ (by omega)).trans ((hset_n (by omega)).trans ((hset_n (by omega)).trans ((hset_n (by omega)).trans ((hset_n (by omega)).trans ((hset_n (by omega)).trans hset_s))))))⟩, ⟨fun _ => 0, (hset_n (by omega)).trans ((hout _ _ (by omega)).trans ((hset_n (by omega)).trans ((hset_n (by omega)).trans ((hset_n (by omega)).trans hset_s))))⟩, ⟨fun _ => 0, (hset_n (by omega)).trans ((hout _ _ (by omega)).trans ((hset_n (by omega)).trans hset_s))⟩, ⟨fun i => if i < 16 then some (a + 1 + 1 + 1 + 1 + 1 + i) else none, (hset_n (by omega)).trans (hin _ 0 (by omega)), fun i hi => if_pos hi⟩, fun i hi => ⟨fun _ => 0, (hset_n (by omega)).trans (by have := hin (hset (hset (hset (hset (hset (hset h (a + 1) (iA G 16 (fun _ => 0))) a (.inr (3, [.null, .null, .null, .null].set 0 (.ref (a + 1))))) (a + 1 + 1) (iA G 16 (fun _ => 0))) a (.inr (3, ([.null, .null, .null, .null].set 0 (.ref (a + 1))).set 1 (.ref (a + 1 + 1))))) (a + 1 + 1 + 1) (iA G 16 (fun _ => 0))) a (.inr (3, (([.null, .null, .null, .null].set 0 (.ref (a + 1))).set 1 (.ref (a + 1 + 1))).set 2 (.ref (a + 1 + 1 + 1))))) (i + 1) (by omega); rw [show a + 4 + 1 + i = a + 1 + 1 + 1 + 1 + (i + 1) by omega]; exact this)⟩⟩, fun q hq => (hset_n (by omega)).trans ((hout _ _ (by omega)).trans ((hset_n (by omega)).trans ((hset_n (by omega)).trans ((hset_n (by omega)).trans ((hset_n (by omega)).trans ((hset_n (by omega)).trans (hset_n (by omega)))))))), rfl⟩)
set_option maxRecDepth 20000 in
theorem sp_X8_init {G : GG} {h : HP} {a : Nat} (h1 : h a = some (.inr (7, [.null, .null, .null, .int 0, .int 0, .int 0]))) : Sp G mm_X8_init 2 6 811 [.ref a] h (a + 1) (fun v h' n' => v = none ∧ (∃ V S ys u m ok b e, isUnt G h' a V S ys u m ok b e) ∧ fr a (a + 7) h h' ∧ n' = a + 7) := by
  refine Sp_of (by decide +kernel) (Nat.le_of_ble_eq_true rfl) ?_
  refine J_aload_n dX8_init_0 (by rfl) ?_
  refine J_objInit lo_X8_3 mi_Object mc_Object dX8_init_1 (by decide) (Nat.le_of_ble_eq_true rfl) ?_
  refine J_aload_n dX8_init_4 (by rfl) ?_
  refine J_new (kc' := 5) (kn' := 809) fn_X8_9 dX8_init_5 (by omega) (by omega) (by first | rfl | (simp only [List.length_cons, List.length_nil]; omega)) ?_
  refine J_dup dX8_init_8 rfl ?_
  refine J_sipush (v := nI 400) dX8_init_9 (by decide) ?_
  refine J_callI (kc' := 4) (kn' := 409) mf_X5_init lk_X8_11 mi_X5_init rfl rfl (sp_X5_init (r := a + 1) (cap := 400) hset_s (by omega)) dX8_init_12 (by decide) (by rfl) rfl (Nat.le_of_ble_eq_true rfl) (by omega) (by omega) (fun v12 h12 n12 q12 => ?_)
  obtain ⟨rfl, a12, b12, rfl⟩ := q12
  have o12 := (b12 a (by omega)).trans ((hset_n (by omega)).trans h1)
  refine J_put fp_X8_14 dX8_init_15 (by first | assumption | exact isLT.ob (by assumption) | exact isRow.ob (by assumption) | exact isHnd.ob (by assumption) | exact isUnt.ob (by assumption) | exact isSt.ob (by assumption) | exact isHist.ob (by assumption) | exact isTxt.ob (by assumption) | exact isLac.ob (by assumption) | exact isMea.ob (by assumption) | exact hset_s | exact (hset_n (by first | assumption | omega)).trans (by first | assumption | exact isLT.ob (by assumption) | exact isRow.ob (by assumption) | exact isHnd.ob (by assumption) | exact isUnt.ob (by assumption) | exact isSt.ob (by assumption) | exact isHist.ob (by assumption) | exact isTxt.ob (by assumption) | exact isLac.ob (by assumption) | exact isMea.ob (by assumption) | exact hset_s | exact (hset_n (by first | assumption | omega)).trans (by first | assumption | exact isLT.ob (by assumption) | exact isRow.ob (by assumption) | exact isHnd.ob (by assumption) | exact isUnt.ob (by assumption) | exact isSt.ob (by assumption) | exact isHist.ob (by assumption) | exact isTxt.ob (by assumption) | exact isLac.ob (by assumption) | exact isMea.ob (by assumption) | exact hset_s | exact (hset_n (by first | assumption | omega)).trans (by first | assumption | exact isLT.ob (by assumption) | exact isRow.ob (by assumption) | exact isHnd.ob (by assumption) | exact isUnt.ob (by assumption) | exact isSt.ob (by assumption) | exact isHist.ob (by assumption) | exact isTxt.ob (by assumption) | exact isLac.ob (by assumption) | exact isMea.ob (by assumption))))) (Nat.le_of_ble_eq_true rfl) (by rfl) (by rfl) ?_
  refine J_aload_n dX8_init_18 (by rfl) ?_
  refine J_new (kc' := 3) (kn' := 407) fn_X8_9 dX8_init_19 (by omega) (by omega) (by first | rfl | (simp only [List.length_cons, List.length_nil]; omega)) ?_
  refine J_dup dX8_init_22 rfl ?_
  refine J_sipush (v := nI 400) dX8_init_23 (by decide) ?_
  refine J_callI (kc' := 2) (kn' := 7) mf_X5_init lk_X8_11 mi_X5_init rfl rfl (sp_X5_init (r := a + 1 + 2) (cap := 400) hset_s (by omega)) dX8_init_26 (by decide) (by rfl) rfl (Nat.le_of_ble_eq_true rfl) (by omega) (by omega) (fun v26 h26 n26 q26 => ?_)
  obtain ⟨rfl, a26, b26, rfl⟩ := q26
  have o26 := (b26 a (by omega)).trans ((hset_n (by omega)).trans hset_s)
  refine J_put fp_X8_20 dX8_init_29 (by first | assumption | exact isLT.ob (by assumption) | exact isRow.ob (by assumption) | exact isHnd.ob (by assumption) | exact isUnt.ob (by assumption) | exact isSt.ob (by assumption) | exact isHist.ob (by assumption) | exact isTxt.ob (by assumption) | exact isLac.ob (by assumption) | exact isMea.ob (by assumption) | exact hset_s | exact (hset_n (by first | assumption | omega)).trans (by first | assumption | exact isLT.ob (by assumption) | exact isRow.ob (by assumption) | exact isHnd.ob (by assumption) | exact isUnt.ob (by assumption) | exact isSt.ob (by assumption) | exact isHist.ob (by assumption) | exact isTxt.ob (by assumption) | exact isLac.ob (by assumption) | exact isMea.ob (by assumption) | exact hset_s | exact (hset_n (by first | assumption | omega)).trans (by first | assumption | exact isLT.ob (by assumption) | exact isRow.ob (by assumption) | exact isHnd.ob (by assumption) | exact isUnt.ob (by assumption) | exact isSt.ob (by assumption) | exact isHist.ob (by assumption) | exact isTxt.ob (by assumption) | exact isLac.ob (by assumption) | exact isMea.ob (by assumption) | exact hset_s | exact (hset_n (by first | assumption | omega)).trans (by first | assumption | exact isLT.ob (by assumption) | exact isRow.ob (by assumption) | exact isHnd.ob (by assumption) | exact isUnt.ob (by assumption) | exact isSt.ob (by assumption) | exact isHist.ob (by assumption) | exact isTxt.ob (by assumption) | exact isLac.ob (by assumption) | exact isMea.ob (by assumption))))) (Nat.le_of_ble_eq_true rfl) (by rfl) (by rfl) ?_
  refine J_aload_n dX8_init_32 (by rfl) ?_
  refine J_new (kc' := 1) (kn' := 4) fn_X8_23 dX8_init_33 (by omega) (by omega) (by first | rfl | (simp only [List.length_cons, List.length_nil]; omega)) ?_
  refine J_dup dX8_init_36 rfl ?_
  refine J_callI (kc' := 0) (kn' := 0) mf_X0_init lk_X8_25 mi_X0_init rfl rfl (sp_X0_init (a := a + 1 + 2 + 2) hset_s) dX8_init_37 (by decide) (by rfl) rfl (Nat.le_of_ble_eq_true rfl) (by omega) (by omega) (fun v37 h37 n37 q37 => ?_)
  obtain ⟨rfl, a37, b37, rfl⟩ := q37
  have o37 := (b37 a (by omega)).trans ((hset_n (by omega)).trans hset_s)
  refine J_putF fp_X8_26 rfl dX8_init_40 (by first | assumption | exact isLT.ob (by assumption) | exact isRow.ob (by assumption) | exact isHnd.ob (by assumption) | exact isUnt.ob (by assumption) | exact isSt.ob (by assumption) | exact isHist.ob (by assumption) | exact isTxt.ob (by assumption) | exact isLac.ob (by assumption) | exact isMea.ob (by assumption) | exact hset_s | exact (hset_n (by first | assumption | omega)).trans (by first | assumption | exact isLT.ob (by assumption) | exact isRow.ob (by assumption) | exact isHnd.ob (by assumption) | exact isUnt.ob (by assumption) | exact isSt.ob (by assumption) | exact isHist.ob (by assumption) | exact isTxt.ob (by assumption) | exact isLac.ob (by assumption) | exact isMea.ob (by assumption) | exact hset_s | exact (hset_n (by first | assumption | omega)).trans (by first | assumption | exact isLT.ob (by assumption) | exact isRow.ob (by assumption) | exact isHnd.ob (by assumption) | exact isUnt.ob (by assumption) | exact isSt.ob (by assumption) | exact isHist.ob (by assumption) | exact isTxt.ob (by assumption) | exact isLac.ob (by assumption) | exact isMea.ob (by assumption) | exact hset_s | exact (hset_n (by first | assumption | omega)).trans (by first | assumption | exact isLT.ob (by assumption) | exact isRow.ob (by assumption) | exact isHnd.ob (by assumption) | exact isUnt.ob (by assumption) | exact isSt.ob (by assumption) | exact isHist.ob (by assumption) | exact isTxt.ob (by assumption) | exact isLac.ob (by assumption) | exact isMea.ob (by assumption))))) (Nat.le_of_ble_eq_true rfl) (by rfl) (by rfl) ?_
  refine J_aload_n dX8_init_43 (by rfl) ?_
  refine J_iconst (v := 0) dX8_init_44 (by decide) ?_
  refine J_put fp_X8_30 dX8_init_45 (by first | assumption | exact isLT.ob (by assumption) | exact isRow.ob (by assumption) | exact isHnd.ob (by assumption) | exact isUnt.ob (by assumption) | exact isSt.ob (by assumption) | exact isHist.ob (by assumption) | exact isTxt.ob (by assumption) | exact isLac.ob (by assumption) | exact isMea.ob (by assumption) | exact hset_s | exact (hset_n (by first | assumption | omega)).trans (by first | assumption | exact isLT.ob (by assumption) | exact isRow.ob (by assumption) | exact isHnd.ob (by assumption) | exact isUnt.ob (by assumption) | exact isSt.ob (by assumption) | exact isHist.ob (by assumption) | exact isTxt.ob (by assumption) | exact isLac.ob (by assumption) | exact isMea.ob (by assumption) | exact hset_s | exact (hset_n (by first | assumption | omega)).trans (by first | assumption | exact isLT.ob (by assumption) | exact isRow.ob (by assumption) | exact isHnd.ob (by assumption) | exact isUnt.ob (by assumption) | exact isSt.ob (by assumption) | exact isHist.ob (by assumption) | exact isTxt.ob (by assumption) | exact isLac.ob (by assumption) | exact isMea.ob (by assumption) | exact hset_s | exact (hset_n (by first | assumption | omega)).trans (by first | assumption | exact isLT.ob (by assumption) | exact isRow.ob (by assumption) | exact isHnd.ob (by assumption) | exact isUnt.ob (by assumption) | exact isSt.ob (by assumption) | exact isHist.ob (by assumption) | exact isTxt.ob (by assumption) | exact isLac.ob (by assumption) | exact isMea.ob (by assumption))))) (Nat.le_of_ble_eq_true rfl) (by rfl) (by rfl) ?_
  refine J_aload_n dX8_init_48 (by rfl) ?_
  refine J_iconst (v := 0) dX8_init_49 (by decide) ?_
  refine J_put fp_X8_34 dX8_init_50 (by first | assumption | exact isLT.ob (by assumption) | exact isRow.ob (by assumption) | exact isHnd.ob (by assumption) | exact isUnt.ob (by assumption) | exact isSt.ob (by assumption) | exact isHist.ob (by assumption) | exact isTxt.ob (by assumption) | exact isLac.ob (by assumption) | exact isMea.ob (by assumption) | exact hset_s | exact (hset_n (by first | assumption | omega)).trans (by first | assumption | exact isLT.ob (by assumption) | exact isRow.ob (by assumption) | exact isHnd.ob (by assumption) | exact isUnt.ob (by assumption) | exact isSt.ob (by assumption) | exact isHist.ob (by assumption) | exact isTxt.ob (by assumption) | exact isLac.ob (by assumption) | exact isMea.ob (by assumption) | exact hset_s | exact (hset_n (by first | assumption | omega)).trans (by first | assumption | exact isLT.ob (by assumption) | exact isRow.ob (by assumption) | exact isHnd.ob (by assumption) | exact isUnt.ob (by assumption) | exact isSt.ob (by assumption) | exact isHist.ob (by assumption) | exact isTxt.ob (by assumption) | exact isLac.ob (by assumption) | exact isMea.ob (by assumption) | exact hset_s | exact (hset_n (by first | assumption | omega)).trans (by first | assumption | exact isLT.ob (by assumption) | exact isRow.ob (by assumption) | exact isHnd.ob (by assumption) | exact isUnt.ob (by assumption) | exact isSt.ob (by assumption) | exact isHist.ob (by assumption) | exact isTxt.ob (by assumption) | exact isLac.ob (by assumption) | exact isMea.ob (by assumption))))) (Nat.le_of_ble_eq_true rfl) (by rfl) (by rfl) ?_
  refine J_aload_n dX8_init_53 (by rfl) ?_
  refine J_iconst (v := 0) dX8_init_54 (by decide) ?_
  refine J_put fp_X8_37 dX8_init_55 (by first | assumption | exact isLT.ob (by assumption) | exact isRow.ob (by assumption) | exact isHnd.ob (by assumption) | exact isUnt.ob (by assumption) | exact isSt.ob (by assumption) | exact isHist.ob (by assumption) | exact isTxt.ob (by assumption) | exact isLac.ob (by assumption) | exact isMea.ob (by assumption) | exact hset_s | exact (hset_n (by first | assumption | omega)).trans (by first | assumption | exact isLT.ob (by assumption) | exact isRow.ob (by assumption) | exact isHnd.ob (by assumption) | exact isUnt.ob (by assumption) | exact isSt.ob (by assumption) | exact isHist.ob (by assumption) | exact isTxt.ob (by assumption) | exact isLac.ob (by assumption) | exact isMea.ob (by assumption) | exact hset_s | exact (hset_n (by first | assumption | omega)).trans (by first | assumption | exact isLT.ob (by assumption) | exact isRow.ob (by assumption) | exact isHnd.ob (by assumption) | exact isUnt.ob (by assumption) | exact isSt.ob (by assumption) | exact isHist.ob (by assumption) | exact isTxt.ob (by assumption) | exact isLac.ob (by assumption) | exact isMea.ob (by assumption) | exact hset_s | exact (hset_n (by first | assumption | omega)).trans (by first | assumption | exact isLT.ob (by assumption) | exact isRow.ob (by assumption) | exact isHnd.ob (by assumption) | exact isUnt.ob (by assumption) | exact isSt.ob (by assumption) | exact isHist.ob (by assumption) | exact isTxt.ob (by assumption) | exact isLac.ob (by assumption) | exact isMea.ob (by assumption))))) (Nat.le_of_ble_eq_true rfl) (by rfl) (by rfl) ?_
  exact J_return dX8_init_58 rfl (by
    obtain ⟨u1, f9, u2⟩ := a37
    refine ⟨rfl, ⟨a + 1, a + 1 + 2, [], 0, 0, 0, -1, -1, hset_s, Or.inl ⟨rfl, rfl⟩, a12.keep ?_ ?_, ⟨[], a26.keep ?_ ?_⟩, Eq.trans ?_ u1, f9, Eq.trans ?_ u2⟩, fun q hq => ?_, rfl⟩
    case refine_1 => repeat (first | rw [hset_n (by omega)] | rw [b37 _ (by omega)] | rw [b26 _ (by omega)])
    case refine_2 => repeat (first | rw [hset_n (by omega)] | rw [b37 _ (by omega)] | rw [b26 _ (by omega)])
    case refine_3 => repeat (first | rw [hset_n (by omega)] | rw [b37 _ (by omega)])
    case refine_4 => repeat (first | rw [hset_n (by omega)] | rw [b37 _ (by omega)])
    case refine_5 => repeat (first | rw [hset_n (by omega)])
    case refine_6 => repeat (first | rw [hset_n (by omega)])
    case refine_7 => repeat (first | rw [hset_n (by omega)] | rw [b37 _ (by omega)] | rw [b26 _ (by omega)] | rw [b12 _ (by omega)]))
