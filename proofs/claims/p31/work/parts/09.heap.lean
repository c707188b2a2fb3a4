/-! rows that read and write the abstract heap -/
/-- the field k of class number ci, linked at idx by the class own -/
def FL (own : String) (idx ci k : Nat) : Prop := ∃ (C : String) (T : u_T) (N : Nat) (ty : Nat → FieldType), vwCl[ci]? = some (C, T, N) ∧ (∀ w ∈ u_ws C T N, w ∈ WS) ∧ (∀ k, k < N → parseFieldDescriptor (T k).2.2.1 = some (ty k)) ∧ (∀ a, a < N → ∀ b, b < N → a ≠ b → (T a).2.1 ≠ (T b).2.1) ∧ k < N ∧
  (Cond.fieldLink own idx (T k).1 (T k).2.1 (T k).2.2.1 ∈ WS ∨ ∃ host, Cond.fieldLinkNest own idx (T k).1 (T k).2.1 (T k).2.2.1 host ∈ WS)
/-- it may be written: its type, not final -/
def FP (own : String) (idx ci k : Nat) (t : FieldType) : Prop := ∃ (C : String) (T : u_T) (N : Nat) (ty : Nat → FieldType), vwCl[ci]? = some (C, T, N) ∧ (∀ w ∈ u_ws C T N, w ∈ WS) ∧ (∀ k, k < N → parseFieldDescriptor (T k).2.2.1 = some (ty k)) ∧ (∀ a, a < N → ∀ b, b < N → a ≠ b → (T a).2.1 ≠ (T b).2.1) ∧ k < N ∧
  Cond.fieldLink own idx (T k).1 (T k).2.1 (T k).2.2.1 ∈ WS ∧ (T k).2.2.2 = false ∧ parseFieldDescriptor (T k).2.2.1 = some t
def FPN (own : String) (idx ci k : Nat) (t : FieldType) : Prop := ∃ (C : String) (T : u_T) (N : Nat) (ty : Nat → FieldType), vwCl[ci]? = some (C, T, N) ∧ (∀ w ∈ u_ws C T N, w ∈ WS) ∧ (∀ k, k < N → parseFieldDescriptor (T k).2.2.1 = some (ty k)) ∧ (∀ a, a < N → ∀ b, b < N → a ≠ b → (T a).2.1 ≠ (T b).2.1) ∧ k < N ∧
  (∃ host, Cond.fieldLinkNest own idx (T k).1 (T k).2.1 (T k).2.2.1 host ∈ WS) ∧ (T k).2.2.2 = false ∧ parseFieldDescriptor (T k).2.2.1 = some t
/-- a final one, by a constructor of its own class -/
def FPF (own : String) (idx ci k : Nat) (t : FieldType) : Prop := ∃ (C : String) (T : u_T) (N : Nat) (ty : Nat → FieldType), vwCl[ci]? = some (C, T, N) ∧ (∀ w ∈ u_ws C T N, w ∈ WS) ∧ (∀ k, k < N → parseFieldDescriptor (T k).2.2.1 = some (ty k)) ∧ (∀ a, a < N → ∀ b, b < N → a ≠ b → (T a).2.1 ≠ (T b).2.1) ∧ k < N ∧
  Cond.fieldLink own idx (T k).1 (T k).2.1 (T k).2.2.1 ∈ WS ∧ (T k).2.2.2 = true ∧ (T k).1 = own ∧ parseFieldDescriptor (T k).2.2.1 = some t
section HR
variable {G : GG} {M : MI} {d pc : Nat} {lv : LV} {st : List Value} {h : HP} {n kc kn : Nat} {Q : Nat → List Value → HP → Nat → Prop}
theorem J_get {a idx ci k : Nat} {fs : List Value} {v : Value} (f : FL M.1.cls idx ci k) (hd : decode M.2.1 pc = .ok (.getfield idx, 3)) (ha : h a = some (.inr (ci, fs))) (hv : fs[k]? = some v) (j : J G M d (pc + 3) lv (v :: st) h n kc kn Q) : J G M d pc lv (.ref a :: st) h n kc kn Q := by
  intro p l e R s m args below meth c A mc ms Z C E H locs cells slots ls r
  obtain ⟨C0, T, N, ty, h1, h2, h3, h4, h5, h6⟩ := f
  obtain ⟨⟨L, hL, hP, hD⟩, hr⟩ := id r
  obtain ⟨q0, hq0⟩ := pl_get (f := hF h) ((hL a).mpr (by rw [ha]; simp))
  rw [hF_of ha] at hq0
  rcases h6 with h6 | ⟨host, h6⟩
  · exact va_get C.1.1 C.1.2.1 C.2.1 h2 C.1.2.2.2.2.2.2 C.2.2.1 hP q0 hq0 h1 k h5 (C.2.1 _ h6) (fun _ x => x) hv hd (j C E r)
  · exact va_getN C.1.1 C.1.2.1 C.2.1 h2 C.1.2.2.2.2.2.2 C.2.2.1 hP q0 hq0 h1 k h5 (C.2.1 _ h6) (fun _ x => x) hv hd (j C E r)
theorem J_put {a idx ci k : Nat} {fs : List Value} {v : Value} {t : FieldType} (f : FP M.1.cls idx ci k t) (hd : decode M.2.1 pc = .ok (.putfield idx, 3)) (ha : h a = some (.inr (ci, fs))) (hk : k < fs.length) (hn : narrow t v = v) (hf : fits t v = true) (j : J G M d (pc + 3) lv st (hset h a (.inr (ci, fs.set k v))) n kc kn Q) : J G M d pc lv (v :: .ref a :: st) h n kc kn Q := by
  intro p l e R s m args below meth c A mc ms Z C E H locs cells slots ls r
  obtain ⟨C0, T, N, ty, h1, hin, hty, hnm, hkN, hlk, hfin, hd2⟩ := f
  obtain ⟨⟨L, hL, hP, hD⟩, hS, hz, hr⟩ := id r
  obtain ⟨q0, hq0⟩ := pl_get (f := hF h) ((hL a).mpr (by rw [ha]; simp))
  have hq0' := hq0
  rw [hF_of ha] at hq0
  have hts := C.2.1
  have hK := C.2.2.1
  have hap := va_apart (own := M.1.cls) hts hin ty hty hnm hK h1
  obtain ⟨r0, g1, cell, g2, g3, g4, g5⟩ := hP q0 _ hq0
  have hr0 : r0 = (C0, T, N) := Option.some.inj (g1.symm.trans h1)
  subst hr0
  obtain ⟨hSl, hfc, kC, hkC, hkind⟩ := hK.1 ci _ h1
  obtain ⟨cf, kf, fi, fd, hi, hsl⟩ := hSl k hkN
  have hlay := hts _ (hin _ (u_in_lay hkN))
  unfold u_lay at hlay
  rw [if_neg (by rw [hfin]; decide)] at hlay
  have hst := (u_facts hfc hkC (u_lays hts hin hkN) hi).1
  have hsd := u_store hfc hkC hkind hlay hi hd2 hn hf
  refine W.putK C.1.1 C.1.2.1 (f := fd) ⟨C.1.2.2.2.2.2.2, hts _ hlk, ⟨_, _, _, hi⟩, hst⟩ (by rw [g3]; exact hsd) g2 g4 (by rw [hsl]; exact k2_hasslot (g5 k hkN)) rfl rfl hd fun H' e1 e2 e3 => ?_
  rw [hsl] at e1 ⊢
  have hP1 := hP.set hD hq0 (e := .inr (ci, fs.set k v)) ⟨_, h1, t_OB.to (V := updV (vp_V fs) k v) ⟨_, e1, g3, g4, t_set g5 hap hkN v⟩ (fun i _ => vp_updV_set hk v i)⟩ e3
  exact j C E ⟨WL.set hL ha hD hq0' hP1 (hD.set hq0), hS.put e2 e3 (hD.2 q0 _ hq0), by rw [e2]; exact hz, hr⟩
theorem J_putF {a idx ci k : Nat} {fs : List Value} {v : Value} {t : FieldType} (f : FPF M.1.cls idx ci k t) (hi0 : M.1.name = "<init>") (hd : decode M.2.1 pc = .ok (.putfield idx, 3)) (ha : h a = some (.inr (ci, fs))) (hk : k < fs.length) (hn : narrow t v = v) (hf : fits t v = true) (j : J G M d (pc + 3) lv st (hset h a (.inr (ci, fs.set k v))) n kc kn Q) : J G M d pc lv (v :: .ref a :: st) h n kc kn Q := by
  intro p l e R s m args below meth c A mc ms Z C E H locs cells slots ls r
  obtain ⟨C0, T, N, ty, h1, hin, hty, hnm, hkN, hlk, hfin, hdecl, hd2⟩ := f
  obtain ⟨⟨L, hL, hP, hD⟩, hS, hz, hr⟩ := id r
  obtain ⟨q0, hq0⟩ := pl_get (f := hF h) ((hL a).mpr (by rw [ha]; simp))
  have hq0' := hq0
  rw [hF_of ha] at hq0
  have hts := C.2.1
  have hK := C.2.2.1
  have hown := C.1.2.2.2.2.2.2
  have hap := va_apart (own := M.1.cls) hts hin ty hty hnm hK h1
  obtain ⟨r0, g1, cell, g2, g3, g4, g5⟩ := hP q0 _ hq0
  have hr0 : r0 = (C0, T, N) := Option.some.inj (g1.symm.trans h1)
  subst hr0
  obtain ⟨hSl, hfc, kC, hkC, hkind⟩ := hK.1 ci _ h1
  obtain ⟨cf, kf, fi, fd, hi, hsl⟩ := hSl k hkN
  have hlay := hts _ (hin _ (u_in_lay hkN))
  unfold u_lay at hlay
  rw [if_pos hfin] at hlay
  have hst := (u_facts hfc hkC (u_lays hts hin hkN) hi).1
  have hcf : m.cls = cf := by
    obtain ⟨_, _, c', _, _, _, -, -, hf', -, -, -, hown2, -⟩ := Cond.laysFinal_spec hlay
    have e1 : c' = cf := by have := hi.symm.trans hf'; simp at this; exact this.1.symm
    rw [hdecl] at hown2
    rw [← e1]; exact Option.some.inj (hown.symm.trans hown2)
  have hsd := u_fits hfc hkC hkind (Or.inr hlay) hi hd2 hn hf
  refine W.putFinK C.1.1 C.1.2.1 hown (hts _ hlk) hi hst hcf (C.1.2.2.2.2.2.1.trans hi0) (by rw [g3]; exact hsd) g2 g4 (by rw [hsl]; exact k2_hasslot (g5 k hkN)) rfl rfl hd fun H' e1 e2 e3 => ?_
  rw [hsl] at e1 ⊢
  have hP1 := hP.set hD hq0 (e := .inr (ci, fs.set k v)) ⟨_, h1, t_OB.to (V := updV (vp_V fs) k v) ⟨_, e1, g3, g4, t_set g5 hap hkN v⟩ (fun i _ => vp_updV_set hk v i)⟩ e3
  exact j C E ⟨WL.set hL ha hD hq0' hP1 (hD.set hq0), hS.put e2 e3 (hD.2 q0 _ hq0), by rw [e2]; exact hz, hr⟩
theorem J_putN {a idx ci k : Nat} {fs : List Value} {v : Value} {t : FieldType} (f : FPN M.1.cls idx ci k t) (hd : decode M.2.1 pc = .ok (.putfield idx, 3)) (ha : h a = some (.inr (ci, fs))) (hk : k < fs.length) (hn : narrow t v = v) (hf : fits t v = true) (j : J G M d (pc + 3) lv st (hset h a (.inr (ci, fs.set k v))) 0 kc kn Q) : J G M d pc lv (v :: .ref a :: st) h n kc kn Q := by
  intro p l e R s m args below meth c A mc ms Z C E H locs cells slots ls r
  obtain ⟨C0, T, N, ty, h1, hin, hty, hnm, hkN, ⟨host, hlk⟩, hfin, hd2⟩ := f
  obtain ⟨⟨L, hL, hP, hD⟩, hS, hz, hr⟩ := id r
  obtain ⟨q0, hq0⟩ := pl_get (f := hF h) ((hL a).mpr (by rw [ha]; simp))
  have hq0' := hq0
  rw [hF_of ha] at hq0
  exact va_putN C.1.1 C.1.2.1 C.2.1 hin ty hty hnm C.1.2.2.2.2.2.2 C.2.2.1 hP hD hS q0 hq0 h1 k hkN (C.2.1 _ hlk) (fun _ x => x) hfin hd2 hn hf hk hd (fun H1 locs1 hP1 hD1 hS1 => j C E ⟨WL.set hL ha hD hq0' hP1 hD1, hS1, Or.inl rfl, hr⟩)
/-- arrays -/
theorem J_iald {a N : Nat} {f : Nat → Int32} {i : Int32} (hd : decode M.2.1 pc = .ok (.iaload, 1)) (ha : h a = some (.inl (G.2.1 0, N, .inl f))) (hi : vp_in i N) (j : J G M d (pc + 1) lv (.int (f i.toNatClampNeg) :: st) h n kc kn Q) : J G M d pc lv (.int i :: .ref a :: st) h n kc kn Q := by
  intro p l e R s m args below meth c A mc ms Z C E H locs cells slots ls r
  obtain ⟨⟨L, hL, hP, hD⟩, hr⟩ := id r
  obtain ⟨q0, hq0⟩ := pl_get (f := hF h) ((hL a).mpr (by rw [ha]; simp))
  rw [hF_of ha] at hq0
  exact va_iald C.1.1 C.1.2.1 C.2.2.1 hP q0 0 hq0 rfl hi hd (j C E r)
theorem J_iast {a N : Nat} {f : Nat → Int32} {i x : Int32} (hd : decode M.2.1 pc = .ok (.iastore, 1)) (ha : h a = some (.inl (G.2.1 0, N, .inl f))) (hi : vp_in i N) (j : J G M d (pc + 1) lv st (hset h a (.inl (G.2.1 0, N, .inl (upd f i.toNatClampNeg x)))) n kc kn Q) : J G M d pc lv (.int x :: .int i :: .ref a :: st) h n kc kn Q := by
  intro p l e R s m args below meth c A mc ms Z C E H locs cells slots ls r
  obtain ⟨⟨L, hL, hP, hD⟩, hS, hz, hr⟩ := id r
  obtain ⟨q0, hq0⟩ := pl_get (f := hF h) ((hL a).mpr (by rw [ha]; simp))
  have hq0' := hq0
  rw [hF_of ha] at hq0
  refine W.iast C.1.1 C.1.2.1 (hP q0 _ hq0) ((C.2.2.1.2 0 _ rfl).1 N (fun j => .int (f j))) (fun q => by cases q) (by show ¬ (i < 0 ∨ (arrV _ _ _).slots.size ≤ _); rw [arrV_size]; exact hi) rfl rfl hd fun H1 e1 e2 e3 => ?_
  have hc : va_at G.1 vwCl (a, .inl (G.2.1 0, N, .inl (upd f i.toNatClampNeg x))) H1 := by
    show H1[a]? = some (vp_cell _ _)
    rw [e1, vp_cell_i, vp_cell_i, arrV_store]
    congr 2
    funext q
    by_cases hq : q = i.toNatClampNeg
    · subst hq; simp [updV, upd]
    · simp [updV, upd, hq]
  exact j C E ⟨WL.set hL ha hD hq0' (hP.set hD hq0 hc e3) (hD.set hq0), hS.put e2 e3 (hD.2 q0 _ hq0), by rw [e2]; exact hz, hr⟩
theorem J_lald {a N : Nat} {f : Nat → Int64} {i : Int32} (hd : decode M.2.1 pc = .ok (.laload, 1)) (ha : h a = some (.inl (G.2.1 1, N, .inr (.inl f)))) (hi : vp_in i N) (j : J G M d (pc + 1) lv (.long (f i.toNatClampNeg) :: st) h n kc kn Q) : J G M d pc lv (.int i :: .ref a :: st) h n kc kn Q := by
  intro p l e R s m args below meth c A mc ms Z C E H locs cells slots ls r
  obtain ⟨⟨L, hL, hP, hD⟩, hr⟩ := id r
  obtain ⟨q0, hq0⟩ := pl_get (f := hF h) ((hL a).mpr (by rw [ha]; simp))
  rw [hF_of ha] at hq0
  exact va_lald C.1.1 C.1.2.1 C.2.2.1 hP q0 1 hq0 rfl hi hd (j C E r)
theorem J_last {a N : Nat} {f : Nat → Int64} {i : Int32} {x : Int64} (hd : decode M.2.1 pc = .ok (.lastore, 1)) (ha : h a = some (.inl (G.2.1 1, N, .inr (.inl f)))) (hi : vp_in i N) (j : J G M d (pc + 1) lv st (hset h a (.inl (G.2.1 1, N, .inr (.inl (vp_updL f i.toNatClampNeg x))))) 0 kc kn Q) : J G M d pc lv (.long x :: .int i :: .ref a :: st) h n kc kn Q := by
  intro p l e R s m args below meth c A mc ms Z C E H locs cells slots ls r
  obtain ⟨⟨L, hL, hP, hD⟩, hS, hz, hr⟩ := id r
  obtain ⟨q0, hq0⟩ := pl_get (f := hF h) ((hL a).mpr (by rw [ha]; simp))
  have hq0' := hq0
  rw [hF_of ha] at hq0
  exact va_last C.1.1 C.1.2.1 C.2.2.1 hP hD hS q0 1 hq0 rfl hi hd (fun H1 locs1 hP1 hD1 hS1 => j C E ⟨WL.set hL ha hD hq0' hP1 hD1, hS1, Or.inl rfl, hr⟩)
/-- an array of references: States (t = 2), rows of ints (t = 3) -/
theorem J_aald {a N t : Nat} {f : Nat → Option Nat} {i : Int32} (ht : t = 2 ∨ t = 3) (hd : decode M.2.1 pc = .ok (.aaload, 1)) (ha : h a = some (.inl (G.2.1 t, N, .inr (.inr (.inr (.inr f)))))) (hi : vp_in i N) (j : J G M d (pc + 1) lv (va_rf (f i.toNatClampNeg) :: st) h n kc kn Q) : J G M d pc lv (.int i :: .ref a :: st) h n kc kn Q := by
  intro p l e R s m args below meth c A mc ms Z C E H locs cells slots ls r
  obtain ⟨⟨L, hL, hP, hD⟩, hr⟩ := id r
  obtain ⟨q0, hq0⟩ := pl_get (f := hF h) ((hL a).mpr (by rw [ha]; simp))
  rw [hF_of ha] at hq0
  have hlt : i.toNatClampNeg < N := Nat.not_le.mp fun q => hi (Or.inr q)
  rcases ht with rfl | rfl
  · exact W.aald (v := va_rf (f i.toNatClampNeg)) (ty := .object "LaceTangles$State") C.1.1 C.1.2.1 (hP q0 _ hq0) ((C.2.2.1.2 2 _ rfl).1 N (fun j => va_rf (f j))) rfl (fun q => by cases q) (by show ¬ (i < 0 ∨ (arrV _ _ _).slots.size ≤ _); rw [arrV_size]; exact hi) (by show (arrV _ _ _).slots[_]? = _; rw [arrV_read _ _ hlt]) rfl rfl hd (j C E r)
  · exact W.aald (v := va_rf (f i.toNatClampNeg)) (ty := .array .int) C.1.1 C.1.2.1 (hP q0 _ hq0) ((C.2.2.1.2 3 _ rfl).1 N (fun j => va_rf (f j))) rfl (fun q => by cases q) (by show ¬ (i < 0 ∨ (arrV _ _ _).slots.size ≤ _); rw [arrV_size]; exact hi) (by show (arrV _ _ _).slots[_]? = _; rw [arrV_read _ _ hlt]) rfl rfl hd (j C E r)
/-- a State into an array of States -/
theorem J_aast {a N b : Nat} {f : Nat → Option Nat} {i : Int32} {vs : List Value} (hd : decode M.2.1 pc = .ok (.aastore, 1)) (ha : h a = some (.inl (G.2.1 2, N, .inr (.inr (.inr (.inr f)))))) (hb : h b = some (.inr (5, vs))) (hi : vp_in i N) (j : J G M d (pc + 1) lv st (hset h a (.inl (G.2.1 2, N, .inr (.inr (.inr (.inr (va_up f i.toNatClampNeg (some b)))))))) n kc kn Q) : J G M d pc lv (.ref b :: .int i :: .ref a :: st) h n kc kn Q := by
  intro p l e R s m args below meth c A mc ms Z C E H locs cells slots ls r
  obtain ⟨⟨L, hL, hP, hD⟩, hS, hz, hr⟩ := id r
  obtain ⟨q0, hq0⟩ := pl_get (f := hF h) ((hL a).mpr (by rw [ha]; simp))
  obtain ⟨q1, hq1⟩ := pl_get (f := hF h) ((hL b).mpr (by rw [hb]; simp))
  have hq0' := hq0
  rw [hF_of ha] at hq0
  rw [hF_of hb] at hq1
  have hK := C.2.2.1
  have hlt : i.toNatClampNeg < N := Nat.not_le.mp fun q => hi (Or.inr q)
  have h0 : ¬ i < 0 := fun q => hi (Or.inl q)
  obtain ⟨r', hr', cellV, g1, g2, g3, -⟩ := hP q1 _ hq1
  have hcls := (hK.1 5 (RX6, TX6, 2) rfl).2
  obtain ⟨kA, comp, k1, k2, k3, -⟩ := (hK.2 2 _ rfl).2
  have hcomp : comp = G.1.1 5 := Option.some.inj (k3.symm.trans hcls.1)
  subst hcomp
  obtain ⟨kC, hkC, -⟩ := hcls.2
  refine W.aast C.1.1 C.1.2.1 (hP q0 _ hq0) (fun q h => by cases h) (fun h => by cases h) k1 k2 rfl hkC ⟨h0, by show _ < (arrV _ _ _).slots.size; rw [arrV_size]; exact hlt⟩ g1 (fun q h => by rw [g3] at h; cases h) (by rw [g2]; exact hkC) (by rw [g2]; exact va_assign hcls) rfl rfl hd fun H1 e1 e2 e3 => ?_
  have hc : va_at G.1 vwCl (a, .inl (G.2.1 2, N, .inr (.inr (.inr (.inr (va_up f i.toNatClampNeg (some b))))))) H1 := by
    show H1[a]? = some (vp_cell _ _)
    rw [e1, vp_cell_q, vp_cell_q, arrV_store]
    congr 2
    funext q
    by_cases hq : q = i.toNatClampNeg
    · subst hq; simp [updV, va_up, va_rf]
    · simp [updV, va_up, hq]
  exact j C E ⟨WL.set hL ha hD hq0' (hP.set hD hq0 hc e3) (hD.set hq0), hS.put e2 e3 (hD.2 q0 _ hq0), by rw [e2]; exact hz, hr⟩
theorem J_alen {a t : Nat} {x : vp_A} (ht : t < 4) (hd : decode M.2.1 pc = .ok (.arraylength, 1)) (ha : h a = some (.inl (G.2.1 t, x))) (j : J G M d (pc + 1) lv (.int (Int32.ofNat x.1) :: st) h n kc kn Q) : J G M d pc lv (.ref a :: st) h n kc kn Q := by
  intro p l e R s m args below meth c A mc ms Z C E H locs cells slots ls r
  obtain ⟨⟨L, hL, hP, hD⟩, hr⟩ := id r
  obtain ⟨q0, hq0⟩ := pl_get (f := hF h) ((hL a).mpr (by rw [ha]; simp))
  rw [hF_of ha] at hq0
  rcases (show t = 0 ∨ t = 1 ∨ t = 2 ∨ t = 3 by omega) with rfl | rfl | rfl | rfl
  · exact va_alen C.1.1 C.1.2.1 C.2.2.1 hP q0 0 hq0 rfl rfl hd (j C E r)
  · exact va_alen C.1.1 C.1.2.1 C.2.2.1 hP q0 1 hq0 rfl rfl hd (j C E r)
  · exact va_alen C.1.1 C.1.2.1 C.2.2.1 hP q0 2 hq0 rfl rfl hd (j C E r)
  · exact va_alen C.1.1 C.1.2.1 C.2.2.1 hP q0 3 hq0 rfl rfl hd (j C E r)
/-- the script -/
theorem J_sld {a L : Nat} {xs : Nat → Int32} {i : Int32} (hd : decode M.2.1 pc = .ok (.iaload, 1)) (ha : G.2.2 a = some (L, xs)) (hi : vp_in i L) (j : J G M d (pc + 1) lv (.int (xs i.toNatClampNeg) :: st) h n kc kn Q) : J G M d pc lv (.int i :: .ref a :: st) h n kc kn Q := by
  intro p l e R s m args below meth c A mc ms Z C E H locs cells slots ls r
  obtain ⟨g1, g2, g3⟩ := C.2.2.2.2.2 a L xs ha
  exact va_sld C.1.1 C.1.2.1 g1 g2 g3 r.2.1 hi hd (j C E r)
theorem J_slen {a L : Nat} {xs : Nat → Int32} (hd : decode M.2.1 pc = .ok (.arraylength, 1)) (ha : G.2.2 a = some (L, xs)) (j : J G M d (pc + 1) lv (.int (Int32.ofNat L) :: st) h n kc kn Q) : J G M d pc lv (.ref a :: st) h n kc kn Q := by
  intro p l e R s m args below meth c A mc ms Z C E H locs cells slots ls r
  obtain ⟨g1, g2, g3⟩ := C.2.2.2.2.2 a L xs ha
  exact va_slen C.1.1 C.1.2.1 g1 g2 g3 r.2.1 hd (j C E r)
end HR
