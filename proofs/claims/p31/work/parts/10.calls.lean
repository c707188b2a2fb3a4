/-! methods: what each says ('Sp'), entry, ends, calls, making -/
def AA (h : HP) (sz : Nat) : Nat → Prop := fun q => h q ≠ none ∨ sz ≤ q
def PcS (G : GG) (args : List Value) (h : HP) (n sz : Nat) : Array Value → State → Prop := va_Pc args (fun U => U.heap.size = sz ∧ (n = 0 ∨ n = sz) ∧ WL G.1 h (AA h sz) U.heap ∧ va_K G.1 vwCl (tysOf G.2.1) U)
def QcS (G : GG) (h : HP) (sz : Nat) (Q : Option Value → HP → Nat → Prop) : Array Value → State → Outcome → State → Prop := fun _ st oc t => (∃ (v : Option Value) (h' : HP) (n' : Nat), oc = .returned v ∧ Q v h' n' ∧ (n' = 0 ∨ n' = t.heap.size) ∧ WL G.1 h' (AA h sz) t.heap) ∧ va_F (AA h sz) st t
def wsM (M : MI) : List Cond := Cond.code M.1 M.2.1 M.2.2.1 M.2.2.2 :: WS
def rmM (d kc kn : Nat) : Room := { frames := d, cells := kc, slots := kn, locals := 60 * d }
/-- the method M, called with args over the heap h (of the machine's n cells; 0: not known), returns, with Q of its answer, the heap, its size; d frames deep; kc cells and kn slots are new at most -/
def Sp (G : GG) (M : MI) (d kc kn : Nat) (args : List Value) (h : HP) (n : Nat) (Q : Option Value → HP → Nat → Prop) : Prop :=
  ∀ (l : Launch) (sz : Nat), Met l M.1 (wsM M) (rmM d kc kn) (PcS G args h n sz) (QcS G h sz Q) kc kn (AA h sz)
def RT (M : MI) (Q : Option Value → HP → Nat → Prop) : Nat → List Value → HP → Nat → Prop := fun pc st h n => ∃ v : Option Value, Q v h n ∧
  ((decode M.2.1 pc = .ok (.ireturn, 1) ∧ ∃ (x : Int32) (ty : FieldType), st = [.int x] ∧ M.2.2.2 = some ty ∧ narrow ty (.int x) = .int x ∧ v = some (.int x)) ∨
   (decode M.2.1 pc = .ok (.lreturn, 1) ∧ ∃ x : Int64, st = [.long x] ∧ M.2.2.2 = some .long ∧ v = some (.long x)) ∨
   (decode M.2.1 pc = .ok (.dreturn, 1) ∧ ∃ x : UInt64, st = [.double x] ∧ M.2.2.2 = some .double ∧ v = some (.double x)) ∨
   (decode M.2.1 pc = .ok (.areturn, 1) ∧ ∃ (y : Value) (rt : FieldType), st = [y] ∧ M.2.2.2 = some rt ∧ ((∃ n, rt = .object n) ∨ ∃ t, rt = .array t) ∧ (y = .null ∨ ∃ a, y = .ref a) ∧ v = some y) ∨
   (decode M.2.1 pc = .ok (.return_, 1) ∧ st = [] ∧ M.2.2.2 = none ∧ v = none))
theorem lget_mem {lv : LV} {i : Nat} {v : Value} (h : lget lv i = some v) : (i, v) ∈ lv := by
  induction lv with
  | nil => cases h
  | cons q t ih =>
    unfold lget at h
    split at h
    · rename_i he
      have e := Nat.eq_of_beq_eq_true he
      cases h
      rw [← e]; exact List.mem_cons_self
    · exact List.mem_cons_of_mem _ (ih h)
theorem Sp_of {G : GG} {M : MI} {d kc kn : Nat} {args : List Value} {h : HP} {n : Nat} {Q : Option Value → HP → Nat → Prop} (hpl : plainName M.1.cls = true) (hlen : (lg_sl args).length ≤ M.2.2.1) (j : J (G.1, G.2.1, fun _ => none) M d 0 (lv_args 0 args) [] h n kc kn (RT M Q)) : Sp G M d kc kn args h n Q := by
  intro l sz
  refine Met.ofW (cc := M.2.1) (maxL := M.2.2.1) (ret := M.2.2.2) hpl rfl ?_
  intro p e s m args' below meth c s₁ B hml hv
  obtain ⟨rfl, hsz, hn, hW, hK⟩ := hv
  subst hsz
  have hts := atoms_spec (ws := wsM M) B.pre
  have hl := lv_entry args (n := M.2.2.1) hlen
  rw [lg_entry_eq]
  generalize (lg_sl args ++ List.replicate (M.2.2.1 - (lg_sl args).length) Slot.unset).toArray = ls at hl ⊢
  have C : CX (G.1, G.2.1, fun _ => none) M d kc kn p l e (headSpec (wsM M) (rmM d kc kn)).room s m args.toArray meth c (AA h s.heap.size) :=
    ⟨⟨B.exec, B.bytes, hml, B.returns, B.notSynchronized, (name_of_methodNamed B.named B.method).1, findClass_of_methodNamed B.named⟩, fun w hw => hts w (List.mem_cons_of_mem _ hw), hK, fun q hq => Or.inr hq, ⟨Nat.le_refl _, Nat.le_refl _, Nat.le_refl _, Nat.le_refl _⟩, fun a L xs ha => by cases ha⟩
  refine j C ?_ ⟨hW, va_S.rf, hn, ⟨hl.1, hl.2.1, fun i v hv => hl.2.2 _ (lget_mem hv)⟩, by omega, by omega⟩
  intro pc' st' h' n' kc' kn' lv' H' locs' cells' slots' ls' q r
  obtain ⟨v, hq, hh⟩ := q
  obtain ⟨hW', hS', hn', hL', hc', hs'⟩ := r
  refine W.widen (k := kc) (n := kn) (by omega) (by omega) ?_
  have hQ : ∀ t : State, t.heap = H' → s.WarmedH t.vm → QcS G h s.heap.size Q args.toArray s (.returned v) t := fun t ht hw => ⟨⟨v, h', n', rfl, hq, by rw [ht]; exact hn', by rw [ht]; exact hW'⟩, hS'.F ht⟩
  have hlocks := B.notSynchronized
  rcases hh with ⟨hd, x, ty, rfl, hr, hnn, rfl⟩ | ⟨hd, x, rfl, hr, rfl⟩ | ⟨hd, x, rfl, hr, rfl⟩ | ⟨hd, y, rt, rfl, hr, h1, h2, rfl⟩ | ⟨hd, rfl, hr, rfl⟩
  · exact W.zret B.exec B.bytes (B.returns.trans hr) hnn hQ hS'.2.2 hd
  · exact W.lret B.exec B.bytes (B.returns.trans hr) hQ hS'.2.2 hd
  · exact W.dret B.exec B.bytes (B.returns.trans hr) hQ hS'.2.2 hd
  · exact W.aret B.exec B.bytes (B.returns.trans hr) h1 h2 hQ hS'.2.2 hd
  · exact W.vret B.exec B.bytes (B.returns.trans hr) hQ hS'.2.2 hd
theorem Sp_mono {G : GG} {M : MI} {d kc kn : Nat} {args : List Value} {h : HP} {n : Nat} {Q Q2 : Option Value → HP → Nat → Prop} (s : Sp G M d kc kn args h n Q2) (hq : ∀ v h n, Q2 v h n → Q v h n) : Sp G M d kc kn args h n Q := by
  intro l sz p e ha hc hk s1 m a below hf hfit hP hK
  obtain ⟨k, o, h1, h2, h3, ⟨⟨⟨v, h', n', hv, hQ, hr⟩, hF⟩, hE⟩⟩ := s l sz p e ha hc hk s1 m a below hf hfit hP hK
  exact ⟨k, o, h1, h2, h3, ⟨⟨⟨v, h', n', hv, hq _ _ _ hQ, hr⟩, hF⟩, hE⟩⟩
section CR
variable {G : GG} {M M2 : MI} {d pc : Nat} {lv : LV} {st : List Value} {h : HP} {n kc kn : Nat}
theorem J_ireturn {Q : Option Value → HP → Nat → Prop} {x : Int32} {ty : FieldType} (hd : decode M.2.1 pc = .ok (.ireturn, 1)) (hr : M.2.2.2 = some ty) (hn : narrow ty (.int x) = .int x) (q : Q (some (.int x)) h n) : J G M d pc lv [.int x] h n kc kn (RT M Q) := J_done ⟨_, q, Or.inl ⟨hd, x, ty, rfl, hr, hn, rfl⟩⟩
theorem J_lreturn {Q : Option Value → HP → Nat → Prop} {x : Int64} (hd : decode M.2.1 pc = .ok (.lreturn, 1)) (hr : M.2.2.2 = some .long) (q : Q (some (.long x)) h n) : J G M d pc lv [.long x] h n kc kn (RT M Q) := J_done ⟨_, q, Or.inr (Or.inl ⟨hd, x, rfl, hr, rfl⟩)⟩
theorem J_dreturn {Q : Option Value → HP → Nat → Prop} {x : UInt64} (hd : decode M.2.1 pc = .ok (.dreturn, 1)) (hr : M.2.2.2 = some .double) (q : Q (some (.double x)) h n) : J G M d pc lv [.double x] h n kc kn (RT M Q) := J_done ⟨_, q, Or.inr (Or.inr (Or.inl ⟨hd, x, rfl, hr, rfl⟩))⟩
theorem J_areturn {Q : Option Value → HP → Nat → Prop} {y : Value} {C : String} (hd : decode M.2.1 pc = .ok (.areturn, 1)) (hr : M.2.2.2 = some (.object C)) (hy : y = .null ∨ ∃ a, y = .ref a) (q : Q (some y) h n) : J G M d pc lv [y] h n kc kn (RT M Q) := J_done ⟨_, q, Or.inr (Or.inr (Or.inr (Or.inl ⟨hd, y, _, rfl, hr, Or.inl ⟨_, rfl⟩, hy, rfl⟩)))⟩
theorem J_return {Q : Option Value → HP → Nat → Prop} (hd : decode M.2.1 pc = .ok (.return_, 1)) (hr : M.2.2.2 = none) (q : Q none h n) : J G M d pc lv [] h n kc kn (RT M Q) := J_done ⟨_, q, Or.inr (Or.inr (Or.inr (Or.inr ⟨hd, rfl, hr, rfl⟩)))⟩
/-- a method's facts in the tables: its code, its class ready, how many parameters -/
def MF (M : MI) (np : Nat) : Prop := Cond.code M.1 M.2.1 M.2.2.1 M.2.2.2 ∈ WS ∧ Cond.initialized M.1.cls ∈ WS ∧ (M.1.cls ≠ "java/lang/invoke/MethodHandle" ∧ M.1.cls ≠ "java/lang/invoke/VarHandle") ∧ (parseMethodDescriptor M.1.desc).map (fun d => d.parameters.length) = some np ∧ M.2.2.1 ≤ 40
def LK (own : String) (idx : Nat) (M : MI) : Prop := Cond.methodLink own idx M.1 ∈ WS ∨ ∃ host, Cond.methodLinkNest own idx M.1 host ∈ WS
theorem WS_at {s : State} {args : Array Value} (hts : ∀ w ∈ WS, w.before args s = true) {w : Cond} (hw : w ∈ WS) (a' : Array Value) (U : State) (hW : s.WarmedH U.vm) : w.before a' U = true := kw_at (List.mem_filter.mp hw).2 hW (hts w hw)
theorem MF.cb {M M2 : MI} {np d2 kc2 kn2 idx : Nat} {R : Room} {s : State} {args : Array Value} (f : MF M2 np) (hlk : Cond.methodLink M.1.cls idx M2.1 ∈ WS) (hts : ∀ w ∈ WS, w.before args s = true) (hR : d2 + 1 ≤ R.frames) (hR2 : 60 * (d2 + 1) ≤ R.locals) :
    CallB R s args M.1.cls idx M2.1 M2.2.1 M2.2.2.1 M2.2.2.2 (wsM M2) (rmM d2 kc2 kn2) kc2 kn2 np := by
  obtain ⟨h1, h2, h3, h4, h5⟩ := f
  refine ⟨rfl, rfl, hR, by show 8 + (M2.2.2.1 + 11) + 60 * d2 ≤ R.locals; omega, fun w hw a' U hW => ?_, List.mem_cons_self, hts _ h1, hts _ h2, h3, fun sig hs => ?_, hts _ hlk⟩
  · rcases List.mem_cons.mp hw with rfl | hw
    · exact WS_at hts h1 a' U hW
    · exact WS_at hts hw a' U hW
  · rw [hs] at h4
    exact (Option.some.inj h4).symm
theorem MF.cn {M M2 : MI} {np d2 kc2 kn2 idx : Nat} {host : String} {R : Room} {s : State} {args : Array Value} (f : MF M2 np) (hlk : Cond.methodLinkNest M.1.cls idx M2.1 host ∈ WS) (hts : ∀ w ∈ WS, w.before args s = true) (hR : d2 + 1 ≤ R.frames) (hR2 : 60 * (d2 + 1) ≤ R.locals) :
    va_CN R s args M.1.cls idx M2.1 host M2.2.1 M2.2.2.1 M2.2.2.2 (wsM M2) (rmM d2 kc2 kn2) kc2 kn2 np := by
  obtain ⟨h1, h2, h3, h4, h5⟩ := f
  refine ⟨⟨rfl, rfl, hR, by show 8 + (M2.2.2.1 + 11) + 60 * d2 ≤ R.locals; omega, fun w hw a' U hW => ?_, List.mem_cons_self⟩, hts _ h1, hts _ h2, h3, fun sig hs => ?_, hts _ hlk⟩
  · rcases List.mem_cons.mp hw with rfl | hw
    · exact WS_at hts h1 a' U hW
    · exact WS_at hts hw a' U hW
  · rw [hs] at h4
    exact (Option.some.inj h4).symm
theorem PcS_blind {args : List Value} {sz : Nat} : FrameBlind (PcS G args h n sz) := by
  intro a U g mk q
  obtain ⟨q0, q1, q2, q3, q4⟩ := q
  exact ⟨q0, q1, q2, q3, va_K.moved (u := U) (U := U.calling g mk a) (Vm.Alike.refl U.vm) q4⟩
theorem PcS_at {args : List Value} {s U : State} {H : Heap} {A : Nat → Prop} (hU : U.heap = H) (hW : s.WarmedH U.vm) (hw : WL G.1 h A H) (hn : n = 0 ∨ n = H.size) (hK : va_K G.1 vwCl (tysOf G.2.1) s) : PcS G args h n H.size args.toArray U := by
  subst hU
  exact ⟨rfl, rfl, hn, hw.weaken (fun a ha => Or.inl ha), va_K.moved hW.alike hK⟩
variable {Q : Nat → List Value → HP → Nat → Prop}
theorem J_run {kc2 kn2 kc' kn' : Nat} {rest st0 : List Value} {Q2 : Option Value → HP → Nat → Prop} {a2 : Array Value} {p : Program} {l : Launch} {e : Env} {R : Room} {s : State} {m : MethodId} {args : Array Value} {below : List Frame} {meth : Method} {c : Code} {A : Nat → Prop} {mc ms : Nat} {Z : State → Prop} {H : Heap} {locs : List Loc} {cells slots : Nat} {ls : Array Slot}
    (C : CX G M d mc ms p l e R s m args meth c A)
    (E : ∀ (pc' : Nat) (st' : List Value) (h' : HP) (n' kc' kn' : Nat) (lv' : LV) (H' : Heap) (locs' : List Loc) (cells' slots' : Nat) (ls' : Array Slot), Q pc' st' h' n' → RWl G.1 A M.2.2.1 mc ms s H' locs' cells' slots' ls' lv' h' n' kc' kn' → W p l e R s m args below meth c H' locs' cells' slots' Z (F0 m pc' ls' st'))
    (r : RWl G.1 A M.2.2.1 mc ms s H locs cells slots ls lv h n kc kn)
    (hr : va_Run p l e R s m args below meth c H locs cells slots kc2 kn2 (F0 m pc ls st0) rest (QcS G h H.size Q2 a2) (AA h H.size))
    (hkc : kc2 + kc' = kc) (hkn : kn2 + kn' = kn) (kk : ∀ v h' n', Q2 v h' n' → J G M d (pc + 3) lv (v.toList ++ rest) h' n' kc' kn' Q) :
    W p l e R s m args below meth c H locs cells slots Z (F0 m pc ls st0) := by
  intro T hT X
  obtain ⟨v, st₀, t, T', L, h0, X', hL, e1, e2, ⟨⟨v', h', n', hv, hq, hn', hw'⟩, hF⟩, st⟩ := hr T hT X
  cases hv
  obtain ⟨r1, r2, r3, r4, r5, r6⟩ := r
  have hAA : ∀ q, AA h H.size q → A q := fun q hq => hq.elim (fun x => r1.A x) (fun x => C.2.2.2.1 q (Nat.le_trans r2.1 x))
  obtain ⟨k1, k2, k3⟩ := vx_keep h0 e1 r2 (A1 := AA h H.size) (fun q _ hq => hAA q hq) hAA hL hF
  obtain ⟨t2, a1, b1⟩ := kk v h' n' hq C E (H := T'.heap) (locs := locs ++ L) (cells := cells + kc2) (slots := slots + kn2) (ls := ls) ⟨by rw [e1]; exact hw'.weaken (fun a ha => hAA a (hw'.A ha)), k3, by rw [e1]; exact hn', r4, by omega, by omega⟩ T' rfl X'
  exact ⟨t2, st t2 a1, b1⟩
theorem J_callV {d2 kc2 kn2 kc' kn' np idx b ci : Nat} {As rest : List Value} {fs : List Value} {q : vw_C} {Q2 : Option Value → HP → Nat → Prop} (f : MF M2 np) (lk : LK M.1.cls idx M2) (hin : Cond.instanceMethod M2.1 ∈ WS) (hse : Cond.selects M2.1.cls M2.1 M2.1 ∈ WS)
    (sp : Sp G M2 d2 kc2 kn2 (.ref b :: As) h n Q2) (hd : decode M.2.1 pc = .ok (.invokevirtual idx, 3)) (hb : h b = some (.inr (ci, fs))) (hq : vwCl[ci]? = some q) (hqc : q.1 = M2.1.cls) (hdd : d2 + 1 ≤ d) (hst : st = As.reverse ++ .ref b :: rest) (hnp : As.length = np) (hrest : (rest.map fun v => v.category).sum ≤ 8) (hkc : kc2 + kc' = kc) (hkn : kn2 + kn' = kn)
    (kk : ∀ v h' n', Q2 v h' n' → J G M d (pc + 3) lv (v.toList ++ rest) h' n' kc' kn' Q) : J G M d pc lv st h n kc kn Q := by
  intro p l e R s m args below meth c A mc ms Z C E H locs cells slots ls r
  subst hst
  have hcell : ∃ cellB : Cell, H[b]? = some cellB ∧ cellB.vm.isStatics = false ∧ s.vm.findClass M2.1.cls = some cellB.cls := by
    obtain ⟨⟨L, hL, hP, hD⟩, -⟩ := id r
    obtain ⟨q0, hq0⟩ := pl_get (f := hF h) ((hL b).mpr (by rw [hb]; simp))
    rw [hF_of hb] at hq0
    have := va_recv C.2.2.1 hP hq hq0
    rwa [hqc] at this
  have hpre : PreV s H M2.1.cls b (PcS G (.ref b :: As) h n H.size) As := ⟨PcS_blind, hcell, fun U hU hW => PcS_at hU hW r.1 r.2.2.1 C.2.2.1⟩
  have hR := C.2.2.2.2.1
  have fix : CallFix p m c M.2.1 M.2.2.1 s args WS M.1.cls := ⟨C.1.1, C.1.2.1, C.1.2.2.1, C.1.2.2.2.2.2.2, C.2.1⟩
  rcases lk with lk | ⟨host, lk⟩
  · exact J_run C E r (va_runV fix (sp l H.size) ⟨f.cb lk C.2.1 (by omega) (by omega), C.2.1 _ hin, C.2.1 _ hse⟩ hpre rfl hnp r.2.2.2.1.1 rfl (lv_room hrest) hd (by have := r.2.2.2.2; omega)) hkc hkn kk
  · exact J_run C E r (va_runVN fix (sp l H.size) ⟨f.cn lk C.2.1 (by omega) (by omega), C.2.1 _ hin, C.2.1 _ hse⟩ hpre rfl hnp r.2.2.2.1.1 rfl (lv_room hrest) hd (by have := r.2.2.2.2; omega)) hkc hkn kk
theorem J_callS {d2 kc2 kn2 kc' kn' np idx : Nat} {As rest : List Value} {Q2 : Option Value → HP → Nat → Prop} (f : MF M2 np) (lk : LK M.1.cls idx M2) (hstat : Cond.static M2.1 ∈ WS)
    (sp : Sp G M2 d2 kc2 kn2 As h n Q2) (hd : decode M.2.1 pc = .ok (.invokestatic idx, 3)) (hdd : d2 + 1 ≤ d) (hst : st = As.reverse ++ rest) (hnp : As.length = np) (hrest : (rest.map fun v => v.category).sum ≤ 8) (hkc : kc2 + kc' = kc) (hkn : kn2 + kn' = kn)
    (kk : ∀ v h' n', Q2 v h' n' → J G M d (pc + 3) lv (v.toList ++ rest) h' n' kc' kn' Q) : J G M d pc lv st h n kc kn Q := by
  intro p l e R s m args below meth c A mc ms Z C E H locs cells slots ls r
  subst hst
  have hpre : PreS s H (PcS G As h n H.size) As := ⟨PcS_blind, fun U hU hW => PcS_at hU hW r.1 r.2.2.1 C.2.2.1⟩
  have hR := C.2.2.2.2.1
  have fix : CallFix p m c M.2.1 M.2.2.1 s args WS M.1.cls := ⟨C.1.1, C.1.2.1, C.1.2.2.1, C.1.2.2.2.2.2.2, C.2.1⟩
  rcases lk with lk | ⟨host, lk⟩
  · exact J_run C E r (va_runS fix (sp l H.size) ⟨f.cb lk C.2.1 (by omega) (by omega), C.2.1 _ hstat⟩ hpre rfl hnp r.2.2.2.1.1 rfl (lv_room hrest) hd (by have := r.2.2.2.2; omega)) hkc hkn kk
  · exact J_run C E r (va_runSN fix (sp l H.size) ⟨f.cn lk C.2.1 (by omega) (by omega), C.2.1 _ hstat, trivial⟩ hpre rfl hnp r.2.2.2.1.1 rfl (lv_room hrest) hd (by have := r.2.2.2.2; omega)) hkc hkn kk
theorem J_callI {d2 kc2 kn2 kc' kn' np idx b : Nat} {As rest : List Value} {Q2 : Option Value → HP → Nat → Prop} (f : MF M2 np) (lk : Cond.methodLink M.1.cls idx M2.1 ∈ WS) (hin : Cond.instanceMethod M2.1 ∈ WS) (hnm : M2.1.name = "<init>") (hr0 : M2.2.2.2 = none)
    (sp : Sp G M2 d2 kc2 kn2 (.ref b :: As) h n Q2) (hd : decode M.2.1 pc = .ok (.invokespecial idx, 3)) (hdd : d2 + 1 ≤ d) (hst : st = As.reverse ++ .ref b :: rest) (hnp : As.length = np) (hrest : (rest.map fun v => v.category).sum ≤ 8) (hkc : kc2 + kc' = kc) (hkn : kn2 + kn' = kn)
    (kk : ∀ v h' n', Q2 v h' n' → J G M d (pc + 3) lv (v.toList ++ rest) h' n' kc' kn' Q) : J G M d pc lv st h n kc kn Q := by
  intro p l e R s m args below meth c A mc ms Z C E H locs cells slots ls r
  subst hst
  have hpre : PreS s H (PcS G (.ref b :: As) h n H.size) (.ref b :: As) := ⟨PcS_blind, fun U hU hW => PcS_at hU hW r.1 r.2.2.1 C.2.2.1⟩
  have hR := C.2.2.2.2.1
  have fix : CallFix p m c M.2.1 M.2.2.1 s args WS M.1.cls := ⟨C.1.1, C.1.2.1, C.1.2.2.1, C.1.2.2.2.2.2.2, C.2.1⟩
  have cb := f.cb (M := M) (d2 := d2) (kc2 := kc2) (kn2 := kn2) (R := R) lk C.2.1 (by omega) (by omega)
  rw [hr0] at cb
  exact J_run C E r (va_runI fix (sp l H.size) ⟨cb, hnm, C.2.1 _ hin⟩ hpre rfl hnp r.2.2.2.1.1 rfl (lv_room hrest) hd (by have := r.2.2.2.2; omega)) hkc hkn kk
/-- Object's constructor -/
theorem J_objInit {idx b : Nat} {rest : List Value} (lk : Cond.methodLink M.1.cls idx Lib.objectInit ∈ WS) (hin : Cond.instanceMethod Lib.objectInit ∈ WS) (hc : Cond.code Lib.objectInit ⟨#[0xb1]⟩ 1 none ∈ WS) (hd : decode M.2.1 pc = .ok (.invokespecial idx, 3)) (hdd : 1 ≤ d) (hrest : (rest.map fun v => v.category).sum ≤ 8)
    (k : J G M d (pc + 3) lv rest h n kc kn Q) : J G M d pc lv (.ref b :: rest) h n kc kn Q := by
  intro p l e R s m args below meth c A mc ms Z C E H locs cells slots ls r
  have hR := C.2.2.2.2.1
  exact W.objInit C.1.1 C.1.2.1 C.1.2.2.2.2.2.2 (C.2.1 _ lk) (C.2.1 _ hin) (C.2.1 _ hc) rfl (r.2.2.2.1.1.trans C.1.2.2.1.symm) rfl hd (by omega) (by show 2 * 0 + _ + 12 ≤ _; omega) (k C E r)
/-- new -/
def FN (own : String) (idx ci : Nat) (fs : List Value) : Prop := ∃ (C : String) (T : u_T) (N : Nat) (ty : Nat → FieldType), vwCl[ci]? = some (C, T, N) ∧ (∀ w ∈ u_ws C T N, w ∈ WS) ∧ (∀ k, k < N → parseFieldDescriptor (T k).2.2.1 = some (ty k)) ∧ Cond.classLink own idx C ∈ WS ∧ Cond.instantiable C N ∈ WS ∧ Cond.initialized C ∈ WS ∧ fs.length = N ∧ ∀ j, j < N → defaultValue (ty j) = vp_V fs j
theorem J_new {idx ci kc' kn' : Nat} {fs : List Value} (f : FN M.1.cls idx ci fs) (hd : decode M.2.1 pc = .ok (.new idx, 3)) (hn : n ≠ 0) (hkc : 1 + kc' = kc) (hkn : fs.length + kn' = kn)
    (k : J G M d (pc + 3) lv (.ref n :: st) (hset h n (.inr (ci, fs))) (n + 1) kc' kn' Q) : J G M d pc lv st h n kc kn Q := by
  intro p l e R s m args below meth c A mc ms Z C E H locs cells slots ls r
  obtain ⟨C0, T, N, ty, h1, h2, h3, h4, h5, h6, h7, h8⟩ := f
  obtain ⟨r1, r2, r3, r4, r5, r6⟩ := r
  have hR := C.2.2.2.2.1
  have hs0 := r2.1
  have hz : n = H.size := r3.resolve_left hn
  subst hz
  subst h7
  have hKn := C.2.2.1.1 ci _ h1
  refine W.newcK C.1.1 C.1.2.1 C.1.2.2.2.2.2.2 (C.2.1 _ h4) (C.2.1 _ h5) (C.2.1 _ h6) rfl hd (by omega) (by omega) hKn.2.1 rfl fun H1 kC hkC e1 z1 o1 => ?_
  refine k C E ⟨r1.new (C.2.2.2.1 _ r2.1) ⟨_, h1, (u_born ty C.2.1 h2 hKn hkC e1 h3).to h8⟩ o1, ⟨by omega, fun x g1 g2 => (o1 x (by omega)).trans (r2.2.1 x g1 g2), r2.2.2⟩, Or.inr z1.symm, r4, by omega, by omega⟩
theorem J_newI {N kc' kn' : Nat} {z : Int32} (ha : Cond.arrayClass .int ∈ WS) (hd : decode M.2.1 pc = .ok (.newarray .int, 2)) (hn : n ≠ 0) (hz : ¬ z < 0) (hN : z.toNatClampNeg = N) (hb : N ≤ 100000) (hkc : 1 + kc' = kc) (hkn : N + kn' = kn)
    (k : J G M d (pc + 2) lv (.ref n :: st) (hset h n (.inl (G.2.1 0, N, .inl (fun _ => 0)))) (n + 1) kc' kn' Q) : J G M d pc lv (.int z :: st) h n kc kn Q := by
  intro p l e R s m args below meth c A mc ms Z C E H locs cells slots ls r
  obtain ⟨r1, r2, r3, r4, r5, r6⟩ := r
  have hR := C.2.2.2.2.1
  have hs0 := r2.1
  have hzz : n = H.size := r3.resolve_left hn
  subst hzz
  refine va_newaK C.1.1 C.1.2.1 (atype := .int) (C.2.1 _ ha) rfl hd rfl hz hN (by show N * 4 ≤ _; omega) (by omega) (by omega) rfl fun H1 cA e1 z1 o1 hAr hNm => ?_
  have hc : cA = G.2.1 0 := Option.some.inj (hNm.symm.trans (C.2.2.1.2 0 _ rfl).2)
  subst hc
  exact k C E ⟨r1.new (C.2.2.2.1 _ r2.1) e1 o1, ⟨by omega, fun x g1 g2 => (o1 x (by omega)).trans (r2.2.1 x g1 g2), r2.2.2⟩, Or.inr z1.symm, r4, by omega, by omega⟩
theorem J_newL {N kc' kn' : Nat} {z : Int32} (ha : Cond.arrayClass .long ∈ WS) (hd : decode M.2.1 pc = .ok (.newarray .long, 2)) (hn : n ≠ 0) (hz : ¬ z < 0) (hN : z.toNatClampNeg = N) (hb : N ≤ 100000) (hkc : 1 + kc' = kc) (hkn : N + kn' = kn)
    (k : J G M d (pc + 2) lv (.ref n :: st) (hset h n (.inl (G.2.1 1, N, .inr (.inl (fun _ => 0))))) (n + 1) kc' kn' Q) : J G M d pc lv (.int z :: st) h n kc kn Q := by
  intro p l e R s m args below meth c A mc ms Z C E H locs cells slots ls r
  obtain ⟨r1, r2, r3, r4, r5, r6⟩ := r
  have hR := C.2.2.2.2.1
  have hs0 := r2.1
  have hzz : n = H.size := r3.resolve_left hn
  subst hzz
  refine va_newaK C.1.1 C.1.2.1 (atype := .long) (C.2.1 _ ha) rfl hd rfl hz hN (by show N * 8 ≤ _; omega) (by omega) (by omega) rfl fun H1 cA e1 z1 o1 hAr hNm => ?_
  have hc : cA = G.2.1 1 := Option.some.inj (hNm.symm.trans (C.2.2.1.2 1 _ rfl).2)
  subst hc
  exact k C E ⟨r1.new (C.2.2.2.1 _ r2.1) e1 o1, ⟨by omega, fun x g1 g2 => (o1 x (by omega)).trans (r2.2.1 x g1 g2), r2.2.2⟩, Or.inr z1.symm, r4, by omega, by omega⟩
theorem J_newS {N idx kc' kn' : Nat} {z : Int32} (hl : Cond.classLink M.1.cls idx "LaceTangles$State" ∈ WS) (ho : Cond.arrayOver (.object "LaceTangles$State") ∈ WS) (hd : decode M.2.1 pc = .ok (.anewarray idx, 3)) (hn : n ≠ 0) (hz : ¬ z < 0) (hN : z.toNatClampNeg = N) (hb : N ≤ 100000) (hkc : 1 + kc' = kc) (hkn : N + kn' = kn)
    (k : J G M d (pc + 3) lv (.ref n :: st) (hset h n (.inl (G.2.1 2, N, .inr (.inr (.inr (.inr (fun _ => none))))))) (n + 1) kc' kn' Q) : J G M d pc lv (.int z :: st) h n kc kn Q := by
  intro p l e R s m args below meth c A mc ms Z C E H locs cells slots ls r
  obtain ⟨r1, r2, r3, r4, r5, r6⟩ := r
  have hR := C.2.2.2.2.1
  have hs0 := r2.1
  have hzz : n = H.size := r3.resolve_left hn
  subst hzz
  subst hN
  refine W.anew C.1.1 C.1.2.1 C.1.2.2.2.2.2.2 (C.2.1 _ hl) (C.2.1 _ ho) rfl hd rfl hz (by omega) (by omega) (by omega) fun cA kA comp f1 f2 f3 f4 => ?_
  obtain ⟨kA2, comp2, g1, g2, g3, g4⟩ := (C.2.2.1.2 2 _ rfl).2
  have hc : cA = G.2.1 2 := Option.some.inj (f1.symm.trans g4)
  subst hc
  generalize hH1 : H.push ({ cls := G.2.1 2, slots := Array.replicate z.toNatClampNeg .null, vm := .none } : Cell) = H1
  have z1 : H1.size = H.size + 1 := by rw [← hH1, Array.size_push]
  have e1 : H1[H.size]? = some (arrV (G.2.1 2) z.toNatClampNeg (fun _ => .null)) := by rw [← hH1, Array.getElem?_push_size, ← arrV_new]
  have o1 : ∀ q : Nat, q < H.size → H1[q]? = H[q]? := fun q hq => by rw [← hH1, Array.getElem?_push, if_neg (Nat.ne_of_lt hq)]
  exact k C E ⟨r1.new (C.2.2.2.1 _ r2.1) e1 o1, ⟨by omega, fun x g1 g2 => (o1 x (by omega)).trans (r2.2.1 x g1 g2), r2.2.2⟩, Or.inr z1.symm, r4, by omega, by omega⟩
end CR
