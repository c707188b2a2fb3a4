/-! calls that throw, caught; the law's wrappers -/
theorem XF_at {G : GG} {A : Nat → Prop} {s U : State} {H : Heap} {h : HP} {locs : List Loc} (x : XF A s) (hU : U.heap = H) (hW : s.WarmedH U.vm) (hS : va_S A s.heap H locs) (hA : ∀ q, AA h H.size q → A q) : XF (AA h H.size) U := by
  obtain ⟨z1, z2, z3⟩ := x
  refine ⟨?_, ?_, fun q hq => ?_⟩
  · rw [hU]; exact ((z1.kept (fun a h1 h2 => hS.2.1 a h1 h2)).moved hW.alike).narrow hA
  · rw [hU]; exact ((z2.kept (fun a h1 h2 => hS.2.1 a h1 h2)).moved hW.alike).narrow hA
  · obtain ⟨sa, hsa⟩ := z3 q hq
    exact ⟨sa, vk_R.warm hW hsa⟩
theorem XF2_at {G : GG} {A : Nat → Prop} {s U : State} {H : Heap} {h : HP} {locs : List Loc} (x : XF2 A s) (hU : U.heap = H) (hW : s.WarmedH U.vm) (hS : va_S A s.heap H locs) (hA : ∀ q, AA h H.size q → A q) : XF2 (AA h H.size) U := ⟨XF_at (G := G) x.1 hU hW hS hA, fun q hq => (x.2 q hq).moved hW.alike⟩
theorem PcX_blind {G : GG} {h : HP} {n : Nat} {args : List Value} {sz : Nat} : FrameBlind (PcX G args h n sz) := by
  intro a U g mk q
  obtain ⟨q0, ⟨q1, q2, q3, q4⟩, z1, z2, z3⟩ := q
  exact ⟨q0, ⟨q1, q2, q3, va_K.moved (u := U) (U := U.calling g mk a) (Vm.Alike.refl U.vm) q4⟩, z1.moved (u := U) (U := U.calling g mk a) (Vm.Alike.refl U.vm), z2.moved (u := U) (U := U.calling g mk a) (Vm.Alike.refl U.vm), fun q hq => by obtain ⟨sa, hsa⟩ := z3 q hq; exact ⟨sa, vk_R.same (u := U) (U := U.calling g mk a) rfl hsa⟩⟩
def PcW (G : GG) (args : List Value) (h : HP) (n sz : Nat) : Array Value → State → Prop := va_Pc args (fun U => (U.heap.size = sz ∧ (n = 0 ∨ n = sz) ∧ WL G.1 h (AA h sz) U.heap ∧ va_K G.1 vwCl (tysOf G.2.1) U) ∧ XF2 (AA h sz) U)
theorem PcW_blind {G : GG} {h : HP} {n : Nat} {args : List Value} {sz : Nat} : FrameBlind (PcW G args h n sz) := by
  intro a U g mk q
  obtain ⟨q0, ⟨q1, q2, q3, q4⟩, ⟨z1, z2, z3⟩, z4⟩ := q
  exact ⟨q0, ⟨q1, q2, q3, va_K.moved (u := U) (U := U.calling g mk a) (Vm.Alike.refl U.vm) q4⟩, ⟨z1.moved (u := U) (U := U.calling g mk a) (Vm.Alike.refl U.vm), z2.moved (u := U) (U := U.calling g mk a) (Vm.Alike.refl U.vm), fun q hq => by obtain ⟨sa, hsa⟩ := z3 q hq; exact ⟨sa, vk_R.same (u := U) (U := U.calling g mk a) rfl hsa⟩⟩, fun q hq => (z4 q hq).moved (u := U) (U := U.calling g mk a) (Vm.Alike.refl U.vm)⟩
/-- how a handler takes what E names: ahead of it none fits -/
def HN (M : MI) (tb : List (Nat × Nat × Nat × Nat)) (pc : Nat) (E : String) (hpc : Nat) : Prop := ∃ (pre : List ExceptionTableEntry) (x : ExceptionTableEntry) (suf : List ExceptionTableEntry), tableOf tb = pre ++ x :: suf ∧ (∀ z ∈ pre, z.catchType ≠ 0 ∧ ∃ nm : String, Cond.classLink M.1.cls z.catchType nm ∈ WS ∧ (E, nm) ∈ NC) ∧ covers x pc = true ∧ x.catchType ≠ 0 ∧ Cond.classLink M.1.cls x.catchType E ∈ WS ∧ Cond.castable E E ∈ WS ∧ x.handlerPc = hpc
theorem K_callX {G : GG} {M M2 : MI} {d pc : Nat} {lv : LV} {st : List Value} {h : HP} {n kc kn : Nat} {Q : LV → Nat → List Value → HP → Nat → Prop} {tb : List (Nat × Nat × Nat × Nat)} {d2 kc' kn' np idx b ci : Nat} {As rest fs : List Value} {q : vw_C} {Q2 : Option Value → HP → Nat → Prop} {QX : String → HP → Prop} (f : MF M2 np) (lk : Cond.methodLink M.1.cls idx M2.1 ∈ WS) (hin : Cond.instanceMethod M2.1 ∈ WS) (hse : Cond.selects M2.1.cls M2.1 M2.1 ∈ WS)
    (sp : SpX G M2 d2 (.ref b :: As) h n Q2 QX) (hd : decode M.2.1 pc = .ok (.invokevirtual idx, 3)) (hb : h b = some (.inr (ci, fs))) (hq : vwCl[ci]? = some q) (hqc : q.1 = M2.1.cls) (hdd : d2 + 1 ≤ d) (hst : st = As.reverse ++ .ref b :: rest) (hnp : As.length = np) (hrest : (rest.map fun v => v.category).sum ≤ 8) (hkc : 1 + kc' = kc) (hkn : 6 + kn' = kn)
    (kx : ∀ E h', QX E h' → ∃ hpc, HN M tb pc E hpc ∧ ∀ q9 : Nat, KJ (some tb) G M d hpc lv [.ref q9] h' 0 kc' kn' Q)
    (kk : ∀ v h' n', Q2 v h' n' → KJ (some tb) G M d (pc + 3) lv (v.toList ++ rest) h' n' kc' kn' Q) : KJ (some tb) G M d pc lv st h n kc kn Q := by
  intro p l e R s m args below meth c A mc ms Z C E H locs cells slots ls r
  subst hst
  have hcell : ∃ cellB : Cell, H[b]? = some cellB ∧ cellB.vm.isStatics = false ∧ s.vm.findClass M2.1.cls = some cellB.cls := by
    obtain ⟨⟨L, hL, hP, hD⟩, -⟩ := id r
    obtain ⟨q0, hq0⟩ := pl_get (f := hF h) ((hL b).mpr (by rw [hb]; simp))
    rw [hF_of hb] at hq0
    have := va_recv C.2.2.1 hP hq hq0
    rwa [hqc] at this
  obtain ⟨r1, r2, r3, r4, r5, r6⟩ := id r
  have hAA : ∀ q, AA h H.size q → A q := fun q hq => hq.elim (fun x => r1.A x) (fun x => C.2.2.2.1 q (Nat.le_trans r2.1 x))
  have hpre : PreV s H M2.1.cls b (PcX G (.ref b :: As) h n H.size) As := ⟨PcX_blind, hcell, fun U hU hW => ⟨rfl, ⟨by rw [hU], r3, by rw [hU]; exact r1.weaken (fun a ha => Or.inl ha), va_K.moved hW.alike C.2.2.1⟩, XF_at (G := G) E.1.1.1 hU hW r2 hAA⟩⟩
  have hR := C.2.2.2.2.1
  have fix : CallFix p m c M.2.1 M.2.2.1 s args WS M.1.cls := ⟨C.1.1, C.1.2.1, C.1.2.2.1, C.1.2.2.2.2.2.2, C.2.1⟩
  have hr : vx_Run p l e R s m args below meth c H locs cells slots 1 6 (F0 m pc ls (As.reverse ++ .ref b :: rest)) rest (QcS G h H.size Q2 (Value.ref b :: As).toArray) (XcS G h H.size QX) (AA h H.size) := vx_runV fix (sp l H.size E.1.2.1) ⟨f.cb (kc2 := 1) (kn2 := 6) lk C.2.1 (by omega) (by omega), C.2.1 _ hin, C.2.1 _ hse⟩ hpre rfl hnp r.2.2.2.1.1 rfl (lv_room hrest) hd (by have := r.2.2.2.2; omega)
  intro T hT X
  rcases hr T hT X with ⟨v, st₀, t, T', L, h0, X', hL, e1, e2, ⟨⟨v', h', n', hv, hq, hn', hw'⟩, hF⟩, st⟩ | ⟨q9, st₀, t, T', L, E9, ce, h0, X', hL, e1, e2, ⟨⟨h', hqx, hw'⟩, hF⟩, hce, hcv, hcl, st⟩
  · cases hv
    obtain ⟨k1, k2, k3⟩ := vx_keep h0 e1 r2 (A1 := AA h H.size) (fun q _ hq => hAA q hq) hAA hL hF
    obtain ⟨t2, a1, b1⟩ := kk v h' n' hq C E (H := T'.heap) (locs := locs ++ L) (cells := cells + 1) (slots := slots + 6) (ls := ls) ⟨by rw [e1]; exact hw'.weaken (fun a ha => hAA a (hw'.A ha)), k3, by rw [e1]; exact hn', r4, by omega, by omega⟩ T' rfl X'
    exact ⟨t2, st t2 a1, b1⟩
  · obtain ⟨k1, k2, k3⟩ := vx_keep h0 e1 r2 (A1 := AA h H.size) (fun q _ hq => hAA q hq) hAA hL hF
    obtain ⟨hpc, ⟨pre, x, suf, y1, y2, y3, y4, y5, y6, y7⟩, kj⟩ := kx E9 h' hqx
    subst y7
    have wk := kj q9 C E (H := T'.heap) (locs := locs ++ L) (cells := cells + 1) (slots := slots + 6) (ls := ls) ⟨by rw [e1]; exact hw'.weaken (fun a ha => hAA a (hw'.A ha)), k3, Or.inl rfl, r4, by omega, by omega⟩
    have wc := vx_catch (own := M.1.cls) (name := E9) (E := E9) (ce := ce) (q := q9) (H := T'.heap) (pc := pc) (rest := rest) C.1.2.2.2.2.2.2 pre x suf ((E.1.2.2 tb rfl).trans y1) (fun z hz => Or.inr ⟨(y2 z hz).1, by obtain ⟨nm, g1, g2⟩ := (y2 z hz).2; exact ⟨nm, C.2.1 _ g1, E.1.1.2 _ g2⟩⟩) y3 y4 (C.2.1 _ y5) (C.2.1 _ y6) (by rw [e1]; exact hce) hcv hcl wk
    obtain ⟨t2, a1, b1⟩ := wc T' rfl X'
    exact ⟨t2, st.trans a1, b1⟩
def wsW (M : MI) (tb : List (Nat × Nat × Nat × Nat)) : List Cond := Cond.codeWith M.1 M.2.1 M.2.2.1 M.2.2.2 tb :: WS
/-- a wrapper's contract -/
def SpW (G : GG) (M : MI) (tb : List (Nat × Nat × Nat × Nat)) (d : Nat) (args : List Value) (h : HP) (n : Nat) (Q : Option Value → HP → Nat → Prop) : Prop :=
  ∀ (l : Launch) (sz : Nat), l.flags = flags0 → vx_Met l M.1 (wsW M tb) (rmM d 1 6) (PcW G args h n sz) (QcS G h sz Q) (fun _ _ _ => False) 1 6 (AA h sz)
theorem SpW_of {G : GG} {M : MI} {tb : List (Nat × Nat × Nat × Nat)} {d : Nat} {args : List Value} {h : HP} {n : Nat} {Q : Option Value → HP → Nat → Prop} (hpl : plainName M.1.cls = true) (hlen : (lg_sl args).length ≤ M.2.2.1) (j : KJ (some tb) (G.1, G.2.1, fun _ => none) M d 0 (lv_args 0 args) [] h n 1 6 (fun _ => RT M Q)) : SpW G M tb d args h n Q := by
  intro l sz hfl
  refine vx_ofWH (cc := M.2.1) (maxL := M.2.2.1) (ret := M.2.2.2) (hh := tb) hpl rfl ?_
  intro p e s m args' below meth c s₁ B hml hv
  obtain ⟨rfl, ⟨hsz, hn, hW, hK⟩, hXF⟩ := hv
  subst hsz
  have hts := atoms_spec (ws := wsW M tb) B.pre
  have htab : c.exceptionTable.toList = tableOf tb := vx_table (x := M.1) B (hts _ List.mem_cons_self)
  have hl := lv_entry args (n := M.2.2.1) hlen
  rw [lg_entry_eq]
  generalize (lg_sl args ++ List.replicate (M.2.2.1 - (lg_sl args).length) Slot.unset).toArray = ls at hl ⊢
  have C : CX (G.1, G.2.1, fun _ => none) M d 1 6 p l e (headSpec (wsW M tb) (rmM d 1 6)).room s m args.toArray meth c (AA h s.heap.size) :=
    ⟨⟨B.exec, B.bytes, hml, B.returns, B.notSynchronized, (name_of_methodNamed B.named B.method).1, findClass_of_methodNamed B.named⟩, fun w hw => hts w (List.mem_cons_of_mem _ hw), hK, fun q hq => Or.inr hq, ⟨Nat.le_refl _, Nat.le_refl _, Nat.le_refl _, Nat.le_refl _⟩, fun a L xs ha => by cases ha⟩
  refine j C ⟨⟨hXF, hfl, fun t ht => by cases ht; exact htab⟩, ?_⟩ ⟨hW, va_S.rf, hn, ⟨hl.1, hl.2.1, fun i v hv => hl.2.2 _ (lget_mem hv)⟩, by omega, by omega⟩
  intro pc' st' h' n' kc' kn' lv' H' locs' cells' slots' ls' q r
  obtain ⟨v, hq, hh⟩ := q
  obtain ⟨hW', hS', hn', hL', hc', hs'⟩ := r
  refine W.widen (k := 1) (n := 6) (by omega) (by omega) (vx_ret ?_)
  have hQ : ∀ t : State, t.heap = H' → s.WarmedH t.vm → QcS G h s.heap.size Q args.toArray s (.returned v) t := fun t ht hw => ⟨⟨v, h', n', rfl, hq, by rw [ht]; exact hn', by rw [ht]; exact hW'⟩, hS'.F ht⟩
  have hlocks := B.notSynchronized
  rcases hh with ⟨hd, x, ty, rfl, hr, hnn, rfl⟩ | ⟨hd, x, rfl, hr, rfl⟩ | ⟨hd, x, rfl, hr, rfl⟩ | ⟨hd, y, rt, rfl, hr, h1, h2, rfl⟩ | ⟨hd, rfl, hr, rfl⟩
  · exact W.zret B.exec B.bytes (B.returns.trans hr) hnn hQ hS'.2.2 hd
  · exact W.lret B.exec B.bytes (B.returns.trans hr) hQ hS'.2.2 hd
  · exact W.dret B.exec B.bytes (B.returns.trans hr) hQ hS'.2.2 hd
  · exact W.aret B.exec B.bytes (B.returns.trans hr) h1 h2 hQ hS'.2.2 hd
  · exact W.vret B.exec B.bytes (B.returns.trans hr) hQ hS'.2.2 hd
/-- a wrapper's facts -/
def MFW (M : MI) (tb : List (Nat × Nat × Nat × Nat)) (np : Nat) : Prop := Cond.codeWith M.1 M.2.1 M.2.2.1 M.2.2.2 tb ∈ WS ∧ Cond.initialized M.1.cls ∈ WS ∧ (M.1.cls ≠ "java/lang/invoke/MethodHandle" ∧ M.1.cls ≠ "java/lang/invoke/VarHandle") ∧ (parseMethodDescriptor M.1.desc).map (fun d => d.parameters.length) = some np ∧ M.2.2.1 ≤ 40
theorem K_callW {G : GG} {M M2 : MI} {d pc : Nat} {lv : LV} {st : List Value} {h : HP} {n kc kn : Nat} {Q : LV → Nat → List Value → HP → Nat → Prop} {hh : Option (List (Nat × Nat × Nat × Nat))} {tb : List (Nat × Nat × Nat × Nat)} {d2 kc' kn' np idx : Nat} {As rest : List Value} {Q2 : Option Value → HP → Nat → Prop} (f : MFW M2 tb np) (lk : Cond.methodLink M.1.cls idx M2.1 ∈ WS) (hstat : Cond.static M2.1 ∈ WS)
    (sp : SpW G M2 tb d2 As h n Q2) (hd : decode M.2.1 pc = .ok (.invokestatic idx, 3)) (hdd : d2 + 1 ≤ d) (hst : st = As.reverse ++ rest) (hnp : As.length = np) (hrest : (rest.map fun v => v.category).sum ≤ 8) (hkc : 1 + kc' = kc) (hkn : 6 + kn' = kn)
    (kk : ∀ v h' n', Q2 v h' n' → KJ hh G M d (pc + 3) lv (v.toList ++ rest) h' n' kc' kn' Q) : KJ hh G M d pc lv st h n kc kn Q := by
  intro p l e R s m args below meth c A mc ms Z C E H locs cells slots ls r
  subst hst
  obtain ⟨r1, r2, r3, r4, r5, r6⟩ := id r
  have hAA : ∀ q, AA h H.size q → A q := fun q hq => hq.elim (fun x => r1.A x) (fun x => C.2.2.2.1 q (Nat.le_trans r2.1 x))
  have hpre : PreS s H (PcW G As h n H.size) As := ⟨PcW_blind, fun U hU hW => ⟨rfl, ⟨by rw [hU], r3, by rw [hU]; exact r1.weaken (fun a ha => Or.inl ha), va_K.moved hW.alike C.2.2.1⟩, XF2_at (G := G) E.1.1 hU hW r2 hAA⟩⟩
  have hR := C.2.2.2.2.1
  have fix : CallFix p m c M.2.1 M.2.2.1 s args WS M.1.cls := ⟨C.1.1, C.1.2.1, C.1.2.2.1, C.1.2.2.2.2.2.2, C.2.1⟩
  obtain ⟨f1, f2, f3, f4, f5⟩ := f
  have cw : vx_CSW R s args M.1.cls idx M2.1 M2.2.1 M2.2.2.1 M2.2.2.2 tb (wsW M2 tb) (rmM d2 1 6) 1 6 np := by
    refine ⟨⟨rfl, rfl, by show d2 + 1 ≤ _; omega, by show 8 + (M2.2.2.1 + 11) + 60 * d2 ≤ R.locals; omega, fun w hw a' U hW => ?_, List.mem_cons_self⟩, C.2.1 _ f1, C.2.1 _ f2, f3, fun sig hs => ?_, C.2.1 _ lk, C.2.1 _ hstat⟩
    · rcases List.mem_cons.mp hw with rfl | hw
      · exact WS_at C.2.1 f1 a' U hW
      · exact WS_at C.2.1 hw a' U hW
    · rw [hs] at f4
      exact (Option.some.inj f4).symm
  have hr : vx_Run p l e R s m args below meth c H locs cells slots 1 6 (F0 m pc ls (As.reverse ++ rest)) rest (QcS G h H.size Q2 As.toArray) (fun _ _ _ => False) (AA h H.size) := vx_runSX fix (sp l H.size E.1.2.1) cw hpre rfl hnp r.2.2.2.1.1 rfl (lv_room hrest) hd (by have := r.2.2.2.2; omega)
  intro T hT X
  rcases hr T hT X with ⟨v, st₀, t, T', L, h0, X', hL, e1, e2, ⟨⟨v', h', n', hv, hq, hn', hw'⟩, hF⟩, st⟩ | ⟨q9, st₀, t, T', L, E9, ce, h0, X', hL, e1, e2, hf, -⟩
  · cases hv
    obtain ⟨k1, k2, k3⟩ := vx_keep h0 e1 r2 (A1 := AA h H.size) (fun q _ hq => hAA q hq) hAA hL hF
    obtain ⟨t2, a1, b1⟩ := kk v h' n' hq C E (H := T'.heap) (locs := locs ++ L) (cells := cells + 1) (slots := slots + 6) (ls := ls) ⟨by rw [e1]; exact hw'.weaken (fun a ha => hAA a (hw'.A ha)), k3, by rw [e1]; exact hn', r4, by omega, by omega⟩ T' rfl X'
    exact ⟨t2, st t2 a1, b1⟩
  · exact hf.elim
/-! contracts of the law's own methods that call such: what a throw needs goes in, the script too -/
def PcK (G : GG) (args : List Value) (h : HP) (n sz : Nat) : Array Value → State → Prop := va_Pc args (fun U => ((U.heap.size = sz ∧ (n = 0 ∨ n = sz) ∧ WL G.1 h (AA h sz) U.heap ∧ va_K G.1 vwCl (tysOf G.2.1) U) ∧ XF2 (AA h sz) U) ∧ ∀ a L xs, G.2.2 a = some (L, xs) → va_X a L xs U U.heap ∧ a < sz ∧ ¬ AA h sz a)
theorem PcK_blind {G : GG} {h : HP} {n : Nat} {args : List Value} {sz : Nat} : FrameBlind (PcK G args h n sz) := by
  intro a U g mk q
  obtain ⟨q0, ⟨⟨q1, q2, q3, q4⟩, ⟨z1, z2, z3⟩, z4⟩, z5⟩ := q
  exact ⟨q0, ⟨⟨q1, q2, q3, va_K.moved (u := U) (U := U.calling g mk a) (Vm.Alike.refl U.vm) q4⟩, ⟨z1.moved (u := U) (U := U.calling g mk a) (Vm.Alike.refl U.vm), z2.moved (u := U) (U := U.calling g mk a) (Vm.Alike.refl U.vm), fun q hq => by obtain ⟨sa, hsa⟩ := z3 q hq; exact ⟨sa, vk_R.same (u := U) (U := U.calling g mk a) rfl hsa⟩⟩, fun q hq => (z4 q hq).moved (u := U) (U := U.calling g mk a) (Vm.Alike.refl U.vm)⟩, fun a2 L xs ha => ⟨va_X.moved (u := U) (U := U.calling g mk a) (Vm.Alike.refl U.vm) (z5 a2 L xs ha).1, (z5 a2 L xs ha).2⟩⟩
def SpK (G : GG) (M : MI) (d mc ms : Nat) (args : List Value) (h : HP) (n : Nat) (Q : Option Value → HP → Nat → Prop) : Prop :=
  ∀ (l : Launch) (sz : Nat), l.flags = flags0 → vx_Met l M.1 (wsM M) (rmM d mc ms) (PcK G args h n sz) (QcS G h sz Q) (fun _ _ _ => False) mc ms (AA h sz)
theorem SpK_of {G : GG} {M : MI} {d mc ms : Nat} {args : List Value} {h : HP} {n : Nat} {Q : Option Value → HP → Nat → Prop} (hpl : plainName M.1.cls = true) (hlen : (lg_sl args).length ≤ M.2.2.1) (j : KJ none G M d 0 (lv_args 0 args) [] h n mc ms (fun _ => RT M Q)) : SpK G M d mc ms args h n Q := by
  intro l sz hfl
  refine vx_ofW (cc := M.2.1) (maxL := M.2.2.1) (ret := M.2.2.2) hpl rfl ?_
  intro p e s m args' below meth c s₁ B hml htab hv
  obtain ⟨rfl, ⟨⟨hsz, hn, hW, hK⟩, hXF⟩, hsc⟩ := hv
  subst hsz
  have hts := atoms_spec (ws := wsM M) B.pre
  have hl := lv_entry args (n := M.2.2.1) hlen
  rw [lg_entry_eq]
  generalize (lg_sl args ++ List.replicate (M.2.2.1 - (lg_sl args).length) Slot.unset).toArray = ls at hl ⊢
  have C : CX G M d mc ms p l e (headSpec (wsM M) (rmM d mc ms)).room s m args.toArray meth c (AA h s.heap.size) :=
    ⟨⟨B.exec, B.bytes, hml, B.returns, B.notSynchronized, (name_of_methodNamed B.named B.method).1, findClass_of_methodNamed B.named⟩, fun w hw => hts w (List.mem_cons_of_mem _ hw), hK, fun q hq => Or.inr hq, ⟨Nat.le_refl _, Nat.le_refl _, Nat.le_refl _, Nat.le_refl _⟩, hsc⟩
  refine j C ⟨⟨hXF, hfl, fun t ht => by cases ht⟩, ?_⟩ ⟨hW, va_S.rf, hn, ⟨hl.1, hl.2.1, fun i v hv => hl.2.2 _ (lget_mem hv)⟩, by omega, by omega⟩
  intro pc' st' h' n' kc' kn' lv' H' locs' cells' slots' ls' q r
  obtain ⟨v, hq, hh⟩ := q
  obtain ⟨hW', hS', hn', hL', hc', hs'⟩ := r
  refine W.widen (k := mc) (n := ms) (by omega) (by omega) (vx_ret ?_)
  have hQ : ∀ t : State, t.heap = H' → s.WarmedH t.vm → QcS G h s.heap.size Q args.toArray s (.returned v) t := fun t ht hw => ⟨⟨v, h', n', rfl, hq, by rw [ht]; exact hn', by rw [ht]; exact hW'⟩, hS'.F ht⟩
  have hlocks := B.notSynchronized
  rcases hh with ⟨hd, x, ty, rfl, hr, hnn, rfl⟩ | ⟨hd, x, rfl, hr, rfl⟩ | ⟨hd, x, rfl, hr, rfl⟩ | ⟨hd, y, rt, rfl, hr, h1, h2, rfl⟩ | ⟨hd, rfl, hr, rfl⟩
  · exact W.zret B.exec B.bytes (B.returns.trans hr) hnn hQ hS'.2.2 hd
  · exact W.lret B.exec B.bytes (B.returns.trans hr) hQ hS'.2.2 hd
  · exact W.dret B.exec B.bytes (B.returns.trans hr) hQ hS'.2.2 hd
  · exact W.aret B.exec B.bytes (B.returns.trans hr) h1 h2 hQ hS'.2.2 hd
  · exact W.vret B.exec B.bytes (B.returns.trans hr) hQ hS'.2.2 hd
theorem K_callK {G : GG} {M M2 : MI} {d pc : Nat} {lv : LV} {st : List Value} {h : HP} {n kc kn : Nat} {Q : LV → Nat → List Value → HP → Nat → Prop} {hh : Option (List (Nat × Nat × Nat × Nat))} {d2 kc2 kn2 kc' kn' np idx : Nat} {As rest : List Value} {Q2 : Option Value → HP → Nat → Prop} (f : MF M2 np) (lk : Cond.methodLink M.1.cls idx M2.1 ∈ WS) (hstat : Cond.static M2.1 ∈ WS)
    (sp : SpK G M2 d2 kc2 kn2 As h n Q2) (hd : decode M.2.1 pc = .ok (.invokestatic idx, 3)) (hdd : d2 + 1 ≤ d) (hst : st = As.reverse ++ rest) (hnp : As.length = np) (hrest : (rest.map fun v => v.category).sum ≤ 8) (hkc : kc2 + kc' = kc) (hkn : kn2 + kn' = kn)
    (kk : ∀ v h' n', Q2 v h' n' → KJ hh G M d (pc + 3) lv (v.toList ++ rest) h' n' kc' kn' Q) : KJ hh G M d pc lv st h n kc kn Q := by
  intro p l e R s m args below meth c A mc ms Z C E H locs cells slots ls r
  subst hst
  obtain ⟨r1, r2, r3, r4, r5, r6⟩ := id r
  have hAA : ∀ q, AA h H.size q → A q := fun q hq => hq.elim (fun x => r1.A x) (fun x => C.2.2.2.1 q (Nat.le_trans r2.1 x))
  have hpre : PreS s H (PcK G As h n H.size) As := ⟨PcK_blind, fun U hU hW => ⟨rfl, ⟨⟨by rw [hU], r3, by rw [hU]; exact r1.weaken (fun a ha => Or.inl ha), va_K.moved hW.alike C.2.2.1⟩, XF2_at (G := G) E.1.1 hU hW r2 hAA⟩, fun a L xs ha => by
    obtain ⟨g1, g2, g3⟩ := C.2.2.2.2.2 a L xs ha
    refine ⟨?_, Nat.lt_of_lt_of_le g2 r2.1, fun q => g3 (hAA a q)⟩
    rw [hU]
    exact va_X.moved hW.alike (g1.kept (r2.2.1 a g2 g3))⟩⟩
  have hR := C.2.2.2.2.1
  have fix : CallFix p m c M.2.1 M.2.2.1 s args WS M.1.cls := ⟨C.1.1, C.1.2.1, C.1.2.2.1, C.1.2.2.2.2.2.2, C.2.1⟩
  have hr : vx_Run p l e R s m args below meth c H locs cells slots kc2 kn2 (F0 m pc ls (As.reverse ++ rest)) rest (QcS G h H.size Q2 As.toArray) (fun _ _ _ => False) (AA h H.size) := vx_runS fix (sp l H.size E.1.2.1) ⟨f.cb (M := M) (d2 := d2) (kc2 := kc2) (kn2 := kn2) (R := R) lk C.2.1 (by omega) (by omega), C.2.1 _ hstat⟩ hpre rfl hnp r.2.2.2.1.1 rfl (lv_room hrest) hd (by have := r.2.2.2.2; omega)
  intro T hT X
  rcases hr T hT X with ⟨v, st₀, t, T', L, h0, X', hL, e1, e2, ⟨⟨v', h', n', hv, hq, hn', hw'⟩, hF⟩, st⟩ | ⟨q9, st₀, t, T', L, E9, ce, h0, X', hL, e1, e2, hf, -⟩
  · cases hv
    obtain ⟨k1, k2, k3⟩ := vx_keep h0 e1 r2 (A1 := AA h H.size) (fun q _ hq => hAA q hq) hAA hL hF
    obtain ⟨t2, a1, b1⟩ := kk v h' n' hq C E (H := T'.heap) (locs := locs ++ L) (cells := cells + kc2) (slots := slots + kn2) (ls := ls) ⟨by rw [e1]; exact hw'.weaken (fun a ha => hAA a (hw'.A ha)), k3, by rw [e1]; exact hn', r4, by omega, by omega⟩ T' rfl X'
    exact ⟨t2, st t2 a1, b1⟩
  · exact hf.elim
