/-! methods that throw -/
def strs : List (Nat × String) := [(193, "no saved state"), (202, "no such place"), (245, "no such count"), (80, "no such crossing"), (94, "no room for a crossing"), (104, "no crossing to take off"), (113, "no such move or place"), (121, "the move is not possible"), (130, "no such place or crossing"), (132, "no room for a pair"), (159, "there is no handle"), (165, "no room for what comes of the handle"), (276, "no such move"), (213, "no such position"), (216, "not so many crossings"), (225, "no such lace"), (231, "no such row or column")]
theorem st_193 : (193, "no saved state") ∈ strs := by unfold strs; repeat (first | exact List.mem_cons_self | apply List.mem_cons_of_mem)
theorem st_202 : (202, "no such place") ∈ strs := by unfold strs; repeat (first | exact List.mem_cons_self | apply List.mem_cons_of_mem)
theorem st_245 : (245, "no such count") ∈ strs := by unfold strs; repeat (first | exact List.mem_cons_self | apply List.mem_cons_of_mem)
theorem st_80 : (80, "no such crossing") ∈ strs := by unfold strs; repeat (first | exact List.mem_cons_self | apply List.mem_cons_of_mem)
theorem st_94 : (94, "no room for a crossing") ∈ strs := by unfold strs; repeat (first | exact List.mem_cons_self | apply List.mem_cons_of_mem)
theorem st_104 : (104, "no crossing to take off") ∈ strs := by unfold strs; repeat (first | exact List.mem_cons_self | apply List.mem_cons_of_mem)
theorem st_113 : (113, "no such move or place") ∈ strs := by unfold strs; repeat (first | exact List.mem_cons_self | apply List.mem_cons_of_mem)
theorem st_121 : (121, "the move is not possible") ∈ strs := by unfold strs; repeat (first | exact List.mem_cons_self | apply List.mem_cons_of_mem)
theorem st_130 : (130, "no such place or crossing") ∈ strs := by unfold strs; repeat (first | exact List.mem_cons_self | apply List.mem_cons_of_mem)
theorem st_132 : (132, "no room for a pair") ∈ strs := by unfold strs; repeat (first | exact List.mem_cons_self | apply List.mem_cons_of_mem)
theorem st_159 : (159, "there is no handle") ∈ strs := by unfold strs; repeat (first | exact List.mem_cons_self | apply List.mem_cons_of_mem)
theorem st_165 : (165, "no room for what comes of the handle") ∈ strs := by unfold strs; repeat (first | exact List.mem_cons_self | apply List.mem_cons_of_mem)
theorem st_276 : (276, "no such move") ∈ strs := by unfold strs; repeat (first | exact List.mem_cons_self | apply List.mem_cons_of_mem)
theorem st_213 : (213, "no such position") ∈ strs := by unfold strs; repeat (first | exact List.mem_cons_self | apply List.mem_cons_of_mem)
theorem st_216 : (216, "not so many crossings") ∈ strs := by unfold strs; repeat (first | exact List.mem_cons_self | apply List.mem_cons_of_mem)
theorem st_225 : (225, "no such lace") ∈ strs := by unfold strs; repeat (first | exact List.mem_cons_self | apply List.mem_cons_of_mem)
theorem st_231 : (231, "no such row or column") ∈ strs := by unfold strs; repeat (first | exact List.mem_cons_self | apply List.mem_cons_of_mem)
def XF (A : Nat → Prop) (U : State) : Prop := vx_Zq Bundle.tN "UNASSIGNED_STACK" Bundle.steD A U U.heap ∧ vx_Zq Bundle.tN "SUPPRESSED_SENTINEL" Bundle.listD A U U.heap ∧ ∀ q ∈ strs, ∃ sa, vk_R RX9 q.1 q.2 sa U
def XT (ik ic : Nat) (E : String) (names : List String) : Prop := Bundle.fit E = true ∧ (∀ n ∈ names, Bundle.fit n = true) ∧ names.length ≤ 2 ∧ Cond.classLink RX9 ik E ∈ WS ∧ Cond.initialized E ∈ WS ∧ (∀ w ∈ vx_atS RX9 ic E names, w ∈ WS) ∧ ∀ w ∈ Cond.classLink RX9 ik E :: Cond.initialized E :: vx_atS RX9 ic E names, vx_ot w = true
theorem all_WS {L : List Cond} (h1 : ∀ w ∈ L, w ∈ lw_tbl) (h2 : ∀ w ∈ L, kw w = true) : ∀ w ∈ L, w ∈ WS := fun w h => mem_WS (h1 w h) (h2 w h)
theorem xt_IAE : XT 78 82 "java/lang/IllegalArgumentException" ["java/lang/RuntimeException", "java/lang/Exception"] :=
  ⟨by decide +kernel, by decide +kernel, by decide, cl_X9_78, mem_WS (by decide +kernel) rfl, all_WS (by decide +kernel) (by decide +kernel), by decide +kernel⟩
theorem xt_ISE : XT 92 96 "java/lang/IllegalStateException" ["java/lang/RuntimeException", "java/lang/Exception"] :=
  ⟨by decide +kernel, by decide +kernel, by decide, cl_X9_92, mem_WS (by decide +kernel) rfl, all_WS (by decide +kernel) (by decide +kernel), by decide +kernel⟩
theorem xt_IOB : XT 211 215 "java/lang/IndexOutOfBoundsException" ["java/lang/RuntimeException", "java/lang/Exception"] :=
  ⟨by decide +kernel, by decide +kernel, by decide, cl_X9_211, mem_WS (by decide +kernel) rfl, all_WS (by decide +kernel) (by decide +kernel), by decide +kernel⟩
/-- at pc: throw new E(text) -/
def TH (M : MI) (pc : Nat) (E : String) : Prop := ∃ (ik is ic : Nat) (text : String) (names : List String), decode M.2.1 pc = .ok (.new ik, 3) ∧ decode M.2.1 (pc + 3) = .ok (.dup, 1) ∧ ((decode M.2.1 (pc + 4) = .ok (.ldc is, 2) ∧ decode M.2.1 (pc + 6) = .ok (.invokespecial ic, 3) ∧ decode M.2.1 (pc + 9) = .ok (.athrow, 1)) ∨ (decode M.2.1 (pc + 4) = .ok (.ldc_w is, 3) ∧ decode M.2.1 (pc + 7) = .ok (.invokespecial ic, 3) ∧ decode M.2.1 (pc + 10) = .ok (.athrow, 1))) ∧ (is, text) ∈ strs ∧ XT ik ic E names
def RTX (M : MI) (Q : Option Value → HP → Nat → Prop) (QX : String → HP → Prop) : Nat → List Value → HP → Nat → Prop := fun pc st h n => RT M Q pc st h n ∨ ∃ E, TH M pc E ∧ st = [] ∧ QX E h
theorem J_throw {G : GG} {M : MI} {d pc : Nat} {lv : LV} {h : HP} {n kc kn : Nat} {Q : Option Value → HP → Nat → Prop} {QX : String → HP → Prop} {E : String} (t : TH M pc E) (q : QX E h) : J G M d pc lv [] h n kc kn (RTX M Q QX) := J_done (Or.inr ⟨E, t, rfl, q⟩)
theorem J_rtx {G : GG} {M : MI} {d pc : Nat} {lv : LV} {st : List Value} {h : HP} {n kc kn : Nat} {Q : Option Value → HP → Nat → Prop} {QX : String → HP → Prop} (j : J G M d pc lv st h n kc kn (RT M Q)) : J G M d pc lv st h n kc kn (RTX M Q QX) := J_mono j (fun _ _ _ _ q => Or.inl q)
def PcX (G : GG) (args : List Value) (h : HP) (n sz : Nat) : Array Value → State → Prop := va_Pc args (fun U => (U.heap.size = sz ∧ (n = 0 ∨ n = sz) ∧ WL G.1 h (AA h sz) U.heap ∧ va_K G.1 vwCl (tysOf G.2.1) U) ∧ XF (AA h sz) U)
def XcS (G : GG) (h : HP) (sz : Nat) (QX : String → HP → Prop) : String → State → State → Prop := fun E st t => (∃ h', QX E h' ∧ WL G.1 h' (AA h sz) t.heap) ∧ va_F (AA h sz) st t
def SpX (G : GG) (M : MI) (d : Nat) (args : List Value) (h : HP) (n : Nat) (Q : Option Value → HP → Nat → Prop) (QX : String → HP → Prop) : Prop :=
  ∀ (l : Launch) (sz : Nat), l.flags = flags0 → vx_Met l M.1 (wsM M) (rmM d 1 6) (PcX G args h n sz) (QcS G h sz Q) (XcS G h sz QX) 1 6 (AA h sz)
theorem flags_off {l : Launch} (h : l.flags = flags0) : l.stackTraces = false := by
  unfold Launch.stackTraces
  rw [h]
  decide +kernel
theorem WL.kept {D : va_G} {h : HP} {A : Nat → Prop} {H H1 : Heap} (w : WL D h A H) (k : ∀ q, q < H.size → H1[q]? = H[q]?) : WL D h A H1 := by
  obtain ⟨L, hL, hP, hD⟩ := w
  exact ⟨L, hL, hP.kept (fun k9 x hx => k x.1 ((hP k9 x hx).lt)), hD⟩
theorem SpX_of {G : GG} {M : MI} {d : Nat} {args : List Value} {h : HP} {n : Nat} {Q : Option Value → HP → Nat → Prop} {QX : String → HP → Prop} (hown : M.1.cls = RX9) (hpl : plainName M.1.cls = true) (hlen : (lg_sl args).length ≤ M.2.2.1) (hd6 : 6 ≤ d) (j : J (G.1, G.2.1, fun _ => none) M d 0 (lv_args 0 args) [] h n 0 0 (RTX M Q QX)) : SpX G M d args h n Q QX := by
  intro l sz hfl
  refine vx_ofW (cc := M.2.1) (maxL := M.2.2.1) (ret := M.2.2.2) hpl rfl ?_
  intro p e s m args' below meth c s₁ B hml htab hv
  obtain ⟨rfl, ⟨hsz, hn, hW, hK⟩, hXF⟩ := hv
  subst hsz
  have hts := atoms_spec (ws := wsM M) B.pre
  have hl := lv_entry args (n := M.2.2.1) hlen
  rw [lg_entry_eq]
  generalize (lg_sl args ++ List.replicate (M.2.2.1 - (lg_sl args).length) Slot.unset).toArray = ls at hl ⊢
  have hw : ∀ w ∈ WS, w.before args.toArray s = true := fun w hw => hts w (List.mem_cons_of_mem _ hw)
  have hcl : s.vm.findClass M.1.cls = some m.cls := findClass_of_methodNamed B.named
  have C : CX (G.1, G.2.1, fun _ => none) M d 0 0 p l e (headSpec (wsM M) (rmM d 1 6)).room s m args.toArray meth c (AA h s.heap.size) :=
    ⟨⟨B.exec, B.bytes, hml, B.returns, B.notSynchronized, (name_of_methodNamed B.named B.method).1, hcl⟩, hw, hK, fun q hq => Or.inr hq, ⟨Nat.le_refl _, Nat.le_refl _, Nat.zero_le _, Nat.zero_le _⟩, fun a L xs ha => by cases ha⟩
  refine j C ?_ ⟨hW, va_S.rf, hn, ⟨hl.1, hl.2.1, fun i v hv => hl.2.2 _ (lget_mem hv)⟩, by omega, by omega⟩
  intro pc' st' h' n' kc' kn' lv' H' locs' cells' slots' ls' q r
  obtain ⟨hW', hS', hn', hL', hc', hs'⟩ := r
  rcases q with q | ⟨E, ht, rfl, hq⟩
  · obtain ⟨v, hq, hh⟩ := q
    refine W.widen (k := 1) (n := 6) (by omega) (by omega) ?_
    refine vx_ret ?_
    have hQ : ∀ t : State, t.heap = H' → s.WarmedH t.vm → QcS G h s.heap.size Q args.toArray s (.returned v) t := fun t ht hw => ⟨⟨v, h', n', rfl, hq, by rw [ht]; exact hn', by rw [ht]; exact hW'⟩, hS'.F ht⟩
    have hlocks := B.notSynchronized
    rcases hh with ⟨hd, x, ty, rfl, hr, hnn, rfl⟩ | ⟨hd, x, rfl, hr, rfl⟩ | ⟨hd, x, rfl, hr, rfl⟩ | ⟨hd, y, rt, rfl, hr, h1, h2, rfl⟩ | ⟨hd, rfl, hr, rfl⟩
    · exact W.zret B.exec B.bytes (B.returns.trans hr) hnn hQ hS'.2.2 hd
    · exact W.lret B.exec B.bytes (B.returns.trans hr) hQ hS'.2.2 hd
    · exact W.dret B.exec B.bytes (B.returns.trans hr) hQ hS'.2.2 hd
    · exact W.aret B.exec B.bytes (B.returns.trans hr) h1 h2 hQ hS'.2.2 hd
    · exact W.vret B.exec B.bytes (B.returns.trans hr) hQ hS'.2.2 hd
  · obtain ⟨ik, is, ic, text, names, d0, d3, dd, hst, x1, x2, x3, x4, x5, x6, x7⟩ := ht
    obtain ⟨sa, hsa⟩ := hXF.2.2 _ hst
    have g1 : names.length + 3 < d := by omega
    have g2 : 0 + (13 * (names.length + 1) + 43) ≤ 60 * d := by omega
    have g3 : cells' + 1 ≤ 1 := by omega
    have g4 : slots' + 6 ≤ 6 := by omega
    have g5 : ∀ t : State, s.vm.Alike t.vm → H'.size ≤ t.heap.size → (∀ q : Nat, q < H'.size → t.heap[q]? = H'[q]?) → XcS G h s.heap.size QX E s t := by
      intro t ha hz hk
      exact ⟨⟨h', hq, hW'.kept hk⟩, Nat.le_trans hS'.1 hz, fun q h1 h2 => (hk q (Nat.lt_of_lt_of_le h1 hS'.1)).trans (hS'.2.1 q h1 h2)⟩
    have g6 : (([] : List Value).map fun v => v.category).sum = 0 := rfl
    rcases dd with ⟨d4, d6, d9⟩ | ⟨d4, d6, d9⟩
    · exact vx_throwS (A := AA h s.heap.size) B.exec B.bytes (flags_off hfl) (hown ▸ hcl) x1 x2 (hw _ x4) (hw _ x5) hsa (fun w hw' => hw _ (x6 w hw')) x7 hXF.1 hXF.2.1 hS' (hL'.1.trans hml.symm) d0 d3 d4 d6 d9 (fun x hx => (htab x hx).elim) g1 (by rw [g6]; exact g2) g3 g4 B.notSynchronized g5 hS'.2.2 (by omega) (by omega)
    · exact vx_throwSW (A := AA h s.heap.size) B.exec B.bytes (flags_off hfl) (hown ▸ hcl) x1 x2 (hw _ x4) (hw _ x5) hsa (fun w hw' => hw _ (x6 w hw')) x7 hXF.1 hXF.2.1 hS' (hL'.1.trans hml.symm) d0 d3 d4 d6 d9 (fun x hx => (htab x hx).elim) g1 (by rw [g6]; exact g2) g3 g4 B.notSynchronized g5 hS'.2.2 (by omega) (by omega)
