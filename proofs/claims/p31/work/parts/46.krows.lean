/-! the judgement once more, with what a throw needs in its context; the law's own methods are walked in it -/
def NC : List (String × String) := [("java/lang/IllegalStateException", "java/lang/IllegalArgumentException"), ("java/lang/IllegalArgumentException", "java/lang/IndexOutOfBoundsException")]
def XF2 (A : Nat → Prop) (U : State) : Prop := XF A U ∧ ∀ q ∈ NC, va_Nc q.1 q.2 U
def KX (hh : Option (List (Nat × Nat × Nat × Nat))) (l : Launch) (s : State) (c : Code) (A : Nat → Prop) : Prop := XF2 A s ∧ l.flags = flags0 ∧ ∀ t, hh = some t → c.exceptionTable.toList = tableOf t
def KJ (hh : Option (List (Nat × Nat × Nat × Nat))) (G : GG) (M : MI) (d pc : Nat) (lv : LV) (st : List Value) (h : HP) (n kc kn : Nat) (Q : LV → Nat → List Value → HP → Nat → Prop) : Prop :=
  ∀ ⦃p : Program⦄ ⦃l : Launch⦄ ⦃e : Env⦄ ⦃R : Room⦄ ⦃s : State⦄ ⦃m : MethodId⦄ ⦃args : Array Value⦄ ⦃below : List Frame⦄ ⦃meth : Method⦄ ⦃c : Code⦄ ⦃A : Nat → Prop⦄ ⦃mc ms : Nat⦄ ⦃Z : State → Prop⦄,
    CX G M d mc ms p l e R s m args meth c A →
    (KX hh l s c A ∧ ∀ (pc' : Nat) (st' : List Value) (h' : HP) (n' kc' kn' : Nat) (lv' : LV) (H' : Heap) (locs' : List Loc) (cells' slots' : Nat) (ls' : Array Slot), Q lv' pc' st' h' n' → RWl G.1 A M.2.2.1 mc ms s H' locs' cells' slots' ls' lv' h' n' kc' kn' → W p l e R s m args below meth c H' locs' cells' slots' Z (F0 m pc' ls' st')) →
    ∀ ⦃H : Heap⦄ ⦃locs : List Loc⦄ ⦃cells slots : Nat⦄ ⦃ls : Array Slot⦄, RWl G.1 A M.2.2.1 mc ms s H locs cells slots ls lv h n kc kn → W p l e R s m args below meth c H locs cells slots Z (F0 m pc ls st)
theorem K_done {G : GG} {M : MI} {d pc : Nat} {lv : LV} {st : List Value} {h : HP} {n kc kn : Nat} {Q : LV → Nat → List Value → HP → Nat → Prop} {hh : Option (List (Nat × Nat × Nat × Nat))} (q : Q lv pc st h n) : KJ hh G M d pc lv st h n kc kn Q := by
  intro p l e R s m args below meth c A mc ms Z C E H locs cells slots ls r
  exact E.2 _ _ _ _ _ _ _ _ _ _ _ _ q r
theorem K_less {G : GG} {M : MI} {d pc : Nat} {lv : LV} {st : List Value} {h : HP} {n kc kn kc2 kn2 : Nat} {Q : LV → Nat → List Value → HP → Nat → Prop} {hh : Option (List (Nat × Nat × Nat × Nat))} (h1 : kc2 ≤ kc) (h2 : kn2 ≤ kn) (j : KJ hh G M d pc lv st h n kc2 kn2 Q) : KJ hh G M d pc lv st h n kc kn Q := by
  intro p l e R s m args below meth c A mc ms Z C E H locs cells slots ls r
  exact j C E ⟨r.1, r.2.1, r.2.2.1, r.2.2.2.1, by have := r.2.2.2.2; omega, by have := r.2.2.2.2; omega⟩
theorem K_sub {G : GG} {M : MI} {d pc : Nat} {lv l2 : LV} {st : List Value} {h : HP} {n kc kn : Nat} {Q : LV → Nat → List Value → HP → Nat → Prop} {hh : Option (List (Nat × Nat × Nat × Nat))} (hs : subl l2 lv) (j : KJ hh G M d pc l2 st h n kc kn Q) : KJ hh G M d pc lv st h n kc kn Q := by
  intro p l e R s m args below meth c A mc ms Z C E H locs cells slots ls r
  exact j C E ⟨r.1, r.2.1, r.2.2.1, r.2.2.2.1.sub hs, r.2.2.2.2⟩
theorem K_eq {G : GG} {M : MI} {d pc pc2 : Nat} {lv l2 : LV} {st st2 : List Value} {h h2 : HP} {n kc kn : Nat} {Q : LV → Nat → List Value → HP → Nat → Prop} {hh : Option (List (Nat × Nat × Nat × Nat))} (e1 : pc = pc2) (e2 : lv = l2) (e3 : st = st2) (e4 : h = h2) (j : KJ hh G M d pc2 l2 st2 h2 n kc kn Q) : KJ hh G M d pc lv st h n kc kn Q := by
  subst e1; subst e2; subst e3; subst e4; exact j
theorem K_iload {G : GG} {M : MI} {d pc : Nat} {lv : LV} {st : List Value} {h : HP} {n kc kn : Nat} {Q : LV → Nat → List Value → HP → Nat → Prop} {hh : Option (List (Nat × Nat × Nat × Nat))} {i : Nat} {x : Int32} (hd : decode M.2.1 pc = .ok (.iload i, 2)) (hv : lget lv i = some (.int x)) (k : KJ hh G M d (pc + 2) lv (.int x :: st) h n kc kn Q) : KJ hh G M d pc lv st h n kc kn Q := by
  intro p l e R s m args below meth c A mc ms Z C E H locs cells slots ls r
  exact lv_iload C.1.1 C.1.2.1 hd (r.2.2.2.1.2.2 _ _ hv) (k C E r)
theorem K_iload_n {G : GG} {M : MI} {d pc : Nat} {lv : LV} {st : List Value} {h : HP} {n kc kn : Nat} {Q : LV → Nat → List Value → HP → Nat → Prop} {hh : Option (List (Nat × Nat × Nat × Nat))} {j : Fin 4} {x : Int32} (hd : decode M.2.1 pc = .ok (.iload_n j, 1)) (hv : lget lv j.val = some (.int x)) (k : KJ hh G M d (pc + 1) lv (.int x :: st) h n kc kn Q) : KJ hh G M d pc lv st h n kc kn Q := by
  intro p l e R s m args below meth c A mc ms Z C E H locs cells slots ls r
  exact lv_iload_n C.1.1 C.1.2.1 hd rfl (r.2.2.2.1.2.2 _ _ hv) (k C E r)
theorem K_aload {G : GG} {M : MI} {d pc : Nat} {lv : LV} {st : List Value} {h : HP} {n kc kn : Nat} {Q : LV → Nat → List Value → HP → Nat → Prop} {hh : Option (List (Nat × Nat × Nat × Nat))} {i : Nat} {x : Nat} (hd : decode M.2.1 pc = .ok (.aload i, 2)) (hv : lget lv i = some (.ref x)) (k : KJ hh G M d (pc + 2) lv (.ref x :: st) h n kc kn Q) : KJ hh G M d pc lv st h n kc kn Q := by
  intro p l e R s m args below meth c A mc ms Z C E H locs cells slots ls r
  exact lv_aload C.1.1 C.1.2.1 hd (r.2.2.2.1.2.2 _ _ hv) (k C E r)
theorem K_aload_n {G : GG} {M : MI} {d pc : Nat} {lv : LV} {st : List Value} {h : HP} {n kc kn : Nat} {Q : LV → Nat → List Value → HP → Nat → Prop} {hh : Option (List (Nat × Nat × Nat × Nat))} {j : Fin 4} {x : Nat} (hd : decode M.2.1 pc = .ok (.aload_n j, 1)) (hv : lget lv j.val = some (.ref x)) (k : KJ hh G M d (pc + 1) lv (.ref x :: st) h n kc kn Q) : KJ hh G M d pc lv st h n kc kn Q := by
  intro p l e R s m args below meth c A mc ms Z C E H locs cells slots ls r
  exact lv_aload_n C.1.1 C.1.2.1 hd rfl (r.2.2.2.1.2.2 _ _ hv) (k C E r)
theorem K_lload {G : GG} {M : MI} {d pc : Nat} {lv : LV} {st : List Value} {h : HP} {n kc kn : Nat} {Q : LV → Nat → List Value → HP → Nat → Prop} {hh : Option (List (Nat × Nat × Nat × Nat))} {i : Nat} {x : Int64} (hd : decode M.2.1 pc = .ok (.lload i, 2)) (hv : lget lv i = some (.long x)) (k : KJ hh G M d (pc + 2) lv (.long x :: st) h n kc kn Q) : KJ hh G M d pc lv st h n kc kn Q := by
  intro p l e R s m args below meth c A mc ms Z C E H locs cells slots ls r
  exact lv_lload C.1.1 C.1.2.1 hd (r.2.2.2.1.2.2 _ _ hv) (k C E r)
theorem K_lload_n {G : GG} {M : MI} {d pc : Nat} {lv : LV} {st : List Value} {h : HP} {n kc kn : Nat} {Q : LV → Nat → List Value → HP → Nat → Prop} {hh : Option (List (Nat × Nat × Nat × Nat))} {j : Fin 4} {x : Int64} (hd : decode M.2.1 pc = .ok (.lload_n j, 1)) (hv : lget lv j.val = some (.long x)) (k : KJ hh G M d (pc + 1) lv (.long x :: st) h n kc kn Q) : KJ hh G M d pc lv st h n kc kn Q := by
  intro p l e R s m args below meth c A mc ms Z C E H locs cells slots ls r
  exact lv_lload_n C.1.1 C.1.2.1 hd rfl (r.2.2.2.1.2.2 _ _ hv) (k C E r)
theorem K_dload {G : GG} {M : MI} {d pc : Nat} {lv : LV} {st : List Value} {h : HP} {n kc kn : Nat} {Q : LV → Nat → List Value → HP → Nat → Prop} {hh : Option (List (Nat × Nat × Nat × Nat))} {i : Nat} {x : UInt64} (hd : decode M.2.1 pc = .ok (.dload i, 2)) (hv : lget lv i = some (.double x)) (k : KJ hh G M d (pc + 2) lv (.double x :: st) h n kc kn Q) : KJ hh G M d pc lv st h n kc kn Q := by
  intro p l e R s m args below meth c A mc ms Z C E H locs cells slots ls r
  exact lv_dload C.1.1 C.1.2.1 hd (r.2.2.2.1.2.2 _ _ hv) (k C E r)
theorem K_dload_n {G : GG} {M : MI} {d pc : Nat} {lv : LV} {st : List Value} {h : HP} {n kc kn : Nat} {Q : LV → Nat → List Value → HP → Nat → Prop} {hh : Option (List (Nat × Nat × Nat × Nat))} {j : Fin 4} {x : UInt64} (hd : decode M.2.1 pc = .ok (.dload_n j, 1)) (hv : lget lv j.val = some (.double x)) (k : KJ hh G M d (pc + 1) lv (.double x :: st) h n kc kn Q) : KJ hh G M d pc lv st h n kc kn Q := by
  intro p l e R s m args below meth c A mc ms Z C E H locs cells slots ls r
  exact lv_dload_n C.1.1 C.1.2.1 hd rfl (r.2.2.2.1.2.2 _ _ hv) (k C E r)
theorem K_aloadN {G : GG} {M : MI} {d pc : Nat} {lv : LV} {st : List Value} {h : HP} {n kc kn : Nat} {Q : LV → Nat → List Value → HP → Nat → Prop} {hh : Option (List (Nat × Nat × Nat × Nat))} {i : Nat} (hd : decode M.2.1 pc = .ok (.aload i, 2)) (hv : lget lv i = some .null) (k : KJ hh G M d (pc + 2) lv (.null :: st) h n kc kn Q) : KJ hh G M d pc lv st h n kc kn Q := by
  intro p l e R s m args below meth c A mc ms Z C E H locs cells slots ls r
  exact lv_aloadN C.1.1 C.1.2.1 hd (r.2.2.2.1.2.2 _ _ hv) (k C E r)
theorem K_aloadN_n {G : GG} {M : MI} {d pc : Nat} {lv : LV} {st : List Value} {h : HP} {n kc kn : Nat} {Q : LV → Nat → List Value → HP → Nat → Prop} {hh : Option (List (Nat × Nat × Nat × Nat))} {j : Fin 4} (hd : decode M.2.1 pc = .ok (.aload_n j, 1)) (hv : lget lv j.val = some .null) (k : KJ hh G M d (pc + 1) lv (.null :: st) h n kc kn Q) : KJ hh G M d pc lv st h n kc kn Q := by
  intro p l e R s m args below meth c A mc ms Z C E H locs cells slots ls r
  exact lv_aload_nN C.1.1 C.1.2.1 hd rfl (r.2.2.2.1.2.2 _ _ hv) (k C E r)
theorem K_iconst {G : GG} {M : MI} {d pc : Nat} {lv : LV} {st : List Value} {h : HP} {n kc kn : Nat} {Q : LV → Nat → List Value → HP → Nat → Prop} {hh : Option (List (Nat × Nat × Nat × Nat))} {z : Int} {v : Int32} (hd : decode M.2.1 pc = .ok (.iconst z, 1)) (hv : Int32.ofInt z = v) (k : KJ hh G M d (pc + 1) lv (.int v :: st) h n kc kn Q) : KJ hh G M d pc lv st h n kc kn Q := by
  intro p l e R s m args below meth c A mc ms Z C E H locs cells slots ls r
  exact lv_iconst C.1.1 C.1.2.1 hd hv (k C E r)
theorem K_bipush {G : GG} {M : MI} {d pc : Nat} {lv : LV} {st : List Value} {h : HP} {n kc kn : Nat} {Q : LV → Nat → List Value → HP → Nat → Prop} {hh : Option (List (Nat × Nat × Nat × Nat))} {z : Int} {v : Int32} (hd : decode M.2.1 pc = .ok (.bipush z, 2)) (hv : (Int8.ofInt z).toInt32 = v) (k : KJ hh G M d (pc + 2) lv (.int v :: st) h n kc kn Q) : KJ hh G M d pc lv st h n kc kn Q := by
  intro p l e R s m args below meth c A mc ms Z C E H locs cells slots ls r
  exact lv_bipush C.1.1 C.1.2.1 hd hv (k C E r)
theorem K_sipush {G : GG} {M : MI} {d pc : Nat} {lv : LV} {st : List Value} {h : HP} {n kc kn : Nat} {Q : LV → Nat → List Value → HP → Nat → Prop} {hh : Option (List (Nat × Nat × Nat × Nat))} {z : Int} {v : Int32} (hd : decode M.2.1 pc = .ok (.sipush z, 3)) (hv : (Int16.ofInt z).toInt32 = v) (k : KJ hh G M d (pc + 3) lv (.int v :: st) h n kc kn Q) : KJ hh G M d pc lv st h n kc kn Q := by
  intro p l e R s m args below meth c A mc ms Z C E H locs cells slots ls r
  exact lv_sipush C.1.1 C.1.2.1 hd hv (k C E r)
theorem K_lconst {G : GG} {M : MI} {d pc : Nat} {lv : LV} {st : List Value} {h : HP} {n kc kn : Nat} {Q : LV → Nat → List Value → HP → Nat → Prop} {hh : Option (List (Nat × Nat × Nat × Nat))} {z : Fin 2} {v : Int64} (hd : decode M.2.1 pc = .ok (.lconst z, 1)) (hv : Int64.ofNat (z : Nat) = v) (k : KJ hh G M d (pc + 1) lv (.long v :: st) h n kc kn Q) : KJ hh G M d pc lv st h n kc kn Q := by
  intro p l e R s m args below meth c A mc ms Z C E H locs cells slots ls r
  exact lv_lconst C.1.1 C.1.2.1 hd hv (k C E r)
theorem K_null {G : GG} {M : MI} {d pc : Nat} {lv : LV} {st : List Value} {h : HP} {n kc kn : Nat} {Q : LV → Nat → List Value → HP → Nat → Prop} {hh : Option (List (Nat × Nat × Nat × Nat))}  (hd : decode M.2.1 pc = .ok (.aconst_null, 1)) (k : KJ hh G M d (pc + 1) lv (.null :: st) h n kc kn Q) : KJ hh G M d pc lv st h n kc kn Q := by
  intro p l e R s m args below meth c A mc ms Z C E H locs cells slots ls r
  exact lv_null C.1.1 C.1.2.1 hd (k C E r)
theorem K_dconst0 {G : GG} {M : MI} {d pc : Nat} {lv : LV} {st : List Value} {h : HP} {n kc kn : Nat} {Q : LV → Nat → List Value → HP → Nat → Prop} {hh : Option (List (Nat × Nat × Nat × Nat))}  (hd : decode M.2.1 pc = .ok (.dconst 0, 1)) (k : KJ hh G M d (pc + 1) lv (.double 0 :: st) h n kc kn Q) : KJ hh G M d pc lv st h n kc kn Q := by
  intro p l e R s m args below meth c A mc ms Z C E H locs cells slots ls r
  exact lv_dconst0 C.1.1 C.1.2.1 hd (k C E r)
theorem K_dconst1 {G : GG} {M : MI} {d pc : Nat} {lv : LV} {st : List Value} {h : HP} {n kc kn : Nat} {Q : LV → Nat → List Value → HP → Nat → Prop} {hh : Option (List (Nat × Nat × Nat × Nat))}  (hd : decode M.2.1 pc = .ok (.dconst 1, 1)) (k : KJ hh G M d (pc + 1) lv (.double 4607182418800017408 :: st) h n kc kn Q) : KJ hh G M d pc lv st h n kc kn Q := by
  intro p l e R s m args below meth c A mc ms Z C E H locs cells slots ls r
  exact lv_dconst1 C.1.1 C.1.2.1 hd (k C E r)
theorem K_ldc2 {G : GG} {M : MI} {d pc : Nat} {lv : LV} {st : List Value} {h : HP} {n kc kn : Nat} {Q : LV → Nat → List Value → HP → Nat → Prop} {hh : Option (List (Nat × Nat × Nat × Nat))} {i : Nat} {v : Int64} (hd : decode M.2.1 pc = .ok (.ldc2_w i, 3)) (hw : Cond.constantLong M.1.cls i v ∈ WS) (k : KJ hh G M d (pc + 3) lv (.long v :: st) h n kc kn Q) : KJ hh G M d pc lv st h n kc kn Q := by
  intro p l e R s m args below meth c A mc ms Z C E H locs cells slots ls r
  exact lv_ldc2 C.1.1 C.1.2.1 C.1.2.2.2.2.2.2 (C.2.1 _ hw) hd (k C E r)
theorem K_ldc2d {G : GG} {M : MI} {d pc : Nat} {lv : LV} {st : List Value} {h : HP} {n kc kn : Nat} {Q : LV → Nat → List Value → HP → Nat → Prop} {hh : Option (List (Nat × Nat × Nat × Nat))} {i : Nat} {v : UInt64} (hd : decode M.2.1 pc = .ok (.ldc2_w i, 3)) (hw : Cond.constantDouble M.1.cls i v ∈ WS) (k : KJ hh G M d (pc + 3) lv (.double v :: st) h n kc kn Q) : KJ hh G M d pc lv st h n kc kn Q := by
  intro p l e R s m args below meth c A mc ms Z C E H locs cells slots ls r
  exact lv_ldc2d C.1.1 C.1.2.1 C.1.2.2.2.2.2.2 (C.2.1 _ hw) hd (k C E r)
theorem K_iadd {G : GG} {M : MI} {d pc : Nat} {lv : LV} {st : List Value} {h : HP} {n kc kn : Nat} {Q : LV → Nat → List Value → HP → Nat → Prop} {hh : Option (List (Nat × Nat × Nat × Nat))} {x y : Int32} (hd : decode M.2.1 pc = .ok (.iadd, 1)) (k : KJ hh G M d (pc + 1) lv (.int (x + y) :: st) h n kc kn Q) : KJ hh G M d pc lv (.int y :: .int x :: st) h n kc kn Q := by
  intro p l e R s m args below meth c A mc ms Z C E H locs cells slots ls r
  exact lv_iadd C.1.1 C.1.2.1 hd (k C E r)
theorem K_isub {G : GG} {M : MI} {d pc : Nat} {lv : LV} {st : List Value} {h : HP} {n kc kn : Nat} {Q : LV → Nat → List Value → HP → Nat → Prop} {hh : Option (List (Nat × Nat × Nat × Nat))} {x y : Int32} (hd : decode M.2.1 pc = .ok (.isub, 1)) (k : KJ hh G M d (pc + 1) lv (.int (x - y) :: st) h n kc kn Q) : KJ hh G M d pc lv (.int y :: .int x :: st) h n kc kn Q := by
  intro p l e R s m args below meth c A mc ms Z C E H locs cells slots ls r
  exact lv_isub C.1.1 C.1.2.1 hd (k C E r)
theorem K_imul {G : GG} {M : MI} {d pc : Nat} {lv : LV} {st : List Value} {h : HP} {n kc kn : Nat} {Q : LV → Nat → List Value → HP → Nat → Prop} {hh : Option (List (Nat × Nat × Nat × Nat))} {x y : Int32} (hd : decode M.2.1 pc = .ok (.imul, 1)) (k : KJ hh G M d (pc + 1) lv (.int (x * y) :: st) h n kc kn Q) : KJ hh G M d pc lv (.int y :: .int x :: st) h n kc kn Q := by
  intro p l e R s m args below meth c A mc ms Z C E H locs cells slots ls r
  exact lv_imul C.1.1 C.1.2.1 hd (k C E r)
theorem K_iand {G : GG} {M : MI} {d pc : Nat} {lv : LV} {st : List Value} {h : HP} {n kc kn : Nat} {Q : LV → Nat → List Value → HP → Nat → Prop} {hh : Option (List (Nat × Nat × Nat × Nat))} {x y : Int32} (hd : decode M.2.1 pc = .ok (.iand, 1)) (k : KJ hh G M d (pc + 1) lv (.int (x &&& y) :: st) h n kc kn Q) : KJ hh G M d pc lv (.int y :: .int x :: st) h n kc kn Q := by
  intro p l e R s m args below meth c A mc ms Z C E H locs cells slots ls r
  exact lv_iand C.1.1 C.1.2.1 hd (k C E r)
theorem K_ior {G : GG} {M : MI} {d pc : Nat} {lv : LV} {st : List Value} {h : HP} {n kc kn : Nat} {Q : LV → Nat → List Value → HP → Nat → Prop} {hh : Option (List (Nat × Nat × Nat × Nat))} {x y : Int32} (hd : decode M.2.1 pc = .ok (.ior, 1)) (k : KJ hh G M d (pc + 1) lv (.int (x ||| y) :: st) h n kc kn Q) : KJ hh G M d pc lv (.int y :: .int x :: st) h n kc kn Q := by
  intro p l e R s m args below meth c A mc ms Z C E H locs cells slots ls r
  exact lv_ior C.1.1 C.1.2.1 hd (k C E r)
theorem K_ishl {G : GG} {M : MI} {d pc : Nat} {lv : LV} {st : List Value} {h : HP} {n kc kn : Nat} {Q : LV → Nat → List Value → HP → Nat → Prop} {hh : Option (List (Nat × Nat × Nat × Nat))} {x y : Int32} (hd : decode M.2.1 pc = .ok (.ishl, 1)) (k : KJ hh G M d (pc + 1) lv (.int (x <<< (y &&& 31)) :: st) h n kc kn Q) : KJ hh G M d pc lv (.int y :: .int x :: st) h n kc kn Q := by
  intro p l e R s m args below meth c A mc ms Z C E H locs cells slots ls r
  exact lv_ishl C.1.1 C.1.2.1 hd (k C E r)
theorem K_ladd {G : GG} {M : MI} {d pc : Nat} {lv : LV} {st : List Value} {h : HP} {n kc kn : Nat} {Q : LV → Nat → List Value → HP → Nat → Prop} {hh : Option (List (Nat × Nat × Nat × Nat))} {x y : Int64} (hd : decode M.2.1 pc = .ok (.ladd, 1)) (k : KJ hh G M d (pc + 1) lv (.long (x + y) :: st) h n kc kn Q) : KJ hh G M d pc lv (.long y :: .long x :: st) h n kc kn Q := by
  intro p l e R s m args below meth c A mc ms Z C E H locs cells slots ls r
  exact lv_ladd C.1.1 C.1.2.1 hd (k C E r)
theorem K_lsub {G : GG} {M : MI} {d pc : Nat} {lv : LV} {st : List Value} {h : HP} {n kc kn : Nat} {Q : LV → Nat → List Value → HP → Nat → Prop} {hh : Option (List (Nat × Nat × Nat × Nat))} {x y : Int64} (hd : decode M.2.1 pc = .ok (.lsub, 1)) (k : KJ hh G M d (pc + 1) lv (.long (x - y) :: st) h n kc kn Q) : KJ hh G M d pc lv (.long y :: .long x :: st) h n kc kn Q := by
  intro p l e R s m args below meth c A mc ms Z C E H locs cells slots ls r
  exact lv_lsub C.1.1 C.1.2.1 hd (k C E r)
theorem K_lmul {G : GG} {M : MI} {d pc : Nat} {lv : LV} {st : List Value} {h : HP} {n kc kn : Nat} {Q : LV → Nat → List Value → HP → Nat → Prop} {hh : Option (List (Nat × Nat × Nat × Nat))} {x y : Int64} (hd : decode M.2.1 pc = .ok (.lmul, 1)) (k : KJ hh G M d (pc + 1) lv (.long (x * y) :: st) h n kc kn Q) : KJ hh G M d pc lv (.long y :: .long x :: st) h n kc kn Q := by
  intro p l e R s m args below meth c A mc ms Z C E H locs cells slots ls r
  exact lv_lmul C.1.1 C.1.2.1 hd (k C E r)
theorem K_idiv {G : GG} {M : MI} {d pc : Nat} {lv : LV} {st : List Value} {h : HP} {n kc kn : Nat} {Q : LV → Nat → List Value → HP → Nat → Prop} {hh : Option (List (Nat × Nat × Nat × Nat))} {x y : Int32} (hd : decode M.2.1 pc = .ok (.idiv, 1)) (hne : ¬ y = 0) (k : KJ hh G M d (pc + 1) lv (.int (x / y) :: st) h n kc kn Q) : KJ hh G M d pc lv (.int y :: .int x :: st) h n kc kn Q := by
  intro p l e R s m args below meth c A mc ms Z C E H locs cells slots ls r
  exact lv_idiv C.1.1 C.1.2.1 hd hne (k C E r)
theorem K_irem {G : GG} {M : MI} {d pc : Nat} {lv : LV} {st : List Value} {h : HP} {n kc kn : Nat} {Q : LV → Nat → List Value → HP → Nat → Prop} {hh : Option (List (Nat × Nat × Nat × Nat))} {x y : Int32} (hd : decode M.2.1 pc = .ok (.irem, 1)) (hne : ¬ y = 0) (k : KJ hh G M d (pc + 1) lv (.int (x - x / y * y) :: st) h n kc kn Q) : KJ hh G M d pc lv (.int y :: .int x :: st) h n kc kn Q := by
  intro p l e R s m args below meth c A mc ms Z C E H locs cells slots ls r
  exact lv_irem C.1.1 C.1.2.1 hd hne (k C E r)
theorem K_ineg {G : GG} {M : MI} {d pc : Nat} {lv : LV} {st : List Value} {h : HP} {n kc kn : Nat} {Q : LV → Nat → List Value → HP → Nat → Prop} {hh : Option (List (Nat × Nat × Nat × Nat))} {x : Int32} (hd : decode M.2.1 pc = .ok (.ineg, 1)) (k : KJ hh G M d (pc + 1) lv (.int (-x) :: st) h n kc kn Q) : KJ hh G M d pc lv (.int x :: st) h n kc kn Q := by
  intro p l e R s m args below meth c A mc ms Z C E H locs cells slots ls r
  exact lv_ineg C.1.1 C.1.2.1 hd (k C E r)
theorem K_i2l {G : GG} {M : MI} {d pc : Nat} {lv : LV} {st : List Value} {h : HP} {n kc kn : Nat} {Q : LV → Nat → List Value → HP → Nat → Prop} {hh : Option (List (Nat × Nat × Nat × Nat))} {x : Int32} (hd : decode M.2.1 pc = .ok (.i2l, 1)) (k : KJ hh G M d (pc + 1) lv (.long x.toInt64 :: st) h n kc kn Q) : KJ hh G M d pc lv (.int x :: st) h n kc kn Q := by
  intro p l e R s m args below meth c A mc ms Z C E H locs cells slots ls r
  exact lv_i2l C.1.1 C.1.2.1 hd rfl (k C E r)
theorem K_i2d {G : GG} {M : MI} {d pc : Nat} {lv : LV} {st : List Value} {h : HP} {n kc kn : Nat} {Q : LV → Nat → List Value → HP → Nat → Prop} {hh : Option (List (Nat × Nat × Nat × Nat))} {x : Int32} (hd : decode M.2.1 pc = .ok (.i2d, 1)) (k : KJ hh G M d (pc + 1) lv (.double (FP.i2d x) :: st) h n kc kn Q) : KJ hh G M d pc lv (.int x :: st) h n kc kn Q := by
  intro p l e R s m args below meth c A mc ms Z C E H locs cells slots ls r
  exact lv_i2d C.1.1 C.1.2.1 hd (k C E r)
theorem K_d2l {G : GG} {M : MI} {d pc : Nat} {lv : LV} {st : List Value} {h : HP} {n kc kn : Nat} {Q : LV → Nat → List Value → HP → Nat → Prop} {hh : Option (List (Nat × Nat × Nat × Nat))} {x : UInt64} (hd : decode M.2.1 pc = .ok (.d2l, 1)) (k : KJ hh G M d (pc + 1) lv (.long (FP.d2l x) :: st) h n kc kn Q) : KJ hh G M d pc lv (.double x :: st) h n kc kn Q := by
  intro p l e R s m args below meth c A mc ms Z C E H locs cells slots ls r
  exact lv_d2l C.1.1 C.1.2.1 hd (k C E r)
theorem K_lshl {G : GG} {M : MI} {d pc : Nat} {lv : LV} {st : List Value} {h : HP} {n kc kn : Nat} {Q : LV → Nat → List Value → HP → Nat → Prop} {hh : Option (List (Nat × Nat × Nat × Nat))} {x : Int64} {y : Int32} (hd : decode M.2.1 pc = .ok (.lshl, 1)) (k : KJ hh G M d (pc + 1) lv (.long (x <<< (y.toInt64 &&& 63)) :: st) h n kc kn Q) : KJ hh G M d pc lv (.int y :: .long x :: st) h n kc kn Q := by
  intro p l e R s m args below meth c A mc ms Z C E H locs cells slots ls r
  exact lv_lshl C.1.1 C.1.2.1 hd rfl (k C E r)
theorem K_lcmp {G : GG} {M : MI} {d pc : Nat} {lv : LV} {st : List Value} {h : HP} {n kc kn : Nat} {Q : LV → Nat → List Value → HP → Nat → Prop} {hh : Option (List (Nat × Nat × Nat × Nat))} {x y : Int64} (hd : decode M.2.1 pc = .ok (.lcmp, 1)) (k : KJ hh G M d (pc + 1) lv (.int (lg_cmp x y) :: st) h n kc kn Q) : KJ hh G M d pc lv (.long y :: .long x :: st) h n kc kn Q := by
  intro p l e R s m args below meth c A mc ms Z C E H locs cells slots ls r
  exact W.lcmp C.1.1 C.1.2.1 hd (k C E r)
theorem K_dcmp {G : GG} {M : MI} {d pc : Nat} {lv : LV} {st : List Value} {h : HP} {n kc kn : Nat} {Q : LV → Nat → List Value → HP → Nat → Prop} {hh : Option (List (Nat × Nat × Nat × Nat))} {x y : UInt64} {op : CmpOp} (hd : decode M.2.1 pc = .ok (.dcmp op, 1)) (k : KJ hh G M d (pc + 1) lv (.int (Op.cmpValue (FP.dcmp x y) op) :: st) h n kc kn Q) : KJ hh G M d pc lv (.double y :: .double x :: st) h n kc kn Q := by
  intro p l e R s m args below meth c A mc ms Z C E H locs cells slots ls r
  exact lv_dcmp C.1.1 C.1.2.1 hd (k C E r)
theorem K_dmul {G : GG} {M : MI} {d pc : Nat} {lv : LV} {st : List Value} {h : HP} {n kc kn : Nat} {Q : LV → Nat → List Value → HP → Nat → Prop} {hh : Option (List (Nat × Nat × Nat × Nat))} {x y : UInt64} (hd : decode M.2.1 pc = .ok (.dmul, 1)) (hne : vf_n64 (FP.dmul x y)) (k : KJ hh G M d (pc + 1) lv (.double (FP.dmul x y) :: st) h n kc kn Q) : KJ hh G M d pc lv (.double y :: .double x :: st) h n kc kn Q := by
  intro p l e R s m args below meth c A mc ms Z C E H locs cells slots ls r
  exact lv_dmul C.1.1 C.1.2.1 hd hne (k C E r)
theorem K_ddiv {G : GG} {M : MI} {d pc : Nat} {lv : LV} {st : List Value} {h : HP} {n kc kn : Nat} {Q : LV → Nat → List Value → HP → Nat → Prop} {hh : Option (List (Nat × Nat × Nat × Nat))} {x y : UInt64} (hd : decode M.2.1 pc = .ok (.ddiv, 1)) (hne : vf_n64 (FP.ddiv x y)) (k : KJ hh G M d (pc + 1) lv (.double (FP.ddiv x y) :: st) h n kc kn Q) : KJ hh G M d pc lv (.double y :: .double x :: st) h n kc kn Q := by
  intro p l e R s m args below meth c A mc ms Z C E H locs cells slots ls r
  exact lv_ddiv C.1.1 C.1.2.1 hd hne (k C E r)
theorem K_dsub {G : GG} {M : MI} {d pc : Nat} {lv : LV} {st : List Value} {h : HP} {n kc kn : Nat} {Q : LV → Nat → List Value → HP → Nat → Prop} {hh : Option (List (Nat × Nat × Nat × Nat))} {x y : UInt64} (hd : decode M.2.1 pc = .ok (.dsub, 1)) (hne : vf_n64 (FP.dsub x y)) (k : KJ hh G M d (pc + 1) lv (.double (FP.dsub x y) :: st) h n kc kn Q) : KJ hh G M d pc lv (.double y :: .double x :: st) h n kc kn Q := by
  intro p l e R s m args below meth c A mc ms Z C E H locs cells slots ls r
  exact lv_dsub C.1.1 C.1.2.1 hd hne (k C E r)
theorem K_dup {G : GG} {M : MI} {d pc : Nat} {lv : LV} {st : List Value} {h : HP} {n kc kn : Nat} {Q : LV → Nat → List Value → HP → Nat → Prop} {hh : Option (List (Nat × Nat × Nat × Nat))} {v : Value} (hd : decode M.2.1 pc = .ok (.dup, 1)) (hv : v.category = 1) (k : KJ hh G M d (pc + 1) lv (v :: v :: st) h n kc kn Q) : KJ hh G M d pc lv (v :: st) h n kc kn Q := by
  intro p l e R s m args below meth c A mc ms Z C E H locs cells slots ls r
  exact lv_dup C.1.1 C.1.2.1 hd hv (k C E r)
theorem K_dup2 {G : GG} {M : MI} {d pc : Nat} {lv : LV} {st : List Value} {h : HP} {n kc kn : Nat} {Q : LV → Nat → List Value → HP → Nat → Prop} {hh : Option (List (Nat × Nat × Nat × Nat))} {v w : Value} (hd : decode M.2.1 pc = .ok (.dup2, 1)) (hv : v.category = 1) (hw : w.category = 1) (k : KJ hh G M d (pc + 1) lv (v :: w :: v :: w :: st) h n kc kn Q) : KJ hh G M d pc lv (v :: w :: st) h n kc kn Q := by
  intro p l e R s m args below meth c A mc ms Z C E H locs cells slots ls r
  exact lv_dup2_11 C.1.1 C.1.2.1 hd hv hw (k C E r)
theorem K_pop {G : GG} {M : MI} {d pc : Nat} {lv : LV} {st : List Value} {h : HP} {n kc kn : Nat} {Q : LV → Nat → List Value → HP → Nat → Prop} {hh : Option (List (Nat × Nat × Nat × Nat))} {v : Value} (hd : decode M.2.1 pc = .ok (.pop, 1)) (hv : v.category = 1) (k : KJ hh G M d (pc + 1) lv st h n kc kn Q) : KJ hh G M d pc lv (v :: st) h n kc kn Q := by
  intro p l e R s m args below meth c A mc ms Z C E H locs cells slots ls r
  exact lv_pop C.1.1 C.1.2.1 hd hv (k C E r)
theorem K_istore {G : GG} {M : MI} {d pc : Nat} {lv : LV} {st : List Value} {h : HP} {n kc kn : Nat} {Q : LV → Nat → List Value → HP → Nat → Prop} {hh : Option (List (Nat × Nat × Nat × Nat))} {i : Nat} {x : Int32} (hd : decode M.2.1 pc = .ok (.istore i, 2)) (hi : i < M.2.2.1) (hk : lok lv i = true) (k : KJ hh G M d (pc + 2) ((i, .int x) :: lv) st h n kc kn Q) : KJ hh G M d pc lv (.int x :: st) h n kc kn Q := by
  intro p l e R s m args below meth c A mc ms Z C E H locs cells slots ls r
  exact lv_istore C.1.1 C.1.2.1 hd r.2.2.2.1.has hi rfl (fun ls' h' => k C E ⟨r.1, r.2.1, r.2.2.1, r.2.2.2.1.put1 hk h', r.2.2.2.2⟩)
theorem K_istore_n {G : GG} {M : MI} {d pc : Nat} {lv : LV} {st : List Value} {h : HP} {n kc kn : Nat} {Q : LV → Nat → List Value → HP → Nat → Prop} {hh : Option (List (Nat × Nat × Nat × Nat))} {j : Fin 4} {x : Int32} (hd : decode M.2.1 pc = .ok (.istore_n j, 1)) (hi : j.val < M.2.2.1) (hk : lok lv j.val = true) (k : KJ hh G M d (pc + 1) ((j.val, .int x) :: lv) st h n kc kn Q) : KJ hh G M d pc lv (.int x :: st) h n kc kn Q := by
  intro p l e R s m args below meth c A mc ms Z C E H locs cells slots ls r
  exact lv_istore_n C.1.1 C.1.2.1 hd rfl r.2.2.2.1.has hi rfl (fun ls' h' => k C E ⟨r.1, r.2.1, r.2.2.1, r.2.2.2.1.put1 hk h', r.2.2.2.2⟩)
theorem K_astore {G : GG} {M : MI} {d pc : Nat} {lv : LV} {st : List Value} {h : HP} {n kc kn : Nat} {Q : LV → Nat → List Value → HP → Nat → Prop} {hh : Option (List (Nat × Nat × Nat × Nat))} {i : Nat} {x : Nat} (hd : decode M.2.1 pc = .ok (.astore i, 2)) (hi : i < M.2.2.1) (hk : lok lv i = true) (k : KJ hh G M d (pc + 2) ((i, .ref x) :: lv) st h n kc kn Q) : KJ hh G M d pc lv (.ref x :: st) h n kc kn Q := by
  intro p l e R s m args below meth c A mc ms Z C E H locs cells slots ls r
  exact lv_astore C.1.1 C.1.2.1 hd r.2.2.2.1.has hi rfl (fun ls' h' => k C E ⟨r.1, r.2.1, r.2.2.1, r.2.2.2.1.put1 hk h', r.2.2.2.2⟩)
theorem K_astore_n {G : GG} {M : MI} {d pc : Nat} {lv : LV} {st : List Value} {h : HP} {n kc kn : Nat} {Q : LV → Nat → List Value → HP → Nat → Prop} {hh : Option (List (Nat × Nat × Nat × Nat))} {j : Fin 4} {x : Nat} (hd : decode M.2.1 pc = .ok (.astore_n j, 1)) (hi : j.val < M.2.2.1) (hk : lok lv j.val = true) (k : KJ hh G M d (pc + 1) ((j.val, .ref x) :: lv) st h n kc kn Q) : KJ hh G M d pc lv (.ref x :: st) h n kc kn Q := by
  intro p l e R s m args below meth c A mc ms Z C E H locs cells slots ls r
  exact lv_astore_n C.1.1 C.1.2.1 hd rfl r.2.2.2.1.has hi rfl (fun ls' h' => k C E ⟨r.1, r.2.1, r.2.2.1, r.2.2.2.1.put1 hk h', r.2.2.2.2⟩)
theorem K_astoreN {G : GG} {M : MI} {d pc : Nat} {lv : LV} {st : List Value} {h : HP} {n kc kn : Nat} {Q : LV → Nat → List Value → HP → Nat → Prop} {hh : Option (List (Nat × Nat × Nat × Nat))} {i : Nat} (hd : decode M.2.1 pc = .ok (.astore i, 2)) (hi : i < M.2.2.1) (hk : lok lv i = true) (k : KJ hh G M d (pc + 2) ((i, .null) :: lv) st h n kc kn Q) : KJ hh G M d pc lv (.null :: st) h n kc kn Q := by
  intro p l e R s m args below meth c A mc ms Z C E H locs cells slots ls r
  exact lv_astoreN C.1.1 C.1.2.1 hd r.2.2.2.1.has hi rfl (fun ls' h' => k C E ⟨r.1, r.2.1, r.2.2.1, r.2.2.2.1.put1 hk h', r.2.2.2.2⟩)
theorem K_astoreN_n {G : GG} {M : MI} {d pc : Nat} {lv : LV} {st : List Value} {h : HP} {n kc kn : Nat} {Q : LV → Nat → List Value → HP → Nat → Prop} {hh : Option (List (Nat × Nat × Nat × Nat))} {j : Fin 4} (hd : decode M.2.1 pc = .ok (.astore_n j, 1)) (hi : j.val < M.2.2.1) (hk : lok lv j.val = true) (k : KJ hh G M d (pc + 1) ((j.val, .null) :: lv) st h n kc kn Q) : KJ hh G M d pc lv (.null :: st) h n kc kn Q := by
  intro p l e R s m args below meth c A mc ms Z C E H locs cells slots ls r
  exact lv_astore_nN C.1.1 C.1.2.1 hd rfl r.2.2.2.1.has hi rfl (fun ls' h' => k C E ⟨r.1, r.2.1, r.2.2.1, r.2.2.2.1.put1 hk h', r.2.2.2.2⟩)
theorem K_lstore {G : GG} {M : MI} {d pc : Nat} {lv : LV} {st : List Value} {h : HP} {n kc kn : Nat} {Q : LV → Nat → List Value → HP → Nat → Prop} {hh : Option (List (Nat × Nat × Nat × Nat))} {i : Nat} {x : Int64} (hd : decode M.2.1 pc = .ok (.lstore i, 2)) (hi : i + 1 < M.2.2.1) (hk : lok lv i = true) (k : KJ hh G M d (pc + 2) (lput2 lv i (.long x)) st h n kc kn Q) : KJ hh G M d pc lv (.long x :: st) h n kc kn Q := by
  intro p l e R s m args below meth c A mc ms Z C E H locs cells slots ls r
  exact lv_lstore C.1.1 C.1.2.1 hd r.2.2.2.1.has hi rfl (fun ls' h' => k C E ⟨r.1, r.2.1, r.2.2.1, r.2.2.2.1.put2 hk h', r.2.2.2.2⟩)
theorem K_lstore_n {G : GG} {M : MI} {d pc : Nat} {lv : LV} {st : List Value} {h : HP} {n kc kn : Nat} {Q : LV → Nat → List Value → HP → Nat → Prop} {hh : Option (List (Nat × Nat × Nat × Nat))} {j : Fin 4} {x : Int64} (hd : decode M.2.1 pc = .ok (.lstore_n j, 1)) (hi : j.val + 1 < M.2.2.1) (hk : lok lv j.val = true) (k : KJ hh G M d (pc + 1) (lput2 lv j.val (.long x)) st h n kc kn Q) : KJ hh G M d pc lv (.long x :: st) h n kc kn Q := by
  intro p l e R s m args below meth c A mc ms Z C E H locs cells slots ls r
  exact lv_lstore_n C.1.1 C.1.2.1 hd rfl r.2.2.2.1.has hi rfl (fun ls' h' => k C E ⟨r.1, r.2.1, r.2.2.1, r.2.2.2.1.put2 hk h', r.2.2.2.2⟩)
theorem K_dstore {G : GG} {M : MI} {d pc : Nat} {lv : LV} {st : List Value} {h : HP} {n kc kn : Nat} {Q : LV → Nat → List Value → HP → Nat → Prop} {hh : Option (List (Nat × Nat × Nat × Nat))} {i : Nat} {x : UInt64} (hd : decode M.2.1 pc = .ok (.dstore i, 2)) (hi : i + 1 < M.2.2.1) (hk : lok lv i = true) (k : KJ hh G M d (pc + 2) (lput2 lv i (.double x)) st h n kc kn Q) : KJ hh G M d pc lv (.double x :: st) h n kc kn Q := by
  intro p l e R s m args below meth c A mc ms Z C E H locs cells slots ls r
  exact lv_dstore C.1.1 C.1.2.1 hd r.2.2.2.1.has hi rfl (fun ls' h' => k C E ⟨r.1, r.2.1, r.2.2.1, r.2.2.2.1.put2 hk h', r.2.2.2.2⟩)
theorem K_dstore_n {G : GG} {M : MI} {d pc : Nat} {lv : LV} {st : List Value} {h : HP} {n kc kn : Nat} {Q : LV → Nat → List Value → HP → Nat → Prop} {hh : Option (List (Nat × Nat × Nat × Nat))} {j : Fin 4} {x : UInt64} (hd : decode M.2.1 pc = .ok (.dstore_n j, 1)) (hi : j.val + 1 < M.2.2.1) (hk : lok lv j.val = true) (k : KJ hh G M d (pc + 1) (lput2 lv j.val (.double x)) st h n kc kn Q) : KJ hh G M d pc lv (.double x :: st) h n kc kn Q := by
  intro p l e R s m args below meth c A mc ms Z C E H locs cells slots ls r
  exact lv_dstore_n C.1.1 C.1.2.1 hd rfl r.2.2.2.1.has hi rfl (fun ls' h' => k C E ⟨r.1, r.2.1, r.2.2.1, r.2.2.2.1.put2 hk h', r.2.2.2.2⟩)
theorem K_iinc {G : GG} {M : MI} {d pc : Nat} {lv : LV} {st : List Value} {h : HP} {n kc kn : Nat} {Q : LV → Nat → List Value → HP → Nat → Prop} {hh : Option (List (Nat × Nat × Nat × Nat))} {i : Nat} {z : Int} {x v : Int32} (hd : decode M.2.1 pc = .ok (.iinc i z, 3)) (hx : lget lv i = some (.int x)) (hv : Int32.ofInt z = v) (hk : lok lv i = true) (k : KJ hh G M d (pc + 3) ((i, .int (x + v)) :: lv) st h n kc kn Q) : KJ hh G M d pc lv st h n kc kn Q := by
  intro p l e R s m args below meth c A mc ms Z C E H locs cells slots ls r
  subst hv
  obtain ⟨k0, hk0⟩ := List.getElem?_of_mem (mem_lcl (q := (i, .int x)).mpr ⟨r.2.2.2.1.in hx, hx⟩)
  exact lv_iinc C.1.1 C.1.2.1 hd r.2.2.2.1.has hk0 rfl (r.2.2.2.1.in hx) rfl (fun ls' h' => k C E ⟨r.1, r.2.1, r.2.2.1, r.2.2.2.1.put1 hk h', r.2.2.2.2⟩)
theorem K_goto {G : GG} {M : MI} {d pc : Nat} {lv : LV} {st : List Value} {h : HP} {n kc kn : Nat} {Q : LV → Nat → List Value → HP → Nat → Prop} {hh : Option (List (Nat × Nat × Nat × Nat))} {off : Int} {tgt : Nat} (hd : decode M.2.1 pc = .ok (.goto off, 3)) (ht : (pc : Int) + off = (tgt : Int)) (k : KJ hh G M d tgt lv st h n kc kn Q) : KJ hh G M d pc lv st h n kc kn Q := by
  intro p l e R s m args below meth c A mc ms Z C E H locs cells slots ls r
  exact lv_goto C.1.1 C.1.2.1 hd ht (k C E r)
theorem K_tableIn {G : GG} {M : MI} {d pc : Nat} {lv : LV} {st : List Value} {h : HP} {n kc kn : Nat} {Q : LV → Nat → List Value → HP → Nat → Prop} {hh : Option (List (Nat × Nat × Nat × Nat))} {dflt lo hi : Int} {offs : Array Int} {len : Nat} {x : Int32} {off : Int} {tgt : Nat} (hd : decode M.2.1 pc = .ok (.tableswitch dflt lo hi offs, len)) (h1 : ¬ x.toInt < lo) (h2 : ¬ hi < x.toInt) (ho : offs[(x.toInt - lo).toNat]? = some off) (ht : (pc : Int) + off = (tgt : Int)) (k : KJ hh G M d tgt lv st h n kc kn Q) : KJ hh G M d pc lv (.int x :: st) h n kc kn Q := by
  intro p l e R s m args below meth c A mc ms Z C E H locs cells slots ls r
  exact lv_tableIn C.1.1 C.1.2.1 hd h1 h2 ho ht (k C E r)
theorem K_tableOut {G : GG} {M : MI} {d pc : Nat} {lv : LV} {st : List Value} {h : HP} {n kc kn : Nat} {Q : LV → Nat → List Value → HP → Nat → Prop} {hh : Option (List (Nat × Nat × Nat × Nat))} {dflt lo hi : Int} {offs : Array Int} {len : Nat} {x : Int32} {tgt : Nat} (hd : decode M.2.1 pc = .ok (.tableswitch dflt lo hi offs, len)) (hx : x.toInt < lo ∨ hi < x.toInt) (ht : (pc : Int) + dflt = (tgt : Int)) (k : KJ hh G M d tgt lv st h n kc kn Q) : KJ hh G M d pc lv (.int x :: st) h n kc kn Q := by
  intro p l e R s m args below meth c A mc ms Z C E H locs cells slots ls r
  exact lv_tableOut C.1.1 C.1.2.1 hd hx ht (k C E r)
theorem K_lookup {G : GG} {M : MI} {d pc : Nat} {lv : LV} {st : List Value} {h : HP} {n kc kn : Nat} {Q : LV → Nat → List Value → HP → Nat → Prop} {hh : Option (List (Nat × Nat × Nat × Nat))} {dflt : Int} {ps : Array (Int × Int)} {len : Nat} {x : Int32} {off : Int} {tgt : Nat} (hd : decode M.2.1 pc = .ok (.lookupswitch dflt ps, len)) (hp : (ps.toList.zip (ps.toList.drop 1)).all (fun (a, next) => a.1 < next.1) = true) (ho : Op.lookupswitch.offset ps.toList dflt x.toInt = off) (ht : (pc : Int) + off = (tgt : Int)) (k : KJ hh G M d tgt lv st h n kc kn Q) : KJ hh G M d pc lv (.int x :: st) h n kc kn Q := by
  intro p l e R s m args below meth c A mc ms Z C E H locs cells slots ls r
  exact lv_lookup C.1.1 C.1.2.1 hd hp ho ht (k C E r)
theorem K_ifnull {G : GG} {M : MI} {d pc : Nat} {lv : LV} {st : List Value} {h : HP} {n kc kn : Nat} {Q : LV → Nat → List Value → HP → Nat → Prop} {hh : Option (List (Nat × Nat × Nat × Nat))} {x : Nat} {off : Int} (hd : decode M.2.1 pc = .ok (.ifnull off, 3)) (k : KJ hh G M d (pc + 3) lv st h n kc kn Q) : KJ hh G M d pc lv (.ref x :: st) h n kc kn Q := by
  intro p l e R s m args below meth c A mc ms Z C E H locs cells slots ls r
  exact lv_ifnull C.1.1 C.1.2.1 hd (k C E r)
theorem K_ifnonnull {G : GG} {M : MI} {d pc : Nat} {lv : LV} {st : List Value} {h : HP} {n kc kn : Nat} {Q : LV → Nat → List Value → HP → Nat → Prop} {hh : Option (List (Nat × Nat × Nat × Nat))} {x : Nat} {off : Int} {tgt : Nat} (hd : decode M.2.1 pc = .ok (.ifnonnull off, 3)) (ht : (pc : Int) + off = (tgt : Int)) (k : KJ hh G M d tgt lv st h n kc kn Q) : KJ hh G M d pc lv (.ref x :: st) h n kc kn Q := by
  intro p l e R s m args below meth c A mc ms Z C E H locs cells slots ls r
  exact lv_ifnonnull C.1.1 C.1.2.1 hd ht (k C E r)
theorem K_ifnullN {G : GG} {M : MI} {d pc : Nat} {lv : LV} {st : List Value} {h : HP} {n kc kn : Nat} {Q : LV → Nat → List Value → HP → Nat → Prop} {hh : Option (List (Nat × Nat × Nat × Nat))} {off : Int} {tgt : Nat} (hd : decode M.2.1 pc = .ok (.ifnull off, 3)) (ht : (pc : Int) + off = (tgt : Int)) (k : KJ hh G M d tgt lv st h n kc kn Q) : KJ hh G M d pc lv (.null :: st) h n kc kn Q := by
  intro p l e R s m args below meth c A mc ms Z C E H locs cells slots ls r
  exact lv_ifnullN C.1.1 C.1.2.1 hd ht (k C E r)
theorem K_ifnonnullN {G : GG} {M : MI} {d pc : Nat} {lv : LV} {st : List Value} {h : HP} {n kc kn : Nat} {Q : LV → Nat → List Value → HP → Nat → Prop} {hh : Option (List (Nat × Nat × Nat × Nat))} {off : Int} (hd : decode M.2.1 pc = .ok (.ifnonnull off, 3)) (k : KJ hh G M d (pc + 3) lv st h n kc kn Q) : KJ hh G M d pc lv (.null :: st) h n kc kn Q := by
  intro p l e R s m args below meth c A mc ms Z C E H locs cells slots ls r
  exact lv_ifnonnullN C.1.1 C.1.2.1 hd (k C E r)
theorem K_if_eq {G : GG} {M : MI} {d pc : Nat} {lv : LV} {st : List Value} {h : HP} {n kc kn : Nat} {Q : LV → Nat → List Value → HP → Nat → Prop} {hh : Option (List (Nat × Nat × Nat × Nat))} {x : Int32} {off : Int} {tgt : Nat} (hd : decode M.2.1 pc = .ok (.ifCond .eq off, 3)) (ht : (pc : Int) + off = (tgt : Int)) (kt : x = 0 → KJ hh G M d tgt lv st h n kc kn Q) (kf : ¬ x = 0 → KJ hh G M d (pc + 3) lv st h n kc kn Q) : KJ hh G M d pc lv (.int x :: st) h n kc kn Q := by
  intro p l e R s m args below meth c A mc ms Z C E H locs cells slots ls r
  exact lv_if_eq C.1.1 C.1.2.1 hd ht (fun q => kt q C E r) (fun q => kf q C E r)
theorem K_if_ne {G : GG} {M : MI} {d pc : Nat} {lv : LV} {st : List Value} {h : HP} {n kc kn : Nat} {Q : LV → Nat → List Value → HP → Nat → Prop} {hh : Option (List (Nat × Nat × Nat × Nat))} {x : Int32} {off : Int} {tgt : Nat} (hd : decode M.2.1 pc = .ok (.ifCond .ne off, 3)) (ht : (pc : Int) + off = (tgt : Int)) (kt : ¬ x = 0 → KJ hh G M d tgt lv st h n kc kn Q) (kf : x = 0 → KJ hh G M d (pc + 3) lv st h n kc kn Q) : KJ hh G M d pc lv (.int x :: st) h n kc kn Q := by
  intro p l e R s m args below meth c A mc ms Z C E H locs cells slots ls r
  exact lv_if_ne C.1.1 C.1.2.1 hd ht (fun q => kt q C E r) (fun q => kf q C E r)
theorem K_if_lt {G : GG} {M : MI} {d pc : Nat} {lv : LV} {st : List Value} {h : HP} {n kc kn : Nat} {Q : LV → Nat → List Value → HP → Nat → Prop} {hh : Option (List (Nat × Nat × Nat × Nat))} {x : Int32} {off : Int} {tgt : Nat} (hd : decode M.2.1 pc = .ok (.ifCond .lt off, 3)) (ht : (pc : Int) + off = (tgt : Int)) (kt : x < 0 → KJ hh G M d tgt lv st h n kc kn Q) (kf : ¬ x < 0 → KJ hh G M d (pc + 3) lv st h n kc kn Q) : KJ hh G M d pc lv (.int x :: st) h n kc kn Q := by
  intro p l e R s m args below meth c A mc ms Z C E H locs cells slots ls r
  exact lv_if_lt C.1.1 C.1.2.1 hd ht (fun q => kt q C E r) (fun q => kf q C E r)
theorem K_if_ge {G : GG} {M : MI} {d pc : Nat} {lv : LV} {st : List Value} {h : HP} {n kc kn : Nat} {Q : LV → Nat → List Value → HP → Nat → Prop} {hh : Option (List (Nat × Nat × Nat × Nat))} {x : Int32} {off : Int} {tgt : Nat} (hd : decode M.2.1 pc = .ok (.ifCond .ge off, 3)) (ht : (pc : Int) + off = (tgt : Int)) (kt : 0 ≤ x → KJ hh G M d tgt lv st h n kc kn Q) (kf : ¬ 0 ≤ x → KJ hh G M d (pc + 3) lv st h n kc kn Q) : KJ hh G M d pc lv (.int x :: st) h n kc kn Q := by
  intro p l e R s m args below meth c A mc ms Z C E H locs cells slots ls r
  exact lv_if_ge C.1.1 C.1.2.1 hd ht (fun q => kt q C E r) (fun q => kf q C E r)
theorem K_if_gt {G : GG} {M : MI} {d pc : Nat} {lv : LV} {st : List Value} {h : HP} {n kc kn : Nat} {Q : LV → Nat → List Value → HP → Nat → Prop} {hh : Option (List (Nat × Nat × Nat × Nat))} {x : Int32} {off : Int} {tgt : Nat} (hd : decode M.2.1 pc = .ok (.ifCond .gt off, 3)) (ht : (pc : Int) + off = (tgt : Int)) (kt : 0 < x → KJ hh G M d tgt lv st h n kc kn Q) (kf : ¬ 0 < x → KJ hh G M d (pc + 3) lv st h n kc kn Q) : KJ hh G M d pc lv (.int x :: st) h n kc kn Q := by
  intro p l e R s m args below meth c A mc ms Z C E H locs cells slots ls r
  exact lv_if_gt C.1.1 C.1.2.1 hd ht (fun q => kt q C E r) (fun q => kf q C E r)
theorem K_if_le {G : GG} {M : MI} {d pc : Nat} {lv : LV} {st : List Value} {h : HP} {n kc kn : Nat} {Q : LV → Nat → List Value → HP → Nat → Prop} {hh : Option (List (Nat × Nat × Nat × Nat))} {x : Int32} {off : Int} {tgt : Nat} (hd : decode M.2.1 pc = .ok (.ifCond .le off, 3)) (ht : (pc : Int) + off = (tgt : Int)) (kt : x ≤ 0 → KJ hh G M d tgt lv st h n kc kn Q) (kf : ¬ x ≤ 0 → KJ hh G M d (pc + 3) lv st h n kc kn Q) : KJ hh G M d pc lv (.int x :: st) h n kc kn Q := by
  intro p l e R s m args below meth c A mc ms Z C E H locs cells slots ls r
  exact lv_if_le C.1.1 C.1.2.1 hd ht (fun q => kt q C E r) (fun q => kf q C E r)
theorem K_icmp_eq {G : GG} {M : MI} {d pc : Nat} {lv : LV} {st : List Value} {h : HP} {n kc kn : Nat} {Q : LV → Nat → List Value → HP → Nat → Prop} {hh : Option (List (Nat × Nat × Nat × Nat))} {x y : Int32} {off : Int} {tgt : Nat} (hd : decode M.2.1 pc = .ok (.if_icmp .eq off, 3)) (ht : (pc : Int) + off = (tgt : Int)) (kt : x = y → KJ hh G M d tgt lv st h n kc kn Q) (kf : ¬ x = y → KJ hh G M d (pc + 3) lv st h n kc kn Q) : KJ hh G M d pc lv (.int y :: .int x :: st) h n kc kn Q := by
  intro p l e R s m args below meth c A mc ms Z C E H locs cells slots ls r
  exact lv_icmp_eq C.1.1 C.1.2.1 hd ht (fun q => kt q C E r) (fun q => kf q C E r)
theorem K_icmp_ne {G : GG} {M : MI} {d pc : Nat} {lv : LV} {st : List Value} {h : HP} {n kc kn : Nat} {Q : LV → Nat → List Value → HP → Nat → Prop} {hh : Option (List (Nat × Nat × Nat × Nat))} {x y : Int32} {off : Int} {tgt : Nat} (hd : decode M.2.1 pc = .ok (.if_icmp .ne off, 3)) (ht : (pc : Int) + off = (tgt : Int)) (kt : ¬ x = y → KJ hh G M d tgt lv st h n kc kn Q) (kf : x = y → KJ hh G M d (pc + 3) lv st h n kc kn Q) : KJ hh G M d pc lv (.int y :: .int x :: st) h n kc kn Q := by
  intro p l e R s m args below meth c A mc ms Z C E H locs cells slots ls r
  exact lv_icmp_ne C.1.1 C.1.2.1 hd ht (fun q => kt q C E r) (fun q => kf q C E r)
theorem K_icmp_lt {G : GG} {M : MI} {d pc : Nat} {lv : LV} {st : List Value} {h : HP} {n kc kn : Nat} {Q : LV → Nat → List Value → HP → Nat → Prop} {hh : Option (List (Nat × Nat × Nat × Nat))} {x y : Int32} {off : Int} {tgt : Nat} (hd : decode M.2.1 pc = .ok (.if_icmp .lt off, 3)) (ht : (pc : Int) + off = (tgt : Int)) (kt : x < y → KJ hh G M d tgt lv st h n kc kn Q) (kf : ¬ x < y → KJ hh G M d (pc + 3) lv st h n kc kn Q) : KJ hh G M d pc lv (.int y :: .int x :: st) h n kc kn Q := by
  intro p l e R s m args below meth c A mc ms Z C E H locs cells slots ls r
  exact lv_icmp_lt C.1.1 C.1.2.1 hd ht (fun q => kt q C E r) (fun q => kf q C E r)
theorem K_icmp_ge {G : GG} {M : MI} {d pc : Nat} {lv : LV} {st : List Value} {h : HP} {n kc kn : Nat} {Q : LV → Nat → List Value → HP → Nat → Prop} {hh : Option (List (Nat × Nat × Nat × Nat))} {x y : Int32} {off : Int} {tgt : Nat} (hd : decode M.2.1 pc = .ok (.if_icmp .ge off, 3)) (ht : (pc : Int) + off = (tgt : Int)) (kt : y ≤ x → KJ hh G M d tgt lv st h n kc kn Q) (kf : ¬ y ≤ x → KJ hh G M d (pc + 3) lv st h n kc kn Q) : KJ hh G M d pc lv (.int y :: .int x :: st) h n kc kn Q := by
  intro p l e R s m args below meth c A mc ms Z C E H locs cells slots ls r
  exact lv_icmp_ge C.1.1 C.1.2.1 hd ht (fun q => kt q C E r) (fun q => kf q C E r)
theorem K_icmp_gt {G : GG} {M : MI} {d pc : Nat} {lv : LV} {st : List Value} {h : HP} {n kc kn : Nat} {Q : LV → Nat → List Value → HP → Nat → Prop} {hh : Option (List (Nat × Nat × Nat × Nat))} {x y : Int32} {off : Int} {tgt : Nat} (hd : decode M.2.1 pc = .ok (.if_icmp .gt off, 3)) (ht : (pc : Int) + off = (tgt : Int)) (kt : y < x → KJ hh G M d tgt lv st h n kc kn Q) (kf : ¬ y < x → KJ hh G M d (pc + 3) lv st h n kc kn Q) : KJ hh G M d pc lv (.int y :: .int x :: st) h n kc kn Q := by
  intro p l e R s m args below meth c A mc ms Z C E H locs cells slots ls r
  exact lv_icmp_gt C.1.1 C.1.2.1 hd ht (fun q => kt q C E r) (fun q => kf q C E r)
theorem K_icmp_le {G : GG} {M : MI} {d pc : Nat} {lv : LV} {st : List Value} {h : HP} {n kc kn : Nat} {Q : LV → Nat → List Value → HP → Nat → Prop} {hh : Option (List (Nat × Nat × Nat × Nat))} {x y : Int32} {off : Int} {tgt : Nat} (hd : decode M.2.1 pc = .ok (.if_icmp .le off, 3)) (ht : (pc : Int) + off = (tgt : Int)) (kt : x ≤ y → KJ hh G M d tgt lv st h n kc kn Q) (kf : ¬ x ≤ y → KJ hh G M d (pc + 3) lv st h n kc kn Q) : KJ hh G M d pc lv (.int y :: .int x :: st) h n kc kn Q := by
  intro p l e R s m args below meth c A mc ms Z C E H locs cells slots ls r
  exact lv_icmp_le C.1.1 C.1.2.1 hd ht (fun q => kt q C E r) (fun q => kf q C E r)
theorem K_topi {G : GG} {M : MI} {d pc : Nat} {lv : LV} {st : List Value} {h : HP} {n kc kn : Nat} {Q : LV → Nat → List Value → HP → Nat → Prop} {hh : Option (List (Nat × Nat × Nat × Nat))} {x y : Int32} (e : x = y) (j : KJ hh G M d pc lv (.int y :: st) h n kc kn Q) : KJ hh G M d pc lv (.int x :: st) h n kc kn Q := e ▸ j
section KR
variable {G : GG} {M M2 : MI} {d pc : Nat} {lv : LV} {st : List Value} {h : HP} {n kc kn : Nat} {Q : LV → Nat → List Value → HP → Nat → Prop} {hh : Option (List (Nat × Nat × Nat × Nat))}
theorem K_iald {a N : Nat} {f : Nat → Int32} {i : Int32} (hd : decode M.2.1 pc = .ok (.iaload, 1)) (ha : h a = some (.inl (G.2.1 0, N, .inl f))) (hi : vp_in i N) (j : KJ hh G M d (pc + 1) lv (.int (f i.toNatClampNeg) :: st) h n kc kn Q) : KJ hh G M d pc lv (.int i :: .ref a :: st) h n kc kn Q := by
  intro p l e R s m args below meth c A mc ms Z C E H locs cells slots ls r
  obtain ⟨⟨L, hL, hP, hD⟩, hr⟩ := id r
  obtain ⟨q0, hq0⟩ := pl_get (f := hF h) ((hL a).mpr (by rw [ha]; simp))
  rw [hF_of ha] at hq0
  exact va_iald C.1.1 C.1.2.1 C.2.2.1 hP q0 0 hq0 rfl hi hd (j C E r)
theorem K_iast {a N : Nat} {f : Nat → Int32} {i x : Int32} (hd : decode M.2.1 pc = .ok (.iastore, 1)) (ha : h a = some (.inl (G.2.1 0, N, .inl f))) (hi : vp_in i N) (j : KJ hh G M d (pc + 1) lv st (hset h a (.inl (G.2.1 0, N, .inl (upd f i.toNatClampNeg x)))) n kc kn Q) : KJ hh G M d pc lv (.int x :: .int i :: .ref a :: st) h n kc kn Q := by
  intro p l e R s m args below meth c A mc ms Z C E H locs cells slots ls r
  obtain ⟨⟨L, hL, hP, hD⟩, hS, hz, hr⟩ := id r
  obtain ⟨q0, hq0⟩ := pl_get (f := hF h) ((hL a).mpr (by rw [ha]; simp))
  have hq0' := hq0
  rw [hF_of ha] at hq0
  refine W.iast C.1.1 C.1.2.1 (hP q0 _ hq0) ((C.2.2.1.2 0 _ rfl).1 N (fun j => .int (f j))) (fun q => by cases q) (by show ¬ (i < 0 ∨ (arrV _ _ _).slots.size ≤ _); rw [arrV_size]; exact hi) rfl rfl hd fun H1 e1 e2 e3 => ?_
  have hc : va_at G.1 vwCl (a, .inl (G.2.1 0, N, .inl (upd f i.toNatClampNeg x))) H1 := by
    show H1[a]? = some (vp_cell _ _)
    rw [e1, vp_cell_i, vp_cell_i, arrV_store]
    congr 2
    funext q
    by_cases hq : q = i.toNatClampNeg
    · subst hq; simp [updV, upd]
    · simp [updV, upd, hq]
  exact j C E ⟨WL.set hL ha hD hq0' (hP.set hD hq0 hc e3) (hD.set hq0), hS.put e2 e3 (hD.2 q0 _ hq0), by rw [e2]; exact hz, hr⟩
theorem K_lald {a N : Nat} {f : Nat → Int64} {i : Int32} (hd : decode M.2.1 pc = .ok (.laload, 1)) (ha : h a = some (.inl (G.2.1 1, N, .inr (.inl f)))) (hi : vp_in i N) (j : KJ hh G M d (pc + 1) lv (.long (f i.toNatClampNeg) :: st) h n kc kn Q) : KJ hh G M d pc lv (.int i :: .ref a :: st) h n kc kn Q := by
  intro p l e R s m args below meth c A mc ms Z C E H locs cells slots ls r
  obtain ⟨⟨L, hL, hP, hD⟩, hr⟩ := id r
  obtain ⟨q0, hq0⟩ := pl_get (f := hF h) ((hL a).mpr (by rw [ha]; simp))
  rw [hF_of ha] at hq0
  exact va_lald C.1.1 C.1.2.1 C.2.2.1 hP q0 1 hq0 rfl hi hd (j C E r)
theorem K_last {a N : Nat} {f : Nat → Int64} {i : Int32} {x : Int64} (hd : decode M.2.1 pc = .ok (.lastore, 1)) (ha : h a = some (.inl (G.2.1 1, N, .inr (.inl f)))) (hi : vp_in i N) (j : KJ hh G M d (pc + 1) lv st (hset h a (.inl (G.2.1 1, N, .inr (.inl (vp_updL f i.toNatClampNeg x))))) 0 kc kn Q) : KJ hh G M d pc lv (.long x :: .int i :: .ref a :: st) h n kc kn Q := by
  intro p l e R s m args below meth c A mc ms Z C E H locs cells slots ls r
  obtain ⟨⟨L, hL, hP, hD⟩, hS, hz, hr⟩ := id r
  obtain ⟨q0, hq0⟩ := pl_get (f := hF h) ((hL a).mpr (by rw [ha]; simp))
  have hq0' := hq0
  rw [hF_of ha] at hq0
  exact va_last C.1.1 C.1.2.1 C.2.2.1 hP hD hS q0 1 hq0 rfl hi hd (fun H1 locs1 hP1 hD1 hS1 => j C E ⟨WL.set hL ha hD hq0' hP1 hD1, hS1, Or.inl rfl, hr⟩)
theorem K_sld {a L : Nat} {xs : Nat → Int32} {i : Int32} (hd : decode M.2.1 pc = .ok (.iaload, 1)) (ha : G.2.2 a = some (L, xs)) (hi : vp_in i L) (j : KJ hh G M d (pc + 1) lv (.int (xs i.toNatClampNeg) :: st) h n kc kn Q) : KJ hh G M d pc lv (.int i :: .ref a :: st) h n kc kn Q := by
  intro p l e R s m args below meth c A mc ms Z C E H locs cells slots ls r
  obtain ⟨g1, g2, g3⟩ := C.2.2.2.2.2 a L xs ha
  exact va_sld C.1.1 C.1.2.1 g1 g2 g3 r.2.1 hi hd (j C E r)
theorem K_slen {a L : Nat} {xs : Nat → Int32} (hd : decode M.2.1 pc = .ok (.arraylength, 1)) (ha : G.2.2 a = some (L, xs)) (j : KJ hh G M d (pc + 1) lv (.int (Int32.ofNat L) :: st) h n kc kn Q) : KJ hh G M d pc lv (.ref a :: st) h n kc kn Q := by
  intro p l e R s m args below meth c A mc ms Z C E H locs cells slots ls r
  obtain ⟨g1, g2, g3⟩ := C.2.2.2.2.2 a L xs ha
  exact va_slen C.1.1 C.1.2.1 g1 g2 g3 r.2.1 hd (j C E r)
theorem K_run {kc2 kn2 kc' kn' : Nat} {rest st0 : List Value} {Q2 : Option Value → HP → Nat → Prop} {a2 : Array Value} {p : Program} {l : Launch} {e : Env} {R : Room} {s : State} {m : MethodId} {args : Array Value} {below : List Frame} {meth : Method} {c : Code} {A : Nat → Prop} {mc ms : Nat} {Z : State → Prop} {H : Heap} {locs : List Loc} {cells slots : Nat} {ls : Array Slot}
    (C : CX G M d mc ms p l e R s m args meth c A)
    (E : KX hh l s c A ∧ ∀ (pc' : Nat) (st' : List Value) (h' : HP) (n' kc' kn' : Nat) (lv' : LV) (H' : Heap) (locs' : List Loc) (cells' slots' : Nat) (ls' : Array Slot), Q lv' pc' st' h' n' → RWl G.1 A M.2.2.1 mc ms s H' locs' cells' slots' ls' lv' h' n' kc' kn' → W p l e R s m args below meth c H' locs' cells' slots' Z (F0 m pc' ls' st'))
    (r : RWl G.1 A M.2.2.1 mc ms s H locs cells slots ls lv h n kc kn)
    (hr : va_Run p l e R s m args below meth c H locs cells slots kc2 kn2 (F0 m pc ls st0) rest (QcS G h H.size Q2 a2) (AA h H.size))
    (hkc : kc2 + kc' = kc) (hkn : kn2 + kn' = kn) (kk : ∀ v h' n', Q2 v h' n' → KJ hh G M d (pc + 3) lv (v.toList ++ rest) h' n' kc' kn' Q) :
    W p l e R s m args below meth c H locs cells slots Z (F0 m pc ls st0) := by
  intro T hT X
  obtain ⟨v, st₀, t, T', L, h0, X', hL, e1, e2, ⟨⟨v', h', n', hv, hq, hn', hw'⟩, hF⟩, st⟩ := hr T hT X
  cases hv
  obtain ⟨r1, r2, r3, r4, r5, r6⟩ := r
  have hAA : ∀ q, AA h H.size q → A q := fun q hq => hq.elim (fun x => r1.A x) (fun x => C.2.2.2.1 q (Nat.le_trans r2.1 x))
  obtain ⟨k1, k2, k3⟩ := vx_keep h0 e1 r2 (A1 := AA h H.size) (fun q _ hq => hAA q hq) hAA hL hF
  obtain ⟨t2, a1, b1⟩ := kk v h' n' hq C E (H := T'.heap) (locs := locs ++ L) (cells := cells + kc2) (slots := slots + kn2) (ls := ls) ⟨by rw [e1]; exact hw'.weaken (fun a ha => hAA a (hw'.A ha)), k3, by rw [e1]; exact hn', r4, by omega, by omega⟩ T' rfl X'
  exact ⟨t2, st t2 a1, b1⟩
theorem K_callV {d2 kc2 kn2 kc' kn' np idx b ci : Nat} {As rest : List Value} {fs : List Value} {q : vw_C} {Q2 : Option Value → HP → Nat → Prop} (f : MF M2 np) (lk : LK M.1.cls idx M2) (hin : Cond.instanceMethod M2.1 ∈ WS) (hse : Cond.selects M2.1.cls M2.1 M2.1 ∈ WS)
    (sp : Sp G M2 d2 kc2 kn2 (.ref b :: As) h n Q2) (hd : decode M.2.1 pc = .ok (.invokevirtual idx, 3)) (hb : h b = some (.inr (ci, fs))) (hq : vwCl[ci]? = some q) (hqc : q.1 = M2.1.cls) (hdd : d2 + 1 ≤ d) (hst : st = As.reverse ++ .ref b :: rest) (hnp : As.length = np) (hrest : (rest.map fun v => v.category).sum ≤ 8) (hkc : kc2 + kc' = kc) (hkn : kn2 + kn' = kn)
    (kk : ∀ v h' n', Q2 v h' n' → KJ hh G M d (pc + 3) lv (v.toList ++ rest) h' n' kc' kn' Q) : KJ hh G M d pc lv st h n kc kn Q := by
  intro p l e R s m args below meth c A mc ms Z C E H locs cells slots ls r
  subst hst
  have hcell : ∃ cellB : Cell, H[b]? = some cellB ∧ cellB.vm.isStatics = false ∧ s.vm.findClass M2.1.cls = some cellB.cls := by
    obtain ⟨⟨L, hL, hP, hD⟩, -⟩ := id r
    obtain ⟨q0, hq0⟩ := pl_get (f := hF h) ((hL b).mpr (by rw [hb]; simp))
    rw [hF_of hb] at hq0
    have := va_recv C.2.2.1 hP hq hq0
    rwa [hqc] at this
  have hpre : PreV s H M2.1.cls b (PcS G (.ref b :: As) h n H.size) As := ⟨PcS_blind, hcell, fun U hU hW => PcS_at hU hW r.1 r.2.2.1 C.2.2.1⟩
  have hR := C.2.2.2.2.1
  have fix : CallFix p m c M.2.1 M.2.2.1 s args WS M.1.cls := ⟨C.1.1, C.1.2.1, C.1.2.2.1, C.1.2.2.2.2.2.2, C.2.1⟩
  rcases lk with lk | ⟨host, lk⟩
  · exact K_run C E r (va_runV fix (sp l H.size) ⟨f.cb lk C.2.1 (by omega) (by omega), C.2.1 _ hin, C.2.1 _ hse⟩ hpre rfl hnp r.2.2.2.1.1 rfl (lv_room hrest) hd (by have := r.2.2.2.2; omega)) hkc hkn kk
  · exact K_run C E r (va_runVN fix (sp l H.size) ⟨f.cn lk C.2.1 (by omega) (by omega), C.2.1 _ hin, C.2.1 _ hse⟩ hpre rfl hnp r.2.2.2.1.1 rfl (lv_room hrest) hd (by have := r.2.2.2.2; omega)) hkc hkn kk
theorem K_callS {d2 kc2 kn2 kc' kn' np idx : Nat} {As rest : List Value} {Q2 : Option Value → HP → Nat → Prop} (f : MF M2 np) (lk : LK M.1.cls idx M2) (hstat : Cond.static M2.1 ∈ WS)
    (sp : Sp G M2 d2 kc2 kn2 As h n Q2) (hd : decode M.2.1 pc = .ok (.invokestatic idx, 3)) (hdd : d2 + 1 ≤ d) (hst : st = As.reverse ++ rest) (hnp : As.length = np) (hrest : (rest.map fun v => v.category).sum ≤ 8) (hkc : kc2 + kc' = kc) (hkn : kn2 + kn' = kn)
    (kk : ∀ v h' n', Q2 v h' n' → KJ hh G M d (pc + 3) lv (v.toList ++ rest) h' n' kc' kn' Q) : KJ hh G M d pc lv st h n kc kn Q := by
  intro p l e R s m args below meth c A mc ms Z C E H locs cells slots ls r
  subst hst
  have hpre : PreS s H (PcS G As h n H.size) As := ⟨PcS_blind, fun U hU hW => PcS_at hU hW r.1 r.2.2.1 C.2.2.1⟩
  have hR := C.2.2.2.2.1
  have fix : CallFix p m c M.2.1 M.2.2.1 s args WS M.1.cls := ⟨C.1.1, C.1.2.1, C.1.2.2.1, C.1.2.2.2.2.2.2, C.2.1⟩
  rcases lk with lk | ⟨host, lk⟩
  · exact K_run C E r (va_runS fix (sp l H.size) ⟨f.cb lk C.2.1 (by omega) (by omega), C.2.1 _ hstat⟩ hpre rfl hnp r.2.2.2.1.1 rfl (lv_room hrest) hd (by have := r.2.2.2.2; omega)) hkc hkn kk
  · exact K_run C E r (va_runSN fix (sp l H.size) ⟨f.cn lk C.2.1 (by omega) (by omega), C.2.1 _ hstat, trivial⟩ hpre rfl hnp r.2.2.2.1.1 rfl (lv_room hrest) hd (by have := r.2.2.2.2; omega)) hkc hkn kk
theorem K_callI {d2 kc2 kn2 kc' kn' np idx b : Nat} {As rest : List Value} {Q2 : Option Value → HP → Nat → Prop} (f : MF M2 np) (lk : Cond.methodLink M.1.cls idx M2.1 ∈ WS) (hin : Cond.instanceMethod M2.1 ∈ WS) (hnm : M2.1.name = "<init>") (hr0 : M2.2.2.2 = none)
    (sp : Sp G M2 d2 kc2 kn2 (.ref b :: As) h n Q2) (hd : decode M.2.1 pc = .ok (.invokespecial idx, 3)) (hdd : d2 + 1 ≤ d) (hst : st = As.reverse ++ .ref b :: rest) (hnp : As.length = np) (hrest : (rest.map fun v => v.category).sum ≤ 8) (hkc : kc2 + kc' = kc) (hkn : kn2 + kn' = kn)
    (kk : ∀ v h' n', Q2 v h' n' → KJ hh G M d (pc + 3) lv (v.toList ++ rest) h' n' kc' kn' Q) : KJ hh G M d pc lv st h n kc kn Q := by
  intro p l e R s m args below meth c A mc ms Z C E H locs cells slots ls r
  subst hst
  have hpre : PreS s H (PcS G (.ref b :: As) h n H.size) (.ref b :: As) := ⟨PcS_blind, fun U hU hW => PcS_at hU hW r.1 r.2.2.1 C.2.2.1⟩
  have hR := C.2.2.2.2.1
  have fix : CallFix p m c M.2.1 M.2.2.1 s args WS M.1.cls := ⟨C.1.1, C.1.2.1, C.1.2.2.1, C.1.2.2.2.2.2.2, C.2.1⟩
  have cb := f.cb (M := M) (d2 := d2) (kc2 := kc2) (kn2 := kn2) (R := R) lk C.2.1 (by omega) (by omega)
  rw [hr0] at cb
  exact K_run C E r (va_runI fix (sp l H.size) ⟨cb, hnm, C.2.1 _ hin⟩ hpre rfl hnp r.2.2.2.1.1 rfl (lv_room hrest) hd (by have := r.2.2.2.2; omega)) hkc hkn kk
theorem K_new {idx ci kc' kn' : Nat} {fs : List Value} (f : FN M.1.cls idx ci fs) (hd : decode M.2.1 pc = .ok (.new idx, 3)) (hn : n ≠ 0) (hkc : 1 + kc' = kc) (hkn : fs.length + kn' = kn)
    (k : KJ hh G M d (pc + 3) lv (.ref n :: st) (hset h n (.inr (ci, fs))) (n + 1) kc' kn' Q) : KJ hh G M d pc lv st h n kc kn Q := by
  intro p l e R s m args below meth c A mc ms Z C E H locs cells slots ls r
  obtain ⟨C0, T, N, ty, h1, h2, h3, h4, h5, h6, h7, h8⟩ := f
  obtain ⟨r1, r2, r3, r4, r5, r6⟩ := r
  have hR := C.2.2.2.2.1
  have hs0 := r2.1
  have hz : n = H.size := r3.resolve_left hn
  subst hz
  subst h7
  have hKn := C.2.2.1.1 ci _ h1
  refine W.newcK C.1.1 C.1.2.1 C.1.2.2.2.2.2.2 (C.2.1 _ h4) (C.2.1 _ h5) (C.2.1 _ h6) rfl hd (by omega) (by omega) hKn.2.1 rfl fun H1 kC hkC e1 z1 o1 => ?_
  refine k C E ⟨r1.new (C.2.2.2.1 _ r2.1) ⟨_, h1, (u_born ty C.2.1 h2 hKn hkC e1 h3).to h8⟩ o1, ⟨by omega, fun x g1 g2 => (o1 x (by omega)).trans (r2.2.1 x g1 g2), r2.2.2⟩, Or.inr z1.symm, r4, by omega, by omega⟩
theorem K_newI {N kc' kn' : Nat} {z : Int32} (ha : Cond.arrayClass .int ∈ WS) (hd : decode M.2.1 pc = .ok (.newarray .int, 2)) (hn : n ≠ 0) (hz : ¬ z < 0) (hN : z.toNatClampNeg = N) (hb : N ≤ 100000) (hkc : 1 + kc' = kc) (hkn : N + kn' = kn)
    (k : KJ hh G M d (pc + 2) lv (.ref n :: st) (hset h n (.inl (G.2.1 0, N, .inl (fun _ => 0)))) (n + 1) kc' kn' Q) : KJ hh G M d pc lv (.int z :: st) h n kc kn Q := by
  intro p l e R s m args below meth c A mc ms Z C E H locs cells slots ls r
  obtain ⟨r1, r2, r3, r4, r5, r6⟩ := r
  have hR := C.2.2.2.2.1
  have hs0 := r2.1
  have hzz : n = H.size := r3.resolve_left hn
  subst hzz
  refine va_newaK C.1.1 C.1.2.1 (atype := .int) (C.2.1 _ ha) rfl hd rfl hz hN (by show N * 4 ≤ _; omega) (by omega) (by omega) rfl fun H1 cA e1 z1 o1 hAr hNm => ?_
  have hc : cA = G.2.1 0 := Option.some.inj (hNm.symm.trans (C.2.2.1.2 0 _ rfl).2)
  subst hc
  exact k C E ⟨r1.new (C.2.2.2.1 _ r2.1) e1 o1, ⟨by omega, fun x g1 g2 => (o1 x (by omega)).trans (r2.2.1 x g1 g2), r2.2.2⟩, Or.inr z1.symm, r4, by omega, by omega⟩
theorem K_newL {N kc' kn' : Nat} {z : Int32} (ha : Cond.arrayClass .long ∈ WS) (hd : decode M.2.1 pc = .ok (.newarray .long, 2)) (hn : n ≠ 0) (hz : ¬ z < 0) (hN : z.toNatClampNeg = N) (hb : N ≤ 100000) (hkc : 1 + kc' = kc) (hkn : N + kn' = kn)
    (k : KJ hh G M d (pc + 2) lv (.ref n :: st) (hset h n (.inl (G.2.1 1, N, .inr (.inl (fun _ => 0))))) (n + 1) kc' kn' Q) : KJ hh G M d pc lv (.int z :: st) h n kc kn Q := by
  intro p l e R s m args below meth c A mc ms Z C E H locs cells slots ls r
  obtain ⟨r1, r2, r3, r4, r5, r6⟩ := r
  have hR := C.2.2.2.2.1
  have hs0 := r2.1
  have hzz : n = H.size := r3.resolve_left hn
  subst hzz
  refine va_newaK C.1.1 C.1.2.1 (atype := .long) (C.2.1 _ ha) rfl hd rfl hz hN (by show N * 8 ≤ _; omega) (by omega) (by omega) rfl fun H1 cA e1 z1 o1 hAr hNm => ?_
  have hc : cA = G.2.1 1 := Option.some.inj (hNm.symm.trans (C.2.2.1.2 1 _ rfl).2)
  subst hc
  exact k C E ⟨r1.new (C.2.2.2.1 _ r2.1) e1 o1, ⟨by omega, fun x g1 g2 => (o1 x (by omega)).trans (r2.2.1 x g1 g2), r2.2.2⟩, Or.inr z1.symm, r4, by omega, by omega⟩
theorem K_ishr {x y : Int32} (hd : decode M.2.1 pc = .ok (.ishr, 1)) (k : KJ hh G M d (pc + 1) lv (.int (x >>> (y &&& 31)) :: st) h n kc kn Q) : KJ hh G M d pc lv (.int y :: .int x :: st) h n kc kn Q := by
  intro p l e R s m args below meth c A mc ms Z C E H locs cells slots ls r
  exact lv_ishr C.1.1 C.1.2.1 hd (k C E r)
theorem K_lrem {x y : Int64} (hd : decode M.2.1 pc = .ok (.lrem, 1)) (hne : ¬ y = 0) (k : KJ hh G M d (pc + 1) lv (.long (x - x / y * y) :: st) h n kc kn Q) : KJ hh G M d pc lv (.long y :: .long x :: st) h n kc kn Q := by
  intro p l e R s m args below meth c A mc ms Z C E H locs cells slots ls r
  exact lv_lrem C.1.1 C.1.2.1 hd hne (k C E r)
theorem K_ldc {i : Nat} {v : Int32} (hd : decode M.2.1 pc = .ok (.ldc i, 2)) (hw : Cond.constant M.1.cls i v ∈ WS) (k : KJ hh G M d (pc + 2) lv (.int v :: st) h n kc kn Q) : KJ hh G M d pc lv st h n kc kn Q := by
  intro p l e R s m args below meth c A mc ms Z C E H locs cells slots ls r
  exact lv_ldc C.1.1 C.1.2.1 C.1.2.2.2.2.2.2 (C.2.1 _ hw) hd (k C E r)
theorem K_newIu {N kc' kn' : Nat} {z : Int32} (ha : Cond.arrayClass .int ∈ WS) (hd : decode M.2.1 pc = .ok (.newarray .int, 2)) (hz : ¬ z < 0) (hN : z.toNatClampNeg = N) (hb : N ≤ 100000) (hkc : 1 + kc' = kc) (hkn : N + kn' = kn)
    (k : ∀ q, (∀ a, h a ≠ none → a < q) → KJ hh G M d (pc + 2) lv (.ref q :: st) (hset h q (.inl (G.2.1 0, N, .inl (fun _ => 0)))) (q + 1) kc' kn' Q) : KJ hh G M d pc lv (.int z :: st) h n kc kn Q := by
  intro p l e R s m args below meth c A mc ms Z C E H locs cells slots ls r
  obtain ⟨r1, r2, r3, r4, r5, r6⟩ := r
  have hR := C.2.2.2.2.1
  have hs0 := r2.1
  refine va_newaK C.1.1 C.1.2.1 (atype := .int) (C.2.1 _ ha) rfl hd rfl hz hN (by show N * 4 ≤ _; omega) (by omega) (by omega) rfl fun H1 cA e1 z1 o1 hAr hNm => ?_
  have hc : cA = G.2.1 0 := Option.some.inj (hNm.symm.trans (C.2.2.1.2 0 _ rfl).2)
  subst hc
  exact k H.size (fun a ha => r1.lt ha) C E ⟨r1.new (C.2.2.2.1 _ r2.1) e1 o1, ⟨by omega, fun x g1 g2 => (o1 x (by omega)).trans (r2.2.1 x g1 g2), r2.2.2⟩, Or.inr z1.symm, r4, by omega, by omega⟩
theorem K_newLu {N kc' kn' : Nat} {z : Int32} (ha : Cond.arrayClass .long ∈ WS) (hd : decode M.2.1 pc = .ok (.newarray .long, 2)) (hz : ¬ z < 0) (hN : z.toNatClampNeg = N) (hb : N ≤ 100000) (hkc : 1 + kc' = kc) (hkn : N + kn' = kn)
    (k : ∀ q, (∀ a, h a ≠ none → a < q) → KJ hh G M d (pc + 2) lv (.ref q :: st) (hset h q (.inl (G.2.1 1, N, .inr (.inl (fun _ => 0))))) (q + 1) kc' kn' Q) : KJ hh G M d pc lv (.int z :: st) h n kc kn Q := by
  intro p l e R s m args below meth c A mc ms Z C E H locs cells slots ls r
  obtain ⟨r1, r2, r3, r4, r5, r6⟩ := r
  have hR := C.2.2.2.2.1
  have hs0 := r2.1
  refine va_newaK C.1.1 C.1.2.1 (atype := .long) (C.2.1 _ ha) rfl hd rfl hz hN (by show N * 8 ≤ _; omega) (by omega) (by omega) rfl fun H1 cA e1 z1 o1 hAr hNm => ?_
  have hc : cA = G.2.1 1 := Option.some.inj (hNm.symm.trans (C.2.2.1.2 1 _ rfl).2)
  subst hc
  exact k H.size (fun a ha => r1.lt ha) C E ⟨r1.new (C.2.2.2.1 _ r2.1) e1 o1, ⟨by omega, fun x g1 g2 => (o1 x (by omega)).trans (r2.2.1 x g1 g2), r2.2.2⟩, Or.inr z1.symm, r4, by omega, by omega⟩
end KR
theorem K_ga {G : GG} {M : MI} {d pc : Nat} {lv : LV} {st : List Value} {h : HP} {n kc kn : Nat} {Q : LV → Nat → List Value → HP → Nat → Prop} {hh : Option (List (Nat × Nat × Nat × Nat))} {a N k : Nat} {f : Nat → Int32} (hd : decode M.2.1 pc = .ok (.iaload, 1)) (ha : h a = some (.inl (G.2.1 0, N, .inl f))) (hk : k < N) (hN : N < 2 ^ 31) (j : KJ hh G M d (pc + 1) lv (.int (f k) :: st) h n kc kn Q) : KJ hh G M d pc lv (.int (nI k) :: .ref a :: st) h n kc kn Q :=
  K_iald hd ha (vp_in_nI hk hN) (by rw [nI_clamp (Nat.lt_trans hk hN)]; exact j)
theorem K_pa {G : GG} {M : MI} {d pc : Nat} {lv : LV} {st : List Value} {h : HP} {n kc kn : Nat} {Q : LV → Nat → List Value → HP → Nat → Prop} {hh : Option (List (Nat × Nat × Nat × Nat))} {a N k : Nat} {f : Nat → Int32} {x : Int32} (hd : decode M.2.1 pc = .ok (.iastore, 1)) (ha : h a = some (.inl (G.2.1 0, N, .inl f))) (hk : k < N) (hN : N < 2 ^ 31) (j : KJ hh G M d (pc + 1) lv st (hset h a (.inl (G.2.1 0, N, .inl (upd f k x)))) n kc kn Q) : KJ hh G M d pc lv (.int x :: .int (nI k) :: .ref a :: st) h n kc kn Q :=
  K_iast hd ha (vp_in_nI hk hN) (by rw [nI_clamp (Nat.lt_trans hk hN)]; exact j)
theorem K_iincN {G : GG} {M : MI} {d pc : Nat} {lv : LV} {st : List Value} {h : HP} {n kc kn : Nat} {Q : LV → Nat → List Value → HP → Nat → Prop} {hh : Option (List (Nat × Nat × Nat × Nat))} {i a : Nat} {z : Int} (hd : decode M.2.1 pc = .ok (.iinc i z, 3)) (hx : lget lv i = some (.int (nI a))) (hv : Int32.ofInt z = 1) (hk : lok lv i = true) (k : KJ hh G M d (pc + 3) ((i, .int (nI (a + 1))) :: lv) st h n kc kn Q) : KJ hh G M d pc lv st h n kc kn Q := K_iinc hd hx hv hk (by rw [nI_1]; exact k)
theorem K_iincM {G : GG} {M : MI} {d pc : Nat} {lv : LV} {st : List Value} {h : HP} {n kc kn : Nat} {Q : LV → Nat → List Value → HP → Nat → Prop} {hh : Option (List (Nat × Nat × Nat × Nat))} {i a : Nat} {z : Int} (hd : decode M.2.1 pc = .ok (.iinc i z, 3)) (hx : lget lv i = some (.int (nI (a + 1)))) (hv : Int32.ofInt z = -1) (hk : lok lv i = true) (k : KJ hh G M d (pc + 3) ((i, .int (nI a)) :: lv) st h n kc kn Q) : KJ hh G M d pc lv st h n kc kn Q := K_iinc hd hx hv hk (by rw [pk_m1]; exact k)
theorem K_iincS {G : GG} {M : MI} {d pc : Nat} {lv : LV} {st : List Value} {h : HP} {n kc kn : Nat} {Q : LV → Nat → List Value → HP → Nat → Prop} {hh : Option (List (Nat × Nat × Nat × Nat))} {i : Nat} {x : Int32} {z : Int} (hd : decode M.2.1 pc = .ok (.iinc i z, 3)) (hx : lget lv i = some (.int x)) (hv : Int32.ofInt z = -1) (hk : lok lv i = true) (k : KJ hh G M d (pc + 3) ((i, .int (x - 1)) :: lv) st h n kc kn Q) : KJ hh G M d pc lv st h n kc kn Q := K_iinc hd hx hv hk (by rw [show x + -1 = x - 1 by rw [Int32.sub_eq_add_neg]]; exact k)
