/-! the judgement -/
/-- the slots of the classes, the array classes' numbers (0 int[], 1 long[], 2 State[], 3 int[][]), arrays that are read only -/
abbrev GG : Type := va_G × (Nat → ClassId) × (Nat → Option (Nat × (Nat → Int32)))
def tysOf (ids : Nat → ClassId) : List (ClassId × FieldType) := [(ids 0, .int), (ids 1, .long), (ids 2, .object "LaceTangles$State"), (ids 3, .array .int)]
/-- a method: its name, its bytes, its locals, what it returns -/
abbrev MI : Type := MethodName × ByteArray × Nat × Option FieldType
/-- what holds all through a method's run, with d frames of room and at most mc, ms new cells and slots -/
def CX (G : GG) (M : MI) (d mc ms : Nat) (p : Program) (l : Launch) (e : Env) (R : Room) (s : State) (m : MethodId) (args : Array Value) (meth : Method) (c : Code) (A : Nat → Prop) : Prop :=
  (p.tables.exec = Jvm.exec ∧ c.code = M.2.1 ∧ c.maxLocals = M.2.2.1 ∧ meth.sig.returnType = M.2.2.2 ∧ meth.locks = false ∧ meth.name = M.1.name ∧ s.vm.findClass M.1.cls = some m.cls) ∧ (∀ w ∈ WS, w.before args s = true) ∧ va_K G.1 vwCl (tysOf G.2.1) s ∧ (∀ q, s.heap.size ≤ q → A q) ∧ (d ≤ R.frames ∧ 60 * d ≤ R.locals ∧ mc ≤ R.cells ∧ ms ≤ R.slots) ∧ (∀ a L xs, G.2.2 a = some (L, xs) → va_X a L xs s s.heap ∧ a < s.heap.size ∧ ¬ A a)
/-- what the machine's state says of the abstract one; n: the size of the machine's heap (0: not known); kc, kn: the cells and slots that may still be made -/
def RWl (D : va_G) (A : Nat → Prop) (nL mc ms : Nat) (s : State) (H : Heap) (locs : List Loc) (cells slots : Nat) (ls : Array Slot) (lv : LV) (h : HP) (n kc kn : Nat) : Prop :=
  WL D h A H ∧ va_S A s.heap H locs ∧ (n = 0 ∨ n = H.size) ∧ LH ls nL lv ∧ cells + kc ≤ mc ∧ slots + kn ≤ ms
/-- the machine comes from here to a point (place, stack, heap, size) of which Q holds -/
def J (G : GG) (M : MI) (d pc : Nat) (lv : LV) (st : List Value) (h : HP) (n kc kn : Nat) (Q : Nat → List Value → HP → Nat → Prop) : Prop :=
  ∀ ⦃p : Program⦄ ⦃l : Launch⦄ ⦃e : Env⦄ ⦃R : Room⦄ ⦃s : State⦄ ⦃m : MethodId⦄ ⦃args : Array Value⦄ ⦃below : List Frame⦄ ⦃meth : Method⦄ ⦃c : Code⦄ ⦃A : Nat → Prop⦄ ⦃mc ms : Nat⦄ ⦃Z : State → Prop⦄,
    CX G M d mc ms p l e R s m args meth c A →
    (∀ (pc' : Nat) (st' : List Value) (h' : HP) (n' kc' kn' : Nat) (lv' : LV) (H' : Heap) (locs' : List Loc) (cells' slots' : Nat) (ls' : Array Slot), Q pc' st' h' n' → RWl G.1 A M.2.2.1 mc ms s H' locs' cells' slots' ls' lv' h' n' kc' kn' → W p l e R s m args below meth c H' locs' cells' slots' Z (F0 m pc' ls' st')) →
    ∀ ⦃H : Heap⦄ ⦃locs : List Loc⦄ ⦃cells slots : Nat⦄ ⦃ls : Array Slot⦄, RWl G.1 A M.2.2.1 mc ms s H locs cells slots ls lv h n kc kn → W p l e R s m args below meth c H locs cells slots Z (F0 m pc ls st)
theorem J_done {G : GG} {M : MI} {d pc : Nat} {lv : LV} {st : List Value} {h : HP} {n kc kn : Nat} {Q : Nat → List Value → HP → Nat → Prop} (q : Q pc st h n) : J G M d pc lv st h n kc kn Q := by
  intro p l e R s m args below meth c A mc ms Z C E H locs cells slots ls r
  exact E _ _ _ _ _ _ _ _ _ _ _ _ q r
theorem J_mono {G : GG} {M : MI} {d pc : Nat} {lv : LV} {st : List Value} {h : HP} {n kc kn : Nat} {Q Q2 : Nat → List Value → HP → Nat → Prop} (j : J G M d pc lv st h n kc kn Q2) (hq : ∀ pc st h n, Q2 pc st h n → Q pc st h n) : J G M d pc lv st h n kc kn Q := by
  intro p l e R s m args below meth c A mc ms Z C E H locs cells slots ls r
  exact j C (fun pc' st' h' n' kc' kn' lv' H' locs' cells' slots' ls' q => E pc' st' h' n' kc' kn' lv' H' locs' cells' slots' ls' (hq _ _ _ _ q)) r
theorem J_sub {G : GG} {M : MI} {d pc : Nat} {lv l2 : LV} {st : List Value} {h : HP} {n kc kn : Nat} {Q : Nat → List Value → HP → Nat → Prop} (hs : subl l2 lv) (j : J G M d pc l2 st h n kc kn Q) : J G M d pc lv st h n kc kn Q := by
  intro p l e R s m args below meth c A mc ms Z C E H locs cells slots ls r
  exact j C E ⟨r.1, r.2.1, r.2.2.1, r.2.2.2.1.sub hs, r.2.2.2.2⟩
theorem J_eq {G : GG} {M : MI} {d pc pc2 : Nat} {lv l2 : LV} {st st2 : List Value} {h h2 : HP} {n kc kn : Nat} {Q : Nat → List Value → HP → Nat → Prop} (e1 : pc = pc2) (e2 : lv = l2) (e3 : st = st2) (e4 : h = h2) (j : J G M d pc2 l2 st2 h2 n kc kn Q) : J G M d pc lv st h n kc kn Q := by
  subst e1; subst e2; subst e3; subst e4; exact j
/-- name the number on top -/
theorem J_topi {G : GG} {M : MI} {d pc : Nat} {lv : LV} {st : List Value} {h : HP} {n kc kn : Nat} {Q : Nat → List Value → HP → Nat → Prop} {x y : Int32} (e : x = y) (j : J G M d pc lv (.int y :: st) h n kc kn Q) : J G M d pc lv (.int x :: st) h n kc kn Q := e ▸ j
theorem J_iload {G : GG} {M : MI} {d pc : Nat} {lv : LV} {st : List Value} {h : HP} {n kc kn : Nat} {Q : Nat → List Value → HP → Nat → Prop} {i : Nat} {x : Int32} (hd : decode M.2.1 pc = .ok (.iload i, 2)) (hv : lget lv i = some (.int x)) (k : J G M d (pc + 2) lv (.int x :: st) h n kc kn Q) : J G M d pc lv st h n kc kn Q := by
  intro p l e R s m args below meth c A mc ms Z C E H locs cells slots ls r
  exact lv_iload C.1.1 C.1.2.1 hd (r.2.2.2.1.2.2 _ _ hv) (k C E r)
theorem J_iload_n {G : GG} {M : MI} {d pc : Nat} {lv : LV} {st : List Value} {h : HP} {n kc kn : Nat} {Q : Nat → List Value → HP → Nat → Prop} {j : Fin 4} {x : Int32} (hd : decode M.2.1 pc = .ok (.iload_n j, 1)) (hv : lget lv j.val = some (.int x)) (k : J G M d (pc + 1) lv (.int x :: st) h n kc kn Q) : J G M d pc lv st h n kc kn Q := by
  intro p l e R s m args below meth c A mc ms Z C E H locs cells slots ls r
  exact lv_iload_n C.1.1 C.1.2.1 hd rfl (r.2.2.2.1.2.2 _ _ hv) (k C E r)
theorem J_aload {G : GG} {M : MI} {d pc : Nat} {lv : LV} {st : List Value} {h : HP} {n kc kn : Nat} {Q : Nat → List Value → HP → Nat → Prop} {i : Nat} {x : Nat} (hd : decode M.2.1 pc = .ok (.aload i, 2)) (hv : lget lv i = some (.ref x)) (k : J G M d (pc + 2) lv (.ref x :: st) h n kc kn Q) : J G M d pc lv st h n kc kn Q := by
  intro p l e R s m args below meth c A mc ms Z C E H locs cells slots ls r
  exact lv_aload C.1.1 C.1.2.1 hd (r.2.2.2.1.2.2 _ _ hv) (k C E r)
theorem J_aload_n {G : GG} {M : MI} {d pc : Nat} {lv : LV} {st : List Value} {h : HP} {n kc kn : Nat} {Q : Nat → List Value → HP → Nat → Prop} {j : Fin 4} {x : Nat} (hd : decode M.2.1 pc = .ok (.aload_n j, 1)) (hv : lget lv j.val = some (.ref x)) (k : J G M d (pc + 1) lv (.ref x :: st) h n kc kn Q) : J G M d pc lv st h n kc kn Q := by
  intro p l e R s m args below meth c A mc ms Z C E H locs cells slots ls r
  exact lv_aload_n C.1.1 C.1.2.1 hd rfl (r.2.2.2.1.2.2 _ _ hv) (k C E r)
theorem J_lload {G : GG} {M : MI} {d pc : Nat} {lv : LV} {st : List Value} {h : HP} {n kc kn : Nat} {Q : Nat → List Value → HP → Nat → Prop} {i : Nat} {x : Int64} (hd : decode M.2.1 pc = .ok (.lload i, 2)) (hv : lget lv i = some (.long x)) (k : J G M d (pc + 2) lv (.long x :: st) h n kc kn Q) : J G M d pc lv st h n kc kn Q := by
  intro p l e R s m args below meth c A mc ms Z C E H locs cells slots ls r
  exact lv_lload C.1.1 C.1.2.1 hd (r.2.2.2.1.2.2 _ _ hv) (k C E r)
theorem J_lload_n {G : GG} {M : MI} {d pc : Nat} {lv : LV} {st : List Value} {h : HP} {n kc kn : Nat} {Q : Nat → List Value → HP → Nat → Prop} {j : Fin 4} {x : Int64} (hd : decode M.2.1 pc = .ok (.lload_n j, 1)) (hv : lget lv j.val = some (.long x)) (k : J G M d (pc + 1) lv (.long x :: st) h n kc kn Q) : J G M d pc lv st h n kc kn Q := by
  intro p l e R s m args below meth c A mc ms Z C E H locs cells slots ls r
  exact lv_lload_n C.1.1 C.1.2.1 hd rfl (r.2.2.2.1.2.2 _ _ hv) (k C E r)
theorem J_dload {G : GG} {M : MI} {d pc : Nat} {lv : LV} {st : List Value} {h : HP} {n kc kn : Nat} {Q : Nat → List Value → HP → Nat → Prop} {i : Nat} {x : UInt64} (hd : decode M.2.1 pc = .ok (.dload i, 2)) (hv : lget lv i = some (.double x)) (k : J G M d (pc + 2) lv (.double x :: st) h n kc kn Q) : J G M d pc lv st h n kc kn Q := by
  intro p l e R s m args below meth c A mc ms Z C E H locs cells slots ls r
  exact lv_dload C.1.1 C.1.2.1 hd (r.2.2.2.1.2.2 _ _ hv) (k C E r)
theorem J_dload_n {G : GG} {M : MI} {d pc : Nat} {lv : LV} {st : List Value} {h : HP} {n kc kn : Nat} {Q : Nat → List Value → HP → Nat → Prop} {j : Fin 4} {x : UInt64} (hd : decode M.2.1 pc = .ok (.dload_n j, 1)) (hv : lget lv j.val = some (.double x)) (k : J G M d (pc + 1) lv (.double x :: st) h n kc kn Q) : J G M d pc lv st h n kc kn Q := by
  intro p l e R s m args below meth c A mc ms Z C E H locs cells slots ls r
  exact lv_dload_n C.1.1 C.1.2.1 hd rfl (r.2.2.2.1.2.2 _ _ hv) (k C E r)
theorem J_aloadN {G : GG} {M : MI} {d pc : Nat} {lv : LV} {st : List Value} {h : HP} {n kc kn : Nat} {Q : Nat → List Value → HP → Nat → Prop} {i : Nat} (hd : decode M.2.1 pc = .ok (.aload i, 2)) (hv : lget lv i = some .null) (k : J G M d (pc + 2) lv (.null :: st) h n kc kn Q) : J G M d pc lv st h n kc kn Q := by
  intro p l e R s m args below meth c A mc ms Z C E H locs cells slots ls r
  exact lv_aloadN C.1.1 C.1.2.1 hd (r.2.2.2.1.2.2 _ _ hv) (k C E r)
theorem J_aloadN_n {G : GG} {M : MI} {d pc : Nat} {lv : LV} {st : List Value} {h : HP} {n kc kn : Nat} {Q : Nat → List Value → HP → Nat → Prop} {j : Fin 4} (hd : decode M.2.1 pc = .ok (.aload_n j, 1)) (hv : lget lv j.val = some .null) (k : J G M d (pc + 1) lv (.null :: st) h n kc kn Q) : J G M d pc lv st h n kc kn Q := by
  intro p l e R s m args below meth c A mc ms Z C E H locs cells slots ls r
  exact lv_aload_nN C.1.1 C.1.2.1 hd rfl (r.2.2.2.1.2.2 _ _ hv) (k C E r)
theorem J_iconst {G : GG} {M : MI} {d pc : Nat} {lv : LV} {st : List Value} {h : HP} {n kc kn : Nat} {Q : Nat → List Value → HP → Nat → Prop} {z : Int} {v : Int32} (hd : decode M.2.1 pc = .ok (.iconst z, 1)) (hv : Int32.ofInt z = v) (k : J G M d (pc + 1) lv (.int v :: st) h n kc kn Q) : J G M d pc lv st h n kc kn Q := by
  intro p l e R s m args below meth c A mc ms Z C E H locs cells slots ls r
  exact lv_iconst C.1.1 C.1.2.1 hd hv (k C E r)
theorem J_bipush {G : GG} {M : MI} {d pc : Nat} {lv : LV} {st : List Value} {h : HP} {n kc kn : Nat} {Q : Nat → List Value → HP → Nat → Prop} {z : Int} {v : Int32} (hd : decode M.2.1 pc = .ok (.bipush z, 2)) (hv : (Int8.ofInt z).toInt32 = v) (k : J G M d (pc + 2) lv (.int v :: st) h n kc kn Q) : J G M d pc lv st h n kc kn Q := by
  intro p l e R s m args below meth c A mc ms Z C E H locs cells slots ls r
  exact lv_bipush C.1.1 C.1.2.1 hd hv (k C E r)
theorem J_sipush {G : GG} {M : MI} {d pc : Nat} {lv : LV} {st : List Value} {h : HP} {n kc kn : Nat} {Q : Nat → List Value → HP → Nat → Prop} {z : Int} {v : Int32} (hd : decode M.2.1 pc = .ok (.sipush z, 3)) (hv : (Int16.ofInt z).toInt32 = v) (k : J G M d (pc + 3) lv (.int v :: st) h n kc kn Q) : J G M d pc lv st h n kc kn Q := by
  intro p l e R s m args below meth c A mc ms Z C E H locs cells slots ls r
  exact lv_sipush C.1.1 C.1.2.1 hd hv (k C E r)
theorem J_lconst {G : GG} {M : MI} {d pc : Nat} {lv : LV} {st : List Value} {h : HP} {n kc kn : Nat} {Q : Nat → List Value → HP → Nat → Prop} {z : Fin 2} {v : Int64} (hd : decode M.2.1 pc = .ok (.lconst z, 1)) (hv : Int64.ofNat (z : Nat) = v) (k : J G M d (pc + 1) lv (.long v :: st) h n kc kn Q) : J G M d pc lv st h n kc kn Q := by
  intro p l e R s m args below meth c A mc ms Z C E H locs cells slots ls r
  exact lv_lconst C.1.1 C.1.2.1 hd hv (k C E r)
theorem J_null {G : GG} {M : MI} {d pc : Nat} {lv : LV} {st : List Value} {h : HP} {n kc kn : Nat} {Q : Nat → List Value → HP → Nat → Prop}  (hd : decode M.2.1 pc = .ok (.aconst_null, 1)) (k : J G M d (pc + 1) lv (.null :: st) h n kc kn Q) : J G M d pc lv st h n kc kn Q := by
  intro p l e R s m args below meth c A mc ms Z C E H locs cells slots ls r
  exact lv_null C.1.1 C.1.2.1 hd (k C E r)
theorem J_dconst0 {G : GG} {M : MI} {d pc : Nat} {lv : LV} {st : List Value} {h : HP} {n kc kn : Nat} {Q : Nat → List Value → HP → Nat → Prop}  (hd : decode M.2.1 pc = .ok (.dconst 0, 1)) (k : J G M d (pc + 1) lv (.double 0 :: st) h n kc kn Q) : J G M d pc lv st h n kc kn Q := by
  intro p l e R s m args below meth c A mc ms Z C E H locs cells slots ls r
  exact lv_dconst0 C.1.1 C.1.2.1 hd (k C E r)
theorem J_dconst1 {G : GG} {M : MI} {d pc : Nat} {lv : LV} {st : List Value} {h : HP} {n kc kn : Nat} {Q : Nat → List Value → HP → Nat → Prop}  (hd : decode M.2.1 pc = .ok (.dconst 1, 1)) (k : J G M d (pc + 1) lv (.double 4607182418800017408 :: st) h n kc kn Q) : J G M d pc lv st h n kc kn Q := by
  intro p l e R s m args below meth c A mc ms Z C E H locs cells slots ls r
  exact lv_dconst1 C.1.1 C.1.2.1 hd (k C E r)
theorem J_ldc2 {G : GG} {M : MI} {d pc : Nat} {lv : LV} {st : List Value} {h : HP} {n kc kn : Nat} {Q : Nat → List Value → HP → Nat → Prop} {i : Nat} {v : Int64} (hd : decode M.2.1 pc = .ok (.ldc2_w i, 3)) (hw : Cond.constantLong M.1.cls i v ∈ WS) (k : J G M d (pc + 3) lv (.long v :: st) h n kc kn Q) : J G M d pc lv st h n kc kn Q := by
  intro p l e R s m args below meth c A mc ms Z C E H locs cells slots ls r
  exact lv_ldc2 C.1.1 C.1.2.1 C.1.2.2.2.2.2.2 (C.2.1 _ hw) hd (k C E r)
theorem J_ldc2d {G : GG} {M : MI} {d pc : Nat} {lv : LV} {st : List Value} {h : HP} {n kc kn : Nat} {Q : Nat → List Value → HP → Nat → Prop} {i : Nat} {v : UInt64} (hd : decode M.2.1 pc = .ok (.ldc2_w i, 3)) (hw : Cond.constantDouble M.1.cls i v ∈ WS) (k : J G M d (pc + 3) lv (.double v :: st) h n kc kn Q) : J G M d pc lv st h n kc kn Q := by
  intro p l e R s m args below meth c A mc ms Z C E H locs cells slots ls r
  exact lv_ldc2d C.1.1 C.1.2.1 C.1.2.2.2.2.2.2 (C.2.1 _ hw) hd (k C E r)
theorem J_iadd {G : GG} {M : MI} {d pc : Nat} {lv : LV} {st : List Value} {h : HP} {n kc kn : Nat} {Q : Nat → List Value → HP → Nat → Prop} {x y : Int32} (hd : decode M.2.1 pc = .ok (.iadd, 1)) (k : J G M d (pc + 1) lv (.int (x + y) :: st) h n kc kn Q) : J G M d pc lv (.int y :: .int x :: st) h n kc kn Q := by
  intro p l e R s m args below meth c A mc ms Z C E H locs cells slots ls r
  exact lv_iadd C.1.1 C.1.2.1 hd (k C E r)
theorem J_isub {G : GG} {M : MI} {d pc : Nat} {lv : LV} {st : List Value} {h : HP} {n kc kn : Nat} {Q : Nat → List Value → HP → Nat → Prop} {x y : Int32} (hd : decode M.2.1 pc = .ok (.isub, 1)) (k : J G M d (pc + 1) lv (.int (x - y) :: st) h n kc kn Q) : J G M d pc lv (.int y :: .int x :: st) h n kc kn Q := by
  intro p l e R s m args below meth c A mc ms Z C E H locs cells slots ls r
  exact lv_isub C.1.1 C.1.2.1 hd (k C E r)
theorem J_imul {G : GG} {M : MI} {d pc : Nat} {lv : LV} {st : List Value} {h : HP} {n kc kn : Nat} {Q : Nat → List Value → HP → Nat → Prop} {x y : Int32} (hd : decode M.2.1 pc = .ok (.imul, 1)) (k : J G M d (pc + 1) lv (.int (x * y) :: st) h n kc kn Q) : J G M d pc lv (.int y :: .int x :: st) h n kc kn Q := by
  intro p l e R s m args below meth c A mc ms Z C E H locs cells slots ls r
  exact lv_imul C.1.1 C.1.2.1 hd (k C E r)
theorem J_iand {G : GG} {M : MI} {d pc : Nat} {lv : LV} {st : List Value} {h : HP} {n kc kn : Nat} {Q : Nat → List Value → HP → Nat → Prop} {x y : Int32} (hd : decode M.2.1 pc = .ok (.iand, 1)) (k : J G M d (pc + 1) lv (.int (x &&& y) :: st) h n kc kn Q) : J G M d pc lv (.int y :: .int x :: st) h n kc kn Q := by
  intro p l e R s m args below meth c A mc ms Z C E H locs cells slots ls r
  exact lv_iand C.1.1 C.1.2.1 hd (k C E r)
theorem J_ior {G : GG} {M : MI} {d pc : Nat} {lv : LV} {st : List Value} {h : HP} {n kc kn : Nat} {Q : Nat → List Value → HP → Nat → Prop} {x y : Int32} (hd : decode M.2.1 pc = .ok (.ior, 1)) (k : J G M d (pc + 1) lv (.int (x ||| y) :: st) h n kc kn Q) : J G M d pc lv (.int y :: .int x :: st) h n kc kn Q := by
  intro p l e R s m args below meth c A mc ms Z C E H locs cells slots ls r
  exact lv_ior C.1.1 C.1.2.1 hd (k C E r)
theorem J_ishl {G : GG} {M : MI} {d pc : Nat} {lv : LV} {st : List Value} {h : HP} {n kc kn : Nat} {Q : Nat → List Value → HP → Nat → Prop} {x y : Int32} (hd : decode M.2.1 pc = .ok (.ishl, 1)) (k : J G M d (pc + 1) lv (.int (x <<< (y &&& 31)) :: st) h n kc kn Q) : J G M d pc lv (.int y :: .int x :: st) h n kc kn Q := by
  intro p l e R s m args below meth c A mc ms Z C E H locs cells slots ls r
  exact lv_ishl C.1.1 C.1.2.1 hd (k C E r)
theorem J_ladd {G : GG} {M : MI} {d pc : Nat} {lv : LV} {st : List Value} {h : HP} {n kc kn : Nat} {Q : Nat → List Value → HP → Nat → Prop} {x y : Int64} (hd : decode M.2.1 pc = .ok (.ladd, 1)) (k : J G M d (pc + 1) lv (.long (x + y) :: st) h n kc kn Q) : J G M d pc lv (.long y :: .long x :: st) h n kc kn Q := by
  intro p l e R s m args below meth c A mc ms Z C E H locs cells slots ls r
  exact lv_ladd C.1.1 C.1.2.1 hd (k C E r)
theorem J_lsub {G : GG} {M : MI} {d pc : Nat} {lv : LV} {st : List Value} {h : HP} {n kc kn : Nat} {Q : Nat → List Value → HP → Nat → Prop} {x y : Int64} (hd : decode M.2.1 pc = .ok (.lsub, 1)) (k : J G M d (pc + 1) lv (.long (x - y) :: st) h n kc kn Q) : J G M d pc lv (.long y :: .long x :: st) h n kc kn Q := by
  intro p l e R s m args below meth c A mc ms Z C E H locs cells slots ls r
  exact lv_lsub C.1.1 C.1.2.1 hd (k C E r)
theorem J_lmul {G : GG} {M : MI} {d pc : Nat} {lv : LV} {st : List Value} {h : HP} {n kc kn : Nat} {Q : Nat → List Value → HP → Nat → Prop} {x y : Int64} (hd : decode M.2.1 pc = .ok (.lmul, 1)) (k : J G M d (pc + 1) lv (.long (x * y) :: st) h n kc kn Q) : J G M d pc lv (.long y :: .long x :: st) h n kc kn Q := by
  intro p l e R s m args below meth c A mc ms Z C E H locs cells slots ls r
  exact lv_lmul C.1.1 C.1.2.1 hd (k C E r)
theorem J_idiv {G : GG} {M : MI} {d pc : Nat} {lv : LV} {st : List Value} {h : HP} {n kc kn : Nat} {Q : Nat → List Value → HP → Nat → Prop} {x y : Int32} (hd : decode M.2.1 pc = .ok (.idiv, 1)) (hne : ¬ y = 0) (k : J G M d (pc + 1) lv (.int (x / y) :: st) h n kc kn Q) : J G M d pc lv (.int y :: .int x :: st) h n kc kn Q := by
  intro p l e R s m args below meth c A mc ms Z C E H locs cells slots ls r
  exact lv_idiv C.1.1 C.1.2.1 hd hne (k C E r)
theorem J_irem {G : GG} {M : MI} {d pc : Nat} {lv : LV} {st : List Value} {h : HP} {n kc kn : Nat} {Q : Nat → List Value → HP → Nat → Prop} {x y : Int32} (hd : decode M.2.1 pc = .ok (.irem, 1)) (hne : ¬ y = 0) (k : J G M d (pc + 1) lv (.int (x - x / y * y) :: st) h n kc kn Q) : J G M d pc lv (.int y :: .int x :: st) h n kc kn Q := by
  intro p l e R s m args below meth c A mc ms Z C E H locs cells slots ls r
  exact lv_irem C.1.1 C.1.2.1 hd hne (k C E r)
theorem J_ineg {G : GG} {M : MI} {d pc : Nat} {lv : LV} {st : List Value} {h : HP} {n kc kn : Nat} {Q : Nat → List Value → HP → Nat → Prop} {x : Int32} (hd : decode M.2.1 pc = .ok (.ineg, 1)) (k : J G M d (pc + 1) lv (.int (-x) :: st) h n kc kn Q) : J G M d pc lv (.int x :: st) h n kc kn Q := by
  intro p l e R s m args below meth c A mc ms Z C E H locs cells slots ls r
  exact lv_ineg C.1.1 C.1.2.1 hd (k C E r)
theorem J_i2l {G : GG} {M : MI} {d pc : Nat} {lv : LV} {st : List Value} {h : HP} {n kc kn : Nat} {Q : Nat → List Value → HP → Nat → Prop} {x : Int32} (hd : decode M.2.1 pc = .ok (.i2l, 1)) (k : J G M d (pc + 1) lv (.long x.toInt64 :: st) h n kc kn Q) : J G M d pc lv (.int x :: st) h n kc kn Q := by
  intro p l e R s m args below meth c A mc ms Z C E H locs cells slots ls r
  exact lv_i2l C.1.1 C.1.2.1 hd rfl (k C E r)
theorem J_i2d {G : GG} {M : MI} {d pc : Nat} {lv : LV} {st : List Value} {h : HP} {n kc kn : Nat} {Q : Nat → List Value → HP → Nat → Prop} {x : Int32} (hd : decode M.2.1 pc = .ok (.i2d, 1)) (k : J G M d (pc + 1) lv (.double (FP.i2d x) :: st) h n kc kn Q) : J G M d pc lv (.int x :: st) h n kc kn Q := by
  intro p l e R s m args below meth c A mc ms Z C E H locs cells slots ls r
  exact lv_i2d C.1.1 C.1.2.1 hd (k C E r)
theorem J_d2l {G : GG} {M : MI} {d pc : Nat} {lv : LV} {st : List Value} {h : HP} {n kc kn : Nat} {Q : Nat → List Value → HP → Nat → Prop} {x : UInt64} (hd : decode M.2.1 pc = .ok (.d2l, 1)) (k : J G M d (pc + 1) lv (.long (FP.d2l x) :: st) h n kc kn Q) : J G M d pc lv (.double x :: st) h n kc kn Q := by
  intro p l e R s m args below meth c A mc ms Z C E H locs cells slots ls r
  exact lv_d2l C.1.1 C.1.2.1 hd (k C E r)
theorem J_lshl {G : GG} {M : MI} {d pc : Nat} {lv : LV} {st : List Value} {h : HP} {n kc kn : Nat} {Q : Nat → List Value → HP → Nat → Prop} {x : Int64} {y : Int32} (hd : decode M.2.1 pc = .ok (.lshl, 1)) (k : J G M d (pc + 1) lv (.long (x <<< (y.toInt64 &&& 63)) :: st) h n kc kn Q) : J G M d pc lv (.int y :: .long x :: st) h n kc kn Q := by
  intro p l e R s m args below meth c A mc ms Z C E H locs cells slots ls r
  exact lv_lshl C.1.1 C.1.2.1 hd rfl (k C E r)
theorem J_lcmp {G : GG} {M : MI} {d pc : Nat} {lv : LV} {st : List Value} {h : HP} {n kc kn : Nat} {Q : Nat → List Value → HP → Nat → Prop} {x y : Int64} (hd : decode M.2.1 pc = .ok (.lcmp, 1)) (k : J G M d (pc + 1) lv (.int (lg_cmp x y) :: st) h n kc kn Q) : J G M d pc lv (.long y :: .long x :: st) h n kc kn Q := by
  intro p l e R s m args below meth c A mc ms Z C E H locs cells slots ls r
  exact W.lcmp C.1.1 C.1.2.1 hd (k C E r)
theorem J_dcmp {G : GG} {M : MI} {d pc : Nat} {lv : LV} {st : List Value} {h : HP} {n kc kn : Nat} {Q : Nat → List Value → HP → Nat → Prop} {x y : UInt64} {op : CmpOp} (hd : decode M.2.1 pc = .ok (.dcmp op, 1)) (k : J G M d (pc + 1) lv (.int (Op.cmpValue (FP.dcmp x y) op) :: st) h n kc kn Q) : J G M d pc lv (.double y :: .double x :: st) h n kc kn Q := by
  intro p l e R s m args below meth c A mc ms Z C E H locs cells slots ls r
  exact lv_dcmp C.1.1 C.1.2.1 hd (k C E r)
theorem J_dmul {G : GG} {M : MI} {d pc : Nat} {lv : LV} {st : List Value} {h : HP} {n kc kn : Nat} {Q : Nat → List Value → HP → Nat → Prop} {x y : UInt64} (hd : decode M.2.1 pc = .ok (.dmul, 1)) (hne : vf_n64 (FP.dmul x y)) (k : J G M d (pc + 1) lv (.double (FP.dmul x y) :: st) h n kc kn Q) : J G M d pc lv (.double y :: .double x :: st) h n kc kn Q := by
  intro p l e R s m args below meth c A mc ms Z C E H locs cells slots ls r
  exact lv_dmul C.1.1 C.1.2.1 hd hne (k C E r)
theorem J_ddiv {G : GG} {M : MI} {d pc : Nat} {lv : LV} {st : List Value} {h : HP} {n kc kn : Nat} {Q : Nat → List Value → HP → Nat → Prop} {x y : UInt64} (hd : decode M.2.1 pc = .ok (.ddiv, 1)) (hne : vf_n64 (FP.ddiv x y)) (k : J G M d (pc + 1) lv (.double (FP.ddiv x y) :: st) h n kc kn Q) : J G M d pc lv (.double y :: .double x :: st) h n kc kn Q := by
  intro p l e R s m args below meth c A mc ms Z C E H locs cells slots ls r
  exact lv_ddiv C.1.1 C.1.2.1 hd hne (k C E r)
theorem J_dsub {G : GG} {M : MI} {d pc : Nat} {lv : LV} {st : List Value} {h : HP} {n kc kn : Nat} {Q : Nat → List Value → HP → Nat → Prop} {x y : UInt64} (hd : decode M.2.1 pc = .ok (.dsub, 1)) (hne : vf_n64 (FP.dsub x y)) (k : J G M d (pc + 1) lv (.double (FP.dsub x y) :: st) h n kc kn Q) : J G M d pc lv (.double y :: .double x :: st) h n kc kn Q := by
  intro p l e R s m args below meth c A mc ms Z C E H locs cells slots ls r
  exact lv_dsub C.1.1 C.1.2.1 hd hne (k C E r)
theorem J_dup {G : GG} {M : MI} {d pc : Nat} {lv : LV} {st : List Value} {h : HP} {n kc kn : Nat} {Q : Nat → List Value → HP → Nat → Prop} {v : Value} (hd : decode M.2.1 pc = .ok (.dup, 1)) (hv : v.category = 1) (k : J G M d (pc + 1) lv (v :: v :: st) h n kc kn Q) : J G M d pc lv (v :: st) h n kc kn Q := by
  intro p l e R s m args below meth c A mc ms Z C E H locs cells slots ls r
  exact lv_dup C.1.1 C.1.2.1 hd hv (k C E r)
theorem J_dup2 {G : GG} {M : MI} {d pc : Nat} {lv : LV} {st : List Value} {h : HP} {n kc kn : Nat} {Q : Nat → List Value → HP → Nat → Prop} {v w : Value} (hd : decode M.2.1 pc = .ok (.dup2, 1)) (hv : v.category = 1) (hw : w.category = 1) (k : J G M d (pc + 1) lv (v :: w :: v :: w :: st) h n kc kn Q) : J G M d pc lv (v :: w :: st) h n kc kn Q := by
  intro p l e R s m args below meth c A mc ms Z C E H locs cells slots ls r
  exact lv_dup2_11 C.1.1 C.1.2.1 hd hv hw (k C E r)
theorem J_pop {G : GG} {M : MI} {d pc : Nat} {lv : LV} {st : List Value} {h : HP} {n kc kn : Nat} {Q : Nat → List Value → HP → Nat → Prop} {v : Value} (hd : decode M.2.1 pc = .ok (.pop, 1)) (hv : v.category = 1) (k : J G M d (pc + 1) lv st h n kc kn Q) : J G M d pc lv (v :: st) h n kc kn Q := by
  intro p l e R s m args below meth c A mc ms Z C E H locs cells slots ls r
  exact lv_pop C.1.1 C.1.2.1 hd hv (k C E r)
theorem J_istore {G : GG} {M : MI} {d pc : Nat} {lv : LV} {st : List Value} {h : HP} {n kc kn : Nat} {Q : Nat → List Value → HP → Nat → Prop} {i : Nat} {x : Int32} (hd : decode M.2.1 pc = .ok (.istore i, 2)) (hi : i < M.2.2.1) (hk : lok lv i = true) (k : J G M d (pc + 2) ((i, .int x) :: lv) st h n kc kn Q) : J G M d pc lv (.int x :: st) h n kc kn Q := by
  intro p l e R s m args below meth c A mc ms Z C E H locs cells slots ls r
  exact lv_istore C.1.1 C.1.2.1 hd r.2.2.2.1.has hi rfl (fun ls' h' => k C E ⟨r.1, r.2.1, r.2.2.1, r.2.2.2.1.put1 hk h', r.2.2.2.2⟩)
theorem J_istore_n {G : GG} {M : MI} {d pc : Nat} {lv : LV} {st : List Value} {h : HP} {n kc kn : Nat} {Q : Nat → List Value → HP → Nat → Prop} {j : Fin 4} {x : Int32} (hd : decode M.2.1 pc = .ok (.istore_n j, 1)) (hi : j.val < M.2.2.1) (hk : lok lv j.val = true) (k : J G M d (pc + 1) ((j.val, .int x) :: lv) st h n kc kn Q) : J G M d pc lv (.int x :: st) h n kc kn Q := by
  intro p l e R s m args below meth c A mc ms Z C E H locs cells slots ls r
  exact lv_istore_n C.1.1 C.1.2.1 hd rfl r.2.2.2.1.has hi rfl (fun ls' h' => k C E ⟨r.1, r.2.1, r.2.2.1, r.2.2.2.1.put1 hk h', r.2.2.2.2⟩)
theorem J_astore {G : GG} {M : MI} {d pc : Nat} {lv : LV} {st : List Value} {h : HP} {n kc kn : Nat} {Q : Nat → List Value → HP → Nat → Prop} {i : Nat} {x : Nat} (hd : decode M.2.1 pc = .ok (.astore i, 2)) (hi : i < M.2.2.1) (hk : lok lv i = true) (k : J G M d (pc + 2) ((i, .ref x) :: lv) st h n kc kn Q) : J G M d pc lv (.ref x :: st) h n kc kn Q := by
  intro p l e R s m args below meth c A mc ms Z C E H locs cells slots ls r
  exact lv_astore C.1.1 C.1.2.1 hd r.2.2.2.1.has hi rfl (fun ls' h' => k C E ⟨r.1, r.2.1, r.2.2.1, r.2.2.2.1.put1 hk h', r.2.2.2.2⟩)
theorem J_astore_n {G : GG} {M : MI} {d pc : Nat} {lv : LV} {st : List Value} {h : HP} {n kc kn : Nat} {Q : Nat → List Value → HP → Nat → Prop} {j : Fin 4} {x : Nat} (hd : decode M.2.1 pc = .ok (.astore_n j, 1)) (hi : j.val < M.2.2.1) (hk : lok lv j.val = true) (k : J G M d (pc + 1) ((j.val, .ref x) :: lv) st h n kc kn Q) : J G M d pc lv (.ref x :: st) h n kc kn Q := by
  intro p l e R s m args below meth c A mc ms Z C E H locs cells slots ls r
  exact lv_astore_n C.1.1 C.1.2.1 hd rfl r.2.2.2.1.has hi rfl (fun ls' h' => k C E ⟨r.1, r.2.1, r.2.2.1, r.2.2.2.1.put1 hk h', r.2.2.2.2⟩)
theorem J_astoreN {G : GG} {M : MI} {d pc : Nat} {lv : LV} {st : List Value} {h : HP} {n kc kn : Nat} {Q : Nat → List Value → HP → Nat → Prop} {i : Nat} (hd : decode M.2.1 pc = .ok (.astore i, 2)) (hi : i < M.2.2.1) (hk : lok lv i = true) (k : J G M d (pc + 2) ((i, .null) :: lv) st h n kc kn Q) : J G M d pc lv (.null :: st) h n kc kn Q := by
  intro p l e R s m args below meth c A mc ms Z C E H locs cells slots ls r
  exact lv_astoreN C.1.1 C.1.2.1 hd r.2.2.2.1.has hi rfl (fun ls' h' => k C E ⟨r.1, r.2.1, r.2.2.1, r.2.2.2.1.put1 hk h', r.2.2.2.2⟩)
theorem J_astoreN_n {G : GG} {M : MI} {d pc : Nat} {lv : LV} {st : List Value} {h : HP} {n kc kn : Nat} {Q : Nat → List Value → HP → Nat → Prop} {j : Fin 4} (hd : decode M.2.1 pc = .ok (.astore_n j, 1)) (hi : j.val < M.2.2.1) (hk : lok lv j.val = true) (k : J G M d (pc + 1) ((j.val, .null) :: lv) st h n kc kn Q) : J G M d pc lv (.null :: st) h n kc kn Q := by
  intro p l e R s m args below meth c A mc ms Z C E H locs cells slots ls r
  exact lv_astore_nN C.1.1 C.1.2.1 hd rfl r.2.2.2.1.has hi rfl (fun ls' h' => k C E ⟨r.1, r.2.1, r.2.2.1, r.2.2.2.1.put1 hk h', r.2.2.2.2⟩)
theorem J_lstore {G : GG} {M : MI} {d pc : Nat} {lv : LV} {st : List Value} {h : HP} {n kc kn : Nat} {Q : Nat → List Value → HP → Nat → Prop} {i : Nat} {x : Int64} (hd : decode M.2.1 pc = .ok (.lstore i, 2)) (hi : i + 1 < M.2.2.1) (hk : lok lv i = true) (k : J G M d (pc + 2) (lput2 lv i (.long x)) st h n kc kn Q) : J G M d pc lv (.long x :: st) h n kc kn Q := by
  intro p l e R s m args below meth c A mc ms Z C E H locs cells slots ls r
  exact lv_lstore C.1.1 C.1.2.1 hd r.2.2.2.1.has hi rfl (fun ls' h' => k C E ⟨r.1, r.2.1, r.2.2.1, r.2.2.2.1.put2 hk h', r.2.2.2.2⟩)
theorem J_lstore_n {G : GG} {M : MI} {d pc : Nat} {lv : LV} {st : List Value} {h : HP} {n kc kn : Nat} {Q : Nat → List Value → HP → Nat → Prop} {j : Fin 4} {x : Int64} (hd : decode M.2.1 pc = .ok (.lstore_n j, 1)) (hi : j.val + 1 < M.2.2.1) (hk : lok lv j.val = true) (k : J G M d (pc + 1) (lput2 lv j.val (.long x)) st h n kc kn Q) : J G M d pc lv (.long x :: st) h n kc kn Q := by
  intro p l e R s m args below meth c A mc ms Z C E H locs cells slots ls r
  exact lv_lstore_n C.1.1 C.1.2.1 hd rfl r.2.2.2.1.has hi rfl (fun ls' h' => k C E ⟨r.1, r.2.1, r.2.2.1, r.2.2.2.1.put2 hk h', r.2.2.2.2⟩)
theorem J_dstore {G : GG} {M : MI} {d pc : Nat} {lv : LV} {st : List Value} {h : HP} {n kc kn : Nat} {Q : Nat → List Value → HP → Nat → Prop} {i : Nat} {x : UInt64} (hd : decode M.2.1 pc = .ok (.dstore i, 2)) (hi : i + 1 < M.2.2.1) (hk : lok lv i = true) (k : J G M d (pc + 2) (lput2 lv i (.double x)) st h n kc kn Q) : J G M d pc lv (.double x :: st) h n kc kn Q := by
  intro p l e R s m args below meth c A mc ms Z C E H locs cells slots ls r
  exact lv_dstore C.1.1 C.1.2.1 hd r.2.2.2.1.has hi rfl (fun ls' h' => k C E ⟨r.1, r.2.1, r.2.2.1, r.2.2.2.1.put2 hk h', r.2.2.2.2⟩)
theorem J_dstore_n {G : GG} {M : MI} {d pc : Nat} {lv : LV} {st : List Value} {h : HP} {n kc kn : Nat} {Q : Nat → List Value → HP → Nat → Prop} {j : Fin 4} {x : UInt64} (hd : decode M.2.1 pc = .ok (.dstore_n j, 1)) (hi : j.val + 1 < M.2.2.1) (hk : lok lv j.val = true) (k : J G M d (pc + 1) (lput2 lv j.val (.double x)) st h n kc kn Q) : J G M d pc lv (.double x :: st) h n kc kn Q := by
  intro p l e R s m args below meth c A mc ms Z C E H locs cells slots ls r
  exact lv_dstore_n C.1.1 C.1.2.1 hd rfl r.2.2.2.1.has hi rfl (fun ls' h' => k C E ⟨r.1, r.2.1, r.2.2.1, r.2.2.2.1.put2 hk h', r.2.2.2.2⟩)
theorem J_iinc {G : GG} {M : MI} {d pc : Nat} {lv : LV} {st : List Value} {h : HP} {n kc kn : Nat} {Q : Nat → List Value → HP → Nat → Prop} {i : Nat} {z : Int} {x v : Int32} (hd : decode M.2.1 pc = .ok (.iinc i z, 3)) (hx : lget lv i = some (.int x)) (hv : Int32.ofInt z = v) (hk : lok lv i = true) (k : J G M d (pc + 3) ((i, .int (x + v)) :: lv) st h n kc kn Q) : J G M d pc lv st h n kc kn Q := by
  intro p l e R s m args below meth c A mc ms Z C E H locs cells slots ls r
  subst hv
  obtain ⟨k0, hk0⟩ := List.getElem?_of_mem (mem_lcl (q := (i, .int x)).mpr ⟨r.2.2.2.1.in hx, hx⟩)
  exact lv_iinc C.1.1 C.1.2.1 hd r.2.2.2.1.has hk0 rfl (r.2.2.2.1.in hx) rfl (fun ls' h' => k C E ⟨r.1, r.2.1, r.2.2.1, r.2.2.2.1.put1 hk h', r.2.2.2.2⟩)
theorem J_goto {G : GG} {M : MI} {d pc : Nat} {lv : LV} {st : List Value} {h : HP} {n kc kn : Nat} {Q : Nat → List Value → HP → Nat → Prop} {off : Int} {tgt : Nat} (hd : decode M.2.1 pc = .ok (.goto off, 3)) (ht : (pc : Int) + off = (tgt : Int)) (k : J G M d tgt lv st h n kc kn Q) : J G M d pc lv st h n kc kn Q := by
  intro p l e R s m args below meth c A mc ms Z C E H locs cells slots ls r
  exact lv_goto C.1.1 C.1.2.1 hd ht (k C E r)
theorem J_tableIn {G : GG} {M : MI} {d pc : Nat} {lv : LV} {st : List Value} {h : HP} {n kc kn : Nat} {Q : Nat → List Value → HP → Nat → Prop} {dflt lo hi : Int} {offs : Array Int} {len : Nat} {x : Int32} {off : Int} {tgt : Nat} (hd : decode M.2.1 pc = .ok (.tableswitch dflt lo hi offs, len)) (h1 : ¬ x.toInt < lo) (h2 : ¬ hi < x.toInt) (ho : offs[(x.toInt - lo).toNat]? = some off) (ht : (pc : Int) + off = (tgt : Int)) (k : J G M d tgt lv st h n kc kn Q) : J G M d pc lv (.int x :: st) h n kc kn Q := by
  intro p l e R s m args below meth c A mc ms Z C E H locs cells slots ls r
  exact lv_tableIn C.1.1 C.1.2.1 hd h1 h2 ho ht (k C E r)
theorem J_tableOut {G : GG} {M : MI} {d pc : Nat} {lv : LV} {st : List Value} {h : HP} {n kc kn : Nat} {Q : Nat → List Value → HP → Nat → Prop} {dflt lo hi : Int} {offs : Array Int} {len : Nat} {x : Int32} {tgt : Nat} (hd : decode M.2.1 pc = .ok (.tableswitch dflt lo hi offs, len)) (hx : x.toInt < lo ∨ hi < x.toInt) (ht : (pc : Int) + dflt = (tgt : Int)) (k : J G M d tgt lv st h n kc kn Q) : J G M d pc lv (.int x :: st) h n kc kn Q := by
  intro p l e R s m args below meth c A mc ms Z C E H locs cells slots ls r
  exact lv_tableOut C.1.1 C.1.2.1 hd hx ht (k C E r)
theorem J_lookup {G : GG} {M : MI} {d pc : Nat} {lv : LV} {st : List Value} {h : HP} {n kc kn : Nat} {Q : Nat → List Value → HP → Nat → Prop} {dflt : Int} {ps : Array (Int × Int)} {len : Nat} {x : Int32} {off : Int} {tgt : Nat} (hd : decode M.2.1 pc = .ok (.lookupswitch dflt ps, len)) (hp : (ps.toList.zip (ps.toList.drop 1)).all (fun (a, next) => a.1 < next.1) = true) (ho : Op.lookupswitch.offset ps.toList dflt x.toInt = off) (ht : (pc : Int) + off = (tgt : Int)) (k : J G M d tgt lv st h n kc kn Q) : J G M d pc lv (.int x :: st) h n kc kn Q := by
  intro p l e R s m args below meth c A mc ms Z C E H locs cells slots ls r
  exact lv_lookup C.1.1 C.1.2.1 hd hp ho ht (k C E r)
theorem J_ifnull {G : GG} {M : MI} {d pc : Nat} {lv : LV} {st : List Value} {h : HP} {n kc kn : Nat} {Q : Nat → List Value → HP → Nat → Prop} {x : Nat} {off : Int} (hd : decode M.2.1 pc = .ok (.ifnull off, 3)) (k : J G M d (pc + 3) lv st h n kc kn Q) : J G M d pc lv (.ref x :: st) h n kc kn Q := by
  intro p l e R s m args below meth c A mc ms Z C E H locs cells slots ls r
  exact lv_ifnull C.1.1 C.1.2.1 hd (k C E r)
theorem J_ifnonnull {G : GG} {M : MI} {d pc : Nat} {lv : LV} {st : List Value} {h : HP} {n kc kn : Nat} {Q : Nat → List Value → HP → Nat → Prop} {x : Nat} {off : Int} {tgt : Nat} (hd : decode M.2.1 pc = .ok (.ifnonnull off, 3)) (ht : (pc : Int) + off = (tgt : Int)) (k : J G M d tgt lv st h n kc kn Q) : J G M d pc lv (.ref x :: st) h n kc kn Q := by
  intro p l e R s m args below meth c A mc ms Z C E H locs cells slots ls r
  exact lv_ifnonnull C.1.1 C.1.2.1 hd ht (k C E r)
theorem J_ifnullN {G : GG} {M : MI} {d pc : Nat} {lv : LV} {st : List Value} {h : HP} {n kc kn : Nat} {Q : Nat → List Value → HP → Nat → Prop} {off : Int} {tgt : Nat} (hd : decode M.2.1 pc = .ok (.ifnull off, 3)) (ht : (pc : Int) + off = (tgt : Int)) (k : J G M d tgt lv st h n kc kn Q) : J G M d pc lv (.null :: st) h n kc kn Q := by
  intro p l e R s m args below meth c A mc ms Z C E H locs cells slots ls r
  exact lv_ifnullN C.1.1 C.1.2.1 hd ht (k C E r)
theorem J_ifnonnullN {G : GG} {M : MI} {d pc : Nat} {lv : LV} {st : List Value} {h : HP} {n kc kn : Nat} {Q : Nat → List Value → HP → Nat → Prop} {off : Int} (hd : decode M.2.1 pc = .ok (.ifnonnull off, 3)) (k : J G M d (pc + 3) lv st h n kc kn Q) : J G M d pc lv (.null :: st) h n kc kn Q := by
  intro p l e R s m args below meth c A mc ms Z C E H locs cells slots ls r
  exact lv_ifnonnullN C.1.1 C.1.2.1 hd (k C E r)
theorem J_if_eq {G : GG} {M : MI} {d pc : Nat} {lv : LV} {st : List Value} {h : HP} {n kc kn : Nat} {Q : Nat → List Value → HP → Nat → Prop} {x : Int32} {off : Int} {tgt : Nat} (hd : decode M.2.1 pc = .ok (.ifCond .eq off, 3)) (ht : (pc : Int) + off = (tgt : Int)) (kt : x = 0 → J G M d tgt lv st h n kc kn Q) (kf : ¬ x = 0 → J G M d (pc + 3) lv st h n kc kn Q) : J G M d pc lv (.int x :: st) h n kc kn Q := by
  intro p l e R s m args below meth c A mc ms Z C E H locs cells slots ls r
  exact lv_if_eq C.1.1 C.1.2.1 hd ht (fun q => kt q C E r) (fun q => kf q C E r)
theorem J_if_ne {G : GG} {M : MI} {d pc : Nat} {lv : LV} {st : List Value} {h : HP} {n kc kn : Nat} {Q : Nat → List Value → HP → Nat → Prop} {x : Int32} {off : Int} {tgt : Nat} (hd : decode M.2.1 pc = .ok (.ifCond .ne off, 3)) (ht : (pc : Int) + off = (tgt : Int)) (kt : ¬ x = 0 → J G M d tgt lv st h n kc kn Q) (kf : x = 0 → J G M d (pc + 3) lv st h n kc kn Q) : J G M d pc lv (.int x :: st) h n kc kn Q := by
  intro p l e R s m args below meth c A mc ms Z C E H locs cells slots ls r
  exact lv_if_ne C.1.1 C.1.2.1 hd ht (fun q => kt q C E r) (fun q => kf q C E r)
theorem J_if_lt {G : GG} {M : MI} {d pc : Nat} {lv : LV} {st : List Value} {h : HP} {n kc kn : Nat} {Q : Nat → List Value → HP → Nat → Prop} {x : Int32} {off : Int} {tgt : Nat} (hd : decode M.2.1 pc = .ok (.ifCond .lt off, 3)) (ht : (pc : Int) + off = (tgt : Int)) (kt : x < 0 → J G M d tgt lv st h n kc kn Q) (kf : ¬ x < 0 → J G M d (pc + 3) lv st h n kc kn Q) : J G M d pc lv (.int x :: st) h n kc kn Q := by
  intro p l e R s m args below meth c A mc ms Z C E H locs cells slots ls r
  exact lv_if_lt C.1.1 C.1.2.1 hd ht (fun q => kt q C E r) (fun q => kf q C E r)
theorem J_if_ge {G : GG} {M : MI} {d pc : Nat} {lv : LV} {st : List Value} {h : HP} {n kc kn : Nat} {Q : Nat → List Value → HP → Nat → Prop} {x : Int32} {off : Int} {tgt : Nat} (hd : decode M.2.1 pc = .ok (.ifCond .ge off, 3)) (ht : (pc : Int) + off = (tgt : Int)) (kt : 0 ≤ x → J G M d tgt lv st h n kc kn Q) (kf : ¬ 0 ≤ x → J G M d (pc + 3) lv st h n kc kn Q) : J G M d pc lv (.int x :: st) h n kc kn Q := by
  intro p l e R s m args below meth c A mc ms Z C E H locs cells slots ls r
  exact lv_if_ge C.1.1 C.1.2.1 hd ht (fun q => kt q C E r) (fun q => kf q C E r)
theorem J_if_gt {G : GG} {M : MI} {d pc : Nat} {lv : LV} {st : List Value} {h : HP} {n kc kn : Nat} {Q : Nat → List Value → HP → Nat → Prop} {x : Int32} {off : Int} {tgt : Nat} (hd : decode M.2.1 pc = .ok (.ifCond .gt off, 3)) (ht : (pc : Int) + off = (tgt : Int)) (kt : 0 < x → J G M d tgt lv st h n kc kn Q) (kf : ¬ 0 < x → J G M d (pc + 3) lv st h n kc kn Q) : J G M d pc lv (.int x :: st) h n kc kn Q := by
  intro p l e R s m args below meth c A mc ms Z C E H locs cells slots ls r
  exact lv_if_gt C.1.1 C.1.2.1 hd ht (fun q => kt q C E r) (fun q => kf q C E r)
theorem J_if_le {G : GG} {M : MI} {d pc : Nat} {lv : LV} {st : List Value} {h : HP} {n kc kn : Nat} {Q : Nat → List Value → HP → Nat → Prop} {x : Int32} {off : Int} {tgt : Nat} (hd : decode M.2.1 pc = .ok (.ifCond .le off, 3)) (ht : (pc : Int) + off = (tgt : Int)) (kt : x ≤ 0 → J G M d tgt lv st h n kc kn Q) (kf : ¬ x ≤ 0 → J G M d (pc + 3) lv st h n kc kn Q) : J G M d pc lv (.int x :: st) h n kc kn Q := by
  intro p l e R s m args below meth c A mc ms Z C E H locs cells slots ls r
  exact lv_if_le C.1.1 C.1.2.1 hd ht (fun q => kt q C E r) (fun q => kf q C E r)
theorem J_icmp_eq {G : GG} {M : MI} {d pc : Nat} {lv : LV} {st : List Value} {h : HP} {n kc kn : Nat} {Q : Nat → List Value → HP → Nat → Prop} {x y : Int32} {off : Int} {tgt : Nat} (hd : decode M.2.1 pc = .ok (.if_icmp .eq off, 3)) (ht : (pc : Int) + off = (tgt : Int)) (kt : x = y → J G M d tgt lv st h n kc kn Q) (kf : ¬ x = y → J G M d (pc + 3) lv st h n kc kn Q) : J G M d pc lv (.int y :: .int x :: st) h n kc kn Q := by
  intro p l e R s m args below meth c A mc ms Z C E H locs cells slots ls r
  exact lv_icmp_eq C.1.1 C.1.2.1 hd ht (fun q => kt q C E r) (fun q => kf q C E r)
theorem J_icmp_ne {G : GG} {M : MI} {d pc : Nat} {lv : LV} {st : List Value} {h : HP} {n kc kn : Nat} {Q : Nat → List Value → HP → Nat → Prop} {x y : Int32} {off : Int} {tgt : Nat} (hd : decode M.2.1 pc = .ok (.if_icmp .ne off, 3)) (ht : (pc : Int) + off = (tgt : Int)) (kt : ¬ x = y → J G M d tgt lv st h n kc kn Q) (kf : x = y → J G M d (pc + 3) lv st h n kc kn Q) : J G M d pc lv (.int y :: .int x :: st) h n kc kn Q := by
  intro p l e R s m args below meth c A mc ms Z C E H locs cells slots ls r
  exact lv_icmp_ne C.1.1 C.1.2.1 hd ht (fun q => kt q C E r) (fun q => kf q C E r)
theorem J_icmp_lt {G : GG} {M : MI} {d pc : Nat} {lv : LV} {st : List Value} {h : HP} {n kc kn : Nat} {Q : Nat → List Value → HP → Nat → Prop} {x y : Int32} {off : Int} {tgt : Nat} (hd : decode M.2.1 pc = .ok (.if_icmp .lt off, 3)) (ht : (pc : Int) + off = (tgt : Int)) (kt : x < y → J G M d tgt lv st h n kc kn Q) (kf : ¬ x < y → J G M d (pc + 3) lv st h n kc kn Q) : J G M d pc lv (.int y :: .int x :: st) h n kc kn Q := by
  intro p l e R s m args below meth c A mc ms Z C E H locs cells slots ls r
  exact lv_icmp_lt C.1.1 C.1.2.1 hd ht (fun q => kt q C E r) (fun q => kf q C E r)
theorem J_icmp_ge {G : GG} {M : MI} {d pc : Nat} {lv : LV} {st : List Value} {h : HP} {n kc kn : Nat} {Q : Nat → List Value → HP → Nat → Prop} {x y : Int32} {off : Int} {tgt : Nat} (hd : decode M.2.1 pc = .ok (.if_icmp .ge off, 3)) (ht : (pc : Int) + off = (tgt : Int)) (kt : y ≤ x → J G M d tgt lv st h n kc kn Q) (kf : ¬ y ≤ x → J G M d (pc + 3) lv st h n kc kn Q) : J G M d pc lv (.int y :: .int x :: st) h n kc kn Q := by
  intro p l e R s m args below meth c A mc ms Z C E H locs cells slots ls r
  exact lv_icmp_ge C.1.1 C.1.2.1 hd ht (fun q => kt q C E r) (fun q => kf q C E r)
theorem J_icmp_gt {G : GG} {M : MI} {d pc : Nat} {lv : LV} {st : List Value} {h : HP} {n kc kn : Nat} {Q : Nat → List Value → HP → Nat → Prop} {x y : Int32} {off : Int} {tgt : Nat} (hd : decode M.2.1 pc = .ok (.if_icmp .gt off, 3)) (ht : (pc : Int) + off = (tgt : Int)) (kt : y < x → J G M d tgt lv st h n kc kn Q) (kf : ¬ y < x → J G M d (pc + 3) lv st h n kc kn Q) : J G M d pc lv (.int y :: .int x :: st) h n kc kn Q := by
  intro p l e R s m args below meth c A mc ms Z C E H locs cells slots ls r
  exact lv_icmp_gt C.1.1 C.1.2.1 hd ht (fun q => kt q C E r) (fun q => kf q C E r)
theorem J_icmp_le {G : GG} {M : MI} {d pc : Nat} {lv : LV} {st : List Value} {h : HP} {n kc kn : Nat} {Q : Nat → List Value → HP → Nat → Prop} {x y : Int32} {off : Int} {tgt : Nat} (hd : decode M.2.1 pc = .ok (.if_icmp .le off, 3)) (ht : (pc : Int) + off = (tgt : Int)) (kt : x ≤ y → J G M d tgt lv st h n kc kn Q) (kf : ¬ x ≤ y → J G M d (pc + 3) lv st h n kc kn Q) : J G M d pc lv (.int y :: .int x :: st) h n kc kn Q := by
  intro p l e R s m args below meth c A mc ms Z C E H locs cells slots ls r
  exact lv_icmp_le C.1.1 C.1.2.1 hd ht (fun q => kt q C E r) (fun q => kf q C E r)
