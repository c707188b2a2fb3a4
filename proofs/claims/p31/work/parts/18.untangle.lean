/-! the untangler -/
theorem J_mmax {G : GG} {M : MI} {d pc : Nat} {lv : LV} {rest : List Value} {h : HP} {n kc kn : Nat} {Q : Nat → List Value → HP → Nat → Prop} {idx : Nat} {x y : Int32} (lk : Cond.methodLink M.1.cls idx Lib.Math.max.name ∈ WS) (hs : Cond.static Lib.Math.max.name ∈ WS) (hi : Cond.initialized "java/lang/Math" ∈ WS) (hc : Cond.code Lib.Math.max.name Lib.Math.max.code 2 (some .int) ∈ WS) (hd : decode M.2.1 pc = .ok (.invokestatic idx, 3)) (hdd : 1 ≤ d) (hrest : (rest.map fun v => v.category).sum ≤ 8) (k : J G M d (pc + 3) lv (.int (if x < y then y else x) :: rest) h n kc kn Q) : J G M d pc lv (.int y :: .int x :: rest) h n kc kn Q := by
  intro p l e R s m args below meth c A mc ms Z C E H locs cells slots ls r
  have hR := C.2.2.2.2.1
  have hr := r.2.2.2.2
  exact va_mmax C.1.1 C.1.2.1 (C.1.2.2.1.trans r.2.2.2.1.1.symm) C.1.2.2.2.2.2.2 (C.2.1 _ lk) (C.2.1 _ hs) (C.2.1 _ hi) (C.2.1 _ hc) (by omega) (by omega) (by omega) (by omega) hd (k C E r)
theorem fhA_lt {xs : List Int32} {p q : Nat} : ∀ {j q0 : Nat}, fhA xs j q0 = some (p, q) → p < q ∧ q < q0 + j ∧ hb xs q = some p := by
  intro j
  induction j with
  | zero => intro q0 h; cases h
  | succ j ih =>
    intro q0 h
    unfold fhA at h
    cases e : hb xs q0 with
    | none =>
      rw [e] at h
      have := ih h
      exact ⟨this.1, by omega, this.2.2⟩
    | some p0 =>
      rw [e] at h
      cases h
      refine ⟨?_, by omega, e⟩
      unfold hb at e
      split at e
      · cases e
      · rename_i p1 e1
        split at e
        · cases e; exact lst_lt e1
        · cases e
theorem fh_lt {xs : List Int32} {p q : Nat} (h : fh xs = some (p, q)) : p < q ∧ q < xs.length ∧ hb xs q = some p := by
  have := fhA_lt h
  exact ⟨this.1, by omega, this.2.2⟩
theorem tkp_len {xs : List Int32} {p q k : Nat} (hpq : p < q) : (tkp xs p q k).length = if k = p ∨ k = q then 0 else if (p < k ∧ k < q) ∧ rk (xs.getD k 0) = rk (xs.getD p 0) + 1 then 3 else 1 := by
  unfold tkp
  split
  · rfl
  · split <;> rfl
theorem tkT_len1 {xs : List Int32} {p q : Nat} (hpq : p < q) : ∀ k, k ≤ p → (tkT xs p q k).length = k := by
  intro k
  induction k with
  | zero => intro _; rfl
  | succ k ih =>
    intro hk
    rw [tkT, List.length_append, ih (by omega), tkp_len hpq, if_neg (by omega), if_neg (fun q0 => by omega)]
theorem tkT_len2 {xs : List Int32} {p q : Nat} (hpq : p < q) : ∀ c, p + 1 + c ≤ q → (tkT xs p q (p + 1 + c)).length = p + c + 2 * cntT xs p c := by
  intro c
  induction c with
  | zero =>
    intro _
    rw [Nat.add_zero, tkT, List.length_append, tkT_len1 hpq p (Nat.le_refl _), tkp_len hpq, if_pos (Or.inl rfl)]
    rfl
  | succ c ih =>
    intro hc
    rw [show p + 1 + (c + 1) = (p + 1 + c) + 1 by omega, tkT, List.length_append, ih (by omega), tkp_len hpq, if_neg (by omega), cntT]
    by_cases e : rk (xs.getD (p + 1 + c) 0) = rk (xs.getD p 0) + 1
    · rw [if_pos ⟨by omega, e⟩, if_pos e]; omega
    · rw [if_neg (fun q0 => e q0.2), if_neg e]; omega
theorem tkT_len3 {xs : List Int32} {p q : Nat} (hpq : p < q) : ∀ c, (tkT xs p q (q + 1 + c)).length = q - 1 + c + 2 * cntT xs p (q - (p + 1)) := by
  intro c
  induction c with
  | zero =>
    have h2 := tkT_len2 (xs := xs) hpq (q - (p + 1)) (by omega)
    rw [show p + 1 + (q - (p + 1)) = q by omega] at h2
    rw [Nat.add_zero, tkT, List.length_append, h2, tkp_len hpq, if_pos (Or.inr rfl)]
    omega
  | succ c ih =>
    rw [show q + 1 + (c + 1) = (q + 1 + c) + 1 by omega, tkT, List.length_append, ih, tkp_len hpq, if_neg (by omega), if_neg (fun q0 => by omega)]
    omega
theorem tko_len {xs : List Int32} {p q : Nat} (hpq : p < q) (hq : q < xs.length) : (tko xs p q).length = lwo xs p q := by
  have h3 := tkT_len3 (xs := xs) hpq (xs.length - (q + 1))
  rw [show q + 1 + (xs.length - (q + 1)) = xs.length by omega] at h3
  rw [tko, h3, lwo]
  omega
theorem isX_three {P x : Int32} (hP : isX P) (hx : isX x) (e : rk x = rk P + 1) : isX (-(sg P) * (rk P + 1)) ∧ isX (sg x * rk P) ∧ isX (sg P * (rk P + 1)) := by
  unfold isX at *
  rcases hP with rfl | rfl | rfl | rfl | rfl | rfl <;> rcases hx with rfl | rfl | rfl | rfl | rfl | rfl <;> revert e <;> decide
theorem allX_mem {xs : List Int32} : allX xs ↔ ∀ x, x ∈ xs → isX x := by
  constructor
  · intro h x hx
    obtain ⟨k, hk, rfl⟩ := List.getElem_of_mem hx
    have := h k hk
    rwa [getD_lt hk] at this
  · intro h k hk
    rw [getD_lt hk]
    exact h _ (List.getElem_mem hk)
theorem tko_allX {xs : List Int32} {p q : Nat} (hx : allX xs) (hpq : p < q) (hq : q < xs.length) : allX (tko xs p q) := by
  have hT : ∀ k, k ≤ xs.length → ∀ x, x ∈ tkT xs p q k → isX x := by
    intro k
    induction k with
    | zero => intro _ x h; cases h
    | succ k ih =>
      intro hk x h
      rw [tkT] at h
      rcases List.mem_append.mp h with h | h
      · exact ih (by omega) x h
      · unfold tkp at h
        split at h
        · cases h
        · split at h
          · rename_i e
            obtain ⟨a, b, c⟩ := isX_three (hx p (by omega)) (hx k (by omega)) e.2
            simp only [List.mem_cons, List.not_mem_nil, or_false] at h
            rcases h with rfl | rfl | rfl
            · exact a
            · exact b
            · exact c
          · simp only [List.mem_cons, List.not_mem_nil, or_false] at h
            subst h
            exact hx k (by omega)
  exact allX_mem.mpr (hT _ (Nat.le_refl _))
/-- (enough, what is left, handles undone, the most crossings) -/
def utl : Nat → List Int32 → Nat → Nat → Bool × List Int32 × Nat × Nat
  | 0, xs, u, m => (false, xs, u, m)
  | j + 1, xs, u, m => match fh xs with
    | none => (true, xs, u, m)
    | some (p, q) => if j = 0 ∨ 400 < lwo xs p q then (false, xs, u, m) else utl j (tko xs p q) (u + 1) (max m (tko xs p q).length)
def isUnt (G : GG) (h : HP) (a V S : Nat) (xs : List Int32) (u m ok b e : Int32) : Prop := h a = some (.inr (7, [.ref V, .ref S, .ref (a + 5), .int u, .int m, .int ok])) ∧ ((V = a + 1 ∧ S = a + 3) ∨ (V = a + 3 ∧ S = a + 1)) ∧ isRow G h V 400 xs ∧ (∃ ys, isRow G h S 400 ys) ∧ isHnd G h (a + 5) b e
theorem isUnt.ob {G : GG} {h : HP} {a V S : Nat} {xs : List Int32} {u m ok b e : Int32} (w : isUnt G h a V S xs u m ok b e) : h a = some (.inr (7, [.ref V, .ref S, .ref (a + 5), .int u, .int m, .int ok])) := w.1
theorem isUnt.fr {G : GG} {h h' : HP} {a V S lo hi : Nat} {xs : List Int32} {u m ok b e : Int32} (w : isUnt G h a V S xs u m ok b e) (k : fr lo hi h h') (hd : a + 7 ≤ lo ∨ hi ≤ a) : isUnt G h' a V S xs u m ok b e := by
  obtain ⟨h1, h2, h3, ⟨ys, h4⟩, h5⟩ := w
  exact ⟨(k _ (by omega)).trans h1, h2, h3.fr k (by omega), ⟨ys, h4.fr k (by omega)⟩, h5.fr k (by omega)⟩
theorem nI_max {a b : Nat} (ha : a < 2 ^ 31) (hb : b < 2 ^ 31) : (if nI a < nI b then nI b else nI a) = nI (max a b) := by
  by_cases e : a < b
  · rw [if_pos ((nI_ltI ha hb).mpr e), Nat.max_eq_right (by omega)]
  · rw [if_neg (fun q => e ((nI_ltI ha hb).mp q)), Nat.max_eq_left (by omega)]
/-- the object's own fields written anew -/
theorem isUnt_put {G : GG} {h : HP} {a V S : Nat} {xs : List Int32} {u m ok b e u2 m2 ok2 : Int32} (w : isUnt G h a V S xs u m ok b e) : isUnt G (hset h a (.inr (7, [.ref V, .ref S, .ref (a + 5), .int u2, .int m2, .int ok2]))) a V S xs u2 m2 ok2 b e ∧ fr a (a + 7) h (hset h a (.inr (7, [.ref V, .ref S, .ref (a + 5), .int u2, .int m2, .int ok2]))) := by
  obtain ⟨o1, o2, o3, ⟨ys, o4⟩, o5⟩ := w
  have k1 : fr a (a + 1) h (hset h a (.inr (7, [.ref V, .ref S, .ref (a + 5), .int u2, .int m2, .int ok2]))) := fr_set (by omega) (by omega)
  exact ⟨⟨hset_s, o2, o3.fr k1 (by omega), ⟨ys, o4.fr k1 (by omega)⟩, o5.fr k1 (by omega)⟩, fr_mono k1 (by omega) (by omega)⟩
/-- the row at work changed -/
theorem isUnt_work {G : GG} {h h' : HP} {a V S : Nat} {xs ys : List Int32} {u m ok b e : Int32} (w : isUnt G h a V S xs u m ok b e) (r : isRow G h' V 400 ys) (k : fr V (V + 2) h h') : isUnt G h' a V S ys u m ok b e ∧ fr a (a + 7) h h' := by
  obtain ⟨o1, o2, o3, ⟨zs, o4⟩, o5⟩ := w
  exact ⟨⟨(k a (by omega)).trans o1, o2, r, ⟨zs, o4.fr k (by omega)⟩, o5.fr k (by omega)⟩, fr_mono k (by omega) (by omega)⟩
/-- its handle changed -/
theorem isUnt_hnd {G : GG} {h h' : HP} {a V S : Nat} {xs : List Int32} {u m ok b e b2 e2 : Int32} (w : isUnt G h a V S xs u m ok b e) (r : isHnd G h' (a + 5) b2 e2) (k : fr (a + 5) (a + 5 + 2) h h') : isUnt G h' a V S xs u m ok b2 e2 ∧ fr a (a + 7) h h' := by
  obtain ⟨o1, o2, o3, ⟨zs, o4⟩, o5⟩ := w
  exact ⟨⟨(k a (by omega)).trans o1, o2, o3.fr k (by omega), ⟨zs, o4.fr k (by omega)⟩, r⟩, fr_mono k (by omega) (by omega)⟩