/-! more rows: what the law's own methods want; cells that stay as they were -/
section R3
variable {G : GG} {M : MI} {d pc : Nat} {lv : LV} {st : List Value} {h : HP} {n kc kn : Nat} {Q : Nat → List Value → HP → Nat → Prop}
theorem J_ishr {x y : Int32} (hd : decode M.2.1 pc = .ok (.ishr, 1)) (k : J G M d (pc + 1) lv (.int (x >>> (y &&& 31)) :: st) h n kc kn Q) : J G M d pc lv (.int y :: .int x :: st) h n kc kn Q := by
  intro p l e R s m args below meth c A mc ms Z C E H locs cells slots ls r
  exact lv_ishr C.1.1 C.1.2.1 hd (k C E r)
theorem J_lrem {x y : Int64} (hd : decode M.2.1 pc = .ok (.lrem, 1)) (hne : ¬ y = 0) (k : J G M d (pc + 1) lv (.long (x - x / y * y) :: st) h n kc kn Q) : J G M d pc lv (.long y :: .long x :: st) h n kc kn Q := by
  intro p l e R s m args below meth c A mc ms Z C E H locs cells slots ls r
  exact lv_lrem C.1.1 C.1.2.1 hd hne (k C E r)
theorem J_ldc {i : Nat} {v : Int32} (hd : decode M.2.1 pc = .ok (.ldc i, 2)) (hw : Cond.constant M.1.cls i v ∈ WS) (k : J G M d (pc + 2) lv (.int v :: st) h n kc kn Q) : J G M d pc lv st h n kc kn Q := by
  intro p l e R s m args below meth c A mc ms Z C E H locs cells slots ls r
  exact lv_ldc C.1.1 C.1.2.1 C.1.2.2.2.2.2.2 (C.2.1 _ hw) hd (k C E r)
theorem J_newIu {N kc' kn' : Nat} {z : Int32} (ha : Cond.arrayClass .int ∈ WS) (hd : decode M.2.1 pc = .ok (.newarray .int, 2)) (hz : ¬ z < 0) (hN : z.toNatClampNeg = N) (hb : N ≤ 100000) (hkc : 1 + kc' = kc) (hkn : N + kn' = kn)
    (k : ∀ q, (∀ a, h a ≠ none → a < q) → J G M d (pc + 2) lv (.ref q :: st) (hset h q (.inl (G.2.1 0, N, .inl (fun _ => 0)))) (q + 1) kc' kn' Q) : J G M d pc lv (.int z :: st) h n kc kn Q := by
  intro p l e R s m args below meth c A mc ms Z C E H locs cells slots ls r
  obtain ⟨r1, r2, r3, r4, r5, r6⟩ := r
  have hR := C.2.2.2.2.1
  have hs0 := r2.1
  refine va_newaK C.1.1 C.1.2.1 (atype := .int) (C.2.1 _ ha) rfl hd rfl hz hN (by show N * 4 ≤ _; omega) (by omega) (by omega) rfl fun H1 cA e1 z1 o1 hAr hNm => ?_
  have hc : cA = G.2.1 0 := Option.some.inj (hNm.symm.trans (C.2.2.1.2 0 _ rfl).2)
  subst hc
  exact k H.size (fun a ha => r1.lt ha) C E ⟨r1.new (C.2.2.2.1 _ r2.1) e1 o1, ⟨by omega, fun x g1 g2 => (o1 x (by omega)).trans (r2.2.1 x g1 g2), r2.2.2⟩, Or.inr z1.symm, r4, by omega, by omega⟩
theorem J_newLu {N kc' kn' : Nat} {z : Int32} (ha : Cond.arrayClass .long ∈ WS) (hd : decode M.2.1 pc = .ok (.newarray .long, 2)) (hz : ¬ z < 0) (hN : z.toNatClampNeg = N) (hb : N ≤ 100000) (hkc : 1 + kc' = kc) (hkn : N + kn' = kn)
    (k : ∀ q, (∀ a, h a ≠ none → a < q) → J G M d (pc + 2) lv (.ref q :: st) (hset h q (.inl (G.2.1 1, N, .inr (.inl (fun _ => 0))))) (q + 1) kc' kn' Q) : J G M d pc lv (.int z :: st) h n kc kn Q := by
  intro p l e R s m args below meth c A mc ms Z C E H locs cells slots ls r
  obtain ⟨r1, r2, r3, r4, r5, r6⟩ := r
  have hR := C.2.2.2.2.1
  have hs0 := r2.1
  refine va_newaK C.1.1 C.1.2.1 (atype := .long) (C.2.1 _ ha) rfl hd rfl hz hN (by show N * 8 ≤ _; omega) (by omega) (by omega) rfl fun H1 cA e1 z1 o1 hAr hNm => ?_
  have hc : cA = G.2.1 1 := Option.some.inj (hNm.symm.trans (C.2.2.1.2 1 _ rfl).2)
  subst hc
  exact k H.size (fun a ha => r1.lt ha) C E ⟨r1.new (C.2.2.2.1 _ r2.1) e1 o1, ⟨by omega, fun x g1 g2 => (o1 x (by omega)).trans (r2.2.1 x g1 g2), r2.2.2⟩, Or.inr z1.symm, r4, by omega, by omega⟩
end R3
/-- int arrays at a known place, by a Nat index -/
theorem J_ga {G : GG} {M : MI} {d pc : Nat} {lv : LV} {st : List Value} {h : HP} {n kc kn : Nat} {Q : Nat → List Value → HP → Nat → Prop} {a N k : Nat} {f : Nat → Int32} (hd : decode M.2.1 pc = .ok (.iaload, 1)) (ha : h a = some (.inl (G.2.1 0, N, .inl f))) (hk : k < N) (hN : N < 2 ^ 31) (j : J G M d (pc + 1) lv (.int (f k) :: st) h n kc kn Q) : J G M d pc lv (.int (nI k) :: .ref a :: st) h n kc kn Q :=
  J_iald hd ha (vp_in_nI hk hN) (by rw [nI_clamp (Nat.lt_trans hk hN)]; exact j)
theorem J_pa {G : GG} {M : MI} {d pc : Nat} {lv : LV} {st : List Value} {h : HP} {n kc kn : Nat} {Q : Nat → List Value → HP → Nat → Prop} {a N k : Nat} {f : Nat → Int32} {x : Int32} (hd : decode M.2.1 pc = .ok (.iastore, 1)) (ha : h a = some (.inl (G.2.1 0, N, .inl f))) (hk : k < N) (hN : N < 2 ^ 31) (j : J G M d (pc + 1) lv st (hset h a (.inl (G.2.1 0, N, .inl (upd f k x)))) n kc kn Q) : J G M d pc lv (.int x :: .int (nI k) :: .ref a :: st) h n kc kn Q :=
  J_iast hd ha (vp_in_nI hk hN) (by rw [nI_clamp (Nat.lt_trans hk hN)]; exact j)
/-- what lies at lo .. hi stays -/
def ky (lo hi : Nat) (h h' : HP) : Prop := ∀ q, lo ≤ q → q < hi → h' q = h q
theorem ky_rf {lo hi : Nat} {h : HP} : ky lo hi h h := fun _ _ _ => rfl
theorem ky_tr {lo hi : Nat} {h h1 h2 : HP} (a : ky lo hi h h1) (b : ky lo hi h1 h2) : ky lo hi h h2 := fun q g1 g2 => (b q g1 g2).trans (a q g1 g2)
theorem ky_mono {lo hi lo2 hi2 : Nat} {h h' : HP} (a : ky lo hi h h') (h1 : lo ≤ lo2) (h2 : hi2 ≤ hi) : ky lo2 hi2 h h' := fun q g1 g2 => a q (by omega) (by omega)
theorem ky_fr {lo hi lo2 hi2 : Nat} {h h' : HP} (a : fr lo hi h h') (hd : hi2 ≤ lo ∨ hi ≤ lo2) : ky lo2 hi2 h h' := fun q g1 g2 => a q (by omega)
theorem ky_set {lo hi q : Nat} {e : va_E} {h : HP} (hd : q < lo ∨ hi ≤ q) : ky lo hi h (hset h q e) := fun a g1 g2 => hset_n (by omega)
theorem isRow.kp {G : GG} {h h' : HP} {r cap : Nat} {xs : List Int32} (w : isRow G h r cap xs) (k : ky r (r + 2) h h') : isRow G h' r cap xs := w.keep (k _ (by omega) (by omega)) (k _ (by omega) (by omega))
theorem isSt.kp {G : GG} {h h' : HP} {a mv : Nat} {xs : List Int32} (w : isSt G h a xs mv) (k : ky a (a + 3) h h') : isSt G h' a xs mv := ⟨(k _ (by omega) (by omega)).trans w.1, w.2.kp (ky_mono k (by omega) (by omega))⟩
theorem isHist.kp {G : GG} {h h' : HP} {a nx : Nat} {sv : List (List Int32 × Nat)} (w : isHist G h a nx sv) (k : ky a (a + 20) h h') : isHist G h' a nx sv := by
  obtain ⟨o1, o2, o3, ⟨f, o4, o5⟩, o6⟩ := w
  refine ⟨o1, o2, (k _ (by omega) (by omega)).trans o3, ⟨f, (k _ (by omega) (by omega)).trans o4, o5⟩, fun i hi2 => ?_⟩
  obtain ⟨x, m, h1, h2⟩ := o6 i hi2
  exact ⟨x, m, h1.kp (ky_mono k (by omega) (by omega)), h2⟩
theorem isTxt.kp {G : GG} {h h' : HP} {a : Nat} {cs : List Int32} (w : isTxt G h a cs) (k : ky a (a + 2) h h') : isTxt G h' a cs := by
  obtain ⟨f, h1, h2, h3⟩ := w
  exact ⟨f, (k _ (by omega) (by omega)).trans h1, (k _ (by omega) (by omega)).trans h2, h3⟩
theorem isLac.kp {G : GG} {h h' : HP} {a : Nat} {l : Nat → Nat} {s : Nat → Int32} (w : isLac G h a l s) (k : ky a (a + 3) h h') : isLac G h' a l s := by
  obtain ⟨h1, ⟨f, h2, h3⟩, g, h4, h5⟩ := w
  exact ⟨(k _ (by omega) (by omega)).trans h1, ⟨f, (k _ (by omega) (by omega)).trans h2, h3⟩, g, (k _ (by omega) (by omega)).trans h4, h5⟩
theorem isMea.kp {G : GG} {h h' : HP} {a : Nat} (w : isMea G h a) (k : ky a (a + 21) h h') : isMea G h' a := by
  obtain ⟨h1, ⟨f1, h2⟩, ⟨f2, h3⟩, ⟨f3, h4⟩, ⟨f, h5, h6⟩, h7⟩ := w
  refine ⟨(k _ (by omega) (by omega)).trans h1, ⟨f1, (k _ (by omega) (by omega)).trans h2⟩, ⟨f2, (k _ (by omega) (by omega)).trans h3⟩, ⟨f3, (k _ (by omega) (by omega)).trans h4⟩, ⟨f, (k _ (by omega) (by omega)).trans h5, h6⟩, fun i hi => ?_⟩
  obtain ⟨g, h8⟩ := h7 i hi
  exact ⟨g, (k _ (by omega) (by omega)).trans h8⟩
theorem isHnd.kp {G : GG} {h h' : HP} {a : Nat} {b e : Int32} (w : isHnd G h a b e) (k : ky a (a + 2) h h') : isHnd G h' a b e := by
  obtain ⟨h1, f, h2⟩ := w
  exact ⟨(k _ (by omega) (by omega)).trans h1, f, (k _ (by omega) (by omega)).trans h2⟩
theorem isUnt.kp {G : GG} {h h' : HP} {a V S : Nat} {xs : List Int32} {u m ok b e : Int32} (w : isUnt G h a V S xs u m ok b e) (k : ky a (a + 7) h h') : isUnt G h' a V S xs u m ok b e := by
  obtain ⟨h1, h2, h3, ⟨ys, h4⟩, h5⟩ := w
  exact ⟨(k _ (by omega) (by omega)).trans h1, h2, h3.kp (ky_mono k (by omega) (by omega)), ⟨ys, h4.kp (ky_mono k (by omega) (by omega))⟩, h5.kp (ky_mono k (by omega) (by omega))⟩
theorem isLT_ky {G : GG} {h h' : HP} {x : Nat} {σ : Sg} (w : isLT G h x σ) (k : ky x (x + 64) h h') : isLT G h' x σ := by
  obtain ⟨w0, w1, ⟨k1, m1, w2, w2b⟩, ⟨nx, w3⟩, w4, ⟨l, q, w5⟩, w6, ⟨b, e, w7⟩, ⟨V, S, ys, u, m, ok, b2, e2, w8⟩, ts, w9⟩ := w
  exact ⟨(k _ (by omega) (by omega)).trans w0, w1.kp (ky_mono k (by omega) (by omega)), ⟨k1, m1, w2.kp (ky_mono k (by omega) (by omega)), w2b⟩, ⟨nx, w3.kp (ky_mono k (by omega) (by omega))⟩, w4.kp (ky_mono k (by omega) (by omega)), ⟨l, q, w5.kp (ky_mono k (by omega) (by omega))⟩, w6.kp (ky_mono k (by omega) (by omega)), ⟨b, e, w7.kp (ky_mono k (by omega) (by omega))⟩, ⟨V, S, ys, u, m, ok, b2, e2, w8.kp (ky_mono k (by omega) (by omega))⟩, ts, w9.kp (ky_mono k (by omega) (by omega))⟩
/-- the law's own row of crossings, in an array of 32 -/
def isRA (G : GG) (h : HP) (r : Nat) (xs : List Int32) : Prop := ∃ f : Nat → Int32, h r = some (.inl (G.2.1 0, 32, .inl f)) ∧ xs.length ≤ 30 ∧ ∀ k, k < xs.length → f k = xs.getD k 0
theorem isRA.keep {G : GG} {h h' : HP} {r : Nat} {xs : List Int32} (w : isRA G h r xs) (k : h' r = h r) : isRA G h' r xs := by
  obtain ⟨f, h1, h2⟩ := w
  exact ⟨f, k.trans h1, h2⟩
theorem isRA.le {G : GG} {h : HP} {r : Nat} {xs : List Int32} (w : isRA G h r xs) : xs.length ≤ 30 := by
  obtain ⟨f, h1, h2, -⟩ := w
  exact h2
/-- how many crossings there are, how many moves -/
def isQA (G : GG) (h : HP) (q n m : Nat) : Prop := ∃ f : Nat → Int32, h q = some (.inl (G.2.1 0, 2, .inl f)) ∧ f 0 = nI n ∧ f 1 = nI m
theorem isQA.keep {G : GG} {h h' : HP} {q n m : Nat} (w : isQA G h q n m) (k : h' q = h q) : isQA G h' q n m := by
  obtain ⟨f, h1, h2⟩ := w
  exact ⟨f, k.trans h1, h2⟩
theorem kc_L_7 : Cond.constant RL 7 (41947 : Int32) ∈ WS := mem_WS (by decide +kernel) rfl
theorem kc_L_8 : Cond.constant RL 8 (1936227 : Int32) ∈ WS := mem_WS (by decide +kernel) rfl
theorem kc_L_9 : Cond.constant RL 9 (2147483647 : Int32) ∈ WS := mem_WS (by decide +kernel) rfl
theorem J_less {G : GG} {M : MI} {d pc : Nat} {lv : LV} {st : List Value} {h : HP} {n kc kn kc2 kn2 : Nat} {Q : Nat → List Value → HP → Nat → Prop} (h1 : kc2 ≤ kc) (h2 : kn2 ≤ kn) (j : J G M d pc lv st h n kc2 kn2 Q) : J G M d pc lv st h n kc kn Q := by
  intro p l e R s m args below meth c A mc ms Z C E H locs cells slots ls r
  exact j C E ⟨r.1, r.2.1, r.2.2.1, r.2.2.2.1, by have := r.2.2.2.2; omega, by have := r.2.2.2.2; omega⟩
