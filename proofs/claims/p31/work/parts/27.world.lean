/-! the class: its world, what each call does to what it stands for -/
abbrev Sg : Type := (List Int32 × Nat) × List (List Int32 × Nat) × List Int32 × Option (List Int32 × Nat)
def okT (t : List Int32 × Nat) : Prop := allX t.1 ∧ t.1.length ≤ 30
def okS (σ : Sg) : Prop := okT σ.1 ∧ (∀ t, t ∈ σ.2.1 → okT t) ∧ ∀ t, σ.2.2.2 = some t → okT t
def fl (k : Nat) (σ : Sg) : Nat × Int32 × Sg := (k, 0, σ)
def sv6 (σ : Sg) (t : List Int32 × Nat) : Sg := (t, (σ.1 :: σ.2.1).take 6, σ.2.2)
def opCross (c : Int32) (σ : Sg) : Nat × Int32 × Sg := if -3 ≤ c ∧ c ≤ 3 ∧ ¬ c = 0 then (if 30 ≤ σ.1.1.length then fl 2 σ else (0, nI (σ.1.1.length + 1), sv6 σ (σ.1.1 ++ [c], σ.1.2))) else fl 1 σ
def opOpen (σ : Sg) : Nat × Int32 × Sg := if σ.1.1.length = 0 then fl 1 σ else (0, σ.1.1.getD (σ.1.1.length - 1) 0 + 10, sv6 σ (σ.1.1.take (σ.1.1.length - 1), σ.1.2))
def opMove (m k : Int32) (σ : Sg) : Nat × Int32 × Sg := if (0 ≤ m ∧ m ≤ 2) ∧ 0 ≤ k then (if rsn σ.1.1 m.toNatClampNeg k.toNatClampNeg = 0 then (0, nI (mk σ.1.1 m.toNatClampNeg k.toNatClampNeg).length, sv6 σ (mk σ.1.1 m.toNatClampNeg k.toNatClampNeg, σ.1.2 + 1)) else fl 2 σ) else fl 1 σ
def opPair (k c : Int32) (σ : Sg) : Nat × Int32 × Sg := if (0 ≤ k ∧ k ≤ nI σ.1.1.length) ∧ (-3 ≤ c ∧ c ≤ 3 ∧ ¬ c = 0) then (if 30 < σ.1.1.length + 2 then fl 2 σ else (0, nI (σ.1.1.length + 2), sv6 σ (insP σ.1.1 k.toNatClampNeg c, σ.1.2))) else fl 1 σ
def opPull (σ : Sg) : Nat × Int32 × Sg := (0, nI (σ.1.1.length - (red σ.1.1).length), sv6 σ (red σ.1.1, σ.1.2))
def trn (xs : List Int32) : List Int32 := (xs.map (fun x => -x)).reverse
def twi (xs : List Int32) : Int32 := 2 * nI (ovr xs) - nI xs.length
def opTurn (σ : Sg) : Nat × Int32 × Sg := (0, twi (trn σ.1.1) + 100, sv6 σ (trn σ.1.1, σ.1.2))
def opHandle (σ : Sg) : Nat × Int32 × Sg := match fh σ.1.1 with
  | none => fl 1 σ
  | some (p, q) => if 30 < lwo σ.1.1 p q then fl 1 σ else (0, nI (tko σ.1.1 p q).length, sv6 σ (tko σ.1.1 p q, σ.1.2 + 1))
def opAppend (c : Int32) (σ : Sg) : Nat × Int32 × Sg := if 33 ≤ c ∧ c ≤ 126 then (if 60 ≤ σ.2.2.1.length then fl 2 σ else (0, nI (σ.2.2.1.length + 1), (σ.1, σ.2.1, σ.2.2.1 ++ [c], σ.2.2.2))) else fl 1 σ
def opClear (σ : Sg) : Nat × Int32 × Sg := (0, nI σ.2.2.1.length, (σ.1, σ.2.1, [], σ.2.2.2))
def opFirst (σ : Sg) : Nat × Int32 × Sg := (0, nI (fw σ.2.2.1), σ)
def opLace (σ : Sg) : Nat × Int32 × Sg := if 0 < σ.2.2.1.length ∧ fw σ.2.2.1 = σ.2.2.1.length then (0, nI (((σ.1.1 ++ pb σ.2.2.1).take 30).length - σ.1.1.length), ((((σ.1.1 ++ pb σ.2.2.1).take 30), σ.1.2), (σ.1 :: σ.2.1).take 6, [], σ.2.2.2)) else fl 1 σ
def opUndo (σ : Sg) : Nat × Int32 × Sg := match σ.2.1 with
  | [] => fl 1 σ
  | t :: r => (0, nI r.length, (t, r, σ.2.2))
def opKeep (σ : Sg) : Nat × Int32 × Sg := (0, nI σ.1.1.length, (σ.1, σ.2.1, σ.2.2.1, some σ.1))
def opRestore (σ : Sg) : Nat × Int32 × Sg := match σ.2.2.2 with
  | none => fl 1 σ
  | some t => (0, nI t.1.length, sv6 σ t)
def opCrossing (k : Int32) (σ : Sg) : Nat × Int32 × Sg := if 0 ≤ k then (0, cON σ.1.1 k.toNatClampNeg, σ) else fl 1 σ
def isLc (x : Int32) : Bool := decide (0 ≤ x) && decide (x < 4)
def opLies (k p : Int32) (σ : Sg) : Nat × Int32 × Sg := if 0 ≤ p ∧ p < 4 then (if 0 ≤ k ∧ k ≤ nI σ.1.1.length then (0, nI ((lac σ.1.1 k.toNatClampNeg).1 p.toNatClampNeg), σ) else fl 2 σ) else fl 1 σ
def opWinding (a b : Int32) (σ : Sg) : Nat × Int32 × Sg := if (0 ≤ a ∧ a < 4) ∧ (0 ≤ b ∧ b < 4) then (0, (lac σ.1.1 σ.1.1.length).2 (a.toNatClampNeg * 4 + b.toNatClampNeg) + 100, σ) else fl 1 σ
def opMeasure (a b : Int32) (σ : Sg) : Nat × Int32 × Sg := if (0 ≤ a ∧ a < 4) ∧ (0 ≤ b ∧ b < 4) then (0, nI (mS σ.1.1 0 σ.1.1.length (a.toNatClampNeg * 4 + b.toNatClampNeg)), σ) else fl 1 σ
def cnt (w : Nat) (σ : Sg) : Int32 := if w = 0 then nI σ.1.1.length else if w = 1 then twi σ.1.1 + 100 else if w = 2 then nI σ.1.2 else if w = 3 then nI (ovr σ.1.1) else if w = 4 then rmask σ.1.1 else if w = 5 then encB (fh σ.1.1) else if w = 6 then encE (fh σ.1.1) else nI σ.2.1.length
def opCount (w : Int32) (σ : Sg) : Nat × Int32 × Sg := if 0 ≤ w ∧ w < 8 then (0, cnt w.toNatClampNeg σ, σ) else fl 1 σ
def opWhy (m k : Int32) (σ : Sg) : Nat × Int32 × Sg := if (0 ≤ m ∧ m ≤ 2) ∧ 0 ≤ k then (0, rsn σ.1.1 m.toNatClampNeg k.toNatClampNeg, σ) else fl 1 σ
def opUnt (w : Int32) (σ : Sg) : Nat × Int32 × Sg := if 0 ≤ w ∧ w < 4 then (0, uns (utg σ.1.1) w.toNatClampNeg, σ) else fl 1 σ
def opLeft (k : Int32) (σ : Sg) : Nat × Int32 × Sg := if 0 ≤ k then (0, lfs (utg σ.1.1) k.toNatClampNeg, σ) else fl 1 σ
def sme (R : Bool × List Int32 × Nat × Nat) : Int32 := if R.1 then (if R.2.1.length = 0 then 1 else 0) else -1
def opSame (σ : Sg) : Nat × Int32 × Sg := match σ.2.2.2 with
  | none => fl 1 σ
  | some t => (0, sme (utg (trn t.1 ++ σ.1.1)), σ)
def opPossible (m : Int32) (σ : Sg) : Nat × Int32 × Sg := if 0 ≤ m ∧ m ≤ 2 then (0, nI (plc σ.1.1 m.toNatClampNeg), σ) else fl 1 σ
def isLT (G : GG) (h : HP) (x : Nat) (σ : Sg) : Prop :=
  h x = some (.inr (8, [.ref (x + 1), .ref (x + 4), .int (if σ.2.2.2.isSome then 1 else 0), .ref (x + 7), .ref (x + 27), .ref (x + 29), .ref (x + 32), .ref (x + 53), .ref (x + 55), .ref (x + 62)])) ∧
  isSt G h (x + 1) σ.1.1 σ.1.2 ∧ (∃ k m, isSt G h (x + 4) k m ∧ ∀ t, σ.2.2.2 = some t → t = (k, m)) ∧ (∃ nx, isHist G h (x + 7) nx σ.2.1) ∧ isTxt G h (x + 27) σ.2.2.1 ∧ (∃ l q, isLac G h (x + 29) l q) ∧ isMea G h (x + 32) ∧ (∃ b e, isHnd G h (x + 53) b e) ∧ (∃ V S ys u m ok b e, isUnt G h (x + 55) V S ys u m ok b e) ∧ ∃ ts, isRow G h (x + 62) 30 ts
theorem isLT_fr {G : GG} {h h' : HP} {x lo hi : Nat} {σ : Sg} (w : isLT G h x σ) (k : fr lo hi h h') (hd : x + 64 ≤ lo ∨ hi ≤ x) : isLT G h' x σ := by
  obtain ⟨w0, w1, ⟨k1, m1, w2, w2b⟩, ⟨nx, w3⟩, w4, ⟨l, q, w5⟩, w6, ⟨b, e, w7⟩, ⟨V, S, ys, u, m, ok, b2, e2, w8⟩, ts, w9⟩ := w
  exact ⟨(k _ (by omega)).trans w0, w1.fr k (by omega), ⟨k1, m1, w2.fr k (by omega), w2b⟩, ⟨nx, w3.fr k (by omega)⟩, w4.fr k (by omega), ⟨l, q, w5.fr k (by omega)⟩, w6.fr k (by omega), ⟨b, e, w7.fr k (by omega)⟩, ⟨V, S, ys, u, m, ok, b2, e2, w8.fr k (by omega)⟩, ts, w9.fr k (by omega)⟩
theorem isLT_now {G : GG} {h h' : HP} {x : Nat} {σ : Sg} {t : List Int32 × Nat} (w : isLT G h x σ) (r : isSt G h' (x + 1) t.1 t.2) (k : fr (x + 1) (x + 4) h h') : isLT G h' x (t, σ.2) ∧ fr x (x + 64) h h' := by
  obtain ⟨w0, w1, ⟨k1, m1, w2, w2b⟩, ⟨nx, w3⟩, w4, ⟨l, q, w5⟩, w6, ⟨b, e, w7⟩, ⟨V, S, ys, u, m, ok, b2, e2, w8⟩, ts, w9⟩ := w
  exact ⟨⟨(k _ (by omega)).trans w0, r, ⟨k1, m1, w2.fr k (by omega), w2b⟩, ⟨nx, w3.fr k (by omega)⟩, w4.fr k (by omega), ⟨l, q, w5.fr k (by omega)⟩, w6.fr k (by omega), ⟨b, e, w7.fr k (by omega)⟩, ⟨V, S, ys, u, m, ok, b2, e2, w8.fr k (by omega)⟩, ts, w9.fr k (by omega)⟩, fr_mono k (by omega) (by omega)⟩
theorem isLT_hist {G : GG} {h h' : HP} {x : Nat} {σ : Sg} {sv : List (List Int32 × Nat)} {nx : Nat} (w : isLT G h x σ) (r : isHist G h' (x + 7) nx sv) (k : fr (x + 7) (x + 27) h h') : isLT G h' x (σ.1, sv, σ.2.2) ∧ fr x (x + 64) h h' := by
  obtain ⟨w0, w1, ⟨k1, m1, w2, w2b⟩, ⟨_, w3⟩, w4, ⟨l, q, w5⟩, w6, ⟨b, e, w7⟩, ⟨V, S, ys, u, m, ok, b2, e2, w8⟩, ts, w9⟩ := w
  exact ⟨⟨(k _ (by omega)).trans w0, w1.fr k (by omega), ⟨k1, m1, w2.fr k (by omega), w2b⟩, ⟨nx, r⟩, w4.fr k (by omega), ⟨l, q, w5.fr k (by omega)⟩, w6.fr k (by omega), ⟨b, e, w7.fr k (by omega)⟩, ⟨V, S, ys, u, m, ok, b2, e2, w8.fr k (by omega)⟩, ts, w9.fr k (by omega)⟩, fr_mono k (by omega) (by omega)⟩
theorem isLT_txt {G : GG} {h h' : HP} {x : Nat} {σ : Sg} {cs : List Int32} (w : isLT G h x σ) (r : isTxt G h' (x + 27) cs) (k : fr (x + 27) (x + 29) h h') : isLT G h' x (σ.1, σ.2.1, cs, σ.2.2.2) ∧ fr x (x + 64) h h' := by
  obtain ⟨w0, w1, ⟨k1, m1, w2, w2b⟩, ⟨nx, w3⟩, w4, ⟨l, q, w5⟩, w6, ⟨b, e, w7⟩, ⟨V, S, ys, u, m, ok, b2, e2, w8⟩, ts, w9⟩ := w
  exact ⟨⟨(k _ (by omega)).trans w0, w1.fr k (by omega), ⟨k1, m1, w2.fr k (by omega), w2b⟩, ⟨nx, w3.fr k (by omega)⟩, r, ⟨l, q, w5.fr k (by omega)⟩, w6.fr k (by omega), ⟨b, e, w7.fr k (by omega)⟩, ⟨V, S, ys, u, m, ok, b2, e2, w8.fr k (by omega)⟩, ts, w9.fr k (by omega)⟩, fr_mono k (by omega) (by omega)⟩
theorem isLT_lac {G : GG} {h h' : HP} {x : Nat} {σ : Sg} {l : Nat → Nat} {q : Nat → Int32} (w : isLT G h x σ) (r : isLac G h' (x + 29) l q) (k : fr (x + 29) (x + 32) h h') : isLT G h' x σ ∧ fr x (x + 64) h h' := by
  obtain ⟨w0, w1, ⟨k1, m1, w2, w2b⟩, ⟨nx, w3⟩, w4, ⟨_, _, w5⟩, w6, ⟨b, e, w7⟩, ⟨V, S, ys, u, m, ok, b2, e2, w8⟩, ts, w9⟩ := w
  exact ⟨⟨(k _ (by omega)).trans w0, w1.fr k (by omega), ⟨k1, m1, w2.fr k (by omega), w2b⟩, ⟨nx, w3.fr k (by omega)⟩, w4.fr k (by omega), ⟨l, q, r⟩, w6.fr k (by omega), ⟨b, e, w7.fr k (by omega)⟩, ⟨V, S, ys, u, m, ok, b2, e2, w8.fr k (by omega)⟩, ts, w9.fr k (by omega)⟩, fr_mono k (by omega) (by omega)⟩
theorem isLT_mea {G : GG} {h h' : HP} {x : Nat} {σ : Sg}  (w : isLT G h x σ) (r : isMea G h' (x + 32)) (k : fr (x + 32) (x + 53) h h') : isLT G h' x σ ∧ fr x (x + 64) h h' := by
  obtain ⟨w0, w1, ⟨k1, m1, w2, w2b⟩, ⟨nx, w3⟩, w4, ⟨l, q, w5⟩, w6, ⟨b, e, w7⟩, ⟨V, S, ys, u, m, ok, b2, e2, w8⟩, ts, w9⟩ := w
  exact ⟨⟨(k _ (by omega)).trans w0, w1.fr k (by omega), ⟨k1, m1, w2.fr k (by omega), w2b⟩, ⟨nx, w3.fr k (by omega)⟩, w4.fr k (by omega), ⟨l, q, w5.fr k (by omega)⟩, r, ⟨b, e, w7.fr k (by omega)⟩, ⟨V, S, ys, u, m, ok, b2, e2, w8.fr k (by omega)⟩, ts, w9.fr k (by omega)⟩, fr_mono k (by omega) (by omega)⟩
theorem isLT_hnd {G : GG} {h h' : HP} {x : Nat} {σ : Sg} {b e : Int32} (w : isLT G h x σ) (r : isHnd G h' (x + 53) b e) (k : fr (x + 53) (x + 55) h h') : isLT G h' x σ ∧ fr x (x + 64) h h' := by
  obtain ⟨w0, w1, ⟨k1, m1, w2, w2b⟩, ⟨nx, w3⟩, w4, ⟨l, q, w5⟩, w6, ⟨_, _, w7⟩, ⟨V, S, ys, u, m, ok, b2, e2, w8⟩, ts, w9⟩ := w
  exact ⟨⟨(k _ (by omega)).trans w0, w1.fr k (by omega), ⟨k1, m1, w2.fr k (by omega), w2b⟩, ⟨nx, w3.fr k (by omega)⟩, w4.fr k (by omega), ⟨l, q, w5.fr k (by omega)⟩, w6.fr k (by omega), ⟨b, e, r⟩, ⟨V, S, ys, u, m, ok, b2, e2, w8.fr k (by omega)⟩, ts, w9.fr k (by omega)⟩, fr_mono k (by omega) (by omega)⟩
theorem isLT_unt {G : GG} {h h' : HP} {x : Nat} {σ : Sg} {V S : Nat} {ys : List Int32} {u m ok b2 e2 : Int32} (w : isLT G h x σ) (r : isUnt G h' (x + 55) V S ys u m ok b2 e2) (k : fr (x + 55) (x + 62) h h') : isLT G h' x σ ∧ fr x (x + 64) h h' := by
  obtain ⟨w0, w1, ⟨k1, m1, w2, w2b⟩, ⟨nx, w3⟩, w4, ⟨l, q, w5⟩, w6, ⟨b, e, w7⟩, ⟨_, _, _, _, _, _, _, _, w8⟩, ts, w9⟩ := w
  exact ⟨⟨(k _ (by omega)).trans w0, w1.fr k (by omega), ⟨k1, m1, w2.fr k (by omega), w2b⟩, ⟨nx, w3.fr k (by omega)⟩, w4.fr k (by omega), ⟨l, q, w5.fr k (by omega)⟩, w6.fr k (by omega), ⟨b, e, w7.fr k (by omega)⟩, ⟨V, S, ys, u, m, ok, b2, e2, r⟩, ts, w9.fr k (by omega)⟩, fr_mono k (by omega) (by omega)⟩
theorem isLT_trial {G : GG} {h h' : HP} {x : Nat} {σ : Sg} {ts : List Int32} (w : isLT G h x σ) (r : isRow G h' (x + 62) 30 ts) (k : fr (x + 62) (x + 64) h h') : isLT G h' x σ ∧ fr x (x + 64) h h' := by
  obtain ⟨w0, w1, ⟨k1, m1, w2, w2b⟩, ⟨nx, w3⟩, w4, ⟨l, q, w5⟩, w6, ⟨b, e, w7⟩, ⟨V, S, ys, u, m, ok, b2, e2, w8⟩, _, w9⟩ := w
  exact ⟨⟨(k _ (by omega)).trans w0, w1.fr k (by omega), ⟨k1, m1, w2.fr k (by omega), w2b⟩, ⟨nx, w3.fr k (by omega)⟩, w4.fr k (by omega), ⟨l, q, w5.fr k (by omega)⟩, w6.fr k (by omega), ⟨b, e, w7.fr k (by omega)⟩, ⟨V, S, ys, u, m, ok, b2, e2, w8.fr k (by omega)⟩, ts, r⟩, fr_mono k (by omega) (by omega)⟩
theorem isLT.ob {G : GG} {h : HP} {x : Nat} {σ : Sg} (w : isLT G h x σ) : h x = some (.inr (8, [.ref (x + 1), .ref (x + 4), .int (if σ.2.2.2.isSome then 1 else 0), .ref (x + 7), .ref (x + 27), .ref (x + 29), .ref (x + 32), .ref (x + 53), .ref (x + 55), .ref (x + 62)])) := w.1
/-- only the row of the state now changed -/
theorem isLT_row {G : GG} {h h' : HP} {x : Nat} {σ : Sg} {xs : List Int32} (w : isLT G h x σ) (r : isRow G h' (x + 1 + 1) 30 xs) (k : fr (x + 1 + 1) (x + 1 + 1 + 2) h h') : isLT G h' x ((xs, σ.1.2), σ.2) ∧ fr x (x + 64) h h' :=
  isLT_now (t := (xs, σ.1.2)) w ⟨(k _ (by omega)).trans w.2.1.1, r⟩ (fr_mono k (by omega) (by omega))
/-- the moves of the state now changed -/
theorem isLT_moves {G : GG} {h : HP} {x mv : Nat} {σ : Sg} (w : isLT G h x σ) : isLT G (hset h (x + 1) (.inr (5, [.ref (x + 1 + 1), .int (nI mv)]))) x ((σ.1.1, mv), σ.2) ∧ fr x (x + 64) h (hset h (x + 1) (.inr (5, [.ref (x + 1 + 1), .int (nI mv)]))) := by
  have k : fr (x + 1) (x + 2) h (hset h (x + 1) (.inr (5, [.ref (x + 1 + 1), .int (nI mv)]))) := fr_set (by omega) (by omega)
  exact isLT_now (t := (σ.1.1, mv)) w ⟨hset_s, w.2.1.2.fr k (by omega)⟩ (fr_mono k (by omega) (by omega))
/-- the state now is kept -/
theorem isLT_kept {G : GG} {h h' : HP} {x : Nat} {σ : Sg} (w : isLT G h x σ) (r : isSt G h' (x + 4) σ.1.1 σ.1.2) (k : fr (x + 4) (x + 4 + 3) h h') : isLT G (hset h' x (.inr (8, [.ref (x + 1), .ref (x + 4), .int 1, .ref (x + 7), .ref (x + 27), .ref (x + 29), .ref (x + 32), .ref (x + 53), .ref (x + 55), .ref (x + 62)]))) x (σ.1, σ.2.1, σ.2.2.1, some σ.1) ∧ fr x (x + 64) h (hset h' x (.inr (8, [.ref (x + 1), .ref (x + 4), .int 1, .ref (x + 7), .ref (x + 27), .ref (x + 29), .ref (x + 32), .ref (x + 53), .ref (x + 55), .ref (x + 62)]))) := by
  obtain ⟨w0, w1, -, ⟨nx, w3⟩, w4, ⟨l, q, w5⟩, w6, ⟨b, e, w7⟩, ⟨V, S, ys, u, m, ok, b2, e2, w8⟩, ts, w9⟩ := w
  have k2 : fr x (x + 1) h' (hset h' x (.inr (8, [.ref (x + 1), .ref (x + 4), .int 1, .ref (x + 7), .ref (x + 27), .ref (x + 29), .ref (x + 32), .ref (x + 53), .ref (x + 55), .ref (x + 62)]))) := fr_set (by omega) (by omega)
  refine ⟨⟨hset_s, (w1.fr k (by omega)).fr k2 (by omega), ⟨σ.1.1, σ.1.2, r.fr k2 (by omega), fun t ht => ?_⟩, ⟨nx, (w3.fr k (by omega)).fr k2 (by omega)⟩, (w4.fr k (by omega)).fr k2 (by omega), ⟨l, q, (w5.fr k (by omega)).fr k2 (by omega)⟩, (w6.fr k (by omega)).fr k2 (by omega), ⟨b, e, (w7.fr k (by omega)).fr k2 (by omega)⟩, ⟨V, S, ys, u, m, ok, b2, e2, (w8.fr k (by omega)).fr k2 (by omega)⟩, ts, (w9.fr k (by omega)).fr k2 (by omega)⟩, fr_tr (fr_mono k (by omega) (by omega)) (fr_mono k2 (by omega) (by omega))⟩
  exact (Option.some.inj ht).symm
theorem tru {P : Prop} [Decidable P] (h : ¬ (if P then (1 : Int32) else 0) = 0) : P := by
  by_cases q : P
  · exact q
  · rw [if_neg q] at h; exact absurd rfl h
theorem fls {P : Prop} [Decidable P] (h : (if P then (1 : Int32) else 0) = 0) : ¬ P := by
  intro q
  rw [if_pos q] at h
  exact absurd h (by decide)
theorem i_nlt {x y : Int32} (h : ¬ x < y) : y ≤ x := Int32.not_lt.mp h
theorem i_nle {x y : Int32} (h : ¬ x ≤ y) : y < x := Int32.not_le.mp h
theorem i_ge0 {x : Int32} (h : 0 ≤ x) : ∃ j : Nat, j < 2 ^ 31 ∧ x = nI j := nI_of (Int32.not_lt.mpr h)
theorem i_lt4 {x : Int32} (h : 0 ≤ x ∧ x < 4) : ∃ j : Nat, j < 4 ∧ x = nI j := by
  obtain ⟨j, hj, rfl⟩ := i_ge0 h.1
  exact ⟨j, (nI_ltI (b := 4) hj (by omega)).mp h.2, rfl⟩
theorem i_le2 {x : Int32} (h : 0 ≤ x ∧ x ≤ 2) : ∃ j : Nat, j < 3 ∧ x = nI j := by
  obtain ⟨j, hj, rfl⟩ := i_ge0 h.1
  have := (nI_leI (b := 2) hj (by omega)).mp h.2
  exact ⟨j, by omega, rfl⟩
def qOk (G : GG) (x : Nat) (h : HP) (R : Nat × Int32 × Sg) : Option Value → HP → Nat → Prop := fun v h' _ => R.1 = 0 ∧ v = some (.int R.2.1) ∧ isLT G h' x R.2.2 ∧ fr x (x + 64) h h'
def qEx (G : GG) (x : Nat) (h : HP) (R : Nat × Int32 × Sg) (exs : List String) : String → HP → Prop := fun E h' => (∃ i, R.1 = i + 1 ∧ exs[i]? = some E) ∧ isLT G h' x R.2.2 ∧ fr x (x + 64) h h'
theorem qEx_fl {G : GG} {h h' : HP} {x i : Nat} {σ : Sg} {R : Nat × Int32 × Sg} {exs : List String} {E : String} (he : R = fl (i + 1) σ) (hE : exs[i]? = some E) (w : isLT G h' x σ) (k : fr x (x + 64) h h') : qEx G x h R exs E h' := by
  subst he
  exact ⟨⟨i, rfl, hE⟩, w, k⟩
theorem qOk_of {G : GG} {h h' : HP} {x n : Nat} {σ : Sg} {a : Int32} {v : Option Value} {R : Nat × Int32 × Sg} (he : R = (0, a, σ)) (hv : v = some (.int a)) (w : isLT G h' x σ) (k : fr x (x + 64) h h') : qOk G x h R v h' n := by
  subst he
  exact ⟨rfl, hv, w, k⟩
