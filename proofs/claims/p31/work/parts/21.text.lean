/-! the buffer -/
def isTxt (G : GG) (h : HP) (a : Nat) (cs : List Int32) : Prop := ∃ f : Nat → Int32, h a = some (.inr (6, [.ref (a + 1), .int (nI cs.length)])) ∧ h (a + 1) = some (.inl (G.2.1 0, 60, .inl f)) ∧ cs.length ≤ 60 ∧ ∀ k, k < cs.length → f k = cs.getD k 0
theorem isTxt.ob {G : GG} {h : HP} {a : Nat} {cs : List Int32} (w : isTxt G h a cs) : h a = some (.inr (6, [.ref (a + 1), .int (nI cs.length)])) := by
  obtain ⟨f, h1, -⟩ := w
  exact h1
theorem isTxt.fr {G : GG} {h h' : HP} {a lo hi : Nat} {cs : List Int32} (w : isTxt G h a cs) (k : fr lo hi h h') (hd : a + 2 ≤ lo ∨ hi ≤ a) : isTxt G h' a cs := by
  obtain ⟨f, h1, h2, h3⟩ := w
  exact ⟨f, (k _ (by omega)).trans h1, (k _ (by omega)).trans h2, h3⟩
theorem isTxt.le {G : GG} {h : HP} {a : Nat} {cs : List Int32} (w : isTxt G h a cs) : cs.length ≤ 60 := by
  obtain ⟨f, h1, h2, h3, -⟩ := w
  exact h3
def cro (c : Int32) : Int32 := if 97 ≤ c ∧ c ≤ 99 then c - 97 + 1 else if 65 ≤ c ∧ c ≤ 67 then 64 - c else 0
def fig (c : Int32) : Int32 := if 50 ≤ c ∧ c ≤ 57 then c - 48 else 0
/-- the first wrong character, from k on, among j; b: whether a letter stands ahead -/
def fwA (cs : List Int32) : Nat → Nat → Bool → Nat
  | 0, k, _ => k
  | j + 1, k, b => if cro (cs.getD k 0) = 0 then (if b = true ∧ ¬ fig (cs.getD k 0) = 0 then fwA cs j (k + 1) false else k) else fwA cs j (k + 1) true
def fw (cs : List Int32) : Nat := fwA cs cs.length 0 false
theorem fwA_le (cs : List Int32) : ∀ j k b, fwA cs j k b ≤ k + j := by
  intro j
  induction j with
  | zero => intro k b; exact Nat.le_refl _
  | succ j ih =>
    intro k b
    unfold fwA
    split
    · split
      · have := ih (k + 1) false; omega
      · omega
    · have := ih (k + 1) true; omega
theorem fw_le (cs : List Int32) : fw cs ≤ cs.length := by have := fwA_le cs cs.length 0 false; rw [fw]; omega
theorem fig_nat (c : Int32) : ∃ j, j < 10 ∧ fig c = nI j := by
  unfold fig
  split
  · rename_i e
    obtain ⟨j, hj, rfl⟩ := nI_of2 (M := 57) (n := 57) (by decide) (fun q => Int32.not_lt.mpr e.1 (Int32.lt_trans q (by decide))) e.2
    have h50 := (nI_leI (a := 50) (by omega) (by omega)).mp e.1
    exact ⟨j - 48, by omega, pk_sub (a := j) (b := 48) (by omega)⟩
  · exact ⟨0, by omega, rfl⟩
/-- how many crossings a letter makes, by the character behind it -/
def tms (c : Int32) : Nat := if fig c = 0 then 1 else (fig c).toNatClampNeg
theorem tms_nat (c : Int32) : nI (tms c) = (if fig c = 0 then 1 else fig c) ∧ tms c < 10 := by
  obtain ⟨j, hj, e⟩ := fig_nat c
  unfold tms
  by_cases e0 : fig c = 0
  · rw [if_pos e0, if_pos e0]; exact ⟨rfl, by omega⟩
  · rw [if_neg e0, if_neg e0, e, nI_clamp (by omega)]; exact ⟨rfl, hj⟩
theorem take_rep {xs : List Int32} {x : Int32} {c t : Nat} : ((xs ++ List.replicate t x).take c ++ [x]).take c = (xs ++ List.replicate (t + 1) x).take c := by
  rw [take_push, List.append_assoc, List.replicate_succ']
/-- the crossings of the first k characters -/
def pbT (cs : List Int32) : Nat → List Int32
  | 0 => []
  | k + 1 => pbT cs k ++ if cro (cs.getD k 0) = 0 then [] else List.replicate (tms (cs.getD (k + 1) 0)) (cro (cs.getD k 0))
def pb (cs : List Int32) : List Int32 := pbT cs cs.length
theorem take_app {xs ys : List Int32} {c : Nat} : (xs.take c ++ ys).take c = (xs ++ ys).take c := by
  rcases Nat.le_total xs.length c with h | h
  · rw [List.take_of_length_le h]
  · rw [List.take_append_of_le_length (by simp; omega), List.take_append_of_le_length h, List.take_take, Nat.min_self]