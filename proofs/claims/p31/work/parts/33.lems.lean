/-! lemmas over the rows, as in the claim whole -/
abbrev iA (G : GG) (N : Nat) (f : Nat → Int32) : va_E := .inl (G.2.1 0, N, .inl f)
theorem rk_nat {x : Int32} (h : isX x) : ∃ R : Nat, 1 ≤ R ∧ R ≤ 3 ∧ rk x = nI R := by
  rcases h.rk with q | q | q
  · exact ⟨1, by omega, by omega, q⟩
  · exact ⟨2, by omega, by omega, q⟩
  · exact ⟨3, by omega, by omega, q⟩
theorem hb_lt {xs : List Int32} {p q : Nat} (h : hb xs q = some p) : p < q := by
  unfold hb at h
  split at h
  · cases h
  · rename_i p1 e1
    split at h
    · cases h; exact lst_lt e1
    · cases h
theorem tkT_mono {xs : List Int32} {p q k : Nat} : ∀ m, (tkT xs p q k).length ≤ (tkT xs p q (k + m)).length := by
  intro m
  induction m with
  | zero => exact Nat.le_refl _
  | succ m ih =>
    show _ ≤ (tkT xs p q (k + m) ++ tkp xs p q (k + m)).length
    rw [List.length_append]
    omega
def nanC (s : UInt64) : Bool := decide (Op.cmpValue (FP.dcmp s s) .l = 0)
set_option maxRecDepth 20000 in
theorem slq_nan : ∀ b, b < 31 → 0 < b → ∀ a, a < b + 1 → nanC (slq a b) = true := by decide +kernel
theorem slk_nan {xs : List Int32} (h : xs.length ≤ 30) : nanC (slk xs) = true := by
  unfold slk
  split
  · decide +kernel
  · exact slq_nan _ (by omega) (by omega) _ (by omega)
theorem del_allX {ys : List Int32} {k : Nat} (h : allX ys) : allX (delP ys k) := by
  rw [allX_mem] at *
  intro x hx
  rcases List.mem_append.mp hx with q | q
  · exact h x (List.mem_of_mem_take q)
  · exact h x (List.mem_of_mem_drop q)
theorem sgrk_X {x z : Int32} (h : isX x) (h2 : isX z) : isX (sg x * rk z) := by
  unfold isX at *
  rcases h with rfl | rfl | rfl | rfl | rfl | rfl <;> rcases h2 with rfl | rfl | rfl | rfl | rfl | rfl <;> decide
theorem set_allX {xs : List Int32} {k : Nat} {x : Int32} (h : allX xs) (hx : isX x) : allX (xs.set k x) := by
  rw [allX_mem] at *
  intro z hz
  rcases List.mem_or_eq_of_mem_set hz with q | rfl
  · exact h z q
  · exact hx
theorem mk_allX {xs : List Int32} {m k : Nat} (h : allX xs) (hm : m < 3) (hk : k + (if m = 2 then 3 else 2) ≤ xs.length) : allX (mk xs m k) := by
  rcases (show m = 0 ∨ m = 1 ∨ m = 2 by omega) with rfl | rfl | rfl
  · exact del_allX h
  · have hk : k + 2 ≤ xs.length := hk
    exact set_allX (set_allX h (h _ (by omega))) (h _ (by omega))
  · have hk : k + 3 ≤ xs.length := hk
    exact set_allX (set_allX (set_allX h (sgrk_X (h _ (by omega)) (h _ (by omega)))) (sgrk_X (h _ (by omega)) (h _ (by omega)))) (sgrk_X (h _ (by omega)) (h _ (by omega)))
theorem okS_sv {σ : Sg} (o : okS σ) {s : List Int32 × Nat} (hs : okT s) : okS (sv6 σ s) := by
  refine ⟨hs, fun t ht => ?_, o.2.2⟩
  rcases List.mem_cons.mp (List.mem_of_mem_take ht) with rfl | q
  · exact o.1
  · exact o.2.1 t q
theorem ok_cross {σ : Sg} (o : okS σ) (c : Int32) : okS (opCross c σ).2.2 := by
  unfold opCross
  split
  · rename_i hc
    split
    · exact o
    · refine okS_sv o ⟨app_allX o.1.1 ?_, by show (σ.1.1 ++ [c]).length ≤ 30; rw [List.length_append]; show _ + 1 ≤ 30; omega⟩
      rw [allX_mem]
      intro x hx
      rw [List.mem_singleton.mp hx]
      obtain ⟨a, b, d⟩ := hc
      rw [Int32.le_iff_toInt_le, show (-3 : Int32).toInt = -3 by decide] at a
      rw [Int32.le_iff_toInt_le, show (3 : Int32).toInt = 3 by decide] at b
      unfold isX
      rcases (show c.toInt = 1 ∨ c.toInt = 2 ∨ c.toInt = 3 ∨ c.toInt = -1 ∨ c.toInt = -2 ∨ c.toInt = -3 ∨ c.toInt = 0 by omega) with e | e | e | e | e | e | e
      · exact Or.inl (Int32.toInt_inj.mp (e.trans (by decide)))
      · exact Or.inr (Or.inl (Int32.toInt_inj.mp (e.trans (by decide))))
      · exact Or.inr (Or.inr (Or.inl (Int32.toInt_inj.mp (e.trans (by decide)))))
      · exact Or.inr (Or.inr (Or.inr (Or.inl (Int32.toInt_inj.mp (e.trans (by decide))))))
      · exact Or.inr (Or.inr (Or.inr (Or.inr (Or.inl (Int32.toInt_inj.mp (e.trans (by decide)))))))
      · exact Or.inr (Or.inr (Or.inr (Or.inr (Or.inr (Int32.toInt_inj.mp (e.trans (by decide)))))))
      · exact absurd (Int32.toInt_inj.mp (e.trans (by decide))) d
  · exact o
theorem isX_of {c : Int32} (h : -3 ≤ c ∧ c ≤ 3 ∧ ¬ c = 0) : isX c := by
  have o : okS ((([] : List Int32), 0), [], [], none) := ⟨⟨fun k hk => absurd hk (Nat.not_lt_zero _), Nat.zero_le _⟩, (fun t ht => by cases ht), (fun t ht => by cases ht)⟩
  have := ok_cross o c
  unfold opCross at this
  rw [if_pos h, if_neg (by show ¬ 30 ≤ ([] : List Int32).length; decide)] at this
  exact this.1.1 0 (show 0 < 1 from Nat.one_pos)
theorem take_allX {xs : List Int32} {k : Nat} (h : allX xs) : allX (xs.take k) := by
  rw [allX_mem] at *
  exact fun x hx => h x (List.mem_of_mem_take hx)
theorem ok_open {σ : Sg} (o : okS σ) : okS (opOpen σ).2.2 := by
  unfold opOpen
  split
  · exact o
  · exact okS_sv o ⟨take_allX o.1.1, by show (σ.1.1.take _).length ≤ 30; rw [List.length_take]; have := o.1.2; omega⟩
theorem ok_move {σ : Sg} (o : okS σ) (m k : Int32) : okS (opMove m k σ).2.2 := by
  unfold opMove
  split
  · rename_i hc
    split
    · rename_i hr
      obtain ⟨m2, hm, rfl⟩ := i_le2 hc.1
      rw [nI_clamp (n := m2) (by omega)] at *
      exact okS_sv o ⟨mk_allX o.1.1 hm (rsn_fit hr), Nat.le_trans (mk_le _ _ _) o.1.2⟩
    · exact o
  · exact o
theorem ins_allX {xs : List Int32} {k : Nat} {c : Int32} (h : allX xs) (hc : isX c) : allX (insP xs k c) := by
  rw [allX_mem] at *
  intro x hx
  unfold insP at hx
  rcases List.mem_append.mp hx with q | q
  · exact h x (List.mem_of_mem_take q)
  · rcases List.mem_append.mp q with q | q
    · rcases List.mem_cons.mp q with rfl | q
      · exact hc
      · rw [List.mem_singleton.mp q]; exact neg_isX hc
    · exact h x (List.mem_of_mem_drop q)
theorem ok_pair {σ : Sg} (o : okS σ) (k c : Int32) : okS (opPair k c σ).2.2 := by
  unfold opPair
  split
  · rename_i hc
    split
    · exact o
    · rename_i hl
      obtain ⟨z, hz, rfl⟩ := i_ge0 hc.1.1
      rw [nI_clamp hz] at *
      have hxl := o.1.2
      have e := (nI_leI (by omega) (by omega)).mp hc.1.2
      exact okS_sv o ⟨ins_allX o.1.1 (isX_of hc.2), by show (insP σ.1.1 z c).length ≤ 30; rw [insP_len e]; omega⟩
  · exact o
theorem red_allX {xs : List Int32} (h : allX xs) : allX (red xs) := by
  have key : ∀ (ys a : List Int32), (∀ x, x ∈ ys → isX x) → (∀ x, x ∈ a → isX x) → ∀ x, x ∈ ys.foldl cst a → isX x := by
    intro ys
    induction ys with
    | nil => intro a _ ha x hx; exact ha x hx
    | cons z ys ih =>
      intro a hy ha x hx
      refine ih (cst a z) (fun x hx => hy x (List.mem_cons_of_mem _ hx)) (fun x hx => ?_) x hx
      unfold cst at hx
      split at hx
      · exact ha x (List.mem_of_mem_take hx)
      · rcases List.mem_append.mp hx with q | q
        · exact ha x q
        · rw [List.mem_singleton.mp q]; exact hy z List.mem_cons_self
  rw [allX_mem] at *
  exact key xs [] h (fun x hx => by cases hx)
theorem ok_pull {σ : Sg} (o : okS σ) : okS (opPull σ).2.2 := by
  have hrl := red_len σ.1.1 σ.1.1.length
  rw [List.take_length] at hrl
  exact okS_sv o ⟨red_allX o.1.1, Nat.le_trans hrl o.1.2⟩
theorem ok_turn {σ : Sg} (o : okS σ) : okS (opTurn σ).2.2 := okS_sv o ⟨trn_allX o.1.1, by show (trn σ.1.1).length ≤ 30; rw [trn_len]; exact o.1.2⟩
theorem ok_handle {σ : Sg} (o : okS σ) : okS (opHandle σ).2.2 := by
  unfold opHandle
  split
  · exact o
  · rename_i p q hfh
    obtain ⟨hpq, hq, -⟩ := fh_lt hfh
    split
    · exact o
    · exact okS_sv o ⟨tko_allX o.1.1 hpq hq, by show (tko σ.1.1 p q).length ≤ 30; rw [tko_len hpq hq]; omega⟩
theorem ok_undo {σ : Sg} (o : okS σ) : okS (opUndo σ).2.2 := by
  unfold opUndo
  split
  · exact o
  · rename_i t r hs
    have h := o.2.1
    rw [hs] at h
    exact ⟨h t List.mem_cons_self, fun u hu => h u (List.mem_cons_of_mem _ hu), o.2.2⟩
theorem trn_drop {ys : List Int32} {k : Nat} (hk : k < ys.length) : trn (ys.drop k) = trn (ys.drop (k + 1)) ++ [-(ys.getD k 0)] := by
  rw [List.drop_eq_getElem_cons hk, getD_lt hk]
  unfold trn
  rw [List.map_cons, List.reverse_cons]
