/-! THE CORE: one judgement 'J' (the machine, inside a method, comes to a point of which Q holds), over ONE abstract heap (an address, what lies there); its rows stand on the kit's. -/
/-- words that stay true as the machine goes on -/
def kw : Cond → Bool
  | .fieldLinkNest _ _ _ _ _ _ => true
  | .methodLinkNest _ _ _ _ => true
  | .castable _ _ => true
  | .arrayOver _ => true
  | .declares _ => true
  | w => goodWord w
theorem kw_at {w : Cond} (h : kw w = true) {args a' : Array Value} {s U : State} (hW : s.WarmedH U.vm) (hb : w.before args s = true) : w.before a' U = true := by
  unfold kw at h
  split at h
  · exact va_Nw.use rfl (va_Nw.warmF hW (va_Nw.of rfl hb))
  · exact va_Nw.use rfl (va_Nw.warmM hW (va_Nw.of rfl hb))
  · exact va_Nw.use rfl (va_Nw.warmC hW (va_Nw.of rfl hb))
  · exact (Cond.arrayOver_setVmC hW.alike _).trans hb
  · exact va_Nw.use rfl (va_Nw.warmD hW (va_Nw.of rfl hb))
  · exact word_at hW (good_of_word h) hb
def WS : List Cond := lw_tbl.filter kw
theorem mem_WS {w : Cond} (h : w ∈ lw_tbl) (hk : kw w = true) : w ∈ WS := List.mem_filter.mpr ⟨h, hk⟩
/-- the abstract heap -/
abbrev HP : Type := Nat → Option va_E
def hD0 : va_E := .inr (0, [])
def hF (h : HP) : Nat → va_E := fun a => (h a).getD hD0
def hset (h : HP) (a : Nat) (e : va_E) : HP := fun q => if q = a then some e else h q
theorem hset_s {h : HP} {a : Nat} {e : va_E} : hset h a e a = some e := by simp [hset]
theorem hset_n {h : HP} {a q : Nat} {e : va_E} (hq : q ≠ a) : hset h a e q = h q := by simp [hset, hq]
theorem hset_ne {h : HP} {a q : Nat} {e : va_E} : hset h a e q = none ↔ (q ≠ a ∧ h q = none) := by
  unfold hset; by_cases hq : q = a <;> simp [hq]
theorem hset_hset {h : HP} {a : Nat} {e e2 : va_E} : hset (hset h a e) a e2 = hset h a e2 := by
  funext q; unfold hset; by_cases hq : q = a <;> simp [hq]
theorem hset_id {h : HP} {a : Nat} {e : va_E} (he : h a = some e) : hset h a e = h := by
  funext q; unfold hset; by_cases hq : q = a
  · simp [hq, he]
  · simp [hq]
theorem hset_comm {h : HP} {a b : Nat} {e f : va_E} (hab : a ≠ b) : hset (hset h a e) b f = hset (hset h b f) a e := by
  funext q; unfold hset; by_cases hq : q = a
  · subst hq; simp [hab]
  · by_cases hr : q = b
    · subst hr; simp [hq]
    · simp [hq, hr]
theorem hF_set {h : HP} {a : Nat} {e : va_E} : hF (hset h a e) = va_up (hF h) a e := by
  funext q; unfold hF hset va_up; by_cases hq : q = a <;> simp [hq]
/-- the world: what h says lies in the machine's heap, at addresses of A -/
def WL (D : va_G) (h : HP) (A : Nat → Prop) (H : Heap) : Prop :=
  ∃ L : List Nat, (∀ a, a ∈ L ↔ h a ≠ none) ∧ va_P D vwCl (va_pl L (hF h)) H ∧ va_D A (va_pl L (hF h))
theorem pl_get {L : List Nat} {f : Nat → va_E} {a : Nat} (h : a ∈ L) : ∃ k : Nat, (va_pl L f)[k]? = some (a, f a) := va_pl_get (X := []) h
theorem pl_set {A : Nat → Prop} {L : List Nat} {f : Nat → va_E} {a k : Nat} {e : va_E} (hD : va_D A (va_pl L f)) (h : a ∈ L) (hk : (va_pl L f)[k]? = some (a, f a)) : (va_pl L f).set k (a, e) = va_pl L (va_up f a e) := va_pl_set (X := []) hD h hk
theorem hF_of {h : HP} {a : Nat} {e : va_E} (he : h a = some e) : hF h a = e := by simp [hF, he]
/-- the new world behind a write at a -/
theorem WL.set {D : va_G} {h : HP} {A : Nat → Prop} {H1 : Heap} {L : List Nat} {a k : Nat} {e0 e : va_E} (hL : ∀ a, a ∈ L ↔ h a ≠ none) (he : h a = some e0) (hD0 : va_D A (va_pl L (hF h))) (hk : (va_pl L (hF h))[k]? = some (a, hF h a))
    (hP : va_P D vwCl ((va_pl L (hF h)).set k (a, e)) H1) (hD : va_D A ((va_pl L (hF h)).set k (a, e))) : WL D (hset h a e) A H1 := by
  have hm : a ∈ L := (hL a).mpr (by rw [he]; simp)
  rw [pl_set hD0 hm hk, ← hF_set] at hP hD
  refine ⟨L, fun q => ?_, hP, hD⟩
  rw [hL q]
  unfold hset
  by_cases hq : q = a
  · subst hq; simp [he]
  · simp [hq]
theorem WL.A {D : va_G} {h : HP} {A : Nat → Prop} {H : Heap} (w : WL D h A H) {a : Nat} (ha : h a ≠ none) : A a := by
  obtain ⟨L, hL, -, hD⟩ := w
  obtain ⟨k, hk⟩ := pl_get (f := hF h) ((hL a).mpr ha)
  exact hD.2 k _ hk
theorem WL.lt {D : va_G} {h : HP} {A : Nat → Prop} {H : Heap} (w : WL D h A H) {a : Nat} (ha : h a ≠ none) : a < H.size := by
  obtain ⟨L, hL, hP, -⟩ := w
  obtain ⟨k, hk⟩ := pl_get (f := hF h) ((hL a).mpr ha)
  exact (hP k _ hk).lt
theorem WL.weaken {D : va_G} {h : HP} {A B : Nat → Prop} {H : Heap} (w : WL D h A H) (hB : ∀ a, h a ≠ none → B a) : WL D h B H := by
  obtain ⟨L, hL, hP, hD⟩ := w
  refine ⟨L, hL, hP, hD.1, fun k q hq => ?_⟩
  have h1 : q ∈ va_pl L (hF h) := List.mem_of_getElem? hq
  obtain ⟨a, ha, rfl⟩ := List.mem_map.mp h1
  exact hB a ((hL a).mp ha)
/-- a new cell at the end of the machine's heap -/
theorem WL.new {D : va_G} {h : HP} {A : Nat → Prop} {H H1 : Heap} {e : va_E} (w : WL D h A H) (hA : A H.size) (h1 : va_at D vwCl (H.size, e) H1) (hk : ∀ q, q < H.size → H1[q]? = H[q]?) : WL D (hset h H.size e) A H1 := by
  have hlt : ∀ a, h a ≠ none → a < H.size := fun a ha => w.lt ha
  obtain ⟨L, hL, hP, hD⟩ := w
  have hn : H.size ∉ L := fun hm => Nat.lt_irrefl _ (hlt _ ((hL _).mp hm))
  have he : va_pl (L ++ [H.size]) (hF (hset h H.size e)) = va_pl L (hF h) ++ [(H.size, e)] := by
    rw [hF_set]
    exact (va_pl_push hn).symm
  refine ⟨L ++ [H.size], fun q => ?_, ?_, ?_⟩
  · unfold hset
    by_cases hq : q = H.size
    · subst hq; simp
    · simp [hq, hL q]
  · rw [he]
    refine (hP.kept (fun k x hx => hk x.1 ((hP k x hx).lt))).app (fun k x hx => ?_)
    have h0 : k < 1 := (List.getElem?_eq_some_iff.mp hx).1
    rw [show k = 0 by omega] at hx
    cases hx
    exact h1
  · rw [he]
    exact hD.push hP rfl hA
/-- locals, the latest first -/
abbrev LV : Type := List (Nat × Value)
def lget : LV → Nat → Option Value
  | [], _ => none
  | q :: t, i => match Nat.beq q.1 i with
    | true => some q.2
    | false => lget t i
def LH (ls : Array Slot) (nL : Nat) (lv : LV) : Prop := ls.size = nL ∧ lv_wf ls ∧ ∀ i v, lget lv i = some v → ls[i]? = some (.val v)
def subl : LV → LV → Prop
  | [], _ => True
  | q :: t, l => lget l q.1 = some q.2 ∧ subl t l
theorem subl_get {l2 l1 : LV} (h : subl l2 l1) : ∀ {i v}, lget l2 i = some v → lget l1 i = some v := by
  induction l2 with
  | nil => intro i v hv; cases hv
  | cons q t ih =>
    intro i v hv
    unfold lget at hv
    split at hv
    · rename_i he
      have e := Nat.eq_of_beq_eq_true he
      cases hv
      rw [← e]; exact h.1
    · exact ih h.2 hv
theorem LH.sub {ls : Array Slot} {nL : Nat} {l1 l2 : LV} (h : LH ls nL l1) (hs : subl l2 l1) : LH ls nL l2 := ⟨h.1, h.2.1, fun i v hv => h.2.2 i v (subl_get hs hv)⟩
def lcl (lv : LV) (n : Nat) : List (Nat × Value) := (List.range n).filterMap (fun j => (lget lv j).map (fun v => (j, v)))
theorem mem_lcl {lv : LV} {n : Nat} {q : Nat × Value} : q ∈ lcl lv n ↔ q.1 < n ∧ lget lv q.1 = some q.2 := by
  unfold lcl
  rw [List.mem_filterMap]
  constructor
  · rintro ⟨j, hj, h⟩
    cases hg : lget lv j with
    | none => rw [hg] at h; cases h
    | some v =>
      rw [hg] at h
      cases h
      exact ⟨List.mem_range.mp hj, hg⟩
  · rintro ⟨h1, h2⟩
    exact ⟨q.1, List.mem_range.mpr h1, by rw [h2]; rfl⟩
theorem LH.has {ls : Array Slot} {nL : Nat} {lv : LV} (h : LH ls nL lv) : lv_has ls nL (lcl lv nL) := ⟨h.1, h.2.1, fun q hq => h.2.2 q.1 q.2 (mem_lcl.mp hq).2⟩
theorem LH.in {ls : Array Slot} {nL : Nat} {lv : LV} (h : LH ls nL lv) {i : Nat} {v : Value} (hv : lget lv i = some v) : i < nL := by
  have := h.2.2 i v hv
  rw [← h.1]
  exact (Array.getElem?_eq_some_iff.mp this).1
def lok (lv : LV) (i : Nat) : Bool := match i with
  | 0 => true
  | j + 1 => match lget lv j with
    | some v => !(Nat.beq v.category 2)
    | none => true
theorem lget_hd {lv : LV} {i : Nat} {v : Value} : lget ((i, v) :: lv) i = some v := by simp [lget]
theorem lget_tl {lv : LV} {i j : Nat} {v : Value} (h : j ≠ i) : lget ((i, v) :: lv) j = lget lv j := by
  have : Nat.beq i j = false := by
    cases hb : Nat.beq i j with
    | true => exact absurd (Nat.eq_of_beq_eq_true hb).symm h
    | false => rfl
  simp [lget, this]
/-- locals behind a store of one place -/
theorem LH.put1 {ls ls' : Array Slot} {nL : Nat} {lv : LV} {i : Nat} {v : Value} (h : LH ls nL lv) (hok : lok lv i = true)
    (h' : lv_has ls' nL ((i, v) :: (lcl lv nL).filter (fun q => !(q.1 == i) && !(q.1 + 1 == i && q.2.category == 2)))) : LH ls' nL ((i, v) :: lv) := by
  refine ⟨h'.1, h'.2.1, fun j w hw => ?_⟩
  by_cases hj : j = i
  · subst hj
    rw [lget_hd] at hw
    cases hw
    exact h'.2.2 _ List.mem_cons_self
  · rw [lget_tl hj] at hw
    refine h'.2.2 (j, w) (List.mem_cons_of_mem _ (List.mem_filter.mpr ⟨mem_lcl.mpr ⟨h.in hw, hw⟩, ?_⟩))
    have h1 : (j == i) = false := by simp [hj]
    simp only [h1, Bool.not_false, Bool.true_and]
    by_cases h2 : j + 1 = i
    · subst h2
      unfold lok at hok
      simp only [hw] at hok
      have : w.category ≠ 2 := fun h3 => by rw [h3] at hok; cases hok
      simp [this]
    · simp [h2]
def lput2 (lv : LV) (i : Nat) (v : Value) : LV := (i, v) :: lv.filter (fun q => !(Nat.beq q.1 (i + 1)))
theorem lget_filter {lv : LV} {k j : Nat} (h : j ≠ k) : lget (lv.filter (fun q => !(Nat.beq q.1 k))) j = lget lv j := by
  induction lv with
  | nil => rfl
  | cons q t ih =>
    by_cases hq : Nat.beq q.1 k = true
    · have e := Nat.eq_of_beq_eq_true hq
      rw [List.filter_cons_of_neg (by simp [hq]), ih]
      have hb : Nat.beq q.1 j = false := by
        cases hb : Nat.beq q.1 j with
        | true => exact absurd ((Nat.eq_of_beq_eq_true hb).symm.trans e) h
        | false => rfl
      simp [lget, hb]
    · rw [List.filter_cons_of_pos (by simp [hq])]
      simp only [lget, ih]
theorem lget_filter_s {lv : LV} {k : Nat} : lget (lv.filter (fun q => !(Nat.beq q.1 k))) k = none := by
  induction lv with
  | nil => rfl
  | cons q t ih =>
    by_cases hq : Nat.beq q.1 k = true
    · rw [List.filter_cons_of_neg (by simp [hq]), ih]
    · rw [List.filter_cons_of_pos (by simp [hq])]
      simp only [lget, ih]
      simp [hq]
theorem LH.put2 {ls ls' : Array Slot} {nL : Nat} {lv : LV} {i : Nat} {v : Value} (h : LH ls nL lv) (hok : lok lv i = true)
    (h' : lv_has ls' nL ((i, v) :: (lcl lv nL).filter (fun q => !(q.1 == i) && (!(q.1 == i + 1) && !(q.1 + 1 == i && q.2.category == 2))))) : LH ls' nL (lput2 lv i v) := by
  refine ⟨h'.1, h'.2.1, fun j w hw => ?_⟩
  by_cases hj : j = i
  · subst hj
    unfold lput2 at hw
    rw [lget_hd] at hw
    cases hw
    exact h'.2.2 _ List.mem_cons_self
  · unfold lput2 at hw
    rw [lget_tl hj] at hw
    have hj1 : j ≠ i + 1 := fun e => by subst e; rw [lget_filter_s] at hw; cases hw
    rw [lget_filter hj1] at hw
    refine h'.2.2 (j, w) (List.mem_cons_of_mem _ (List.mem_filter.mpr ⟨mem_lcl.mpr ⟨h.in hw, hw⟩, ?_⟩))
    have h1 : (j == i) = false := by simp [hj]
    have h2 : (j == i + 1) = false := by simp [hj1]
    simp only [h1, h2, Bool.not_false, Bool.true_and]
    by_cases h3 : j + 1 = i
    · subst h3
      unfold lok at hok
      simp only [hw] at hok
      have : w.category ≠ 2 := fun h4 => by rw [h4] at hok; cases hok
      simp [this]
    · simp [h3]
