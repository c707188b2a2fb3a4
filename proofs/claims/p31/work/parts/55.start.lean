/-! the start: what the tables say of the machine before the law's first row -/
theorem sp_oaA {args : Array Value} {s : State} {t : FieldType} (h : (Cond.arrayOver (.array t)).before args s = true) : ∃ comp c k, s.vm.classes[c]? = some k ∧ k.kind = .array comp (.array t) ∧ s.vm.findClass ("[" ++ (FieldType.array t).toString) = some c := by
  simp only [Cond.before, Cond.holds, Cond.value, beq_iff_eq] at h
  cases hf : s.vm.findClass (FieldType.array t).toString with
  | none => rw [hf] at h; simp at h
  | some comp =>
    rw [hf] at h
    simp only [Option.bind_some, Option.bind_eq_some_iff, Option.map_eq_some_iff] at h
    obtain ⟨c, hi, k, hk, hb⟩ := h
    obtain ⟨_, hp, -⟩ := Array.findIdx?_eq_some_iff_getElem.mp hi
    have e : s.vm.classes[c] = k := (Array.getElem?_eq_some_iff.mp hk).2
    rw [e] at hp
    cases hkd : k.kind with
    | array c2 t2 =>
      rw [hkd] at hb hp
      simp at hb hp
      exact ⟨comp, c, k, hk, by rw [hkd, hp, hb.1], hb.2⟩
    | _ => rw [hkd] at hb; simp at hb
theorem arrOf_of {U : State} {c comp : ClassId} {k : Class} {ty : FieldType} (h1 : U.vm.classes[c]? = some k) (h2 : k.kind = .array comp ty) : ArrOfT U c ty := fun n z => ⟨fun q h => (by cases h), k, h1, comp, h2⟩
theorem kn_of {args : Array Value} {s : State} {own : String} {idx ci : Nat} {fs : List Value} (hw : ∀ w ∈ WS, w.before args s = true) (f : FN own idx ci fs) : ∃ x : ClassId × (Nat → Nat), ∀ q, vwCl[ci]? = some q → u_Kn s q.1 q.2.1 q.2.2 x.1 x.2 := by
  obtain ⟨C, T, N, ty, h1, h2, -, -, h5, -⟩ := f
  obtain ⟨cC, iS, h⟩ := u_known hw h2 (hw _ h5)
  exact ⟨(cC, iS), fun q hq => by rw [h1] at hq; cases hq; exact h⟩
theorem K_of {args : Array Value} {s : State} (hw : ∀ w ∈ WS, w.before args s = true) : ∃ (D : va_G) (ids : Nat → ClassId), va_K D vwCl (tysOf ids) s := by
  have hc : ∀ c : Nat, ∃ x : ClassId × (Nat → Nat), ∀ q, vwCl[c]? = some q → u_Kn s q.1 q.2.1 q.2.2 x.1 x.2 := fun c => match c with
    | 0 => kn_of hw fn_X9_51
    | 1 => kn_of hw fn_X9_23
    | 2 => kn_of hw fn_X9_37
    | 3 => kn_of hw fn_X9_44
    | 4 => kn_of hw fn_X6_9
    | 5 => kn_of hw fn_X9_7
    | 6 => kn_of hw fn_X9_30
    | 7 => kn_of hw fn_X9_58
    | 8 => kn_of hw fn_L_11
    | n + 9 => ⟨(0, fun _ => 0), fun q hq => by cases hq⟩
  obtain ⟨c0, k0, p0, a1, a2, a3⟩ := Cond.arrayClass_spec (hw _ ca_int)
  obtain ⟨c1, k1, p1, b1, b2, b3⟩ := Cond.arrayClass_spec (hw _ ca_long)
  obtain ⟨p2, c2, k2, d1, -, d2, d3, d4⟩ := Cond.arrayOver_spec (hw _ oa_object_LaceTangles_State)
  obtain ⟨p3, c3, k3, e1, e2, e3⟩ := sp_oaA (hw _ oa_array_int)
  refine ⟨(fun c => (Classical.choose (hc c)).1, fun c => (Classical.choose (hc c)).2), fun k => match k with | 0 => c0 | 1 => c1 | 2 => c2 | _ => c3, fun c q hq => Classical.choose_spec (hc c) q hq, fun k q hq => ?_⟩
  match k, hq with
  | 0, hq =>
    cases hq
    exact ⟨arrOf_of a2 a3, a1⟩
  | 1, hq =>
    cases hq
    exact ⟨arrOf_of b2 b3, b1⟩
  | 2, hq =>
    cases hq
    exact ⟨arrOf_of d2 d3, k2, p2, d2, d3, d1, d4⟩
  | 3, hq =>
    cases hq
    exact ⟨arrOf_of e1 e2, e3⟩
  | n + 4, hq => cases hq
theorem w_strs : ∀ q ∈ strs, Cond.stringRef RX9 q.1 q.2 ∈ lw_tbl := by decide +kernel
theorem w_ini : Cond.initialized Bundle.tN ∈ lw_tbl := by decide +kernel
theorem w_lay1 : Cond.laysStatic Bundle.tN "UNASSIGNED_STACK" Bundle.steD ∈ lw_tbl := by decide +kernel
theorem w_lay2 : Cond.laysStatic Bundle.tN "SUPPRESSED_SENTINEL" Bundle.listD ∈ lw_tbl := by decide +kernel
theorem w_ref1 : Cond.isRef (.static Bundle.tN "UNASSIGNED_STACK" Bundle.steD) ∈ flatC (Cond.and given_1 narrow_1) := by decide +kernel
theorem w_ref2 : Cond.isRef (.static Bundle.tN "SUPPRESSED_SENTINEL" Bundle.listD) ∈ flatC (Cond.and given_1 narrow_1) := by decide +kernel
theorem w_NC : ∀ q ∈ NC, Cond.not (.castable q.1 q.2) ∈ flatC (Cond.and given_1 narrow_1) := by decide +kernel
theorem XF2_of {args : Array Value} {s : State} (hts : ∀ w ∈ lw_tbl, w.before args s = true) (hgv : (Cond.and given_1 narrow_1).before args s = true) : XF2 (fun q => s.heap.size ≤ q) s := by
  have hA : ∀ a : Nat, a < s.heap.size → ¬ s.heap.size ≤ a := fun a h => by omega
  refine ⟨⟨vx_Zqof (hts _ w_lay1) (hts _ w_ini) (flat_of_before _ hgv _ w_ref1) hA, vx_Zqof (hts _ w_lay2) (hts _ w_ini) (flat_of_before _ hgv _ w_ref2) hA, fun q hq => ?_⟩, fun q hq => va_Nc.of (flat_of_before _ hgv _ (w_NC q hq))⟩
  have h9 : ∃ cC, s.vm.findClass RX9 = some cC := by
    obtain ⟨C, T, N, ty, h1, -, -, -, h5, -⟩ := fn_L_11
    cases h1
    obtain ⟨cC, kC, hfc, -⟩ := Cond.instantiable_spec (hts _ (List.mem_filter.mp h5).1)
    exact ⟨cC, hfc⟩
  obtain ⟨cC, hfc⟩ := h9
  have hb := hts _ (w_strs q hq)
  obtain ⟨k, cf, i, a, -, -, -, -, -, hev⟩ := Cond.stringRef_spec (args := #[]) (first := s) (o := none) (idx := []) hfc hb
  exact ⟨a, vk_R.of hb hev⟩
theorem WL_none {D : va_G} {A : Nat → Prop} {H : Heap} : WL D (fun _ => none) A H :=
  ⟨[], fun a => ⟨fun h => (by cases h), fun h => absurd rfl h⟩, fun k q hq => (by cases hq), fun i j p q hp => (by cases hp), fun k q hq => (by cases hq)⟩
