/-! the start: the classes, the arrays' classes -/
theorem ins8 {t : Nat} (h : t < 8) : Cond.instantiable (CC t) (nF t) ∈ TBL := by
  rcases lt8 h with rfl | rfl | rfl | rfl | rfl | rfl | rfl | rfl
  · exact kw_60
  · exact kw_64
  · exact kw_30
  · exact kw_55
  · exact kw_17
  · exact kw_24
  · exact kw_1
  · exact kw_4
theorem cls8 {s : State} {args : Array Value} (hts : ∀ q ∈ TBL, q.before args s = true) : ∃ (dC : Nat → ClassId) (dI : Nat → Nat → Nat), ∀ (c : Nat) (q : vw_C), vwCl[c]? = some q → u_Kn s q.1 q.2.1 q.2.2 (dC c) (dI c) := by
  have h : ∀ t, ∃ q : ClassId × (Nat → Nat), t < 8 → u_Kn s (CC t) (TT t) (nF t) q.1 q.2 := by
    intro t
    by_cases ht : t < 8
    · obtain ⟨cC, iS, hk⟩ := u_known (C := CC t) (T := TT t) (N := nF t) (n := nF t) hts (cl_in ht) (hts _ (ins8 ht))
      exact ⟨(cC, iS), fun _ => hk⟩
    · exact ⟨(0, fun _ => 0), fun q => absurd q ht⟩
  refine ⟨fun t => (Classical.choose (h t)).1, fun t => (Classical.choose (h t)).2, fun c q hq => ?_⟩
  have hc : c < 8 := (List.getElem?_eq_some_iff.mp hq).1
  rw [cl_at hc] at hq
  cases hq
  exact Classical.choose_spec (h c) hc
theorem arI {s : State} {args : Array Value} {ty : FieldType} (h : (Cond.arrayClass ty).before args s = true) : ∃ c, ArrOfT s c ty ∧ s.vm.findClass ("[" ++ ty.toString) = some c := by
  obtain ⟨c, k, comp, h1, h2, h3⟩ := Cond.arrayClass_spec h
  exact ⟨c, fun N z => ⟨(fun k h => by cases h), k, h2, comp, h3⟩, h1⟩
theorem arQ {s : State} {args : Array Value} {C : String} (h : (Cond.arrayOver (.object C)).before args s = true) : ∃ c, ArrOfT s c (.object C) ∧ va_RA s c (.object C) := by
  obtain ⟨comp, c, k, h1, h2, h3, h4, h5⟩ := Cond.arrayOver_spec h
  exact ⟨c, fun N z => ⟨(fun k h => by cases h), k, h3, comp, h4⟩, k, comp, h3, h4, h1, h5⟩
theorem Kx_start {s : State} {args : Array Value} (hts : ∀ q ∈ lw_tbl, q.before args s = true) (n : Nat) : ∃ w : WW, Kx w s ∧ w.2.2 = n := by
  have ht : ∀ q ∈ TBL, q.before args s = true := fun q h => hts q (List.mem_filter.mp h).1
  obtain ⟨dC, dI, h1⟩ := cls8 ht
  obtain ⟨cI, i1, i2⟩ := arI (ht _ kw_50)
  obtain ⟨cZ, z1, z2⟩ := arI (ht _ kw_107)
  have qC := hts (Cond.arrayOver (.object "GatedTrunk$Change")) (by decide +kernel)
  have qE := hts (Cond.arrayOver (.object "GatedTrunk$Event")) (by decide +kernel)
  obtain ⟨cC, a1, a2⟩ := arQ qC
  obtain ⟨cE, b1, b2⟩ := arQ qE
  refine ⟨((dC, dI), (fun k => match k with | 0 => cI | 1 => cZ | 2 => cC | _ => cE), n), ⟨⟨h1, fun k q hq => ?_⟩, fun q hq => va_Nw.of (nest_on hq) (hts q (List.mem_filter.mp hq).1), va_AO.of qC, va_AO.of qE⟩, rfl⟩
  have hk : k < 4 := (List.getElem?_eq_some_iff.mp hq).1
  rcases (show k = 0 ∨ k = 1 ∨ k = 2 ∨ k = 3 by omega) with rfl | rfl | rfl | rfl
  · cases hq; exact ⟨i1, i2⟩
  · cases hq; exact ⟨z1, z2⟩
  · cases hq; exact ⟨a1, a2⟩
  · cases hq; exact ⟨b1, b2⟩
