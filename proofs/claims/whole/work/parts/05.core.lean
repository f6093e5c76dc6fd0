/-! THE JUDGEMENT A: a method stands at pc with these places and this stack over the world x; it goes on to an end that Φ allows -/
def isNest : Cond → Bool
  | .methodLinkNest _ _ _ _ => true
  | _ => false
def NEST : List Cond := lw_tbl.filter isNest
def tysx (w : WW) : List (ClassId × FieldType) := [(w.2.1 0, .int), (w.2.1 1, .boolean), (w.2.1 2, .object "GatedTrunk$Change"), (w.2.1 3, .object "GatedTrunk$Event")]
def Kx (w : WW) (U : State) : Prop := va_K w.1 vwCl (tysx w) U ∧ (∀ q ∈ NEST, va_Nw q U) ∧ va_AO "GatedTrunk$Change" U ∧ va_AO "GatedTrunk$Event" U
theorem nest_on {q : Cond} (h : q ∈ NEST) : q.onTables = true := by
  have h2 := (List.mem_filter.mp h).2
  cases q <;> first | rfl | (simp [isNest] at h2)
theorem Kx.moved {w : WW} {s U : State} (hW : s.WarmedH U.vm) (h : Kx w s) : Kx w U := by
  obtain ⟨h1, h2, h3, h4⟩ := h
  refine ⟨va_K.moved hW.alike h1, fun q hq => ?_, h3.moved hW.alike, h4.moved hW.alike⟩
  have h5 := (List.mem_filter.mp hq).2
  have h6 := h2 q hq
  cases q <;> first | exact va_Nw.warmM hW h6 | (simp [isNest] at h5)
theorem Kx.same {w : WW} {s U : State} (hv : s.vm = U.vm) (h : Kx w s) : Kx w U := by
  obtain ⟨h1, h2, h3, h4⟩ := h
  exact ⟨va_K.moved (by rw [hv]; exact Vm.Alike.refl _) h1, fun q hq => va_Nw.same (nest_on hq) hv (h2 q hq), h3.moved (by rw [hv]; exact Vm.Alike.refl _), h4.moved (by rw [hv]; exact Vm.Alike.refl _)⟩
def lz : Nat → List (Option Value) → List (Nat × Value)
  | _, [] => []
  | i, none :: t => lz (i + 1) t
  | i, some v :: t => (i, v) :: lz (i + 1) t
theorem lz_mem : ∀ (ls : List (Option Value)) (j i : Nat) (v : Value), ls[i]? = some (some v) → (j + i, v) ∈ lz j ls
  | none :: t, j, 0, v, h => by cases h
  | some u :: t, j, 0, v, h => by
    have : u = v := by simpa using h
    subst this
    exact List.mem_cons_self
  | none :: t, j, i + 1, v, h => by
    have := lz_mem t (j + 1) i v (by simpa using h)
    rw [show j + (i + 1) = j + 1 + i by omega]
    exact this
  | some u :: t, j, i + 1, v, h => by
    have := lz_mem t (j + 1) i v (by simpa using h)
    rw [show j + (i + 1) = j + 1 + i by omega]
    exact List.mem_cons_of_mem _ this
theorem lz_of : ∀ (ls : List (Option Value)) (j k : Nat) (v : Value), (k, v) ∈ lz j ls → j ≤ k ∧ ls[k - j]? = some (some v)
  | [], j, k, v, h => by cases h
  | none :: t, j, k, v, h => by
    obtain ⟨h1, h2⟩ := lz_of t (j + 1) k v h
    refine ⟨by omega, ?_⟩
    rw [show k - j = (k - (j + 1)) + 1 by omega, List.getElem?_cons_succ]
    exact h2
  | some u :: t, j, k, v, h => by
    rcases List.mem_cons.mp h with h | h
    · cases h
      simp
    · obtain ⟨h1, h2⟩ := lz_of t (j + 1) k v h
      refine ⟨by omega, ?_⟩
      rw [show k - j = (k - (j + 1)) + 1 by omega, List.getElem?_cons_succ]
      exact h2
def Lh (arr : Array Slot) (nL : Nat) (ls : List (Option Value)) : Prop := lv_has arr nL (lz 0 ls) ∧ ∀ q ∈ lz 0 ls, q.2.category = 1
theorem Lh.at {arr : Array Slot} {nL i : Nat} {ls : List (Option Value)} {v : Value} (h : Lh arr nL ls) (hi : ls[i]? = some (some v)) : arr[i]? = some (.val v) := by
  have h1 := h.1.2.2 _ (lz_mem ls 0 i v hi)
  simpa using h1
theorem Lh.put {arr arr' : Array Slot} {nL i : Nat} {ls : List (Option Value)} {v : Value} (h : Lh arr nL ls) (hc : v.category = 1) (h' : lv_has arr' nL ((i, v) :: (lz 0 ls).filter (fun q => !(q.1 == i) && !(q.1 + 1 == i && q.2.category == 2)))) : Lh arr' nL (ls.set i (some v)) := by
  have key : ∀ q ∈ lz 0 (ls.set i (some v)), q = (i, v) ∨ (q.1 ≠ i ∧ q ∈ lz 0 ls) := by
    rintro ⟨k, u⟩ hq
    obtain ⟨-, h2⟩ := lz_of _ 0 k u hq
    rw [Nat.sub_zero, List.getElem?_set] at h2
    by_cases hk : i = k
    · rw [if_pos hk] at h2
      by_cases hl : i < ls.length
      · rw [if_pos hl] at h2
        cases h2
        exact Or.inl (by rw [hk])
      · rw [if_neg hl] at h2; cases h2
    · rw [if_neg hk] at h2
      have := lz_mem ls 0 k u h2
      rw [Nat.zero_add] at this
      exact Or.inr ⟨Ne.symm hk, this⟩
  refine ⟨⟨h'.1, h'.2.1, fun q hq => ?_⟩, fun q hq => ?_⟩
  · rcases key q hq with rfl | ⟨h1, h2⟩
    · exact h'.2.2 _ List.mem_cons_self
    · refine h'.2.2 q (List.mem_cons_of_mem _ (List.mem_filter.mpr ⟨h2, ?_⟩))
      have h3 := h.2 q h2
      simp [h1, h3]
  · rcases key q hq with rfl | ⟨h1, h2⟩
    · exact hc
    · exact h.2 q h2
def Qx (w : WW) (mc : Nat) (Φ : Option Value → XX → Prop) : Array Value → State → Outcome → State → Prop := fun _ st o t => ∃ (v : Option Value) (x : XX), o = .returned v ∧ Φ v x ∧ (st.heap.size + mc = w.2.2 + x.2.2 ∧ x.2.2 ≤ 158) ∧ va_P w.1 vwCl (wsx w x) t.heap ∧ va_F (fun q => w.2.2 ≤ q) st t
def Px (w : WW) (vs : List Value) (x : XX) : Array Value → State → Prop := va_Pc vs (fun U => (U.heap.size = w.2.2 + x.2.2 ∧ x.2.2 ≤ 158) ∧ va_P w.1 vwCl (wsx w x) U.heap ∧ Kx w U)
/-- method y, called with vs over the world x, comes back with an answer and a world that Φ allows -/
def Can (l : Launch) (w : WW) (y : MethodName) (cc : ByteArray) (nL : Nat) (ret : Option FieldType) (rm : Room) (vs : List Value) (x : XX) (Φ : Option Value → XX → Prop) : Prop :=
  Met l y (Cond.code y cc nL ret :: TBL) rm (Px w vs x) (Qx w rm.cells Φ) rm.cells rm.slots (fun q => w.2.2 ≤ q)
def Ev (p : Program) (s : State) (m : MethodId) (args : Array Value) (meth : Method) (c : Code) (y : MethodName) (cc : ByteArray) (nL : Nat) (ret : Option FieldType) : Prop :=
  p.tables.exec = Jvm.exec ∧ c.code = cc ∧ c.maxLocals = nL ∧ meth.sig.returnType = ret ∧ meth.locks = false ∧ meth.name = y.name ∧ s.vm.findClass y.cls = some m.cls ∧ ∀ q ∈ TBL, q.before args s = true
def A (l : Launch) (w : WW) (y : MethodName) (cc : ByteArray) (nL : Nat) (ret : Option FieldType) (rm : Room) (Φ : Option Value → XX → Prop) (pc : Nat) (ls : List (Option Value)) (st : List Value) (x : XX) (kc ks : Nat) : Prop :=
  ∀ (p : Program) (e : Env) (s : State) (m : MethodId) (args : Array Value) (below : List Frame) (meth : Method) (c : Code) (H : Heap) (locs : List Loc) (arr : Array Slot), Ev p s m args meth c y cc nL ret → Kx w s → va_P w.1 vwCl (wsx w x) H → (s.heap.size + kc = w.2.2 + x.2.2 ∧ x.2.2 ≤ 158) → va_S (fun q => w.2.2 ≤ q) s.heap H locs → w.2.2 ≤ s.heap.size → Lh arr nL ls →
    W p l e rm s m args below meth c H locs kc ks (MQ below (Qx w rm.cells Φ) args s rm.cells rm.slots (fun q => w.2.2 ≤ q)) (F0 m pc arr st)
theorem Can.mono {l : Launch} {w : WW} {y : MethodName} {cc : ByteArray} {nL : Nat} {ret : Option FieldType} {rm : Room} {vs : List Value} {x : XX} {Φ Ψ : Option Value → XX → Prop} (h : Can l w y cc nL ret rm vs x Φ) (hi : ∀ v z, Φ v z → Ψ v z) : Can l w y cc nL ret rm vs x Ψ := by
  intro p e ha hc hk s m args below hf happ hpre hx
  obtain ⟨k, o, h1, h2, h3, hQ, hR⟩ := h p e ha hc hk s m args below hf happ hpre hx
  obtain ⟨v, z, a1, a2, a3⟩ := hQ
  exact ⟨k, o, h1, h2, h3, ⟨v, z, a1, hi v z a2, a3⟩, hR⟩
def loc0 (vs : List Value) (nL : Nat) : List (Option Value) := vs.map some ++ List.replicate (nL - vs.length) none
theorem lz_args : ∀ (vs : List Value) (j : Nat), (∀ v ∈ vs, v.category = 1) → ∀ t : List (Option Value), (∀ q ∈ t, q = none) → ∀ k v, (k, v) ∈ lz j (vs.map some ++ t) → j ≤ k ∧ vs[k - j]? = some v
  | vs, j, hc, t, ht, k, v, h => by
    obtain ⟨h1, h2⟩ := lz_of _ j k v h
    refine ⟨h1, ?_⟩
    rw [List.getElem?_append] at h2
    split at h2
    · rw [List.getElem?_map] at h2
      cases hv : vs[k - j]? with
      | none => rw [hv] at h2; cases h2
      | some u => rw [hv] at h2; simpa using h2
    · have := ht _ (List.mem_of_getElem? h2)
      cases this
theorem Lh_entry {vs : List Value} {nL : Nat} (hc : ∀ v ∈ vs, v.category = 1) (hn : vs.length ≤ nL) : Lh ((vs.map Slot.val ++ List.replicate (nL - vs.length) Slot.unset).toArray) nL (loc0 vs nL) := by
  have hk : ∀ q ∈ lz 0 (loc0 vs nL), vs[q.1]? = some q.2 := by
    rintro ⟨k, v⟩ hq
    have := (lz_args vs 0 hc _ (fun q hq => List.eq_of_mem_replicate hq) k v hq).2
    simpa using this
  refine ⟨⟨by simp; omega, ⟨fun i v h hv => ?_, fun i h => ?_⟩, fun q hq => ?_⟩, fun q hq => hc _ (List.mem_of_getElem? (hk q hq))⟩
  · rw [List.getElem?_toArray, List.getElem?_append] at h
    split at h
    · rw [List.getElem?_map] at h
      cases hu : vs[i]? with
      | none => rw [hu] at h; cases h
      | some u =>
        rw [hu] at h
        have e : u = v := by simpa using h
        subst e
        have := hc _ (List.mem_of_getElem? hu)
        omega
    · have := List.eq_of_mem_replicate (List.mem_of_getElem? h)
      cases this
  · rw [List.getElem?_toArray, List.getElem?_append] at h
    split at h
    · rw [List.getElem?_map] at h
      cases hu : vs[i]? with
      | none => rw [hu] at h; cases h
      | some u => rw [hu] at h; simp at h
    · have := List.eq_of_mem_replicate (List.mem_of_getElem? h)
      cases this
  · have h1 := hk q hq
    have h2 : q.1 < vs.length := (List.getElem?_eq_some_iff.mp h1).1
    rw [List.getElem?_toArray, List.getElem?_append_left (by simpa using h2), List.getElem?_map, h1]
    rfl
/-- a contract out of the walk from the entry -/
theorem Can.of {l : Launch} {w : WW} {y : MethodName} {cc : ByteArray} {nL : Nat} {ret : Option FieldType} {rm : Room} {vs : List Value} {x : XX} {Φ : Option Value → XX → Prop} (hy : plainName y.cls = true) (hc : ∀ v ∈ vs, v.category = 1) (hn : vs.length ≤ nL) (body : A l w y cc nL ret rm Φ 0 (loc0 vs nL) [] x 0 0) : Can l w y cc nL ret rm vs x Φ := by
  refine Met.ofW (cc := cc) (maxL := nL) (ret := ret) hy rfl ?_
  intro p e s m args below meth c s₁ B hml hv
  obtain ⟨rfl, hsz, hP, hK⟩ := hv
  have hts := atoms_spec (ws := Cond.code y cc nL ret :: TBL) B.pre
  have hE : Ev p s m vs.toArray meth c y cc nL ret := ⟨B.exec, B.bytes, hml, B.returns, B.notSynchronized, (name_of_methodNamed B.named B.method).1, findClass_of_methodNamed B.named, fun q hq => hts q (List.mem_cons_of_mem _ hq)⟩
  rw [entry_eq m vs hc nL]
  exact body p e s m vs.toArray below meth c s.heap [] _ hE hK hP hsz va_S.rf (by rw [hsz.1]; exact Nat.le_add_right _ _) (Lh_entry hc hn)
section AR
variable {l : Launch} {w : WW} {y : MethodName} {cc : ByteArray} {nL : Nat} {ret : Option FieldType} {rm : Room} {Φ : Option Value → XX → Prop} {pc : Nat} {ls : List (Option Value)} {st : List Value} {x : XX} {kc ks : Nat}
theorem a_iconst {n : Int} {v : Int32} (hdg : decode cc pc = .ok (.iconst n, 1)) (hv : Int32.ofInt n = v) (kk : A l w y cc nL ret rm Φ (pc + 1) ls (.int v :: st) x kc ks) : A l w y cc nL ret rm Φ pc ls (st) x kc ks := by
  intro p e s m args below meth c H locs arr E K P Z S B L
  have hx := E.1
  have hb := E.2.1
  exact lv_iconst hx hb hdg hv (kk p e s m args below meth c H locs arr E K P Z S B L)
theorem a_bipush {n : Int} {v : Int32} (hdg : decode cc pc = .ok (.bipush n, 2)) (hv : (Int8.ofInt n).toInt32 = v) (kk : A l w y cc nL ret rm Φ (pc + 2) ls (.int v :: st) x kc ks) : A l w y cc nL ret rm Φ pc ls (st) x kc ks := by
  intro p e s m args below meth c H locs arr E K P Z S B L
  have hx := E.1
  have hb := E.2.1
  exact lv_bipush hx hb hdg hv (kk p e s m args below meth c H locs arr E K P Z S B L)
theorem a_sipush {n : Int} {v : Int32} (hdg : decode cc pc = .ok (.sipush n, 3)) (hv : (Int16.ofInt n).toInt32 = v) (kk : A l w y cc nL ret rm Φ (pc + 3) ls (.int v :: st) x kc ks) : A l w y cc nL ret rm Φ pc ls (st) x kc ks := by
  intro p e s m args below meth c H locs arr E K P Z S B L
  have hx := E.1
  have hb := E.2.1
  exact lv_sipush hx hb hdg hv (kk p e s m args below meth c H locs arr E K P Z S B L)
theorem a_ldc {index : Nat} {v : Int32} (hdg : decode cc pc = .ok (.ldc index, 2)) (hv : Cond.constant y.cls index v ∈ TBL) (kk : A l w y cc nL ret rm Φ (pc + 2) ls (.int v :: st) x kc ks) : A l w y cc nL ret rm Φ pc ls (st) x kc ks := by
  intro p e s m args below meth c H locs arr E K P Z S B L
  have hx := E.1
  have hb := E.2.1
  exact lv_ldc hx hb E.2.2.2.2.2.2.1 (E.2.2.2.2.2.2.2 _ hv) hdg (kk p e s m args below meth c H locs arr E K P Z S B L)
theorem a_ldcw {index : Nat} {v : Int32} (hdg : decode cc pc = .ok (.ldc_w index, 3)) (hv : Cond.constant y.cls index v ∈ TBL) (kk : A l w y cc nL ret rm Φ (pc + 3) ls (.int v :: st) x kc ks) : A l w y cc nL ret rm Φ pc ls (st) x kc ks := by
  intro p e s m args below meth c H locs arr E K P Z S B L
  have hx := E.1
  have hb := E.2.1
  exact lv_ldcw hx hb E.2.2.2.2.2.2.1 (E.2.2.2.2.2.2.2 _ hv) hdg (kk p e s m args below meth c H locs arr E K P Z S B L)
theorem a_iload_n {k : Fin 4} {v : Int32} (hdg : decode cc pc = .ok (.iload_n k, 1)) (hi : ls[(k : Nat)]? = some (some (.int v))) (kk : A l w y cc nL ret rm Φ (pc + 1) ls (.int v :: st) x kc ks) : A l w y cc nL ret rm Φ pc ls (st) x kc ks := by
  intro p e s m args below meth c H locs arr E K P Z S B L
  have hx := E.1
  have hb := E.2.1
  exact lv_iload_n hx hb hdg rfl (L.at hi) (kk p e s m args below meth c H locs arr E K P Z S B L)
theorem a_iload {i : Nat} {v : Int32} (hdg : decode cc pc = .ok (.iload i, 2)) (hi : ls[i]? = some (some (.int v))) (kk : A l w y cc nL ret rm Φ (pc + 2) ls (.int v :: st) x kc ks) : A l w y cc nL ret rm Φ pc ls (st) x kc ks := by
  intro p e s m args below meth c H locs arr E K P Z S B L
  have hx := E.1
  have hb := E.2.1
  exact lv_iload hx hb hdg (L.at hi) (kk p e s m args below meth c H locs arr E K P Z S B L)
theorem a_aload_n {k : Fin 4} {v : Nat} (hdg : decode cc pc = .ok (.aload_n k, 1)) (hi : ls[(k : Nat)]? = some (some (.ref v))) (kk : A l w y cc nL ret rm Φ (pc + 1) ls (.ref v :: st) x kc ks) : A l w y cc nL ret rm Φ pc ls (st) x kc ks := by
  intro p e s m args below meth c H locs arr E K P Z S B L
  have hx := E.1
  have hb := E.2.1
  exact lv_aload_n hx hb hdg rfl (L.at hi) (kk p e s m args below meth c H locs arr E K P Z S B L)
theorem a_aload {i : Nat} {v : Nat} (hdg : decode cc pc = .ok (.aload i, 2)) (hi : ls[i]? = some (some (.ref v))) (kk : A l w y cc nL ret rm Φ (pc + 2) ls (.ref v :: st) x kc ks) : A l w y cc nL ret rm Φ pc ls (st) x kc ks := by
  intro p e s m args below meth c H locs arr E K P Z S B L
  have hx := E.1
  have hb := E.2.1
  exact lv_aload hx hb hdg (L.at hi) (kk p e s m args below meth c H locs arr E K P Z S B L)
theorem a_istore_n {k : Fin 4} {v : Int32} {ls2 : List (Option Value)} (hdg : decode cc pc = .ok (.istore_n k, 1)) (hn : (k : Nat) < nL) (hs : ls.set (k : Nat) (some (.int v)) = ls2) (kk : A l w y cc nL ret rm Φ (pc + 1) ls2 st x kc ks) : A l w y cc nL ret rm Φ pc ls (.int v :: st) x kc ks := by
  intro p e s m args below meth c H locs arr E K P Z S B L
  have hx := E.1
  have hb := E.2.1
  subst hs
  exact lv_istore_n hx hb hdg rfl L.1 hn rfl (fun arr2 h2 => kk p e s m args below meth c H locs arr2 E K P Z S B (L.put rfl h2))
theorem a_istore {i : Nat} {v : Int32} {ls2 : List (Option Value)} (hdg : decode cc pc = .ok (.istore i, 2)) (hn : i < nL) (hs : ls.set i (some (.int v)) = ls2) (kk : A l w y cc nL ret rm Φ (pc + 2) ls2 st x kc ks) : A l w y cc nL ret rm Φ pc ls (.int v :: st) x kc ks := by
  intro p e s m args below meth c H locs arr E K P Z S B L
  have hx := E.1
  have hb := E.2.1
  subst hs
  exact lv_istore hx hb hdg L.1 hn rfl (fun arr2 h2 => kk p e s m args below meth c H locs arr2 E K P Z S B (L.put rfl h2))
theorem a_istore_0 {b : Option Value} {t : List (Option Value)} {v : Int32} (hdg : decode cc pc = .ok (.istore_n 0, 1)) (hn : 0 < nL) (kk : A l w y cc nL ret rm Φ (pc + 1) (some (.int v) :: t) st x kc ks) : A l w y cc nL ret rm Φ pc (b :: t) (.int v :: st) x kc ks := a_istore_n hdg hn rfl kk
theorem a_istore_1 {a0 : Option Value} {b : Option Value} {t : List (Option Value)} {v : Int32} (hdg : decode cc pc = .ok (.istore_n 1, 1)) (hn : 1 < nL) (kk : A l w y cc nL ret rm Φ (pc + 1) (a0 :: some (.int v) :: t) st x kc ks) : A l w y cc nL ret rm Φ pc (a0 :: b :: t) (.int v :: st) x kc ks := a_istore_n hdg hn rfl kk
theorem a_istore_2 {a0 a1 : Option Value} {b : Option Value} {t : List (Option Value)} {v : Int32} (hdg : decode cc pc = .ok (.istore_n 2, 1)) (hn : 2 < nL) (kk : A l w y cc nL ret rm Φ (pc + 1) (a0 :: a1 :: some (.int v) :: t) st x kc ks) : A l w y cc nL ret rm Φ pc (a0 :: a1 :: b :: t) (.int v :: st) x kc ks := a_istore_n hdg hn rfl kk
theorem a_istore_3 {a0 a1 a2 : Option Value} {b : Option Value} {t : List (Option Value)} {v : Int32} (hdg : decode cc pc = .ok (.istore_n 3, 1)) (hn : 3 < nL) (kk : A l w y cc nL ret rm Φ (pc + 1) (a0 :: a1 :: a2 :: some (.int v) :: t) st x kc ks) : A l w y cc nL ret rm Φ pc (a0 :: a1 :: a2 :: b :: t) (.int v :: st) x kc ks := a_istore_n hdg hn rfl kk
theorem a_istore_4 {a0 a1 a2 a3 : Option Value} {b : Option Value} {t : List (Option Value)} {v : Int32} (hdg : decode cc pc = .ok (.istore 4, 2)) (hn : 4 < nL) (kk : A l w y cc nL ret rm Φ (pc + 2) (a0 :: a1 :: a2 :: a3 :: some (.int v) :: t) st x kc ks) : A l w y cc nL ret rm Φ pc (a0 :: a1 :: a2 :: a3 :: b :: t) (.int v :: st) x kc ks := a_istore hdg hn rfl kk
theorem a_istore_5 {a0 a1 a2 a3 a4 : Option Value} {b : Option Value} {t : List (Option Value)} {v : Int32} (hdg : decode cc pc = .ok (.istore 5, 2)) (hn : 5 < nL) (kk : A l w y cc nL ret rm Φ (pc + 2) (a0 :: a1 :: a2 :: a3 :: a4 :: some (.int v) :: t) st x kc ks) : A l w y cc nL ret rm Φ pc (a0 :: a1 :: a2 :: a3 :: a4 :: b :: t) (.int v :: st) x kc ks := a_istore hdg hn rfl kk
theorem a_istore_6 {a0 a1 a2 a3 a4 a5 : Option Value} {b : Option Value} {t : List (Option Value)} {v : Int32} (hdg : decode cc pc = .ok (.istore 6, 2)) (hn : 6 < nL) (kk : A l w y cc nL ret rm Φ (pc + 2) (a0 :: a1 :: a2 :: a3 :: a4 :: a5 :: some (.int v) :: t) st x kc ks) : A l w y cc nL ret rm Φ pc (a0 :: a1 :: a2 :: a3 :: a4 :: a5 :: b :: t) (.int v :: st) x kc ks := a_istore hdg hn rfl kk
theorem a_astore_n {k : Fin 4} {v : Nat} {ls2 : List (Option Value)} (hdg : decode cc pc = .ok (.astore_n k, 1)) (hn : (k : Nat) < nL) (hs : ls.set (k : Nat) (some (.ref v)) = ls2) (kk : A l w y cc nL ret rm Φ (pc + 1) ls2 st x kc ks) : A l w y cc nL ret rm Φ pc ls (.ref v :: st) x kc ks := by
  intro p e s m args below meth c H locs arr E K P Z S B L
  have hx := E.1
  have hb := E.2.1
  subst hs
  exact lv_astore_n hx hb hdg rfl L.1 hn rfl (fun arr2 h2 => kk p e s m args below meth c H locs arr2 E K P Z S B (L.put rfl h2))
theorem a_astore {i : Nat} {v : Nat} {ls2 : List (Option Value)} (hdg : decode cc pc = .ok (.astore i, 2)) (hn : i < nL) (hs : ls.set i (some (.ref v)) = ls2) (kk : A l w y cc nL ret rm Φ (pc + 2) ls2 st x kc ks) : A l w y cc nL ret rm Φ pc ls (.ref v :: st) x kc ks := by
  intro p e s m args below meth c H locs arr E K P Z S B L
  have hx := E.1
  have hb := E.2.1
  subst hs
  exact lv_astore hx hb hdg L.1 hn rfl (fun arr2 h2 => kk p e s m args below meth c H locs arr2 E K P Z S B (L.put rfl h2))
theorem a_astore_0 {b : Option Value} {t : List (Option Value)} {v : Nat} (hdg : decode cc pc = .ok (.astore_n 0, 1)) (hn : 0 < nL) (kk : A l w y cc nL ret rm Φ (pc + 1) (some (.ref v) :: t) st x kc ks) : A l w y cc nL ret rm Φ pc (b :: t) (.ref v :: st) x kc ks := a_astore_n hdg hn rfl kk
theorem a_astore_1 {a0 : Option Value} {b : Option Value} {t : List (Option Value)} {v : Nat} (hdg : decode cc pc = .ok (.astore_n 1, 1)) (hn : 1 < nL) (kk : A l w y cc nL ret rm Φ (pc + 1) (a0 :: some (.ref v) :: t) st x kc ks) : A l w y cc nL ret rm Φ pc (a0 :: b :: t) (.ref v :: st) x kc ks := a_astore_n hdg hn rfl kk
theorem a_astore_2 {a0 a1 : Option Value} {b : Option Value} {t : List (Option Value)} {v : Nat} (hdg : decode cc pc = .ok (.astore_n 2, 1)) (hn : 2 < nL) (kk : A l w y cc nL ret rm Φ (pc + 1) (a0 :: a1 :: some (.ref v) :: t) st x kc ks) : A l w y cc nL ret rm Φ pc (a0 :: a1 :: b :: t) (.ref v :: st) x kc ks := a_astore_n hdg hn rfl kk
theorem a_astore_3 {a0 a1 a2 : Option Value} {b : Option Value} {t : List (Option Value)} {v : Nat} (hdg : decode cc pc = .ok (.astore_n 3, 1)) (hn : 3 < nL) (kk : A l w y cc nL ret rm Φ (pc + 1) (a0 :: a1 :: a2 :: some (.ref v) :: t) st x kc ks) : A l w y cc nL ret rm Φ pc (a0 :: a1 :: a2 :: b :: t) (.ref v :: st) x kc ks := a_astore_n hdg hn rfl kk
theorem a_astore_4 {a0 a1 a2 a3 : Option Value} {b : Option Value} {t : List (Option Value)} {v : Nat} (hdg : decode cc pc = .ok (.astore 4, 2)) (hn : 4 < nL) (kk : A l w y cc nL ret rm Φ (pc + 2) (a0 :: a1 :: a2 :: a3 :: some (.ref v) :: t) st x kc ks) : A l w y cc nL ret rm Φ pc (a0 :: a1 :: a2 :: a3 :: b :: t) (.ref v :: st) x kc ks := a_astore hdg hn rfl kk
theorem a_astore_5 {a0 a1 a2 a3 a4 : Option Value} {b : Option Value} {t : List (Option Value)} {v : Nat} (hdg : decode cc pc = .ok (.astore 5, 2)) (hn : 5 < nL) (kk : A l w y cc nL ret rm Φ (pc + 2) (a0 :: a1 :: a2 :: a3 :: a4 :: some (.ref v) :: t) st x kc ks) : A l w y cc nL ret rm Φ pc (a0 :: a1 :: a2 :: a3 :: a4 :: b :: t) (.ref v :: st) x kc ks := a_astore hdg hn rfl kk
theorem a_astore_6 {a0 a1 a2 a3 a4 a5 : Option Value} {b : Option Value} {t : List (Option Value)} {v : Nat} (hdg : decode cc pc = .ok (.astore 6, 2)) (hn : 6 < nL) (kk : A l w y cc nL ret rm Φ (pc + 2) (a0 :: a1 :: a2 :: a3 :: a4 :: a5 :: some (.ref v) :: t) st x kc ks) : A l w y cc nL ret rm Φ pc (a0 :: a1 :: a2 :: a3 :: a4 :: a5 :: b :: t) (.ref v :: st) x kc ks := a_astore hdg hn rfl kk
theorem a_iinc {i : Nat} {n : Int} {v u : Int32} {ls2 : List (Option Value)} (hdg : decode cc pc = .ok (.iinc i n, 3)) (hi : ls[i]? = some (some (.int v))) (hv : v + Int32.ofInt n = u) (hn : i < nL) (hs : ls.set i (some (.int u)) = ls2) (kk : A l w y cc nL ret rm Φ (pc + 3) ls2 st x kc ks) : A l w y cc nL ret rm Φ pc ls st x kc ks := by
  intro p e s m args below meth c H locs arr E K P Z S B L
  have hx := E.1
  have hb := E.2.1
  subst hs
  have h1 := lz_mem ls 0 i _ hi
  rw [Nat.zero_add] at h1
  obtain ⟨k, hk⟩ := List.getElem?_of_mem h1
  exact lv_iinc hx hb hdg L.1 hk hv hn rfl (fun arr2 h2 => kk p e s m args below meth c H locs arr2 E K P Z S B (L.put rfl h2))
theorem a_iinc_0 {n : Int} {v u : Int32} {t : List (Option Value)} (hdg : decode cc pc = .ok (.iinc 0 n, 3)) (hv : v + Int32.ofInt n = u) (hn : 0 < nL) (kk : A l w y cc nL ret rm Φ (pc + 3) (some (.int u) :: t) st x kc ks) : A l w y cc nL ret rm Φ pc (some (.int v) :: t) st x kc ks := a_iinc hdg rfl hv hn rfl kk
theorem a_iinc_1 {a0 : Option Value} {n : Int} {v u : Int32} {t : List (Option Value)} (hdg : decode cc pc = .ok (.iinc 1 n, 3)) (hv : v + Int32.ofInt n = u) (hn : 1 < nL) (kk : A l w y cc nL ret rm Φ (pc + 3) (a0 :: some (.int u) :: t) st x kc ks) : A l w y cc nL ret rm Φ pc (a0 :: some (.int v) :: t) st x kc ks := a_iinc hdg rfl hv hn rfl kk
theorem a_iinc_2 {a0 a1 : Option Value} {n : Int} {v u : Int32} {t : List (Option Value)} (hdg : decode cc pc = .ok (.iinc 2 n, 3)) (hv : v + Int32.ofInt n = u) (hn : 2 < nL) (kk : A l w y cc nL ret rm Φ (pc + 3) (a0 :: a1 :: some (.int u) :: t) st x kc ks) : A l w y cc nL ret rm Φ pc (a0 :: a1 :: some (.int v) :: t) st x kc ks := a_iinc hdg rfl hv hn rfl kk
theorem a_iinc_3 {a0 a1 a2 : Option Value} {n : Int} {v u : Int32} {t : List (Option Value)} (hdg : decode cc pc = .ok (.iinc 3 n, 3)) (hv : v + Int32.ofInt n = u) (hn : 3 < nL) (kk : A l w y cc nL ret rm Φ (pc + 3) (a0 :: a1 :: a2 :: some (.int u) :: t) st x kc ks) : A l w y cc nL ret rm Φ pc (a0 :: a1 :: a2 :: some (.int v) :: t) st x kc ks := a_iinc hdg rfl hv hn rfl kk
theorem a_iinc_4 {a0 a1 a2 a3 : Option Value} {n : Int} {v u : Int32} {t : List (Option Value)} (hdg : decode cc pc = .ok (.iinc 4 n, 3)) (hv : v + Int32.ofInt n = u) (hn : 4 < nL) (kk : A l w y cc nL ret rm Φ (pc + 3) (a0 :: a1 :: a2 :: a3 :: some (.int u) :: t) st x kc ks) : A l w y cc nL ret rm Φ pc (a0 :: a1 :: a2 :: a3 :: some (.int v) :: t) st x kc ks := a_iinc hdg rfl hv hn rfl kk
theorem a_iinc_5 {a0 a1 a2 a3 a4 : Option Value} {n : Int} {v u : Int32} {t : List (Option Value)} (hdg : decode cc pc = .ok (.iinc 5 n, 3)) (hv : v + Int32.ofInt n = u) (hn : 5 < nL) (kk : A l w y cc nL ret rm Φ (pc + 3) (a0 :: a1 :: a2 :: a3 :: a4 :: some (.int u) :: t) st x kc ks) : A l w y cc nL ret rm Φ pc (a0 :: a1 :: a2 :: a3 :: a4 :: some (.int v) :: t) st x kc ks := a_iinc hdg rfl hv hn rfl kk
theorem a_iinc_6 {a0 a1 a2 a3 a4 a5 : Option Value} {n : Int} {v u : Int32} {t : List (Option Value)} (hdg : decode cc pc = .ok (.iinc 6 n, 3)) (hv : v + Int32.ofInt n = u) (hn : 6 < nL) (kk : A l w y cc nL ret rm Φ (pc + 3) (a0 :: a1 :: a2 :: a3 :: a4 :: a5 :: some (.int u) :: t) st x kc ks) : A l w y cc nL ret rm Φ pc (a0 :: a1 :: a2 :: a3 :: a4 :: a5 :: some (.int v) :: t) st x kc ks := a_iinc hdg rfl hv hn rfl kk
theorem a_iadd {p_ q_ : Int32} (hdg : decode cc pc = .ok (.iadd, 1)) (kk : A l w y cc nL ret rm Φ (pc + 1) ls (.int (p_ + q_) :: st) x kc ks) : A l w y cc nL ret rm Φ pc ls (.int q_ :: .int p_ :: st) x kc ks := by
  intro p e s m args below meth c H locs arr E K P Z S B L
  have hx := E.1
  have hb := E.2.1
  exact lv_iadd hx hb hdg (kk p e s m args below meth c H locs arr E K P Z S B L)
theorem a_isub {p_ q_ : Int32} (hdg : decode cc pc = .ok (.isub, 1)) (kk : A l w y cc nL ret rm Φ (pc + 1) ls (.int (p_ - q_) :: st) x kc ks) : A l w y cc nL ret rm Φ pc ls (.int q_ :: .int p_ :: st) x kc ks := by
  intro p e s m args below meth c H locs arr E K P Z S B L
  have hx := E.1
  have hb := E.2.1
  exact lv_isub hx hb hdg (kk p e s m args below meth c H locs arr E K P Z S B L)
theorem a_imul {p_ q_ : Int32} (hdg : decode cc pc = .ok (.imul, 1)) (kk : A l w y cc nL ret rm Φ (pc + 1) ls (.int (p_ * q_) :: st) x kc ks) : A l w y cc nL ret rm Φ pc ls (.int q_ :: .int p_ :: st) x kc ks := by
  intro p e s m args below meth c H locs arr E K P Z S B L
  have hx := E.1
  have hb := E.2.1
  exact lv_imul hx hb hdg (kk p e s m args below meth c H locs arr E K P Z S B L)
theorem a_iand {p_ q_ : Int32} (hdg : decode cc pc = .ok (.iand, 1)) (kk : A l w y cc nL ret rm Φ (pc + 1) ls (.int (p_ &&& q_) :: st) x kc ks) : A l w y cc nL ret rm Φ pc ls (.int q_ :: .int p_ :: st) x kc ks := by
  intro p e s m args below meth c H locs arr E K P Z S B L
  have hx := E.1
  have hb := E.2.1
  exact lv_iand hx hb hdg (kk p e s m args below meth c H locs arr E K P Z S B L)
theorem a_ior {p_ q_ : Int32} (hdg : decode cc pc = .ok (.ior, 1)) (kk : A l w y cc nL ret rm Φ (pc + 1) ls (.int (p_ ||| q_) :: st) x kc ks) : A l w y cc nL ret rm Φ pc ls (.int q_ :: .int p_ :: st) x kc ks := by
  intro p e s m args below meth c H locs arr E K P Z S B L
  have hx := E.1
  have hb := E.2.1
  exact lv_ior hx hb hdg (kk p e s m args below meth c H locs arr E K P Z S B L)
theorem a_ixor {p_ q_ : Int32} (hdg : decode cc pc = .ok (.ixor, 1)) (kk : A l w y cc nL ret rm Φ (pc + 1) ls (.int (p_ ^^^ q_) :: st) x kc ks) : A l w y cc nL ret rm Φ pc ls (.int q_ :: .int p_ :: st) x kc ks := by
  intro p e s m args below meth c H locs arr E K P Z S B L
  have hx := E.1
  have hb := E.2.1
  exact lv_ixor hx hb hdg (kk p e s m args below meth c H locs arr E K P Z S B L)
theorem a_idiv {p_ q_ : Int32} (hdg : decode cc pc = .ok (.idiv, 1)) (hne : ¬ q_ = 0) (kk : A l w y cc nL ret rm Φ (pc + 1) ls (.int (p_ / q_) :: st) x kc ks) : A l w y cc nL ret rm Φ pc ls (.int q_ :: .int p_ :: st) x kc ks := by
  intro p e s m args below meth c H locs arr E K P Z S B L
  have hx := E.1
  have hb := E.2.1
  exact lv_idiv hx hb hdg hne (kk p e s m args below meth c H locs arr E K P Z S B L)
theorem a_irem {p_ q_ : Int32} (hdg : decode cc pc = .ok (.irem, 1)) (hne : ¬ q_ = 0) (kk : A l w y cc nL ret rm Φ (pc + 1) ls (.int (p_ - p_ / q_ * q_) :: st) x kc ks) : A l w y cc nL ret rm Φ pc ls (.int q_ :: .int p_ :: st) x kc ks := by
  intro p e s m args below meth c H locs arr E K P Z S B L
  have hx := E.1
  have hb := E.2.1
  exact lv_irem hx hb hdg hne (kk p e s m args below meth c H locs arr E K P Z S B L)
theorem a_ishl {p_ q_ : Int32} (hdg : decode cc pc = .ok (.ishl, 1)) (kk : A l w y cc nL ret rm Φ (pc + 1) ls (.int (p_ <<< (q_ &&& 31)) :: st) x kc ks) : A l w y cc nL ret rm Φ pc ls (.int q_ :: .int p_ :: st) x kc ks := by
  intro p e s m args below meth c H locs arr E K P Z S B L
  have hx := E.1
  have hb := E.2.1
  exact lv_ishl hx hb hdg (kk p e s m args below meth c H locs arr E K P Z S B L)
theorem a_ishr {p_ q_ : Int32} (hdg : decode cc pc = .ok (.ishr, 1)) (kk : A l w y cc nL ret rm Φ (pc + 1) ls (.int (p_ >>> (q_ &&& 31)) :: st) x kc ks) : A l w y cc nL ret rm Φ pc ls (.int q_ :: .int p_ :: st) x kc ks := by
  intro p e s m args below meth c H locs arr E K P Z S B L
  have hx := E.1
  have hb := E.2.1
  exact lv_ishr hx hb hdg (kk p e s m args below meth c H locs arr E K P Z S B L)
theorem a_iushr {p_ q_ : Int32} (hdg : decode cc pc = .ok (.iushr, 1)) (kk : A l w y cc nL ret rm Φ (pc + 1) ls (.int (p_.toUInt32 >>> (q_.toUInt32 &&& Int32.toUInt32 31)).toInt32 :: st) x kc ks) : A l w y cc nL ret rm Φ pc ls (.int q_ :: .int p_ :: st) x kc ks := by
  intro p e s m args below meth c H locs arr E K P Z S B L
  have hx := E.1
  have hb := E.2.1
  exact lv_iushr hx hb hdg rfl (kk p e s m args below meth c H locs arr E K P Z S B L)
theorem a_dup {v : Value} (hdg : decode cc pc = .ok (.dup, 1)) (hc : v.category = 1) (kk : A l w y cc nL ret rm Φ (pc + 1) ls (v :: v :: st) x kc ks) : A l w y cc nL ret rm Φ pc ls (v :: st) x kc ks := by
  intro p e s m args below meth c H locs arr E K P Z S B L
  have hx := E.1
  have hb := E.2.1
  exact lv_dup hx hb hdg hc (kk p e s m args below meth c H locs arr E K P Z S B L)
theorem a_pop {v : Value} (hdg : decode cc pc = .ok (.pop, 1)) (hc : v.category = 1) (kk : A l w y cc nL ret rm Φ (pc + 1) ls (st) x kc ks) : A l w y cc nL ret rm Φ pc ls (v :: st) x kc ks := by
  intro p e s m args below meth c H locs arr E K P Z S B L
  have hx := E.1
  have hb := E.2.1
  exact lv_pop hx hb hdg hc (kk p e s m args below meth c H locs arr E K P Z S B L)
theorem a_dup2 {v u : Value} (hdg : decode cc pc = .ok (.dup2, 1)) (hc : v.category = 1) (hd : u.category = 1) (kk : A l w y cc nL ret rm Φ (pc + 1) ls (v :: u :: v :: u :: st) x kc ks) : A l w y cc nL ret rm Φ pc ls (v :: u :: st) x kc ks := by
  intro p e s m args below meth c H locs arr E K P Z S B L
  have hx := E.1
  have hb := E.2.1
  exact lv_dup2_11 hx hb hdg hc hd (kk p e s m args below meth c H locs arr E K P Z S B L)
theorem a_icmp_eq {p_ q_ : Int32} {d_ : Int} {tgt : Nat} (hdg : decode cc pc = .ok (.if_icmp .eq d_, 3)) (ht : (pc : Int) + d_ = (tgt : Int)) (kt : p_ = q_ → A l w y cc nL ret rm Φ tgt ls st x kc ks) (kf : ¬ p_ = q_ → A l w y cc nL ret rm Φ (pc + 3) ls st x kc ks) : A l w y cc nL ret rm Φ pc ls (.int q_ :: .int p_ :: st) x kc ks := by
  intro p e s m args below meth c H locs arr E K P Z S B L
  have hx := E.1
  have hb := E.2.1
  exact lv_icmp_eq hx hb hdg ht (fun h => kt h p e s m args below meth c H locs arr E K P Z S B L) (fun h => kf h p e s m args below meth c H locs arr E K P Z S B L)
theorem a_if_eq {p_ : Int32} {d_ : Int} {tgt : Nat} (hdg : decode cc pc = .ok (.ifCond .eq d_, 3)) (ht : (pc : Int) + d_ = (tgt : Int)) (kt : p_ = 0 → A l w y cc nL ret rm Φ tgt ls st x kc ks) (kf : ¬ p_ = 0 → A l w y cc nL ret rm Φ (pc + 3) ls st x kc ks) : A l w y cc nL ret rm Φ pc ls (.int p_ :: st) x kc ks := by
  intro p e s m args below meth c H locs arr E K P Z S B L
  have hx := E.1
  have hb := E.2.1
  exact lv_if_eq hx hb hdg ht (fun h => kt h p e s m args below meth c H locs arr E K P Z S B L) (fun h => kf h p e s m args below meth c H locs arr E K P Z S B L)
theorem a_icmp_ne {p_ q_ : Int32} {d_ : Int} {tgt : Nat} (hdg : decode cc pc = .ok (.if_icmp .ne d_, 3)) (ht : (pc : Int) + d_ = (tgt : Int)) (kt : ¬ p_ = q_ → A l w y cc nL ret rm Φ tgt ls st x kc ks) (kf : p_ = q_ → A l w y cc nL ret rm Φ (pc + 3) ls st x kc ks) : A l w y cc nL ret rm Φ pc ls (.int q_ :: .int p_ :: st) x kc ks := by
  intro p e s m args below meth c H locs arr E K P Z S B L
  have hx := E.1
  have hb := E.2.1
  exact lv_icmp_ne hx hb hdg ht (fun h => kt h p e s m args below meth c H locs arr E K P Z S B L) (fun h => kf h p e s m args below meth c H locs arr E K P Z S B L)
theorem a_if_ne {p_ : Int32} {d_ : Int} {tgt : Nat} (hdg : decode cc pc = .ok (.ifCond .ne d_, 3)) (ht : (pc : Int) + d_ = (tgt : Int)) (kt : ¬ p_ = 0 → A l w y cc nL ret rm Φ tgt ls st x kc ks) (kf : p_ = 0 → A l w y cc nL ret rm Φ (pc + 3) ls st x kc ks) : A l w y cc nL ret rm Φ pc ls (.int p_ :: st) x kc ks := by
  intro p e s m args below meth c H locs arr E K P Z S B L
  have hx := E.1
  have hb := E.2.1
  exact lv_if_ne hx hb hdg ht (fun h => kt h p e s m args below meth c H locs arr E K P Z S B L) (fun h => kf h p e s m args below meth c H locs arr E K P Z S B L)
theorem a_icmp_lt {p_ q_ : Int32} {d_ : Int} {tgt : Nat} (hdg : decode cc pc = .ok (.if_icmp .lt d_, 3)) (ht : (pc : Int) + d_ = (tgt : Int)) (kt : p_ < q_ → A l w y cc nL ret rm Φ tgt ls st x kc ks) (kf : ¬ p_ < q_ → A l w y cc nL ret rm Φ (pc + 3) ls st x kc ks) : A l w y cc nL ret rm Φ pc ls (.int q_ :: .int p_ :: st) x kc ks := by
  intro p e s m args below meth c H locs arr E K P Z S B L
  have hx := E.1
  have hb := E.2.1
  exact lv_icmp_lt hx hb hdg ht (fun h => kt h p e s m args below meth c H locs arr E K P Z S B L) (fun h => kf h p e s m args below meth c H locs arr E K P Z S B L)
theorem a_if_lt {p_ : Int32} {d_ : Int} {tgt : Nat} (hdg : decode cc pc = .ok (.ifCond .lt d_, 3)) (ht : (pc : Int) + d_ = (tgt : Int)) (kt : p_ < 0 → A l w y cc nL ret rm Φ tgt ls st x kc ks) (kf : ¬ p_ < 0 → A l w y cc nL ret rm Φ (pc + 3) ls st x kc ks) : A l w y cc nL ret rm Φ pc ls (.int p_ :: st) x kc ks := by
  intro p e s m args below meth c H locs arr E K P Z S B L
  have hx := E.1
  have hb := E.2.1
  exact lv_if_lt hx hb hdg ht (fun h => kt h p e s m args below meth c H locs arr E K P Z S B L) (fun h => kf h p e s m args below meth c H locs arr E K P Z S B L)
theorem a_icmp_ge {p_ q_ : Int32} {d_ : Int} {tgt : Nat} (hdg : decode cc pc = .ok (.if_icmp .ge d_, 3)) (ht : (pc : Int) + d_ = (tgt : Int)) (kt : q_ ≤ p_ → A l w y cc nL ret rm Φ tgt ls st x kc ks) (kf : ¬ q_ ≤ p_ → A l w y cc nL ret rm Φ (pc + 3) ls st x kc ks) : A l w y cc nL ret rm Φ pc ls (.int q_ :: .int p_ :: st) x kc ks := by
  intro p e s m args below meth c H locs arr E K P Z S B L
  have hx := E.1
  have hb := E.2.1
  exact lv_icmp_ge hx hb hdg ht (fun h => kt h p e s m args below meth c H locs arr E K P Z S B L) (fun h => kf h p e s m args below meth c H locs arr E K P Z S B L)
theorem a_if_ge {p_ : Int32} {d_ : Int} {tgt : Nat} (hdg : decode cc pc = .ok (.ifCond .ge d_, 3)) (ht : (pc : Int) + d_ = (tgt : Int)) (kt : 0 ≤ p_ → A l w y cc nL ret rm Φ tgt ls st x kc ks) (kf : ¬ 0 ≤ p_ → A l w y cc nL ret rm Φ (pc + 3) ls st x kc ks) : A l w y cc nL ret rm Φ pc ls (.int p_ :: st) x kc ks := by
  intro p e s m args below meth c H locs arr E K P Z S B L
  have hx := E.1
  have hb := E.2.1
  exact lv_if_ge hx hb hdg ht (fun h => kt h p e s m args below meth c H locs arr E K P Z S B L) (fun h => kf h p e s m args below meth c H locs arr E K P Z S B L)
theorem a_icmp_gt {p_ q_ : Int32} {d_ : Int} {tgt : Nat} (hdg : decode cc pc = .ok (.if_icmp .gt d_, 3)) (ht : (pc : Int) + d_ = (tgt : Int)) (kt : q_ < p_ → A l w y cc nL ret rm Φ tgt ls st x kc ks) (kf : ¬ q_ < p_ → A l w y cc nL ret rm Φ (pc + 3) ls st x kc ks) : A l w y cc nL ret rm Φ pc ls (.int q_ :: .int p_ :: st) x kc ks := by
  intro p e s m args below meth c H locs arr E K P Z S B L
  have hx := E.1
  have hb := E.2.1
  exact lv_icmp_gt hx hb hdg ht (fun h => kt h p e s m args below meth c H locs arr E K P Z S B L) (fun h => kf h p e s m args below meth c H locs arr E K P Z S B L)
theorem a_if_gt {p_ : Int32} {d_ : Int} {tgt : Nat} (hdg : decode cc pc = .ok (.ifCond .gt d_, 3)) (ht : (pc : Int) + d_ = (tgt : Int)) (kt : 0 < p_ → A l w y cc nL ret rm Φ tgt ls st x kc ks) (kf : ¬ 0 < p_ → A l w y cc nL ret rm Φ (pc + 3) ls st x kc ks) : A l w y cc nL ret rm Φ pc ls (.int p_ :: st) x kc ks := by
  intro p e s m args below meth c H locs arr E K P Z S B L
  have hx := E.1
  have hb := E.2.1
  exact lv_if_gt hx hb hdg ht (fun h => kt h p e s m args below meth c H locs arr E K P Z S B L) (fun h => kf h p e s m args below meth c H locs arr E K P Z S B L)
theorem a_icmp_le {p_ q_ : Int32} {d_ : Int} {tgt : Nat} (hdg : decode cc pc = .ok (.if_icmp .le d_, 3)) (ht : (pc : Int) + d_ = (tgt : Int)) (kt : p_ ≤ q_ → A l w y cc nL ret rm Φ tgt ls st x kc ks) (kf : ¬ p_ ≤ q_ → A l w y cc nL ret rm Φ (pc + 3) ls st x kc ks) : A l w y cc nL ret rm Φ pc ls (.int q_ :: .int p_ :: st) x kc ks := by
  intro p e s m args below meth c H locs arr E K P Z S B L
  have hx := E.1
  have hb := E.2.1
  exact lv_icmp_le hx hb hdg ht (fun h => kt h p e s m args below meth c H locs arr E K P Z S B L) (fun h => kf h p e s m args below meth c H locs arr E K P Z S B L)
theorem a_if_le {p_ : Int32} {d_ : Int} {tgt : Nat} (hdg : decode cc pc = .ok (.ifCond .le d_, 3)) (ht : (pc : Int) + d_ = (tgt : Int)) (kt : p_ ≤ 0 → A l w y cc nL ret rm Φ tgt ls st x kc ks) (kf : ¬ p_ ≤ 0 → A l w y cc nL ret rm Φ (pc + 3) ls st x kc ks) : A l w y cc nL ret rm Φ pc ls (.int p_ :: st) x kc ks := by
  intro p e s m args below meth c H locs arr E K P Z S B L
  have hx := E.1
  have hb := E.2.1
  exact lv_if_le hx hb hdg ht (fun h => kt h p e s m args below meth c H locs arr E K P Z S B L) (fun h => kf h p e s m args below meth c H locs arr E K P Z S B L)
theorem a_goto {d_ : Int} {tgt : Nat} (hdg : decode cc pc = .ok (.goto d_, 3)) (ht : (pc : Int) + d_ = (tgt : Int)) (kk : A l w y cc nL ret rm Φ tgt ls st x kc ks) : A l w y cc nL ret rm Φ pc ls st x kc ks := by
  intro p e s m args below meth c H locs arr E K P Z S B L
  have hx := E.1
  have hb := E.2.1
  exact lv_goto hx hb hdg ht (kk p e s m args below meth c H locs arr E K P Z S B L)
theorem a_tabOut {dflt lo hi : Int} {offs : Array Int} {len : Nat} {p_ : Int32} {tgt : Nat} (hdg : decode cc pc = .ok (.tableswitch dflt lo hi offs, len)) (h : p_.toInt < lo ∨ hi < p_.toInt) (ht : (pc : Int) + dflt = (tgt : Int)) (kk : A l w y cc nL ret rm Φ tgt ls st x kc ks) : A l w y cc nL ret rm Φ pc ls (.int p_ :: st) x kc ks := by
  intro p e s m args below meth c H locs arr E K P Z S B L
  have hx := E.1
  have hb := E.2.1
  exact lv_tableOut hx hb hdg h ht (kk p e s m args below meth c H locs arr E K P Z S B L)
theorem a_tabIn {dflt lo hi d_ : Int} {offs : Array Int} {len : Nat} {p_ : Int32} {tgt : Nat} (hdg : decode cc pc = .ok (.tableswitch dflt lo hi offs, len)) (h1 : ¬ p_.toInt < lo) (h2 : ¬ hi < p_.toInt) (ho : offs[(p_.toInt - lo).toNat]? = some d_) (ht : (pc : Int) + d_ = (tgt : Int)) (kk : A l w y cc nL ret rm Φ tgt ls st x kc ks) : A l w y cc nL ret rm Φ pc ls (.int p_ :: st) x kc ks := by
  intro p e s m args below meth c H locs arr E K P Z S B L
  have hx := E.1
  have hb := E.2.1
  exact lv_tableIn hx hb hdg h1 h2 ho ht (kk p e s m args below meth c H locs arr E K P Z S B L)
theorem a_iret {v : Int32} (hdg : decode cc pc = .ok (.ireturn, 1)) (hr : ret = some .int) (hk : kc = rm.cells) (hs : ks ≤ rm.slots) (h : Φ (some (.int v)) x) : A l w y cc nL ret rm Φ pc ls [.int v] x kc ks := by
  intro p e s m args below meth c H locs arr E K P Z S B L
  have hx := E.1
  have hb := E.2.1
  refine W.widen (Nat.le_of_eq hk) hs ?_
  exact W.iret (v := v) hx hb (E.2.2.2.1.trans hr) (fun t ht hW => ⟨_, x, rfl, h, by rw [← hk]; exact Z, by rw [ht]; exact P, S.F ht⟩) S.2.2 hdg E.2.2.2.2.1
theorem a_zret {v : Int32} {ty : FieldType} (hdg : decode cc pc = .ok (.ireturn, 1)) (hr : ret = some ty) (hn : narrow ty (.int v) = .int v) (hk : kc = rm.cells) (hs : ks ≤ rm.slots) (h : Φ (some (.int v)) x) : A l w y cc nL ret rm Φ pc ls [.int v] x kc ks := by
  intro p e s m args below meth c H locs arr E K P Z S B L
  have hx := E.1
  have hb := E.2.1
  refine W.widen (Nat.le_of_eq hk) hs ?_
  exact W.zret (v := v) hx hb (E.2.2.2.1.trans hr) hn (fun t ht hW => ⟨_, x, rfl, h, by rw [← hk]; exact Z, by rw [ht]; exact P, S.F ht⟩) S.2.2 hdg E.2.2.2.2.1
theorem a_vret (hdg : decode cc pc = .ok (.return_, 1)) (hr : ret = none) (hk : kc = rm.cells) (hs : ks ≤ rm.slots) (h : Φ none x) : A l w y cc nL ret rm Φ pc ls [] x kc ks := by
  intro p e s m args below meth c H locs arr E K P Z S B L
  have hx := E.1
  have hb := E.2.1
  refine W.widen (Nat.le_of_eq hk) hs ?_
  exact W.vret hx hb (E.2.2.2.1.trans hr) (fun t ht hW => ⟨_, x, rfl, h, by rw [← hk]; exact Z, by rw [ht]; exact P, S.F ht⟩) S.2.2 hdg E.2.2.2.2.1
theorem a_aret {v : Nat} {n_ : String} (hdg : decode cc pc = .ok (.areturn, 1)) (hr : ret = some (.object n_)) (hk : kc = rm.cells) (hs : ks ≤ rm.slots) (h : Φ (some (.ref v)) x) : A l w y cc nL ret rm Φ pc ls [.ref v] x kc ks := by
  intro p e s m args below meth c H locs arr E K P Z S B L
  have hx := E.1
  have hb := E.2.1
  refine W.widen (Nat.le_of_eq hk) hs ?_
  exact W.aret hx hb (E.2.2.2.1.trans hr) (Or.inl ⟨_, rfl⟩) (Or.inr ⟨_, rfl⟩) (fun t ht hW => ⟨_, x, rfl, h, by rw [← hk]; exact Z, by rw [ht]; exact P, S.F ht⟩) S.2.2 hdg E.2.2.2.2.1
end AR
