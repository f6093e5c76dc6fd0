/-! the memory of all objects by (state, tag, index, slot); the world that it spells -/
abbrev Mem : Type := Nat → Nat → Nat → Nat → Int32
abbrev RMem : Type := Nat → Nat → Nat → Nat → Option Nat
abbrev XX : Type := Mem × RMem × Nat
abbrev Ob : Type := Nat × Nat × Nat
abbrev WW : Type := va_G × (Nat → ClassId) × Nat
def obS (s : Nat) : List Ob := [(s, 5, 0), (s, 8, 0), (s, 16, 0), (s, 3, 0), (s, 13, 0), (s, 3, 1), (s, 13, 1), (s, 0, 0), (s, 9, 0), (s, 10, 0), (s, 11, 0), (s, 12, 0)] ++ (List.range 16).flatMap fun c => [(s, 1, c), (s, 14, c), (s, 15, c)]
def obs : List Ob := [(2, 6, 0), (2, 4, 0)] ++ obS 0 ++ obS 1 ++ [(2, 17, 0)] ++ (List.range 16).map (fun c => (2, 2, c)) ++ [(2, 7, 0)] ++ (List.range 18).map (fun c => (2, 18 + c, 0))
def offL : List Ob → Ob → Nat
  | [], _ => 0
  | a :: t, o => if a = o then 0 else offL t o + 1
def off (s t c : Nat) : Nat := offL obs (s, t, c)
def ad (w : WW) (s t c : Nat) : Nat := w.2.2 + off s t c
def rl (s t c : Nat) : Bool := match t with
  | 0 => decide (s < 2) && decide (c < 1)
  | 5 => decide (s < 2) && decide (c < 1)
  | 8 => decide (s < 2) && decide (c < 1)
  | 9 => decide (s < 2) && decide (c < 1)
  | 10 => decide (s < 2) && decide (c < 1)
  | 11 => decide (s < 2) && decide (c < 1)
  | 12 => decide (s < 2) && decide (c < 1)
  | 16 => decide (s < 2) && decide (c < 1)
  | 1 => decide (s < 2) && decide (c < 16)
  | 14 => decide (s < 2) && decide (c < 16)
  | 15 => decide (s < 2) && decide (c < 16)
  | 3 => decide (s < 2) && decide (c < 2)
  | 13 => decide (s < 2) && decide (c < 2)
  | 2 => decide (s = 2) && decide (c < 16)
  | t => decide (s = 2) && decide (c < 1) && decide (t < 36)
theorem offL_mem : ∀ (L : List Ob) (o : Ob), o ∈ L → L[offL L o]? = some o
  | a :: t, o, h => by
    unfold offL
    by_cases ha : a = o
    · rw [if_pos ha, ha]; rfl
    · rw [if_neg ha]
      rcases List.mem_cons.mp h with h | h
      · exact absurd h.symm ha
      · rw [List.getElem?_cons_succ]; exact offL_mem t o h
theorem rl_chk : (List.range 3).all (fun s => (List.range 36).all fun t => (List.range 16).all fun c => !rl s t c || obs.any fun o => o.1 == s && (o.2.1 == t && o.2.2 == c)) = true := by decide +kernel
theorem rl_key {s t c : Nat} (hs : s < 3) (ht : t < 36) (hc : c < 16) (h : rl s t c = true) : (s, t, c) ∈ obs := by
  have h1 := List.all_eq_true.mp (List.all_eq_true.mp (List.all_eq_true.mp rl_chk s (List.mem_range.mpr hs)) t (List.mem_range.mpr ht)) c (List.mem_range.mpr hc)
  rw [h] at h1
  obtain ⟨⟨a, b, d⟩, hm, ho⟩ := List.any_eq_true.mp (by simpa using h1 : (obs.any fun o => o.1 == s && (o.2.1 == t && o.2.2 == c)) = true)
  simp only [Bool.and_eq_true, beq_iff_eq] at ho
  obtain ⟨rfl, rfl, rfl⟩ := ho
  exact hm
theorem rl_lt {s t c : Nat} (h : rl s t c = true) : s < 3 ∧ t < 36 ∧ c < 16 := by
  unfold rl at h
  split at h <;> simp only [Bool.and_eq_true, decide_eq_true_eq] at h <;> omega
theorem rl_mem {s t c : Nat} (h : rl s t c = true) : (s, t, c) ∈ obs := by
  obtain ⟨h1, h2, h3⟩ := rl_lt h
  exact rl_key h1 h2 h3 h
theorem obs_len : obs.length = 158 := by decide +kernel
theorem obs_chk : (List.range 158).all (fun j => match obs[j]? with | some o => offL obs o == j | none => false) = true := by decide +kernel
theorem obs_off {j : Nat} {o : Ob} (h : obs[j]? = some o) : offL obs o = j := by
  have hj : j < 158 := by rw [← obs_len]; exact (List.getElem?_eq_some_iff.mp h).1
  have h1 := List.all_eq_true.mp obs_chk j (List.mem_range.mpr hj)
  rw [h] at h1
  simpa using h1
def nF (t : Nat) : Nat := match t with
  | 0 => 5 | 1 => 6 | 2 => 4 | 3 => 2 | 4 => 4 | 5 => 9 | 6 => 4 | _ => 30
def isR (t k : Nat) : Bool := match t with
  | 0 => k != 1
  | 1 => Nat.blt k 2
  | 2 => false
  | 3 => k == 0
  | 4 => false
  | 5 => k == 0 || k == 1 || k == 3 || k == 5 || k == 6 || k == 7
  | 6 => Nat.blt k 3
  | _ => k == 4 || k == 5 || k == 6 || k == 7 || k == 10 || k == 14 || k == 15 || k == 16 || k == 17 || k == 18 || k == 19 || k == 21 || k == 24 || k == 25 || k == 26 || k == 27 || k == 28 || k == 29
def aK (t : Nat) : Nat := match t with
  | 35 => 1 | 16 => 2 | 17 => 3 | _ => 0
def aL (t c : Nat) : Nat := match t with
  | 8 => 6 | 9 => 6 | 10 => 4 | 11 => 4 | 12 => 4
  | 13 => if c = 0 then 16 else 8
  | 14 => 6 | 15 => 6 | 16 => 16 | 17 => 16
  | 18 => 512 | 19 => 512 | 20 => 512 | 21 => 512 | 22 => 6 | 23 => 96 | 24 => 96 | 25 => 16 | 26 => 16 | 27 => 128 | 28 => 16 | 29 => 9 | 30 => 4 | 31 => 4 | 32 => 4 | 33 => 4 | 34 => 6 | 35 => 16
  | _ => 0
def fv (x : XX) (s t c k : Nat) : Value := if isR t k = true then va_rf (x.2.1 s t c k) else .int (x.1 s t c k)
def FE (w : WW) (x : XX) (o : Ob) : va_E := if o.2.1 < 8 then .inr (o.2.1, (List.range (nF o.2.1)).map (fv x o.1 o.2.1 o.2.2)) else .inl (w.2.1 (aK o.2.1), aL o.2.1 o.2.2, if aK o.2.1 < 2 then .inl (x.1 o.1 o.2.1 o.2.2) else .inr (.inr (.inr (.inr (x.2.1 o.1 o.2.1 o.2.2)))))
def wsx (w : WW) (x : XX) : va_W := (obs.take x.2.2).map fun o => (w.2.2 + offL obs o, FE w x o)
def Rl (x : XX) (s t c : Nat) : Prop := rl s t c = true ∧ off s t c < x.2.2
theorem wsx_at {w : WW} {x : XX} {s t c : Nat} (h : Rl x s t c) : (wsx w x)[off s t c]? = some (ad w s t c, FE w x (s, t, c)) := by
  unfold wsx
  rw [List.getElem?_map, List.getElem?_take, if_pos h.2, show obs[off s t c]? = some (s, t, c) from offL_mem obs _ (rl_mem h.1)]
  rfl
theorem wsx_of {w : WW} {x : XX} {j : Nat} {q : Nat × va_E} (h : (wsx w x)[j]? = some q) : ∃ o, obs[j]? = some o ∧ j < x.2.2 ∧ q = (w.2.2 + j, FE w x o) := by
  unfold wsx at h
  rw [List.getElem?_map, List.getElem?_take] at h
  by_cases hj : j < x.2.2
  · rw [if_pos hj] at h
    cases ho : obs[j]? with
    | none => rw [ho] at h; cases h
    | some o =>
      rw [ho] at h
      refine ⟨o, rfl, hj, ?_⟩
      have h2 : (w.2.2 + offL obs o, FE w x o) = q := Option.some.inj h
      rw [← h2, obs_off ho]
  · rw [if_neg hj] at h; cases h
theorem wsD (w : WW) (x : XX) : va_D (fun q => w.2.2 ≤ q) (wsx w x) := by
  refine ⟨fun i j p q hp hq he => ?_, fun k q hk => ?_⟩
  · obtain ⟨o1, -, -, e1⟩ := wsx_of hp
    obtain ⟨o2, -, -, e2⟩ := wsx_of hq
    rw [e1, e2] at he
    exact Nat.add_left_cancel he
  · obtain ⟨o, -, -, e⟩ := wsx_of hk
    rw [e]
    exact Nat.le_add_right _ _
theorem wsx_set {w : WW} {x x' : XX} {s t c : Nat} (h : Rl x s t c) (hn : x'.2.2 = x.2.2) (ho : ∀ o : Ob, o ≠ (s, t, c) → FE w x' o = FE w x o) : (wsx w x).set (off s t c) (ad w s t c, FE w x' (s, t, c)) = wsx w x' := by
  have hm : obs[off s t c]? = some (s, t, c) := offL_mem obs _ (rl_mem h.1)
  refine List.ext_getElem? fun j => ?_
  rw [List.getElem?_set]
  by_cases hj : off s t c = j
  · have hlt : off s t c < (wsx w x).length := (List.getElem?_eq_some_iff.mp (wsx_at (w := w) h)).1
    rw [if_pos hj, if_pos hlt, ← hj]
    exact (wsx_at (w := w) (x := x') ⟨h.1, by rw [hn]; exact h.2⟩).symm
  · rw [if_neg hj]
    unfold wsx
    rw [hn, List.getElem?_map, List.getElem?_map, List.getElem?_take]
    by_cases hl : j < x.2.2
    · rw [if_pos hl]
      cases hoj : obs[j]? with
      | none => rfl
      | some o =>
        have : o ≠ (s, t, c) := fun e => by
          subst e
          exact hj (obs_off hoj)
        show some (w.2.2 + offL obs o, FE w x o) = some (w.2.2 + offL obs o, FE w x' o)
        rw [ho o this]
    · rw [if_neg hl]
      rfl
/-- one place of a function changed -/
def up1 {α : Type} (f : Nat → α) (k : Nat) (v : α) : Nat → α := fun j => if j = k then v else f j
theorem up1_same {α : Type} (f : Nat → α) (k : Nat) (v : α) : up1 f k v k = v := if_pos rfl
theorem up1_ne {α : Type} {f : Nat → α} {k j : Nat} {v : α} (h : j ≠ k) : up1 f k v j = f j := if_neg h
theorem up1_up1 {α : Type} (f : Nat → α) (k : Nat) (u v : α) : up1 (up1 f k u) k v = up1 f k v := by
  funext j
  unfold up1
  by_cases h : j = k <;> simp [h]
theorem up1_eta {α : Type} (f : Nat → α) (k : Nat) : up1 f k (f k) = f := by
  funext j
  unfold up1
  by_cases h : j = k <;> simp [h]
/-- .. of a state's memory, of all memory -/
abbrev Sg : Type := Nat → Nat → Nat → Int32
def sg (f : Sg) (t c k : Nat) (v : Int32) : Sg := up1 f t (up1 (f t) c (up1 (f t c) k v))
def up (M : Mem) (s t c k : Nat) (v : Int32) : Mem := up1 M s (sg (M s) t c k v)
def upR (R : RMem) (s t c k : Nat) (v : Option Nat) : RMem := up1 R s (up1 (R s) t (up1 (R s t) c (up1 (R s t c) k v)))
theorem up_ne {M : Mem} {s t c k : Nat} {v : Int32} {s' t' c' : Nat} (h : (s', t', c') ≠ (s, t, c)) : up M s t c k v s' t' c' = M s' t' c' := by
  unfold up sg up1
  by_cases h1 : s' = s
  · by_cases h2 : t' = t
    · by_cases h3 : c' = c
      · exact absurd (by rw [h1, h2, h3]) h
      · simp [h1, h2, h3]
    · simp [h1, h2]
  · simp [h1]
theorem up_eq (M : Mem) (s t c k : Nat) (v : Int32) : up M s t c k v s t c = up1 (M s t c) k v := by simp [up, sg, up1]
theorem upR_ne {M : RMem} {s t c k : Nat} {v : Option Nat} {s' t' c' : Nat} (h : (s', t', c') ≠ (s, t, c)) : upR M s t c k v s' t' c' = M s' t' c' := by
  unfold upR up1
  by_cases h1 : s' = s
  · by_cases h2 : t' = t
    · by_cases h3 : c' = c
      · exact absurd (by rw [h1, h2, h3]) h
      · simp [h1, h2, h3]
    · simp [h1, h2]
  · simp [h1]
theorem upR_eq (M : RMem) (s t c k : Nat) (v : Option Nat) : upR M s t c k v s t c = up1 (M s t c) k v := by simp [upR, up1]
theorem FE_ne {w : WW} {x x' : XX} {s t c : Nat} (h1 : ∀ s' t' c', (s', t', c') ≠ (s, t, c) → x'.1 s' t' c' = x.1 s' t' c') (h2 : ∀ s' t' c', (s', t', c') ≠ (s, t, c) → x'.2.1 s' t' c' = x.2.1 s' t' c') : ∀ o : Ob, o ≠ (s, t, c) → FE w x' o = FE w x o := by
  intro o ho
  obtain ⟨s', t', c'⟩ := o
  unfold FE fv
  rw [h1 s' t' c' ho, h2 s' t' c' ho]
theorem FE_obj {w : WW} {x : XX} {s t c : Nat} (ht : t < 8) : FE w x (s, t, c) = .inr (t, (List.range (nF t)).map (fv x s t c)) := if_pos ht
theorem fv_at {x : XX} {s t c k : Nat} (hk : k < nF t) : ((List.range (nF t)).map (fv x s t c))[k]? = some (fv x s t c k) := by
  rw [List.getElem?_map, List.getElem?_range hk]; rfl
theorem fv_len {x : XX} {s t c k : Nat} (hk : k < nF t) : k < ((List.range (nF t)).map (fv x s t c)).length := by
  rw [List.length_map, List.length_range]; exact hk
theorem fv_set {x x' : XX} {s t c k : Nat} {v : Value} (hv : fv x' s t c k = v) (ho : ∀ j, j ≠ k → fv x' s t c j = fv x s t c j) : ((List.range (nF t)).map (fv x s t c)).set k v = (List.range (nF t)).map (fv x' s t c) := by
  refine List.ext_getElem? fun j => ?_
  rw [List.getElem?_set]
  by_cases hj : k = j
  · subst hj
    rw [if_pos rfl]
    by_cases hl : k < nF t
    · rw [if_pos (fv_len hl), fv_at hl, hv]
    · rw [if_neg (by rw [List.length_map, List.length_range]; exact hl), List.getElem?_eq_none (by rw [List.length_map, List.length_range]; omega)]
  · rw [if_neg hj, List.getElem?_map, List.getElem?_map]
    by_cases hl : j < nF t
    · rw [List.getElem?_range hl]
      show some _ = some _
      rw [ho j (Ne.symm hj)]
    · rw [List.getElem?_eq_none (by rw [List.length_range]; omega)]; rfl
