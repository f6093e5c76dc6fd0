/-! the constructors: each leaves its objects made, and the places of references as RT says -/
def rmc (d cells slots : Nat) : Room := { frames := d, cells := cells, slots := slots, locals := 30 * d }
def stR (R : RMem) (s t c : Nat) (f : Nat → Option Nat) : RMem := up1 R s (up1 (R s) t (up1 (R s t) c f))
theorem stR_ne {R : RMem} {s t c : Nat} {f : Nat → Option Nat} {s' t' c' : Nat} (h : (s', t', c') ≠ (s, t, c)) : stR R s t c f s' t' c' = R s' t' c' := by
  unfold stR up1
  by_cases h1 : s' = s
  · by_cases h2 : t' = t
    · by_cases h3 : c' = c
      · exact absurd (by rw [h1, h2, h3]) h
      · simp [h1, h2, h3]
    · simp [h1, h2]
  · simp [h1]
theorem stR_eq (R : RMem) (s t c : Nat) (f : Nat → Option Nat) : stR R s t c f s t c = f := by simp [stR, up1]
theorem stR_up (R : RMem) (s t c : Nat) (f : Nat → Option Nat) (k : Nat) (v : Option Nat) : upR (stR R s t c f) s t c k v = stR R s t c (up1 f k v) := by
  unfold stR upR
  simp only [up1_same, up1_up1]
theorem stR_id {R : RMem} {s t c : Nat} {f : Nat → Option Nat} (h : R s t c = f) : stR R s t c f = R := by
  unfold stR
  rw [← h, up1_eta, up1_eta, up1_eta]
theorem stR_st (R : RMem) (s t c : Nat) (f g : Nat → Option Nat) : stR (stR R s t c f) s t c g = stR R s t c g := by
  unfold stR
  simp only [up1_same, up1_up1]
theorem stR_comm {R : RMem} {s t t' : Nat} {f g : Nat → Option Nat} (h : t ≠ t') : stR (stR R s t 0 f) s t' 0 g = stR (stR R s t' 0 g) s t 0 f := by
  unfold stR
  simp only [up1_same, up1_up1]
  rw [up1_ne (Ne.symm h), up1_ne h, up1_comm h]
def tR (R : RMem) (s t : Nat) (f : Nat → Option Nat) (t' : Nat) (g : Nat → Option Nat) : RMem := stR (stR R s t 0 f) s t' 0 g
theorem tR_1 {R : RMem} {s t t' : Nat} {f g : Nat → Option Nat} (h : t ≠ t') : tR R s t f t' g s t 0 = f := by
  unfold tR
  rw [stR_ne (by intro e; injection e with _ e; injection e with e; exact h e), stR_eq]
theorem tR_2 (R : RMem) (s t t' : Nat) (f g : Nat → Option Nat) : tR R s t f t' g s t' 0 = g := stR_eq _ _ _ _ _
theorem tR_up1 {R : RMem} {s t t' k : Nat} {f g : Nat → Option Nat} {v : Option Nat} (h : t ≠ t') : upR (tR R s t f t' g) s t 0 k v = tR R s t (up1 f k v) t' g := by
  unfold tR
  rw [stR_comm h, stR_up, stR_comm h]
theorem tR_up2 (R : RMem) (s t t' k : Nat) (f g : Nat → Option Nat) (v : Option Nat) : upR (tR R s t f t' g) s t' 0 k v = tR R s t f t' (up1 g k v) := stR_up _ _ _ _ _ _ _
theorem tR_st (R : RMem) (s t t' : Nat) (f g g' : Nat → Option Nat) : stR (tR R s t f t' g) s t' 0 g' = tR R s t f t' g' := stR_st _ _ _ _ _ _
theorem tR_ne {R : RMem} {s t t' s' u c' : Nat} {f g : Nat → Option Nat} (h : (s', u, c') ≠ (s, t, 0)) (h' : (s', u, c') ≠ (s, t', 0)) : tR R s t f t' g s' u c' = R s' u c' := by
  unfold tR
  rw [stR_ne h', stR_ne h]
theorem tR_of {R : RMem} {s t t' : Nat} {f g : Nat → Option Nat} (h : t ≠ t') (hg : R s t' 0 = g) : tR R s t f t' g = stR R s t 0 f := by
  unfold tR
  exact stR_id (by rw [stR_ne (by intro e; injection e with _ e; injection e with e; exact h e.symm)]; exact hg)
theorem wsx_new {w : WW} {M : Mem} {R : RMem} {n s t c : Nat} {f : Nat → Option Nat} (ho : obs[n]? = some (s, t, c)) : wsx w (M, stR R s t c f, n) = wsx w (M, R, n) := by
  unfold wsx
  refine List.map_congr_left fun o h => ?_
  obtain ⟨j, hj⟩ := List.mem_iff_getElem?.mp h
  have hj : (obs.take n)[j]? = some o := hj
  rw [List.getElem?_take] at hj
  by_cases hl : j < n
  · rw [if_pos hl] at hj
    have hne : o ≠ (s, t, c) := fun e => by
      subst e
      have := obs_off hj
      rw [obs_off ho] at this
      omega
    rw [FE_ne (x := (M, R, n)) (x' := (M, stR R s t c f, n)) (fun _ _ _ _ => rfl) (fun _ _ _ h => stR_ne h) o hne]
  · rw [if_neg hl] at hj; cases hj
theorem hs2 {s : Nat} (h : s < 2) : s = 0 ∨ s = 1 := by omega
theorem ob_5 {s n : Nat} (hs : s < 2) (h : n = 60 * s + 2) : obs[n]? = some (s, 5, 0) := by
  subst h
  rcases hs2 hs with rfl | rfl <;> decide +kernel
theorem ob_8 {s n : Nat} (hs : s < 2) (h : n = 60 * s + 3) : obs[n]? = some (s, 8, 0) := by
  subst h
  rcases hs2 hs with rfl | rfl <;> decide +kernel
theorem ob_16 {s n : Nat} (hs : s < 2) (h : n = 60 * s + 4) : obs[n]? = some (s, 16, 0) := by
  subst h
  rcases hs2 hs with rfl | rfl <;> decide +kernel
theorem ob_30 {s n : Nat} (hs : s < 2) (h : n = 60 * s + 5) : obs[n]? = some (s, 3, 0) := by
  subst h
  rcases hs2 hs with rfl | rfl <;> decide +kernel
theorem ob_130 {s n : Nat} (hs : s < 2) (h : n = 60 * s + 6) : obs[n]? = some (s, 13, 0) := by
  subst h
  rcases hs2 hs with rfl | rfl <;> decide +kernel
theorem ob_31 {s n : Nat} (hs : s < 2) (h : n = 60 * s + 7) : obs[n]? = some (s, 3, 1) := by
  subst h
  rcases hs2 hs with rfl | rfl <;> decide +kernel
theorem ob_131 {s n : Nat} (hs : s < 2) (h : n = 60 * s + 8) : obs[n]? = some (s, 13, 1) := by
  subst h
  rcases hs2 hs with rfl | rfl <;> decide +kernel
theorem ob_0 {s n : Nat} (hs : s < 2) (h : n = 60 * s + 9) : obs[n]? = some (s, 0, 0) := by
  subst h
  rcases hs2 hs with rfl | rfl <;> decide +kernel
theorem ob_9 {s n : Nat} (hs : s < 2) (h : n = 60 * s + 10) : obs[n]? = some (s, 9, 0) := by
  subst h
  rcases hs2 hs with rfl | rfl <;> decide +kernel
theorem ob_10 {s n : Nat} (hs : s < 2) (h : n = 60 * s + 11) : obs[n]? = some (s, 10, 0) := by
  subst h
  rcases hs2 hs with rfl | rfl <;> decide +kernel
theorem ob_11 {s n : Nat} (hs : s < 2) (h : n = 60 * s + 12) : obs[n]? = some (s, 11, 0) := by
  subst h
  rcases hs2 hs with rfl | rfl <;> decide +kernel
theorem ob_12 {s n : Nat} (hs : s < 2) (h : n = 60 * s + 13) : obs[n]? = some (s, 12, 0) := by
  subst h
  rcases hs2 hs with rfl | rfl <;> decide +kernel
theorem obc_1 : ∀ s, s < 2 → ∀ c, c < 16 → obs[60 * s + 14 + 3 * c]? = some (s, 1, c) := by decide +kernel
theorem ob_1 {s n c : Nat} (hs : s < 2) (hc : c < 16) (h : n = 60 * s + 14 + 3 * c) : obs[n]? = some (s, 1, c) := by rw [h]; exact obc_1 s hs c hc
theorem obc_14 : ∀ s, s < 2 → ∀ c, c < 16 → obs[60 * s + 15 + 3 * c]? = some (s, 14, c) := by decide +kernel
theorem ob_14 {s n c : Nat} (hs : s < 2) (hc : c < 16) (h : n = 60 * s + 15 + 3 * c) : obs[n]? = some (s, 14, c) := by rw [h]; exact obc_14 s hs c hc
theorem obc_15 : ∀ s, s < 2 → ∀ c, c < 16 → obs[60 * s + 16 + 3 * c]? = some (s, 15, c) := by decide +kernel
theorem ob_15 {s n c : Nat} (hs : s < 2) (hc : c < 16) (h : n = 60 * s + 16 + 3 * c) : obs[n]? = some (s, 15, c) := by rw [h]; exact obc_15 s hs c hc
theorem obe_2 : ∀ c, c < 16 → obs[123 + c]? = some (2, 2, c) := by decide +kernel
section AR
variable {l : Launch} {w : WW} {y : MethodName} {cc : ByteArray} {nL : Nat} {ret : Option FieldType} {rm : Room} {Φ : Option Value → XX → Prop} {pc : Nat} {ls : List (Option Value)} {st : List Value} {M : Mem} {R : RMem} {n kc ks s t c : Nat}
theorem a_ws {x x' : XX} (h : wsx w x' = wsx w x) (hn : x'.2.2 = x.2.2) (kk : A l w y cc nL ret rm Φ pc ls st x' kc ks) : A l w y cc nL ret rm Φ pc ls st x kc ks := by
  intro p e s0 m args below meth c0 H locs arr E K P Z S B L
  exact kk p e s0 m args below meth c0 H locs arr E K (by rw [h]; exact P) (by rw [hn]; exact Z) S B L
theorem a_kk {kc' ks' : Nat} (h1 : kc = kc') (h2 : ks = ks') {x : XX} (kk : A l w y cc nL ret rm Φ pc ls st x kc' ks') : A l w y cc nL ret rm Φ pc ls st x kc ks := by
  rw [h1, h2]; exact kk
theorem b_fix {f f' : Nat → Option Nat} (ht : t < 8) (h : ∀ k, k < nF t → isR t k = true → f k = f' k) (kk : A l w y cc nL ret rm Φ pc ls st (M, stR R s t c f', n) kc ks) : A l w y cc nL ret rm Φ pc ls st (M, stR R s t c f, n) kc ks := by
  refine a_ws (x' := (M, stR R s t c f', n)) ?_ rfl kk
  unfold wsx
  refine List.map_congr_left fun o _ => ?_
  by_cases ho : o = (s, t, c)
  · subst ho
    rw [FE_obj ht, FE_obj ht]
    refine congrArg (fun z => (_, Sum.inr (t, z))) (List.map_congr_left fun k hk => ?_)
    unfold fv
    cases hi : isR t k with
    | false => rfl
    | true =>
      rw [if_pos rfl, if_pos rfl]
      show va_rf (stR R s t c f' s t c k) = va_rf (stR R s t c f s t c k)
      rw [stR_eq, stR_eq, h k (List.mem_range.mp hk) hi]
  · rw [FE_ne (x := (M, stR R s t c f, n)) (x' := (M, stR R s t c f', n)) (fun _ _ _ _ => rfl) (fun _ _ _ h => (stR_ne h).trans (stR_ne h).symm) o ho]
theorem b_new {index : Nat} (hdg : decode cc pc = .ok (.new index, 3)) (hcl : Cond.classLink y.cls index (CC t) ∈ TBL) (hin : Cond.instantiable (CC t) (nF t) ∈ TBL) (hini : Cond.initialized (CC t) ∈ TBL) (ht : t < 8) (ho : obs[n]? = some (s, t, c)) (hM : M s t c = zr) (hC : kc + 1 ≤ rm.cells ∧ ks + nF t ≤ rm.slots) (kk : A l w y cc nL ret rm Φ (pc + 3) ls (.ref (ad w s t c) :: st) (M, stR R s t c nn, n + 1) (kc + 1) (ks + nF t)) : A l w y cc nL ret rm Φ pc ls st (M, R, n) kc ks :=
  a_ws (x' := (M, stR R s t c nn, n)) (wsx_new ho) rfl (a_new hdg hcl hin hini ht ho hM (stR_eq _ _ _ _ _) hC kk)
theorem b_newi {v : Int32} (hdg : decode cc pc = .ok (.newarray .int, 2)) (hn : v = nI (aL t c)) (ht : ¬ t < 8) (hk : aK t = 0) (ho : obs[n]? = some (s, t, c)) (hM : M s t c = zr) (hC : kc + 1 ≤ rm.cells ∧ ks + aL t c ≤ rm.slots) (kk : A l w y cc nL ret rm Φ (pc + 2) ls (.ref (ad w s t c) :: st) (M, R, n + 1) (kc + 1) (ks + aL t c)) : A l w y cc nL ret rm Φ pc ls (.int v :: st) (M, R, n) kc ks := a_newi hdg hn ht hk ho hM hC kk
theorem b_newz {v : Int32} (hdg : decode cc pc = .ok (.newarray .boolean, 2)) (hn : v = nI (aL t c)) (ht : ¬ t < 8) (hk : aK t = 1) (ho : obs[n]? = some (s, t, c)) (hM : M s t c = zr) (hC : kc + 1 ≤ rm.cells ∧ ks + aL t c ≤ rm.slots) (kk : A l w y cc nL ret rm Φ (pc + 2) ls (.ref (ad w s t c) :: st) (M, R, n + 1) (kc + 1) (ks + aL t c)) : A l w y cc nL ret rm Φ pc ls (.int v :: st) (M, R, n) kc ks := a_newz hdg hn ht hk ho hM hC kk
theorem b_newq {v : Int32} {index : Nat} {C : String} (hdg : decode cc pc = .ok (.anewarray index, 3)) (hcl : Cond.classLink y.cls index C ∈ TBL) (hC2 : (aK t = 2 ∧ C = "GatedTrunk$Change") ∨ (aK t = 3 ∧ C = "GatedTrunk$Event")) (hn : v = nI (aL t c)) (ht : ¬ t < 8) (ho : obs[n]? = some (s, t, c)) (hC : kc + 1 ≤ rm.cells ∧ ks + aL t c ≤ rm.slots) (kk : A l w y cc nL ret rm Φ (pc + 3) ls (.ref (ad w s t c) :: st) (M, stR R s t c nn, n + 1) (kc + 1) (ks + aL t c)) : A l w y cc nL ret rm Φ pc ls (.int v :: st) (M, R, n) kc ks :=
  a_ws (x' := (M, stR R s t c nn, n)) (wsx_new ho) rfl (a_newq hdg hcl hC2 hn ht ho (stR_eq _ _ _ _ _) hC kk)
theorem b_put1 {index v k : Nat} {ty : FieldType} {f : Nat → Option Nat} (hdg : decode cc pc = .ok (.putfield index, 3)) (hl : Cond.fieldLink y.cls index (TT t k).1 (TT t k).2.1 (TT t k).2.2.1 ∈ TBL) (hyn : y.name = "<init>") (hyd : (TT t k).1 = y.cls) (ht : t < 8) (hk : k < nF t) (hr : isR t k = true) (hf : (TT t k).2.2.2 = true) (hy : tyC t k = ty) (hn : narrow ty (.ref v) = .ref v) (hfit : fits ty (.ref v) = true) {m : Nat} (ho : obs[m]? = some (s, t, c)) (hm : m < n) (kk : A l w y cc nL ret rm Φ (pc + 3) ls st (M, stR R s t c (up1 f k (some v)), n) kc ks) : A l w y cc nL ret rm Φ pc ls (.ref v :: .ref (ad w s t c) :: st) (M, stR R s t c f, n) kc ks :=
  a_putFR hdg hl hyn hyd ht hk hr hf hy hn hfit (ob_Rl ho hm) (a_eq (x' := (M, stR R s t c (up1 f k (some v)), n)) (by show (M, upR (stR R s t c f) s t c k (some v), n) = _; rw [stR_up]) kk)
theorem b_put2 {index v k t' : Nat} {ty : FieldType} {f g : Nat → Option Nat} (hdg : decode cc pc = .ok (.putfield index, 3)) (hl : Cond.fieldLink y.cls index (TT t k).1 (TT t k).2.1 (TT t k).2.2.1 ∈ TBL) (hyn : y.name = "<init>") (hyd : (TT t k).1 = y.cls) (ht : t < 8) (hk : k < nF t) (hr : isR t k = true) (hf : (TT t k).2.2.2 = true) (hy : tyC t k = ty) (hn : narrow ty (.ref v) = .ref v) (hfit : fits ty (.ref v) = true) {m : Nat} (ho : obs[m]? = some (s, t, 0)) (hm : m < n) (hne : t ≠ t') (kk : A l w y cc nL ret rm Φ (pc + 3) ls st (M, tR R s t (up1 f k (some v)) t' g, n) kc ks) : A l w y cc nL ret rm Φ pc ls (.ref v :: .ref (ad w s t 0) :: st) (M, tR R s t f t' g, n) kc ks :=
  a_putFR hdg hl hyn hyd ht hk hr hf hy hn hfit (ob_Rl ho hm) (a_eq (x' := (M, tR R s t (up1 f k (some v)) t' g, n)) (by show (M, upR (tR R s t f t' g) s t 0 k (some v), n) = _; rw [tR_up1 hne]) kk)
theorem b_putI {index k : Nat} {v : Int32} (hdg : decode cc pc = .ok (.putfield index, 3)) (hl : Cond.fieldLink y.cls index (TT t k).1 (TT t k).2.1 (TT t k).2.2.1 ∈ TBL) (ht : t < 8) (hk : k < nF t) (hr : isR t k = false) (hf : (TT t k).2.2.2 = false) (hy : tyC t k = .int) {m : Nat} (ho : obs[m]? = some (s, t, c)) (hm : m < n) (kk : A l w y cc nL ret rm Φ (pc + 3) ls st (up M s t c k v, R, n) kc ks) : A l w y cc nL ret rm Φ pc ls (.int v :: .ref (ad w s t c) :: st) (M, R, n) kc ks :=
  a_putI hdg hl ht hk hr hf hy (ob_Rl ho hm) kk
theorem b_putFI {index k : Nat} {v : Int32} (hdg : decode cc pc = .ok (.putfield index, 3)) (hl : Cond.fieldLink y.cls index (TT t k).1 (TT t k).2.1 (TT t k).2.2.1 ∈ TBL) (hyn : y.name = "<init>") (hyd : (TT t k).1 = y.cls) (ht : t < 8) (hk : k < nF t) (hr : isR t k = false) (hf : (TT t k).2.2.2 = true) (hy : tyC t k = .int) {m : Nat} (ho : obs[m]? = some (s, t, c)) (hm : m < n) (kk : A l w y cc nL ret rm Φ (pc + 3) ls st (up M s t c k v, R, n) kc ks) : A l w y cc nL ret rm Φ pc ls (.int v :: .ref (ad w s t c) :: st) (M, R, n) kc ks :=
  a_putFI hdg hl hyn hyd ht hk hr hf hy (ob_Rl ho hm) kk
theorem b_get2 {index k a t' : Nat} {f g : Nat → Option Nat} (hdg : decode cc pc = .ok (.getfield index, 3)) (hl : Cond.fieldLink y.cls index (TT t k).1 (TT t k).2.1 (TT t k).2.2.1 ∈ TBL) (ht : t < 8) (hk : k < nF t) (hr : isR t k = true) {m : Nat} (ho : obs[m]? = some (s, t, 0)) (hm : m < n) (hne : t ≠ t') (hv : f k = some a) (kk : A l w y cc nL ret rm Φ (pc + 3) ls (.ref a :: st) (M, tR R s t f t' g, n) kc ks) : A l w y cc nL ret rm Φ pc ls (.ref (ad w s t 0) :: st) (M, tR R s t f t' g, n) kc ks :=
  a_getR hdg hl ht hk hr (ob_Rl ho hm) (by show tR R s t f t' g s t 0 k = _; rw [tR_1 hne]; exact hv) kk
theorem b_iast {i : Nat} {j v : Int32} (hdg : decode cc pc = .ok (.iastore, 1)) (hj : j = nI i) (hi : i < aL t c) (ht : ¬ t < 8) (hk : aK t = 0) {m : Nat} (ho : obs[m]? = some (s, t, c)) (hm : m < n) (kk : A l w y cc nL ret rm Φ (pc + 1) ls st (up M s t c i v, R, n) kc ks) : A l w y cc nL ret rm Φ pc ls (.int v :: .int j :: .ref (ad w s t c) :: st) (M, R, n) kc ks :=
  a_iast hdg hj hi ht hk (ob_Rl ho hm) kk
theorem b_aast {s' t' c' i t0 : Nat} {j : Int32} {f g : Nat → Option Nat} (hdg : decode cc pc = .ok (.aastore, 1)) (hj : j = nI i) (hi : i < aL t 0) (hk : (aK t = 2 ∧ t' = 1) ∨ (aK t = 3 ∧ t' = 2)) (ht : ¬ t < 8) {m m' : Nat} (ho : obs[m]? = some (s, t, 0)) (hm : m < n) (ho' : obs[m']? = some (s', t', c')) (hm' : m' < n) (kk : A l w y cc nL ret rm Φ (pc + 1) ls st (M, tR R s t0 f t (up1 g i (some (ad w s' t' c'))), n) kc ks) : A l w y cc nL ret rm Φ pc ls (.ref (ad w s' t' c') :: .int j :: .ref (ad w s t 0) :: st) (M, tR R s t0 f t g, n) kc ks :=
  a_aast hdg hj hi hk ht (ob_Rl ho hm) (ob_Rl ho' hm') (a_eq (x' := (M, tR R s t0 f t (up1 g i (some (ad w s' t' c'))), n)) (by show (M, upR (tR R s t0 f t g) s t 0 i _, n) = _; rw [tR_up2]) kk)
end AR
section AR
variable {l : Launch} {w : WW} {M : Mem} {R : RMem} {s c : Nat}
theorem s_X5_init {x : XX} {a : Nat} : Can l w yX5_init cX5_init 1 none (rmc 1 0 0) [.ref a] x (RV x) := by
  refine Can.go (ls := [some (.ref a)]) ?_
  refine a_aload_n dX5_init_0 rfl ?_
  refine a_objI dX5_init_1 kw_35 kw_14 kw_15 ⟨Nat.le_of_ble_eq_true rfl, Nat.le_of_ble_eq_true rfl⟩ ?_
  exact a_vret dX5_init_4 rfl rfl (Nat.le_of_ble_eq_true rfl) ⟨rfl, rfl⟩
theorem s_X2_init {x : XX} {a : Nat} : Can l w yX2_init cX2_init 1 none (rmc 1 0 0) [.ref a] x (RV x) := by
  refine Can.go (ls := [some (.ref a)]) ?_
  refine a_aload_n dX2_init_0 rfl ?_
  refine a_objI dX2_init_1 kw_85 kw_14 kw_15 ⟨Nat.le_of_ble_eq_true rfl, Nat.le_of_ble_eq_true rfl⟩ ?_
  exact a_vret dX2_init_4 rfl rfl (Nat.le_of_ble_eq_true rfl) ⟨rfl, rfl⟩
theorem s_X4_init0 (hs : s < 2) (hM : M s 13 0 = zr) (hR : R s 3 0 = RT w s 3 0) : Can l w yX4_init cX4_init 2 none (rmc 1 1 16) [.ref (ad w s 3 0), .int 16] (M, stR R s 3 0 nn, 60 * s + 6) (RV (M, R, 60 * s + 7)) := by
  refine Can.go (ls := [some (.ref (ad w s 3 0)), some (.int 16)]) ?_
  refine a_aload_n dX4_init_0 rfl ?_
  refine a_objI dX4_init_1 kw_69 kw_14 kw_15 ⟨Nat.le_of_ble_eq_true rfl, Nat.le_of_ble_eq_true rfl⟩ ?_
  refine a_aload_n dX4_init_4 rfl ?_
  refine a_iload_n dX4_init_5 rfl ?_
  refine b_newi (s := s) (t := 13) (c := 0) dX4_init_6 (by first | rfl | decide) (by decide) rfl (ob_130 hs rfl) (hM) (⟨Nat.le_of_ble_eq_true rfl, Nat.le_of_ble_eq_true rfl⟩) ?_
  refine b_put1 (t := 3) (k := 0) dX4_init_8 kw_70 rfl rfl (by decide) (by decide) rfl rfl rfl rfl rfl (ob_30 hs rfl) (by omega) ?_
  refine b_fix (f' := RT w s 3 0) (by decide) (fun k hk hi => ?_) ?_
  · have hk : k < 2 := hk
    rcases (show k = 0 ∨ k = 1 by omega) with rfl | rfl
    · rfl
    · exact absurd hi (by decide)
  rw [stR_id hR]
  exact a_vret dX4_init_11 rfl rfl (Nat.le_of_ble_eq_true rfl) ⟨rfl, rfl⟩
theorem s_X4_init1 (hs : s < 2) (hM : M s 13 1 = zr) (hR : R s 3 1 = RT w s 3 1) : Can l w yX4_init cX4_init 2 none (rmc 1 1 8) [.ref (ad w s 3 1), .int 8] (M, stR R s 3 1 nn, 60 * s + 8) (RV (M, R, 60 * s + 9)) := by
  refine Can.go (ls := [some (.ref (ad w s 3 1)), some (.int 8)]) ?_
  refine a_aload_n dX4_init_0 rfl ?_
  refine a_objI dX4_init_1 kw_69 kw_14 kw_15 ⟨Nat.le_of_ble_eq_true rfl, Nat.le_of_ble_eq_true rfl⟩ ?_
  refine a_aload_n dX4_init_4 rfl ?_
  refine a_iload_n dX4_init_5 rfl ?_
  refine b_newi (s := s) (t := 13) (c := 1) dX4_init_6 (by first | rfl | decide) (by decide) rfl (ob_131 hs rfl) (hM) (⟨Nat.le_of_ble_eq_true rfl, Nat.le_of_ble_eq_true rfl⟩) ?_
  refine b_put1 (t := 3) (k := 0) dX4_init_8 kw_70 rfl rfl (by decide) (by decide) rfl rfl rfl rfl rfl (ob_31 hs rfl) (by omega) ?_
  refine b_fix (f' := RT w s 3 1) (by decide) (fun k hk hi => ?_) ?_
  · have hk : k < 2 := hk
    rcases (show k = 0 ∨ k = 1 by omega) with rfl | rfl
    · rfl
    · exact absurd hi (by decide)
  rw [stR_id hR]
  exact a_vret dX4_init_11 rfl rfl (Nat.le_of_ble_eq_true rfl) ⟨rfl, rfl⟩
theorem s_X1_init (hs : s < 2) (hc : c < 16) (hM1 : M s 14 c = zr) (hM2 : M s 15 c = zr) (hR : R s 1 c = RT w s 1 c) : Can l w yX1_init cX1_init 1 none (rmc 1 2 12) [.ref (ad w s 1 c)] (M, stR R s 1 c nn, 60 * s + 14 + 3 * c + 1) (RV (M, R, 60 * s + 14 + 3 * c + 3)) := by
  refine Can.go (ls := [some (.ref (ad w s 1 c))]) ?_
  refine a_aload_n dX1_init_0 rfl ?_
  refine a_objI dX1_init_1 kw_80 kw_14 kw_15 ⟨Nat.le_of_ble_eq_true rfl, Nat.le_of_ble_eq_true rfl⟩ ?_
  refine a_aload_n dX1_init_4 rfl ?_
  refine a_bipush (v := 6) dX1_init_5 (by decide) ?_
  refine b_newi (s := s) (t := 14) (c := c) dX1_init_7 (by first | rfl | decide) (by decide) rfl (ob_14 hs hc (by omega)) (hM1) (⟨Nat.le_of_ble_eq_true rfl, Nat.le_of_ble_eq_true rfl⟩) ?_
  refine b_put1 (t := 1) (k := 0) dX1_init_9 kw_81 rfl rfl (by decide) (by decide) rfl rfl rfl rfl rfl (ob_1 hs hc rfl) (by omega) ?_
  refine a_aload_n dX1_init_12 rfl ?_
  refine a_bipush (v := 6) dX1_init_13 (by decide) ?_
  refine b_newi (s := s) (t := 15) (c := c) dX1_init_15 (by first | rfl | decide) (by decide) rfl (ob_15 hs hc (by omega)) (hM2) (⟨Nat.le_of_ble_eq_true rfl, Nat.le_of_ble_eq_true rfl⟩) ?_
  refine b_put1 (t := 1) (k := 1) dX1_init_17 kw_82 rfl rfl (by decide) (by decide) rfl rfl rfl rfl rfl (ob_1 hs hc rfl) (by omega) ?_
  refine b_fix (f' := RT w s 1 c) (by decide) (fun k hk hi => ?_) ?_
  · have hk : k < 6 := hk
    rcases (show k = 0 ∨ k = 1 ∨ k = 2 ∨ k = 3 ∨ k = 4 ∨ k = 5 by omega) with rfl | rfl | rfl | rfl | rfl | rfl <;> first | rfl | exact absurd hi (by decide)
  rw [stR_id hR]
  exact a_vret dX1_init_20 rfl rfl (Nat.le_of_ble_eq_true rfl) ⟨rfl, rfl⟩
theorem s_X0_init (hs : s < 2) (h9 : M s 9 0 = zr) (h10 : M s 10 0 = zr) (h11 : M s 11 0 = zr) (h12 : M s 12 0 = zr) (hR : R s 0 0 = RT w s 0 0) : Can l w yX0_init cX0_init 1 none (rmc 1 4 18) [.ref (ad w s 0 0)] (M, stR R s 0 0 nn, 60 * s + 10) (RV (M, R, 60 * s + 14)) := by
  refine Can.go (ls := [some (.ref (ad w s 0 0))]) ?_
  refine a_aload_n dX0_init_0 rfl ?_
  refine a_objI dX0_init_1 kw_73 kw_14 kw_15 ⟨Nat.le_of_ble_eq_true rfl, Nat.le_of_ble_eq_true rfl⟩ ?_
  refine a_aload_n dX0_init_4 rfl ?_
  refine a_bipush (v := 6) dX0_init_5 (by decide) ?_
  refine b_newi (s := s) (t := 9) (c := 0) dX0_init_7 (by first | rfl | decide) (by decide) rfl (ob_9 hs rfl) (h9) (⟨Nat.le_of_ble_eq_true rfl, Nat.le_of_ble_eq_true rfl⟩) ?_
  refine b_put1 (t := 0) (k := 0) dX0_init_9 kw_74 rfl rfl (by decide) (by decide) rfl rfl rfl rfl rfl (ob_0 hs rfl) (by omega) ?_
  refine a_aload_n dX0_init_12 rfl ?_
  refine a_iconst (v := 4) dX0_init_13 (by decide) ?_
  refine b_newi (s := s) (t := 10) (c := 0) dX0_init_14 (by first | rfl | decide) (by decide) rfl (ob_10 hs rfl) (h10) (⟨Nat.le_of_ble_eq_true rfl, Nat.le_of_ble_eq_true rfl⟩) ?_
  refine b_put1 (t := 0) (k := 2) dX0_init_16 kw_75 rfl rfl (by decide) (by decide) rfl rfl rfl rfl rfl (ob_0 hs rfl) (by omega) ?_
  refine a_aload_n dX0_init_19 rfl ?_
  refine a_iconst (v := 4) dX0_init_20 (by decide) ?_
  refine b_newi (s := s) (t := 11) (c := 0) dX0_init_21 (by first | rfl | decide) (by decide) rfl (ob_11 hs rfl) (h11) (⟨Nat.le_of_ble_eq_true rfl, Nat.le_of_ble_eq_true rfl⟩) ?_
  refine b_put1 (t := 0) (k := 3) dX0_init_23 kw_76 rfl rfl (by decide) (by decide) rfl rfl rfl rfl rfl (ob_0 hs rfl) (by omega) ?_
  refine a_aload_n dX0_init_26 rfl ?_
  refine a_iconst (v := 4) dX0_init_27 (by decide) ?_
  refine b_newi (s := s) (t := 12) (c := 0) dX0_init_28 (by first | rfl | decide) (by decide) rfl (ob_12 hs rfl) (h12) (⟨Nat.le_of_ble_eq_true rfl, Nat.le_of_ble_eq_true rfl⟩) ?_
  refine b_put1 (t := 0) (k := 4) dX0_init_30 kw_77 rfl rfl (by decide) (by decide) rfl rfl rfl rfl rfl (ob_0 hs rfl) (by omega) ?_
  refine b_fix (f' := RT w s 0 0) (by decide) (fun k hk hi => ?_) ?_
  · have hk : k < 5 := hk
    rcases (show k = 0 ∨ k = 1 ∨ k = 2 ∨ k = 3 ∨ k = 4 by omega) with rfl | rfl | rfl | rfl | rfl <;> first | rfl | exact absurd hi (by decide)
  rw [stR_id hR]
  exact a_vret dX0_init_33 rfl rfl (Nat.le_of_ble_eq_true rfl) ⟨rfl, rfl⟩
end AR
