def CC (t : Nat) : String := match t with
  | 0 => RX0 | 1 => RX1 | 2 => RX2 | 3 => RX4 | 4 => RX5 | 5 => RX6 | 6 => RX7 | _ => RX8
def TT (t : Nat) : u_T := match t with
  | 0 => TX0 | 1 => TX1 | 2 => TX2 | 3 => TX4 | 4 => TX5 | 5 => TX6 | 6 => TX7 | _ => TX8
def tyC (t : Nat) : Nat → FieldType := match t with
  | 0 => tyX0 | 1 => tyX1 | 2 => tyX2 | 3 => tyX4 | 4 => tyX5 | 5 => tyX6 | 6 => tyX7 | _ => tyX8
theorem lt8 {t : Nat} (h : t < 8) : t = 0 ∨ t = 1 ∨ t = 2 ∨ t = 3 ∨ t = 4 ∨ t = 5 ∨ t = 6 ∨ t = 7 := by omega
theorem cl_at {t : Nat} (h : t < 8) : vwCl[t]? = some (CC t, TT t, nF t) := by
  rcases lt8 h with rfl | rfl | rfl | rfl | rfl | rfl | rfl | rfl <;> rfl
theorem cl_in0 : ∀ q ∈ wsX00, q ∈ TBL := fun q h => List.mem_filter.mpr ⟨(by decide +kernel : ∀ q ∈ wsX00, q ∈ lw_tbl) q h, (by decide +kernel : ∀ q ∈ wsX00, goodWord q = true) q h⟩
theorem cl_in1 : ∀ q ∈ wsX10, q ∈ TBL := fun q h => List.mem_filter.mpr ⟨(by decide +kernel : ∀ q ∈ wsX10, q ∈ lw_tbl) q h, (by decide +kernel : ∀ q ∈ wsX10, goodWord q = true) q h⟩
theorem cl_in2 : ∀ q ∈ wsX20, q ∈ TBL := fun q h => List.mem_filter.mpr ⟨(by decide +kernel : ∀ q ∈ wsX20, q ∈ lw_tbl) q h, (by decide +kernel : ∀ q ∈ wsX20, goodWord q = true) q h⟩
theorem cl_in3 : ∀ q ∈ wsX40, q ∈ TBL := fun q h => List.mem_filter.mpr ⟨(by decide +kernel : ∀ q ∈ wsX40, q ∈ lw_tbl) q h, (by decide +kernel : ∀ q ∈ wsX40, goodWord q = true) q h⟩
theorem cl_in4 : ∀ q ∈ wsX50, q ∈ TBL := fun q h => List.mem_filter.mpr ⟨(by decide +kernel : ∀ q ∈ wsX50, q ∈ lw_tbl) q h, (by decide +kernel : ∀ q ∈ wsX50, goodWord q = true) q h⟩
theorem cl_in5 : ∀ q ∈ wsX60, q ∈ TBL := fun q h => List.mem_filter.mpr ⟨(by decide +kernel : ∀ q ∈ wsX60, q ∈ lw_tbl) q h, (by decide +kernel : ∀ q ∈ wsX60, goodWord q = true) q h⟩
theorem cl_in6 : ∀ q ∈ wsX70, q ∈ TBL := fun q h => List.mem_filter.mpr ⟨(by decide +kernel : ∀ q ∈ wsX70, q ∈ lw_tbl) q h, (by decide +kernel : ∀ q ∈ wsX70, goodWord q = true) q h⟩
theorem cl_in7 : ∀ q ∈ wsX80, q ∈ TBL := fun q h => List.mem_filter.mpr ⟨(by decide +kernel : ∀ q ∈ wsX80, q ∈ lw_tbl) q h, (by decide +kernel : ∀ q ∈ wsX80, goodWord q = true) q h⟩
theorem cl_in {t : Nat} (h : t < 8) : ∀ q ∈ u_ws (CC t) (TT t) (nF t), q ∈ TBL := by
  rcases lt8 h with rfl | rfl | rfl | rfl | rfl | rfl | rfl | rfl
  · exact cl_in0
  · exact cl_in1
  · exact cl_in2
  · exact cl_in3
  · exact cl_in4
  · exact cl_in5
  · exact cl_in6
  · exact cl_in7
theorem cl_ty {t : Nat} (h : t < 8) : ∀ k, k < nF t → parseFieldDescriptor (TT t k).2.2.1 = some (tyC t k) := by
  rcases lt8 h with rfl | rfl | rfl | rfl | rfl | rfl | rfl | rfl
  · exact tyX0_ok
  · exact tyX1_ok
  · exact tyX2_ok
  · exact tyX4_ok
  · exact tyX5_ok
  · exact tyX6_ok
  · exact tyX7_ok
  · exact tyX8_ok
theorem cl_nm {t : Nat} (h : t < 8) : ∀ a, a < nF t → ∀ b, b < nF t → a ≠ b → (TT t a).2.1 ≠ (TT t b).2.1 := by
  rcases lt8 h with rfl | rfl | rfl | rfl | rfl | rfl | rfl | rfl
  · exact nmX0
  · exact nmX1
  · exact nmX2
  · exact nmX4
  · exact nmX5
  · exact nmX6
  · exact nmX7
  · exact nmX8
/-- what references the objects hold once all is made -/
def RT (w : WW) : RMem := fun s t c k => match t with
  | 0 => (match k with | 0 => some (ad w s 9 0) | 2 => some (ad w s 10 0) | 3 => some (ad w s 11 0) | 4 => some (ad w s 12 0) | _ => none)
  | 1 => (match k with | 0 => some (ad w s 14 c) | 1 => some (ad w s 15 c) | _ => none)
  | 3 => (match k with | 0 => some (ad w s 13 c) | _ => none)
  | 5 => (match k with | 0 => some (ad w 2 4 0) | 1 => some (ad w s 8 0) | 3 => some (ad w s 16 0) | 5 => some (ad w s 3 0) | 6 => some (ad w s 3 1) | 7 => some (ad w s 0 0) | _ => none)
  | 6 => (match k with | 0 => some (ad w 0 5 0) | 1 => some (ad w 1 5 0) | 2 => some (ad w 2 17 0) | _ => none)
  | 7 => (match k with | 4 => some (ad w 2 18 0) | 5 => some (ad w 2 19 0) | 6 => some (ad w 2 20 0) | 7 => some (ad w 2 21 0) | 10 => some (ad w 2 22 0) | 14 => some (ad w 2 23 0) | 15 => some (ad w 2 24 0) | 16 => some (ad w 2 25 0) | 17 => some (ad w 2 26 0) | 18 => some (ad w 2 27 0) | 19 => some (ad w 2 28 0) | 21 => some (ad w 2 29 0) | 24 => some (ad w 2 30 0) | 25 => some (ad w 2 31 0) | 26 => some (ad w 2 32 0) | 27 => some (ad w 2 33 0) | 28 => some (ad w 2 34 0) | 29 => some (ad w 2 35 0) | _ => none)
  | 16 => if k < 16 then some (ad w s 1 k) else none
  | 17 => if k < 16 then some (ad w 2 2 k) else none
  | _ => none
abbrev mx (w : WW) (M : Mem) : XX := (M, RT w, 158)
/-- .. the memory of state s told apart -/
abbrev zx (w : WW) (M : Mem) (s : Nat) (σ : Sg) : XX := (up1 M s σ, RT w, 158)
theorem off_lt {s t c : Nat} (h : rl s t c = true) : off s t c < 158 := by
  rw [← obs_len]
  exact (List.getElem?_eq_some_iff.mp (offL_mem obs _ (rl_mem h))).1
theorem rlm {M : Mem} {R : RMem} {s t c : Nat} (h : rl s t c = true) : Rl (M, R, 158) s t c := ⟨h, off_lt h⟩
abbrev RI (r : Int32) (x' : XX) : Option Value → XX → Prop := fun v z => v = some (.int r) ∧ z = x'
abbrev RV (x' : XX) : Option Value → XX → Prop := fun v z => v = none ∧ z = x'
abbrev RA (a : Nat) (x' : XX) : Option Value → XX → Prop := fun v z => v = some (.ref a) ∧ z = x'
def rmd (d : Nat) : Room := { frames := d, cells := 0, slots := 0, locals := 30 * d }
theorem vin {i n : Nat} (h : i < n) (hn : n ≤ 600) : vp_in (nI i) n := fun q => by
  rcases q with q | q
  · exact nI_pos (by omega) q
  · rw [nI_clamp (by omega)] at q; omega
theorem aL_le (t c : Nat) : aL t c ≤ 600 := by
  unfold aL
  split <;> (try split) <;> omega
theorem FE_arr {w : WW} {x : XX} {s t c : Nat} (ht : ¬ t < 8) (hk : aK t < 2) : FE w x (s, t, c) = .inl (w.2.1 (aK t), aL t c, .inl (x.1 s t c)) := by
  show (if t < 8 then _ else _) = _
  rw [if_neg ht]
  show Sum.inl (_, _, if aK t < 2 then _ else _) = _
  rw [if_pos hk]
theorem FE_arq {w : WW} {x : XX} {s t c : Nat} (ht : ¬ t < 8) (hk : ¬ aK t < 2) : FE w x (s, t, c) = .inl (w.2.1 (aK t), aL t c, .inr (.inr (.inr (.inr (x.2.1 s t c))))) := by
  show (if t < 8 then _ else _) = _
  rw [if_neg ht]
  show Sum.inl (_, _, if aK t < 2 then _ else _) = _
  rw [if_neg hk]
theorem ws_putA {w : WW} {x : XX} {s t c : Nat} {f : Nat → Int32} (ht : ¬ t < 8) (hk : aK t < 2) (ho : Rl x s t c) : (wsx w x).set (off s t c) (ad w s t c, .inl (w.2.1 (aK t), aL t c, .inl f)) = wsx w (up1 x.1 s (up1 (x.1 s) t (up1 (x.1 s t) c f)), x.2) := by
  rw [← wsx_set (x' := (up1 x.1 s (up1 (x.1 s) t (up1 (x.1 s t) c f)), x.2)) ho rfl (FE_ne (fun s' t' c' h => ?_) (fun _ _ _ _ => rfl)), FE_arr ht hk]
  · show _ = (wsx w x).set _ (_, Sum.inl (_, _, Sum.inl (up1 x.1 s (up1 (x.1 s) t (up1 (x.1 s t) c f)) s t c)))
    rw [up1_same, up1_same, up1_same]
  · show up1 x.1 s (up1 (x.1 s) t (up1 (x.1 s t) c f)) s' t' c' = x.1 s' t' c'
    unfold up1
    by_cases h1 : s' = s
    · by_cases h2 : t' = t
      · by_cases h3 : c' = c
        · exact absurd (by rw [h1, h2, h3]) h
        · simp [h1, h2, h3]
      · simp [h1, h2]
    · simp [h1]
theorem ws_putI {w : WW} {x : XX} {s t c k : Nat} {v : Int32} (ht : t < 8) (hr : isR t k = false) (ho : Rl x s t c) : (wsx w x).set (off s t c) (ad w s t c, .inr (t, ((List.range (nF t)).map (fv x s t c)).set k (.int v))) = wsx w (up x.1 s t c k v, x.2) := by
  rw [← wsx_set (x' := (up x.1 s t c k v, x.2)) ho rfl (FE_ne (fun s' t' c' h => up_ne h) (fun _ _ _ _ => rfl)), FE_obj ht]
  rw [fv_set (x' := (up x.1 s t c k v, x.2))]
  · unfold fv
    rw [if_neg (by rw [hr]; exact Bool.false_ne_true)]
    show Value.int (up x.1 s t c k v s t c k) = _
    rw [up_eq, up1_same]
  · intro j hj
    unfold fv
    show (if _ then _ else Value.int (up x.1 s t c k v s t c j)) = _
    rw [up_eq, up1_ne hj]
theorem ws_putR {w : WW} {x : XX} {s t c k : Nat} {v : Nat} (ht : t < 8) (hr : isR t k = true) (ho : Rl x s t c) : (wsx w x).set (off s t c) (ad w s t c, .inr (t, ((List.range (nF t)).map (fv x s t c)).set k (.ref v))) = wsx w (x.1, upR x.2.1 s t c k (some v), x.2.2) := by
  rw [← wsx_set (x' := (x.1, upR x.2.1 s t c k (some v), x.2.2)) ho rfl (FE_ne (fun _ _ _ _ => rfl) (fun s' t' c' h => upR_ne h)), FE_obj ht]
  rw [fv_set (x' := (x.1, upR x.2.1 s t c k (some v), x.2.2))]
  · unfold fv
    rw [if_pos hr]
    show va_rf (upR x.2.1 s t c k (some v) s t c k) = _
    rw [upR_eq, up1_same]
    rfl
  · intro j hj
    unfold fv
    show (if _ then va_rf (upR x.2.1 s t c k (some v) s t c j) else _) = _
    rw [upR_eq, up1_ne hj]
theorem gin {ws : List Cond} (h : ∀ q ∈ ws, q ∈ TBL) : GoodIn TBL ws := fun q hq => ⟨h q hq, good_of_word (List.mem_filter.mp (h q hq)).2⟩
def notMH (y : MethodName) (n : Nat) : Prop := y.cls ≠ "java/lang/invoke/MethodHandle" ∧ y.cls ≠ "java/lang/invoke/VarHandle" ∧ (parseMethodDescriptor y.desc).map (fun d => d.parameters.length) = some n
/-- a method that is called on an object, a static one, a constructor: what the tables say of it -/
def KV (y : MethodName) (cc : ByteArray) (nL : Nat) (ret : Option FieldType) (n : Nat) : Prop := Cond.instanceMethod y ∈ TBL ∧ Cond.selects y.cls y y ∈ TBL ∧ Cond.initialized y.cls ∈ TBL ∧ Cond.code y cc nL ret ∈ TBL ∧ notMH y n
def KS (y : MethodName) (cc : ByteArray) (nL : Nat) (ret : Option FieldType) (n : Nat) : Prop := Cond.static y ∈ TBL ∧ Cond.initialized y.cls ∈ TBL ∧ Cond.code y cc nL ret ∈ TBL ∧ notMH y n
def KI (y : MethodName) (cc : ByteArray) (nL : Nat) (n : Nat) : Prop := y.name = "<init>" ∧ Cond.instanceMethod y ∈ TBL ∧ Cond.initialized y.cls ∈ TBL ∧ Cond.code y cc nL none ∈ TBL ∧ notMH y n
theorem tb_code {y : MethodName} {cc : ByteArray} {nL : Nat} {ret : Option FieldType} (h : Cond.code y cc nL ret ∈ TBL) : ∀ q ∈ Cond.code y cc nL ret :: TBL, q ∈ TBL := fun q hq => by
  rcases List.mem_cons.mp hq with rfl | hq
  · exact h
  · exact hq
section AR
variable {l : Launch} {w : WW} {y : MethodName} {cc : ByteArray} {nL : Nat} {ret : Option FieldType} {rm : Room} {Φ : Option Value → XX → Prop} {pc : Nat} {ls : List (Option Value)} {st : List Value} {x : XX} {kc ks : Nat} {M : Mem} {σ : Sg} {u s t c k : Nat}
theorem size_of {p : Program} {e : Env} {R : Room} {s0 : State} {m : MethodId} {args : Array Value} {below : List Frame} {meth : Method} {c0 : Code} {H : Heap} {locs : List Loc} {T : State} (hT : T.heap = H) (X : Stand p l e R s0 m args below meth c0 T locs kc ks) (P : va_P w.1 vwCl (wsx w x) H) (Z : s0.heap.size + kc = w.2.2 + x.2.2 ∧ x.2.2 ≤ 158) (B : w.2.2 ≤ s0.heap.size) : H.size = w.2.2 + x.2.2 := by
  have h1 : s0.heap.size ≤ T.heap.size := X.same.2.1
  have h2 : T.heap.size ≤ s0.heap.size + kc := X.same.2.2.1
  rw [hT] at h1 h2
  refine Nat.le_antisymm (by omega) ?_
  by_cases hn : x.2.2 = 0
  · omega
  · obtain ⟨o, ho⟩ : ∃ o, obs[x.2.2 - 1]? = some o := ⟨_, List.getElem?_eq_getElem (by rw [obs_len]; omega)⟩
    have h3 : (wsx w x)[x.2.2 - 1]? = some (w.2.2 + offL obs o, FE w x o) := by
      unfold wsx
      rw [List.getElem?_map, List.getElem?_take, if_pos (by omega), ho]
      rfl
    have h4 := (P _ _ h3).lt
    rw [obs_off ho] at h4
    omega
theorem a_getI {index : Nat} (hdg : decode cc pc = .ok (.getfield index, 3)) (hl : Cond.fieldLink y.cls index (TT t k).1 (TT t k).2.1 (TT t k).2.2.1 ∈ TBL) (ht : t < 8) (hk : k < nF t) (hr : isR t k = false) (ho : Rl x s t c) (kk : A l w y cc nL ret rm Φ (pc + 3) ls (.int (x.1 s t c k) :: st) x kc ks) : A l w y cc nL ret rm Φ pc ls (.ref (ad w s t c) :: st) x kc ks := by
  intro p e s0 m args below meth c0 H locs arr E K P Z S B L
  have hx := E.1
  have hb := E.2.1
  have hown := E.2.2.2.2.2.2.1
  have hts := E.2.2.2.2.2.2.2
  exact va_get (v := .int (x.1 s t c k)) hx hb hts (cl_in ht) hown K.1 P (off s t c) (by rw [wsx_at ho, FE_obj ht]) (cl_at ht) k hk (hts _ hl) (fun _ h => h) (by rw [fv_at hk]; unfold fv; rw [if_neg (by rw [hr]; exact Bool.false_ne_true)]) hdg (kk p e s0 m args below meth c0 H locs arr E K P Z S B L)
theorem a_getR {index a : Nat} (hdg : decode cc pc = .ok (.getfield index, 3)) (hl : Cond.fieldLink y.cls index (TT t k).1 (TT t k).2.1 (TT t k).2.2.1 ∈ TBL) (ht : t < 8) (hk : k < nF t) (hr : isR t k = true) (ho : Rl x s t c) (hv : x.2.1 s t c k = some a) (kk : A l w y cc nL ret rm Φ (pc + 3) ls (.ref a :: st) x kc ks) : A l w y cc nL ret rm Φ pc ls (.ref (ad w s t c) :: st) x kc ks := by
  intro p e s0 m args below meth c0 H locs arr E K P Z S B L
  have hx := E.1
  have hb := E.2.1
  have hown := E.2.2.2.2.2.2.1
  have hts := E.2.2.2.2.2.2.2
  exact va_get (v := .ref a) hx hb hts (cl_in ht) hown K.1 P (off s t c) (by rw [wsx_at ho, FE_obj ht]) (cl_at ht) k hk (hts _ hl) (fun _ h => h) (by rw [fv_at hk]; unfold fv; rw [if_pos hr, hv]; rfl) hdg (kk p e s0 m args below meth c0 H locs arr E K P Z S B L)
theorem a_putI {index : Nat} {v : Int32} (hdg : decode cc pc = .ok (.putfield index, 3)) (hl : Cond.fieldLink y.cls index (TT t k).1 (TT t k).2.1 (TT t k).2.2.1 ∈ TBL) (ht : t < 8) (hk : k < nF t) (hr : isR t k = false) (hf : (TT t k).2.2.2 = false) (hy : tyC t k = .int) (ho : Rl x s t c) (kk : A l w y cc nL ret rm Φ (pc + 3) ls st (up x.1 s t c k v, x.2) kc ks) : A l w y cc nL ret rm Φ pc ls (.int v :: .ref (ad w s t c) :: st) x kc ks := by
  intro p e s0 m args below meth c0 H locs arr E K P Z S B L
  have hx := E.1
  have hb := E.2.1
  have hown := E.2.2.2.2.2.2.1
  have hts := E.2.2.2.2.2.2.2
  refine va_put (v := .int v) (ty := .int) hx hb hts (cl_in ht) (tyC t) (cl_ty ht) (cl_nm ht) hown K.1 P (wsD w x) S (off s t c) (by rw [wsx_at ho, FE_obj ht]) (cl_at ht) k hk (hts _ hl) (fun _ h => h) hf (by rw [cl_ty ht k hk, hy]) rfl rfl (fv_len hk) hdg (fun H1 locs1 hP hD hS => ?_)
  rw [ws_putI ht hr ho] at hP hD
  exact kk p e s0 m args below meth c0 H1 locs1 arr E K hP Z hS B L
theorem a_putFI {index : Nat} {v : Int32} (hdg : decode cc pc = .ok (.putfield index, 3)) (hl : Cond.fieldLink y.cls index (TT t k).1 (TT t k).2.1 (TT t k).2.2.1 ∈ TBL) (hyn : y.name = "<init>") (hyd : (TT t k).1 = y.cls) (ht : t < 8) (hk : k < nF t) (hr : isR t k = false) (hf : (TT t k).2.2.2 = true) (hy : tyC t k = .int) (ho : Rl x s t c) (kk : A l w y cc nL ret rm Φ (pc + 3) ls st (up x.1 s t c k v, x.2) kc ks) : A l w y cc nL ret rm Φ pc ls (.int v :: .ref (ad w s t c) :: st) x kc ks := by
  intro p e s0 m args below meth c0 H locs arr E K P Z S B L
  have hx := E.1
  have hb := E.2.1
  have hown := E.2.2.2.2.2.2.1
  have hts := E.2.2.2.2.2.2.2
  refine va_putF (v := .int v) (ty := .int) hx hb hts (cl_in ht) (tyC t) (cl_ty ht) (cl_nm ht) hown K.1 P (wsD w x) S (off s t c) (by rw [wsx_at ho, FE_obj ht]) (cl_at ht) k hk (hts _ hl) (fun _ h => h) hf (E.2.2.2.2.2.1.trans hyn) hyd (by rw [cl_ty ht k hk, hy]) rfl rfl (fv_len hk) hdg (fun H1 locs1 hP hD hS => ?_)
  rw [ws_putI ht hr ho] at hP hD
  exact kk p e s0 m args below meth c0 H1 locs1 arr E K hP Z hS B L
theorem a_putFR {index v : Nat} {ty : FieldType} (hdg : decode cc pc = .ok (.putfield index, 3)) (hl : Cond.fieldLink y.cls index (TT t k).1 (TT t k).2.1 (TT t k).2.2.1 ∈ TBL) (hyn : y.name = "<init>") (hyd : (TT t k).1 = y.cls) (ht : t < 8) (hk : k < nF t) (hr : isR t k = true) (hf : (TT t k).2.2.2 = true) (hy : tyC t k = ty) (hn : narrow ty (.ref v) = .ref v) (hfit : fits ty (.ref v) = true) (ho : Rl x s t c) (kk : A l w y cc nL ret rm Φ (pc + 3) ls st (x.1, upR x.2.1 s t c k (some v), x.2.2) kc ks) : A l w y cc nL ret rm Φ pc ls (.ref v :: .ref (ad w s t c) :: st) x kc ks := by
  intro p e s0 m args below meth c0 H locs arr E K P Z S B L
  have hx := E.1
  have hb := E.2.1
  have hown := E.2.2.2.2.2.2.1
  have hts := E.2.2.2.2.2.2.2
  refine va_putF (v := .ref v) (ty := ty) hx hb hts (cl_in ht) (tyC t) (cl_ty ht) (cl_nm ht) hown K.1 P (wsD w x) S (off s t c) (by rw [wsx_at ho, FE_obj ht]) (cl_at ht) k hk (hts _ hl) (fun _ h => h) hf (E.2.2.2.2.2.1.trans hyn) hyd (by rw [cl_ty ht k hk, hy]) hn hfit (fv_len hk) hdg (fun H1 locs1 hP hD hS => ?_)
  rw [ws_putR ht hr ho] at hP hD
  exact kk p e s0 m args below meth c0 H1 locs1 arr E K hP Z hS B L
theorem a_iald {i : Nat} {j : Int32} (hdg : decode cc pc = .ok (.iaload, 1)) (hj : j = nI i) (hi : i < aL t c) (ht : ¬ t < 8) (hk : aK t = 0) (ho : Rl x s t c) (kk : A l w y cc nL ret rm Φ (pc + 1) ls (.int (x.1 s t c i) :: st) x kc ks) : A l w y cc nL ret rm Φ pc ls (.int j :: .ref (ad w s t c) :: st) x kc ks := by
  intro p e s0 m args below meth c0 H locs arr E K P Z S B L
  have hx := E.1
  have hb := E.2.1
  have hown := E.2.2.2.2.2.2.1
  have hts := E.2.2.2.2.2.2.2
  subst hj
  have hn := aL_le t c
  refine va_iald hx hb K.1 P (off s t c) 0 (by rw [wsx_at ho, FE_arr ht (by rw [hk]; decide)]) (by rw [hk]; rfl) (vin hi hn) hdg ?_
  rw [nI_clamp (by omega)]
  exact kk p e s0 m args below meth c0 H locs arr E K P Z S B L
theorem a_zald {i : Nat} {j : Int32} (hdg : decode cc pc = .ok (.baload, 1)) (hj : j = nI i) (hi : i < aL t c) (ht : ¬ t < 8) (hk : aK t = 1) (ho : Rl x s t c) (kk : A l w y cc nL ret rm Φ (pc + 1) ls (.int (x.1 s t c i) :: st) x kc ks) : A l w y cc nL ret rm Φ pc ls (.int j :: .ref (ad w s t c) :: st) x kc ks := by
  intro p e s0 m args below meth c0 H locs arr E K P Z S B L
  have hx := E.1
  have hb := E.2.1
  have hown := E.2.2.2.2.2.2.1
  have hts := E.2.2.2.2.2.2.2
  subst hj
  have hn := aL_le t c
  refine va_zald hx hb K.1 P (off s t c) 1 (by rw [wsx_at ho, FE_arr ht (by rw [hk]; decide)]) (by rw [hk]; rfl) (vin hi hn) hdg ?_
  rw [nI_clamp (by omega)]
  exact kk p e s0 m args below meth c0 H locs arr E K P Z S B L
theorem a_aald {i q : Nat} {j : Int32} (hdg : decode cc pc = .ok (.aaload, 1)) (hj : j = nI i) (hi : i < aL t c) (ht : ¬ t < 8) (hk : aK t = 2 ∨ aK t = 3) (ho : Rl x s t c) (hv : x.2.1 s t c i = some q) (kk : A l w y cc nL ret rm Φ (pc + 1) ls (.ref q :: st) x kc ks) : A l w y cc nL ret rm Φ pc ls (.int j :: .ref (ad w s t c) :: st) x kc ks := by
  intro p e s0 m args below meth c0 H locs arr E K P Z S B L
  have hx := E.1
  have hb := E.2.1
  have hown := E.2.2.2.2.2.2.1
  have hts := E.2.2.2.2.2.2.2
  subst hj
  have hn := aL_le t c
  rcases hk with hk | hk
  · refine va_aldq (C := "GatedTrunk$Change") hx hb K.1 P (off s t c) 2 (by rw [wsx_at ho, FE_arq ht (by rw [hk]; decide)]) (by rw [hk]; rfl) (vin hi hn) hdg ?_
    rw [nI_clamp (by omega), hv]
    exact kk p e s0 m args below meth c0 H locs arr E K P Z S B L
  · refine va_aldq (C := "GatedTrunk$Event") hx hb K.1 P (off s t c) 3 (by rw [wsx_at ho, FE_arq ht (by rw [hk]; decide)]) (by rw [hk]; rfl) (vin hi hn) hdg ?_
    rw [nI_clamp (by omega), hv]
    exact kk p e s0 m args below meth c0 H locs arr E K P Z S B L
theorem a_iast {i : Nat} {j v : Int32} (hdg : decode cc pc = .ok (.iastore, 1)) (hj : j = nI i) (hi : i < aL t c) (ht : ¬ t < 8) (hk : aK t = 0) (ho : Rl x s t c) (kk : A l w y cc nL ret rm Φ (pc + 1) ls st (up x.1 s t c i v, x.2) kc ks) : A l w y cc nL ret rm Φ pc ls (.int v :: .int j :: .ref (ad w s t c) :: st) x kc ks := by
  intro p e s0 m args below meth c0 H locs arr E K P Z S B L
  have hx := E.1
  have hb := E.2.1
  have hown := E.2.2.2.2.2.2.1
  have hts := E.2.2.2.2.2.2.2
  subst hj
  have hn := aL_le t c
  refine va_iast hx hb K.1 P (wsD w x) S (off s t c) 0 (by rw [wsx_at ho, FE_arr ht (by rw [hk]; decide)]) (by rw [hk]; rfl) (vin hi hn) hdg (fun H1 locs1 hP hD hS => ?_)
  rw [nI_clamp (by omega)] at hP
  have hP : va_P w.1 vwCl ((wsx w x).set (off s t c) (ad w s t c, .inl (w.2.1 (aK t), aL t c, .inl (up1 (x.1 s t c) i v)))) H1 := hP
  rw [ws_putA ht (by rw [hk]; decide) ho] at hP
  exact kk p e s0 m args below meth c0 H1 locs1 arr E K hP Z hS B L
theorem a_zast {i : Nat} {j v : Int32} (hdg : decode cc pc = .ok (.bastore, 1)) (hj : j = nI i) (hi : i < aL t c) (hv : vp_nar .boolean v = v) (ht : ¬ t < 8) (hk : aK t = 1) (ho : Rl x s t c) (kk : A l w y cc nL ret rm Φ (pc + 1) ls st (up x.1 s t c i v, x.2) kc ks) : A l w y cc nL ret rm Φ pc ls (.int v :: .int j :: .ref (ad w s t c) :: st) x kc ks := by
  intro p e s0 m args below meth c0 H locs arr E K P Z S B L
  have hx := E.1
  have hb := E.2.1
  have hown := E.2.2.2.2.2.2.1
  have hts := E.2.2.2.2.2.2.2
  subst hj
  have hn := aL_le t c
  refine va_zast hx hb K.1 P (wsD w x) S (off s t c) 1 (by rw [wsx_at ho, FE_arr ht (by rw [hk]; decide)]) (by rw [hk]; rfl) (vin hi hn) hdg (fun H1 locs1 hP hD hS => ?_)
  rw [nI_clamp (by omega), hv] at hP
  have hP : va_P w.1 vwCl ((wsx w x).set (off s t c) (ad w s t c, .inl (w.2.1 (aK t), aL t c, .inl (up1 (x.1 s t c) i v)))) H1 := hP
  rw [ws_putA ht (by rw [hk]; decide) ho] at hP
  exact kk p e s0 m args below meth c0 H1 locs1 arr E K hP Z hS B L
theorem a_alen {n : Int32} (hdg : decode cc pc = .ok (.arraylength, 1)) (hn : Int32.ofNat (aL t c) = n) (ht : ¬ t < 8) (hk : aK t = 0) (ho : Rl x s t c) (kk : A l w y cc nL ret rm Φ (pc + 1) ls (.int n :: st) x kc ks) : A l w y cc nL ret rm Φ pc ls (.ref (ad w s t c) :: st) x kc ks := by
  intro p e s0 m args below meth c0 H locs arr E K P Z S B L
  have hx := E.1
  have hb := E.2.1
  have hown := E.2.2.2.2.2.2.1
  have hts := E.2.2.2.2.2.2.2
  exact va_alen hx hb K.1 P (off s t c) 0 (by rw [wsx_at ho, FE_arr ht (by rw [hk]; decide)]) (ty := .int) (by rw [hk]; rfl) hn hdg (kk p e s0 m args below meth c0 H locs arr E K P Z S B L)
theorem a_min {index : Nat} {p_ q_ : Int32} (hdg : decode cc pc = .ok (.invokestatic index, 3)) (hl : Cond.methodLink y.cls index Lib.Math.min.name ∈ TBL) (h1 : Cond.static Lib.Math.min.name ∈ TBL) (h2 : Cond.initialized "java/lang/Math" ∈ TBL) (h3 : Cond.code Lib.Math.min.name Lib.Math.min.code 2 (some .int) ∈ TBL) (hR : 1 ≤ rm.frames ∧ (st.map fun v => v.category).sum + 13 ≤ rm.locals) (hC : kc ≤ rm.cells ∧ ks ≤ rm.slots) (kk : A l w y cc nL ret rm Φ (pc + 3) ls (.int (if q_ < p_ then q_ else p_) :: st) x kc ks) : A l w y cc nL ret rm Φ pc ls (.int q_ :: .int p_ :: st) x kc ks := by
  intro p e s0 m args below meth c0 H locs arr E K P Z S B L
  have hx := E.1
  have hb := E.2.1
  have hown := E.2.2.2.2.2.2.1
  have hts := E.2.2.2.2.2.2.2
  exact va_mmin hx hb (E.2.2.1.trans L.1.1.symm) hown (hts _ hl) (hts _ h1) (hts _ h2) (hts _ h3) hR.1 hR.2 hC.1 hC.2 hdg (kk p e s0 m args below meth c0 H locs arr E K P Z S B L)
theorem a_max {index : Nat} {p_ q_ : Int32} (hdg : decode cc pc = .ok (.invokestatic index, 3)) (hl : Cond.methodLink y.cls index Lib.Math.max.name ∈ TBL) (h1 : Cond.static Lib.Math.max.name ∈ TBL) (h2 : Cond.initialized "java/lang/Math" ∈ TBL) (h3 : Cond.code Lib.Math.max.name Lib.Math.max.code 2 (some .int) ∈ TBL) (hR : 1 ≤ rm.frames ∧ (st.map fun v => v.category).sum + 13 ≤ rm.locals) (hC : kc ≤ rm.cells ∧ ks ≤ rm.slots) (kk : A l w y cc nL ret rm Φ (pc + 3) ls (.int (if p_ < q_ then q_ else p_) :: st) x kc ks) : A l w y cc nL ret rm Φ pc ls (.int q_ :: .int p_ :: st) x kc ks := by
  intro p e s0 m args below meth c0 H locs arr E K P Z S B L
  have hx := E.1
  have hb := E.2.1
  have hown := E.2.2.2.2.2.2.1
  have hts := E.2.2.2.2.2.2.2
  exact va_mmax hx hb (E.2.2.1.trans L.1.1.symm) hown (hts _ hl) (hts _ h1) (hts _ h2) (hts _ h3) hR.1 hR.2 hC.1 hC.2 hdg (kk p e s0 m args below meth c0 H locs arr E K P Z S B L)
theorem a_copy {index n u' t' c' : Nat} {j : Int32} (hdg : decode cc pc = .ok (.invokestatic index, 3)) (hl : Cond.methodLink y.cls index arraycopyName ∈ TBL) (h1 : Cond.native arraycopyName ∈ TBL) (h2 : Cond.static arraycopyName ∈ TBL) (h3 : Cond.initialized "java/lang/System" ∈ TBL) (hj : j = nI n) (hn0 : n ≤ aL t c) (hn1 : n ≤ aL t' c') (ht : ¬ t < 8) (hk : aK t = 0) (ho : Rl x s t c) (ht' : ¬ t' < 8) (hk' : aK t' = 0) (ho' : Rl x u' t' c') (hR : 1 ≤ rm.frames ∧ (st.map fun v => v.category).sum + 18 ≤ rm.locals)
    (kk : A l w y cc nL ret rm Φ (pc + 3) ls st (up1 x.1 u' (up1 (x.1 u') t' (up1 (x.1 u' t') c' (fun i => if i < n then x.1 s t c i else x.1 u' t' c' i))), x.2) kc ks) : A l w y cc nL ret rm Φ pc ls (.int j :: .int 0 :: .ref (ad w u' t' c') :: .int 0 :: .ref (ad w s t c) :: st) x kc ks := by
  intro p e s0 m args below meth c0 H locs arr E K P Z S B L
  have hx := E.1
  have hb := E.2.1
  have hown := E.2.2.2.2.2.2.1
  have hts := E.2.2.2.2.2.2.2
  subst hj
  have hb0 := aL_le t c
  have hc0 : (nI n).toNatClampNeg = n := nI_clamp (by omega)
  have hz0 : (0 : Int32).toNatClampNeg = 0 := by decide
  refine va_copyi (sp := 0) (dp := 0) (ty := .int) hx hb (E.2.2.1.trans L.1.1.symm) hown (hts _ hl) (hts _ h1) (hts _ h2) (hts _ h3) K.1 P (wsD w x) S (off s t c) (off u' t' c') 0 0 (by rw [wsx_at ho, FE_arr ht (by rw [hk]; decide)]) (by rw [wsx_at ho', FE_arr ht' (by rw [hk']; decide)]) (by rw [hk]; rfl) (by rw [hk']; rfl) rfl (by decide) (by decide) (nI_pos (by omega)) (by rw [hz0, hc0]; omega) (by rw [hz0, hc0]; omega) (fun i hi => rfl) hR.1 (by show _ + 18 ≤ _; exact hR.2) hdg (fun H1 locs1 hP hD hS => ?_)
  rw [hz0, hc0] at hP
  have he : va_cpy (x.1 s t c) (x.1 u' t' c') 0 0 n = fun i => if i < n then x.1 s t c i else x.1 u' t' c' i := by
    funext i
    unfold va_cpy
    simp
  rw [he] at hP
  rw [ws_putA ht' (by rw [hk']; decide) ho'] at hP
  exact kk p e s0 m args below meth c0 H1 locs1 arr E K hP Z hS B L
theorem a_objI {idx a : Nat} (hdg : decode cc pc = .ok (.invokespecial idx, 3)) (hl : Cond.methodLink y.cls idx Lib.objectInit ∈ TBL) (h1 : Cond.instanceMethod Lib.objectInit ∈ TBL) (h2 : Cond.code Lib.objectInit ⟨#[0xb1]⟩ 1 none ∈ TBL) (hR : 1 ≤ rm.frames ∧ (st.map fun v => v.category).sum + 12 ≤ rm.locals) (kk : A l w y cc nL ret rm Φ (pc + 3) ls st x kc ks) : A l w y cc nL ret rm Φ pc ls (.ref a :: st) x kc ks := by
  intro p e s0 m args below meth c0 H locs arr E K P Z S B L
  have hx := E.1
  have hb := E.2.1
  have hown := E.2.2.2.2.2.2.1
  have hts := E.2.2.2.2.2.2.2
  exact W.objInit hx hb hown (hts _ hl) (hts _ h1) (hts _ h2) rfl (L.1.1.trans E.2.2.1.symm) rfl hdg hR.1 (by show 2 * 0 + _ + 12 ≤ _; omega) (kk p e s0 m args below meth c0 H locs arr E K P Z S B L)
theorem Px_blind {vs : List Value} : FrameBlind (Px w vs x) := fun a U g mk q => ⟨q.1, q.2.1, q.2.2.1, Kx.same (s := U) rfl q.2.2.2⟩
/-- behind a call -/
theorem a_back {p : Program} {e : Env} {s0 : State} {m : MethodId} {args a : Array Value} {below : List Frame} {meth : Method} {c0 : Code} {H : Heap} {locs : List Loc} {arr : Array Slot} {mc ms : Nat} {st0 rest : List Value} {Ψ : Option Value → XX → Prop} (E : Ev p s0 m args meth c0 y cc nL ret) (K : Kx w s0) (Z : s0.heap.size + kc = w.2.2 + x.2.2 ∧ x.2.2 ≤ 158) (S : va_S (fun q => w.2.2 ≤ q) s0.heap H locs) (B : w.2.2 ≤ s0.heap.size) (L : Lh arr nL ls) (hz : H.size = w.2.2 + x.2.2)
    (hr : va_Run p l e rm s0 m args below meth c0 H locs kc ks mc ms (F0 m pc arr st0) rest (Qx w mc Ψ a) (fun q => w.2.2 ≤ q)) (kk : ∀ v z, Ψ v z → A l w y cc nL ret rm Φ (pc + 3) ls (v.toList ++ rest) z (kc + mc) (ks + ms)) : W p l e rm s0 m args below meth c0 H locs kc ks (MQ below (Qx w rm.cells Φ) args s0 rm.cells rm.slots (fun q => w.2.2 ≤ q)) (F0 m pc arr st0) := by
  intro T hT X
  obtain ⟨v, st₀, t, T', L', h0, X', hL, e1, e2, ⟨v', z, q1, q2, q3, q4, q5⟩, st⟩ := hr T hT X
  cases q1
  rw [h0] at q3
  have hf : H.size ≤ T'.heap.size := by rw [e1, ← h0]; exact q5.1
  have S' : va_S (fun q => w.2.2 ≤ q) s0.heap T'.heap (locs ++ L') := ⟨Nat.le_trans S.1 hf, fun q h1 h2 => by rw [e1, q5.2 q (by rw [h0]; exact Nat.lt_of_lt_of_le h1 S.1) h2, h0]; exact S.2.1 q h1 h2, fun q hq => by
    rcases List.mem_append.mp hq with h | h
    · exact S.2.2 q h
    · exact hL q h⟩
  obtain ⟨t2, a1, b1⟩ := kk _ z q2 p e s0 m args below meth c0 T'.heap (locs ++ L') arr E K (by rw [e1]; exact q4) ⟨by have := q3.1; have := Z.1; omega, q3.2⟩ S' B L T' rfl X'
  exact ⟨t2, st t2 a1, b1⟩
theorem a_callV {y' : MethodName} {cc' : ByteArray} {nL' : Nat} {ret' : Option FieldType} {rm' : Room} {Ψ : Option Value → XX → Prop} {idx n : Nat} (As : List Value) (hdg : decode cc pc = .ok (.invokevirtual idx, 3)) (hl : Cond.methodLink y.cls idx y' ∈ TBL) (hK : KV y' cc' nL' ret' n) (ho : Rl x s t c) (ht : t < 8) (hcl : CC t = y'.cls) (hn : As.length = n) (hR : rm'.frames + 1 ≤ rm.frames ∧ 8 + (nL' + 11) + rm'.locals ≤ rm.locals) (hC : kc + rm'.cells ≤ rm.cells ∧ ks + rm'.slots ≤ rm.slots) (hW : (st.map fun v => v.category).sum ≤ 8) (hM : Can l w y' cc' nL' ret' rm' (.ref (ad w s t c) :: As) x Ψ) (kk : ∀ v z, Ψ v z → A l w y cc nL ret rm Φ (pc + 3) ls (v.toList ++ st) z (kc + rm'.cells) (ks + rm'.slots)) : A l w y cc nL ret rm Φ pc ls (As.reverse ++ .ref (ad w s t c) :: st) x kc ks := by
  intro p e s0 m args below meth c0 H locs arr E K P Z S B L T hT X
  have hz := size_of hT X P Z B
  have hown := E.2.2.2.2.2.2.1
  have hts := E.2.2.2.2.2.2.2
  obtain ⟨k1, k2, k3, k4, k5⟩ := hK
  have hp : PreV s0 H y'.cls (ad w s t c) (Px w (.ref (ad w s t c) :: As) x) As := ⟨Px_blind, by
    have := va_recv K.1 P (cl_at ht) (q0 := off s t c) (a := ad w s t c) (by rw [wsx_at ho, FE_obj ht])
    rw [← hcl]; exact this, fun U hU hW => ⟨rfl, ⟨by rw [hU]; exact hz, Z.2⟩, by rw [hU]; exact P, K.moved hW⟩⟩
  have hr := va_runV (e := e) (H := H) (locs := locs) (cells := kc) (slots := ks) (below := below) (meth := meth) ⟨E.1, E.2.1, E.2.2.1, hown, hts⟩ hM (cwV n hts (gin (fun q hq => by
    rcases List.mem_append.mp hq with h | h
    · simp only [List.mem_cons, List.not_mem_nil, or_false] at h
      rcases h with rfl | rfl | rfl | rfl
      · exact hl
      · exact k1
      · exact k2
      · exact k3
    · exact tb_code k4 q h)) rfl rfl rfl ⟨rfl, k5.1, k5.2.1, k5.2.2⟩ hR) hp (g := F0 m pc arr (As.reverse ++ .ref (ad w s t c) :: st)) rfl hn L.1.1 rfl (lv_room hW) hdg hC
  exact a_back E K Z S B L hz hr kk T hT X
theorem a_callS {y' : MethodName} {cc' : ByteArray} {nL' : Nat} {ret' : Option FieldType} {rm' : Room} {Ψ : Option Value → XX → Prop} {idx n : Nat} (As : List Value) (hdg : decode cc pc = .ok (.invokestatic idx, 3)) (hl : Cond.methodLink y.cls idx y' ∈ TBL) (hK : KS y' cc' nL' ret' n) (hn : As.length = n) (hR : rm'.frames + 1 ≤ rm.frames ∧ 8 + (nL' + 11) + rm'.locals ≤ rm.locals) (hC : kc + rm'.cells ≤ rm.cells ∧ ks + rm'.slots ≤ rm.slots) (hW : (st.map fun v => v.category).sum ≤ 8) (hM : Can l w y' cc' nL' ret' rm' As x Ψ) (kk : ∀ v z, Ψ v z → A l w y cc nL ret rm Φ (pc + 3) ls (v.toList ++ st) z (kc + rm'.cells) (ks + rm'.slots)) : A l w y cc nL ret rm Φ pc ls (As.reverse ++ st) x kc ks := by
  intro p e s0 m args below meth c0 H locs arr E K P Z S B L T hT X
  have hz := size_of hT X P Z B
  have hown := E.2.2.2.2.2.2.1
  have hts := E.2.2.2.2.2.2.2
  obtain ⟨k1, k3, k4, k5⟩ := hK
  have hp : PreS s0 H (Px w As x) As := ⟨Px_blind, fun U hU hW => ⟨rfl, ⟨by rw [hU]; exact hz, Z.2⟩, by rw [hU]; exact P, K.moved hW⟩⟩
  have hr := va_runS (e := e) (H := H) (locs := locs) (cells := kc) (slots := ks) (below := below) (meth := meth) ⟨E.1, E.2.1, E.2.2.1, hown, hts⟩ hM (va_cwS n hts (gin (fun q hq => by
    rcases List.mem_append.mp hq with h | h
    · simp only [List.mem_cons, List.not_mem_nil, or_false] at h
      rcases h with rfl | rfl | rfl
      · exact hl
      · exact k1
      · exact k3
    · exact tb_code k4 q h)) rfl rfl rfl k5 hR) hp (g := F0 m pc arr (As.reverse ++ st)) rfl hn L.1.1 rfl (lv_room hW) hdg hC
  exact a_back E K Z S B L hz hr kk T hT X
theorem a_callSN {y' : MethodName} {cc' : ByteArray} {nL' : Nat} {ret' : Option FieldType} {rm' : Room} {Ψ : Option Value → XX → Prop} {idx n : Nat} {host : String} (As : List Value) (hdg : decode cc pc = .ok (.invokestatic idx, 3)) (hl : Cond.methodLinkNest y.cls idx y' host ∈ NEST) (hK : KS y' cc' nL' ret' n) (hn : As.length = n) (hR : rm'.frames + 1 ≤ rm.frames ∧ 8 + (nL' + 11) + rm'.locals ≤ rm.locals) (hC : kc + rm'.cells ≤ rm.cells ∧ ks + rm'.slots ≤ rm.slots) (hW : (st.map fun v => v.category).sum ≤ 8) (hM : Can l w y' cc' nL' ret' rm' As x Ψ) (kk : ∀ v z, Ψ v z → A l w y cc nL ret rm Φ (pc + 3) ls (v.toList ++ st) z (kc + rm'.cells) (ks + rm'.slots)) : A l w y cc nL ret rm Φ pc ls (As.reverse ++ st) x kc ks := by
  intro p e s0 m args below meth c0 H locs arr E K P Z S B L T hT X
  have hz := size_of hT X P Z B
  have hown := E.2.2.2.2.2.2.1
  have hts := E.2.2.2.2.2.2.2
  obtain ⟨k1, k3, k4, k5⟩ := hK
  have hp : PreS s0 H (Px w As x) As := ⟨Px_blind, fun U hU hW => ⟨rfl, ⟨by rw [hU]; exact hz, Z.2⟩, by rw [hU]; exact P, K.moved hW⟩⟩
  have hr := va_runSN (e := e) (H := H) (locs := locs) (cells := kc) (slots := ks) (below := below) (meth := meth) ⟨E.1, E.2.1, E.2.2.1, hown, hts⟩ hM ⟨va_cnB n hts (gin (tb_code k4)) rfl rfl rfl (K.2.1 _ hl) (hts _ k3) k5 hR, hts _ k1, trivial⟩ hp (g := F0 m pc arr (As.reverse ++ st)) rfl hn L.1.1 rfl (lv_room hW) hdg hC
  exact a_back E K Z S B L hz hr kk T hT X
theorem a_callI {y' : MethodName} {cc' : ByteArray} {nL' a : Nat} {rm' : Room} {Ψ : Option Value → XX → Prop} {idx n : Nat} (As : List Value) (hdg : decode cc pc = .ok (.invokespecial idx, 3)) (hl : Cond.methodLink y.cls idx y' ∈ TBL) (hK : KI y' cc' nL' n) (hn : As.length = n) (hR : rm'.frames + 1 ≤ rm.frames ∧ 8 + (nL' + 11) + rm'.locals ≤ rm.locals) (hC : kc + rm'.cells ≤ rm.cells ∧ ks + rm'.slots ≤ rm.slots) (hW : (st.map fun v => v.category).sum ≤ 8) (hM : Can l w y' cc' nL' none rm' (.ref a :: As) x Ψ) (kk : ∀ v z, Ψ v z → A l w y cc nL ret rm Φ (pc + 3) ls (v.toList ++ st) z (kc + rm'.cells) (ks + rm'.slots)) : A l w y cc nL ret rm Φ pc ls (As.reverse ++ .ref a :: st) x kc ks := by
  intro p e s0 m args below meth c0 H locs arr E K P Z S B L T hT X
  have hz := size_of hT X P Z B
  have hown := E.2.2.2.2.2.2.1
  have hts := E.2.2.2.2.2.2.2
  obtain ⟨k0, k1, k3, k4, k5⟩ := hK
  have hp : PreS s0 H (Px w (.ref a :: As) x) (.ref a :: As) := ⟨Px_blind, fun U hU hW => ⟨rfl, ⟨by rw [hU]; exact hz, Z.2⟩, by rw [hU]; exact P, K.moved hW⟩⟩
  have hr := va_runI (e := e) (H := H) (locs := locs) (cells := kc) (slots := ks) (below := below) (meth := meth) ⟨E.1, E.2.1, E.2.2.1, hown, hts⟩ hM (cwI n hts (gin (tb_code k4)) rfl rfl rfl (hts _ k3) (hts _ hl) (hts _ k1) k0 k5 hR) hp (g := F0 m pc arr (As.reverse ++ .ref a :: st)) rfl hn L.1.1 rfl (lv_room hW) hdg hC
  exact a_back E K Z S B L hz hr kk T hT X
theorem a_callIN {y' : MethodName} {cc' : ByteArray} {nL' a : Nat} {rm' : Room} {Ψ : Option Value → XX → Prop} {idx n : Nat} {host : String} (As : List Value) (hdg : decode cc pc = .ok (.invokespecial idx, 3)) (hl : Cond.methodLinkNest y.cls idx y' host ∈ NEST) (hK : KI y' cc' nL' n) (hn : As.length = n) (hR : rm'.frames + 1 ≤ rm.frames ∧ 8 + (nL' + 11) + rm'.locals ≤ rm.locals) (hC : kc + rm'.cells ≤ rm.cells ∧ ks + rm'.slots ≤ rm.slots) (hW : (st.map fun v => v.category).sum ≤ 8) (hM : Can l w y' cc' nL' none rm' (.ref a :: As) x Ψ) (kk : ∀ v z, Ψ v z → A l w y cc nL ret rm Φ (pc + 3) ls (v.toList ++ st) z (kc + rm'.cells) (ks + rm'.slots)) : A l w y cc nL ret rm Φ pc ls (As.reverse ++ .ref a :: st) x kc ks := by
  intro p e s0 m args below meth c0 H locs arr E K P Z S B L T hT X
  have hz := size_of hT X P Z B
  have hown := E.2.2.2.2.2.2.1
  have hts := E.2.2.2.2.2.2.2
  obtain ⟨k0, k1, k3, k4, k5⟩ := hK
  have hp : PreS s0 H (Px w (.ref a :: As) x) (.ref a :: As) := ⟨Px_blind, fun U hU hW => ⟨rfl, ⟨by rw [hU]; exact hz, Z.2⟩, by rw [hU]; exact P, K.moved hW⟩⟩
  have hr := va_runIN (e := e) (H := H) (locs := locs) (cells := kc) (slots := ks) (below := below) (meth := meth) ⟨E.1, E.2.1, E.2.2.1, hown, hts⟩ hM ⟨va_cnB n hts (gin (tb_code k4)) rfl rfl rfl (K.2.1 _ hl) (hts _ k3) k5 hR, k0, hts _ k1⟩ hp (g := F0 m pc arr (As.reverse ++ .ref a :: st)) rfl hn L.1.1 rfl (lv_room hW) hdg hC
  exact a_back E K Z S B L hz hr kk T hT X
/-- what no object holds may be said as one likes -/
theorem a_junk {x' : XX} (h : ∀ o ∈ obs, FE w x' o = FE w x o) (hn : x'.2.2 = x.2.2) (kk : A l w y cc nL ret rm Φ pc ls st x' kc ks) : A l w y cc nL ret rm Φ pc ls st x kc ks := by
  intro p e s0 m args below meth c0 H locs arr E K P Z S B L
  have hx := E.1
  have hb := E.2.1
  have hown := E.2.2.2.2.2.2.1
  have hts := E.2.2.2.2.2.2.2
  have he : wsx w x' = wsx w x := by
    unfold wsx
    rw [hn]
    exact List.map_congr_left fun o ho => by rw [h o (List.mem_of_mem_take ho)]
  exact kk p e s0 m args below meth c0 H locs arr E K (by rw [he]; exact P) (by rw [hn]; exact Z) S B L
end AR
