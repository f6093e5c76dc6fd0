/-! rows that make the next object of obs -/
theorem wsx_push {w : WW} {x : XX} {s t c : Nat} (ho : obs[x.2.2]? = some (s, t, c)) : wsx w (x.1, x.2.1, x.2.2 + 1) = wsx w x ++ [(w.2.2 + x.2.2, FE w x (s, t, c))] := by
  unfold wsx
  show (obs.take (x.2.2 + 1)).map _ = _
  rw [List.take_add_one, ho, List.map_append]
  show _ ++ [(w.2.2 + offL obs (s, t, c), FE w (x.1, x.2.1, x.2.2 + 1) (s, t, c))] = _
  rw [obs_off ho]
  rfl
theorem ob_off {s t c n : Nat} (ho : obs[n]? = some (s, t, c)) : off s t c = n := obs_off ho
theorem ob_lt {n : Nat} {o : Ob} (ho : obs[n]? = some o) : n < 158 := by
  rw [← obs_len]
  exact (List.getElem?_eq_some_iff.mp ho).1
theorem ob_rl {s t c n : Nat} (ho : obs[n]? = some (s, t, c)) : rl s t c = true := List.all_eq_true.mp (by decide +kernel : obs.all (fun o => rl o.1 o.2.1 o.2.2) = true) _ (List.mem_of_getElem? ho)
theorem ob_Rl {M : Mem} {R : RMem} {s t c n m : Nat} (ho : obs[n]? = some (s, t, c)) (hm : n < m) : Rl (M, R, m) s t c := ⟨ob_rl ho, by rw [ob_off ho]; exact hm⟩
theorem def_ok : ∀ t, t < 8 → ∀ k, k < nF t → defaultValue (tyC t k) = if isR t k = true then .null else .int 0 := by
  intro t ht k hk
  rcases lt8 ht with rfl | rfl | rfl | rfl | rfl | rfl | rfl | rfl
  · have hk : k < 5 := hk
    rcases (show k = 0 ∨ k = 1 ∨ k = 2 ∨ k = 3 ∨ k = 4 by omega) with rfl | rfl | rfl | rfl | rfl <;> rfl
  · have hk : k < 6 := hk
    rcases (show k = 0 ∨ k = 1 ∨ k = 2 ∨ k = 3 ∨ k = 4 ∨ k = 5 by omega) with rfl | rfl | rfl | rfl | rfl | rfl <;> rfl
  · have hk : k < 4 := hk
    rcases (show k = 0 ∨ k = 1 ∨ k = 2 ∨ k = 3 by omega) with rfl | rfl | rfl | rfl <;> rfl
  · have hk : k < 2 := hk
    rcases (show k = 0 ∨ k = 1 by omega) with rfl | rfl <;> rfl
  · have hk : k < 4 := hk
    rcases (show k = 0 ∨ k = 1 ∨ k = 2 ∨ k = 3 by omega) with rfl | rfl | rfl | rfl <;> rfl
  · have hk : k < 9 := hk
    rcases (show k = 0 ∨ k = 1 ∨ k = 2 ∨ k = 3 ∨ k = 4 ∨ k = 5 ∨ k = 6 ∨ k = 7 ∨ k = 8 by omega) with rfl | rfl | rfl | rfl | rfl | rfl | rfl | rfl | rfl <;> rfl
  · have hk : k < 4 := hk
    rcases (show k = 0 ∨ k = 1 ∨ k = 2 ∨ k = 3 by omega) with rfl | rfl | rfl | rfl <;> rfl
  · have hk : k < 30 := hk
    rcases (show k = 0 ∨ k = 1 ∨ k = 2 ∨ k = 3 ∨ k = 4 ∨ k = 5 ∨ k = 6 ∨ k = 7 ∨ k = 8 ∨ k = 9 ∨ k = 10 ∨ k = 11 ∨ k = 12 ∨ k = 13 ∨ k = 14 ∨ k = 15 ∨ k = 16 ∨ k = 17 ∨ k = 18 ∨ k = 19 ∨ k = 20 ∨ k = 21 ∨ k = 22 ∨ k = 23 ∨ k = 24 ∨ k = 25 ∨ k = 26 ∨ k = 27 ∨ k = 28 ∨ k = 29 by omega) with rfl | rfl | rfl | rfl | rfl | rfl | rfl | rfl | rfl | rfl | rfl | rfl | rfl | rfl | rfl | rfl | rfl | rfl | rfl | rfl | rfl | rfl | rfl | rfl | rfl | rfl | rfl | rfl | rfl | rfl <;> rfl
def zr : Nat → Int32 := fun _ => 0
def nn : Nat → Option Nat := fun _ => none
theorem ws_putQ {w : WW} {x : XX} {s t c k v : Nat} (ht : ¬ t < 8) (hk : ¬ aK t < 2) (ho : Rl x s t c) : (wsx w x).set (off s t c) (ad w s t c, .inl (w.2.1 (aK t), aL t c, .inr (.inr (.inr (.inr (va_up (x.2.1 s t c) k (some v))))))) = wsx w (x.1, upR x.2.1 s t c k (some v), x.2.2) := by
  rw [← wsx_set (x' := (x.1, upR x.2.1 s t c k (some v), x.2.2)) ho rfl (FE_ne (fun _ _ _ _ => rfl) (fun s' t' c' h => upR_ne h)), FE_arq ht hk]
  show _ = (wsx w x).set _ (_, Sum.inl (_, _, Sum.inr (Sum.inr (Sum.inr (Sum.inr (upR x.2.1 s t c k (some v) s t c))))))
  rw [upR_eq]
  rfl
section AR
variable {l : Launch} {w : WW} {y : MethodName} {cc : ByteArray} {nL : Nat} {ret : Option FieldType} {rm : Room} {Φ : Option Value → XX → Prop} {pc : Nat} {ls : List (Option Value)} {st : List Value} {x : XX} {kc ks s t c : Nat}
theorem a_sz {p : Program} {e : Env} {R : Room} {s0 : State} {m : MethodId} {args : Array Value} {below : List Frame} {meth : Method} {c0 : Code} {H : Heap} {locs : List Loc} {Q : State → Prop} {g : JFrame} (P : va_P w.1 vwCl (wsx w x) H) (Z : s0.heap.size + kc = w.2.2 + x.2.2 ∧ x.2.2 ≤ 158) (B : w.2.2 ≤ s0.heap.size) (h : H.size = w.2.2 + x.2.2 → W p l e R s0 m args below meth c0 H locs kc ks Q g) : W p l e R s0 m args below meth c0 H locs kc ks Q g :=
  fun T hT X => h (size_of hT X P Z B) T hT X
set_option maxHeartbeats 200000 in
theorem a_new {index : Nat} (hdg : decode cc pc = .ok (.new index, 3)) (hcl : Cond.classLink y.cls index (CC t) ∈ TBL) (hin : Cond.instantiable (CC t) (nF t) ∈ TBL) (hini : Cond.initialized (CC t) ∈ TBL) (ht : t < 8) (ho : obs[x.2.2]? = some (s, t, c)) (hM : x.1 s t c = zr) (hR : x.2.1 s t c = nn) (hC : kc + 1 ≤ rm.cells ∧ ks + nF t ≤ rm.slots) (kk : A l w y cc nL ret rm Φ (pc + 3) ls (.ref (ad w s t c) :: st) (x.1, x.2.1, x.2.2 + 1) (kc + 1) (ks + nF t)) : A l w y cc nL ret rm Φ pc ls st x kc ks := by
  intro p e s0 m args below meth c0 H locs arr E K P Z S B L
  refine a_sz P Z B (fun hz => ?_)
  have hx := E.1
  have hb := E.2.1
  have hown := E.2.2.2.2.2.2.1
  have hts := E.2.2.2.2.2.2.2
  have hKn := K.1.1 t _ (cl_at ht)
  have had : H.size = ad w s t c := by rw [hz]; show _ = w.2.2 + off s t c; rw [ob_off ho]
  refine W.newcK hx hb hown (hts _ hcl) (hts _ hin) (hts _ hini) rfl hdg hC.1 hC.2 hKn.2.1 rfl fun H1 kC hkC e1 z1 o1 => ?_
  have hk : ∀ (k : Nat) (q : Nat × va_E), (wsx w x)[k]? = some q → H1[q.1]? = H[q.1]? := fun k q hx => o1 q.1 ((P k q hx).lt)
  have hP : va_P w.1 vwCl (wsx w (x.1, x.2.1, x.2.2 + 1)) H1 := by
    rw [wsx_push ho]
    refine (P.kept hk).app (fun k q hx => ?_)
    have hz1 : k < 1 := (List.getElem?_eq_some_iff.mp hx).1
    rw [show k = 0 by omega] at hx
    cases hx
    rw [← hz, FE_obj ht]
    refine ⟨_, cl_at ht, (u_born (tyC t) hts (cl_in ht) hKn hkC e1 (cl_ty ht)).to fun k hk => ?_⟩
    rw [def_ok t ht k hk]
    unfold vp_V
    rw [List.getD_eq_getElem?_getD, fv_at hk]
    unfold fv
    split
    · rw [hR]; rfl
    · rw [hM]; rfl
  have hS : va_S (fun q => w.2.2 ≤ q) s0.heap H1 locs := ⟨Nat.le_trans S.1 (by omega), fun q h1 h2 => (o1 q (Nat.lt_of_lt_of_le h1 S.1)).trans (S.2.1 q h1 h2), S.2.2⟩
  have h9 := kk p e s0 m args below meth c0 H1 locs arr E K hP ⟨by have := Z.1; show _ = w.2.2 + (x.2.2 + 1); omega, ob_lt ho⟩ hS B L
  rw [← had] at h9
  exact h9
set_option maxHeartbeats 200000 in
theorem a_newi {n : Int32} (hdg : decode cc pc = .ok (.newarray .int, 2)) (hn : n = nI (aL t c)) (ht : ¬ t < 8) (hk : aK t = 0) (ho : obs[x.2.2]? = some (s, t, c)) (hM : x.1 s t c = zr) (hC : kc + 1 ≤ rm.cells ∧ ks + aL t c ≤ rm.slots) (kk : A l w y cc nL ret rm Φ (pc + 2) ls (.ref (ad w s t c) :: st) (x.1, x.2.1, x.2.2 + 1) (kc + 1) (ks + aL t c)) : A l w y cc nL ret rm Φ pc ls (.int n :: st) x kc ks := by
  intro p e s0 m args below meth c0 H locs arr E K P Z S B L
  refine a_sz P Z B (fun hz => ?_)
  have hx := E.1
  have hb := E.2.1
  have hts := E.2.2.2.2.2.2.2
  have hal := aL_le t c
  have had : H.size = ad w s t c := by rw [hz]; show _ = w.2.2 + off s t c; rw [ob_off ho]
  refine va_newaK (atype := .int) (N := aL t c) hx hb (hts _ kw_50) rfl hdg rfl (by rw [hn]; exact nI_pos (by omega)) (by rw [hn]; exact nI_clamp (by omega)) (show aL t c * 4 ≤ 536870912 by omega) hC.1 hC.2 rfl fun H1 cA e1 z1 o1 hAr hNm => ?_
  have hcA : cA = w.2.1 0 := Option.some.inj (hNm.symm.trans (K.1.2 0 (w.2.1 0, .int) rfl).2)
  have hkp : ∀ (k : Nat) (q : Nat × va_E), (wsx w x)[k]? = some q → H1[q.1]? = H[q.1]? := fun k q hx => o1 q.1 ((P k q hx).lt)
  have hP : va_P w.1 vwCl (wsx w (x.1, x.2.1, x.2.2 + 1)) H1 := by
    rw [wsx_push ho]
    refine (P.kept hkp).app (fun k q hx => ?_)
    have hz1 : k < 1 := (List.getElem?_eq_some_iff.mp hx).1
    rw [show k = 0 by omega] at hx
    cases hx
    rw [← hz, FE_arr ht (by rw [hk]; decide), hM, hk]
    show H1[H.size]? = some (vp_cell _ _)
    rw [vp_cell_i, e1, hcA]
    rfl
  have hS : va_S (fun q => w.2.2 ≤ q) s0.heap H1 locs := ⟨Nat.le_trans S.1 (by omega), fun q h1 h2 => (o1 q (Nat.lt_of_lt_of_le h1 S.1)).trans (S.2.1 q h1 h2), S.2.2⟩
  have h9 := kk p e s0 m args below meth c0 H1 locs arr E K hP ⟨by have := Z.1; show _ = w.2.2 + (x.2.2 + 1); omega, ob_lt ho⟩ hS B L
  rw [← had] at h9
  exact h9
set_option maxHeartbeats 200000 in
theorem a_newz {n : Int32} (hdg : decode cc pc = .ok (.newarray .boolean, 2)) (hn : n = nI (aL t c)) (ht : ¬ t < 8) (hk : aK t = 1) (ho : obs[x.2.2]? = some (s, t, c)) (hM : x.1 s t c = zr) (hC : kc + 1 ≤ rm.cells ∧ ks + aL t c ≤ rm.slots) (kk : A l w y cc nL ret rm Φ (pc + 2) ls (.ref (ad w s t c) :: st) (x.1, x.2.1, x.2.2 + 1) (kc + 1) (ks + aL t c)) : A l w y cc nL ret rm Φ pc ls (.int n :: st) x kc ks := by
  intro p e s0 m args below meth c0 H locs arr E K P Z S B L
  refine a_sz P Z B (fun hz => ?_)
  have hx := E.1
  have hb := E.2.1
  have hts := E.2.2.2.2.2.2.2
  have hal := aL_le t c
  have had : H.size = ad w s t c := by rw [hz]; show _ = w.2.2 + off s t c; rw [ob_off ho]
  refine va_newaK (atype := .boolean) (N := aL t c) hx hb (hts _ kw_107) rfl hdg rfl (by rw [hn]; exact nI_pos (by omega)) (by rw [hn]; exact nI_clamp (by omega)) (show aL t c * 1 ≤ 536870912 by omega) hC.1 hC.2 rfl fun H1 cA e1 z1 o1 hAr hNm => ?_
  have hcA : cA = w.2.1 1 := Option.some.inj (hNm.symm.trans (K.1.2 1 (w.2.1 1, .boolean) rfl).2)
  have hkp : ∀ (k : Nat) (q : Nat × va_E), (wsx w x)[k]? = some q → H1[q.1]? = H[q.1]? := fun k q hx => o1 q.1 ((P k q hx).lt)
  have hP : va_P w.1 vwCl (wsx w (x.1, x.2.1, x.2.2 + 1)) H1 := by
    rw [wsx_push ho]
    refine (P.kept hkp).app (fun k q hx => ?_)
    have hz1 : k < 1 := (List.getElem?_eq_some_iff.mp hx).1
    rw [show k = 0 by omega] at hx
    cases hx
    rw [← hz, FE_arr ht (by rw [hk]; decide), hM, hk]
    show H1[H.size]? = some (vp_cell _ _)
    rw [vp_cell_i, e1, hcA]
    rfl
  have hS : va_S (fun q => w.2.2 ≤ q) s0.heap H1 locs := ⟨Nat.le_trans S.1 (by omega), fun q h1 h2 => (o1 q (Nat.lt_of_lt_of_le h1 S.1)).trans (S.2.1 q h1 h2), S.2.2⟩
  have h9 := kk p e s0 m args below meth c0 H1 locs arr E K hP ⟨by have := Z.1; show _ = w.2.2 + (x.2.2 + 1); omega, ob_lt ho⟩ hS B L
  rw [← had] at h9
  exact h9
set_option maxHeartbeats 200000 in
theorem a_newq {n : Int32} {index : Nat} {C : String} (hdg : decode cc pc = .ok (.anewarray index, 3)) (hcl : Cond.classLink y.cls index C ∈ TBL) (hC2 : (aK t = 2 ∧ C = "GatedTrunk$Change") ∨ (aK t = 3 ∧ C = "GatedTrunk$Event")) (hn : n = nI (aL t c)) (ht : ¬ t < 8) (ho : obs[x.2.2]? = some (s, t, c)) (hR : x.2.1 s t c = nn) (hC : kc + 1 ≤ rm.cells ∧ ks + aL t c ≤ rm.slots) (kk : A l w y cc nL ret rm Φ (pc + 3) ls (.ref (ad w s t c) :: st) (x.1, x.2.1, x.2.2 + 1) (kc + 1) (ks + aL t c)) : A l w y cc nL ret rm Φ pc ls (.int n :: st) x kc ks := by
  intro p e s0 m args below meth c0 H locs arr E K P Z S B L
  refine a_sz P Z B (fun hz => ?_)
  have hx := E.1
  have hb := E.2.1
  have hown := E.2.2.2.2.2.2.1
  have hts := E.2.2.2.2.2.2.2
  have hal := aL_le t c
  have had : H.size = ad w s t c := by rw [hz]; show _ = w.2.2 + off s t c; rw [ob_off ho]
  have hk2 : ¬ aK t < 2 := by rcases hC2 with ⟨h, -⟩ | ⟨h, -⟩ <;> omega
  have hov : va_AO C s0 := by
    rcases hC2 with ⟨-, rfl⟩ | ⟨-, rfl⟩
    · exact K.2.2.1
    · exact K.2.2.2
  have hcl2 : n.toNatClampNeg = aL t c := by rw [hn]; exact nI_clamp (by omega)
  refine W.anew hx hb hown (hts _ hcl) (va_AO.use hov) rfl hdg rfl (by rw [hn]; exact nI_pos (by omega)) (by rw [hcl2]; omega) hC.1 (by rw [hcl2]; exact hC.2) fun cA kA comp f1 f2 f3 f4 => ?_
  rw [hcl2]
  generalize hH1 : H.push ({ cls := cA, slots := Array.replicate (aL t c) .null, vm := .none } : Cell) = H1
  have z1 : H1.size = H.size + 1 := by rw [← hH1, Array.size_push]
  have e1 : H1[H.size]? = some (arrV cA (aL t c) (fun _ => .null)) := by rw [← hH1, Array.getElem?_push_size, ← arrV_new]
  have o1 : ∀ q : Nat, q < H.size → H1[q]? = H[q]? := fun q hq => by rw [← hH1, Array.getElem?_push, if_neg (Nat.ne_of_lt hq)]
  have hcA : cA = w.2.1 (aK t) := by
    rcases hC2 with ⟨h, rfl⟩ | ⟨h, rfl⟩
    · obtain ⟨kA', comp', -, -, -, g⟩ := (K.1.2 2 (w.2.1 2, .object "GatedTrunk$Change") rfl).2
      rw [h]
      exact Option.some.inj (f1.symm.trans g)
    · obtain ⟨kA', comp', -, -, -, g⟩ := (K.1.2 3 (w.2.1 3, .object "GatedTrunk$Event") rfl).2
      rw [h]
      exact Option.some.inj (f1.symm.trans g)
  have hkp : ∀ (k : Nat) (q : Nat × va_E), (wsx w x)[k]? = some q → H1[q.1]? = H[q.1]? := fun k q hx => o1 q.1 ((P k q hx).lt)
  have hP : va_P w.1 vwCl (wsx w (x.1, x.2.1, x.2.2 + 1)) H1 := by
    rw [wsx_push ho]
    refine (P.kept hkp).app (fun k q hx => ?_)
    have hz1 : k < 1 := (List.getElem?_eq_some_iff.mp hx).1
    rw [show k = 0 by omega] at hx
    cases hx
    rw [← hz, FE_arq ht hk2, hR]
    show H1[H.size]? = some (vp_cell _ _)
    rw [vp_cell_q, e1, hcA]
    rfl
  have hS : va_S (fun q => w.2.2 ≤ q) s0.heap H1 locs := ⟨Nat.le_trans S.1 (by omega), fun q h1 h2 => (o1 q (Nat.lt_of_lt_of_le h1 S.1)).trans (S.2.1 q h1 h2), S.2.2⟩
  have h9 := kk p e s0 m args below meth c0 H1 locs arr E K hP ⟨by have := Z.1; show _ = w.2.2 + (x.2.2 + 1); omega, ob_lt ho⟩ hS B L
  rw [← had] at h9
  exact h9
theorem a_aast {s' t' c' i : Nat} {j : Int32} (hdg : decode cc pc = .ok (.aastore, 1)) (hj : j = nI i) (hi : i < aL t c) (hk : (aK t = 2 ∧ t' = 1) ∨ (aK t = 3 ∧ t' = 2)) (ht : ¬ t < 8) (ho : Rl x s t c) (ho' : Rl x s' t' c') (kk : A l w y cc nL ret rm Φ (pc + 1) ls st (x.1, upR x.2.1 s t c i (some (ad w s' t' c')), x.2.2) kc ks) : A l w y cc nL ret rm Φ pc ls (.ref (ad w s' t' c') :: .int j :: .ref (ad w s t c) :: st) x kc ks := by
  intro p e s0 m args below meth c0 H locs arr E K P Z S B L
  have hx := E.1
  have hb := E.2.1
  have hal := aL_le t c
  have hk2 : ¬ aK t < 2 := by rcases hk with ⟨h, -⟩ | ⟨h, -⟩ <;> omega
  have ht' : t' < 8 := by rcases hk with ⟨-, h⟩ | ⟨-, h⟩ <;> omega
  subst hj
  have hin : vp_in (nI i) (aL t c) := vin hi (by omega)
  have hcl : (nI i).toNatClampNeg = i := nI_clamp (by omega)
  have key : (tysx w)[aK t]? = some (w.2.1 (aK t), .object (CC t')) := by
    rcases hk with ⟨h, rfl⟩ | ⟨h, rfl⟩ <;> rw [h] <;> rfl
  refine va_astq hx hb K.1 P (wsD w x) S (off s t c) (aK t) (off s' t' c') t' (by rw [wsx_at ho, FE_arq ht hk2]) key (by rw [wsx_at ho', FE_obj ht']) (cl_at ht') hin hdg (fun H1 locs1 hP hD hS => ?_)
  rw [hcl, ws_putQ ht hk2 ho] at hP
  exact kk p e s0 m args below meth c0 H1 locs1 arr E K hP Z hS B L
end AR
