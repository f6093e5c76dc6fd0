/-! the judgement AG: A, but with a script of ints standing by and any end TZ (for the law and its cell) -/
def EvG (w : WW) (b0 L0 : Nat) (xs0 : Nat → Int32) (p : Program) (s : State) (m : MethodId) (args : Array Value) (meth : Method) (c : Code) (y : MethodName) (cc : ByteArray) (nL : Nat) (ret : Option FieldType) : Prop :=
  p.tables.exec = Jvm.exec ∧ c.code = cc ∧ c.maxLocals = nL ∧ meth.sig.returnType = ret ∧ meth.locks = false ∧ (va_X b0 L0 xs0 s s.heap ∧ b0 < w.2.2 ∧ L0 ≤ 260) ∧ s.vm.findClass y.cls = some m.cls ∧ ∀ q ∈ TBL, q.before args s = true
abbrev TT0 : Type := List Frame → Array Value → State → State → Prop
def AG (l : Launch) (w : WW) (b0 L0 : Nat) (xs0 : Nat → Int32) (y : MethodName) (cc : ByteArray) (nL : Nat) (ret : Option FieldType) (rm : Room) (TZ : TT0) (pc : Nat) (ls : List (Option Value)) (st : List Value) (x : XX) (kc ks : Nat) : Prop :=
  ∀ (p : Program) (e : Env) (s : State) (m : MethodId) (args : Array Value) (below : List Frame) (meth : Method) (c : Code) (H : Heap) (locs : List Loc) (arr : Array Slot), EvG w b0 L0 xs0 p s m args meth c y cc nL ret → Kx w s → va_P w.1 vwCl (wsx w x) H → (s.heap.size + kc = w.2.2 + x.2.2 ∧ x.2.2 ≤ 158) → va_S (fun q => w.2.2 ≤ q) s.heap H locs → w.2.2 ≤ s.heap.size → Lh arr nL ls →
    W p l e rm s m args below meth c H locs kc ks (TZ below args s) (F0 m pc arr st)
def TQ (w : WW) (rm : Room) (Φ : Option Value → XX → Prop) : TT0 := fun below args s => MQ below (Qx w rm.cells Φ) args s rm.cells rm.slots (fun q => w.2.2 ≤ q)
section AR
variable {l : Launch} {w : WW} {b0 L0 : Nat} {xs0 : Nat → Int32} {y : MethodName} {cc : ByteArray} {nL : Nat} {ret : Option FieldType} {rm : Room} {TZ : TT0} {Φ : Option Value → XX → Prop} {pc : Nat} {ls : List (Option Value)} {st : List Value} {x : XX} {M : Mem} {R : RMem} {n kc ks s t c : Nat}
theorem g_iconst {n : Int} {v : Int32} (hdg : decode cc pc = .ok (.iconst n, 1)) (hv : Int32.ofInt n = v) (kk : AG l w b0 L0 xs0 y cc nL ret rm TZ (pc + 1) ls (.int v :: st) x kc ks) : AG l w b0 L0 xs0 y cc nL ret rm TZ pc ls (st) x kc ks := by
  intro p e s m args below meth c H locs arr E K P Z S B L
  have hx := E.1
  have hb := E.2.1
  exact lv_iconst hx hb hdg hv (kk p e s m args below meth c H locs arr E K P Z S B L)
theorem g_bipush {n : Int} {v : Int32} (hdg : decode cc pc = .ok (.bipush n, 2)) (hv : (Int8.ofInt n).toInt32 = v) (kk : AG l w b0 L0 xs0 y cc nL ret rm TZ (pc + 2) ls (.int v :: st) x kc ks) : AG l w b0 L0 xs0 y cc nL ret rm TZ pc ls (st) x kc ks := by
  intro p e s m args below meth c H locs arr E K P Z S B L
  have hx := E.1
  have hb := E.2.1
  exact lv_bipush hx hb hdg hv (kk p e s m args below meth c H locs arr E K P Z S B L)
theorem g_iload_n {k : Fin 4} {v : Int32} (hdg : decode cc pc = .ok (.iload_n k, 1)) (hi : ls[(k : Nat)]? = some (some (.int v))) (kk : AG l w b0 L0 xs0 y cc nL ret rm TZ (pc + 1) ls (.int v :: st) x kc ks) : AG l w b0 L0 xs0 y cc nL ret rm TZ pc ls (st) x kc ks := by
  intro p e s m args below meth c H locs arr E K P Z S B L
  have hx := E.1
  have hb := E.2.1
  exact lv_iload_n hx hb hdg rfl (L.at hi) (kk p e s m args below meth c H locs arr E K P Z S B L)
theorem g_aload_n {k : Fin 4} {v : Nat} (hdg : decode cc pc = .ok (.aload_n k, 1)) (hi : ls[(k : Nat)]? = some (some (.ref v))) (kk : AG l w b0 L0 xs0 y cc nL ret rm TZ (pc + 1) ls (.ref v :: st) x kc ks) : AG l w b0 L0 xs0 y cc nL ret rm TZ pc ls (st) x kc ks := by
  intro p e s m args below meth c H locs arr E K P Z S B L
  have hx := E.1
  have hb := E.2.1
  exact lv_aload_n hx hb hdg rfl (L.at hi) (kk p e s m args below meth c H locs arr E K P Z S B L)
theorem g_istore_n {k : Fin 4} {v : Int32} {ls2 : List (Option Value)} (hdg : decode cc pc = .ok (.istore_n k, 1)) (hn : (k : Nat) < nL) (hs : ls.set (k : Nat) (some (.int v)) = ls2) (kk : AG l w b0 L0 xs0 y cc nL ret rm TZ (pc + 1) ls2 st x kc ks) : AG l w b0 L0 xs0 y cc nL ret rm TZ pc ls (.int v :: st) x kc ks := by
  intro p e s m args below meth c H locs arr E K P Z S B L
  have hx := E.1
  have hb := E.2.1
  subst hs
  exact lv_istore_n hx hb hdg rfl L.1 hn rfl (fun arr2 h2 => kk p e s m args below meth c H locs arr2 E K P Z S B (L.put rfl h2))
theorem g_istore_3 {a0 a1 a2 : Option Value} {b : Option Value} {t : List (Option Value)} {v : Int32} (hdg : decode cc pc = .ok (.istore_n 3, 1)) (hn : 3 < nL) (kk : AG l w b0 L0 xs0 y cc nL ret rm TZ (pc + 1) (a0 :: a1 :: a2 :: some (.int v) :: t) st x kc ks) : AG l w b0 L0 xs0 y cc nL ret rm TZ pc (a0 :: a1 :: a2 :: b :: t) (.int v :: st) x kc ks := g_istore_n hdg hn rfl kk
theorem g_astore_n {k : Fin 4} {v : Nat} {ls2 : List (Option Value)} (hdg : decode cc pc = .ok (.astore_n k, 1)) (hn : (k : Nat) < nL) (hs : ls.set (k : Nat) (some (.ref v)) = ls2) (kk : AG l w b0 L0 xs0 y cc nL ret rm TZ (pc + 1) ls2 st x kc ks) : AG l w b0 L0 xs0 y cc nL ret rm TZ pc ls (.ref v :: st) x kc ks := by
  intro p e s m args below meth c H locs arr E K P Z S B L
  have hx := E.1
  have hb := E.2.1
  subst hs
  exact lv_astore_n hx hb hdg rfl L.1 hn rfl (fun arr2 h2 => kk p e s m args below meth c H locs arr2 E K P Z S B (L.put rfl h2))
theorem g_astore_1 {a0 : Option Value} {b : Option Value} {t : List (Option Value)} {v : Nat} (hdg : decode cc pc = .ok (.astore_n 1, 1)) (hn : 1 < nL) (kk : AG l w b0 L0 xs0 y cc nL ret rm TZ (pc + 1) (a0 :: some (.ref v) :: t) st x kc ks) : AG l w b0 L0 xs0 y cc nL ret rm TZ pc (a0 :: b :: t) (.ref v :: st) x kc ks := g_astore_n hdg hn rfl kk
theorem g_astore_2 {a0 a1 : Option Value} {b : Option Value} {t : List (Option Value)} {v : Nat} (hdg : decode cc pc = .ok (.astore_n 2, 1)) (hn : 2 < nL) (kk : AG l w b0 L0 xs0 y cc nL ret rm TZ (pc + 1) (a0 :: a1 :: some (.ref v) :: t) st x kc ks) : AG l w b0 L0 xs0 y cc nL ret rm TZ pc (a0 :: a1 :: b :: t) (.ref v :: st) x kc ks := g_astore_n hdg hn rfl kk
theorem g_iinc {i : Nat} {n : Int} {v u : Int32} {ls2 : List (Option Value)} (hdg : decode cc pc = .ok (.iinc i n, 3)) (hi : ls[i]? = some (some (.int v))) (hv : v + Int32.ofInt n = u) (hn : i < nL) (hs : ls.set i (some (.int u)) = ls2) (kk : AG l w b0 L0 xs0 y cc nL ret rm TZ (pc + 3) ls2 st x kc ks) : AG l w b0 L0 xs0 y cc nL ret rm TZ pc ls st x kc ks := by
  intro p e s m args below meth c H locs arr E K P Z S B L
  have hx := E.1
  have hb := E.2.1
  subst hs
  have h1 := lz_mem ls 0 i _ hi
  rw [Nat.zero_add] at h1
  obtain ⟨k, hk⟩ := List.getElem?_of_mem h1
  exact lv_iinc hx hb hdg L.1 hk hv hn rfl (fun arr2 h2 => kk p e s m args below meth c H locs arr2 E K P Z S B (L.put rfl h2))
theorem g_iinc_3 {a0 a1 a2 : Option Value} {n : Int} {v u : Int32} {t : List (Option Value)} (hdg : decode cc pc = .ok (.iinc 3 n, 3)) (hv : v + Int32.ofInt n = u) (hn : 3 < nL) (kk : AG l w b0 L0 xs0 y cc nL ret rm TZ (pc + 3) (a0 :: a1 :: a2 :: some (.int u) :: t) st x kc ks) : AG l w b0 L0 xs0 y cc nL ret rm TZ pc (a0 :: a1 :: a2 :: some (.int v) :: t) st x kc ks := g_iinc hdg rfl hv hn rfl kk
theorem g_iadd {p_ q_ : Int32} (hdg : decode cc pc = .ok (.iadd, 1)) (kk : AG l w b0 L0 xs0 y cc nL ret rm TZ (pc + 1) ls (.int (p_ + q_) :: st) x kc ks) : AG l w b0 L0 xs0 y cc nL ret rm TZ pc ls (.int q_ :: .int p_ :: st) x kc ks := by
  intro p e s m args below meth c H locs arr E K P Z S B L
  have hx := E.1
  have hb := E.2.1
  exact lv_iadd hx hb hdg (kk p e s m args below meth c H locs arr E K P Z S B L)
theorem g_isub {p_ q_ : Int32} (hdg : decode cc pc = .ok (.isub, 1)) (kk : AG l w b0 L0 xs0 y cc nL ret rm TZ (pc + 1) ls (.int (p_ - q_) :: st) x kc ks) : AG l w b0 L0 xs0 y cc nL ret rm TZ pc ls (.int q_ :: .int p_ :: st) x kc ks := by
  intro p e s m args below meth c H locs arr E K P Z S B L
  have hx := E.1
  have hb := E.2.1
  exact lv_isub hx hb hdg (kk p e s m args below meth c H locs arr E K P Z S B L)
theorem g_iand {p_ q_ : Int32} (hdg : decode cc pc = .ok (.iand, 1)) (kk : AG l w b0 L0 xs0 y cc nL ret rm TZ (pc + 1) ls (.int (p_ &&& q_) :: st) x kc ks) : AG l w b0 L0 xs0 y cc nL ret rm TZ pc ls (.int q_ :: .int p_ :: st) x kc ks := by
  intro p e s m args below meth c H locs arr E K P Z S B L
  have hx := E.1
  have hb := E.2.1
  exact lv_iand hx hb hdg (kk p e s m args below meth c H locs arr E K P Z S B L)
theorem g_dup {v : Value} (hdg : decode cc pc = .ok (.dup, 1)) (hc : v.category = 1) (kk : AG l w b0 L0 xs0 y cc nL ret rm TZ (pc + 1) ls (v :: v :: st) x kc ks) : AG l w b0 L0 xs0 y cc nL ret rm TZ pc ls (v :: st) x kc ks := by
  intro p e s m args below meth c H locs arr E K P Z S B L
  have hx := E.1
  have hb := E.2.1
  exact lv_dup hx hb hdg hc (kk p e s m args below meth c H locs arr E K P Z S B L)
theorem g_icmp_gt {p_ q_ : Int32} {d_ : Int} {tgt : Nat} (hdg : decode cc pc = .ok (.if_icmp .gt d_, 3)) (ht : (pc : Int) + d_ = (tgt : Int)) (kt : q_ < p_ → AG l w b0 L0 xs0 y cc nL ret rm TZ tgt ls st x kc ks) (kf : ¬ q_ < p_ → AG l w b0 L0 xs0 y cc nL ret rm TZ (pc + 3) ls st x kc ks) : AG l w b0 L0 xs0 y cc nL ret rm TZ pc ls (.int q_ :: .int p_ :: st) x kc ks := by
  intro p e s m args below meth c H locs arr E K P Z S B L
  have hx := E.1
  have hb := E.2.1
  exact lv_icmp_gt hx hb hdg ht (fun h => kt h p e s m args below meth c H locs arr E K P Z S B L) (fun h => kf h p e s m args below meth c H locs arr E K P Z S B L)
theorem g_icmp_eq {p_ q_ : Int32} {d_ : Int} {tgt : Nat} (hdg : decode cc pc = .ok (.if_icmp .eq d_, 3)) (ht : (pc : Int) + d_ = (tgt : Int)) (kt : p_ = q_ → AG l w b0 L0 xs0 y cc nL ret rm TZ tgt ls st x kc ks) (kf : ¬ p_ = q_ → AG l w b0 L0 xs0 y cc nL ret rm TZ (pc + 3) ls st x kc ks) : AG l w b0 L0 xs0 y cc nL ret rm TZ pc ls (.int q_ :: .int p_ :: st) x kc ks := by
  intro p e s m args below meth c H locs arr E K P Z S B L
  have hx := E.1
  have hb := E.2.1
  exact lv_icmp_eq hx hb hdg ht (fun h => kt h p e s m args below meth c H locs arr E K P Z S B L) (fun h => kf h p e s m args below meth c H locs arr E K P Z S B L)
theorem g_icmp_ge {p_ q_ : Int32} {d_ : Int} {tgt : Nat} (hdg : decode cc pc = .ok (.if_icmp .ge d_, 3)) (ht : (pc : Int) + d_ = (tgt : Int)) (kt : q_ ≤ p_ → AG l w b0 L0 xs0 y cc nL ret rm TZ tgt ls st x kc ks) (kf : ¬ q_ ≤ p_ → AG l w b0 L0 xs0 y cc nL ret rm TZ (pc + 3) ls st x kc ks) : AG l w b0 L0 xs0 y cc nL ret rm TZ pc ls (.int q_ :: .int p_ :: st) x kc ks := by
  intro p e s m args below meth c H locs arr E K P Z S B L
  have hx := E.1
  have hb := E.2.1
  exact lv_icmp_ge hx hb hdg ht (fun h => kt h p e s m args below meth c H locs arr E K P Z S B L) (fun h => kf h p e s m args below meth c H locs arr E K P Z S B L)
theorem g_if_eq {p_ : Int32} {d_ : Int} {tgt : Nat} (hdg : decode cc pc = .ok (.ifCond .eq d_, 3)) (ht : (pc : Int) + d_ = (tgt : Int)) (kt : p_ = 0 → AG l w b0 L0 xs0 y cc nL ret rm TZ tgt ls st x kc ks) (kf : ¬ p_ = 0 → AG l w b0 L0 xs0 y cc nL ret rm TZ (pc + 3) ls st x kc ks) : AG l w b0 L0 xs0 y cc nL ret rm TZ pc ls (.int p_ :: st) x kc ks := by
  intro p e s m args below meth c H locs arr E K P Z S B L
  have hx := E.1
  have hb := E.2.1
  exact lv_if_eq hx hb hdg ht (fun h => kt h p e s m args below meth c H locs arr E K P Z S B L) (fun h => kf h p e s m args below meth c H locs arr E K P Z S B L)
theorem g_goto {d_ : Int} {tgt : Nat} (hdg : decode cc pc = .ok (.goto d_, 3)) (ht : (pc : Int) + d_ = (tgt : Int)) (kk : AG l w b0 L0 xs0 y cc nL ret rm TZ tgt ls st x kc ks) : AG l w b0 L0 xs0 y cc nL ret rm TZ pc ls st x kc ks := by
  intro p e s m args below meth c H locs arr E K P Z S B L
  have hx := E.1
  have hb := E.2.1
  exact lv_goto hx hb hdg ht (kk p e s m args below meth c H locs arr E K P Z S B L)
theorem g_tabIn {dflt lo hi d_ : Int} {offs : Array Int} {len : Nat} {p_ : Int32} {tgt : Nat} (hdg : decode cc pc = .ok (.tableswitch dflt lo hi offs, len)) (h1 : ¬ p_.toInt < lo) (h2 : ¬ hi < p_.toInt) (ho : offs[(p_.toInt - lo).toNat]? = some d_) (ht : (pc : Int) + d_ = (tgt : Int)) (kk : AG l w b0 L0 xs0 y cc nL ret rm TZ tgt ls st x kc ks) : AG l w b0 L0 xs0 y cc nL ret rm TZ pc ls (.int p_ :: st) x kc ks := by
  intro p e s m args below meth c H locs arr E K P Z S B L
  have hx := E.1
  have hb := E.2.1
  exact lv_tableIn hx hb hdg h1 h2 ho ht (kk p e s m args below meth c H locs arr E K P Z S B L)
theorem g_tabOut {dflt lo hi : Int} {offs : Array Int} {len : Nat} {p_ : Int32} {tgt : Nat} (hdg : decode cc pc = .ok (.tableswitch dflt lo hi offs, len)) (h : p_.toInt < lo ∨ hi < p_.toInt) (ht : (pc : Int) + dflt = (tgt : Int)) (kk : AG l w b0 L0 xs0 y cc nL ret rm TZ tgt ls st x kc ks) : AG l w b0 L0 xs0 y cc nL ret rm TZ pc ls (.int p_ :: st) x kc ks := by
  intro p e s m args below meth c H locs arr E K P Z S B L
  have hx := E.1
  have hb := E.2.1
  exact lv_tableOut hx hb hdg h ht (kk p e s m args below meth c H locs arr E K P Z S B L)
theorem g_iret {v : Int32} (hdg : decode cc pc = .ok (.ireturn, 1)) (hr : ret = some .int) (hk : kc = rm.cells) (hs : ks ≤ rm.slots) (h : Φ (some (.int v)) x) : AG l w b0 L0 xs0 y cc nL ret rm (TQ w rm Φ) pc ls [.int v] x kc ks := by
  intro p e s m args below meth c H locs arr E K P Z S B L
  have hx := E.1
  have hb := E.2.1
  refine W.widen (Nat.le_of_eq hk) hs ?_
  exact W.iret (v := v) hx hb (E.2.2.2.1.trans hr) (fun t ht hW => ⟨_, x, rfl, h, by rw [← hk]; exact Z, by rw [ht]; exact P, S.F ht⟩) S.2.2 hdg E.2.2.2.2.1
theorem g_back {p : Program} {e : Env} {s0 : State} {m : MethodId} {args a : Array Value} {below : List Frame} {meth : Method} {c0 : Code} {H : Heap} {locs : List Loc} {arr : Array Slot} {mc ms : Nat} {st0 rest : List Value} {Ψ : Option Value → XX → Prop} (E : EvG w b0 L0 xs0 p s0 m args meth c0 y cc nL ret) (K : Kx w s0) (Z : s0.heap.size + kc = w.2.2 + x.2.2 ∧ x.2.2 ≤ 158) (S : va_S (fun q => w.2.2 ≤ q) s0.heap H locs) (B : w.2.2 ≤ s0.heap.size) (L : Lh arr nL ls) (hz : H.size = w.2.2 + x.2.2)
    (hr : va_Run p l e rm s0 m args below meth c0 H locs kc ks mc ms (F0 m pc arr st0) rest (Qx w mc Ψ a) (fun q => w.2.2 ≤ q)) (kk : ∀ v z, Ψ v z → AG l w b0 L0 xs0 y cc nL ret rm TZ (pc + 3) ls (v.toList ++ rest) z (kc + mc) (ks + ms)) : W p l e rm s0 m args below meth c0 H locs kc ks (TZ below args s0) (F0 m pc arr st0) := by
  intro T hT X
  obtain ⟨v, st₀, t, T', L', h0, X', hL, e1, e2, ⟨v', z, q1, q2, q3, q4, q5⟩, st⟩ := hr T hT X
  cases q1
  rw [h0] at q3
  have hf : H.size ≤ T'.heap.size := by rw [e1, ← h0]; exact q5.1
  have S' : va_S (fun q => w.2.2 ≤ q) s0.heap T'.heap (locs ++ L') := ⟨Nat.le_trans S.1 hf, fun q h1 h2 => by rw [e1, q5.2 q (by rw [h0]; exact Nat.lt_of_lt_of_le h1 S.1) h2, h0]; exact S.2.1 q h1 h2, fun q hq => by
    rcases List.mem_append.mp hq with h | h
    · exact S.2.2 q h
    · exact hL q h⟩
  obtain ⟨t2, a1, b1⟩ := kk _ z q2 p e s0 m args below meth c0 T'.heap (locs ++ L') arr E K (by rw [e1]; exact q4) ⟨by have := q3.1; have := Z.1; omega, q3.2⟩ S' B L T' rfl X'
  exact ⟨t2, st t2 a1, b1⟩
theorem g_callV {y' : MethodName} {cc' : ByteArray} {nL' : Nat} {ret' : Option FieldType} {rm' : Room} {Ψ : Option Value → XX → Prop} {idx n : Nat} (As : List Value) (hdg : decode cc pc = .ok (.invokevirtual idx, 3)) (hl : Cond.methodLink y.cls idx y' ∈ TBL) (hK : KV y' cc' nL' ret' n) (ho : Rl x s t c) (ht : t < 8) (hcl : CC t = y'.cls) (hn : As.length = n) (hR : rm'.frames + 1 ≤ rm.frames ∧ 8 + (nL' + 11) + rm'.locals ≤ rm.locals) (hC : kc + rm'.cells ≤ rm.cells ∧ ks + rm'.slots ≤ rm.slots) (hW : (st.map fun v => v.category).sum ≤ 8) (hM : Can l w y' cc' nL' ret' rm' (.ref (ad w s t c) :: As) x Ψ) (kk : ∀ v z, Ψ v z → AG l w b0 L0 xs0 y cc nL ret rm TZ (pc + 3) ls (v.toList ++ st) z (kc + rm'.cells) (ks + rm'.slots)) : AG l w b0 L0 xs0 y cc nL ret rm TZ pc ls (As.reverse ++ .ref (ad w s t c) :: st) x kc ks := by
  intro p e s0 m args below meth c0 H locs arr E K P Z S B L T hT X
  have hz := size_of hT X P Z B
  have hown := E.2.2.2.2.2.2.1
  have hts := E.2.2.2.2.2.2.2
  obtain ⟨k1, k2, k3, k4, k5⟩ := hK
  have hp : PreV s0 H y'.cls (ad w s t c) (Px w (.ref (ad w s t c) :: As) x) As := ⟨Px_blind, by
    have := va_recv K.1 P (cl_at ht) (q0 := off s t c) (a := ad w s t c) (by rw [wsx_at ho, FE_obj ht])
    rw [← hcl]; exact this, fun U hU hW => ⟨rfl, ⟨by rw [hU]; exact hz, Z.2⟩, by rw [hU]; exact P, K.moved hW⟩⟩
  have hr := va_runV (e := e) (H := H) (locs := locs) (cells := kc) (slots := ks) (below := below) (meth := meth) ⟨E.1, E.2.1, E.2.2.1, hown, hts⟩ hM (cwV n hts (gin (fun q hq => by
    rcases List.mem_append.mp hq with h | h
    · simp only [List.mem_cons, List.not_mem_nil, or_false] at h
      rcases h with rfl | rfl | rfl | rfl
      · exact hl
      · exact k1
      · exact k2
      · exact k3
    · exact tb_code k4 q h)) rfl rfl rfl ⟨rfl, k5.1, k5.2.1, k5.2.2⟩ hR) hp (g := F0 m pc arr (As.reverse ++ .ref (ad w s t c) :: st)) rfl hn L.1.1 rfl (lv_room hW) hdg hC
  exact g_back E K Z S B L hz hr kk T hT X
theorem g_callS {y' : MethodName} {cc' : ByteArray} {nL' : Nat} {ret' : Option FieldType} {rm' : Room} {Ψ : Option Value → XX → Prop} {idx n : Nat} (As : List Value) (hdg : decode cc pc = .ok (.invokestatic idx, 3)) (hl : Cond.methodLink y.cls idx y' ∈ TBL) (hK : KS y' cc' nL' ret' n) (hn : As.length = n) (hR : rm'.frames + 1 ≤ rm.frames ∧ 8 + (nL' + 11) + rm'.locals ≤ rm.locals) (hC : kc + rm'.cells ≤ rm.cells ∧ ks + rm'.slots ≤ rm.slots) (hW : (st.map fun v => v.category).sum ≤ 8) (hM : Can l w y' cc' nL' ret' rm' As x Ψ) (kk : ∀ v z, Ψ v z → AG l w b0 L0 xs0 y cc nL ret rm TZ (pc + 3) ls (v.toList ++ st) z (kc + rm'.cells) (ks + rm'.slots)) : AG l w b0 L0 xs0 y cc nL ret rm TZ pc ls (As.reverse ++ st) x kc ks := by
  intro p e s0 m args below meth c0 H locs arr E K P Z S B L T hT X
  have hz := size_of hT X P Z B
  have hown := E.2.2.2.2.2.2.1
  have hts := E.2.2.2.2.2.2.2
  obtain ⟨k1, k3, k4, k5⟩ := hK
  have hp : PreS s0 H (Px w As x) As := ⟨Px_blind, fun U hU hW => ⟨rfl, ⟨by rw [hU]; exact hz, Z.2⟩, by rw [hU]; exact P, K.moved hW⟩⟩
  have hr := va_runS (e := e) (H := H) (locs := locs) (cells := kc) (slots := ks) (below := below) (meth := meth) ⟨E.1, E.2.1, E.2.2.1, hown, hts⟩ hM (va_cwS n hts (gin (fun q hq => by
    rcases List.mem_append.mp hq with h | h
    · simp only [List.mem_cons, List.not_mem_nil, or_false] at h
      rcases h with rfl | rfl | rfl
      · exact hl
      · exact k1
      · exact k3
    · exact tb_code k4 q h)) rfl rfl rfl k5 hR) hp (g := F0 m pc arr (As.reverse ++ st)) rfl hn L.1.1 rfl (lv_room hW) hdg hC
  exact g_back E K Z S B L hz hr kk T hT X
theorem g_callI {y' : MethodName} {cc' : ByteArray} {nL' a : Nat} {rm' : Room} {Ψ : Option Value → XX → Prop} {idx n : Nat} (As : List Value) (hdg : decode cc pc = .ok (.invokespecial idx, 3)) (hl : Cond.methodLink y.cls idx y' ∈ TBL) (hK : KI y' cc' nL' n) (hn : As.length = n) (hR : rm'.frames + 1 ≤ rm.frames ∧ 8 + (nL' + 11) + rm'.locals ≤ rm.locals) (hC : kc + rm'.cells ≤ rm.cells ∧ ks + rm'.slots ≤ rm.slots) (hW : (st.map fun v => v.category).sum ≤ 8) (hM : Can l w y' cc' nL' none rm' (.ref a :: As) x Ψ) (kk : ∀ v z, Ψ v z → AG l w b0 L0 xs0 y cc nL ret rm TZ (pc + 3) ls (v.toList ++ st) z (kc + rm'.cells) (ks + rm'.slots)) : AG l w b0 L0 xs0 y cc nL ret rm TZ pc ls (As.reverse ++ .ref a :: st) x kc ks := by
  intro p e s0 m args below meth c0 H locs arr E K P Z S B L T hT X
  have hz := size_of hT X P Z B
  have hown := E.2.2.2.2.2.2.1
  have hts := E.2.2.2.2.2.2.2
  obtain ⟨k0, k1, k3, k4, k5⟩ := hK
  have hp : PreS s0 H (Px w (.ref a :: As) x) (.ref a :: As) := ⟨Px_blind, fun U hU hW => ⟨rfl, ⟨by rw [hU]; exact hz, Z.2⟩, by rw [hU]; exact P, K.moved hW⟩⟩
  have hr := va_runI (e := e) (H := H) (locs := locs) (cells := kc) (slots := ks) (below := below) (meth := meth) ⟨E.1, E.2.1, E.2.2.1, hown, hts⟩ hM (cwI n hts (gin (tb_code k4)) rfl rfl rfl (hts _ k3) (hts _ hl) (hts _ k1) k0 k5 hR) hp (g := F0 m pc arr (As.reverse ++ .ref a :: st)) rfl hn L.1.1 rfl (lv_room hW) hdg hC
  exact g_back E K Z S B L hz hr kk T hT X
theorem g_new {index : Nat} (hdg : decode cc pc = .ok (.new index, 3)) (hcl : Cond.classLink y.cls index (CC t) ∈ TBL) (hin : Cond.instantiable (CC t) (nF t) ∈ TBL) (hini : Cond.initialized (CC t) ∈ TBL) (ht : t < 8) (ho : obs[x.2.2]? = some (s, t, c)) (hM : x.1 s t c = zr) (hR : x.2.1 s t c = nn) (hC : kc + 1 ≤ rm.cells ∧ ks + nF t ≤ rm.slots) (kk : AG l w b0 L0 xs0 y cc nL ret rm TZ (pc + 3) ls (.ref (ad w s t c) :: st) (x.1, x.2.1, x.2.2 + 1) (kc + 1) (ks + nF t)) : AG l w b0 L0 xs0 y cc nL ret rm TZ pc ls st x kc ks := by
  intro p e s0 m args below meth c0 H locs arr E K P Z S B L
  refine a_sz P Z B (fun hz => ?_)
  have hx := E.1
  have hb := E.2.1
  have hown := E.2.2.2.2.2.2.1
  have hts := E.2.2.2.2.2.2.2
  have hKn := K.1.1 t _ (cl_at ht)
  have had : H.size = ad w s t c := by rw [hz]; show _ = w.2.2 + off s t c; rw [ob_off ho]
  refine W.newcK hx hb hown (hts _ hcl) (hts _ hin) (hts _ hini) rfl hdg hC.1 hC.2 hKn.2.1 rfl fun H1 kC hkC e1 z1 o1 => ?_
  have hk : ∀ (k : Nat) (q : Nat × va_E), (wsx w x)[k]? = some q → H1[q.1]? = H[q.1]? := fun k q hx => o1 q.1 ((P k q hx).lt)
  have hP : va_P w.1 vwCl (wsx w (x.1, x.2.1, x.2.2 + 1)) H1 := by
    rw [wsx_push ho]
    refine (P.kept hk).app (fun k q hx => ?_)
    have hz1 : k < 1 := (List.getElem?_eq_some_iff.mp hx).1
    rw [show k = 0 by omega] at hx
    cases hx
    rw [← hz, FE_obj ht]
    refine ⟨_, cl_at ht, (u_born (tyC t) hts (cl_in ht) hKn hkC e1 (cl_ty ht)).to fun k hk => ?_⟩
    rw [def_ok t ht k hk]
    unfold vp_V
    rw [List.getD_eq_getElem?_getD, fv_at hk]
    unfold fv
    split
    · rw [hR]; rfl
    · rw [hM]; rfl
  have hS : va_S (fun q => w.2.2 ≤ q) s0.heap H1 locs := ⟨Nat.le_trans S.1 (by omega), fun q h1 h2 => (o1 q (Nat.lt_of_lt_of_le h1 S.1)).trans (S.2.1 q h1 h2), S.2.2⟩
  have h9 := kk p e s0 m args below meth c0 H1 locs arr E K hP ⟨by have := Z.1; show _ = w.2.2 + (x.2.2 + 1); omega, ob_lt ho⟩ hS B L
  rw [← had] at h9
  exact h9
theorem g_eq {x x' : XX} {kc ks : Nat} {rm : Room} (h : x = x') (kk : AG l w b0 L0 xs0 y cc nL ret rm TZ pc ls st x' kc ks) : AG l w b0 L0 xs0 y cc nL ret rm TZ pc ls st x kc ks := by
  rw [h]; exact kk
theorem g_ws {x x' : XX} (h : wsx w x' = wsx w x) (hn : x'.2.2 = x.2.2) (kk : AG l w b0 L0 xs0 y cc nL ret rm TZ pc ls st x' kc ks) : AG l w b0 L0 xs0 y cc nL ret rm TZ pc ls st x kc ks := by
  intro p e s0 m args below meth c0 H locs arr E K P Z S B L
  exact kk p e s0 m args below meth c0 H locs arr E K (by rw [h]; exact P) (by rw [hn]; exact Z) S B L
theorem g_kk {kc' ks' : Nat} (h1 : kc = kc') (h2 : ks = ks') {x : XX} (kk : AG l w b0 L0 xs0 y cc nL ret rm TZ pc ls st x kc' ks') : AG l w b0 L0 xs0 y cc nL ret rm TZ pc ls st x kc ks := by
  rw [h1, h2]; exact kk
theorem g_bnew {index : Nat} (hdg : decode cc pc = .ok (.new index, 3)) (hcl : Cond.classLink y.cls index (CC t) ∈ TBL) (hin : Cond.instantiable (CC t) (nF t) ∈ TBL) (hini : Cond.initialized (CC t) ∈ TBL) (ht : t < 8) (ho : obs[n]? = some (s, t, c)) (hM : M s t c = zr) (hC : kc + 1 ≤ rm.cells ∧ ks + nF t ≤ rm.slots) (kk : AG l w b0 L0 xs0 y cc nL ret rm TZ (pc + 3) ls (.ref (ad w s t c) :: st) (M, stR R s t c nn, n + 1) (kc + 1) (ks + nF t)) : AG l w b0 L0 xs0 y cc nL ret rm TZ pc ls st (M, R, n) kc ks :=
  g_ws (x' := (M, stR R s t c nn, n)) (wsx_new ho) rfl (g_new hdg hcl hin hini ht ho hM (stR_eq _ _ _ _ _) hC kk)
theorem g_sld {i : Nat} {j : Int32} (hdg : decode cc pc = .ok (.iaload, 1)) (hj : j = nI i) (hi : i < L0) (kk : AG l w b0 L0 xs0 y cc nL ret rm TZ (pc + 1) ls (.int (xs0 i) :: st) x kc ks) : AG l w b0 L0 xs0 y cc nL ret rm TZ pc ls (.int j :: .ref b0 :: st) x kc ks := by
  intro p e s0 m args below meth c0 H locs arr E K P Z S B L
  have hL := E.2.2.2.2.2.1.2.2
  subst hj
  refine va_sld E.1 E.2.1 E.2.2.2.2.2.1.1 (Nat.lt_of_lt_of_le E.2.2.2.2.2.1.2.1 B) (Nat.not_le.mpr E.2.2.2.2.2.1.2.1) S (vin hi (by omega)) hdg ?_
  rw [nI_clamp (by omega)]
  exact kk p e s0 m args below meth c0 H locs arr E K P Z S B L
theorem g_slen (hdg : decode cc pc = .ok (.arraylength, 1)) (kk : L0 ≤ 260 → AG l w b0 L0 xs0 y cc nL ret rm TZ (pc + 1) ls (.int (nI L0) :: st) x kc ks) : AG l w b0 L0 xs0 y cc nL ret rm TZ pc ls (.ref b0 :: st) x kc ks := by
  intro p e s0 m args below meth c0 H locs arr E K P Z S B L
  exact va_slen E.1 E.2.1 E.2.2.2.2.2.1.1 (Nat.lt_of_lt_of_le E.2.2.2.2.2.1.2.1 B) (Nat.not_le.mpr E.2.2.2.2.2.1.2.1) S hdg (kk E.2.2.2.2.2.1.2.2 p e s0 m args below meth c0 H locs arr E K P Z S B L)
end AR
/-- the law's cell: the script's k-th int, or 0 behind its end -/
def PxG (w : WW) (b0 L0 : Nat) (xs0 : Nat → Int32) (vs : List Value) (x : XX) : Array Value → State → Prop := va_Pc vs (fun U => (va_X b0 L0 xs0 U U.heap ∧ b0 < w.2.2 ∧ L0 ≤ 260) ∧ (U.heap.size = w.2.2 + x.2.2 ∧ x.2.2 ≤ 158) ∧ va_P w.1 vwCl (wsx w x) U.heap ∧ Kx w U)
def CanG (l : Launch) (w : WW) (b0 L0 : Nat) (xs0 : Nat → Int32) (y : MethodName) (cc : ByteArray) (nL : Nat) (ret : Option FieldType) (rm : Room) (vs : List Value) (x : XX) (Φ : Option Value → XX → Prop) : Prop :=
  Met l y (Cond.code y cc nL ret :: TBL) rm (PxG w b0 L0 xs0 vs x) (Qx w rm.cells Φ) rm.cells rm.slots (fun q => w.2.2 ≤ q)
theorem CanG.of {l : Launch} {w : WW} {b0 L0 : Nat} {xs0 : Nat → Int32} {y : MethodName} {cc : ByteArray} {nL : Nat} {ret : Option FieldType} {rm : Room} {vs : List Value} {x : XX} {Φ : Option Value → XX → Prop} (hy : plainName y.cls = true) (hc : ∀ v ∈ vs, v.category = 1) (hn : vs.length ≤ nL) (body : AG l w b0 L0 xs0 y cc nL ret rm (TQ w rm Φ) 0 (loc0 vs nL) [] x 0 0) : CanG l w b0 L0 xs0 y cc nL ret rm vs x Φ := by
  refine Met.ofW (cc := cc) (maxL := nL) (ret := ret) hy rfl ?_
  intro p e s m args below meth c s₁ B hml hv
  obtain ⟨rfl, hX, hsz, hP, hK⟩ := hv
  have hts := atoms_spec (ws := Cond.code y cc nL ret :: TBL) B.pre
  have hE : EvG w b0 L0 xs0 p s m vs.toArray meth c y cc nL ret := ⟨B.exec, B.bytes, hml, B.returns, B.notSynchronized, hX, findClass_of_methodNamed B.named, fun q hq => hts q (List.mem_cons_of_mem _ hq)⟩
  rw [entry_eq m vs hc nL]
  exact body p e s m vs.toArray below meth c s.heap [] _ hE hK hP hsz va_S.rf (by rw [hsz.1]; exact Nat.le_add_right _ _) (Lh_entry hc hn)
theorem PxG_blind {w : WW} {b0 L0 : Nat} {xs0 : Nat → Int32} {vs : List Value} {x : XX} : FrameBlind (PxG w b0 L0 xs0 vs x) := fun a U g mk q => ⟨q.1, ⟨va_X.moved (u := U) (U := U.calling g mk a) (Vm.Alike.refl U.vm) q.2.1.1, q.2.1.2⟩, q.2.2.1, q.2.2.2.1, Kx.same (s := U) rfl q.2.2.2.2⟩
def cellV (L0 : Nat) (xs0 : Nat → Int32) (k : Nat) : Int32 := if k < L0 then xs0 k else 0
theorem s_cell {l : Launch} {w : WW} {b0 L0 k : Nat} {xs0 : Nat → Int32} {x : XX} (hk : k < 4) : CanG l w b0 L0 xs0 yL_cell cL_cell 2 (some .int) (rmd 1) [.ref b0, .int (nI k)] x (RI (cellV L0 xs0 k) x) := by
  refine CanG.of (by decide +kernel) (fun v hv => by simp at hv; rcases hv with rfl | rfl <;> rfl) (Nat.le_of_ble_eq_true rfl) ?_
  show AG l w b0 L0 xs0 yL_cell cL_cell 2 (some .int) (rmd 1) (TQ w (rmd 1) (RI (cellV L0 xs0 k) x)) 0 [some (.ref b0), some (.int (nI k))] [] x 0 0
  refine g_iload_n dL_cell_0 rfl ?_
  refine g_aload_n dL_cell_1 rfl ?_
  refine g_slen dL_cell_2 (fun hL => ?_)
  refine g_icmp_ge (tgt := 12) dL_cell_3 (by decide) (fun h => ?_) (fun h => ?_)
  · have hge : ¬ k < L0 := fun q => absurd h (nI_ge (b := L0) q (by omega))
    refine g_iconst (v := 0) dL_cell_12 (by decide) ?_
    refine g_iret dL_cell_13 rfl rfl (Nat.le_refl 0) ⟨?_, rfl⟩
    unfold cellV
    rw [if_neg hge]
  · have hlt : k < L0 := Nat.not_le.mp fun q => h (nI_le q (by omega))
    refine g_aload_n dL_cell_6 rfl ?_
    refine g_iload_n dL_cell_7 rfl ?_
    refine g_sld dL_cell_8 rfl hlt ?_
    refine g_goto (tgt := 13) dL_cell_9 (by decide) ?_
    refine g_iret dL_cell_13 rfl rfl (Nat.le_refl 0) ⟨?_, rfl⟩
    unfold cellV
    rw [if_pos hlt]
section AR
variable {l : Launch} {w : WW} {b0 L0 : Nat} {xs0 : Nat → Int32} {y : MethodName} {cc : ByteArray} {nL : Nat} {ret : Option FieldType} {rm : Room} {TZ : TT0} {pc : Nat} {ls : List (Option Value)} {st : List Value} {x : XX} {kc ks : Nat}
theorem g_cell {idx k : Nat} {j : Int32} (hdg : decode cc pc = .ok (.invokestatic idx, 3)) (hl : Cond.methodLink y.cls idx yL_cell ∈ TBL) (hj : j = nI k) (hk : k < 4) (hR : 2 ≤ rm.frames ∧ 51 ≤ rm.locals) (hC : kc ≤ rm.cells ∧ ks ≤ rm.slots) (hW : (st.map fun v => v.category).sum ≤ 8) (kk : AG l w b0 L0 xs0 y cc nL ret rm TZ (pc + 3) ls (.int (cellV L0 xs0 k) :: st) x kc ks) : AG l w b0 L0 xs0 y cc nL ret rm TZ pc ls (.int j :: .ref b0 :: st) x kc ks := by
  subst hj
  intro p e s0 m args below meth c0 H locs arr E K P Z S B L T hT X
  have hz := size_of hT X P Z B
  have hown := E.2.2.2.2.2.2.1
  have hts := E.2.2.2.2.2.2.2
  obtain ⟨k1, k3, k4, k5⟩ := (ks_L_cell : KS yL_cell cL_cell 2 (some .int) 2)
  have hX : ∀ U : State, U.heap = H → s0.WarmedH U.vm → va_X b0 L0 xs0 U U.heap := fun U hU hW => by
    rw [hU]
    exact (E.2.2.2.2.2.1.1.moved hW.alike).kept (S.2.1 b0 (Nat.lt_of_lt_of_le E.2.2.2.2.2.1.2.1 B) (Nat.not_le.mpr E.2.2.2.2.2.1.2.1))
  have hp : PreS s0 H (PxG w b0 L0 xs0 [.ref b0, .int (nI k)] x) [.ref b0, .int (nI k)] := ⟨PxG_blind, fun U hU hW => ⟨rfl, ⟨hX U hU hW, E.2.2.2.2.2.1.2⟩, ⟨by rw [hU]; exact hz, Z.2⟩, by rw [hU]; exact P, K.moved hW⟩⟩
  have hr := va_runS (e := e) (H := H) (locs := locs) (cells := kc) (slots := ks) (below := below) (meth := meth) ⟨E.1, E.2.1, E.2.2.1, hown, hts⟩ (s_cell (l := l) (w := w) (b0 := b0) (L0 := L0) (xs0 := xs0) (x := x) hk) (va_cwS 2 hts (gin (fun q hq => by
    rcases List.mem_append.mp hq with h | h
    · simp only [List.mem_cons, List.not_mem_nil, or_false] at h
      rcases h with rfl | rfl | rfl
      · exact hl
      · exact k1
      · exact k3
    · exact tb_code k4 q h)) rfl rfl rfl k5 hR) hp (g := F0 m pc arr ([Value.ref b0, .int (nI k)].reverse ++ st)) rfl rfl L.1.1 rfl (lv_room hW) hdg hC
  refine g_back E K Z S B L hz hr (fun v z h => ?_) T hT X
  obtain ⟨rfl, rfl⟩ := h
  exact kk
end AR
