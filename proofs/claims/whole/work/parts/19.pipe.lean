def bt (x : Int32) (i : Nat) : Bool := x.toBitVec.getLsbD i
theorem b_ext {x y : Int32} (h : ∀ i, i < 32 → bt x i = bt y i) : x = y := Int32.toBitVec_inj.mp (BitVec.eq_of_getLsbD_eq (fun i hi => h i hi))
theorem b_or (x y : Int32) (i : Nat) : bt (x ||| y) i = (bt x i || bt y i) := by unfold bt; rw [Int32.toBitVec_or, BitVec.getLsbD_or]
theorem b_and (x y : Int32) (i : Nat) : bt (x &&& y) i = (bt x i && bt y i) := by unfold bt; rw [Int32.toBitVec_and, BitVec.getLsbD_and]
theorem b_xor (x y : Int32) (i : Nat) : bt (x ^^^ y) i = (bt x i ^^ bt y i) := by unfold bt; rw [Int32.toBitVec_xor, BitVec.getLsbD_xor]
theorem b_big {x : Int32} {i : Nat} (h : 32 ≤ i) : bt x i = false := BitVec.getLsbD_of_ge _ _ h
theorem b_255 (i : Nat) : bt 255 i = decide (i < 8) := by
  rcases Nat.lt_or_ge i 32 with h | h
  · exact (by decide +kernel : ∀ i, i < 32 → bt 255 i = decide (i < 8)) i h
  · rw [b_big h, decide_eq_false (by omega)]
theorem b_65535 (i : Nat) : bt 65535 i = decide (i < 16) := by
  rcases Nat.lt_or_ge i 32 with h | h
  · exact (by decide +kernel : ∀ i, i < 32 → bt 65535 i = decide (i < 16)) i h
  · rw [b_big h, decide_eq_false (by omega)]
theorem b_m1 : ∀ i, i < 32 → bt (-1) i = true := by decide +kernel
theorem b_0 (i : Nat) : bt 0 i = false := BitVec.getLsbD_zero
theorem s_l : ∀ n, n < 32 → ((nI n &&& 31).toBitVec.smod 32).toNat = n := by decide +kernel
theorem s_u : ∀ n, n < 32 → (((nI n).toUInt32 &&& Int32.toUInt32 31).toBitVec % 32).toNat = n := by decide +kernel
theorem b_shl (n : Nat) (hn : n < 32) (x : Int32) {i : Nat} (hi : i < 32) : bt (x <<< (nI n &&& 31)) i = (decide (n ≤ i) && bt x (i - n)) := by
  unfold bt
  rw [Int32.toBitVec_shiftLeft]
  show (x.toBitVec <<< ((nI n &&& 31).toBitVec.smod 32).toNat).getLsbD i = _
  rw [s_l n hn, BitVec.getLsbD_shiftLeft]
  rcases Nat.lt_or_ge i n with h | h
  · simp [h, Nat.not_le.mpr h]
  · simp [hi, h, Nat.not_lt.mpr h]
theorem b_ushr (n : Nat) (hn : n < 32) (x : Int32) (i : Nat) : bt ((x.toUInt32 >>> ((nI n).toUInt32 &&& Int32.toUInt32 31)).toInt32) i = bt x (n + i) := by
  show (x.toUInt32 >>> ((nI n).toUInt32 &&& Int32.toUInt32 31)).toBitVec.getLsbD i = x.toUInt32.toBitVec.getLsbD (n + i)
  rw [UInt32.toBitVec_shiftRight]
  show (x.toUInt32.toBitVec >>> (((nI n).toUInt32 &&& Int32.toUInt32 31).toBitVec % 32).toNat).getLsbD i = _
  rw [s_u n hn, BitVec.getLsbD_ushiftRight]
theorem b_sshr (n : Nat) (hn : n < 32) (x : Int32) {i : Nat} (hi : i < 32) : bt (x >>> (nI n &&& 31)) i = if n + i < 32 then bt x (n + i) else bt x 31 := by
  unfold bt
  rw [Int32.toBitVec_shiftRight]
  show (x.toBitVec.sshiftRight ((nI n &&& 31).toBitVec.smod 32).toNat).getLsbD i = _
  rw [s_l n hn, BitVec.getLsbD_sshiftRight, BitVec.msb_eq_getLsbD_last]
  simp [hi]
theorem b_1 (i : Nat) : bt 1 i = decide (i = 0) := by
  rcases Nat.lt_or_ge i 32 with h | h
  · exact (by decide +kernel : ∀ i, i < 32 → bt 1 i = decide (i = 0)) i h
  · rw [b_big h, decide_eq_false (by omega)]
theorem b_15 (i : Nat) : bt 15 i = decide (i < 4) := by
  rcases Nat.lt_or_ge i 32 with h | h
  · exact (by decide +kernel : ∀ i, i < 32 → bt 15 i = decide (i < 4)) i h
  · rw [b_big h, decide_eq_false (by omega)]
theorem tb_bt {p : Int32} {j : Nat} (hj : j < 32) : tb p (nI j) = bt p j := by
  unfold tb
  have e0 : bt (p >>> (nI j &&& 31)) 0 = bt p j := by rw [b_sshr j hj p (by decide), if_pos (show j + 0 < 32 by omega)]; rfl
  have e1 : bt ((p >>> (nI j &&& 31)) &&& 1) 0 = bt p j := by rw [b_and, e0, b_1]; simp
  rcases and1 (p >>> (nI j &&& 31)) with h | h
  · rw [h] at e1 ⊢
    rw [b_0] at e1
    rw [← e1]; decide
  · rw [h] at e1 ⊢
    rw [b_1] at e1
    rw [← e1]; decide
theorem sh_bt {k : Nat} (hk : k < 32) {i : Nat} (hi : i < 32) : bt (sh1 (nI k)) i = decide (i = k) := by
  unfold sh1
  rw [b_shl k hk 1 hi, b_1]
  by_cases h : i = k
  · subst h; simp
  · rw [decide_eq_false h]
    by_cases h2 : k ≤ i
    · rw [decide_eq_true h2, decide_eq_false (show ¬ i - k = 0 by omega)]; rfl
    · rw [decide_eq_false h2]; rfl
theorem eq0_bt {x : Int32} : x = 0 ↔ ∀ i, i < 32 → bt x i = false := by
  refine ⟨fun h i _ => by rw [h, b_0], fun h => b_ext (fun i hi => by rw [h i hi, b_0])⟩
theorem nd_bt {p : Int32} {j i : Nat} (hj : j < 4) (hi : i < 32) : bt (nd p (nI j)) i = (decide (i < 4) && bt p (8 + 4 * j + i)) := by
  unfold nd
  rw [show (8 : Int32) + 4 * nI j = nI (8 + 4 * j) by rw [show (4 : Int32) = nI 4 from rfl, nI_mul, show (8 : Int32) = nI 8 from rfl, nI_add], b_and, b_sshr _ (by omega) p hi, b_15]
  by_cases h : i < 4
  · rw [decide_eq_true h, if_pos (by omega), Bool.and_true, Bool.true_and]
  · rw [decide_eq_false h, Bool.and_false, Bool.false_and]
theorem nd0 {p y : Int32} {j : Nat} (hj : j < 4) : (nd p (nI j) &&& y = 0) ↔ ∀ m, m < 4 → bt p (8 + 4 * j + m) = true → bt y m = false := by
  rw [eq0_bt]
  constructor
  · intro h m hm hb
    have := h m (by omega)
    rw [b_and, nd_bt hj (by omega), decide_eq_true hm, hb] at this
    simpa using this
  · intro h i hi
    rw [b_and, nd_bt hj hi]
    by_cases h4 : i < 4
    · rw [decide_eq_true h4, Bool.true_and]
      cases hb : bt p (8 + 4 * j + i) with
      | false => rfl
      | true => rw [h i h4 hb]; rfl
    · rw [decide_eq_false h4, Bool.false_and, Bool.false_and]
/-- job i is there and needs job m -/
def NM (p : Int32) (i m : Nat) : Bool := bt p i && bt p (8 + 4 * i + m)
theorem ned_NM {p : Int32} {i m : Nat} (hi : i < 4) (hm : m < 4) : ned p (nI i) (nI m) = NM p i m := by
  unfold ned NM
  rw [show (8 : Int32) + 4 * nI i + nI m = nI (8 + 4 * i + m) by rw [show (4 : Int32) = nI 4 from rfl, nI_mul, show (8 : Int32) = nI 8 from rfl, nI_add, nI_add], tb_bt (by omega), tb_bt (by omega)]
def gst (N : Nat → Nat → Bool) (k j : Nat) (F : Nat → Bool) : Nat → Bool := fun i => F i || (decide (i = j) && anyU (fun m => N j m && (F m || decide (m = k))) 4 0)
def gI (N : Nat → Nat → Bool) (k : Nat) : Nat → Nat → (Nat → Bool) → (Nat → Bool)
  | 0, _, F => F
  | n + 1, j, F => gI N k n (j + 1) (gst N k j F)
def gO (N : Nat → Nat → Bool) (k : Nat) : Nat → (Nat → Bool) → (Nat → Bool)
  | 0, F => F
  | n + 1, F => gO N k n (gI N k 4 0 F)
theorem any_iff {c : Nat → Bool} : ∀ (n j : Nat), anyU c n j = true ↔ ∃ i, j ≤ i ∧ i < j + n ∧ c i = true
  | 0, j => by simp only [anyU]; constructor
               · intro h; cases h
               · rintro ⟨i, h1, h2, _⟩; omega
  | n + 1, j => by
    rw [anyU, Bool.or_eq_true, any_iff n (j + 1)]
    constructor
    · rintro (h | ⟨i, h1, h2, h3⟩)
      · exact ⟨j, Nat.le_refl j, by omega, h⟩
      · exact ⟨i, by omega, by omega, h3⟩
    · rintro ⟨i, h1, h2, h3⟩
      by_cases e : i = j
      · subst e; exact Or.inl h3
      · exact Or.inr ⟨i, by omega, by omega, h3⟩
theorem any4 {c : Nat → Bool} : anyU c 4 0 = true ↔ ∃ i, i < 4 ∧ c i = true := by
  rw [any_iff]
  constructor
  · rintro ⟨i, -, h2, h3⟩; exact ⟨i, by omega, h3⟩
  · rintro ⟨i, h2, h3⟩; exact ⟨i, Nat.zero_le _, by omega, h3⟩
def BF (f : Int32) (F : Nat → Bool) : Prop := ∀ i, i < 32 → bt f i = (decide (i < 4) && F i)
theorem BF_or {f : Int32} {F : Nat → Bool} {j : Nat} (h : BF f F) (hj : j < 4) : BF (f ||| sh1 (nI j)) (fun i => F i || decide (i = j)) := by
  intro i hi
  rw [b_or, h i hi, sh_bt (by omega) hi]
  by_cases h4 : i < 4
  · rw [decide_eq_true h4, Bool.true_and, Bool.true_and]
  · rw [decide_eq_false h4, decide_eq_false (show ¬ i = j by omega)]; rfl
theorem BF_ext {f : Int32} {F G : Nat → Bool} (h : BF f F) (he : ∀ i, i < 4 → F i = G i) : BF f G := by
  intro i hi
  rw [h i hi]
  by_cases h4 : i < 4
  · rw [he i h4]
  · rw [decide_eq_false h4]; rfl
theorem gst_BF {p f : Int32} {k j : Nat} {F : Nat → Bool} (h : BF f F) (hj : j < 4) (hk : k < 4) : BF (if tb p (nI j) = true ∧ ¬ nd p (nI j) &&& (f ||| sh1 (nI k)) = 0 then f ||| sh1 (nI j) else f) (gst (NM p) k j F) := by
  have key : anyU (fun m => NM p j m && (F m || decide (m = k))) 4 0 = true ↔ (tb p (nI j) = true ∧ ¬ nd p (nI j) &&& (f ||| sh1 (nI k)) = 0) := by
    rw [any4, nd0 hj, tb_bt (by omega)]
    have hb := BF_or h hk
    constructor
    · rintro ⟨m, hm, h1⟩
      rw [Bool.and_eq_true] at h1
      have h2 : bt p j = true ∧ bt p (8 + 4 * j + m) = true := by simpa [NM] using h1.1
      refine ⟨h2.1, fun q => ?_⟩
      have := q m hm h2.2
      rw [hb m (by omega), decide_eq_true hm, Bool.true_and] at this
      exact absurd (h1.2.symm.trans this) (by decide)
    · rintro ⟨h1, h2⟩
      refine Classical.byContradiction fun hn => h2 fun m hm hp => ?_
      rw [hb m (by omega), decide_eq_true hm, Bool.true_and]
      cases hq : F m || decide (m = k) with
      | false => exact hq
      | true => exact absurd ⟨m, hm, by simp only [NM, h1, hp, hq]; rfl⟩ hn
  by_cases hc : tb p (nI j) = true ∧ ¬ nd p (nI j) &&& (f ||| sh1 (nI k)) = 0
  · rw [if_pos hc]
    refine BF_ext (BF_or h hj) (fun i _ => ?_)
    unfold gst
    rw [key.mpr hc, Bool.and_true]
  · rw [if_neg hc]
    refine BF_ext h (fun i _ => ?_)
    unfold gst
    cases hq : anyU (fun m => NM p j m && (F m || decide (m = k))) 4 0 with
    | false => rw [Bool.and_false, Bool.or_false]
    | true => exact absurd (key.mp hq) hc
theorem gI_BF {p : Int32} {k : Nat} (hk : k < 4) : ∀ (n j : Nat) (f : Int32) (F : Nat → Bool), j + n = 4 → BF f F → BF (atnI p (nI k) n j f) (gI (NM p) k n j F)
  | 0, _, _, _, _, h => h
  | n + 1, j, f, F, hj, h => by
    rw [atnI, gI]
    exact gI_BF hk n (j + 1) _ _ (by omega) (gst_BF h (by omega) hk)
theorem gO_BF {p : Int32} {k : Nat} (hk : k < 4) : ∀ (n : Nat) (f : Int32) (F : Nat → Bool), BF f F → BF (atnO p (nI k) n f) (gO (NM p) k n F)
  | 0, _, _, h => h
  | n + 1, f, F, h => by
    rw [atnO, gO]
    exact gO_BF hk n _ _ (gI_BF hk 4 0 f F rfl h)
def pF0 : Nat → Bool := fun _ => false
def rch (N : Nat → Nat → Bool) (k : Nat) : Nat → Bool := gO N k 4 pF0
theorem atn_BF {p : Int32} {k : Nat} (hk : k < 4) : BF (atn p (nI k)) (rch (NM p) k) := gO_BF hk 4 0 pF0 (fun i _ => by rw [b_0]; simp [pF0])
/-! the set of rch: the least that is closed -/
def Cl (N : Nat → Nat → Bool) (k : Nat) (S : Nat → Bool) : Prop := ∀ i, i < 4 → ∀ m, m < 4 → N i m = true → (S m = true ∨ m = k) → S i = true
def Sub (F S : Nat → Bool) : Prop := ∀ i, i < 4 → F i = true → S i = true
theorem gst_min {N : Nat → Nat → Bool} {k j : Nat} {F S : Nat → Bool} (hS : Cl N k S) (h : Sub F S) (hj : j < 4) : Sub (gst N k j F) S := by
  intro i hi hg
  unfold gst at hg
  rw [Bool.or_eq_true, Bool.and_eq_true, decide_eq_true_eq, any4] at hg
  rcases hg with hg | ⟨rfl, m, hm, hg⟩
  · exact h i hi hg
  · rw [Bool.and_eq_true, Bool.or_eq_true, decide_eq_true_eq] at hg
    exact hS i hi m hm hg.1 (hg.2.imp (h m hm) id)
theorem gI_min {N : Nat → Nat → Bool} {k : Nat} {S : Nat → Bool} (hS : Cl N k S) : ∀ (n j : Nat) (F : Nat → Bool), j + n = 4 → Sub F S → Sub (gI N k n j F) S
  | 0, _, _, _, h => h
  | n + 1, j, F, hj, h => gI_min hS n (j + 1) _ (by omega) (gst_min hS h (by omega))
theorem gO_min {N : Nat → Nat → Bool} {k : Nat} {S : Nat → Bool} (hS : Cl N k S) : ∀ (n : Nat) (F : Nat → Bool), Sub F S → Sub (gO N k n F) S
  | 0, _, h => h
  | n + 1, F, h => gO_min hS n _ (gI_min hS 4 0 F rfl h)
theorem rch_min {N : Nat → Nat → Bool} {k : Nat} {S : Nat → Bool} (hS : Cl N k S) : Sub (rch N k) S := gO_min hS 4 pF0 (fun i _ h => by cases h)
theorem gst_mono {N : Nat → Nat → Bool} {k j : Nat} {F : Nat → Bool} : Sub F (gst N k j F) := fun i _ h => by unfold gst; rw [h]; rfl
theorem gI_mono {N : Nat → Nat → Bool} {k : Nat} : ∀ (n j : Nat) (F : Nat → Bool), Sub F (gI N k n j F)
  | 0, _, _ => fun _ _ h => h
  | n + 1, j, F => fun i hi h => gI_mono n (j + 1) _ i hi (gst_mono i hi h)
theorem gI_prog {N : Nat → Nat → Bool} {k : Nat} : ∀ (n j : Nat) (F : Nat → Bool), j + n = 4 → ∀ i, j ≤ i → i < 4 → ∀ m, m < 4 → N i m = true → (F m = true ∨ m = k) → gI N k n j F i = true
  | 0, j, F, hj, i, h1, h2, m, hm, hN, hF => by omega
  | n + 1, j, F, hj, i, h1, h2, m, hm, hN, hF => by
    rw [gI]
    by_cases e : i = j
    · subst e
      refine gI_mono n (i + 1) _ i h2 ?_
      unfold gst
      rw [Bool.or_eq_true, Bool.and_eq_true, decide_eq_true_eq, any4]
      exact Or.inr ⟨rfl, m, hm, by rw [Bool.and_eq_true, Bool.or_eq_true, decide_eq_true_eq]; exact ⟨hN, hF⟩⟩
    · exact gI_prog n (j + 1) _ (by omega) i (by omega) h2 m hm hN (hF.imp (gst_mono m hm) id)
def cnt4 (F : Nat → Bool) : Nat := (F 0).toNat + (F 1).toNat + (F 2).toNat + (F 3).toNat
theorem tn_le : ∀ a b : Bool, (a = true → b = true) → a.toNat ≤ b.toNat := by decide
theorem tn_lt : ∀ a b : Bool, a = false → b = true → a.toNat < b.toNat := by decide
theorem cnt_grow {F G : Nat → Bool} (h : Sub F G) {j : Nat} (hj : j < 4) (h0 : F j = false) (h1 : G j = true) : cnt4 F < cnt4 G := by
  have g0 := tn_le _ _ (h 0 (by decide))
  have g1 := tn_le _ _ (h 1 (by decide))
  have g2 := tn_le _ _ (h 2 (by decide))
  have g3 := tn_le _ _ (h 3 (by decide))
  have g := tn_lt _ _ h0 h1
  unfold cnt4
  rcases (show j = 0 ∨ j = 1 ∨ j = 2 ∨ j = 3 by omega) with rfl | rfl | rfl | rfl <;> omega
theorem cnt_full {F : Nat → Bool} (h : 4 ≤ cnt4 F) : ∀ i, i < 4 → F i = true := by
  intro i hi
  unfold cnt4 at h
  have t : ∀ b : Bool, b.toNat ≤ 1 := by decide
  have t1 : ∀ b : Bool, b.toNat = 1 → b = true := by decide
  have a0 := t (F 0); have a1 := t (F 1); have a2 := t (F 2); have a3 := t (F 3)
  rcases (show i = 0 ∨ i = 1 ∨ i = 2 ∨ i = 3 by omega) with rfl | rfl | rfl | rfl <;> exact t1 _ (by omega)
theorem gO_cl {N : Nat → Nat → Bool} {k : Nat} : ∀ (n : Nat) (F : Nat → Bool), (Cl N k F ∨ 4 ≤ cnt4 F + n) → Cl N k (gO N k n F)
  | 0, F, h => by
    rcases h with h | h
    · exact h
    · intro i hi m hm _ _
      show F i = true
      exact cnt_full (by simpa using h) i hi
  | n + 1, F, h => by
    rw [gO]
    refine gO_cl n _ ?_
    by_cases hc : Cl N k F
    · refine Or.inl ?_
      have h1 := gI_min hc 4 0 F rfl (fun _ _ h => h)
      have h2 := gI_mono (N := N) (k := k) 4 0 F
      intro i hi m hm hN hF
      exact h2 i hi (hc i hi m hm hN (hF.imp (h1 m hm) id))
    · have h4 : 4 ≤ cnt4 F + (n + 1) := h.resolve_left hc
      have : ∃ i, i < 4 ∧ F i = false ∧ gI N k 4 0 F i = true := by
        refine Classical.byContradiction fun hn => hc fun i hi m hm hN hF => ?_
        cases hb : F i with
        | true => rfl
        | false => exact absurd ⟨i, hi, hb, gI_prog 4 0 F rfl i (Nat.zero_le _) hi m hm hN hF⟩ hn
      obtain ⟨i, hi, g1, g2⟩ := this
      have := cnt_grow (gI_mono (N := N) (k := k) 4 0 F) hi g1 g2
      exact Or.inr (by omega)
theorem rch_cl (N : Nat → Nat → Bool) (k : Nat) : Cl N k (rch N k) := gO_cl 4 pF0 (Or.inr (by omega))
/-! the reference's closure -/
def wsim (m : Nat) (L : Nat → Bool) : Nat → Bool := fun i => L i || (L (4 * (i / 4) + m) && L (4 * m + i % 4))
theorem wsI_sim {m : Nat} (hm : m < 4) (L : Nat → Bool) : ∀ (n q : Nat) (G : Nat → Bool), q + n = 16 → (∀ i, i < 16 → G i = if i < q then wsim m L i else L i) → ∀ i, i < 16 → wsI m n q G i = wsim m L i
  | 0, q, G, hq, h, i, hi => by
    show G i = _
    rw [h i hi, if_pos (by omega)]
  | n + 1, q, G, hq, h, i, hi => by
    rw [wsI]
    refine wsI_sim hm L n (q + 1) _ (by omega) (fun i hi => ?_) i hi
    unfold wst
    by_cases e : i = q
    · subst e
      rw [if_pos rfl, if_pos (by omega), h i hi, if_neg (by omega), h _ (show 4 * (i / 4) + m < 16 by omega), h _ (show 4 * m + i % 4 < 16 by omega)]
      have d1 : (4 * (i / 4) + m) / 4 = i / 4 := by omega
      have d2 : (4 * (i / 4) + m) % 4 = m := by omega
      have d3 : (4 * m + i % 4) / 4 = m := by omega
      have d4 : (4 * m + i % 4) % 4 = i % 4 := by omega
      unfold wsim
      rw [d1, d2, d3, d4]
      generalize L i = x
      generalize L (4 * (i / 4) + m) = y
      generalize L (4 * m + i % 4) = z
      generalize L (4 * m + m) = u
      revert x y z u
      split <;> split <;> decide
    · rw [if_neg e, h i hi]
      by_cases h2 : i < q
      · rw [if_pos h2, if_pos (by omega)]
      · rw [if_neg h2, if_neg (by omega)]
theorem wsI_is {m : Nat} (hm : m < 4) (L : Nat → Bool) {i : Nat} (hi : i < 16) : wsI m 16 0 L i = wsim m L i := wsI_sim hm L 16 0 L rfl (fun i _ => by rw [if_neg (by omega)]) i hi
/-- closed under going by way of the jobs below m -/
def TrM (m : Nat) (L : Nat → Bool) : Prop := ∀ a b c, a < 4 → b < 4 → c < m → c < 4 → L (4 * a + c) = true → L (4 * c + b) = true → L (4 * a + b) = true
theorem wsim_ab {m a b : Nat} (hb : b < 4) (L : Nat → Bool) : wsim m L (4 * a + b) = (L (4 * a + b) || (L (4 * a + m) && L (4 * m + b))) := by
  unfold wsim
  rw [show (4 * a + b) / 4 = a by omega, show (4 * a + b) % 4 = b by omega]
theorem wsim_tr {m : Nat} (hm : m < 4) {L : Nat → Bool} (h : TrM m L) : TrM (m + 1) (wsim m L) := by
  intro a b c ha hb hc hc4 h1 h2
  rw [wsim_ab hc4] at h1
  rw [wsim_ab hb] at h2
  rw [wsim_ab hb]
  simp only [Bool.or_eq_true, Bool.and_eq_true] at *
  by_cases e : c = m
  · subst e
    have q1 : L (4 * a + c) = true := h1.elim id (fun q => q.1)
    have q2 : L (4 * c + b) = true := h2.elim id (fun q => q.2)
    exact Or.inr ⟨q1, q2⟩
  · have hcm : c < m := by omega
    rcases h1 with h1 | ⟨h1, h1'⟩
    · rcases h2 with h2 | ⟨h2, h2'⟩
      · exact Or.inl (h a b c ha hb hcm hc4 h1 h2)
      · exact Or.inr ⟨h a m c ha hm hcm hc4 h1 h2, h2'⟩
    · rcases h2 with h2 | ⟨h2, h2'⟩
      · exact Or.inr ⟨h1, h m b c hm hb hcm hc4 h1' h2⟩
      · exact Or.inr ⟨h1, h2'⟩
def E16 (L G : Nat → Bool) : Prop := ∀ i, i < 16 → L i = G i
theorem TrM_ext {m : Nat} {L G : Nat → Bool} (he : E16 L G) (h : TrM m L) : TrM m G := by
  intro a b c ha hb hc hc4 h1 h2
  rw [← he _ (by omega)] at h1 h2 ⊢
  exact h a b c ha hb hc hc4 h1 h2
theorem wsO_tr : ∀ (n m : Nat) (L : Nat → Bool), m + n = 4 → TrM m L → TrM 4 (wsO n m L)
  | 0, m, L, hm, h => by
    obtain rfl : m = 4 := by omega
    exact h
  | n + 1, m, L, hm, h => by
    rw [wsO]
    exact wsO_tr n (m + 1) _ (by omega) (TrM_ext (fun i hi => (wsI_is (by omega) L hi).symm) (wsim_tr (by omega) h))
theorem wsO_mono : ∀ (n m : Nat) (L : Nat → Bool), m + n = 4 → ∀ i, i < 16 → L i = true → wsO n m L i = true
  | 0, m, L, hm, i, hi, h => h
  | n + 1, m, L, hm, i, hi, h => by
    rw [wsO]
    refine wsO_mono n (m + 1) _ (by omega) i hi ?_
    rw [wsI_is (by omega) L hi]
    unfold wsim
    rw [h]; rfl
/-- .. and in all that is transitive -/
theorem wsO_min {T : Nat → Bool} (hT : TrM 4 T) : ∀ (n m : Nat) (L : Nat → Bool), m + n = 4 → (∀ i, i < 16 → L i = true → T i = true) → ∀ i, i < 16 → wsO n m L i = true → T i = true
  | 0, m, L, hm, h, i, hi, hw => h i hi hw
  | n + 1, m, L, hm, h, i, hi, hw => by
    rw [wsO] at hw
    refine wsO_min hT n (m + 1) _ (by omega) (fun i hi hw => ?_) i hi hw
    rw [wsI_is (by omega) L hi] at hw
    unfold wsim at hw
    simp only [Bool.or_eq_true, Bool.and_eq_true] at hw
    rcases hw with hw | ⟨h1, h2⟩
    · exact h i hi hw
    · have := hT (i / 4) (i % 4) m (by omega) (by omega) (by omega) (by omega) (h _ (by omega) h1) (h _ (by omega) h2)
      rwa [show 4 * (i / 4) + i % 4 = i by omega] at this
theorem ld0_NM {p : Int32} {a b : Nat} (ha : a < 4) (hb : b < 4) : ld0 p (4 * a + b) = NM p a b := by
  unfold ld0
  rw [show (4 * a + b) / 4 = a by omega, show (4 * a + b) % 4 = b by omega, ned_NM ha hb]
theorem clo_rch {p : Int32} {i k : Nat} (hi : i < 4) (hk : k < 4) : clo p (4 * i + k) = rch (NM p) k i := by
  have hW : TrM 4 (clo p) := wsO_tr 4 0 (ld0 p) rfl (fun a b c _ _ hc => by omega)
  have hN : ∀ a b, a < 4 → b < 4 → NM p a b = true → clo p (4 * a + b) = true := fun a b ha hb h => wsO_mono 4 0 (ld0 p) rfl _ (by omega) (by rw [ld0_NM ha hb]; exact h)
  have h1 : rch (NM p) k i = true → clo p (4 * i + k) = true := by
    refine rch_min (S := fun i => clo p (4 * i + k)) (fun i hi m hm hNm hS => ?_) i hi
    rcases hS with hS | rfl
    · exact hW i k m hi hk hm hm (hN i m hi hm hNm) hS
    · exact hN i m hi hm hNm
  have h2 : clo p (4 * i + k) = true → rch (NM p) k i = true := by
    have hT : TrM 4 (fun q => rch (NM p) (q % 4) (q / 4)) := by
      intro a b c ha hb _ hc g1 g2
      show rch (NM p) ((4 * a + b) % 4) ((4 * a + b) / 4) = true
      have g1 : rch (NM p) c a = true := by
        have : rch (NM p) ((4 * a + c) % 4) ((4 * a + c) / 4) = true := g1
        rwa [show (4 * a + c) / 4 = a by omega, show (4 * a + c) % 4 = c by omega] at this
      have g2 : rch (NM p) b c = true := by
        have : rch (NM p) ((4 * c + b) % 4) ((4 * c + b) / 4) = true := g2
        rwa [show (4 * c + b) / 4 = c by omega, show (4 * c + b) % 4 = b by omega] at this
      rw [show (4 * a + b) / 4 = a by omega, show (4 * a + b) % 4 = b by omega]
      refine rch_min (N := NM p) (k := c) (S := rch (NM p) b) (fun i hi m hm hNm hS => ?_) a ha g1
      rcases hS with hS | rfl
      · exact rch_cl (NM p) b i hi m hm hNm (Or.inl hS)
      · exact rch_cl (NM p) b i hi m hm hNm (Or.inl g2)
    intro h
    have := wsO_min hT 4 0 (ld0 p) rfl (fun q hq hl => by
      have e : q = 4 * (q / 4) + q % 4 := by omega
      rw [e, ld0_NM (by omega) (by omega)] at hl
      exact rch_cl (NM p) (q % 4) (q / 4) (by omega) (q % 4) (by omega) hl (Or.inr rfl)) (4 * i + k) (by omega) h
    have this : rch (NM p) ((4 * i + k) % 4) ((4 * i + k) / 4) = true := this
    rwa [show (4 * i + k) / 4 = i by omega, show (4 * i + k) % 4 = k by omega] at this
  cases ha : clo p (4 * i + k) with
  | true => exact (h2 ha).symm
  | false =>
    cases hb : rch (NM p) k i with
    | false => rfl
    | true => rw [h1 hb] at ha; cases ha
theorem atn_clo {p : Int32} {i k : Nat} (hi : i < 4) (hk : k < 4) : tb (atn p (nI k)) (nI i) = clo p (4 * i + k) := by
  rw [tb_bt (by omega), atn_BF hk i (by omega), decide_eq_true hi, Bool.true_and, clo_rch hi hk]
theorem failing_clo {p : Int32} {i k : Nat} (hi : i < 4) (hk : k < 4) : tb (failing p (nI k)) (nI i) = (clo p (4 * i + k) || decide (i = k)) := by
  unfold failing
  rw [tb_bt (by omega), BF_or (atn_BF hk) hk i (by omega), decide_eq_true hi, Bool.true_and, clo_rch hi hk]
theorem clo_there {p : Int32} {i k : Nat} (hi : i < 4) (hk : k < 4) (h : clo p (4 * i + k) = true) : tb p (nI i) = true := by
  rw [clo_rch hi hk] at h
  rw [tb_bt (by omega)]
  exact rch_min (S := fun i => bt p i) (fun i _ m _ hN _ => by simp only [NM, Bool.and_eq_true] at hN; exact hN.1) i hi h
theorem vk_g {p : Int32} {j : Nat} : ∀ (n k : Nat) (g : Bool), vk p j n k g = (g && vk p j n k true)
  | 0, k, g => by simp [vk]
  | n + 1, k, g => by
    rw [vk, vk, vk_g n (k + 1) (g && _), vk_g n (k + 1) (true && _), Bool.true_and, Bool.and_assoc]
theorem vk_all {p : Int32} {j : Nat} (hj : j < 4) : ∀ (n k : Nat), k + n = 4 → (vk p j n k true = true ↔ ∀ m, k ≤ m → m < 4 → NM p j m = true → bt p m = true)
  | 0, k, hk => by
    simp only [vk, true_iff]
    intro m h1 h2
    omega
  | n + 1, k, hk => by
    rw [vk, vk_g, Bool.and_eq_true, vk_all hj n (k + 1) (by omega), Bool.true_and, ned_NM hj (by omega), tb_bt (by omega)]
    constructor
    · rintro ⟨h1, h2⟩ m hm h4 hN
      by_cases e : m = k
      · subst e
        rw [hN] at h1
        simpa using h1
      · exact h2 m (by omega) h4 hN
    · intro h
      refine ⟨?_, fun m hm h4 hN => h m (by omega) h4 hN⟩
      cases hN : NM p j k with
      | false => rfl
      | true => rw [h k (Nat.le_refl k) (by omega) hN]; rfl
theorem absent {p : Int32} {j : Nat} (hj : j < 4) : (nd p (nI j) &&& ((p &&& 15) ^^^ (-1)) = 0) ↔ ∀ m, m < 4 → bt p (8 + 4 * j + m) = true → bt p m = true := by
  rw [nd0 hj]
  have e : ∀ m, m < 4 → bt ((p &&& 15) ^^^ (-1)) m = !bt p m := by
    intro m hm
    rw [b_xor, b_and, b_15, b_m1 m (by omega), decide_eq_true hm, Bool.and_true, Bool.xor_true]
  constructor
  · intro h m hm hb
    have := h m hm hb
    rw [e m hm] at this
    simpa using this
  · intro h m hm hb
    rw [e m hm, h m hm hb]; rfl
theorem vj_g {p : Int32} : ∀ (n j : Nat) (s g : Bool), j + n = 4 → vj p n j s g = (g && vld p n j s)
  | 0, j, s, g, _ => by simp [vj, vld, Bool.and_comm]
  | n + 1, j, s, g, hj => by
    rw [vj, vj_g n (j + 1) _ _ (by omega), vk_g, vld]
    have key : (!clo p (5 * j) && vk p j 4 0 true) = !(tb p (nI j) && (!decide (nd p (nI j) &&& ((p &&& 15) ^^^ (-1)) = 0) || tb (atn p (nI j)) (nI j))) := by
      have e5 : clo p (5 * j) = tb (atn p (nI j)) (nI j) := by rw [atn_clo (by omega) (by omega), show 4 * j + j = 5 * j by omega]
      cases ht : tb p (nI j) with
      | false =>
        have h1 : clo p (5 * j) = false := by
          cases hc : clo p (5 * j) with
          | false => rfl
          | true =>
            have := clo_there (p := p) (i := j) (k := j) (by omega) (by omega) (by rw [show 4 * j + j = 5 * j by omega]; exact hc)
            rw [ht] at this; cases this
        have h2 : vk p j 4 0 true = true := (vk_all (by omega) 4 0 rfl).mpr (fun m _ h4 hN => by
          unfold NM at hN
          rw [← tb_bt (by omega), ht] at hN
          cases hN)
        rw [h1, h2]; rfl
      | true =>
        have h2 : vk p j 4 0 true = decide (nd p (nI j) &&& ((p &&& 15) ^^^ (-1)) = 0) := by
          rw [Bool.eq_iff_iff, vk_all (by omega) 4 0 rfl, decide_eq_true_eq, absent (by omega)]
          rw [tb_bt (by omega)] at ht
          constructor
          · intro h m hm hb
            exact h m (Nat.zero_le _) hm (by unfold NM; rw [ht, hb]; rfl)
          · intro h m _ hm hN
            unfold NM at hN
            rw [Bool.and_eq_true] at hN
            exact h m hm hN.2
        rw [e5, h2]
        generalize tb (atn p (nI j)) (nI j) = x
        generalize decide (nd p (nI j) &&& ((p &&& 15) ^^^ (-1)) = 0) = y
        revert x y
        decide
    rw [Bool.and_assoc, Bool.and_assoc, ← Bool.and_assoc (!clo p (5 * j)), key]
    split
    · rename_i hc
      rw [hc]; simp
    · rename_i hc
      rw [Bool.not_eq_true] at hc
      rw [hc]; simp
theorem valid_is (p : Int32) : valR p = vld p 4 0 false := by
  unfold valR
  rw [vj_g 4 0 false true rfl, Bool.true_and]
/-- what may be leased -/
def ckR (p : Int32) (js : Nat → Int32) (j : Nat) : Nat → Nat → Bool → Bool
  | 0, _, g => g
  | n + 1, k, g => ckR p js j n (k + 1) (g && (!ned p (nI j) (nI k) || decide (js k = 2)))
theorem ck_all {p : Int32} {js : Nat → Int32} {j : Nat} (hj : j < 4) : ∀ (n k : Nat) (g : Bool), k + n = 4 → (ckR p js j n k g = true ↔ g = true ∧ ∀ m, k ≤ m → m < 4 → NM p j m = true → js m = 2)
  | 0, k, g, hk => by
    simp only [ckR]
    exact ⟨fun h => ⟨h, fun m h1 h2 => by omega⟩, fun h => h.1⟩
  | n + 1, k, g, hk => by
    rw [ckR, ck_all hj n (k + 1) _ (by omega), Bool.and_eq_true, ned_NM hj (by omega), Bool.or_eq_true, decide_eq_true_eq]
    constructor
    · rintro ⟨⟨h1, h2⟩, h3⟩
      refine ⟨h1, fun m hm h4 hN => ?_⟩
      by_cases e : m = k
      · subst e
        rcases h2 with h2 | h2
        · rw [hN] at h2; cases h2
        · exact h2
      · exact h3 m (by omega) h4 hN
    · rintro ⟨h1, h3⟩
      refine ⟨⟨h1, ?_⟩, fun m hm h4 hN => h3 m (by omega) h4 hN⟩
      cases hN : NM p j k with
      | false => exact Or.inl rfl
      | true => exact Or.inr (h3 k (Nat.le_refl k) (by omega) hN)
theorem pj_BF {js : Nat → Int32} : ∀ (n j : Nat) (f : Int32) (F : Nat → Bool), j + n = 4 → BF f F → (∀ i, i < 4 → F i = (decide (i < j) && decide (js i = 2))) → BF (pjI js n j f) (fun i => decide (js i = 2))
  | 0, j, f, F, hj, h, hF => BF_ext h (fun i hi => by rw [hF i hi, decide_eq_true (show i < j by omega), Bool.true_and])
  | n + 1, j, f, F, hj, h, hF => by
    rw [pjI]
    by_cases hc : js j = 2
    · rw [if_pos hc]
      refine pj_BF n (j + 1) _ _ (by omega) (BF_or h (by omega)) (fun i hi => ?_)
      rw [hF i hi]
      by_cases e : i = j
      · subst e; simp [hc]
      · rw [decide_eq_false e, Bool.or_false, show decide (i < j) = decide (i < j + 1) from decide_eq_decide.mpr (by omega)]
    · rw [if_neg hc]
      refine pj_BF n (j + 1) _ _ (by omega) h (fun i hi => ?_)
      rw [hF i hi]
      by_cases e : i = j
      · subst e; simp [hc]
      · rw [show decide (i < j) = decide (i < j + 1) from decide_eq_decide.mpr (by omega)]
theorem ck_is {p : Int32} {js : Nat → Int32} {j : Nat} (hj : j < 4) (ht : tb p (nI j) = false → ¬ js j = 1) : ckR p js j 4 0 (decide (js j = 1)) = njC p js j := by
  rw [Bool.eq_iff_iff, ck_all hj 4 0 _ rfl]
  unfold njC
  rw [Bool.and_eq_true, decide_eq_true_eq, decide_eq_true_eq, nd0 hj]
  have hb := pj_BF (js := js) 4 0 0 pF0 rfl (fun i _ => by rw [b_0]; simp [pF0]) (fun i _ => by simp [pF0])
  have e : ∀ m, m < 4 → (bt (pjI js 4 0 0 ^^^ (-1)) m = false ↔ js m = 2) := by
    intro m hm
    rw [b_xor, hb m (by omega), b_m1 m (by omega), decide_eq_true hm, Bool.true_and, Bool.xor_true]
    simp
  constructor
  · rintro ⟨h1, h2⟩
    have h3 : bt p j = true := by
      cases hq : tb p (nI j) with
      | false => exact absurd h1 (ht hq)
      | true => rw [← tb_bt (by omega)]; exact hq
    exact ⟨h1, fun m hm hp => (e m hm).mpr (h2 m (Nat.zero_le _) hm (by unfold NM; rw [h3, hp]; rfl))⟩
  · rintro ⟨h1, h2⟩
    refine ⟨h1, fun m _ hm hN => (e m hm).mp (h2 m hm ?_)⟩
    unfold NM at hN
    rw [Bool.and_eq_true] at hN
    exact hN.2
