/-! the reference's memory: ρ 7 0 its numbers, ρ 18 .. ρ 35 its arrays -/
theorem nI_mul (a b : Nat) : nI a * nI b = nI (a * b) := by
  show Int32.ofNat a * Int32.ofNat b = Int32.ofNat (a * b)
  rw [Int32.ofNat_mul]
theorem nI_6 (c j : Nat) : 6 * nI c + nI j = nI (6 * c + j) := by
  rw [show (6 : Int32) = nI 6 from rfl, nI_mul, nI_add]
theorem nI_8 (c j : Nat) : 8 * nI c + nI j = nI (8 * c + j) := by
  rw [show (8 : Int32) = nI 8 from rfl, nI_mul, nI_add]
theorem st_mix {ρ : Sg} {t c n : Nat} {g f : Nat → Int32} {v : Int32} (h : g n = v) : sg (sga ρ t c (mixN n g f)) t c n v = sga ρ t c (mixN (n + 1) g f) := by
  rw [sg_sga, ← h, mixN_up]
theorem mix_st (ρ : Sg) (t c : Nat) (g : Nat → Int32) : sga ρ t c (mixN 0 g (ρ t c)) = ρ := by rw [mixN_0, sga_eta]
theorem and1 (x : Int32) : x &&& 1 = 0 ∨ x &&& 1 = 1 := by
  have h : x.toBitVec &&& 1#32 = 0#32 ∨ x.toBitVec &&& 1#32 = 1#32 := by
    have h1 : (x.toBitVec &&& 1#32).toNat = x.toBitVec.toNat % 2 := by
      rw [BitVec.toNat_and]
      exact Nat.and_one_is_mod _
    rcases Nat.mod_two_eq_zero_or_one x.toBitVec.toNat with e | e
    · exact Or.inl (BitVec.eq_of_toNat_eq (by rw [h1, e]; rfl))
    · exact Or.inr (BitVec.eq_of_toNat_eq (by rw [h1, e]; rfl))
  rcases h with h | h
  · exact Or.inl (Int32.toBitVec_inj.mp (by rw [Int32.toBitVec_and]; exact h))
  · exact Or.inr (Int32.toBitVec_inj.mp (by rw [Int32.toBitVec_and]; exact h))
theorem tb_1 {p k : Int32} (h : (p >>> (k &&& 31)) &&& 1 = 1) : tb p k = true := by
  unfold tb
  rw [h]
  decide
theorem tb_0 {p k : Int32} (h : ¬ (p >>> (k &&& 31)) &&& 1 = 1) : tb p k = false := by
  unfold tb
  rcases and1 (p >>> (k &&& 31)) with e | e
  · rw [e]; decide
  · exact absurd e h
def ned (p j k : Int32) : Bool := tb p j && tb p (8 + 4 * j + k)
theorem vp_bi (b : Bool) : vp_nar .boolean (bi b) = bi b := by cases b <;> rfl
def wth (v lo hi : Int32) : Int32 := if v < lo then lo else if hi < v then hi else v
def tr0 : Nat → Int32 := fun p => if p = 0 then 17 else 0
def m1 : Nat → Int32 := fun _ => -1
def beginR (ρ : Sg) : Sg := sga (sg (sg (sg (sg (sg (sg (sga ρ 22 0 tr0) 7 0 11 0) 7 0 12 0) 7 0 13 0) 7 0 20 0) 7 0 22 0) 7 0 23 0) 32 0 m1
def bs (ρ : Sg) (c : Nat) : Nat → Int32 := fun p => ρ 23 0 (6 * c + p)
def ow (ρ : Sg) (c : Nat) : Nat → Int32 := fun p => ρ 24 0 (6 * c + p)
def cfR (ρ : Sg) (c : Nat) : Bool := anyU (cfl (bs ρ c) (ow ρ c) (ρ 34 0)) 6 0
def mgR (ρ : Sg) (c : Nat) : Sg := sga ρ 34 0 (mrg (bs ρ c) (ow ρ c) (ρ 34 0))
def lm (L : Nat → Bool) : Nat → Int32 := fun q => bi (L q)
def ld0 (p : Int32) : Nat → Bool := fun q => ned p (nI (q / 4)) (nI (q % 4))
def wst (m q : Nat) (L : Nat → Bool) : Nat → Bool := fun i => if i = q then (L q || (L (4 * (q / 4) + m) && L (4 * m + q % 4))) else L i
def wsI (m : Nat) : Nat → Nat → (Nat → Bool) → (Nat → Bool)
  | 0, _, L => L
  | n + 1, q, L => wsI m n (q + 1) (wst m q L)
def wsO : Nat → Nat → (Nat → Bool) → (Nat → Bool)
  | 0, _, L => L
  | n + 1, m, L => wsO n (m + 1) (wsI m 16 0 L)
def clo (p : Int32) : Nat → Bool := wsO 4 0 (ld0 p)
def vk (p : Int32) (j : Nat) : Nat → Nat → Bool → Bool
  | 0, _, g => g
  | n + 1, k, g => vk p j n (k + 1) (g && (!ned p (nI j) (nI k) || tb p (nI k)))
def vj (p : Int32) : Nat → Nat → Bool → Bool → Bool
  | 0, _, s, g => s && g
  | n + 1, j, s, g => vj p n (j + 1) (s || rq p (nI j)) (vk p j 4 0 (g && !clo p (5 * j)))
def valR (p : Int32) : Bool := vj p 4 0 false true
def lvQ (ρ : Sg) (j n : Nat) : Sg := sg (sga ρ 28 0 (rmv (ρ 28 0) j n)) 7 0 20 (nI (n - 1))
def rejR (ρ : Sg) (c : Nat) (cause : Int32) : Sg := sg (sg ρ 25 0 c 3) 26 0 c cause
def drP (ρ : Sg) (n : Nat) : Sg := sg (sga ρ 29 0 (rmv (ρ 29 0) 0 n)) 7 0 22 (nI (n - 1))
def elO (f : Nat → Int32) (j : Int32) : Nat → Int32 := fun v => if f v = j then -1 else f v
def clr (f : Nat → Int32) (c n : Nat) : Nat → Int32 := fun i => if 8 * c ≤ i ∧ i < 8 * c + n then 0 else f i
def cntR (f : Nat → Int32) (c : Nat) (how : Int32) : Nat → Nat → Int32 → Int32
  | 0, _, x => x
  | n + 1, r, x => cntR f c how n (r + 1) (if f (8 * c + r) = how then x + 1 else x)
def ntR (ρ : Sg) (n : Nat) (k a b c : Int32) : Sg := sg (sg (sg (sg (sg ρ 18 0 n k) 19 0 n a) 20 0 n b) 21 0 n c) 7 0 8 (nI (n + 1))
theorem clr_0 (f : Nat → Int32) (c : Nat) : clr f c 0 = f := by
  funext i
  unfold clr
  rw [if_neg (by omega)]
theorem clr_S (f : Nat → Int32) (c n : Nat) : up1 (clr f c n) (8 * c + n) 0 = clr f c (n + 1) := by
  funext i
  unfold clr up1
  by_cases h : i = 8 * c + n
  · rw [if_pos h, if_pos (by omega)]
  · rw [if_neg h]
    show (if 8 * c ≤ i ∧ i < 8 * c + n then 0 else f i) = _
    by_cases h2 : 8 * c ≤ i ∧ i < 8 * c + n
    · rw [if_pos h2, if_pos (by omega)]
    · rw [if_neg h2, if_neg (by omega)]
theorem wst_st {ρ : Sg} {m q : Nat} {L : Nat → Bool} {v : Int32} (h : v = bi (L q || (L (4 * (q / 4) + m) && L (4 * m + q % 4)))) : sg (sga ρ 35 0 (lm L)) 35 0 q v = sga ρ 35 0 (lm (wst m q L)) := by
  rw [sg_sga]
  congr 1
  funext i
  unfold up1 lm wst
  by_cases hi : i = q
  · rw [if_pos hi, if_pos hi, h]
  · rw [if_neg hi, if_neg hi]
theorem nI_d4 : ∀ q, q < 16 → nI q / 4 = nI (q / 4) := by decide +kernel
theorem nI_r4 : ∀ q, q < 16 → nI q - nI q / 4 * 4 = nI (q % 4) := by decide +kernel
theorem nI_w1 : ∀ q, q < 16 → ∀ m, m < 4 → 4 * (nI q / 4) + nI m = nI (4 * (q / 4) + m) := by decide +kernel
theorem nI_w2 : ∀ q, q < 16 → ∀ m, m < 4 → 4 * nI m + (nI q - nI q / 4 * 4) = nI (4 * m + q % 4) := by decide +kernel
set_option maxRecDepth 10000 in
theorem s_X8_within {l : Launch} {w : WW} {x : XX} {v lo hi : Int32} : Can l w yX8_within cX8_within 3 (some .int) (rmd 1) [.int v, .int lo, .int hi] (x) (RI (wth v lo hi) x) := by
  refine Can.go (ls := [some (.int v), some (.int lo), some (.int hi)]) ?_
  refine a_iload_n dX8_within_0 rfl ?_
  refine a_iload_n dX8_within_1 rfl ?_
  refine a_icmp_ge (tgt := 9) dX8_within_2 (by decide) (fun c_2 => ?_) (fun c_2 => ?_)
  · refine a_iload_n dX8_within_9 rfl ?_
    refine a_iload_n dX8_within_10 rfl ?_
    refine a_icmp_le (tgt := 18) dX8_within_11 (by decide) (fun c_11 => ?_) (fun c_11 => ?_)
    · refine a_iload_n dX8_within_18 rfl ?_
      exact c_iret dX8_within_19 ⟨by unfold wth; first | rw [if_pos (Int32.not_le.mp c_2), if_pos (Int32.not_le.mp c_11)] | rw [if_pos (Int32.not_le.mp c_2)] | rw [if_neg (Int32.not_lt.mpr c_2), if_neg (Int32.not_lt.mpr c_11)] | rw [if_neg (Int32.not_lt.mpr c_2), if_pos (Int32.not_le.mp c_11)], rfl⟩
    · refine a_iload_n dX8_within_14 rfl ?_
      refine a_goto (tgt := 19) dX8_within_15 (by decide) ?_
      exact c_iret dX8_within_19 ⟨by unfold wth; first | rw [if_pos (Int32.not_le.mp c_2), if_pos (Int32.not_le.mp c_11)] | rw [if_pos (Int32.not_le.mp c_2)] | rw [if_neg (Int32.not_lt.mpr c_2), if_neg (Int32.not_lt.mpr c_11)] | rw [if_neg (Int32.not_lt.mpr c_2), if_pos (Int32.not_le.mp c_11)], rfl⟩
  · refine a_iload_n dX8_within_5 rfl ?_
    refine a_goto (tgt := 19) dX8_within_6 (by decide) ?_
    exact c_iret dX8_within_19 ⟨by unfold wth; first | rw [if_pos (Int32.not_le.mp c_2), if_pos (Int32.not_le.mp c_11)] | rw [if_pos (Int32.not_le.mp c_2)] | rw [if_neg (Int32.not_lt.mpr c_2), if_neg (Int32.not_lt.mpr c_11)] | rw [if_neg (Int32.not_lt.mpr c_2), if_pos (Int32.not_le.mp c_11)], rfl⟩
set_option maxRecDepth 10000 in
theorem L_X8_begin1 {l : Launch} {w : WW} {Φ : Option Value → XX → Prop} {M : Mem} {ρ : Sg}  : ∀ (n : Nat) {j : Nat}, j + n = 6 → A l w yX8_begin cX8_begin 2 none (rmd 1) Φ 30 [some (.ref (ad w 2 7 0)), some (.int (nI 6))] [] (zx w M 2 (sga ρ 22 0 (mixN 6 tr0 (ρ 22 0)))) 0 0 → A l w yX8_begin cX8_begin 2 none (rmd 1) Φ 2 [some (.ref (ad w 2 7 0)), some (.int (nI j))] [] (zx w M 2 (sga ρ 22 0 (mixN j tr0 (ρ 22 0)))) 0 0 := by
  intro n
  induction n with
  | zero =>
    intro j hj kk
    refine a_iload_n dX8_begin_2 rfl ?_
    refine a_bipush (v := 6) dX8_begin_3 (by decide) ?_
    refine a_icmp_ge (tgt := 30) dX8_begin_5 (by decide) (fun c_5 => ?_) (fun c_5 => absurd (by have e6 : j = 6 := (by omega); subst e6; decide) c_5)
    obtain rfl : j = 6 := by omega
    exact kk
  | succ n ih =>
    intro j hj kk
    refine a_iload_n dX8_begin_2 rfl ?_
    refine a_bipush (v := 6) dX8_begin_3 (by decide) ?_
    refine a_icmp_ge (tgt := 30) dX8_begin_5 (by decide) (fun c_5 => absurd c_5 (nI_ge (b := 6) (by omega) (by omega))) (fun c_5 => ?_)
    refine a_aload_n dX8_begin_8 rfl ?_
    refine c_getR (t := 7) (k := 10) dX8_begin_9 kw_94 rfl ?_
    refine a_iload_n dX8_begin_12 rfl ?_
    refine a_iload_n dX8_begin_13 rfl ?_
    refine a_if_ne (tgt := 22) dX8_begin_14 (by decide) (fun c_14 => ?_) (fun c_14 => ?_)
    · refine a_iconst (v := 0) dX8_begin_22 (by decide) ?_
      refine c_iast (i := j) dX8_begin_23 rfl (show j < 6 by omega) ?_
      refine a_iinc_1 (u := nI (j + 1)) dX8_begin_24 (inc_nI j) (by decide) ?_
      refine a_goto (tgt := 2) dX8_begin_27 (by decide) ?_
      have h0 : tr0 j = if nI j = 0 then 17 else 0 := by
        unfold tr0
        by_cases e : j = 0
        · subst e; rfl
        · rw [if_neg e, if_neg (show ¬ nI j = 0 from fun q => e (nI_inj (b := 0) q (by omega) (by omega)))]
      first
        | (rw [if_pos c_14] at h0; rw [st_mix h0]; exact ih (by omega) kk)
        | (rw [if_neg c_14] at h0; rw [st_mix h0]; exact ih (by omega) kk)
    · refine a_bipush (v := 17) dX8_begin_17 (by decide) ?_
      refine a_goto (tgt := 23) dX8_begin_19 (by decide) ?_
      refine c_iast (i := j) dX8_begin_23 rfl (show j < 6 by omega) ?_
      refine a_iinc_1 (u := nI (j + 1)) dX8_begin_24 (inc_nI j) (by decide) ?_
      refine a_goto (tgt := 2) dX8_begin_27 (by decide) ?_
      have h0 : tr0 j = if nI j = 0 then 17 else 0 := by
        unfold tr0
        by_cases e : j = 0
        · subst e; rfl
        · rw [if_neg e, if_neg (show ¬ nI j = 0 from fun q => e (nI_inj (b := 0) q (by omega) (by omega)))]
      first
        | (rw [if_pos c_14] at h0; rw [st_mix h0]; exact ih (by omega) kk)
        | (rw [if_neg c_14] at h0; rw [st_mix h0]; exact ih (by omega) kk)
set_option maxRecDepth 10000 in
theorem L_X8_begin2 {l : Launch} {w : WW} {Φ : Option Value → XX → Prop} {M : Mem} {ρ : Sg}  : ∀ (n : Nat) {j : Nat}, j + n = 4 → A l w yX8_begin cX8_begin 2 none (rmd 1) Φ 80 [some (.ref (ad w 2 7 0)), some (.int (nI 4))] [] (zx w M 2 (sga ρ 32 0 (mixN 4 m1 (ρ 32 0)))) 0 0 → A l w yX8_begin cX8_begin 2 none (rmd 1) Φ 62 [some (.ref (ad w 2 7 0)), some (.int (nI j))] [] (zx w M 2 (sga ρ 32 0 (mixN j m1 (ρ 32 0)))) 0 0 := by
  intro n
  induction n with
  | zero =>
    intro j hj kk
    refine a_iload_n dX8_begin_62 rfl ?_
    refine a_iconst (v := 4) dX8_begin_63 (by decide) ?_
    refine a_icmp_ge (tgt := 80) dX8_begin_64 (by decide) (fun c_64 => ?_) (fun c_64 => absurd (by have e6 : j = 4 := (by omega); subst e6; decide) c_64)
    obtain rfl : j = 4 := by omega
    exact kk
  | succ n ih =>
    intro j hj kk
    refine a_iload_n dX8_begin_62 rfl ?_
    refine a_iconst (v := 4) dX8_begin_63 (by decide) ?_
    refine a_icmp_ge (tgt := 80) dX8_begin_64 (by decide) (fun c_64 => absurd c_64 (nI_ge (b := 4) (by omega) (by omega))) (fun c_64 => ?_)
    refine a_aload_n dX8_begin_67 rfl ?_
    refine c_getR (t := 7) (k := 26) dX8_begin_68 kw_104 rfl ?_
    refine a_iload_n dX8_begin_71 rfl ?_
    refine a_iconst (v := (-1)) dX8_begin_72 (by decide) ?_
    refine c_iast (i := j) dX8_begin_73 rfl (show j < 4 by omega) ?_
    refine a_iinc_1 (u := nI (j + 1)) dX8_begin_74 (inc_nI j) (by decide) ?_
    refine a_goto (tgt := 62) dX8_begin_77 (by decide) ?_
    rw [st_mix (g := m1) (v := -1) rfl]
    exact ih (by omega) kk
set_option maxRecDepth 10000 in
theorem s_X8_begin {l : Launch} {w : WW} {M : Mem} {ρ : Sg}  : Can l w yX8_begin cX8_begin 2 none (rmd 1) [.ref (ad w 2 7 0)] (zx w M 2 ρ) (RV (zx w M 2 (beginR ρ))) := by
  refine Can.go (ls := [some (.ref (ad w 2 7 0)), none]) ?_
  refine a_iconst (v := 0) dX8_begin_0 (by decide) ?_
  refine a_istore_1 dX8_begin_1 (by decide) ?_
  refine a_eq (x' := zx w M 2 (sga ρ 22 0 (mixN 0 tr0 (ρ 22 0)))) (by rw [mix_st]) ?_
  refine L_X8_begin1 6 rfl ?_
  refine c_junk (M' := M) (σ' := sga ρ 22 0 tr0) (junkA (by decide) (fun k hk => (if_pos hk).symm)) ?_
  refine a_aload_n dX8_begin_30 rfl ?_
  refine a_iconst (v := 0) dX8_begin_31 (by decide) ?_
  refine c_putI (t := 7) (k := 11) dX8_begin_32 kw_120 ?_
  refine a_aload_n dX8_begin_35 rfl ?_
  refine a_iconst (v := 0) dX8_begin_36 (by decide) ?_
  refine c_putI (t := 7) (k := 12) dX8_begin_37 kw_121 ?_
  refine a_aload_n dX8_begin_40 rfl ?_
  refine a_iconst (v := 0) dX8_begin_41 (by decide) ?_
  refine c_putI (t := 7) (k := 13) dX8_begin_42 kw_122 ?_
  refine a_aload_n dX8_begin_45 rfl ?_
  refine a_iconst (v := 0) dX8_begin_46 (by decide) ?_
  refine c_putI (t := 7) (k := 20) dX8_begin_47 kw_123 ?_
  refine a_aload_n dX8_begin_50 rfl ?_
  refine a_iconst (v := 0) dX8_begin_51 (by decide) ?_
  refine c_putI (t := 7) (k := 22) dX8_begin_52 kw_124 ?_
  refine a_aload_n dX8_begin_55 rfl ?_
  refine a_iconst (v := 0) dX8_begin_56 (by decide) ?_
  refine c_putI (t := 7) (k := 23) dX8_begin_57 kw_125 ?_
  refine a_iconst (v := 0) dX8_begin_60 (by decide) ?_
  refine a_istore_1 dX8_begin_61 (by decide) ?_
  refine a_eq (x' := zx w M 2 (sga _ 32 0 (mixN 0 m1 _))) (by rw [mix_st]) ?_
  refine L_X8_begin2 4 rfl ?_
  refine c_junk (M' := M) (σ' := beginR ρ) (junkA (t := 32) (c := 0) (g := m1) (by decide) (fun k hk => (if_pos hk).symm)) ?_
  exact c_vret dX8_begin_80 ⟨rfl, rfl⟩
set_option maxRecDepth 10000 in
theorem L_X8_cf1 {l : Launch} {w : WW} {Φ : Option Value → XX → Prop} {M : Mem} {ρ : Sg} {c : Nat} (hc : c < 16) : ∀ (n : Nat) {j : Nat} {v3 v4 : Option Value}, j + n = 6 → (anyU (cfl (bs ρ c) (ow ρ c) (ρ 34 0)) n j = true → Φ (some (.int 1)) (zx w M 2 ρ)) → (anyU (cfl (bs ρ c) (ow ρ c) (ρ 34 0)) n j = false → ∀ u3 u4, A l w yX8_conflicts cX8_conflicts 5 (some .boolean) (rmd 1) Φ 68 [some (.ref (ad w 2 7 0)), some (.int (nI c)), some (.int (nI 6)), u3, u4] [] (zx w M 2 ρ) 0 0) → A l w yX8_conflicts cX8_conflicts 5 (some .boolean) (rmd 1) Φ 2 [some (.ref (ad w 2 7 0)), some (.int (nI c)), some (.int (nI j)), v3, v4] [] (zx w M 2 ρ) 0 0 := by
  intro n
  induction n with
  | zero =>
    intro j v3 v4 hj k1 k2
    refine a_iload_n dX8_conflicts_2 rfl ?_
    refine a_bipush (v := 6) dX8_conflicts_3 (by decide) ?_
    refine a_icmp_ge (tgt := 68) dX8_conflicts_5 (by decide) (fun c_5 => ?_) (fun c_5 => absurd (by have e6 : j = 6 := (by omega); subst e6; decide) c_5)
    obtain rfl : j = 6 := by omega
    exact k2 rfl _ _
  | succ n ih =>
    intro j v3 v4 hj k1 k2
    refine a_iload_n dX8_conflicts_2 rfl ?_
    refine a_bipush (v := 6) dX8_conflicts_3 (by decide) ?_
    refine a_icmp_ge (tgt := 68) dX8_conflicts_5 (by decide) (fun c_5 => absurd c_5 (nI_ge (b := 6) (by omega) (by omega))) (fun c_5 => ?_)
    refine a_aload_n dX8_conflicts_8 rfl ?_
    refine c_getR (t := 7) (k := 14) dX8_conflicts_9 kw_95 rfl ?_
    refine a_bipush (v := 6) dX8_conflicts_12 (by decide) ?_
    refine a_iload_n dX8_conflicts_14 rfl ?_
    refine a_imul dX8_conflicts_15 ?_
    refine a_iload_n dX8_conflicts_16 rfl ?_
    refine a_iadd dX8_conflicts_17 ?_
    refine c_iald (i := 6 * c + j) dX8_conflicts_18 (nI_6 c j) (show 6 * c + j < 96 by omega) ?_
    refine a_istore_3 dX8_conflicts_19 (by decide) ?_
    refine a_aload_n dX8_conflicts_20 rfl ?_
    refine c_getR (t := 7) (k := 15) dX8_conflicts_21 kw_96 rfl ?_
    refine a_bipush (v := 6) dX8_conflicts_24 (by decide) ?_
    refine a_iload_n dX8_conflicts_26 rfl ?_
    refine a_imul dX8_conflicts_27 ?_
    refine a_iload_n dX8_conflicts_28 rfl ?_
    refine a_iadd dX8_conflicts_29 ?_
    refine c_iald (i := 6 * c + j) dX8_conflicts_30 (nI_6 c j) (show 6 * c + j < 96 by omega) ?_
    refine a_istore_4 dX8_conflicts_31 (by decide) ?_
    refine a_iload_n dX8_conflicts_33 rfl ?_
    refine a_iload dX8_conflicts_34 rfl ?_
    refine a_icmp_eq (tgt := 62) dX8_conflicts_36 (by decide) (fun c_36 => ?_) (fun c_36 => ?_)
    · refine a_iinc_2 (u := nI (j + 1)) dX8_conflicts_62 (inc_nI j) (by decide) ?_
      refine a_goto (tgt := 2) dX8_conflicts_65 (by decide) ?_
      have h9 : (cfl (bs ρ c) (ow ρ c) (ρ 34 0)) j = false := by
        show (!decide (ρ 24 0 (6 * c + j) = ρ 23 0 (6 * c + j)) && (!decide (ρ 34 0 j = ρ 23 0 (6 * c + j)) && !decide (ρ 34 0 j = ρ 24 0 (6 * c + j)))) = false
        first
          | (simp [c_36]; done)
          | (simp [c_46]; done)
          | (simp [c_57]; done)
      rw [anyU, h9, Bool.false_or] at k1 k2
      exact ih (by omega) k1 k2
    · refine a_aload_n dX8_conflicts_39 rfl ?_
      refine c_getR (t := 7) (k := 28) dX8_conflicts_40 kw_106 rfl ?_
      refine a_iload_n dX8_conflicts_43 rfl ?_
      refine c_iald (i := j) dX8_conflicts_44 rfl (show j < 6 by omega) ?_
      refine a_iload_n dX8_conflicts_45 rfl ?_
      refine a_icmp_eq (tgt := 62) dX8_conflicts_46 (by decide) (fun c_46 => ?_) (fun c_46 => ?_)
      · refine a_iinc_2 (u := nI (j + 1)) dX8_conflicts_62 (inc_nI j) (by decide) ?_
        refine a_goto (tgt := 2) dX8_conflicts_65 (by decide) ?_
        have h9 : (cfl (bs ρ c) (ow ρ c) (ρ 34 0)) j = false := by
          show (!decide (ρ 24 0 (6 * c + j) = ρ 23 0 (6 * c + j)) && (!decide (ρ 34 0 j = ρ 23 0 (6 * c + j)) && !decide (ρ 34 0 j = ρ 24 0 (6 * c + j)))) = false
          first
            | (simp [c_36]; done)
            | (simp [c_46]; done)
            | (simp [c_57]; done)
        rw [anyU, h9, Bool.false_or] at k1 k2
        exact ih (by omega) k1 k2
      · refine a_aload_n dX8_conflicts_49 rfl ?_
        refine c_getR (t := 7) (k := 28) dX8_conflicts_50 kw_106 rfl ?_
        refine a_iload_n dX8_conflicts_53 rfl ?_
        refine c_iald (i := j) dX8_conflicts_54 rfl (show j < 6 by omega) ?_
        refine a_iload dX8_conflicts_55 rfl ?_
        refine a_icmp_eq (tgt := 62) dX8_conflicts_57 (by decide) (fun c_57 => ?_) (fun c_57 => ?_)
        · refine a_iinc_2 (u := nI (j + 1)) dX8_conflicts_62 (inc_nI j) (by decide) ?_
          refine a_goto (tgt := 2) dX8_conflicts_65 (by decide) ?_
          have h9 : (cfl (bs ρ c) (ow ρ c) (ρ 34 0)) j = false := by
            show (!decide (ρ 24 0 (6 * c + j) = ρ 23 0 (6 * c + j)) && (!decide (ρ 34 0 j = ρ 23 0 (6 * c + j)) && !decide (ρ 34 0 j = ρ 24 0 (6 * c + j)))) = false
            first
              | (simp [c_36]; done)
              | (simp [c_46]; done)
              | (simp [c_57]; done)
          rw [anyU, h9, Bool.false_or] at k1 k2
          exact ih (by omega) k1 k2
        · refine a_iconst (v := 1) dX8_conflicts_60 (by decide) ?_
          exact c_zret dX8_conflicts_61 (k1 (by have h9 : (cfl (bs ρ c) (ow ρ c) (ρ 34 0)) j = true := (by show (!decide (ρ 24 0 (6 * c + j) = ρ 23 0 (6 * c + j)) && (!decide (ρ 34 0 j = ρ 23 0 (6 * c + j)) && !decide (ρ 34 0 j = ρ 24 0 (6 * c + j)))) = true; simp [c_46, c_57, Ne.symm c_36]); rw [anyU, h9]; rfl))
set_option maxRecDepth 10000 in
theorem L_X8_cf2 {l : Launch} {w : WW} {Φ : Option Value → XX → Prop} {M : Mem} {ρ : Sg} {c : Nat} (hc : c < 16) : ∀ (n : Nat) {j : Nat} {v3 v4 : Option Value}, j + n = 6 → A l w yX8_conflicts cX8_conflicts 5 (some .boolean) (rmd 1) Φ 133 [some (.ref (ad w 2 7 0)), some (.int (nI c)), some (.int (nI 6)), v3, v4] [] (zx w M 2 (sga ρ 34 0 (mixN 6 (mrg (bs ρ c) (ow ρ c) (ρ 34 0)) (ρ 34 0)))) 0 0 → A l w yX8_conflicts cX8_conflicts 5 (some .boolean) (rmd 1) Φ 70 [some (.ref (ad w 2 7 0)), some (.int (nI c)), some (.int (nI j)), v3, v4] [] (zx w M 2 (sga ρ 34 0 (mixN j (mrg (bs ρ c) (ow ρ c) (ρ 34 0)) (ρ 34 0)))) 0 0 := by
  intro n
  induction n with
  | zero =>
    intro j v3 v4 hj kk
    refine a_iload_n dX8_conflicts_70 rfl ?_
    refine a_bipush (v := 6) dX8_conflicts_71 (by decide) ?_
    refine a_icmp_ge (tgt := 133) dX8_conflicts_73 (by decide) (fun c_73 => ?_) (fun c_73 => absurd (by have e6 : j = 6 := (by omega); subst e6; decide) c_73)
    obtain rfl : j = 6 := by omega
    exact kk
  | succ n ih =>
    intro j v3 v4 hj kk
    refine a_iload_n dX8_conflicts_70 rfl ?_
    refine a_bipush (v := 6) dX8_conflicts_71 (by decide) ?_
    refine a_icmp_ge (tgt := 133) dX8_conflicts_73 (by decide) (fun c_73 => absurd c_73 (nI_ge (b := 6) (by omega) (by omega))) (fun c_73 => ?_)
    refine a_aload_n dX8_conflicts_76 rfl ?_
    refine c_getR (t := 7) (k := 28) dX8_conflicts_77 kw_106 rfl ?_
    refine a_iload_n dX8_conflicts_80 rfl ?_
    refine a_aload_n dX8_conflicts_81 rfl ?_
    refine c_getR (t := 7) (k := 15) dX8_conflicts_82 kw_96 rfl ?_
    refine a_bipush (v := 6) dX8_conflicts_85 (by decide) ?_
    refine a_iload_n dX8_conflicts_87 rfl ?_
    refine a_imul dX8_conflicts_88 ?_
    refine a_iload_n dX8_conflicts_89 rfl ?_
    refine a_iadd dX8_conflicts_90 ?_
    refine c_iald (i := 6 * c + j) dX8_conflicts_91 (nI_6 c j) (show 6 * c + j < 96 by omega) ?_
    refine a_aload_n dX8_conflicts_92 rfl ?_
    refine c_getR (t := 7) (k := 14) dX8_conflicts_93 kw_95 rfl ?_
    refine a_bipush (v := 6) dX8_conflicts_96 (by decide) ?_
    refine a_iload_n dX8_conflicts_98 rfl ?_
    refine a_imul dX8_conflicts_99 ?_
    refine a_iload_n dX8_conflicts_100 rfl ?_
    refine a_iadd dX8_conflicts_101 ?_
    refine c_iald (i := 6 * c + j) dX8_conflicts_102 (nI_6 c j) (show 6 * c + j < 96 by omega) ?_
    refine a_icmp_eq (tgt := 120) dX8_conflicts_103 (by decide) (fun c_103 => ?_) (fun c_103 => ?_)
    · refine a_aload_n dX8_conflicts_120 rfl ?_
      refine c_getR (t := 7) (k := 28) dX8_conflicts_121 kw_106 rfl ?_
      refine a_iload_n dX8_conflicts_124 rfl ?_
      refine c_iald (i := j) dX8_conflicts_125 rfl (show j < 6 by omega) ?_
      refine c_iast (i := j) dX8_conflicts_126 rfl (show j < 6 by omega) ?_
      refine a_iinc_2 (u := nI (j + 1)) dX8_conflicts_127 (inc_nI j) (by decide) ?_
      refine a_goto (tgt := 70) dX8_conflicts_130 (by decide) ?_
      rw [sga_t (by decide), sga_t (by decide)] at c_103
      first
        | (rw [st_mix (g := mrg (bs ρ c) (ow ρ c) (ρ 34 0)) (by rw [sga_same, mixN_at (Nat.le_refl j)]; exact if_pos c_103)]; exact ih (by omega) kk)
        | (rw [st_mix (g := mrg (bs ρ c) (ow ρ c) (ρ 34 0)) (by rw [sga_t (by decide)]; exact if_neg c_103)]; exact ih (by omega) kk)
    · refine a_aload_n dX8_conflicts_106 rfl ?_
      refine c_getR (t := 7) (k := 15) dX8_conflicts_107 kw_96 rfl ?_
      refine a_bipush (v := 6) dX8_conflicts_110 (by decide) ?_
      refine a_iload_n dX8_conflicts_112 rfl ?_
      refine a_imul dX8_conflicts_113 ?_
      refine a_iload_n dX8_conflicts_114 rfl ?_
      refine a_iadd dX8_conflicts_115 ?_
      refine c_iald (i := 6 * c + j) dX8_conflicts_116 (nI_6 c j) (show 6 * c + j < 96 by omega) ?_
      refine a_goto (tgt := 126) dX8_conflicts_117 (by decide) ?_
      refine c_iast (i := j) dX8_conflicts_126 rfl (show j < 6 by omega) ?_
      refine a_iinc_2 (u := nI (j + 1)) dX8_conflicts_127 (inc_nI j) (by decide) ?_
      refine a_goto (tgt := 70) dX8_conflicts_130 (by decide) ?_
      rw [sga_t (by decide), sga_t (by decide)] at c_103
      first
        | (rw [st_mix (g := mrg (bs ρ c) (ow ρ c) (ρ 34 0)) (by rw [sga_same, mixN_at (Nat.le_refl j)]; exact if_pos c_103)]; exact ih (by omega) kk)
        | (rw [st_mix (g := mrg (bs ρ c) (ow ρ c) (ρ 34 0)) (by rw [sga_t (by decide)]; exact if_neg c_103)]; exact ih (by omega) kk)
set_option maxRecDepth 10000 in
theorem s_X8_conflicts {l : Launch} {w : WW} {M : Mem} {ρ : Sg} {c : Nat} (hc : c < 16) : Can l w yX8_conflicts cX8_conflicts 5 (some .boolean) (rmd 1) [.ref (ad w 2 7 0), .int (nI c)] (zx w M 2 ρ) (RI (bi (cfR ρ c)) (zx w M 2 (if cfR ρ c = true then ρ else mgR ρ c))) := by
  refine Can.go (ls := [some (.ref (ad w 2 7 0)), some (.int (nI c)), none, none, none]) ?_
  refine a_iconst (v := 0) dX8_conflicts_0 (by decide) ?_
  refine a_istore_2 dX8_conflicts_1 (by decide) ?_
  refine L_X8_cf1 hc 6 rfl (fun h => ?_) (fun h u3 u4 => ?_)
  · exact ⟨by rw [show cfR ρ c = true from h]; rfl, by rw [if_pos (show cfR ρ c = true from h)]⟩
  · refine a_iconst (v := 0) dX8_conflicts_68 (by decide) ?_
    refine a_istore_2 dX8_conflicts_69 (by decide) ?_
    refine a_eq (x' := zx w M 2 (sga ρ 34 0 (mixN 0 (mrg (bs ρ c) (ow ρ c) (ρ 34 0)) (ρ 34 0)))) (by rw [mix_st]) ?_
    refine L_X8_cf2 hc 6 rfl ?_
    refine c_junk (M' := M) (σ' := mgR ρ c) (junkA (by decide) (fun k hk => (if_pos hk).symm)) ?_
    refine a_iconst (v := 0) dX8_conflicts_133 (by decide) ?_
    exact c_zret dX8_conflicts_134 ⟨by rw [show cfR ρ c = false from h]; rfl, by rw [if_neg (by rw [show cfR ρ c = false from h]; decide)]⟩
set_option maxRecDepth 10000 in
theorem L_X8_startTree {l : Launch} {w : WW} {Φ : Option Value → XX → Prop} {M : Mem} {ρ : Sg}  : ∀ (n : Nat) {j : Nat}, j + n = 6 → A l w yX8_startTree cX8_startTree 2 none (rmd 1) Φ 26 [some (.ref (ad w 2 7 0)), some (.int (nI 6))] [] (zx w M 2 (sga ρ 34 0 (mixN 6 (ρ 22 0) (ρ 34 0)))) 0 0 → A l w yX8_startTree cX8_startTree 2 none (rmd 1) Φ 2 [some (.ref (ad w 2 7 0)), some (.int (nI j))] [] (zx w M 2 (sga ρ 34 0 (mixN j (ρ 22 0) (ρ 34 0)))) 0 0 := by
  intro n
  induction n with
  | zero =>
    intro j hj kk
    refine a_iload_n dX8_startTree_2 rfl ?_
    refine a_bipush (v := 6) dX8_startTree_3 (by decide) ?_
    refine a_icmp_ge (tgt := 26) dX8_startTree_5 (by decide) (fun c_5 => ?_) (fun c_5 => absurd (by have e6 : j = 6 := (by omega); subst e6; decide) c_5)
    obtain rfl : j = 6 := by omega
    exact kk
  | succ n ih =>
    intro j hj kk
    refine a_iload_n dX8_startTree_2 rfl ?_
    refine a_bipush (v := 6) dX8_startTree_3 (by decide) ?_
    refine a_icmp_ge (tgt := 26) dX8_startTree_5 (by decide) (fun c_5 => absurd c_5 (nI_ge (b := 6) (by omega) (by omega))) (fun c_5 => ?_)
    refine a_aload_n dX8_startTree_8 rfl ?_
    refine c_getR (t := 7) (k := 28) dX8_startTree_9 kw_106 rfl ?_
    refine a_iload_n dX8_startTree_12 rfl ?_
    refine a_aload_n dX8_startTree_13 rfl ?_
    refine c_getR (t := 7) (k := 10) dX8_startTree_14 kw_94 rfl ?_
    refine a_iload_n dX8_startTree_17 rfl ?_
    refine c_iald (i := j) dX8_startTree_18 rfl (show j < 6 by omega) ?_
    refine c_iast (i := j) dX8_startTree_19 rfl (show j < 6 by omega) ?_
    refine a_iinc_1 (u := nI (j + 1)) dX8_startTree_20 (inc_nI j) (by decide) ?_
    refine a_goto (tgt := 2) dX8_startTree_23 (by decide) ?_
    rw [st_mix (g := ρ 22 0) (by rw [sga_t (by decide)])]
    exact ih (by omega) kk
set_option maxRecDepth 10000 in
theorem s_X8_startTree {l : Launch} {w : WW} {M : Mem} {ρ : Sg}  : Can l w yX8_startTree cX8_startTree 2 none (rmd 1) [.ref (ad w 2 7 0)] (zx w M 2 ρ) (RV (zx w M 2 (sga ρ 34 0 (ρ 22 0)))) := by
  refine Can.go (ls := [some (.ref (ad w 2 7 0)), none]) ?_
  refine a_iconst (v := 0) dX8_startTree_0 (by decide) ?_
  refine a_istore_1 dX8_startTree_1 (by decide) ?_
  refine a_eq (x' := zx w M 2 (sga ρ 34 0 (mixN 0 (ρ 22 0) (ρ 34 0)))) (by rw [mix_st]) ?_
  refine L_X8_startTree 6 rfl ?_
  refine c_junk (M' := M) (σ' := sga ρ 34 0 (ρ 22 0)) (junkA (by decide) (fun k hk => (if_pos hk).symm)) ?_
  exact c_vret dX8_startTree_26 ⟨rfl, rfl⟩
set_option maxRecDepth 10000 in
theorem s_X8_bit {l : Launch} {w : WW} {M : Mem} {ρ : Sg} {p k : Int32} (hp : ρ 34 0 0 = p) : Can l w yX8_bit cX8_bit 2 (some .boolean) (rmd 1) [.ref (ad w 2 7 0), .int k] (zx w M 2 ρ) (RI (bi (tb p k)) (zx w M 2 ρ)) := by
  refine Can.go (ls := [some (.ref (ad w 2 7 0)), some (.int k)]) ?_
  refine a_aload_n dX8_bit_0 rfl ?_
  refine c_getR (t := 7) (k := 28) dX8_bit_1 kw_106 rfl ?_
  refine a_iconst (v := 0) dX8_bit_4 (by decide) ?_
  refine c_iald (i := 0) dX8_bit_5 nI_0.symm (by decide) ?_
  rw [hp]
  refine a_iload_n dX8_bit_6 rfl ?_
  refine a_ishr dX8_bit_7 ?_
  refine a_iconst (v := 1) dX8_bit_8 (by decide) ?_
  refine a_iand dX8_bit_9 ?_
  refine a_iconst (v := 1) dX8_bit_10 (by decide) ?_
  refine a_icmp_ne (tgt := 18) dX8_bit_11 (by decide) (fun c_11 => ?_) (fun c_11 => ?_)
  · refine a_iconst (v := 0) dX8_bit_18 (by decide) ?_
    exact c_zret dX8_bit_19 ⟨by first | rw [tb_1 c_11]; rfl | rw [tb_0 c_11]; rfl, rfl⟩
  · refine a_iconst (v := 1) dX8_bit_14 (by decide) ?_
    refine a_goto (tgt := 19) dX8_bit_15 (by decide) ?_
    exact c_zret dX8_bit_19 ⟨by first | rw [tb_1 c_11]; rfl | rw [tb_0 c_11]; rfl, rfl⟩
set_option maxRecDepth 10000 in
theorem s_X8_there {l : Launch} {w : WW} {M : Mem} {ρ : Sg} {p k : Int32} (hp : ρ 34 0 0 = p) : Can l w yX8_there cX8_there 2 (some .boolean) (rmd 2) [.ref (ad w 2 7 0), .int k] (zx w M 2 ρ) (RI (bi (tb p k)) (zx w M 2 ρ)) := by
  refine Can.go (ls := [some (.ref (ad w 2 7 0)), some (.int k)]) ?_
  refine a_aload_n dX8_there_0 rfl ?_
  refine a_iload_n dX8_there_1 rfl ?_
  refine c_V1I dX8_there_2 kw_449 kv_X8_bit (s_X8_bit hp) ?_
  exact c_zret dX8_there_5 ⟨rfl, rfl⟩ (hn := bi_nar _)
set_option maxRecDepth 10000 in
theorem s_X8_required {l : Launch} {w : WW} {M : Mem} {ρ : Sg} {p k : Int32} (hp : ρ 34 0 0 = p) : Can l w yX8_required cX8_required 2 (some .boolean) (rmd 2) [.ref (ad w 2 7 0), .int k] (zx w M 2 ρ) (RI (bi (rq p k)) (zx w M 2 ρ)) := by
  refine Can.go (ls := [some (.ref (ad w 2 7 0)), some (.int k)]) ?_
  refine a_aload_n dX8_required_0 rfl ?_
  refine a_iload_n dX8_required_1 rfl ?_
  refine c_V1I dX8_required_2 kw_449 kv_X8_bit (s_X8_bit hp) ?_
  refine a_if_eq (tgt := 22) dX8_required_5 (by decide) (fun c_5 => ?_) (fun c_5 => ?_)
  · refine a_iconst (v := 0) dX8_required_22 (by decide) ?_
    exact c_zret dX8_required_23 ⟨by first | (rw [rq, bi_n0.mp c_5, bi_n0.mp c_15]; rfl) | (rw [rq, bi_n0.mp c_5, bi_0.mp c_15]; rfl) | (rw [rq, bi_0.mp c_5]; rfl), rfl⟩
  · refine a_aload_n dX8_required_8 rfl ?_
    refine a_iconst (v := 4) dX8_required_9 (by decide) ?_
    refine a_iload_n dX8_required_10 rfl ?_
    refine a_iadd dX8_required_11 ?_
    refine c_V1I dX8_required_12 kw_449 kv_X8_bit (s_X8_bit hp) ?_
    refine a_if_eq (tgt := 22) dX8_required_15 (by decide) (fun c_15 => ?_) (fun c_15 => ?_)
    · refine a_iconst (v := 0) dX8_required_22 (by decide) ?_
      exact c_zret dX8_required_23 ⟨by first | (rw [rq, bi_n0.mp c_5, bi_n0.mp c_15]; rfl) | (rw [rq, bi_n0.mp c_5, bi_0.mp c_15]; rfl) | (rw [rq, bi_0.mp c_5]; rfl), rfl⟩
    · refine a_iconst (v := 1) dX8_required_18 (by decide) ?_
      refine a_goto (tgt := 23) dX8_required_19 (by decide) ?_
      exact c_zret dX8_required_23 ⟨by first | (rw [rq, bi_n0.mp c_5, bi_n0.mp c_15]; rfl) | (rw [rq, bi_n0.mp c_5, bi_0.mp c_15]; rfl) | (rw [rq, bi_0.mp c_5]; rfl), rfl⟩
set_option maxRecDepth 10000 in
theorem s_X8_needs {l : Launch} {w : WW} {M : Mem} {ρ : Sg} {p j k : Int32} (hp : ρ 34 0 0 = p) : Can l w yX8_needs cX8_needs 3 (some .boolean) (rmd 2) [.ref (ad w 2 7 0), .int j, .int k] (zx w M 2 ρ) (RI (bi (ned p j k)) (zx w M 2 ρ)) := by
  refine Can.go (ls := [some (.ref (ad w 2 7 0)), some (.int j), some (.int k)]) ?_
  refine a_aload_n dX8_needs_0 rfl ?_
  refine a_iload_n dX8_needs_1 rfl ?_
  refine c_V1I dX8_needs_2 kw_449 kv_X8_bit (s_X8_bit hp) ?_
  refine a_if_eq (tgt := 27) dX8_needs_5 (by decide) (fun c_5 => ?_) (fun c_5 => ?_)
  · refine a_iconst (v := 0) dX8_needs_27 (by decide) ?_
    exact c_zret dX8_needs_28 ⟨by first | (rw [ned, bi_n0.mp c_5, bi_n0.mp c_20]; rfl) | (rw [ned, bi_n0.mp c_5, bi_0.mp c_20]; rfl) | (rw [ned, bi_0.mp c_5]; rfl), rfl⟩
  · refine a_aload_n dX8_needs_8 rfl ?_
    refine a_bipush (v := 8) dX8_needs_9 (by decide) ?_
    refine a_iconst (v := 4) dX8_needs_11 (by decide) ?_
    refine a_iload_n dX8_needs_12 rfl ?_
    refine a_imul dX8_needs_13 ?_
    refine a_iadd dX8_needs_14 ?_
    refine a_iload_n dX8_needs_15 rfl ?_
    refine a_iadd dX8_needs_16 ?_
    refine c_V1I dX8_needs_17 kw_449 kv_X8_bit (s_X8_bit hp) ?_
    refine a_if_eq (tgt := 27) dX8_needs_20 (by decide) (fun c_20 => ?_) (fun c_20 => ?_)
    · refine a_iconst (v := 0) dX8_needs_27 (by decide) ?_
      exact c_zret dX8_needs_28 ⟨by first | (rw [ned, bi_n0.mp c_5, bi_n0.mp c_20]; rfl) | (rw [ned, bi_n0.mp c_5, bi_0.mp c_20]; rfl) | (rw [ned, bi_0.mp c_5]; rfl), rfl⟩
    · refine a_iconst (v := 1) dX8_needs_23 (by decide) ?_
      refine a_goto (tgt := 28) dX8_needs_24 (by decide) ?_
      exact c_zret dX8_needs_28 ⟨by first | (rw [ned, bi_n0.mp c_5, bi_n0.mp c_20]; rfl) | (rw [ned, bi_n0.mp c_5, bi_0.mp c_20]; rfl) | (rw [ned, bi_0.mp c_5]; rfl), rfl⟩
set_option maxRecDepth 10000 in
theorem L_X8_c4a {l : Launch} {w : WW} {Φ : Option Value → XX → Prop} {M : Mem} {ρ : Sg} {p : Int32} (hp : ρ 34 0 0 = p) : ∀ (n : Nat) {j : Nat} {v2 : Option Value}, j + n = 16 → A l w yX8_close4 cX8_close4 3 none (rmd 3) Φ 30 [some (.ref (ad w 2 7 0)), some (.int (nI 16)), v2] [] (zx w M 2 (sga ρ 35 0 (mixN 16 (lm (ld0 p)) (ρ 35 0)))) 0 0 → A l w yX8_close4 cX8_close4 3 none (rmd 3) Φ 2 [some (.ref (ad w 2 7 0)), some (.int (nI j)), v2] [] (zx w M 2 (sga ρ 35 0 (mixN j (lm (ld0 p)) (ρ 35 0)))) 0 0 := by
  intro n
  induction n with
  | zero =>
    intro j v2 hj kk
    refine a_iload_n dX8_close4_2 rfl ?_
    refine a_bipush (v := 16) dX8_close4_3 (by decide) ?_
    refine a_icmp_ge (tgt := 30) dX8_close4_5 (by decide) (fun c_5 => ?_) (fun c_5 => absurd (by have e6 : j = 16 := (by omega); subst e6; decide) c_5)
    obtain rfl : j = 16 := by omega
    exact kk
  | succ n ih =>
    intro j v2 hj kk
    refine a_iload_n dX8_close4_2 rfl ?_
    refine a_bipush (v := 16) dX8_close4_3 (by decide) ?_
    refine a_icmp_ge (tgt := 30) dX8_close4_5 (by decide) (fun c_5 => absurd c_5 (nI_ge (b := 16) (by omega) (by omega))) (fun c_5 => ?_)
    refine a_aload_n dX8_close4_8 rfl ?_
    refine c_getR (t := 7) (k := 29) dX8_close4_9 kw_108 rfl ?_
    refine a_iload_n dX8_close4_12 rfl ?_
    refine a_aload_n dX8_close4_13 rfl ?_
    refine a_iload_n dX8_close4_14 rfl ?_
    refine a_iconst (v := 4) dX8_close4_15 (by decide) ?_
    refine a_idiv dX8_close4_16 (by decide) ?_
    refine a_iload_n dX8_close4_17 rfl ?_
    refine a_iconst (v := 4) dX8_close4_18 (by decide) ?_
    refine a_irem dX8_close4_19 (by decide) ?_
    rw [nI_r4 j (by omega), nI_d4 j (by omega)]
    refine c_V2I dX8_close4_20 kw_445 kv_X8_needs (s_X8_needs (p := p) (by rw [sga_t (by decide)]; exact hp)) ?_
    refine c_zast (i := j) dX8_close4_23 rfl (show j < 16 by omega) (vp_bi _) ?_
    refine a_iinc_1 (u := nI (j + 1)) dX8_close4_24 (inc_nI j) (by decide) ?_
    refine a_goto (tgt := 2) dX8_close4_27 (by decide) ?_
    rw [st_mix (g := lm (ld0 p)) (v := bi (ned p (nI (j / 4)) (nI (j % 4)))) rfl]
    exact ih (by omega) kk
set_option maxRecDepth 10000 in
theorem L_X8_c4b {l : Launch} {w : WW} {Φ : Option Value → XX → Prop} {M : Mem} {ρ : Sg} {m : Nat} (hm : m < 4) : ∀ (n : Nat) {q : Nat} {L : Nat → Bool}, q + n = 16 → A l w yX8_close4 cX8_close4 3 none (rmd 3) Φ 101 [some (.ref (ad w 2 7 0)), some (.int (nI m)), some (.int (nI 16))] [] (zx w M 2 (sga ρ 35 0 (lm (wsI m n q L)))) 0 0 → A l w yX8_close4 cX8_close4 3 none (rmd 3) Φ 39 [some (.ref (ad w 2 7 0)), some (.int (nI m)), some (.int (nI q))] [] (zx w M 2 (sga ρ 35 0 (lm (L)))) 0 0 := by
  intro n
  induction n with
  | zero =>
    intro q L hq kk
    refine a_iload_n dX8_close4_39 rfl ?_
    refine a_bipush (v := 16) dX8_close4_40 (by decide) ?_
    refine a_icmp_ge (tgt := 101) dX8_close4_42 (by decide) (fun c_42 => ?_) (fun c_42 => absurd (by have e6 : q = 16 := (by omega); subst e6; decide) c_42)
    obtain rfl : q = 16 := by omega
    exact kk
  | succ n ih =>
    intro q L hq kk
    refine a_iload_n dX8_close4_39 rfl ?_
    refine a_bipush (v := 16) dX8_close4_40 (by decide) ?_
    refine a_icmp_ge (tgt := 101) dX8_close4_42 (by decide) (fun c_42 => absurd c_42 (nI_ge (b := 16) (by omega) (by omega))) (fun c_42 => ?_)
    refine a_aload_n dX8_close4_45 rfl ?_
    refine c_getR (t := 7) (k := 29) dX8_close4_46 kw_108 rfl ?_
    refine a_iload_n dX8_close4_49 rfl ?_
    refine a_aload_n dX8_close4_50 rfl ?_
    refine c_getR (t := 7) (k := 29) dX8_close4_51 kw_108 rfl ?_
    refine a_iload_n dX8_close4_54 rfl ?_
    refine c_zald (i := q) dX8_close4_55 rfl (show q < 16 by omega) ?_
    refine a_if_ne (tgt := 89) dX8_close4_56 (by decide) (fun c_56 => ?_) (fun c_56 => ?_)
    · refine a_iconst (v := 1) dX8_close4_89 (by decide) ?_
      refine a_goto (tgt := 94) dX8_close4_90 (by decide) ?_
      refine c_zast (i := q) dX8_close4_94 rfl (show q < 16 by omega) rfl ?_
      refine a_iinc_2 (u := nI (q + 1)) dX8_close4_95 (inc_nI q) (by decide) ?_
      refine a_goto (tgt := 39) dX8_close4_98 (by decide) ?_
      first
        | (rw [wst_st (m := m) (by
            have h1 := bi_n0.mp (show ¬ bi (L q) = 0 by rw [sga_same] at c_56; exact c_56)
            rw [h1]; rfl)]; exact ih (by omega) kk)
        | (rw [wst_st (m := m) (by
            have h1 := bi_0.mp (show bi (L q) = 0 by rw [sga_same] at c_56; exact c_56)
            have h2 := bi_0.mp (show bi (L (4 * (q / 4) + m)) = 0 by rw [sga_same] at c_71; exact c_71)
            rw [h1, h2]; rfl)]; exact ih (by omega) kk)
        | (rw [wst_st (m := m) (by
            have h1 := bi_0.mp (show bi (L q) = 0 by rw [sga_same] at c_56; exact c_56)
            have h2 := bi_n0.mp (show ¬ bi (L (4 * (q / 4) + m)) = 0 by rw [sga_same] at c_71; exact c_71)
            have h3 := bi_0.mp (show bi (L (4 * m + q % 4)) = 0 by rw [sga_same] at c_86; exact c_86)
            rw [h1, h2, h3]; rfl)]; exact ih (by omega) kk)
        | (rw [wst_st (m := m) (by
            have h1 := bi_0.mp (show bi (L q) = 0 by rw [sga_same] at c_56; exact c_56)
            have h2 := bi_n0.mp (show ¬ bi (L (4 * (q / 4) + m)) = 0 by rw [sga_same] at c_71; exact c_71)
            have h3 := bi_n0.mp (show ¬ bi (L (4 * m + q % 4)) = 0 by rw [sga_same] at c_86; exact c_86)
            rw [h1, h2, h3]; rfl)]; exact ih (by omega) kk)
    · refine a_aload_n dX8_close4_59 rfl ?_
      refine c_getR (t := 7) (k := 29) dX8_close4_60 kw_108 rfl ?_
      refine a_iconst (v := 4) dX8_close4_63 (by decide) ?_
      refine a_iload_n dX8_close4_64 rfl ?_
      refine a_iconst (v := 4) dX8_close4_65 (by decide) ?_
      refine a_idiv dX8_close4_66 (by decide) ?_
      refine a_imul dX8_close4_67 ?_
      refine a_iload_n dX8_close4_68 rfl ?_
      refine a_iadd dX8_close4_69 ?_
      refine c_zald (i := 4 * (q / 4) + m) dX8_close4_70 (nI_w1 q (by omega) m hm) (show 4 * (q / 4) + m < 16 by omega) ?_
      refine a_if_eq (tgt := 93) dX8_close4_71 (by decide) (fun c_71 => ?_) (fun c_71 => ?_)
      · refine a_iconst (v := 0) dX8_close4_93 (by decide) ?_
        refine c_zast (i := q) dX8_close4_94 rfl (show q < 16 by omega) rfl ?_
        refine a_iinc_2 (u := nI (q + 1)) dX8_close4_95 (inc_nI q) (by decide) ?_
        refine a_goto (tgt := 39) dX8_close4_98 (by decide) ?_
        first
          | (rw [wst_st (m := m) (by
              have h1 := bi_n0.mp (show ¬ bi (L q) = 0 by rw [sga_same] at c_56; exact c_56)
              rw [h1]; rfl)]; exact ih (by omega) kk)
          | (rw [wst_st (m := m) (by
              have h1 := bi_0.mp (show bi (L q) = 0 by rw [sga_same] at c_56; exact c_56)
              have h2 := bi_0.mp (show bi (L (4 * (q / 4) + m)) = 0 by rw [sga_same] at c_71; exact c_71)
              rw [h1, h2]; rfl)]; exact ih (by omega) kk)
          | (rw [wst_st (m := m) (by
              have h1 := bi_0.mp (show bi (L q) = 0 by rw [sga_same] at c_56; exact c_56)
              have h2 := bi_n0.mp (show ¬ bi (L (4 * (q / 4) + m)) = 0 by rw [sga_same] at c_71; exact c_71)
              have h3 := bi_0.mp (show bi (L (4 * m + q % 4)) = 0 by rw [sga_same] at c_86; exact c_86)
              rw [h1, h2, h3]; rfl)]; exact ih (by omega) kk)
          | (rw [wst_st (m := m) (by
              have h1 := bi_0.mp (show bi (L q) = 0 by rw [sga_same] at c_56; exact c_56)
              have h2 := bi_n0.mp (show ¬ bi (L (4 * (q / 4) + m)) = 0 by rw [sga_same] at c_71; exact c_71)
              have h3 := bi_n0.mp (show ¬ bi (L (4 * m + q % 4)) = 0 by rw [sga_same] at c_86; exact c_86)
              rw [h1, h2, h3]; rfl)]; exact ih (by omega) kk)
      · refine a_aload_n dX8_close4_74 rfl ?_
        refine c_getR (t := 7) (k := 29) dX8_close4_75 kw_108 rfl ?_
        refine a_iconst (v := 4) dX8_close4_78 (by decide) ?_
        refine a_iload_n dX8_close4_79 rfl ?_
        refine a_imul dX8_close4_80 ?_
        refine a_iload_n dX8_close4_81 rfl ?_
        refine a_iconst (v := 4) dX8_close4_82 (by decide) ?_
        refine a_irem dX8_close4_83 (by decide) ?_
        refine a_iadd dX8_close4_84 ?_
        refine c_zald (i := 4 * m + q % 4) dX8_close4_85 (nI_w2 q (by omega) m hm) (show 4 * m + q % 4 < 16 by omega) ?_
        refine a_if_eq (tgt := 93) dX8_close4_86 (by decide) (fun c_86 => ?_) (fun c_86 => ?_)
        · refine a_iconst (v := 0) dX8_close4_93 (by decide) ?_
          refine c_zast (i := q) dX8_close4_94 rfl (show q < 16 by omega) rfl ?_
          refine a_iinc_2 (u := nI (q + 1)) dX8_close4_95 (inc_nI q) (by decide) ?_
          refine a_goto (tgt := 39) dX8_close4_98 (by decide) ?_
          first
            | (rw [wst_st (m := m) (by
                have h1 := bi_n0.mp (show ¬ bi (L q) = 0 by rw [sga_same] at c_56; exact c_56)
                rw [h1]; rfl)]; exact ih (by omega) kk)
            | (rw [wst_st (m := m) (by
                have h1 := bi_0.mp (show bi (L q) = 0 by rw [sga_same] at c_56; exact c_56)
                have h2 := bi_0.mp (show bi (L (4 * (q / 4) + m)) = 0 by rw [sga_same] at c_71; exact c_71)
                rw [h1, h2]; rfl)]; exact ih (by omega) kk)
            | (rw [wst_st (m := m) (by
                have h1 := bi_0.mp (show bi (L q) = 0 by rw [sga_same] at c_56; exact c_56)
                have h2 := bi_n0.mp (show ¬ bi (L (4 * (q / 4) + m)) = 0 by rw [sga_same] at c_71; exact c_71)
                have h3 := bi_0.mp (show bi (L (4 * m + q % 4)) = 0 by rw [sga_same] at c_86; exact c_86)
                rw [h1, h2, h3]; rfl)]; exact ih (by omega) kk)
            | (rw [wst_st (m := m) (by
                have h1 := bi_0.mp (show bi (L q) = 0 by rw [sga_same] at c_56; exact c_56)
                have h2 := bi_n0.mp (show ¬ bi (L (4 * (q / 4) + m)) = 0 by rw [sga_same] at c_71; exact c_71)
                have h3 := bi_n0.mp (show ¬ bi (L (4 * m + q % 4)) = 0 by rw [sga_same] at c_86; exact c_86)
                rw [h1, h2, h3]; rfl)]; exact ih (by omega) kk)
        · refine a_iconst (v := 1) dX8_close4_89 (by decide) ?_
          refine a_goto (tgt := 94) dX8_close4_90 (by decide) ?_
          refine c_zast (i := q) dX8_close4_94 rfl (show q < 16 by omega) rfl ?_
          refine a_iinc_2 (u := nI (q + 1)) dX8_close4_95 (inc_nI q) (by decide) ?_
          refine a_goto (tgt := 39) dX8_close4_98 (by decide) ?_
          first
            | (rw [wst_st (m := m) (by
                have h1 := bi_n0.mp (show ¬ bi (L q) = 0 by rw [sga_same] at c_56; exact c_56)
                rw [h1]; rfl)]; exact ih (by omega) kk)
            | (rw [wst_st (m := m) (by
                have h1 := bi_0.mp (show bi (L q) = 0 by rw [sga_same] at c_56; exact c_56)
                have h2 := bi_0.mp (show bi (L (4 * (q / 4) + m)) = 0 by rw [sga_same] at c_71; exact c_71)
                rw [h1, h2]; rfl)]; exact ih (by omega) kk)
            | (rw [wst_st (m := m) (by
                have h1 := bi_0.mp (show bi (L q) = 0 by rw [sga_same] at c_56; exact c_56)
                have h2 := bi_n0.mp (show ¬ bi (L (4 * (q / 4) + m)) = 0 by rw [sga_same] at c_71; exact c_71)
                have h3 := bi_0.mp (show bi (L (4 * m + q % 4)) = 0 by rw [sga_same] at c_86; exact c_86)
                rw [h1, h2, h3]; rfl)]; exact ih (by omega) kk)
            | (rw [wst_st (m := m) (by
                have h1 := bi_0.mp (show bi (L q) = 0 by rw [sga_same] at c_56; exact c_56)
                have h2 := bi_n0.mp (show ¬ bi (L (4 * (q / 4) + m)) = 0 by rw [sga_same] at c_71; exact c_71)
                have h3 := bi_n0.mp (show ¬ bi (L (4 * m + q % 4)) = 0 by rw [sga_same] at c_86; exact c_86)
                rw [h1, h2, h3]; rfl)]; exact ih (by omega) kk)
set_option maxRecDepth 10000 in
theorem L_X8_c4c {l : Launch} {w : WW} {Φ : Option Value → XX → Prop} {M : Mem} {ρ : Sg}  : ∀ (n : Nat) {m : Nat} {L : Nat → Bool} {v2 : Option Value}, m + n = 4 → (∀ u2, A l w yX8_close4 cX8_close4 3 none (rmd 3) Φ 107 [some (.ref (ad w 2 7 0)), some (.int (nI 4)), u2] [] (zx w M 2 (sga ρ 35 0 (lm (wsO n m L)))) 0 0) → A l w yX8_close4 cX8_close4 3 none (rmd 3) Φ 32 [some (.ref (ad w 2 7 0)), some (.int (nI m)), v2] [] (zx w M 2 (sga ρ 35 0 (lm (L)))) 0 0 := by
  intro n
  induction n with
  | zero =>
    intro m L v2 hm kk
    refine a_iload_n dX8_close4_32 rfl ?_
    refine a_iconst (v := 4) dX8_close4_33 (by decide) ?_
    refine a_icmp_ge (tgt := 107) dX8_close4_34 (by decide) (fun c_34 => ?_) (fun c_34 => absurd (by have e6 : m = 4 := (by omega); subst e6; decide) c_34)
    obtain rfl : m = 4 := by omega
    exact kk _
  | succ n ih =>
    intro m L v2 hm kk
    refine a_iload_n dX8_close4_32 rfl ?_
    refine a_iconst (v := 4) dX8_close4_33 (by decide) ?_
    refine a_icmp_ge (tgt := 107) dX8_close4_34 (by decide) (fun c_34 => absurd c_34 (nI_ge (b := 4) (by omega) (by omega))) (fun c_34 => ?_)
    refine a_iconst (v := 0) dX8_close4_37 (by decide) ?_
    refine a_istore_2 dX8_close4_38 (by decide) ?_
    refine L_X8_c4b (by omega) 16 (q := 0) rfl ?_
    refine a_iinc_1 (u := nI (m + 1)) dX8_close4_101 (inc_nI m) (by decide) ?_
    refine a_goto (tgt := 32) dX8_close4_104 (by decide) ?_
    exact ih (by omega) kk
set_option maxRecDepth 10000 in
theorem s_X8_close4 {l : Launch} {w : WW} {M : Mem} {ρ : Sg} {p : Int32} (hp : ρ 34 0 0 = p) : Can l w yX8_close4 cX8_close4 3 none (rmd 3) [.ref (ad w 2 7 0)] (zx w M 2 ρ) (RV (zx w M 2 (sga ρ 35 0 (lm (clo p))))) := by
  refine Can.go (ls := [some (.ref (ad w 2 7 0)), none, none]) ?_
  refine a_iconst (v := 0) dX8_close4_0 (by decide) ?_
  refine a_istore_1 dX8_close4_1 (by decide) ?_
  refine a_eq (x' := zx w M 2 (sga ρ 35 0 (mixN 0 (lm (ld0 p)) (ρ 35 0)))) (by rw [mix_st]) ?_
  refine L_X8_c4a hp 16 rfl ?_
  refine c_junk (M' := M) (σ' := sga ρ 35 0 (lm (ld0 p))) (junkA (by decide) (fun k hk => (if_pos hk).symm)) ?_
  refine a_iconst (v := 0) dX8_close4_30 (by decide) ?_
  refine a_istore_1 dX8_close4_31 (by decide) ?_
  exact L_X8_c4c 4 (m := 0) rfl (fun u2 => c_vret dX8_close4_107 ⟨rfl, rfl⟩)
set_option maxRecDepth 10000 in
theorem L_X8_vk {l : Launch} {w : WW} {Φ : Option Value → XX → Prop} {M : Mem} {ρ : Sg} {p : Int32} (hp : ρ 34 0 0 = p) {j : Nat} (hj : j < 4) {v1 : Option Value} : ∀ (n : Nat) {k : Nat} {g : Bool}, k + n = 4 → A l w yX8_valid cX8_valid 5 (some .boolean) (rmd 4) Φ 98 [some (.ref (ad w 2 7 0)), v1, some (.int (bi (vk p j n k g))), some (.int (nI j)), some (.int (nI 4))] [] (zx w M 2 (sga ρ 35 0 (lm (clo p)))) 0 0 → A l w yX8_valid cX8_valid 5 (some .boolean) (rmd 4) Φ 57 [some (.ref (ad w 2 7 0)), v1, some (.int (bi g)), some (.int (nI j)), some (.int (nI k))] [] (zx w M 2 (sga ρ 35 0 (lm (clo p)))) 0 0 := by
  intro n
  induction n with
  | zero =>
    intro k g hk kk
    refine a_iload dX8_valid_57 rfl ?_
    refine a_iconst (v := 4) dX8_valid_59 (by decide) ?_
    refine a_icmp_ge (tgt := 98) dX8_valid_60 (by decide) (fun c_60 => ?_) (fun c_60 => absurd (by have e6 : k = 4 := (by omega); subst e6; decide) c_60)
    obtain rfl : k = 4 := by omega
    exact kk
  | succ n ih =>
    intro k g hk kk
    refine a_iload dX8_valid_57 rfl ?_
    refine a_iconst (v := 4) dX8_valid_59 (by decide) ?_
    refine a_icmp_ge (tgt := 98) dX8_valid_60 (by decide) (fun c_60 => absurd c_60 (nI_ge (b := 4) (by omega) (by omega))) (fun c_60 => ?_)
    refine a_iload_n dX8_valid_63 rfl ?_
    refine a_if_eq (tgt := 90) dX8_valid_64 (by decide) (fun c_64 => ?_) (fun c_64 => ?_)
    · refine a_iconst (v := 0) dX8_valid_90 (by decide) ?_
      refine a_istore_2 dX8_valid_91 (by decide) ?_
      refine a_iinc_4 (u := nI (k + 1)) dX8_valid_92 (inc_nI k) (by decide) ?_
      refine a_goto (tgt := 57) dX8_valid_95 (by decide) ?_
      rw [vk] at kk
      first
        | (rw [bi_0.mp c_64] at kk; exact ih (g := false) (by omega) kk)
        | (rw [bi_n0.mp c_64, bi_0.mp c_74] at kk; exact ih (g := true) (by omega) kk)
        | (rw [bi_n0.mp c_64, bi_n0.mp c_74, bi_0.mp c_83] at kk; exact ih (g := false) (by omega) kk)
        | (rw [bi_n0.mp c_64, bi_n0.mp c_74, bi_n0.mp c_83] at kk; exact ih (g := true) (by omega) kk)
    · refine a_aload_n dX8_valid_67 rfl ?_
      refine a_iload_n dX8_valid_68 rfl ?_
      refine a_iload dX8_valid_69 rfl ?_
      refine c_V2I dX8_valid_71 kw_445 kv_X8_needs (s_X8_needs (p := p) (by rw [sga_t (by decide)]; exact hp)) ?_
      refine a_if_eq (tgt := 86) dX8_valid_74 (by decide) (fun c_74 => ?_) (fun c_74 => ?_)
      · refine a_iconst (v := 1) dX8_valid_86 (by decide) ?_
        refine a_goto (tgt := 91) dX8_valid_87 (by decide) ?_
        refine a_istore_2 dX8_valid_91 (by decide) ?_
        refine a_iinc_4 (u := nI (k + 1)) dX8_valid_92 (inc_nI k) (by decide) ?_
        refine a_goto (tgt := 57) dX8_valid_95 (by decide) ?_
        rw [vk] at kk
        first
          | (rw [bi_0.mp c_64] at kk; exact ih (g := false) (by omega) kk)
          | (rw [bi_n0.mp c_64, bi_0.mp c_74] at kk; exact ih (g := true) (by omega) kk)
          | (rw [bi_n0.mp c_64, bi_n0.mp c_74, bi_0.mp c_83] at kk; exact ih (g := false) (by omega) kk)
          | (rw [bi_n0.mp c_64, bi_n0.mp c_74, bi_n0.mp c_83] at kk; exact ih (g := true) (by omega) kk)
      · refine a_aload_n dX8_valid_77 rfl ?_
        refine a_iload dX8_valid_78 rfl ?_
        refine c_V1I dX8_valid_80 kw_521 kv_X8_there (s_X8_there (p := p) (by rw [sga_t (by decide)]; exact hp)) ?_
        refine a_if_eq (tgt := 90) dX8_valid_83 (by decide) (fun c_83 => ?_) (fun c_83 => ?_)
        · refine a_iconst (v := 0) dX8_valid_90 (by decide) ?_
          refine a_istore_2 dX8_valid_91 (by decide) ?_
          refine a_iinc_4 (u := nI (k + 1)) dX8_valid_92 (inc_nI k) (by decide) ?_
          refine a_goto (tgt := 57) dX8_valid_95 (by decide) ?_
          rw [vk] at kk
          first
            | (rw [bi_0.mp c_64] at kk; exact ih (g := false) (by omega) kk)
            | (rw [bi_n0.mp c_64, bi_0.mp c_74] at kk; exact ih (g := true) (by omega) kk)
            | (rw [bi_n0.mp c_64, bi_n0.mp c_74, bi_0.mp c_83] at kk; exact ih (g := false) (by omega) kk)
            | (rw [bi_n0.mp c_64, bi_n0.mp c_74, bi_n0.mp c_83] at kk; exact ih (g := true) (by omega) kk)
        · refine a_iconst (v := 1) dX8_valid_86 (by decide) ?_
          refine a_goto (tgt := 91) dX8_valid_87 (by decide) ?_
          refine a_istore_2 dX8_valid_91 (by decide) ?_
          refine a_iinc_4 (u := nI (k + 1)) dX8_valid_92 (inc_nI k) (by decide) ?_
          refine a_goto (tgt := 57) dX8_valid_95 (by decide) ?_
          rw [vk] at kk
          first
            | (rw [bi_0.mp c_64] at kk; exact ih (g := false) (by omega) kk)
            | (rw [bi_n0.mp c_64, bi_0.mp c_74] at kk; exact ih (g := true) (by omega) kk)
            | (rw [bi_n0.mp c_64, bi_n0.mp c_74, bi_0.mp c_83] at kk; exact ih (g := false) (by omega) kk)
            | (rw [bi_n0.mp c_64, bi_n0.mp c_74, bi_n0.mp c_83] at kk; exact ih (g := true) (by omega) kk)
set_option maxRecDepth 10000 in
theorem L_X8_v10 {l : Launch} {w : WW} {Φ : Option Value → XX → Prop} {M : Mem} {ρ : Sg} {p : Int32} (hp : ρ 34 0 0 = p) {j : Nat} (hj : j < 4) {s : Bool} {v2 v4 : Option Value} (kk : A l w yX8_valid cX8_valid 5 (some .boolean) (rmd 4) Φ 33 [some (.ref (ad w 2 7 0)), some (.int (bi (s || rq p (nI j)))), v2, some (.int (nI j)), v4] [] (zx w M 2 (sga ρ 35 0 (lm (clo p)))) 0 0) : A l w yX8_valid cX8_valid 5 (some .boolean) (rmd 4) Φ 15 [some (.ref (ad w 2 7 0)), some (.int (bi s)), v2, some (.int (nI j)), v4] [] (zx w M 2 (sga ρ 35 0 (lm (clo p)))) 0 0 := by
  refine a_iload_n dX8_valid_15 rfl ?_
  refine a_if_ne (tgt := 27) dX8_valid_16 (by decide) (fun c_16 => ?_) (fun c_16 => ?_)
  · refine a_iconst (v := 1) dX8_valid_27 (by decide) ?_
    refine a_goto (tgt := 32) dX8_valid_28 (by decide) ?_
    refine a_istore_1 dX8_valid_32 (by decide) ?_
    first
      | (rw [bi_n0.mp c_16] at kk; exact kk)
      | (rw [bi_0.mp c_16, bi_n0.mp c_24] at kk; exact kk)
      | (rw [bi_0.mp c_16, bi_0.mp c_24] at kk; exact kk)
  · refine a_aload_n dX8_valid_19 rfl ?_
    refine a_iload_n dX8_valid_20 rfl ?_
    refine c_V1I dX8_valid_21 kw_473 kv_X8_required (s_X8_required (p := p) (by rw [sga_t (by decide)]; exact hp)) ?_
    refine a_if_eq (tgt := 31) dX8_valid_24 (by decide) (fun c_24 => ?_) (fun c_24 => ?_)
    · refine a_iconst (v := 0) dX8_valid_31 (by decide) ?_
      refine a_istore_1 dX8_valid_32 (by decide) ?_
      first
        | (rw [bi_n0.mp c_16] at kk; exact kk)
        | (rw [bi_0.mp c_16, bi_n0.mp c_24] at kk; exact kk)
        | (rw [bi_0.mp c_16, bi_0.mp c_24] at kk; exact kk)
    · refine a_iconst (v := 1) dX8_valid_27 (by decide) ?_
      refine a_goto (tgt := 32) dX8_valid_28 (by decide) ?_
      refine a_istore_1 dX8_valid_32 (by decide) ?_
      first
        | (rw [bi_n0.mp c_16] at kk; exact kk)
        | (rw [bi_0.mp c_16, bi_n0.mp c_24] at kk; exact kk)
        | (rw [bi_0.mp c_16, bi_0.mp c_24] at kk; exact kk)
set_option maxRecDepth 10000 in
theorem L_X8_v33 {l : Launch} {w : WW} {Φ : Option Value → XX → Prop} {M : Mem} {ρ : Sg} {p : Int32} {j : Nat} (hj : j < 4) {g : Bool} {v1 v4 : Option Value} (kk : A l w yX8_valid cX8_valid 5 (some .boolean) (rmd 4) Φ 54 [some (.ref (ad w 2 7 0)), v1, some (.int (bi (g && !clo p (5 * j)))), some (.int (nI j)), v4] [] (zx w M 2 (sga ρ 35 0 (lm (clo p)))) 0 0) : A l w yX8_valid cX8_valid 5 (some .boolean) (rmd 4) Φ 33 [some (.ref (ad w 2 7 0)), v1, some (.int (bi g)), some (.int (nI j)), v4] [] (zx w M 2 (sga ρ 35 0 (lm (clo p)))) 0 0 := by
  refine a_iload_n dX8_valid_33 rfl ?_
  refine a_if_eq (tgt := 52) dX8_valid_34 (by decide) (fun c_34 => ?_) (fun c_34 => ?_)
  · refine a_iconst (v := 0) dX8_valid_52 (by decide) ?_
    refine a_istore_2 dX8_valid_53 (by decide) ?_
    first
      | (rw [bi_0.mp c_34] at kk; exact kk)
      | (rw [bi_n0.mp c_34, bi_n0.mp (show ¬ bi (clo p (5 * j)) = 0 by rw [sga_same] at c_45; exact c_45)] at kk; exact kk)
      | (rw [bi_n0.mp c_34, bi_0.mp (show bi (clo p (5 * j)) = 0 by rw [sga_same] at c_45; exact c_45)] at kk; exact kk)
  · refine a_aload_n dX8_valid_37 rfl ?_
    refine c_getR (t := 7) (k := 29) dX8_valid_38 kw_108 rfl ?_
    refine a_iconst (v := 5) dX8_valid_41 (by decide) ?_
    refine a_iload_n dX8_valid_42 rfl ?_
    refine a_imul dX8_valid_43 ?_
    refine c_zald (i := 5 * j) dX8_valid_44 (show (5 : Int32) * nI j = nI (5 * j) by rw [← nI_mul]; rfl) (show 5 * j < 16 by omega) ?_
    refine a_if_ne (tgt := 52) dX8_valid_45 (by decide) (fun c_45 => ?_) (fun c_45 => ?_)
    · refine a_iconst (v := 0) dX8_valid_52 (by decide) ?_
      refine a_istore_2 dX8_valid_53 (by decide) ?_
      first
        | (rw [bi_0.mp c_34] at kk; exact kk)
        | (rw [bi_n0.mp c_34, bi_n0.mp (show ¬ bi (clo p (5 * j)) = 0 by rw [sga_same] at c_45; exact c_45)] at kk; exact kk)
        | (rw [bi_n0.mp c_34, bi_0.mp (show bi (clo p (5 * j)) = 0 by rw [sga_same] at c_45; exact c_45)] at kk; exact kk)
    · refine a_iconst (v := 1) dX8_valid_48 (by decide) ?_
      refine a_goto (tgt := 53) dX8_valid_49 (by decide) ?_
      refine a_istore_2 dX8_valid_53 (by decide) ?_
      first
        | (rw [bi_0.mp c_34] at kk; exact kk)
        | (rw [bi_n0.mp c_34, bi_n0.mp (show ¬ bi (clo p (5 * j)) = 0 by rw [sga_same] at c_45; exact c_45)] at kk; exact kk)
        | (rw [bi_n0.mp c_34, bi_0.mp (show bi (clo p (5 * j)) = 0 by rw [sga_same] at c_45; exact c_45)] at kk; exact kk)
set_option maxRecDepth 10000 in
theorem L_X8_vj {l : Launch} {w : WW} {Φ : Option Value → XX → Prop} {M : Mem} {ρ : Sg} {p : Int32} (hp : ρ 34 0 0 = p) : ∀ (n : Nat) {j : Nat} {s g : Bool} {v4 : Option Value}, j + n = 4 → Φ (some (.int (bi (vj p n j s g)))) (zx w M 2 (sga ρ 35 0 (lm (clo p)))) → A l w yX8_valid cX8_valid 5 (some .boolean) (rmd 4) Φ 10 [some (.ref (ad w 2 7 0)), some (.int (bi s)), some (.int (bi g)), some (.int (nI j)), v4] [] (zx w M 2 (sga ρ 35 0 (lm (clo p)))) 0 0 := by
  intro n
  induction n with
  | zero =>
    intro j s g v4 hj h
    refine a_iload_n dX8_valid_10 rfl ?_
    refine a_iconst (v := 4) dX8_valid_11 (by decide) ?_
    refine a_icmp_ge (tgt := 104) dX8_valid_12 (by decide) (fun c_12 => ?_) (fun c_12 => absurd (by have e6 : j = 4 := (by omega); subst e6; decide) c_12)
    refine a_iload_n dX8_valid_104 rfl ?_
    refine a_if_eq (tgt := 116) dX8_valid_105 (by decide) (fun c_105 => ?_) (fun c_105 => ?_)
    · refine a_iconst (v := 0) dX8_valid_116 (by decide) ?_
      exact c_zret dX8_valid_117 (by first | (rw [vj, bi_n0.mp c_105, bi_n0.mp c_109] at h; exact h) | (rw [vj, bi_n0.mp c_105, bi_0.mp c_109] at h; exact h) | (rw [vj, bi_0.mp c_105, Bool.false_and] at h; exact h))
    · refine a_iload_n dX8_valid_108 rfl ?_
      refine a_if_eq (tgt := 116) dX8_valid_109 (by decide) (fun c_109 => ?_) (fun c_109 => ?_)
      · refine a_iconst (v := 0) dX8_valid_116 (by decide) ?_
        exact c_zret dX8_valid_117 (by first | (rw [vj, bi_n0.mp c_105, bi_n0.mp c_109] at h; exact h) | (rw [vj, bi_n0.mp c_105, bi_0.mp c_109] at h; exact h) | (rw [vj, bi_0.mp c_105, Bool.false_and] at h; exact h))
      · refine a_iconst (v := 1) dX8_valid_112 (by decide) ?_
        refine a_goto (tgt := 117) dX8_valid_113 (by decide) ?_
        exact c_zret dX8_valid_117 (by first | (rw [vj, bi_n0.mp c_105, bi_n0.mp c_109] at h; exact h) | (rw [vj, bi_n0.mp c_105, bi_0.mp c_109] at h; exact h) | (rw [vj, bi_0.mp c_105, Bool.false_and] at h; exact h))
  | succ n ih =>
    intro j s g v4 hj h
    refine a_iload_n dX8_valid_10 rfl ?_
    refine a_iconst (v := 4) dX8_valid_11 (by decide) ?_
    refine a_icmp_ge (tgt := 104) dX8_valid_12 (by decide) (fun c_12 => absurd c_12 (nI_ge (b := 4) (by omega) (by omega))) (fun c_12 => ?_)
    refine L_X8_v10 hp (by omega) ?_
    refine L_X8_v33 (by omega) ?_
    refine a_iconst (v := 0) dX8_valid_54 (by decide) ?_
    refine a_istore_4 dX8_valid_55 (by decide) ?_
    refine L_X8_vk hp (by omega) 4 (k := 0) rfl ?_
    refine a_iinc_3 (u := nI (j + 1)) dX8_valid_98 (inc_nI j) (by decide) ?_
    refine a_goto (tgt := 10) dX8_valid_101 (by decide) ?_
    exact ih (by omega) h
set_option maxRecDepth 10000 in
theorem s_X8_valid {l : Launch} {w : WW} {M : Mem} {ρ : Sg} {p : Int32} (hp : ρ 34 0 0 = p) : Can l w yX8_valid cX8_valid 5 (some .boolean) (rmd 4) [.ref (ad w 2 7 0)] (zx w M 2 ρ) (RI (bi (valR p)) (zx w M 2 (sga ρ 35 0 (lm (clo p))))) := by
  refine Can.go (ls := [some (.ref (ad w 2 7 0)), none, none, none, none]) ?_
  refine a_iconst (v := 0) dX8_valid_0 (by decide) ?_
  refine a_istore_1 dX8_valid_1 (by decide) ?_
  refine a_iconst (v := 1) dX8_valid_2 (by decide) ?_
  refine a_istore_2 dX8_valid_3 (by decide) ?_
  refine a_aload_n dX8_valid_4 rfl ?_
  refine c_V0V dX8_valid_5 kw_461 kv_X8_close4 (s_X8_close4 hp) ?_
  refine a_iconst (v := 0) dX8_valid_8 (by decide) ?_
  refine a_istore_3 dX8_valid_9 (by decide) ?_
  exact L_X8_vj hp 4 (j := 0) (s := false) (g := true) rfl ⟨rfl, rfl⟩
set_option maxRecDepth 10000 in
theorem L_X8_lq {l : Launch} {w : WW} {Φ : Option Value → XX → Prop} {M : Mem} {e : Nat} {v1 : Option Value} (he : e < 16) : ∀ (n : Nat) {q : Nat} {ρ : Sg}, q + n = e → ρ 7 0 20 = nI e → A l w yX8_leaveQueue cX8_leaveQueue 3 none (rmd 1) Φ 40 [some (.ref (ad w 2 7 0)), v1, some (.int (nI e))] [] (zx w M 2 (sga ρ 28 0 (rm2 (ρ 28 0) q e))) 0 0 → A l w yX8_leaveQueue cX8_leaveQueue 3 none (rmd 1) Φ 12 [some (.ref (ad w 2 7 0)), v1, some (.int (nI q))] [] (zx w M 2 ρ) 0 0 := by
  intro n
  induction n with
  | zero =>
    intro q ρ hq hn kk
    refine a_iload_n dX8_leaveQueue_12 rfl ?_
    refine a_aload_n dX8_leaveQueue_13 rfl ?_
    refine c_getI (t := 7) (k := 20) dX8_leaveQueue_14 kw_123 ?_
    refine a_icmp_ge (tgt := 40) dX8_leaveQueue_17 (by decide) (fun c_17 => ?_) (fun c_17 => absurd (by rw [hn]; exact nI_le (by omega) (by omega)) c_17)
    obtain rfl : q = e := by omega
    rw [show rm2 (ρ 28 0) q q = ρ 28 0 from rm2_0 _ _, sga_eta] at kk
    exact kk
  | succ n ih =>
    intro q ρ hq hn kk
    refine a_iload_n dX8_leaveQueue_12 rfl ?_
    refine a_aload_n dX8_leaveQueue_13 rfl ?_
    refine c_getI (t := 7) (k := 20) dX8_leaveQueue_14 kw_123 ?_
    refine a_icmp_ge (tgt := 40) dX8_leaveQueue_17 (by decide) (fun c_17 => absurd c_17 (by rw [hn]; exact nI_ge (by omega) (by omega))) (fun c_17 => ?_)
    refine a_aload_n dX8_leaveQueue_20 rfl ?_
    refine c_getR (t := 7) (k := 19) dX8_leaveQueue_21 kw_100 rfl ?_
    refine a_iload_n dX8_leaveQueue_24 rfl ?_
    refine a_aload_n dX8_leaveQueue_25 rfl ?_
    refine c_getR (t := 7) (k := 19) dX8_leaveQueue_26 kw_100 rfl ?_
    refine a_iload_n dX8_leaveQueue_29 rfl ?_
    refine a_iconst (v := 1) dX8_leaveQueue_30 (by decide) ?_
    refine a_iadd dX8_leaveQueue_31 ?_
    refine c_iald (i := q + 1) dX8_leaveQueue_32 (nI_succ q).symm (show q + 1 < 16 by omega) ?_
    refine c_iast (i := q) dX8_leaveQueue_33 rfl (show q < 16 by omega) ?_
    refine a_iinc_2 (u := nI (q + 1)) dX8_leaveQueue_34 (inc_nI q) (by decide) ?_
    refine a_goto (tgt := 12) dX8_leaveQueue_37 (by decide) ?_
    refine ih (q := q + 1) (by omega) (by rw [sg_t (by decide)]; exact hn) ?_
    subst hq
    have h9 := rm2_S (ρ 28 0) q n
    rw [show q + 1 + n = q + (n + 1) by omega] at h9
    rw [sg_is, sga_sga, sga_same, h9]
    exact kk
set_option maxRecDepth 10000 in
theorem s_X8_leaveQueue {l : Launch} {w : WW} {M : Mem} {ρ : Sg} {j n : Nat} (hn : ρ 7 0 20 = nI n) (hj : j < n) (hle : n ≤ 16) : Can l w yX8_leaveQueue cX8_leaveQueue 3 none (rmd 1) [.ref (ad w 2 7 0), .int (nI j)] (zx w M 2 ρ) (RV (zx w M 2 (lvQ ρ j n))) := by
  refine Can.go (ls := [some (.ref (ad w 2 7 0)), some (.int (nI j)), none]) ?_
  refine a_aload_n dX8_leaveQueue_0 rfl ?_
  refine a_aload_n dX8_leaveQueue_1 rfl ?_
  refine c_getI (t := 7) (k := 20) dX8_leaveQueue_2 kw_123 ?_
  refine a_iconst (v := 1) dX8_leaveQueue_5 (by decide) ?_
  refine a_isub dX8_leaveQueue_6 ?_
  refine c_putI (t := 7) (k := 20) dX8_leaveQueue_7 kw_123 ?_
  rw [hn, show nI n - 1 = nI (n - 1) by rw [← nI_pred (n - 1), Nat.sub_add_cancel (by omega)]]
  refine a_iload_n dX8_leaveQueue_10 rfl ?_
  refine a_istore_2 dX8_leaveQueue_11 (by decide) ?_
  obtain ⟨m, hm⟩ := Nat.exists_eq_add_of_le (show j ≤ n - 1 by omega)
  refine L_X8_lq (by omega) m hm.symm (sg_same _ _ _ _ _) ?_
  exact c_vret dX8_leaveQueue_40 ⟨rfl, by rw [sg_t (by decide), rmv_of, sg_is, sga_comm (by decide)]; unfold lvQ; rw [sg_is, sga_t (by decide)]⟩
set_option maxRecDepth 10000 in
theorem L_X8_dp {l : Launch} {w : WW} {Φ : Option Value → XX → Prop} {M : Mem} {e : Nat} (he : e < 9) : ∀ (n : Nat) {q : Nat} {ρ : Sg}, q + n = e → ρ 7 0 22 = nI e → A l w yX8_dropPlan cX8_dropPlan 2 none (rmd 1) Φ 40 [some (.ref (ad w 2 7 0)), some (.int (nI e))] [] (zx w M 2 (sga ρ 29 0 (rm2 (ρ 29 0) q e))) 0 0 → A l w yX8_dropPlan cX8_dropPlan 2 none (rmd 1) Φ 12 [some (.ref (ad w 2 7 0)), some (.int (nI q))] [] (zx w M 2 ρ) 0 0 := by
  intro n
  induction n with
  | zero =>
    intro q ρ hq hn kk
    refine a_iload_n dX8_dropPlan_12 rfl ?_
    refine a_aload_n dX8_dropPlan_13 rfl ?_
    refine c_getI (t := 7) (k := 22) dX8_dropPlan_14 kw_124 ?_
    refine a_icmp_ge (tgt := 40) dX8_dropPlan_17 (by decide) (fun c_17 => ?_) (fun c_17 => absurd (by rw [hn]; exact nI_le (by omega) (by omega)) c_17)
    obtain rfl : q = e := by omega
    rw [show rm2 (ρ 29 0) q q = ρ 29 0 from rm2_0 _ _, sga_eta] at kk
    exact kk
  | succ n ih =>
    intro q ρ hq hn kk
    refine a_iload_n dX8_dropPlan_12 rfl ?_
    refine a_aload_n dX8_dropPlan_13 rfl ?_
    refine c_getI (t := 7) (k := 22) dX8_dropPlan_14 kw_124 ?_
    refine a_icmp_ge (tgt := 40) dX8_dropPlan_17 (by decide) (fun c_17 => absurd c_17 (by rw [hn]; exact nI_ge (by omega) (by omega))) (fun c_17 => ?_)
    refine a_aload_n dX8_dropPlan_20 rfl ?_
    refine c_getR (t := 7) (k := 21) dX8_dropPlan_21 kw_101 rfl ?_
    refine a_iload_n dX8_dropPlan_24 rfl ?_
    refine a_aload_n dX8_dropPlan_25 rfl ?_
    refine c_getR (t := 7) (k := 21) dX8_dropPlan_26 kw_101 rfl ?_
    refine a_iload_n dX8_dropPlan_29 rfl ?_
    refine a_iconst (v := 1) dX8_dropPlan_30 (by decide) ?_
    refine a_iadd dX8_dropPlan_31 ?_
    refine c_iald (i := q + 1) dX8_dropPlan_32 (nI_succ q).symm (show q + 1 < 9 by omega) ?_
    refine c_iast (i := q) dX8_dropPlan_33 rfl (show q < 9 by omega) ?_
    refine a_iinc_1 (u := nI (q + 1)) dX8_dropPlan_34 (inc_nI q) (by decide) ?_
    refine a_goto (tgt := 12) dX8_dropPlan_37 (by decide) ?_
    refine ih (q := q + 1) (by omega) (by rw [sg_t (by decide)]; exact hn) ?_
    subst hq
    have h9 := rm2_S (ρ 29 0) q n
    rw [show q + 1 + n = q + (n + 1) by omega] at h9
    rw [sg_is, sga_sga, sga_same, h9]
    exact kk
set_option maxRecDepth 10000 in
theorem s_X8_dropPlan {l : Launch} {w : WW} {M : Mem} {ρ : Sg} {n : Nat} (hn : ρ 7 0 22 = nI n) (hj : 0 < n) (hle : n ≤ 9) : Can l w yX8_dropPlan cX8_dropPlan 2 none (rmd 1) [.ref (ad w 2 7 0)] (zx w M 2 ρ) (RV (zx w M 2 (drP ρ n))) := by
  refine Can.go (ls := [some (.ref (ad w 2 7 0)), none]) ?_
  refine a_aload_n dX8_dropPlan_0 rfl ?_
  refine a_aload_n dX8_dropPlan_1 rfl ?_
  refine c_getI (t := 7) (k := 22) dX8_dropPlan_2 kw_124 ?_
  refine a_iconst (v := 1) dX8_dropPlan_5 (by decide) ?_
  refine a_isub dX8_dropPlan_6 ?_
  refine c_putI (t := 7) (k := 22) dX8_dropPlan_7 kw_124 ?_
  rw [hn, show nI n - 1 = nI (n - 1) by rw [← nI_pred (n - 1), Nat.sub_add_cancel (by omega)]]
  refine a_iconst (v := 0) dX8_dropPlan_10 (by decide) ?_
  refine a_istore_1 dX8_dropPlan_11 (by decide) ?_
  refine L_X8_dp (by omega) (n - 1) (q := 0) (by omega) (sg_same _ _ _ _ _) ?_
  exact c_vret dX8_dropPlan_40 ⟨rfl, by rw [sg_t (by decide), rmv_of, sg_is, sga_comm (by decide)]; unfold drP; rw [sg_is, sga_t (by decide)]⟩
set_option maxRecDepth 10000 in
theorem s_X8_reject {l : Launch} {w : WW} {M : Mem} {ρ : Sg} {c : Nat} {cause : Int32} (hc : c < 16) : Can l w yX8_reject cX8_reject 3 none (rmd 1) [.ref (ad w 2 7 0), .int (nI c), .int cause] (zx w M 2 ρ) (RV (zx w M 2 (rejR ρ c cause))) := by
  refine Can.go (ls := [some (.ref (ad w 2 7 0)), some (.int (nI c)), some (.int cause)]) ?_
  refine a_aload_n dX8_reject_0 rfl ?_
  refine c_getR (t := 7) (k := 16) dX8_reject_1 kw_97 rfl ?_
  refine a_iload_n dX8_reject_4 rfl ?_
  refine a_iconst (v := 3) dX8_reject_5 (by decide) ?_
  refine c_iast (i := c) dX8_reject_6 rfl (show c < 16 from hc) ?_
  refine a_aload_n dX8_reject_7 rfl ?_
  refine c_getR (t := 7) (k := 17) dX8_reject_8 kw_98 rfl ?_
  refine a_iload_n dX8_reject_11 rfl ?_
  refine a_iload_n dX8_reject_12 rfl ?_
  refine c_iast (i := c) dX8_reject_13 rfl (show c < 16 from hc) ?_
  exact c_vret dX8_reject_14 ⟨rfl, rfl⟩
set_option maxRecDepth 10000 in
theorem L_X8_endLeases {l : Launch} {w : WW} {Φ : Option Value → XX → Prop} {M : Mem} {ρ : Sg}  : ∀ (n : Nat) {j : Nat}, j + n = 4 → A l w yX8_endLeases cX8_endLeases 2 none (rmd 1) Φ 20 [some (.ref (ad w 2 7 0)), some (.int (nI 4))] [] (zx w M 2 (sga ρ 32 0 (mixN 4 m1 (ρ 32 0)))) 0 0 → A l w yX8_endLeases cX8_endLeases 2 none (rmd 1) Φ 2 [some (.ref (ad w 2 7 0)), some (.int (nI j))] [] (zx w M 2 (sga ρ 32 0 (mixN j m1 (ρ 32 0)))) 0 0 := by
  intro n
  induction n with
  | zero =>
    intro j hj kk
    refine a_iload_n dX8_endLeases_2 rfl ?_
    refine a_iconst (v := 4) dX8_endLeases_3 (by decide) ?_
    refine a_icmp_ge (tgt := 20) dX8_endLeases_4 (by decide) (fun c_4 => ?_) (fun c_4 => absurd (by have e6 : j = 4 := (by omega); subst e6; decide) c_4)
    obtain rfl : j = 4 := by omega
    exact kk
  | succ n ih =>
    intro j hj kk
    refine a_iload_n dX8_endLeases_2 rfl ?_
    refine a_iconst (v := 4) dX8_endLeases_3 (by decide) ?_
    refine a_icmp_ge (tgt := 20) dX8_endLeases_4 (by decide) (fun c_4 => absurd c_4 (nI_ge (b := 4) (by omega) (by omega))) (fun c_4 => ?_)
    refine a_aload_n dX8_endLeases_7 rfl ?_
    refine c_getR (t := 7) (k := 26) dX8_endLeases_8 kw_104 rfl ?_
    refine a_iload_n dX8_endLeases_11 rfl ?_
    refine a_iconst (v := (-1)) dX8_endLeases_12 (by decide) ?_
    refine c_iast (i := j) dX8_endLeases_13 rfl (show j < 4 by omega) ?_
    refine a_iinc_1 (u := nI (j + 1)) dX8_endLeases_14 (inc_nI j) (by decide) ?_
    refine a_goto (tgt := 2) dX8_endLeases_17 (by decide) ?_
    rw [st_mix (g := m1) (v := -1) rfl]
    exact ih (by omega) kk
set_option maxRecDepth 10000 in
theorem s_X8_endLeases {l : Launch} {w : WW} {M : Mem} {ρ : Sg}  : Can l w yX8_endLeases cX8_endLeases 2 none (rmd 1) [.ref (ad w 2 7 0)] (zx w M 2 ρ) (RV (zx w M 2 (sga ρ 32 0 m1))) := by
  refine Can.go (ls := [some (.ref (ad w 2 7 0)), none]) ?_
  refine a_iconst (v := 0) dX8_endLeases_0 (by decide) ?_
  refine a_istore_1 dX8_endLeases_1 (by decide) ?_
  refine a_eq (x' := zx w M 2 (sga ρ 32 0 (mixN 0 m1 (ρ 32 0)))) (by rw [mix_st]) ?_
  refine L_X8_endLeases 4 rfl ?_
  refine c_junk (M' := M) (σ' := sga ρ 32 0 m1) (junkA (by decide) (fun k hk => (if_pos hk).symm)) ?_
  exact c_vret dX8_endLeases_20 ⟨rfl, rfl⟩
set_option maxRecDepth 10000 in
theorem L_X8_endLeaseOn {l : Launch} {w : WW} {Φ : Option Value → XX → Prop} {M : Mem} {ρ : Sg} {i : Int32} : ∀ (n : Nat) {j : Nat}, j + n = 4 → A l w yX8_endLeaseOn cX8_endLeaseOn 3 none (rmd 1) Φ 39 [some (.ref (ad w 2 7 0)), some (.int i), some (.int (nI 4))] [] (zx w M 2 (sga ρ 32 0 (mixN 4 (elO (ρ 32 0) i) (ρ 32 0)))) 0 0 → A l w yX8_endLeaseOn cX8_endLeaseOn 3 none (rmd 1) Φ 2 [some (.ref (ad w 2 7 0)), some (.int i), some (.int (nI j))] [] (zx w M 2 (sga ρ 32 0 (mixN j (elO (ρ 32 0) i) (ρ 32 0)))) 0 0 := by
  intro n
  induction n with
  | zero =>
    intro j hj kk
    refine a_iload_n dX8_endLeaseOn_2 rfl ?_
    refine a_iconst (v := 4) dX8_endLeaseOn_3 (by decide) ?_
    refine a_icmp_ge (tgt := 39) dX8_endLeaseOn_4 (by decide) (fun c_4 => ?_) (fun c_4 => absurd (by have e6 : j = 4 := (by omega); subst e6; decide) c_4)
    obtain rfl : j = 4 := by omega
    exact kk
  | succ n ih =>
    intro j hj kk
    refine a_iload_n dX8_endLeaseOn_2 rfl ?_
    refine a_iconst (v := 4) dX8_endLeaseOn_3 (by decide) ?_
    refine a_icmp_ge (tgt := 39) dX8_endLeaseOn_4 (by decide) (fun c_4 => absurd c_4 (nI_ge (b := 4) (by omega) (by omega))) (fun c_4 => ?_)
    refine a_aload_n dX8_endLeaseOn_7 rfl ?_
    refine c_getR (t := 7) (k := 26) dX8_endLeaseOn_8 kw_104 rfl ?_
    refine a_iload_n dX8_endLeaseOn_11 rfl ?_
    refine a_aload_n dX8_endLeaseOn_12 rfl ?_
    refine c_getR (t := 7) (k := 26) dX8_endLeaseOn_13 kw_104 rfl ?_
    refine a_iload_n dX8_endLeaseOn_16 rfl ?_
    refine c_iald (i := j) dX8_endLeaseOn_17 rfl (show j < 4 by omega) ?_
    refine a_iload_n dX8_endLeaseOn_18 rfl ?_
    refine a_icmp_ne (tgt := 26) dX8_endLeaseOn_19 (by decide) (fun c_19 => ?_) (fun c_19 => ?_)
    · refine a_aload_n dX8_endLeaseOn_26 rfl ?_
      refine c_getR (t := 7) (k := 26) dX8_endLeaseOn_27 kw_104 rfl ?_
      refine a_iload_n dX8_endLeaseOn_30 rfl ?_
      refine c_iald (i := j) dX8_endLeaseOn_31 rfl (show j < 4 by omega) ?_
      refine c_iast (i := j) dX8_endLeaseOn_32 rfl (show j < 4 by omega) ?_
      refine a_iinc_2 (u := nI (j + 1)) dX8_endLeaseOn_33 (inc_nI j) (by decide) ?_
      refine a_goto (tgt := 2) dX8_endLeaseOn_36 (by decide) ?_
      rw [sga_same, mixN_at (Nat.le_refl j)] at c_19
      first
        | (rw [st_mix (g := elO (ρ 32 0) i) (if_pos c_19)]; exact ih (by omega) kk)
        | (rw [st_mix (g := elO (ρ 32 0) i) (by rw [sga_same, mixN_at (Nat.le_refl j)]; exact if_neg c_19)]; exact ih (by omega) kk)
        | (rw [st_mix (g := elO (ρ 32 0) i) (if_pos (c_19))]; exact ih (by omega) kk)
    · refine a_iconst (v := (-1)) dX8_endLeaseOn_22 (by decide) ?_
      refine a_goto (tgt := 32) dX8_endLeaseOn_23 (by decide) ?_
      refine c_iast (i := j) dX8_endLeaseOn_32 rfl (show j < 4 by omega) ?_
      refine a_iinc_2 (u := nI (j + 1)) dX8_endLeaseOn_33 (inc_nI j) (by decide) ?_
      refine a_goto (tgt := 2) dX8_endLeaseOn_36 (by decide) ?_
      rw [sga_same, mixN_at (Nat.le_refl j)] at c_19
      first
        | (rw [st_mix (g := elO (ρ 32 0) i) (if_pos c_19)]; exact ih (by omega) kk)
        | (rw [st_mix (g := elO (ρ 32 0) i) (by rw [sga_same, mixN_at (Nat.le_refl j)]; exact if_neg c_19)]; exact ih (by omega) kk)
        | (rw [st_mix (g := elO (ρ 32 0) i) (if_pos (c_19))]; exact ih (by omega) kk)
set_option maxRecDepth 10000 in
theorem s_X8_endLeaseOn {l : Launch} {w : WW} {M : Mem} {ρ : Sg} {i : Int32} : Can l w yX8_endLeaseOn cX8_endLeaseOn 3 none (rmd 1) [.ref (ad w 2 7 0), .int i] (zx w M 2 ρ) (RV (zx w M 2 (sga ρ 32 0 (elO (ρ 32 0) i)))) := by
  refine Can.go (ls := [some (.ref (ad w 2 7 0)), some (.int i), none]) ?_
  refine a_iconst (v := 0) dX8_endLeaseOn_0 (by decide) ?_
  refine a_istore_2 dX8_endLeaseOn_1 (by decide) ?_
  refine a_eq (x' := zx w M 2 (sga ρ 32 0 (mixN 0 (elO (ρ 32 0) i) (ρ 32 0)))) (by rw [mix_st]) ?_
  refine L_X8_endLeaseOn 4 rfl ?_
  refine c_junk (M' := M) (σ' := sga ρ 32 0 (elO (ρ 32 0) i)) (junkA (by decide) (fun k hk => (if_pos hk).symm)) ?_
  exact c_vret dX8_endLeaseOn_39 ⟨rfl, rfl⟩
set_option maxRecDepth 10000 in
theorem s_X8_isChange {l : Launch} {w : WW} {M : Mem} {ρ : Sg} {c : Int32} : Can l w yX8_isChange cX8_isChange 2 (some .boolean) (rmd 1) [.ref (ad w 2 7 0), .int c] (zx w M 2 ρ) (RI (bi (inr c (ρ 7 0 13))) (zx w M 2 ρ)) := by
  refine Can.go (ls := [some (.ref (ad w 2 7 0)), some (.int c)]) ?_
  refine a_iload_n dX8_isChange_0 rfl ?_
  refine a_if_lt (tgt := 16) dX8_isChange_1 (by decide) (fun c_1 => ?_) (fun c_1 => ?_)
  · refine a_iconst (v := 0) dX8_isChange_16 (by decide) ?_
    exact c_zret dX8_isChange_17 ⟨by simp_all [bi, inr], rfl⟩
  · refine a_iload_n dX8_isChange_4 rfl ?_
    refine a_aload_n dX8_isChange_5 rfl ?_
    refine c_getI (t := 7) (k := 13) dX8_isChange_6 kw_122 ?_
    refine a_icmp_ge (tgt := 16) dX8_isChange_9 (by decide) (fun c_9 => ?_) (fun c_9 => ?_)
    · refine a_iconst (v := 0) dX8_isChange_16 (by decide) ?_
      exact c_zret dX8_isChange_17 ⟨by simp_all [bi, inr], rfl⟩
    · refine a_iconst (v := 1) dX8_isChange_12 (by decide) ?_
      refine a_goto (tgt := 17) dX8_isChange_13 (by decide) ?_
      exact c_zret dX8_isChange_17 ⟨by simp_all [bi, inr], rfl⟩
set_option maxRecDepth 10000 in
theorem s_X8_is {l : Launch} {w : WW} {M : Mem} {ρ : Sg} {n : Nat} {c t : Int32} (hn : ρ 7 0 13 = nI n) (hle : n ≤ 16) : Can l w yX8_is cX8_is 3 (some .boolean) (rmd 2) [.ref (ad w 2 7 0), .int c, .int t] (zx w M 2 ρ) (RI (bi (inr c (ρ 7 0 13) && decide (ρ 25 0 (tn c) = t))) (zx w M 2 ρ)) := by
  refine Can.go (ls := [some (.ref (ad w 2 7 0)), some (.int c), some (.int t)]) ?_
  refine a_aload_n dX8_is_0 rfl ?_
  refine a_iload_n dX8_is_1 rfl ?_
  refine c_V1I dX8_is_2 kw_401 kv_X8_isChange s_X8_isChange ?_
  refine a_if_eq (tgt := 22) dX8_is_5 (by decide) (fun c_5 => ?_) (fun c_5 => ?_)
  · refine a_iconst (v := 0) dX8_is_22 (by decide) ?_
    exact c_zret dX8_is_23 ⟨by first | (rw [bi_0.mp c_5]; rfl) | (rw [bi_n0.mp c_5, decide_eq_true c_15]; rfl) | (rw [bi_n0.mp c_5, decide_eq_false c_15]; rfl) | (rw [bi_n0.mp c_5, decide_eq_true (c_15)]; rfl), rfl⟩
  · refine a_aload_n dX8_is_8 rfl ?_
    refine c_getR (t := 7) (k := 16) dX8_is_9 kw_97 rfl ?_
    refine a_iload_n dX8_is_12 rfl ?_
    have H13 := inr_nI (n := n) (bi_n0.mp c_5) hn (by omega)
    refine c_iald (i := tn c) dX8_is_13 H13.1 (show tn c < 16 from Nat.lt_of_lt_of_le H13.2 hle) ?_
    refine a_iload_n dX8_is_14 rfl ?_
    refine a_icmp_ne (tgt := 22) dX8_is_15 (by decide) (fun c_15 => ?_) (fun c_15 => ?_)
    · refine a_iconst (v := 0) dX8_is_22 (by decide) ?_
      exact c_zret dX8_is_23 ⟨by first | (rw [bi_0.mp c_5]; rfl) | (rw [bi_n0.mp c_5, decide_eq_true c_15]; rfl) | (rw [bi_n0.mp c_5, decide_eq_false c_15]; rfl) | (rw [bi_n0.mp c_5, decide_eq_true (c_15)]; rfl), rfl⟩
    · refine a_iconst (v := 1) dX8_is_18 (by decide) ?_
      refine a_goto (tgt := 23) dX8_is_19 (by decide) ?_
      exact c_zret dX8_is_23 ⟨by first | (rw [bi_0.mp c_5]; rfl) | (rw [bi_n0.mp c_5, decide_eq_true c_15]; rfl) | (rw [bi_n0.mp c_5, decide_eq_false c_15]; rfl) | (rw [bi_n0.mp c_5, decide_eq_true (c_15)]; rfl), rfl⟩
set_option maxRecDepth 10000 in
theorem s_X8_isWorker {l : Launch} {w : WW} {M : Mem} {ρ : Sg} {v : Int32} : Can l w yX8_isWorker cX8_isWorker 2 (some .boolean) (rmd 1) [.ref (ad w 2 7 0), .int v] (zx w M 2 ρ) (RI (bi (inr v 4)) (zx w M 2 ρ)) := by
  refine Can.go (ls := [some (.ref (ad w 2 7 0)), some (.int v)]) ?_
  refine a_iload_n dX8_isWorker_0 rfl ?_
  refine a_if_lt (tgt := 13) dX8_isWorker_1 (by decide) (fun c_1 => ?_) (fun c_1 => ?_)
  · refine a_iconst (v := 0) dX8_isWorker_13 (by decide) ?_
    exact c_zret dX8_isWorker_14 ⟨by
        have e : (3 < v) ↔ (4 ≤ v) := by rw [Int32.lt_iff_toInt_lt, Int32.le_iff_toInt_le]; show (3 : Int) < _ ↔ (4 : Int) ≤ _; omega
        simp_all [bi, inr], rfl⟩
  · refine a_iload_n dX8_isWorker_4 rfl ?_
    refine a_iconst (v := 3) dX8_isWorker_5 (by decide) ?_
    refine a_icmp_gt (tgt := 13) dX8_isWorker_6 (by decide) (fun c_6 => ?_) (fun c_6 => ?_)
    · refine a_iconst (v := 0) dX8_isWorker_13 (by decide) ?_
      exact c_zret dX8_isWorker_14 ⟨by
          have e : (3 < v) ↔ (4 ≤ v) := by rw [Int32.lt_iff_toInt_lt, Int32.le_iff_toInt_le]; show (3 : Int) < _ ↔ (4 : Int) ≤ _; omega
          simp_all [bi, inr], rfl⟩
    · refine a_iconst (v := 1) dX8_isWorker_9 (by decide) ?_
      refine a_goto (tgt := 14) dX8_isWorker_10 (by decide) ?_
      exact c_zret dX8_isWorker_14 ⟨by
          have e : (3 < v) ↔ (4 ≤ v) := by rw [Int32.lt_iff_toInt_lt, Int32.le_iff_toInt_le]; show (3 : Int) < _ ↔ (4 : Int) ≤ _; omega
          simp_all [bi, inr], rfl⟩
set_option maxRecDepth 10000 in
theorem L_X8_noReviews {l : Launch} {w : WW} {Φ : Option Value → XX → Prop} {M : Mem} {ρ : Sg} {c : Nat} (hc : c < 16) : ∀ (n : Nat) {j : Nat}, j + n = 8 → A l w yX8_noReviews cX8_noReviews 3 none (rmd 1) Φ 26 [some (.ref (ad w 2 7 0)), some (.int (nI c)), some (.int (nI 8))] [] (zx w M 2 (sga ρ 27 0 (clr (ρ 27 0) c 8))) 0 0 → A l w yX8_noReviews cX8_noReviews 3 none (rmd 1) Φ 2 [some (.ref (ad w 2 7 0)), some (.int (nI c)), some (.int (nI j))] [] (zx w M 2 (sga ρ 27 0 (clr (ρ 27 0) c j))) 0 0 := by
  intro n
  induction n with
  | zero =>
    intro j hj kk
    refine a_iload_n dX8_noReviews_2 rfl ?_
    refine a_bipush (v := 8) dX8_noReviews_3 (by decide) ?_
    refine a_icmp_ge (tgt := 26) dX8_noReviews_5 (by decide) (fun c_5 => ?_) (fun c_5 => absurd (by have e6 : j = 8 := (by omega); subst e6; decide) c_5)
    obtain rfl : j = 8 := by omega
    exact kk
  | succ n ih =>
    intro j hj kk
    refine a_iload_n dX8_noReviews_2 rfl ?_
    refine a_bipush (v := 8) dX8_noReviews_3 (by decide) ?_
    refine a_icmp_ge (tgt := 26) dX8_noReviews_5 (by decide) (fun c_5 => absurd c_5 (nI_ge (b := 8) (by omega) (by omega))) (fun c_5 => ?_)
    refine a_aload_n dX8_noReviews_8 rfl ?_
    refine c_getR (t := 7) (k := 18) dX8_noReviews_9 kw_99 rfl ?_
    refine a_bipush (v := 8) dX8_noReviews_12 (by decide) ?_
    refine a_iload_n dX8_noReviews_14 rfl ?_
    refine a_imul dX8_noReviews_15 ?_
    refine a_iload_n dX8_noReviews_16 rfl ?_
    refine a_iadd dX8_noReviews_17 ?_
    refine a_iconst (v := 0) dX8_noReviews_18 (by decide) ?_
    refine c_iast (i := 8 * c + j) dX8_noReviews_19 (nI_8 c j) (show 8 * c + j < 128 by omega) ?_
    refine a_iinc_2 (u := nI (j + 1)) dX8_noReviews_20 (inc_nI j) (by decide) ?_
    refine a_goto (tgt := 2) dX8_noReviews_23 (by decide) ?_
    rw [sg_sga, clr_S]
    exact ih (by omega) kk
set_option maxRecDepth 10000 in
theorem s_X8_noReviews {l : Launch} {w : WW} {M : Mem} {ρ : Sg} {c : Nat} (hc : c < 16) : Can l w yX8_noReviews cX8_noReviews 3 none (rmd 1) [.ref (ad w 2 7 0), .int (nI c)] (zx w M 2 ρ) (RV (zx w M 2 (sga ρ 27 0 (clr (ρ 27 0) c 8)))) := by
  refine Can.go (ls := [some (.ref (ad w 2 7 0)), some (.int (nI c)), none]) ?_
  refine a_iconst (v := 0) dX8_noReviews_0 (by decide) ?_
  refine a_istore_2 dX8_noReviews_1 (by decide) ?_
  refine a_eq (x' := zx w M 2 (sga ρ 27 0 (clr (ρ 27 0) c 0))) (by rw [clr_0, sga_eta]) ?_
  refine L_X8_noReviews hc 8 rfl ?_
  exact c_vret dX8_noReviews_26 ⟨rfl, rfl⟩
set_option maxRecDepth 10000 in
theorem L_X8_count {l : Launch} {w : WW} {Φ : Option Value → XX → Prop} {M : Mem} {ρ : Sg} {c : Nat} {how : Int32} (hc : c < 16) : ∀ (n : Nat) {j : Nat} {x : Int32}, j + n = 8 → Φ (some (.int (cntR (ρ 27 0) c how n j x))) (zx w M 2 ρ) → A l w yX8_count cX8_count 5 (some .int) (rmd 1) Φ 5 [some (.ref (ad w 2 7 0)), some (.int (nI c)), some (.int how), some (.int x), some (.int (nI j))] [] (zx w M 2 ρ) 0 0 := by
  intro n
  induction n with
  | zero =>
    intro j x hj h
    refine a_iload dX8_count_5 rfl ?_
    refine a_bipush (v := 8) dX8_count_7 (by decide) ?_
    refine a_icmp_ge (tgt := 42) dX8_count_9 (by decide) (fun c_9 => ?_) (fun c_9 => absurd (by have e6 : j = 8 := (by omega); subst e6; decide) c_9)
    refine a_iload_n dX8_count_42 rfl ?_
    exact c_iret dX8_count_43 h
  | succ n ih =>
    intro j x hj h
    refine a_iload dX8_count_5 rfl ?_
    refine a_bipush (v := 8) dX8_count_7 (by decide) ?_
    refine a_icmp_ge (tgt := 42) dX8_count_9 (by decide) (fun c_9 => absurd c_9 (nI_ge (b := 8) (by omega) (by omega))) (fun c_9 => ?_)
    refine a_aload_n dX8_count_12 rfl ?_
    refine c_getR (t := 7) (k := 18) dX8_count_13 kw_99 rfl ?_
    refine a_bipush (v := 8) dX8_count_16 (by decide) ?_
    refine a_iload_n dX8_count_18 rfl ?_
    refine a_imul dX8_count_19 ?_
    refine a_iload dX8_count_20 rfl ?_
    refine a_iadd dX8_count_22 ?_
    refine c_iald (i := 8 * c + j) dX8_count_23 (nI_8 c j) (show 8 * c + j < 128 by omega) ?_
    refine a_iload_n dX8_count_24 rfl ?_
    refine a_icmp_ne (tgt := 34) dX8_count_25 (by decide) (fun c_25 => ?_) (fun c_25 => ?_)
    · refine a_iload_n dX8_count_34 rfl ?_
      refine a_istore_3 dX8_count_35 (by decide) ?_
      refine a_iinc_4 (u := nI (j + 1)) dX8_count_36 (inc_nI j) (by decide) ?_
      refine a_goto (tgt := 5) dX8_count_39 (by decide) ?_
      rw [cntR] at h
      first
        | (rw [if_neg c_25] at h; exact ih (by omega) h)
        | (rw [if_pos c_25] at h; exact ih (by omega) h)
        | (rw [if_pos (c_25)] at h; exact ih (by omega) h)
    · refine a_iload_n dX8_count_28 rfl ?_
      refine a_iconst (v := 1) dX8_count_29 (by decide) ?_
      refine a_iadd dX8_count_30 ?_
      refine a_goto (tgt := 35) dX8_count_31 (by decide) ?_
      refine a_istore_3 dX8_count_35 (by decide) ?_
      refine a_iinc_4 (u := nI (j + 1)) dX8_count_36 (inc_nI j) (by decide) ?_
      refine a_goto (tgt := 5) dX8_count_39 (by decide) ?_
      rw [cntR] at h
      first
        | (rw [if_neg c_25] at h; exact ih (by omega) h)
        | (rw [if_pos c_25] at h; exact ih (by omega) h)
        | (rw [if_pos (c_25)] at h; exact ih (by omega) h)
set_option maxRecDepth 10000 in
theorem s_X8_count {l : Launch} {w : WW} {M : Mem} {ρ : Sg} {c : Nat} {how : Int32} (hc : c < 16) : Can l w yX8_count cX8_count 5 (some .int) (rmd 1) [.ref (ad w 2 7 0), .int (nI c), .int how] (zx w M 2 ρ) (RI (cntR (ρ 27 0) c how 8 0 0) (zx w M 2 ρ)) := by
  refine Can.go (ls := [some (.ref (ad w 2 7 0)), some (.int (nI c)), some (.int how), none, none]) ?_
  refine a_iconst (v := 0) dX8_count_0 (by decide) ?_
  refine a_istore_3 dX8_count_1 (by decide) ?_
  refine a_iconst (v := 0) dX8_count_2 (by decide) ?_
  refine a_istore_4 dX8_count_3 (by decide) ?_
  exact L_X8_count hc 8 (j := 0) rfl ⟨rfl, rfl⟩
set_option maxRecDepth 10000 in
theorem s_X8_note {l : Launch} {w : WW} {M : Mem} {ρ : Sg} {n : Nat} {k a b c : Int32} (hn : ρ 7 0 8 = nI n) (hlt : n < 512) : Can l w yX8_note cX8_note 5 none (rmd 1) [.ref (ad w 2 7 0), .int k, .int a, .int b, .int c] (zx w M 2 ρ) (RV (zx w M 2 (ntR ρ n k a b c))) := by
  refine Can.go (ls := [some (.ref (ad w 2 7 0)), some (.int k), some (.int a), some (.int b), some (.int c)]) ?_
  refine a_aload_n dX8_note_0 rfl ?_
  refine c_getR (t := 7) (k := 4) dX8_note_1 kw_90 rfl ?_
  refine a_aload_n dX8_note_4 rfl ?_
  refine c_getI (t := 7) (k := 8) dX8_note_5 kw_379 ?_
  refine a_iload_n dX8_note_8 rfl ?_
  refine c_iast (i := n) dX8_note_9 hn hlt ?_
  refine a_aload_n dX8_note_10 rfl ?_
  refine c_getR (t := 7) (k := 5) dX8_note_11 kw_91 rfl ?_
  refine a_aload_n dX8_note_14 rfl ?_
  refine c_getI (t := 7) (k := 8) dX8_note_15 kw_379 ?_
  refine a_iload_n dX8_note_18 rfl ?_
  refine c_iast (i := n) dX8_note_19 (by rw [sg_t (by decide)]; exact hn) hlt ?_
  refine a_aload_n dX8_note_20 rfl ?_
  refine c_getR (t := 7) (k := 6) dX8_note_21 kw_92 rfl ?_
  refine a_aload_n dX8_note_24 rfl ?_
  refine c_getI (t := 7) (k := 8) dX8_note_25 kw_379 ?_
  refine a_iload_n dX8_note_28 rfl ?_
  refine c_iast (i := n) dX8_note_29 (by rw [sg_t (by decide)]; rw [sg_t (by decide)]; exact hn) hlt ?_
  refine a_aload_n dX8_note_30 rfl ?_
  refine c_getR (t := 7) (k := 7) dX8_note_31 kw_93 rfl ?_
  refine a_aload_n dX8_note_34 rfl ?_
  refine c_getI (t := 7) (k := 8) dX8_note_35 kw_379 ?_
  refine a_iload dX8_note_38 rfl ?_
  refine c_iast (i := n) dX8_note_40 (by rw [sg_t (by decide)]; rw [sg_t (by decide)]; rw [sg_t (by decide)]; exact hn) hlt ?_
  refine a_aload_n dX8_note_41 rfl ?_
  refine a_aload_n dX8_note_42 rfl ?_
  refine c_getI (t := 7) (k := 8) dX8_note_43 kw_379 ?_
  refine a_iconst (v := 1) dX8_note_46 (by decide) ?_
  refine a_iadd dX8_note_47 ?_
  refine c_putI (t := 7) (k := 8) dX8_note_48 kw_379 ?_
  exact c_vret dX8_note_51 ⟨rfl, by rw [show ∀ τ : Sg, ntR τ n k a b c = sg (sg (sg (sg (sg τ 18 0 n k) 19 0 n a) 20 0 n b) 21 0 n c) 7 0 8 (nI (n + 1)) from fun _ => rfl, sg_t (t' := 7) (by decide), sg_t (t' := 7) (by decide), sg_t (t' := 7) (by decide), sg_t (t' := 7) (by decide), hn, ← nI_succ]⟩
