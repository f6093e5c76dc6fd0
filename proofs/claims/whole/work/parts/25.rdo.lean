/-! the reference's events, held against the class's -/
def blk (f : Nat → Int32) (c n : Nat) (g : Nat → Int32) : Nat → Int32 := fun i => if 6 * c ≤ i ∧ i < 6 * c + n then g (i - 6 * c) else f i
theorem blk_0 (f : Nat → Int32) (c : Nat) (g : Nat → Int32) : blk f c 0 g = f := by
  funext i
  unfold blk
  rw [if_neg (by omega)]
theorem blk_S (f : Nat → Int32) (c n : Nat) (g : Nat → Int32) : up1 (blk f c n g) (6 * c + n) (g n) = blk f c (n + 1) g := by
  funext i
  unfold blk up1
  by_cases h : i = 6 * c + n
  · rw [if_pos h, if_pos (by omega), h, Nat.add_sub_cancel_left]
  · rw [if_neg h]
    show (if 6 * c ≤ i ∧ i < 6 * c + n then g (i - 6 * c) else f i) = _
    by_cases h2 : 6 * c ≤ i ∧ i < 6 * c + n
    · rw [if_pos h2, if_pos (by omega)]
    · rw [if_neg h2, if_neg (by omega)]
theorem blk_in {f : Nat → Int32} {c p : Nat} {g : Nat → Int32} (hp : p < 6) : blk f c 6 g (6 * c + p) = g p := by
  unfold blk
  rw [if_pos (by omega), Nat.add_sub_cancel_left]
theorem blk_out {f : Nat → Int32} {c d p : Nat} {g : Nat → Int32} (hp : p < 6) (h : d ≠ c) : blk f c 6 g (6 * d + p) = f (6 * d + p) := by
  unfold blk
  rw [if_neg (by omega)]
theorem clr_in {f : Nat → Int32} {c r : Nat} (hr : r < 8) : clr f c 8 (8 * c + r) = 0 := by
  unfold clr
  rw [if_pos (by omega)]
theorem clr_out {f : Nat → Int32} {c d r : Nat} (hr : r < 8) (h : d ≠ c) : clr f c 8 (8 * d + r) = f (8 * d + r) := by
  unfold clr
  rw [if_neg (by omega)]
theorem rv_0 (r : Nat) : rv 0 0 r = 0 := by unfold rv; rw [b_0]; rfl
/-- a change is laid anew -/
theorem S2_fresh {σ τ ρ ρ' : Sg} {c : Nat} {b g : Nat → Int32} (h : S2 σ ρ) (h13 : ρ' 7 0 13 = τ 5 0 4) (hn : ∀ d, d < cn τ → d = c ∨ d < cn σ) (hd : ∀ d, d ≠ c → τ 1 d = σ 1 d ∧ τ 14 d = σ 14 d ∧ τ 15 d = σ 15 d) (h23 : ρ' 23 0 = blk (ρ 23 0) c 6 b) (h24 : ρ' 24 0 = blk (ρ 24 0) c 6 g) (h25 : ρ' 25 0 = up1 (ρ 25 0) c 0) (h26 : ρ' 26 0 = up1 (ρ 26 0) c 0) (h27 : ρ' 27 0 = clr (ρ 27 0) c 8) (hb : ∀ p, p < 6 → b p = τ 14 c p) (hg : ∀ p, p < 6 → g p = τ 15 c p) (h2 : τ 1 c 2 = 0) (h3 : τ 1 c 3 = 0) (h4 : τ 1 c 4 = 0) (h5 : τ 1 c 5 = 0) : S2 τ ρ' := by
  refine ⟨h13, fun d hl => ?_⟩
  unfold CS bs ow
  rw [h23, h24, h25, h26, h27]
  by_cases e : d = c
  · subst e
    rw [h2, h3, h4, h5, up1_same, up1_same]
    exact ⟨fun p hp => (blk_in hp).trans (hb p hp), fun p hp => (blk_in hp).trans (hg p hp), rfl, rfl, fun r hr => (clr_in hr).trans (rv_0 r).symm⟩
  · obtain ⟨e1, e2, e3⟩ := hd d e
    rw [e1, e2, e3, up1_ne e, up1_ne e]
    have hl2 : d < cn σ := (hn d hl).resolve_left e
    obtain ⟨x1, x2, x3, x4, x5⟩ := h.2 d hl2
    exact ⟨fun p hp => (blk_out hp e).trans (x1 p hp), fun p hp => (blk_out hp e).trans (x2 p hp), x3, x4, fun r hr => (clr_out hr e).trans (x5 r hr)⟩
theorem blk_st {ρ : Sg} {t c n : Nat} {g f : Nat → Int32} {v : Int32} (h : v = g n) : sg (sga ρ t 0 (blk f c n g)) t 0 (6 * c + n) v = sga ρ t 0 (blk f c (n + 1) g) := by
  rw [sg_sga, h, blk_S]
theorem is_eq {σ ρ : Sg} (h : S2 σ ρ) (hC : Cn σ) (a t : Int32) : (inr a (ρ 7 0 13) && decide (ρ 25 0 (tn a) = t)) = (inr a (σ 5 0 4) && decide (σ 1 (tn a) 2 = t)) := by
  rw [h.1]
  cases hi : inr a (σ 5 0 4) with
  | false => rfl
  | true =>
    have h2 := inr_nI (n := cn σ) hi hC.1 (by have := hC.2; omega)
    rw [(h.2 (tn a) h2.2).2.2.1]
theorem s_is0 {l : Launch} {w : WW} {M : Mem} {σ ρ : Sg} {a : Int32} (h : S2 σ ρ) (hC : Cn σ) : Can l w yX8_is cX8_is 3 (some .boolean) (rmd 2) [.ref (ad w 2 7 0), .int a, .int 0] (zx w M 2 ρ) (RI (bi (opB σ a)) (zx w M 2 ρ)) := by
  have h1 := s_X8_is (l := l) (w := w) (M := M) (ρ := ρ) (c := a) (t := 0) (h.1.trans hC.1) hC.2
  rw [is_eq h hC] at h1
  exact h1
theorem s_is3 {l : Launch} {w : WW} {M : Mem} {σ ρ : Sg} {a : Int32} (h : S2 σ ρ) (hC : Cn σ) : Can l w yX8_is cX8_is 3 (some .boolean) (rmd 2) [.ref (ad w 2 7 0), .int a, .int 3] (zx w M 2 ρ) (RI (bi (inr a (σ 5 0 4) && decide (σ 1 (tn a) 2 = 3))) (zx w M 2 ρ)) := by
  have h1 := s_X8_is (l := l) (w := w) (M := M) (ρ := ρ) (c := a) (t := 3) (h.1.trans hC.1) hC.2
  rw [is_eq h hC] at h1
  exact h1
theorem s_nr {l : Launch} {w : WW} {M : Mem} {ρ : Sg} {a : Int32} {c : Nat} (ea : a = nI c) (hc : c < 16) : Can l w yX8_noReviews cX8_noReviews 3 none (rmd 1) [.ref (ad w 2 7 0), .int a] (zx w M 2 ρ) (RV (zx w M 2 (sga ρ 27 0 (clr (ρ 27 0) c 8)))) := by
  subst ea
  exact s_X8_noReviews hc
theorem s_cnt {l : Launch} {w : WW} {M : Mem} {ρ : Sg} {a how : Int32} {c : Nat} (ea : a = nI c) (hc : c < 16) : Can l w yX8_count cX8_count 5 (some .int) (rmd 1) [.ref (ad w 2 7 0), .int a, .int how] (zx w M 2 ρ) (RI (cntR (ρ 27 0) c how 8 0 0) (zx w M 2 ρ)) := by
  subst ea
  exact s_X8_count hc
theorem s_cf {l : Launch} {w : WW} {M : Mem} {ρ : Sg} {a : Int32} {c : Nat} (ea : a = nI c) (hc : c < 16) : Can l w yX8_conflicts cX8_conflicts 5 (some .boolean) (rmd 1) [.ref (ad w 2 7 0), .int a] (zx w M 2 ρ) (RI (bi (cfR ρ c)) (zx w M 2 (if cfR ρ c = true then ρ else mgR ρ c))) := by
  subst ea
  exact s_X8_conflicts hc
theorem ry_y {w : WW} {M : Mem} {ρ0 σ τ : Sg} {acc : Bool} {ans no : Int32} {v : Option Value} {z : XX} (ha : acc = true) (h : RY w M ans (fun ρ' => Sm ρ0 τ ρ') v z) : RY w M (if acc = true then ans else no) (fun ρ' => Sm ρ0 (if acc = true then τ else σ) ρ') v z := by
  subst ha
  exact h
theorem ry_n {w : WW} {M : Mem} {ρ0 σ τ : Sg} {acc : Bool} {ans no : Int32} {v : Option Value} {z : XX} (ha : acc = false) (h : RY w M no (fun ρ' => Sm ρ0 σ ρ') v z) : RY w M (if acc = true then ans else no) (fun ρ' => Sm ρ0 (if acc = true then τ else σ) ρ') v z := by
  subst ha
  exact h
/-! how many reviewers -/
def cb (F : Int32) : Nat → Nat → Int32 → Int32
  | 0, _, x => x
  | n + 1, r, x => cb F n (r + 1) (if bt F r = true then x + 1 else x)
theorem cb_all : ∀ f, f < 256 → bitc (nI f) = cb (nI f) 8 0 0 ∧ (bitc (nI f) ≤ 0 ↔ bitc (nI f) = 0) := by decide +kernel
theorem byte_of {F : Int32} (h : ∀ r, 8 ≤ r → bt F r = false) : ∃ f, f < 256 ∧ F = nI f := by
  have e : F &&& 255 = F := b_ext (fun i _ => by
    rw [b_and, b_255]
    by_cases hi : i < 8
    · rw [decide_eq_true hi, Bool.and_true]
    · rw [decide_eq_false hi, Bool.and_false, h i (by omega)])
  refine ⟨F.toBitVec.toNat, ?_, Int32.toBitVec_inj.mp (by show _ = BitVec.ofNat 32 _; simp)⟩
  have h2 : F.toBitVec.toNat = F.toBitVec.toNat % 256 := by
    have h3 := congrArg (fun x : Int32 => x.toBitVec.toNat) e
    simp only [Int32.toBitVec_and, BitVec.toNat_and] at h3
    rw [← Nat.and_two_pow_sub_one_eq_mod _ 8]
    exact h3.symm
  rw [h2]
  exact Nat.mod_lt _ (by decide)
theorem cnt_cb {f : Nat → Int32} {c : Nat} {how F : Int32} : ∀ (n r : Nat) (x : Int32), r + n ≤ 8 → (∀ i, r ≤ i → i < r + n → (f (8 * c + i) = how ↔ bt F i = true)) → cntR f c how n r x = cb F n r x
  | 0, r, x, _, _ => rfl
  | n + 1, r, x, hr, h => by
    rw [cntR, cb, cnt_cb n (r + 1) _ (by omega) (fun i h1 h2 => h i (by omega) (by omega))]
    have := h r (Nat.le_refl r) (by omega)
    by_cases hb : bt F r = true
    · rw [if_pos hb, if_pos (this.mpr hb)]
    · rw [if_neg hb, if_neg (fun q => hb (this.mp q))]
theorem cnt_for {σ ρ : Sg} {c : Nat} (h : CS σ ρ c) (hI : CI σ c) : cntR (ρ 27 0) c 1 8 0 0 = bitc (σ 1 c 4) := by
  obtain ⟨f, hf, e⟩ := byte_of (fun r hr => (hI.2.1 r hr).1)
  rw [cnt_cb (F := σ 1 c 4) 8 0 0 (by decide) (fun i _ hi => ?_), e, (cb_all f hf).1]
  rw [h.2.2.2.2 i (by omega)]
  unfold rv
  cases h1 : bt (σ 1 c 4) i with
  | true => simp
  | false =>
    cases h2 : bt (σ 1 c 5) i <;> simp
theorem cnt_aga {σ ρ : Sg} {c : Nat} (h : CS σ ρ c) (hI : CI σ c) : cntR (ρ 27 0) c 2 8 0 0 = bitc (σ 1 c 5) ∧ (bitc (σ 1 c 5) ≤ 0 ↔ bitc (σ 1 c 5) = 0) := by
  obtain ⟨f, hf, e⟩ := byte_of (fun r hr => (hI.2.1 r hr).2)
  refine ⟨?_, by rw [e]; exact (cb_all f hf).2⟩
  rw [cnt_cb (F := σ 1 c 5) 8 0 0 (by decide) (fun i _ hi => ?_), e, (cb_all f hf).1]
  rw [h.2.2.2.2 i (by omega)]
  unfold rv
  cases h2 : bt (σ 1 c 5) i with
  | true =>
    cases h1 : bt (σ 1 c 4) i with
    | true => exact absurd h2 (fun q => hI.1 i h1 q)
    | false => simp
  | false =>
    cases h1 : bt (σ 1 c 4) i <;> simp
theorem Sm_ch {ρ0 σ τ ρ ρ' : Sg} (h : Sm ρ0 σ ρ) (h2 : S2 τ ρ') (a8 : τ 8 0 = σ 8 0 := by first | rfl | assumption) (a2 : τ 5 0 2 = σ 5 0 2 := by first | rfl | assumption) (a5 : τ 5 0 8 = σ 5 0 8 := by first | rfl | assumption) (a3 : τ 3 = σ 3 := by first | rfl | assumption) (a13 : τ 13 = σ 13 := by first | rfl | assumption) (a0 : τ 0 0 1 = σ 0 0 1 := by first | rfl | assumption) (a10 : τ 10 0 = σ 10 0 := by first | rfl | assumption) (a11 : τ 11 0 = σ 11 0 := by first | rfl | assumption) (a12 : τ 12 0 = σ 12 0 := by first | rfl | assumption) (hp : ∀ t, t ≠ 7 → t ≠ 23 → t ≠ 24 → t ≠ 25 → t ≠ 26 → t ≠ 27 → t ≠ 34 → t ≠ 35 → ρ' t = ρ t) (h7 : ∀ k, k ≠ 13 → ρ' 7 0 k = ρ 7 0 k) : Sm ρ0 τ ρ' := by
  refine ⟨⟨?_, h2, ?_, ?_, ?_⟩, ?_, ?_⟩
  · exact S1_of h.1.1 a8 a2 a5 (by rw [hp 22 (by decide) (by decide) (by decide) (by decide) (by decide) (by decide) (by decide) (by decide)]) (h7 11 (by decide)) (h7 12 (by decide))
  · exact S3_of h.1.2.2.1 (by rw [a3]) (by rw [a13]) (by rw [hp 28 (by decide) (by decide) (by decide) (by decide) (by decide) (by decide) (by decide) (by decide)]) (h7 20 (by decide))
  · exact S4_of h.1.2.2.2.1 (by rw [a3]) (by rw [a13]) (by rw [hp 29 (by decide) (by decide) (by decide) (by decide) (by decide) (by decide) (by decide) (by decide)]) (h7 22 (by decide))
  · exact Kp_of h.1.2.2.2.2 (hp 18 (by decide) (by decide) (by decide) (by decide) (by decide) (by decide) (by decide) (by decide)) (hp 19 (by decide) (by decide) (by decide) (by decide) (by decide) (by decide) (by decide) (by decide)) (hp 20 (by decide) (by decide) (by decide) (by decide) (by decide) (by decide) (by decide) (by decide)) (hp 21 (by decide) (by decide) (by decide) (by decide) (by decide) (by decide) (by decide) (by decide)) (h7 0 (by decide)) (h7 1 (by decide)) (h7 2 (by decide)) (h7 3 (by decide)) (h7 8 (by decide)) (h7 9 (by decide)) (hp 2 (by decide) (by decide) (by decide) (by decide) (by decide) (by decide) (by decide) (by decide)) (hp 4 (by decide) (by decide) (by decide) (by decide) (by decide) (by decide) (by decide) (by decide)) (hp 6 (by decide) (by decide) (by decide) (by decide) (by decide) (by decide) (by decide) (by decide))
  · exact S5_of h.2.1 a0 a10 a11 (h7 23 (by decide)) (by rw [hp 30 (by decide) (by decide) (by decide) (by decide) (by decide) (by decide) (by decide) (by decide)]) (by rw [hp 31 (by decide) (by decide) (by decide) (by decide) (by decide) (by decide) (by decide) (by decide)])
  · exact S6_of h.2.2 a10 a12 (by rw [hp 32 (by decide) (by decide) (by decide) (by decide) (by decide) (by decide) (by decide) (by decide)]) (by rw [hp 33 (by decide) (by decide) (by decide) (by decide) (by decide) (by decide) (by decide) (by decide)])
/-- a change's reviews -/
theorem S2_rev {σ τ ρ ρ' : Sg} {c : Nat} (h : S2 σ ρ) (hd : ∀ d, d ≠ c → τ 1 d = σ 1 d) (h2 : τ 1 c 2 = σ 1 c 2) (h3 : τ 1 c 3 = σ 1 c 3) (h5 : τ 5 0 4 = σ 5 0 4) (h14 : τ 14 = σ 14) (h15 : τ 15 = σ 15) (r23 : ρ' 23 = ρ 23) (r24 : ρ' 24 = ρ 24) (r25 : ρ' 25 = ρ 25) (r26 : ρ' 26 = ρ 26) (r13 : ρ' 7 0 13 = ρ 7 0 13) (ho : ∀ d, d ≠ c → ∀ r, r < 8 → ρ' 27 0 (8 * d + r) = ρ 27 0 (8 * d + r)) (hc : ∀ r, r < 8 → ρ' 27 0 (8 * c + r) = rv (τ 1 c 4) (τ 1 c 5) r) : S2 τ ρ' := by
  refine ⟨by rw [r13, h5]; exact h.1, fun d hl => ?_⟩
  have hl2 : d < cn σ := by unfold cn at *; rw [← h5]; exact hl
  obtain ⟨x1, x2, x3, x4, x5⟩ := h.2 d hl2
  unfold CS bs ow
  rw [r23, r24, r25, r26, h14, h15]
  by_cases e : d = c
  · subst e
    rw [h2, h3]
    exact ⟨x1, x2, x3, x4, hc⟩
  · rw [hd d e]
    exact ⟨x1, x2, x3, x4, fun r hr => (ho d e r hr).trans (x5 r hr)⟩
theorem two_st {ρ : Sg} {c n : Nat} {b g : Nat → Int32} {u v : Int32} (h1 : u = b n) (h2 : v = g n) : sg (sg (sga (sga ρ 23 0 (blk (ρ 23 0) c n b)) 24 0 (blk (ρ 24 0) c n g)) 23 0 (6 * c + n) u) 24 0 (6 * c + n) v = sga (sga ρ 23 0 (blk (ρ 23 0) c (n + 1) b)) 24 0 (blk (ρ 24 0) c (n + 1) g) := by
  rw [sg_is _ 23, show (sga (sga ρ 23 0 (blk (ρ 23 0) c n b)) 24 0 (blk (ρ 24 0) c n g)) 23 0 = blk (ρ 23 0) c n b by rw [sga_t (by decide), sga_same], h1, blk_S, sga_comm (t := 24) (t' := 23) (by decide), sga_sga, blk_st h2]
theorem two_st' {ρ : Sg} {c n : Nat} {b g : Nat → Int32} {u v : Int32} (h1 : u = b n) (h2 : v = g n) : sg (sg (sga (sga ρ 23 0 (blk (ρ 23 0) c n b)) 24 0 (blk (ρ 24 0) c n g)) 24 0 (6 * c + n) v) 23 0 (6 * c + n) u = sga (sga ρ 23 0 (blk (ρ 23 0) c (n + 1) b)) 24 0 (blk (ρ 24 0) c (n + 1) g) := by
  rw [blk_st h2, sg_is _ 23, show (sga (sga ρ 23 0 (blk (ρ 23 0) c n b)) 24 0 (blk (ρ 24 0) c (n + 1) g)) 23 0 = blk (ρ 23 0) c n b by rw [sga_t (by decide), sga_same], h1, blk_S, sga_comm (t := 24) (t' := 23) (by decide), sga_sga]
set_option maxRecDepth 10000 in
theorem L_X8_op {l : Launch} {w : WW} {Φ : Option Value → XX → Prop} {M : Mem} {ρ : Sg} {c : Nat} (hc : c < 16) (hn : ρ 7 0 13 = nI c) : ∀ (n : Nat) {j : Nat}, j + n = 6 → A l w yX8_doOpen cX8_doOpen 2 (some .int) (rmd 2) Φ 65 [some (.ref (ad w 2 7 0)), some (.int (nI 6))] [] (zx w M 2 (sga (sga ρ 23 0 (blk (ρ 23 0) c 6 (ρ 22 0))) 24 0 (blk (ρ 24 0) c 6 (ρ 22 0)))) 0 0 → A l w yX8_doOpen cX8_doOpen 2 (some .int) (rmd 2) Φ 13 [some (.ref (ad w 2 7 0)), some (.int (nI j))] [] (zx w M 2 (sga (sga ρ 23 0 (blk (ρ 23 0) c j (ρ 22 0))) 24 0 (blk (ρ 24 0) c j (ρ 22 0)))) 0 0 := by
  intro n
  induction n with
  | zero =>
    intro j hj kk
    refine a_iload_n dX8_doOpen_13 rfl ?_
    refine a_bipush (v := 6) dX8_doOpen_14 (by decide) ?_
    refine a_icmp_ge (tgt := 65) dX8_doOpen_16 (by decide) (fun c_16 => ?_) (fun c_16 => absurd (by have e6 : j = 6 := (by omega); subst e6; decide) c_16)
    obtain rfl : j = 6 := by omega
    exact kk
  | succ n ih =>
    intro j hj kk
    refine a_iload_n dX8_doOpen_13 rfl ?_
    refine a_bipush (v := 6) dX8_doOpen_14 (by decide) ?_
    refine a_icmp_ge (tgt := 65) dX8_doOpen_16 (by decide) (fun c_16 => absurd c_16 (nI_ge (b := 6) (by omega) (by omega))) (fun c_16 => ?_)
    refine a_aload_n dX8_doOpen_19 rfl ?_
    refine c_getR (t := 7) (k := 14) dX8_doOpen_20 kw_95 rfl ?_
    refine a_bipush (v := 6) dX8_doOpen_23 (by decide) ?_
    refine a_aload_n dX8_doOpen_25 rfl ?_
    refine c_getI (t := 7) (k := 13) dX8_doOpen_26 kw_122 ?_
    rw [show (sga (sga ρ 23 0 (blk (ρ 23 0) c j (ρ 22 0))) 24 0 (blk (ρ 24 0) c j (ρ 22 0))) 7 0 13 = nI c from hn]
    refine a_imul dX8_doOpen_29 ?_
    refine a_iload_n dX8_doOpen_30 rfl ?_
    refine a_iadd dX8_doOpen_31 ?_
    refine a_aload_n dX8_doOpen_32 rfl ?_
    refine c_getR (t := 7) (k := 10) dX8_doOpen_33 kw_94 rfl ?_
    refine a_iload_n dX8_doOpen_36 rfl ?_
    refine c_iald (i := j) dX8_doOpen_37 rfl (show j < 6 by omega) ?_
    refine c_iast (i := 6 * c + j) dX8_doOpen_38 (nI_6 c j) (show 6 * c + j < 96 by omega) ?_
    refine a_aload_n dX8_doOpen_39 rfl ?_
    refine c_getR (t := 7) (k := 15) dX8_doOpen_40 kw_96 rfl ?_
    refine a_bipush (v := 6) dX8_doOpen_43 (by decide) ?_
    refine a_aload_n dX8_doOpen_45 rfl ?_
    refine c_getI (t := 7) (k := 13) dX8_doOpen_46 kw_122 ?_
    rw [show (sg (sga (sga ρ 23 0 (blk (ρ 23 0) c j (ρ 22 0))) 24 0 (blk (ρ 24 0) c j (ρ 22 0))) 23 0 (6 * c + j) ((sga (sga ρ 23 0 (blk (ρ 23 0) c j (ρ 22 0))) 24 0 (blk (ρ 24 0) c j (ρ 22 0))) 22 0 j)) 7 0 13 = nI c from hn]
    refine a_imul dX8_doOpen_49 ?_
    refine a_iload_n dX8_doOpen_50 rfl ?_
    refine a_iadd dX8_doOpen_51 ?_
    refine a_aload_n dX8_doOpen_52 rfl ?_
    refine c_getR (t := 7) (k := 10) dX8_doOpen_53 kw_94 rfl ?_
    refine a_iload_n dX8_doOpen_56 rfl ?_
    refine c_iald (i := j) dX8_doOpen_57 rfl (show j < 6 by omega) ?_
    refine c_iast (i := 6 * c + j) dX8_doOpen_58 (nI_6 c j) (show 6 * c + j < 96 by omega) ?_
    refine a_iinc_1 (u := nI (j + 1)) dX8_doOpen_59 (inc_nI j) (by decide) ?_
    refine a_goto (tgt := 13) dX8_doOpen_62 (by decide) ?_
    rw [two_st (b := ρ 22 0) (g := ρ 22 0) (by rfl) (by rfl)]
    exact ih (by omega) kk
set_option maxRecDepth 10000 in
theorem s_X8_doOpen {l : Launch} {w : WW} {M : Mem} {ρ0 σ ρ : Sg} {B k : Nat} (h : Sm ρ0 σ ρ) (hG : Gk B k σ) : Can l w yX8_doOpen cX8_doOpen 2 (some .int) (rmd 2) [.ref (ad w 2 7 0)] (zx w M 2 ρ) (RY w M (if (decide (cn σ < 16)) = true then σ 5 0 4 else -1) (fun ρ' => Sm ρ0 (if (decide (cn σ < 16)) = true then addC σ else σ) ρ')) := by
  refine Can.go (ls := [some (.ref (ad w 2 7 0)), none]) ?_
  have hC : Cn σ := hG.1.elim fun qs h => h.elim fun ps hW => hW.1.1
  have hn : ρ 7 0 13 = nI (cn σ) := h.1.2.1.1.trans hC.1
  refine a_aload_n dX8_doOpen_0 rfl ?_
  refine c_getI (t := 7) (k := 13) dX8_doOpen_1 kw_122 ?_
  refine a_bipush (v := 16) dX8_doOpen_4 (by decide) ?_
  rw [hn]
  refine a_icmp_lt (tgt := 11) dX8_doOpen_6 (by decide) (fun c_6 => ?_) (fun c_6 => ?_)
  · refine a_iconst (v := 0) dX8_doOpen_11 (by decide) ?_
    refine a_istore_1 dX8_doOpen_12 (by decide) ?_
    have hlt : cn σ < 16 := by
      rcases Nat.lt_or_ge (cn σ) 16 with q | q
      · exact q
      · exact absurd c_6 (nI_nlt (b := 16) q (by have := hC.2; omega))
    generalize hc0 : cn σ = c at hn hlt
    refine a_eq (x' := zx w M 2 (sga (sga ρ 23 0 (blk (ρ 23 0) c 0 (ρ 22 0))) 24 0 (blk (ρ 24 0) c 0 (ρ 22 0)))) (by rw [blk_0, blk_0, sga_eta, sga_eta]) ?_
    refine L_X8_op hlt hn 6 (j := 0) rfl ?_
    refine a_aload_n dX8_doOpen_65 rfl ?_
    refine c_getR (t := 7) (k := 16) dX8_doOpen_66 kw_97 rfl ?_
    refine a_aload_n dX8_doOpen_69 rfl ?_
    refine c_getI (t := 7) (k := 13) dX8_doOpen_70 kw_122 ?_
    rw [show (sga (sga ρ 23 0 (blk (ρ 23 0) c 6 (ρ 22 0))) 24 0 (blk (ρ 24 0) c 6 (ρ 22 0))) 7 0 13 = nI c from hn]
    refine a_iconst (v := 0) dX8_doOpen_73 (by decide) ?_
    refine c_iast (i := c) dX8_doOpen_74 rfl (show c < 16 from hlt) ?_
    refine a_aload_n dX8_doOpen_75 rfl ?_
    refine c_getR (t := 7) (k := 17) dX8_doOpen_76 kw_98 rfl ?_
    refine a_aload_n dX8_doOpen_79 rfl ?_
    refine c_getI (t := 7) (k := 13) dX8_doOpen_80 kw_122 ?_
    rw [show (sg (sga (sga ρ 23 0 (blk (ρ 23 0) c 6 (ρ 22 0))) 24 0 (blk (ρ 24 0) c 6 (ρ 22 0))) 25 0 c 0) 7 0 13 = nI c from hn]
    refine a_iconst (v := 0) dX8_doOpen_83 (by decide) ?_
    refine c_iast (i := c) dX8_doOpen_84 rfl (show c < 16 from hlt) ?_
    refine a_aload_n dX8_doOpen_85 rfl ?_
    refine a_aload_n dX8_doOpen_86 rfl ?_
    refine c_getI (t := 7) (k := 13) dX8_doOpen_87 kw_122 ?_
    rw [show (sg (sg (sga (sga ρ 23 0 (blk (ρ 23 0) c 6 (ρ 22 0))) 24 0 (blk (ρ 24 0) c 6 (ρ 22 0))) 25 0 c 0) 26 0 c 0) 7 0 13 = nI c from hn]
    refine c_V1V dX8_doOpen_90 kw_389 kv_X8_noReviews (s_X8_noReviews hlt) ?_
    refine a_aload_n dX8_doOpen_93 rfl ?_
    refine a_aload_n dX8_doOpen_94 rfl ?_
    refine c_getI (t := 7) (k := 13) dX8_doOpen_95 kw_122 ?_
    refine a_iconst (v := 1) dX8_doOpen_98 (by decide) ?_
    refine a_iadd dX8_doOpen_99 ?_
    refine c_putI (t := 7) (k := 13) dX8_doOpen_100 kw_122 ?_
    refine a_aload_n dX8_doOpen_103 rfl ?_
    refine c_getI (t := 7) (k := 13) dX8_doOpen_104 kw_122 ?_
    refine a_iconst (v := 1) dX8_doOpen_107 (by decide) ?_
    refine a_isub dX8_doOpen_108 ?_
    exact c_iret dX8_doOpen_109 (by
        refine ry_y (decide_eq_true (show c < 16 from hlt)) ⟨?_, _, rfl, ?_⟩
        · rw [sg_same]
          show some (Value.int (ρ 7 0 13 + 1 - 1)) = some (Value.int (σ 5 0 4))
          rw [hn, nI_1, nI_pred, ← hn, h.1.2.1.1]
        · refine Sm_ch h (S2_fresh (c := c) (b := ρ 22 0) (g := ρ 22 0) h.1.2.1 ?_ (fun d hd => ?_) (fun d e => ?_) rfl rfl rfl rfl rfl (fun p hp => ?_) (fun p hp => ?_) ?_ ?_ ?_ ?_) rfl rfl rfl rfl rfl rfl rfl rfl rfl (fun t t7 t23 t24 t25 t26 t27 _ _ => ?_) (fun k hk => ?_)
          · show ρ 7 0 13 + 1 = σ 5 0 4 + 1
            rw [h.1.2.1.1]
          · have ec : cn (addC σ) = c + 1 := by
              unfold cn addC
              rw [sg_same, hC.1, hc0, nI_1]
              exact nI_clamp (by omega)
            rw [ec] at hd
            omega
          · rw [← hc0] at e
            refine ⟨?_, ?_, ?_⟩ <;> simp [addC, stF, dropR, become, sg, sga, up1, e]
          · rw [← hc0, h.1.1.1 p hp]
            simp [addC, stF, dropR, become, sg, sga, up1]
          · rw [← hc0, h.1.1.1 p hp]
            simp [addC, stF, dropR, become, sg, sga, up1]
          · rw [← hc0]; simp [addC, stF, dropR, become, sg, sga, up1]
          · rw [← hc0]; simp [addC, stF, dropR, become, sg, sga, up1]
          · rw [← hc0]; simp [addC, stF, dropR, become, sg, sga, up1]
          · rw [← hc0]; simp [addC, stF, dropR, become, sg, sga, up1]
          · rw [sg_t t7, sga_t t27, sg_t t26, sg_t t25, sga_t t24, sga_t t23]
          · rw [sg_k hk]; rfl)
  · refine a_iconst (v := (-1)) dX8_doOpen_9 (by decide) ?_
    exact c_iret dX8_doOpen_10 (ry_n (decide_eq_false (fun q => c_6 (nI_lt q (by decide)))) ⟨rfl, _, rfl, h⟩)
theorem tn_i {a : Int32} {n : Nat} (h : inr a (nI n) = true) (hn : n ≤ 600) : a = nI (tn a) ∧ tn a < n := inr_nI h rfl hn
theorem inr_of2 {a : Int32} {n : Nat} {m : Int32} (hm : m = nI n) (h1 : ¬ a < 0) (h2 : a ≤ m - 1) (hn : 1 ≤ n) (hn2 : n ≤ 600) : inr a m = true := by
  subst hm
  unfold inr
  have : ¬ nI n ≤ a := by
    rw [show nI n - 1 = nI (n - 1) by rw [← nI_pred (n - 1), Nat.sub_add_cancel hn], Int32.le_iff_toInt_le, nI_toInt (by omega)] at h2
    rw [Int32.le_iff_toInt_le, nI_toInt (by omega)]
    omega
  rw [decide_eq_false h1, decide_eq_false this]
  rfl
theorem inr_of3 {a m : Int32} {n : Nat} (hm : m = nI n) (h2 : ¬ a ≤ m - 1) (hn : 1 ≤ n) (hn2 : n ≤ 600) : inr a m = false := by
  subst hm
  unfold inr
  have : nI n ≤ a := by
    rw [show nI n - 1 = nI (n - 1) by rw [← nI_pred (n - 1), Nat.sub_add_cancel hn], Int32.le_iff_toInt_le, nI_toInt (by omega)] at h2
    rw [Int32.le_iff_toInt_le, nI_toInt (by omega)]
    omega
  rw [decide_eq_true this]
  simp
theorem inr_neg {a m : Int32} (h : a < 0) : inr a m = false := by
  unfold inr
  rw [decide_eq_true h]
  rfl
set_option maxRecDepth 10000 in
theorem s_X8_doPush {l : Launch} {w : WW} {M : Mem} {ρ0 σ ρ : Sg} {B k : Nat} (h : Sm ρ0 σ ρ) (hG : Gk B k σ) {a b c : Int32} : Can l w yX8_doPush cX8_doPush 4 (some .int) (rmd 3) [.ref (ad w 2 7 0), .int a, .int b, .int c] (zx w M 2 ρ) (RY w M (if (opB σ a && inr b 6) = true then 1 else -1) (fun ρ' => Sm ρ0 (if (opB σ a && inr b 6) = true then dropR (sg σ 15 (tn a) (tn b) c) (tn a) else σ) ρ')) := by
  refine Can.go (ls := [some (.ref (ad w 2 7 0)), some (.int a), some (.int b), some (.int c)]) ?_
  have hC : Cn σ := hG.1.elim fun qs h => h.elim fun ps hW => hW.1.1
  refine a_aload_n dX8_doPush_0 rfl ?_
  refine a_iload_n dX8_doPush_1 rfl ?_
  refine a_iconst (v := 0) dX8_doPush_2 (by decide) ?_
  refine c_V2I dX8_doPush_3 kw_397 kv_X8_is (s_is0 h.1.2.1 hC) ?_
  refine a_if_eq (tgt := 18) dX8_doPush_6 (by decide) (fun c_6 => ?_) (fun c_6 => ?_)
  · refine a_iconst (v := (-1)) dX8_doPush_18 (by decide) ?_
    exact c_iret dX8_doPush_19 (by
        have hf : (opB σ a && inr b 6) = false := by
          first
            | rw [bi_0.mp c_6, Bool.false_and]
            | rw [inr_neg c_10, Bool.and_false]
            | rw [inr_of3 (n := 6) (m := 6) rfl c_15 (by decide) (by decide), Bool.and_false]
        exact ry_n hf ⟨rfl, _, rfl, h⟩)
  · refine a_iload_n dX8_doPush_9 rfl ?_
    refine a_if_lt (tgt := 18) dX8_doPush_10 (by decide) (fun c_10 => ?_) (fun c_10 => ?_)
    · refine a_iconst (v := (-1)) dX8_doPush_18 (by decide) ?_
      exact c_iret dX8_doPush_19 (by
          have hf : (opB σ a && inr b 6) = false := by
            first
              | rw [bi_0.mp c_6, Bool.false_and]
              | rw [inr_neg c_10, Bool.and_false]
              | rw [inr_of3 (n := 6) (m := 6) rfl c_15 (by decide) (by decide), Bool.and_false]
          exact ry_n hf ⟨rfl, _, rfl, h⟩)
    · refine a_iload_n dX8_doPush_13 rfl ?_
      refine a_iconst (v := 5) dX8_doPush_14 (by decide) ?_
      refine a_icmp_le (tgt := 20) dX8_doPush_15 (by decide) (fun c_15 => ?_) (fun c_15 => ?_)
      · have ho := bi_n0.mp c_6
        obtain ⟨ea, ha16, han, hst⟩ := open_in ho hC
        have hb := inr_of2 (n := 6) (m := 6) rfl c_10 c_15 (by decide) (by decide)
        obtain ⟨eb, hb6⟩ := tn_i (n := 6) hb (by decide)
        refine a_aload_n dX8_doPush_20 rfl ?_
        refine c_getR (t := 7) (k := 15) dX8_doPush_21 kw_96 rfl ?_
        refine a_bipush (v := 6) dX8_doPush_24 (by decide) ?_
        refine a_iload_n dX8_doPush_26 rfl ?_
        refine a_imul dX8_doPush_27 ?_
        refine a_iload_n dX8_doPush_28 rfl ?_
        refine a_iadd dX8_doPush_29 ?_
        refine a_iload_n dX8_doPush_30 rfl ?_
        refine c_iast (i := 6 * tn a + tn b) dX8_doPush_31 (show (6 : Int32) * a + b = nI (6 * tn a + tn b) by rw [← nI_6, ← ea, ← eb]) (show 6 * tn a + tn b < 96 by omega) ?_
        refine a_aload_n dX8_doPush_32 rfl ?_
        refine a_iload_n dX8_doPush_33 rfl ?_
        refine c_V1V dX8_doPush_34 kw_389 kv_X8_noReviews (s_nr ea ha16) ?_
        refine a_iconst (v := 1) dX8_doPush_37 (by decide) ?_
        exact c_iret dX8_doPush_38 (by
            refine ry_y (by rw [ho, hb]; rfl) ⟨rfl, _, rfl, Sm_ch h (ρ' := sga (sg ρ 24 0 (6 * tn a + tn b) c) 27 0 (clr (ρ 27 0) (tn a) 8)) ?_ rfl rfl rfl rfl rfl rfl rfl rfl rfl (fun t _ _ t24 _ _ t27 _ _ => by rw [sga_t t27, sg_t t24]) (fun k _ => rfl)⟩
            refine ⟨h.1.2.1.1, fun d hd => ?_⟩
            obtain ⟨x1, x2, x3, x4, x5⟩ := h.1.2.1.2 d hd
            by_cases e : d = tn a
            · subst e
              have b2 : (dropR (sg σ 15 (tn a) (tn b) c) (tn a)) 1 (tn a) 2 = σ 1 (tn a) 2 := by simp [dropR, sg, up1]
              have b3 : (dropR (sg σ 15 (tn a) (tn b) c) (tn a)) 1 (tn a) 3 = σ 1 (tn a) 3 := by simp [dropR, sg, up1]
              have b4 : (dropR (sg σ 15 (tn a) (tn b) c) (tn a)) 1 (tn a) 4 = 0 := by simp [dropR, sg, up1]
              have b5 : (dropR (sg σ 15 (tn a) (tn b) c) (tn a)) 1 (tn a) 5 = 0 := by simp [dropR, sg, up1]
              refine ⟨x1, fun p hp => ?_, by rw [b2]; exact x3, by rw [b3]; exact x4, fun r hr => by rw [b4, b5, rv_0, sga_same]; exact clr_in hr⟩
              have b15 : (dropR (sg σ 15 (tn a) (tn b) c) (tn a)) 15 (tn a) = up1 (σ 15 (tn a)) (tn b) c := by
                show (sg σ 15 (tn a) (tn b) c) 15 (tn a) = _
                rw [sg_is, sga_same]
              rw [b15]
              show up1 (ρ 24 0) (6 * tn a + tn b) c (6 * tn a + p) = up1 (σ 15 (tn a)) (tn b) c p
              by_cases q : p = tn b
              · subst q; rw [up1_same, up1_same]
              · rw [up1_ne q, up1_ne (by omega)]
                exact x2 p hp
            · have b1 : (dropR (sg σ 15 (tn a) (tn b) c) (tn a)) 1 d = σ 1 d := by simp [dropR, sg, up1, e]
              have b15 : (dropR (sg σ 15 (tn a) (tn b) c) (tn a)) 15 d = σ 15 d := by simp [dropR, sg, up1, e]
              unfold CS
              rw [b1, b15]
              refine ⟨x1, fun p hp => ?_, x3, x4, fun r hr => by rw [sga_same, clr_out hr e]; exact x5 r hr⟩
              show up1 (ρ 24 0) (6 * tn a + tn b) c (6 * d + p) = _
              rw [up1_ne (by omega)]
              exact x2 p hp)
      · refine a_iconst (v := (-1)) dX8_doPush_18 (by decide) ?_
        exact c_iret dX8_doPush_19 (by
            have hf : (opB σ a && inr b 6) = false := by
              first
                | rw [bi_0.mp c_6, Bool.false_and]
                | rw [inr_neg c_10, Bool.and_false]
                | rw [inr_of3 (n := 6) (m := 6) rfl c_15 (by decide) (by decide), Bool.and_false]
            exact ry_n hf ⟨rfl, _, rfl, h⟩)
set_option maxRecDepth 10000 in
theorem s_X8_doReview {l : Launch} {w : WW} {M : Mem} {ρ0 σ ρ : Sg} {B k : Nat} (h : Sm ρ0 σ ρ) (hG : Gk B k σ) {a b how : Int32} {τ : Sg} (hτ : opB σ a = true → inr b 8 = true → Sm ρ0 τ (sg ρ 27 0 (8 * tn a + tn b) how)) : Can l w yX8_doReview cX8_doReview 4 (some .int) (rmd 3) [.ref (ad w 2 7 0), .int a, .int b, .int how] (zx w M 2 ρ) (RY w M (if (opB σ a && inr b 8) = true then 1 else -1) (fun ρ' => Sm ρ0 (if (opB σ a && inr b 8) = true then τ else σ) ρ')) := by
  refine Can.go (ls := [some (.ref (ad w 2 7 0)), some (.int a), some (.int b), some (.int how)]) ?_
  have hC : Cn σ := hG.1.elim fun qs h => h.elim fun ps hW => hW.1.1
  refine a_aload_n dX8_doReview_0 rfl ?_
  refine a_iload_n dX8_doReview_1 rfl ?_
  refine a_iconst (v := 0) dX8_doReview_2 (by decide) ?_
  refine c_V2I dX8_doReview_3 kw_397 kv_X8_is (s_is0 h.1.2.1 hC) ?_
  refine a_if_eq (tgt := 19) dX8_doReview_6 (by decide) (fun c_6 => ?_) (fun c_6 => ?_)
  · refine a_iconst (v := (-1)) dX8_doReview_19 (by decide) ?_
    exact c_iret dX8_doReview_20 (by
        have hf : (opB σ a && inr b 8) = false := by
          first
            | rw [bi_0.mp c_6, Bool.false_and]
            | rw [inr_neg c_10, Bool.and_false]
            | rw [inr_of3 (n := 8) (m := 8) rfl c_16 (by decide) (by decide), Bool.and_false]
        exact ry_n hf ⟨rfl, _, rfl, h⟩)
  · refine a_iload_n dX8_doReview_9 rfl ?_
    refine a_if_lt (tgt := 19) dX8_doReview_10 (by decide) (fun c_10 => ?_) (fun c_10 => ?_)
    · refine a_iconst (v := (-1)) dX8_doReview_19 (by decide) ?_
      exact c_iret dX8_doReview_20 (by
          have hf : (opB σ a && inr b 8) = false := by
            first
              | rw [bi_0.mp c_6, Bool.false_and]
              | rw [inr_neg c_10, Bool.and_false]
              | rw [inr_of3 (n := 8) (m := 8) rfl c_16 (by decide) (by decide), Bool.and_false]
          exact ry_n hf ⟨rfl, _, rfl, h⟩)
    · refine a_iload_n dX8_doReview_13 rfl ?_
      refine a_bipush (v := 7) dX8_doReview_14 (by decide) ?_
      refine a_icmp_le (tgt := 21) dX8_doReview_16 (by decide) (fun c_16 => ?_) (fun c_16 => ?_)
      · have ho := bi_n0.mp c_6
        obtain ⟨ea, ha16, han, hst⟩ := open_in ho hC
        have hb := inr_of2 (n := 8) (m := 8) rfl c_10 c_16 (by decide) (by decide)
        obtain ⟨eb, hb8⟩ := tn_i (n := 8) hb (by decide)
        refine a_aload_n dX8_doReview_21 rfl ?_
        refine c_getR (t := 7) (k := 18) dX8_doReview_22 kw_99 rfl ?_
        refine a_bipush (v := 8) dX8_doReview_25 (by decide) ?_
        refine a_iload_n dX8_doReview_27 rfl ?_
        refine a_imul dX8_doReview_28 ?_
        refine a_iload_n dX8_doReview_29 rfl ?_
        refine a_iadd dX8_doReview_30 ?_
        refine a_iload_n dX8_doReview_31 rfl ?_
        refine c_iast (i := 8 * tn a + tn b) dX8_doReview_32 (show (8 : Int32) * a + b = nI (8 * tn a + tn b) by rw [← nI_8, ← ea, ← eb]) (show 8 * tn a + tn b < 128 by omega) ?_
        refine a_iconst (v := 1) dX8_doReview_33 (by decide) ?_
        exact c_iret dX8_doReview_34 (ry_y (by rw [ho, hb]; rfl) ⟨rfl, _, rfl, hτ ho hb⟩)
      · refine a_iconst (v := (-1)) dX8_doReview_19 (by decide) ?_
        exact c_iret dX8_doReview_20 (by
            have hf : (opB σ a && inr b 8) = false := by
              first
                | rw [bi_0.mp c_6, Bool.false_and]
                | rw [inr_neg c_10, Bool.and_false]
                | rw [inr_of3 (n := 8) (m := 8) rfl c_16 (by decide) (by decide), Bool.and_false]
            exact ry_n hf ⟨rfl, _, rfl, h⟩)
theorem Sm_for {ρ0 σ ρ : Sg} {B k : Nat} {a b : Int32} (h : Sm ρ0 σ ρ) (hG : Gk B k σ) (ho : opB σ a = true) (hb : inr b 8 = true) : Sm ρ0 (addF σ (tn a) b) (sg ρ 27 0 (8 * tn a + tn b) 1) := by
  have hC : Cn σ := hG.1.elim fun qs h => h.elim fun ps hW => hW.1.1
  obtain ⟨-, -, h3, -⟩ := open_in ho hC
  obtain ⟨eb, hb8⟩ := tn_i (n := 8) hb (by decide)
  refine Sm_ch h (S2_rev (c := tn a) h.1.2.1 (fun d e => by simp [addF, sg, up1, e]) (by simp [addF, sg, up1]) (by simp [addF, sg, up1]) rfl rfl rfl rfl rfl rfl rfl rfl (fun d e r hr => sg_k (by omega)) (fun r hr => ?_)) rfl rfl rfl rfl rfl rfl rfl rfl rfl (fun t _ _ _ _ _ t27 _ _ => sg_t t27) (fun k _ => rfl)
  have a4 : (addF σ (tn a) b) 1 (tn a) 4 = σ 1 (tn a) 4 ||| sh1 (nI (tn b)) := by rw [← eb]; simp [addF, sg, up1]
  have a5 : (addF σ (tn a) b) 1 (tn a) 5 = σ 1 (tn a) 5 &&& (sh1 (nI (tn b)) ^^^ (-1)) := by rw [← eb]; simp [addF, sg, up1]
  rw [a4, a5]
  unfold rv
  rw [or_bt (by omega), an_bt (by omega)]
  by_cases e : r = tn b
  · subst e
    rw [sg_same, decide_eq_true rfl, Bool.or_true, if_pos rfl]
  · rw [sg_k (by omega), decide_eq_false e, Bool.or_false, Bool.not_false, Bool.and_true]
    exact (h.1.2.1.2 _ h3).2.2.2.2 r hr
theorem Sm_aga {ρ0 σ ρ : Sg} {B k : Nat} {a b : Int32} (h : Sm ρ0 σ ρ) (hG : Gk B k σ) (ho : opB σ a = true) (hb : inr b 8 = true) : Sm ρ0 (addA σ (tn a) b) (sg ρ 27 0 (8 * tn a + tn b) 2) := by
  have hC : Cn σ := hG.1.elim fun qs h => h.elim fun ps hW => hW.1.1
  obtain ⟨-, -, h3, -⟩ := open_in ho hC
  obtain ⟨eb, hb8⟩ := tn_i (n := 8) hb (by decide)
  refine Sm_ch h (S2_rev (c := tn a) h.1.2.1 (fun d e => by simp [addA, sg, up1, e]) (by simp [addA, sg, up1]) (by simp [addA, sg, up1]) rfl rfl rfl rfl rfl rfl rfl rfl (fun d e r hr => sg_k (by omega)) (fun r hr => ?_)) rfl rfl rfl rfl rfl rfl rfl rfl rfl (fun t _ _ _ _ _ t27 _ _ => sg_t t27) (fun k _ => rfl)
  have a5 : (addA σ (tn a) b) 1 (tn a) 5 = σ 1 (tn a) 5 ||| sh1 (nI (tn b)) := by rw [← eb]; simp [addA, sg, up1]
  have a4 : (addA σ (tn a) b) 1 (tn a) 4 = σ 1 (tn a) 4 &&& (sh1 (nI (tn b)) ^^^ (-1)) := by rw [← eb]; simp [addA, sg, up1]
  rw [a4, a5]
  unfold rv
  rw [or_bt (by omega), an_bt (by omega)]
  by_cases e : r = tn b
  · subst e
    rw [sg_same, decide_eq_true rfl, Bool.or_true, Bool.not_true, Bool.and_false, if_neg (by decide), if_pos rfl]
  · rw [sg_k (by omega), decide_eq_false e, Bool.or_false, Bool.not_false, Bool.and_true]
    exact (h.1.2.1.2 _ h3).2.2.2.2 r hr
set_option maxRecDepth 10000 in
theorem s_X8_doClose {l : Launch} {w : WW} {M : Mem} {ρ0 σ ρ : Sg} {B k : Nat} (h : Sm ρ0 σ ρ) (hG : Gk B k σ) {a : Int32} : Can l w yX8_doClose cX8_doClose 2 (some .int) (rmd 3) [.ref (ad w 2 7 0), .int a] (zx w M 2 ρ) (RY w M (if (orB σ a) = true then 1 else -1) (fun ρ' => Sm ρ0 (if (orB σ a) = true then become σ (tn a) 4 0 else σ) ρ')) := by
  refine Can.go (ls := [some (.ref (ad w 2 7 0)), some (.int a)]) ?_
  have hC : Cn σ := hG.1.elim fun qs h => h.elim fun ps hW => hW.1.1
  refine a_aload_n dX8_doClose_0 rfl ?_
  refine a_iload_n dX8_doClose_1 rfl ?_
  refine a_iconst (v := 0) dX8_doClose_2 (by decide) ?_
  refine c_V2I dX8_doClose_3 kw_397 kv_X8_is (s_is0 h.1.2.1 hC) ?_
  refine a_if_ne (tgt := 20) dX8_doClose_6 (by decide) (fun c_6 => ?_) (fun c_6 => ?_)
  · have ho : orB σ a = true := by
      unfold orB
      first
        | (rw [bi_n0.mp c_6]; rfl)
        | (rw [bi_n0.mp c_15, Bool.or_true])
    obtain ⟨ea, ha16, han, hst⟩ := orB_is ho hC
    refine a_aload_n dX8_doClose_20 rfl ?_
    refine c_getR (t := 7) (k := 16) dX8_doClose_21 kw_97 rfl ?_
    refine a_iload_n dX8_doClose_24 rfl ?_
    refine a_iconst (v := 4) dX8_doClose_25 (by decide) ?_
    refine c_iast (i := tn a) dX8_doClose_26 ea (show tn a < 16 from ha16) ?_
    refine a_aload_n dX8_doClose_27 rfl ?_
    refine c_getR (t := 7) (k := 17) dX8_doClose_28 kw_98 rfl ?_
    refine a_iload_n dX8_doClose_31 rfl ?_
    refine a_iconst (v := 0) dX8_doClose_32 (by decide) ?_
    refine c_iast (i := tn a) dX8_doClose_33 ea (show tn a < 16 from ha16) ?_
    refine a_iconst (v := 1) dX8_doClose_34 (by decide) ?_
    exact c_iret dX8_doClose_35 (ry_y ho ⟨rfl, _, rfl, Sm_ch h (S2_become h.1.2.1 (tn a) 4 0) rfl rfl rfl rfl rfl rfl rfl rfl rfl (fun t _ _ _ t25 t26 _ _ _ => by rw [sg_t t26, sg_t t25]) (fun k _ => rfl)⟩)
  · refine a_aload_n dX8_doClose_9 rfl ?_
    refine a_iload_n dX8_doClose_10 rfl ?_
    refine a_iconst (v := 3) dX8_doClose_11 (by decide) ?_
    refine c_V2I dX8_doClose_12 kw_397 kv_X8_is (s_is3 h.1.2.1 hC) ?_
    refine a_if_ne (tgt := 20) dX8_doClose_15 (by decide) (fun c_15 => ?_) (fun c_15 => ?_)
    · have ho : orB σ a = true := by
        unfold orB
        first
          | (rw [bi_n0.mp c_6]; rfl)
          | (rw [bi_n0.mp c_15, Bool.or_true])
      obtain ⟨ea, ha16, han, hst⟩ := orB_is ho hC
      refine a_aload_n dX8_doClose_20 rfl ?_
      refine c_getR (t := 7) (k := 16) dX8_doClose_21 kw_97 rfl ?_
      refine a_iload_n dX8_doClose_24 rfl ?_
      refine a_iconst (v := 4) dX8_doClose_25 (by decide) ?_
      refine c_iast (i := tn a) dX8_doClose_26 ea (show tn a < 16 from ha16) ?_
      refine a_aload_n dX8_doClose_27 rfl ?_
      refine c_getR (t := 7) (k := 17) dX8_doClose_28 kw_98 rfl ?_
      refine a_iload_n dX8_doClose_31 rfl ?_
      refine a_iconst (v := 0) dX8_doClose_32 (by decide) ?_
      refine c_iast (i := tn a) dX8_doClose_33 ea (show tn a < 16 from ha16) ?_
      refine a_iconst (v := 1) dX8_doClose_34 (by decide) ?_
      exact c_iret dX8_doClose_35 (ry_y ho ⟨rfl, _, rfl, Sm_ch h (S2_become h.1.2.1 (tn a) 4 0) rfl rfl rfl rfl rfl rfl rfl rfl rfl (fun t _ _ _ t25 t26 _ _ _ => by rw [sg_t t26, sg_t t25]) (fun k _ => rfl)⟩)
    · refine a_iconst (v := (-1)) dX8_doClose_18 (by decide) ?_
      exact c_iret dX8_doClose_19 (ry_n (by unfold orB; rw [bi_0.mp c_6, bi_0.mp c_15]; rfl) ⟨rfl, _, rfl, h⟩)
set_option maxRecDepth 10000 in
theorem s_X8_doEnqueue {l : Launch} {w : WW} {M : Mem} {ρ0 σ ρ : Sg} {B k : Nat} (h : Sm ρ0 σ ρ) (hG : Gk B k σ) {a : Int32} {ap : Nat} (hap : ρ0 7 0 0 = nI ap) : Can l w yX8_doEnqueue cX8_doEnqueue 2 (some .int) (rmd 3) [.ref (ad w 2 7 0), .int a] (zx w M 2 ρ) (RY w M (if (mqB (nI ap) σ a) = true then 1 else -1) (fun ρ' => Sm ρ0 (if (mqB (nI ap) σ a) = true then rowIns (become σ (tn a) 1 0) 0 (qn σ) (qn σ) a else σ) ρ')) := by
  refine Can.go (ls := [some (.ref (ad w 2 7 0)), some (.int a)]) ?_
  have hC : Cn σ := hG.1.elim fun qs h => h.elim fun ps hW => hW.1.1
  have hap2 : ρ 7 0 0 = nI ap := h.1.2.2.2.2.2.2.2.2.1.trans hap
  refine a_aload_n dX8_doEnqueue_0 rfl ?_
  refine a_iload_n dX8_doEnqueue_1 rfl ?_
  refine a_iconst (v := 0) dX8_doEnqueue_2 (by decide) ?_
  refine c_V2I dX8_doEnqueue_3 kw_397 kv_X8_is (s_is0 h.1.2.1 hC) ?_
  refine a_if_eq (tgt := 31) dX8_doEnqueue_6 (by decide) (fun c_6 => ?_) (fun c_6 => ?_)
  · refine a_iconst (v := (-1)) dX8_doEnqueue_31 (by decide) ?_
    exact c_iret dX8_doEnqueue_32 (by
        have hf : mqB (nI ap) σ a = false := by
          unfold mqB
          first
            | rw [bi_0.mp c_6, Bool.false_and]
            | (rw [decide_eq_true c_19]; simp; done)
            | (rw [decide_eq_false (fun q => c_28 (hc3.mpr q))]; simp; done)
        exact ry_n hf ⟨rfl, _, rfl, h⟩)
  · have ho := bi_n0.mp c_6
    obtain ⟨ea, ha16, han, hst⟩ := open_in ho hC
    have hcs := h.1.2.1.2 _ han
    have hci := hG.2.1.1 _ han
    have hc1 := cnt_for hcs hci
    obtain ⟨hc2, hc3⟩ := cnt_aga hcs hci
    refine a_aload_n dX8_doEnqueue_9 rfl ?_
    refine a_iload_n dX8_doEnqueue_10 rfl ?_
    refine a_iconst (v := 1) dX8_doEnqueue_11 (by decide) ?_
    refine c_V2I dX8_doEnqueue_12 kw_417 kv_X8_count (s_cnt ea ha16) ?_
    refine a_aload_n dX8_doEnqueue_15 rfl ?_
    refine c_getI (t := 7) (k := 0) dX8_doEnqueue_16 kw_109 ?_
    rw [hap2, hc1]
    refine a_icmp_lt (tgt := 31) dX8_doEnqueue_19 (by decide) (fun c_19 => ?_) (fun c_19 => ?_)
    · refine a_iconst (v := (-1)) dX8_doEnqueue_31 (by decide) ?_
      exact c_iret dX8_doEnqueue_32 (by
          have hf : mqB (nI ap) σ a = false := by
            unfold mqB
            first
              | rw [bi_0.mp c_6, Bool.false_and]
              | (rw [decide_eq_true c_19]; simp; done)
              | (rw [decide_eq_false (fun q => c_28 (hc3.mpr q))]; simp; done)
          exact ry_n hf ⟨rfl, _, rfl, h⟩)
    · refine a_aload_n dX8_doEnqueue_22 rfl ?_
      refine a_iload_n dX8_doEnqueue_23 rfl ?_
      refine a_iconst (v := 2) dX8_doEnqueue_24 (by decide) ?_
      refine c_V2I dX8_doEnqueue_25 kw_417 kv_X8_count (s_cnt ea ha16) ?_
      rw [hc2]
      refine a_if_le (tgt := 33) dX8_doEnqueue_28 (by decide) (fun c_28 => ?_) (fun c_28 => ?_)
      · have hm : mqB (nI ap) σ a = true := by
          unfold mqB
          rw [ho, decide_eq_false c_19, decide_eq_true (hc3.mp c_28)]
          rfl
        obtain ⟨⟨qs, ps, hW⟩, -⟩ := id hG
        have hqn := QI_qn hW.1.2.1
        have hQn := QI_Qn hW.1.2.1
        obtain ⟨hr, -⟩ := q_room hW han (by rw [hst]; decide)
        refine a_aload_n dX8_doEnqueue_33 rfl ?_
        refine c_getR (t := 7) (k := 16) dX8_doEnqueue_34 kw_97 rfl ?_
        refine a_iload_n dX8_doEnqueue_37 rfl ?_
        refine a_iconst (v := 1) dX8_doEnqueue_38 (by decide) ?_
        refine c_iast (i := tn a) dX8_doEnqueue_39 ea (show tn a < 16 from ha16) ?_
        refine a_aload_n dX8_doEnqueue_40 rfl ?_
        refine c_getR (t := 7) (k := 19) dX8_doEnqueue_41 kw_100 rfl ?_
        refine a_aload_n dX8_doEnqueue_44 rfl ?_
        refine c_getI (t := 7) (k := 20) dX8_doEnqueue_45 kw_123 ?_
        refine a_iload_n dX8_doEnqueue_48 rfl ?_
        rw [show (sg ρ 25 0 (tn a) 1) 7 0 20 = nI (qn σ) from h.1.2.2.1.1.trans hQn.1]
        refine c_iast (i := qn σ) dX8_doEnqueue_49 rfl (show qn σ < 16 by omega) ?_
        refine a_aload_n dX8_doEnqueue_50 rfl ?_
        refine a_aload_n dX8_doEnqueue_51 rfl ?_
        refine c_getI (t := 7) (k := 20) dX8_doEnqueue_52 kw_123 ?_
        refine a_iconst (v := 1) dX8_doEnqueue_55 (by decide) ?_
        refine a_iadd dX8_doEnqueue_56 ?_
        refine c_putI (t := 7) (k := 20) dX8_doEnqueue_57 kw_123 ?_
        refine a_iconst (v := 1) dX8_doEnqueue_60 (by decide) ?_
        exact c_iret dX8_doEnqueue_61 (by
            have h2 := S2_st h.1.2.1 han 1 (hci.2.2 (by rw [hst]; decide))
            refine ry_y hm ⟨rfl, _, rfl, ⟨⟨S1_of h.1.1, S2_of h2, ⟨?_, fun i hi => ?_⟩, ?_, Kp_of h.1.2.2.2.2⟩, S5_of h.2.1, S6_of h.2.2⟩⟩
            · show ρ 7 0 20 + 1 = nI (qn σ + 1)
              rw [h.1.2.2.1.1, hQn.1, nI_1]
            · have en : qn (rowIns (become σ (tn a) 1 0) 0 (qn σ) (qn σ) a) = qn σ + 1 := nI_clamp (by omega)
              rw [en] at hi
              show up1 (ρ 28 0) (qn σ) a i = ins (σ 13 0) (qn σ) (qn σ) a i
              unfold ins
              by_cases e : i = qn σ
              · rw [e, up1_same, if_pos rfl]
              · rw [up1_ne e, if_neg e, if_neg (by omega)]
                exact h.1.2.2.1.2 i (by omega)
            · refine S4_of h.1.2.2.2.1 ?_ ?_ <;> simp [rowIns, become, sg, sga, up1])
      · refine a_iconst (v := (-1)) dX8_doEnqueue_31 (by decide) ?_
        exact c_iret dX8_doEnqueue_32 (by
            have hf : mqB (nI ap) σ a = false := by
              unfold mqB
              first
                | rw [bi_0.mp c_6, Bool.false_and]
                | (rw [decide_eq_true c_19]; simp; done)
                | (rw [decide_eq_false (fun q => c_28 (hc3.mpr q))]; simp; done)
            exact ry_n hf ⟨rfl, _, rfl, h⟩)
set_option maxRecDepth 10000 in
theorem L_X8_rb {l : Launch} {w : WW} {Φ : Option Value → XX → Prop} {M : Mem} {ρ : Sg} {c : Nat} (hc : c < 16) : ∀ (n : Nat) {j : Nat}, j + n = 6 → A l w yX8_doRebase cX8_doRebase 3 (some .int) (rmd 3) Φ 80 [some (.ref (ad w 2 7 0)), some (.int (nI c)), some (.int (nI 6))] [] (zx w M 2 (sga (sga ρ 23 0 (blk (ρ 23 0) c 6 (ρ 22 0))) 24 0 (blk (ρ 24 0) c 6 (ρ 34 0)))) 0 0 → A l w yX8_doRebase cX8_doRebase 3 (some .int) (rmd 3) Φ 34 [some (.ref (ad w 2 7 0)), some (.int (nI c)), some (.int (nI j))] [] (zx w M 2 (sga (sga ρ 23 0 (blk (ρ 23 0) c j (ρ 22 0))) 24 0 (blk (ρ 24 0) c j (ρ 34 0)))) 0 0 := by
  intro n
  induction n with
  | zero =>
    intro j hj kk
    refine a_iload_n dX8_doRebase_34 rfl ?_
    refine a_bipush (v := 6) dX8_doRebase_35 (by decide) ?_
    refine a_icmp_ge (tgt := 80) dX8_doRebase_37 (by decide) (fun c_37 => ?_) (fun c_37 => absurd (by have e6 : j = 6 := (by omega); subst e6; decide) c_37)
    obtain rfl : j = 6 := by omega
    exact kk
  | succ n ih =>
    intro j hj kk
    refine a_iload_n dX8_doRebase_34 rfl ?_
    refine a_bipush (v := 6) dX8_doRebase_35 (by decide) ?_
    refine a_icmp_ge (tgt := 80) dX8_doRebase_37 (by decide) (fun c_37 => absurd c_37 (nI_ge (b := 6) (by omega) (by omega))) (fun c_37 => ?_)
    refine a_aload_n dX8_doRebase_40 rfl ?_
    refine c_getR (t := 7) (k := 15) dX8_doRebase_41 kw_96 rfl ?_
    refine a_bipush (v := 6) dX8_doRebase_44 (by decide) ?_
    refine a_iload_n dX8_doRebase_46 rfl ?_
    refine a_imul dX8_doRebase_47 ?_
    refine a_iload_n dX8_doRebase_48 rfl ?_
    refine a_iadd dX8_doRebase_49 ?_
    refine a_aload_n dX8_doRebase_50 rfl ?_
    refine c_getR (t := 7) (k := 28) dX8_doRebase_51 kw_106 rfl ?_
    refine a_iload_n dX8_doRebase_54 rfl ?_
    refine c_iald (i := j) dX8_doRebase_55 rfl (show j < 6 by omega) ?_
    refine c_iast (i := 6 * c + j) dX8_doRebase_56 (nI_6 c j) (show 6 * c + j < 96 by omega) ?_
    refine a_aload_n dX8_doRebase_57 rfl ?_
    refine c_getR (t := 7) (k := 14) dX8_doRebase_58 kw_95 rfl ?_
    refine a_bipush (v := 6) dX8_doRebase_61 (by decide) ?_
    refine a_iload_n dX8_doRebase_63 rfl ?_
    refine a_imul dX8_doRebase_64 ?_
    refine a_iload_n dX8_doRebase_65 rfl ?_
    refine a_iadd dX8_doRebase_66 ?_
    refine a_aload_n dX8_doRebase_67 rfl ?_
    refine c_getR (t := 7) (k := 10) dX8_doRebase_68 kw_94 rfl ?_
    refine a_iload_n dX8_doRebase_71 rfl ?_
    refine c_iald (i := j) dX8_doRebase_72 rfl (show j < 6 by omega) ?_
    refine c_iast (i := 6 * c + j) dX8_doRebase_73 (nI_6 c j) (show 6 * c + j < 96 by omega) ?_
    refine a_iinc_2 (u := nI (j + 1)) dX8_doRebase_74 (inc_nI j) (by decide) ?_
    refine a_goto (tgt := 34) dX8_doRebase_77 (by decide) ?_
    rw [two_st' (b := ρ 22 0) (g := ρ 34 0) (by rfl) (by rfl)]
    exact ih (by omega) kk
set_option maxRecDepth 10000 in
theorem L_X8_rb34 {l : Launch} {w : WW} {M : Mem} {ρ0 σ ρ : Sg} {a : Int32} (h : Sm ρ0 σ ρ) (hC : Cn σ) (ho : orB σ a = true) (hcf : cfR (sga ρ 34 0 (ρ 22 0)) (tn a) = cfT σ (tn a)) (hq : cfR (sga ρ 34 0 (ρ 22 0)) (tn a) = false) : A l w yX8_doRebase cX8_doRebase 3 (some .int) (rmd 3) (RY w M (if (mrB σ a) = true then 1 else -1) (fun ρ' => Sm ρ0 (if (mrB σ a) = true then moveO σ (tn a) else σ) ρ')) 34 [some (.ref (ad w 2 7 0)), some (.int a), some (.int 0)] [] (zx w M 2 (mgR (sga ρ 34 0 (ρ 22 0)) (tn a))) 0 0 := by
  obtain ⟨ea, ha16, han, hst⟩ := orB_is ho hC
  obtain ⟨x1, x2, -⟩ := h.1.2.1.2 _ han
  have hm : mrB σ a = true := by
    unfold mrB
    rw [ho, ← hcf, hq]
    rfl
  obtain ⟨ρ2, e2⟩ : ∃ ρ2, mgR (sga ρ 34 0 (ρ 22 0)) (tn a) = ρ2 := ⟨_, rfl⟩
  have q34 : ∀ p, p < 6 → ρ2 34 0 p = reb (σ 14 (tn a)) (σ 15 (tn a)) (σ 8 0) p := by
    intro p hp
    rw [← e2]
    unfold mgR
    rw [sga_same, sga_same]
    exact mrg_congr x1 x2 h.1.1.1 hp
  have h2 : Sm ρ0 σ ρ2 := by rw [← e2]; exact Sm_tree (Sm_tree h _) _
  rw [e2]
  obtain ⟨c, hc0⟩ : ∃ c, tn a = c := ⟨_, rfl⟩
  rw [hc0] at ea ha16 q34
  refine a_eq (x' := zx w M 2 (sga (sga ρ2 23 0 (blk (ρ2 23 0) c 0 (ρ2 22 0))) 24 0 (blk (ρ2 24 0) c 0 (ρ2 34 0)))) (by rw [blk_0, blk_0, sga_eta, sga_eta]) ?_
  have hls : ([some (.ref (ad w 2 7 0)), some (.int a), some (.int 0)] : List (Option Value)) = [some (.ref (ad w 2 7 0)), some (.int (nI c)), some (.int (nI 0))] := by rw [ea]; rfl
  rw [hls]
  refine L_X8_rb ha16 6 (j := 0) rfl ?_
  refine a_aload_n dX8_doRebase_80 rfl ?_
  refine c_getR (t := 7) (k := 16) dX8_doRebase_81 kw_97 rfl ?_
  refine a_iload_n dX8_doRebase_84 rfl ?_
  refine a_iconst (v := 0) dX8_doRebase_85 (by decide) ?_
  refine c_iast (i := c) dX8_doRebase_86 rfl (show c < 16 from ha16) ?_
  refine a_aload_n dX8_doRebase_87 rfl ?_
  refine c_getR (t := 7) (k := 17) dX8_doRebase_88 kw_98 rfl ?_
  refine a_iload_n dX8_doRebase_91 rfl ?_
  refine a_iconst (v := 0) dX8_doRebase_92 (by decide) ?_
  refine c_iast (i := c) dX8_doRebase_93 rfl (show c < 16 from ha16) ?_
  refine a_aload_n dX8_doRebase_94 rfl ?_
  refine a_iload_n dX8_doRebase_95 rfl ?_
  refine c_V1V dX8_doRebase_96 kw_389 kv_X8_noReviews (s_X8_noReviews ha16) ?_
  refine a_iconst (v := 1) dX8_doRebase_99 (by decide) ?_
  exact c_iret dX8_doRebase_100 (by
      refine ry_y hm ⟨rfl, _, rfl, Sm_ch h2 (S2_fresh (c := c) (b := ρ2 22 0) (g := ρ2 34 0) h2.1.2.1 ?_ (fun d hd => Or.inr hd) (fun d e => ?_) rfl rfl rfl rfl rfl (fun p hp => ?_) (fun p hp => ?_) ?_ ?_ ?_ ?_) rfl rfl rfl rfl rfl rfl rfl rfl rfl (fun t t7 t23 t24 t25 t26 t27 _ _ => ?_) (fun k hk => rfl)⟩
      · exact h2.1.2.1.1
      · rw [hc0]; refine ⟨?_, ?_, ?_⟩ <;> simp [moveO, dropR, become, sg, sga, up1, e]
      · rw [h2.1.1.1 p hp, hc0]
        simp [moveO, dropR, become, sg, sga, up1]
      · rw [q34 p hp, hc0]
        simp [moveO, dropR, become, sg, sga, up1]
      · rw [hc0]; simp [moveO, dropR, become, sg, sga, up1]
      · rw [hc0]; simp [moveO, dropR, become, sg, sga, up1]
      · rw [hc0]; simp [moveO, dropR, become, sg, sga, up1]
      · rw [hc0]; simp [moveO, dropR, become, sg, sga, up1]
      · rw [sga_t t27, sg_t t26, sg_t t25, sga_t t24, sga_t t23])
set_option maxRecDepth 10000 in
theorem s_X8_doRebase {l : Launch} {w : WW} {M : Mem} {ρ0 σ ρ : Sg} {B k : Nat} (h : Sm ρ0 σ ρ) (hG : Gk B k σ) {a : Int32} : Can l w yX8_doRebase cX8_doRebase 3 (some .int) (rmd 3) [.ref (ad w 2 7 0), .int a] (zx w M 2 ρ) (RY w M (if (mrB σ a) = true then 1 else -1) (fun ρ' => Sm ρ0 (if (mrB σ a) = true then moveO σ (tn a) else σ) ρ')) := by
  refine Can.go (ls := [some (.ref (ad w 2 7 0)), some (.int a), none]) ?_
  have hC : Cn σ := hG.1.elim fun qs h => h.elim fun ps hW => hW.1.1
  have h1 := Sm_tree h (ρ 22 0)
  refine a_aload_n dX8_doRebase_0 rfl ?_
  refine c_V0V dX8_doRebase_1 kw_425 kv_X8_startTree s_X8_startTree ?_
  refine a_aload_n dX8_doRebase_4 rfl ?_
  refine a_iload_n dX8_doRebase_5 rfl ?_
  refine a_iconst (v := 0) dX8_doRebase_6 (by decide) ?_
  refine c_V2I dX8_doRebase_7 kw_397 kv_X8_is (s_is0 h1.1.2.1 hC) ?_
  refine a_if_ne (tgt := 22) dX8_doRebase_10 (by decide) (fun c_10 => ?_) (fun c_10 => ?_)
  · have ho : orB σ a = true := by
      unfold orB
      first
        | (rw [bi_n0.mp c_10]; rfl)
        | (rw [bi_n0.mp c_19, Bool.or_true])
    obtain ⟨ea, ha16, han, hst⟩ := orB_is ho hC
    obtain ⟨x1, x2, -⟩ := h.1.2.1.2 _ han
    have hcf : cfR (sga ρ 34 0 (ρ 22 0)) (tn a) = cfT σ (tn a) := by
      show anyU (cfl (bs ρ (tn a)) (ow ρ (tn a)) ((sga ρ 34 0 (ρ 22 0)) 34 0)) 6 0 = _
      rw [sga_same]
      exact cfl_congr x1 x2 h.1.1.1
    refine a_aload_n dX8_doRebase_22 rfl ?_
    refine a_iload_n dX8_doRebase_23 rfl ?_
    refine c_V1I dX8_doRebase_24 kw_429 kv_X8_conflicts (s_cf ea ha16) ?_
    refine a_if_eq (tgt := 32) dX8_doRebase_27 (by decide) (fun c_27 => ?_) (fun c_27 => ?_)
    · refine a_iconst (v := 0) dX8_doRebase_32 (by decide) ?_
      refine a_istore_2 dX8_doRebase_33 (by decide) ?_
      have hq := bi_0.mp c_27
      refine a_eq (x' := zx w M 2 (mgR (sga ρ 34 0 (ρ 22 0)) (tn a))) (by rw [if_neg (by rw [hq]; decide)]) ?_
      exact L_X8_rb34 h hC ho hcf hq
    · refine a_iconst (v := (-1)) dX8_doRebase_30 (by decide) ?_
      exact c_iret dX8_doRebase_31 (by
          have hf : mrB σ a = false := by
            unfold mrB
            first
              | (rw [show orB σ a = false by unfold orB; rw [bi_0.mp c_10, bi_0.mp c_19]; rfl]; rfl)
              | (have hq := bi_n0.mp c_27
                 rw [hcf] at hq
                 rw [hq, Bool.not_true, Bool.and_false])
          first
            | exact ry_n hf ⟨rfl, _, rfl, h1⟩
            | exact ry_n hf ⟨rfl, _, rfl, by rw [if_pos (bi_n0.mp c_27)]; exact h1⟩)
  · refine a_aload_n dX8_doRebase_13 rfl ?_
    refine a_iload_n dX8_doRebase_14 rfl ?_
    refine a_iconst (v := 3) dX8_doRebase_15 (by decide) ?_
    refine c_V2I dX8_doRebase_16 kw_397 kv_X8_is (s_is3 h1.1.2.1 hC) ?_
    refine a_if_eq (tgt := 30) dX8_doRebase_19 (by decide) (fun c_19 => ?_) (fun c_19 => ?_)
    · refine a_iconst (v := (-1)) dX8_doRebase_30 (by decide) ?_
      exact c_iret dX8_doRebase_31 (by
          have hf : mrB σ a = false := by
            unfold mrB
            first
              | (rw [show orB σ a = false by unfold orB; rw [bi_0.mp c_10, bi_0.mp c_19]; rfl]; rfl)
              | (have hq := bi_n0.mp c_27
                 rw [hcf] at hq
                 rw [hq, Bool.not_true, Bool.and_false])
          first
            | exact ry_n hf ⟨rfl, _, rfl, h1⟩
            | exact ry_n hf ⟨rfl, _, rfl, by rw [if_pos (bi_n0.mp c_27)]; exact h1⟩)
    · have ho : orB σ a = true := by
        unfold orB
        first
          | (rw [bi_n0.mp c_10]; rfl)
          | (rw [bi_n0.mp c_19, Bool.or_true])
      obtain ⟨ea, ha16, han, hst⟩ := orB_is ho hC
      obtain ⟨x1, x2, -⟩ := h.1.2.1.2 _ han
      have hcf : cfR (sga ρ 34 0 (ρ 22 0)) (tn a) = cfT σ (tn a) := by
        show anyU (cfl (bs ρ (tn a)) (ow ρ (tn a)) ((sga ρ 34 0 (ρ 22 0)) 34 0)) 6 0 = _
        rw [sga_same]
        exact cfl_congr x1 x2 h.1.1.1
      refine a_aload_n dX8_doRebase_22 rfl ?_
      refine a_iload_n dX8_doRebase_23 rfl ?_
      refine c_V1I dX8_doRebase_24 kw_429 kv_X8_conflicts (s_cf ea ha16) ?_
      refine a_if_eq (tgt := 32) dX8_doRebase_27 (by decide) (fun c_27 => ?_) (fun c_27 => ?_)
      · refine a_iconst (v := 0) dX8_doRebase_32 (by decide) ?_
        refine a_istore_2 dX8_doRebase_33 (by decide) ?_
        have hq := bi_0.mp c_27
        refine a_eq (x' := zx w M 2 (mgR (sga ρ 34 0 (ρ 22 0)) (tn a))) (by rw [if_neg (by rw [hq]; decide)]) ?_
        exact L_X8_rb34 h hC ho hcf hq
      · refine a_iconst (v := (-1)) dX8_doRebase_30 (by decide) ?_
        exact c_iret dX8_doRebase_31 (by
            have hf : mrB σ a = false := by
              unfold mrB
              first
                | (rw [show orB σ a = false by unfold orB; rw [bi_0.mp c_10, bi_0.mp c_19]; rfl]; rfl)
                | (have hq := bi_n0.mp c_27
                   rw [hcf] at hq
                   rw [hq, Bool.not_true, Bool.and_false])
            first
              | exact ry_n hf ⟨rfl, _, rfl, h1⟩
              | exact ry_n hf ⟨rfl, _, rfl, by rw [if_pos (bi_n0.mp c_27)]; exact h1⟩)
