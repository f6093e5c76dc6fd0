def cfB (τ : Sg) (c : Nat) : Bool := anyU (cfl (τ 14 c) (τ 15 c) (τ 9 0)) 6 0
def mrgB (τ : Sg) (c : Nat) : Sg := sga τ 9 0 (mrg (τ 14 c) (τ 15 c) (τ 9 0))
def mfI : Nat → Nat → Sg → Sg × Nat
  | 0, m, τ => (τ, m)
  | n + 1, m, τ => if cfB τ (tn (τ 13 0 m)) = true then mfI n m (tfq τ m 3 1) else mfI n (m + 1) (mrgB τ (tn (τ 13 0 m)))
def mfS (σ : Sg) (k : Nat) : Sg × Nat := mfI k 0 (sga σ 9 0 (σ 8 0))
def planned (bs : Int32) (σ : Sg) : Sg := if σ 3 1 1 = 0 then rowIns σ 1 (pn σ) (pn σ) (if σ 3 0 1 < bs then σ 3 0 1 else bs) else σ
def buildT (τ : Sg) (n : Nat) (r : Sg × Nat) : Sg := if r.2 = 0 then rowRmv r.1 1 0 n else (if vld ((sg r.1 13 1 0 (nI r.2)) 9 0 0) 4 0 false = true then startB (sg r.1 13 1 0 (nI r.2)) (nI r.2) else failS (sg r.1 13 1 0 (nI r.2)) r.2 2)
def buildB (bs : Int32) (σ : Sg) : Sg := buildT σ (pn (planned bs σ)) (mfS (planned bs σ) (tn ((planned bs σ) 13 1 0)))
def bld (bs : Int32) : Nat → Sg → Sg
  | 0, σ => σ
  | n + 1, σ => if σ 0 0 1 ≤ 0 ∧ ¬ σ 3 0 1 ≤ 0 then bld bs n (buildB bs σ) else σ
theorem mrgB_t {τ : Sg} {c t : Nat} (h : t ≠ 9) : (mrgB τ c) t = τ t := by unfold mrgB; exact sga_t h
theorem mfI_ok : ∀ (n m : Nat) (τ : Sg) (qs : List Nat), QC τ qs → n + m ≤ qs.length → ∃ qs', QC (mfI n m τ).1 qs' ∧ m ≤ (mfI n m τ).2 ∧ (mfI n m τ).2 ≤ m + n ∧ qs'.length + n + m = qs.length + (mfI n m τ).2 ∧ (∀ t, t ≠ 1 → t ≠ 3 → t ≠ 9 → t ≠ 13 → (mfI n m τ).1 t = τ t) ∧ (mfI n m τ).1 13 1 = τ 13 1 ∧ (mfI n m τ).1 3 1 = τ 3 1
  | 0, m, τ, qs, h, hn => ⟨qs, h, Nat.le_refl m, Nat.le_refl m, rfl, fun _ _ _ _ _ => rfl, rfl, rfl⟩
  | n + 1, m, τ, qs, h, hn => by
    unfold mfI
    split
    · have hl : (qs.eraseIdx m).length = qs.length - 1 := by rw [List.length_eraseIdx, if_pos (by omega)]
      obtain ⟨qs', h1, h2, h3, h4, h5, h6, h7⟩ := mfI_ok n m (tfq τ m 3 1) (qs.eraseIdx m) (QC_tfq h (by omega)) (by omega)
      exact ⟨qs', h1, h2, by omega, by omega, fun t t1 t3 t9 t13 => (h5 t t1 t3 t9 t13).trans (tfq_t t1 t3 t13), h6.trans (tfq_p _ _ _ _).1, h7.trans (tfq_p _ _ _ _).2⟩
    · obtain ⟨qs', h1, h2, h3, h4, h5, h6, h7⟩ := mfI_ok n (m + 1) (mrgB τ (tn (τ 13 0 m))) qs (QC_of h (by rw [mrgB_t (by decide)]) (by rw [mrgB_t (by decide)]) (by rw [mrgB_t (by decide)]) (fun c => by rw [mrgB_t (by decide)])) (by omega)
      exact ⟨qs', h1, by omega, by omega, by omega, fun t t1 t3 t9 t13 => (h5 t t1 t3 t9 t13).trans (mrgB_t t9), h6.trans (by rw [mrgB_t (by decide)]), h7.trans (by rw [mrgB_t (by decide)])⟩
theorem planned_t {bs : Int32} {σ : Sg} {t : Nat} (h3 : t ≠ 3) (h13 : t ≠ 13) : (planned bs σ) t = σ t := by
  unfold planned
  split
  · exact rowIns_t h3 h13
  · rfl
/-- the plan is not empty then, and fits the queue -/
theorem planned_QP {bs : Int32} {b : Nat} {σ : Sg} {qs ps : List Nat} (hb : bs = nI b) (h1 : 1 ≤ b) (h8 : b ≤ 8) (h : QP σ qs ps) (hq : 0 < qs.length) : ∃ k ps', QP (planned bs σ) qs (k :: ps') ∧ ps.length ≤ ps'.length + 1 := by
  unfold planned
  split
  · rename_i h0
    obtain ⟨a1, a2, a3, a4, a5, a6, a7, a8⟩ := h
    have hp0 : ps = [] := by
      have h9 := a3.1.symm.trans h0
      have : ps.length = 0 := nI_inj h9 (by have := a3.2.1; omega) (by omega)
      exact List.eq_nil_of_length_eq_zero this
    subst hp0
    have hv : ∃ v : Nat, (if σ 3 0 1 < bs then σ 3 0 1 else bs) = nI v ∧ 1 ≤ v ∧ v ≤ 8 ∧ v ≤ qs.length := by
      rw [a2.1, hb]
      by_cases hlt : qs.length < b
      · exact ⟨qs.length, by rw [if_pos (nI_lt hlt (by omega))], by omega, by omega, Nat.le_refl _⟩
      · exact ⟨b, by rw [if_neg (nI_nlt (by omega) (by have := a2.2.1; omega))], by omega, by omega, by omega⟩
    obtain ⟨v, e1, e2, e3, e4⟩ := hv
    rw [e1, PI_pn a3]
    have hP := PI_ins (q := v) (v := nI v) (n := 0) a3 rfl rfl (by decide)
    have hC : QC (rowIns σ 1 0 0 (nI v)) qs := by
      refine QC_of ⟨a1, a2, a4, a5⟩ ?_ ?_ ?_ (fun c => ?_) <;> simp [rowIns, sg, sga, up1]
    refine ⟨v, [], ⟨hC.1, hC.2.1, hP, hC.2.2.1, hC.2.2.2, ?_, ?_, ?_⟩, by simp⟩
    · intro p hp
      rw [List.mem_singleton.mp hp]; exact e2
    · simpa using e3
    · simpa using e4
  · rename_i h0
    cases ps with
    | nil => exact absurd h.2.2.1.1 (fun e => h0 (e.trans rfl))
    | cons k ps' => exact ⟨k, ps', h, by simp⟩
theorem Wk_mb0 {σ : Sg} {qs ps : List Nat} (h : Wk σ qs ps) (h0 : σ 0 0 1 ≤ 0) : σ 0 0 1 = 0 ∧ ∀ j, j < 4 → σ 10 0 j = 0 := by
  have hm : mb σ < 2 ^ 31 := by
    show (σ 0 0 1).toInt.toNat < _
    have := Int32.toInt_lt (σ 0 0 1)
    omega
  have e : mb σ = 0 := by
    by_cases hz : mb σ = 0
    · exact hz
    · rw [h.2.1] at h0
      exact absurd h0 (nI_nle (by omega) hm)
  refine ⟨by rw [h.2.1, e]; rfl, ?_⟩
  rcases h.2.2 with ⟨-, h1⟩ | ⟨h1, -⟩
  · exact h1
  · omega
theorem fin_QC {r : Sg} {qs : List Nat} {v : Int32} (h : QC r qs) : QC (sg r 13 1 0 v) qs := by
  refine QC_of h ?_ ?_ ?_ (fun c => ?_) <;> simp [sg, up1]
theorem build_Wk {bs : Int32} {b : Nat} {σ : Sg} {qs ps : List Nat} (hb : bs = nI b) (h1 : 1 ≤ b) (h8 : b ≤ 8) (h : Wk σ qs ps) (h0 : σ 0 0 1 ≤ 0) (hq : 0 < qs.length) : ∃ qs' ps', Wk (buildB bs σ) qs' ps' ∧ ((buildB bs σ) 0 0 1 ≤ 0 → 2 * qs'.length + ps.length + 1 ≤ 2 * qs.length + ps'.length) := by
  obtain ⟨m0, j0⟩ := Wk_mb0 h h0
  obtain ⟨k, ps1, hQ, hl⟩ := planned_QP hb h1 h8 h.1 hq
  have hP := hQ.2.2.1
  have a6 := hQ.2.2.2.2.2.1
  have a7 := hQ.2.2.2.2.2.2.1
  have a8 := hQ.2.2.2.2.2.2.2
  have hk := a6 k List.mem_cons_self
  have a6' : ∀ p ∈ ps1, 1 ≤ p := fun p hp => a6 p (List.mem_cons_of_mem _ hp)
  simp only [List.sum_cons] at a7 a8
  have ek : tn ((planned bs σ) 13 1 0) = k := by rw [hP.2.2 0 k rfl]; exact tn_nI (by omega)
  have hC0 : QC (sga (planned bs σ) 9 0 ((planned bs σ) 8 0)) qs := by
    refine QC_of (QP_C hQ) ?_ ?_ ?_ (fun c => ?_) <;> rw [sga_t (by decide)]
  obtain ⟨qs', h2, h3, h4, h5, h6, h7, h9⟩ := mfI_ok k 0 _ qs hC0 (by omega)
  unfold buildB
  rw [ek]
  have hr : ∀ t, t ≠ 1 → t ≠ 3 → t ≠ 9 → t ≠ 13 → (mfS (planned bs σ) k).1 t = σ t := fun t t1 t3 t9 t13 => ((h6 t t1 t3 t9 t13).trans (sga_t t9)).trans (planned_t t3 t13)
  have hP1 : PI (mfS (planned bs σ) k).1 (k :: ps1) := PI_of hP (h9.trans (by rw [sga_t (by decide)])) (h7.trans (by rw [sga_t (by decide)]))
  have h2 : QC (mfS (planned bs σ) k).1 qs' := h2
  have h4 : (mfS (planned bs σ) k).2 ≤ 0 + k := h4
  have h5 : qs'.length + k + 0 = qs.length + (mfS (planned bs σ) k).2 := h5
  have hpn : pn (planned bs σ) = ps1.length + 1 := by rw [PI_pn hP]; rfl
  generalize mfS (planned bs σ) k = r at hr hP1 h2 h4 h5
  obtain ⟨r, m⟩ := r
  unfold buildT
  simp only at hr hP1 h2 h4 h5 ⊢
  by_cases hm : m = 0
  · subst hm
    rw [if_pos rfl]
    have hP2 := PI_rmv hP1 hpn
    have hC2 : QC (rowRmv r 1 0 (pn (planned bs σ))) qs' := by
      refine QC_of h2 ?_ ?_ ?_ (fun c => ?_) <;> simp [rowRmv, sg, sga, up1]
    refine ⟨qs', ps1, ⟨⟨hC2.1, hC2.2.1, hP2, hC2.2.2.1, hC2.2.2.2, a6', by omega, by omega⟩, ?_⟩, fun _ => by omega⟩
    have e1 : (rowRmv r 1 0 (pn (planned bs σ))) 0 0 1 = 0 := by rw [rowRmv_t (by decide) (by decide), hr 0 (by decide) (by decide) (by decide) (by decide)]; exact m0
    refine ⟨by rw [mb_z e1, e1]; rfl, Or.inl ⟨mb_z e1, fun j hj => ?_⟩⟩
    rw [rowRmv_t (by decide) (by decide), hr 10 (by decide) (by decide) (by decide) (by decide)]
    exact j0 j hj
  · rw [if_neg hm]
    have hP2 := PI_set (v := nI m) hP1 rfl
    have hC2 := fin_QC (v := nI m) h2
    have h1m : ∀ p ∈ m :: ps1, 1 ≤ p := fun p hp => by
      rcases List.mem_cons.mp hp with rfl | hp
      · omega
      · exact a6' p hp
    split
    · refine ⟨qs', m :: ps1, ⟨⟨?_, ?_, ?_, ?_, hC2.2.2.2, h1m, by simp only [List.sum_cons]; omega, by simp only [List.sum_cons]; omega⟩, ?_⟩, fun hz => ?_⟩
      · have := hC2.1
        unfold Cn cn at *
        simpa [startB, sg, sga, up1] using this
      · refine QI_of hC2.2.1 ?_ ?_ <;> simp [startB, sg, sga, up1]
      · refine PI_of hP2 ?_ ?_ <;> simp [startB, sg, sga, up1]
      · intro c hc
        have := hC2.2.2.1 c hc
        unfold cn at *
        simpa [startB, sg, sga, up1] using this
      · have e1 : (startB (sg r 13 1 0 (nI m)) (nI m)) 0 0 1 = nI m := by simp [startB, sg, sga, up1]
        have e2 : mb (startB (sg r 13 1 0 (nI m)) (nI m)) = m := by unfold mb; rw [e1]; exact nI_clamp (by omega)
        exact ⟨by rw [e2, e1], Or.inr ⟨by rw [e2]; omega, ps1, by rw [e2]⟩⟩
      · have e1 : (startB (sg r 13 1 0 (nI m)) (nI m)) 0 0 1 = nI m := by simp [startB, sg, sga, up1]
        rw [e1] at hz
        exact absurd hz (nI_nle (by omega) (by omega))
    · obtain ⟨q, p, g1, g2, g3⟩ := fail_Wk (cause := 2) hC2 hP2 h1m (by simp only [List.sum_cons]; omega) (by simp only [List.sum_cons]; omega)
      exact ⟨q, p, g1, fun _ => by omega⟩
/-- all batches that can be built: at most so many -/
theorem bld_Wk {bs : Int32} {b : Nat} (hb : bs = nI b) (h1 : 1 ≤ b) (h8 : b ≤ 8) : ∀ (n : Nat) (σ : Sg) (qs ps : List Nat), Wk σ qs ps → ∃ qs' ps', Wk (bld bs n σ) qs' ps'
  | 0, σ, qs, ps, h => ⟨qs, ps, h⟩
  | n + 1, σ, qs, ps, h => by
    unfold bld
    split
    · rename_i hc
      have hq : 0 < qs.length := by
        rcases Nat.eq_zero_or_pos qs.length with e | e
        · exact absurd (by rw [h.1.2.1.1, e]; decide) hc.2
        · exact e
      obtain ⟨q, p, h2, -⟩ := build_Wk hb h1 h8 h hc.1 hq
      exact bld_Wk hb h1 h8 n _ q p h2
    · exact ⟨qs, ps, h⟩
set_option maxRecDepth 10000 in
theorem L_X6_mergeFirst {l : Launch} {w : WW} {Φ : Option Value → XX → Prop} {M : Mem} {k : Nat} (hk : k ≤ 16) : ∀ (n : Nat) {i m : Nat} {τ : Sg} {qs : List Nat} {v4 : Option Value}, i + n = k → QC τ qs → n + m ≤ qs.length → Φ (some (.int (nI (mfI n m τ).2))) (zx w M 0 (mfI n m τ).1) → A l w yX6_mergeFirst cX6_mergeFirst 5 (some .int) (rmd 3) Φ 18 [some (.ref (ad w 0 5 0)), some (.int (nI k)), some (.int (nI m)), some (.int (nI i)), v4] [] (zx w M 0 τ) 0 0 := by
  intro n
  induction n with
  | zero =>
    intro i m τ qs v4 hi hC hn h
    refine a_iload_n dX6_mergeFirst_18 rfl ?_
    refine a_iload_n dX6_mergeFirst_19 rfl ?_
    refine a_icmp_ge (tgt := 95) dX6_mergeFirst_20 (by decide) (fun c_20 => ?_) (fun c_20 => absurd (nI_le (by omega) (by omega)) c_20)
    refine a_iload_n dX6_mergeFirst_95 rfl ?_
    exact c_iret dX6_mergeFirst_96 h
  | succ n ih =>
    intro i m τ qs v4 hi hC hn h
    refine a_iload_n dX6_mergeFirst_18 rfl ?_
    refine a_iload_n dX6_mergeFirst_19 rfl ?_
    refine a_icmp_ge (tgt := 95) dX6_mergeFirst_20 (by decide) (fun c_20 => absurd c_20 (nI_ge (by omega) (by omega))) (fun c_20 => ?_)
    refine a_iload_n dX6_mergeFirst_23 rfl ?_
    refine a_aload_n dX6_mergeFirst_24 rfl ?_
    refine c_getR (t := 5) (k := 5) dX6_mergeFirst_25 kw_57 rfl ?_
    refine c_getI (t := 3) (k := 1) dX6_mergeFirst_28 kw_337 ?_
    refine a_icmp_ge (tgt := 95) dX6_mergeFirst_31 (by decide) (fun c_31 => absurd c_31 (by rw [hC.2.1.1]; exact nI_ge (by omega) (by have := hC.2.1.2.1; omega))) (fun c_31 => ?_)
    have hqn := QI_qn hC.2.1
    have hql := hC.2.1.2.1
    obtain ⟨c, hcl, e2⟩ := (QC_ok hC).2.2 m (by omega)
    have e3 : c < 16 := Nat.lt_of_lt_of_le hcl hC.1.2
    obtain ⟨r1, r14, r15⟩ := rl_ch e3
    have e4 : rowAt (τ 13 0) (qn τ) (nI m) = nI c := by
      rw [rowAt, if_pos (inr_of (by omega) (by omega)), nI_clamp (by omega), e2]
    have e5 : tn (τ 13 0 m) = c := by rw [e2]; exact tn_nI (by omega)
    refine a_aload_n dX6_mergeFirst_34 rfl ?_
    refine c_getR (t := 5) (k := 3) dX6_mergeFirst_35 kw_53 rfl ?_
    refine a_aload_n dX6_mergeFirst_38 rfl ?_
    refine c_getR (t := 5) (k := 5) dX6_mergeFirst_39 kw_57 rfl ?_
    refine a_iload_n dX6_mergeFirst_42 rfl ?_
    refine c_V1I dX6_mergeFirst_43 kw_294 kv_X4_at (s_X4_at (n := qn τ) rfl rfl (by rw [hqn]; exact hC.2.1.1) (by rw [hqn]; exact hql)) ?_
    rw [e4]
    refine c_aald (i := c) dX6_mergeFirst_46 rfl e3 (if_pos e3) ?_
    refine a_astore_4 dX6_mergeFirst_47 (by decide) ?_
    refine a_aload dX6_mergeFirst_49 rfl ?_
    refine a_aload_n dX6_mergeFirst_51 rfl ?_
    refine c_getR (t := 5) (k := 7) dX6_mergeFirst_52 kw_62 rfl ?_
    refine c_getR (t := 0) (k := 0) dX6_mergeFirst_55 kw_320 rfl ?_
    refine c_V1I dX6_mergeFirst_58 kw_352 kv_X1_conflictsWith (s_X1_conflictsWith (t := 9) e3 (by decide) rfl rfl rfl) ?_
    refine a_if_eq (tgt := 74) dX6_mergeFirst_61 (by decide) (fun c_61 => ?_) (fun c_61 => ?_)
    · refine a_aload dX6_mergeFirst_74 rfl ?_
      refine a_aload_n dX6_mergeFirst_76 rfl ?_
      refine c_getR (t := 5) (k := 7) dX6_mergeFirst_77 kw_62 rfl ?_
      refine c_getR (t := 0) (k := 0) dX6_mergeFirst_80 kw_320 rfl ?_
      refine c_V1V dX6_mergeFirst_83 kw_356 kv_X1_mergeInto (s_X1_mergeInto e3) ?_
      refine a_iinc_2 (u := nI (m + 1)) dX6_mergeFirst_86 (inc_nI m) (by decide) ?_
      refine a_iinc_3 (u := nI (i + 1)) dX6_mergeFirst_89 (inc_nI i) (by decide) ?_
      refine a_goto (tgt := 18) dX6_mergeFirst_92 (by decide) ?_
      rw [mfI] at h
      have e6 : cfB τ (tn (τ 13 0 m)) = anyU (cfl (τ 14 c) (τ 15 c) (τ 9 0)) 6 0 := by rw [e5]; rfl
      first
        | (rw [if_neg (by rw [e6, bi_0.mp c_61]; decide), e5] at h; exact ih (by omega) (QC_of hC (by rw [sga_t (by decide)]) (by rw [sga_t (by decide)]) (by rw [sga_t (by decide)]) (fun c => by rw [sga_t (by decide)])) (by omega) h)
        | (rw [if_pos (by rw [e6, bi_n0.mp c_61])] at h; exact ih (by omega) (QC_tfq hC (by omega)) (by rw [List.length_eraseIdx, if_pos (by omega)]; omega) h)
    · refine a_aload_n dX6_mergeFirst_64 rfl ?_
      refine a_iload_n dX6_mergeFirst_65 rfl ?_
      refine a_iconst (v := 3) dX6_mergeFirst_66 (by decide) ?_
      refine a_iconst (v := 1) dX6_mergeFirst_67 (by decide) ?_
      refine c_V3V dX6_mergeFirst_68 kw_290 kv_X6_takeFromQueue (s_X6_takeFromQueue (j := m) (QC_ok hC) (by omega)) ?_
      refine a_goto (tgt := 89) dX6_mergeFirst_71 (by decide) ?_
      refine a_iinc_3 (u := nI (i + 1)) dX6_mergeFirst_89 (inc_nI i) (by decide) ?_
      refine a_goto (tgt := 18) dX6_mergeFirst_92 (by decide) ?_
      rw [mfI] at h
      have e6 : cfB τ (tn (τ 13 0 m)) = anyU (cfl (τ 14 c) (τ 15 c) (τ 9 0)) 6 0 := by rw [e5]; rfl
      first
        | (rw [if_neg (by rw [e6, bi_0.mp c_61]; decide), e5] at h; exact ih (by omega) (QC_of hC (by rw [sga_t (by decide)]) (by rw [sga_t (by decide)]) (by rw [sga_t (by decide)]) (fun c => by rw [sga_t (by decide)])) (by omega) h)
        | (rw [if_pos (by rw [e6, bi_n0.mp c_61])] at h; exact ih (by omega) (QC_tfq hC (by omega)) (by rw [List.length_eraseIdx, if_pos (by omega)]; omega) h)
set_option maxRecDepth 10000 in
theorem s_X6_mergeFirst {l : Launch} {w : WW} {M : Mem} {σ : Sg} {k : Nat} {qs : List Nat} (hC : QC σ qs) (hk : k ≤ qs.length) : Can l w yX6_mergeFirst cX6_mergeFirst 5 (some .int) (rmd 3) [.ref (ad w 0 5 0), .int (nI k)] (zx w M 0 σ) (RI (nI (mfS σ k).2) (zx w M 0 (mfS σ k).1)) := by
  refine Can.go (ls := [some (.ref (ad w 0 5 0)), some (.int (nI k)), none, none, none]) ?_
  refine a_aload_n dX6_mergeFirst_0 rfl ?_
  refine c_getR (t := 5) (k := 1) dX6_mergeFirst_1 kw_51 rfl ?_
  refine a_aload_n dX6_mergeFirst_4 rfl ?_
  refine c_getR (t := 5) (k := 7) dX6_mergeFirst_5 kw_62 rfl ?_
  refine c_getR (t := 0) (k := 0) dX6_mergeFirst_8 kw_320 rfl ?_
  refine c_N2V dX6_mergeFirst_11 nw_274 ks_X7_copyNumbers s_copy ?_
  refine a_iconst (v := 0) dX6_mergeFirst_14 (by decide) ?_
  refine a_istore_2 dX6_mergeFirst_15 (by decide) ?_
  refine a_iconst (v := 0) dX6_mergeFirst_16 (by decide) ?_
  refine a_istore_3 dX6_mergeFirst_17 (by decide) ?_
  exact L_X6_mergeFirst (by have := hC.2.1.2.1; omega) k (i := 0) (m := 0) (by omega) (QC_of hC (by rw [sga_t (by decide)]) (by rw [sga_t (by decide)]) (by rw [sga_t (by decide)]) (fun c => by rw [sga_t (by decide)])) (by omega) ⟨rfl, rfl⟩
