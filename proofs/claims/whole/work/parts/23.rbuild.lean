/-! building keeps what holds of the class's state -/
def Zj (σ : Sg) : Prop := ∀ j, j < 4 → σ 10 0 j = 0
theorem Tm_z {σ σ' : Sg} {B k k' : Nat} (h : Tm B k σ) (hj : ∀ j, j < 4 → ∀ v, v < 4 → σ' 10 0 j ≠ 10 + nI v) (h5 : σ' 5 0 8 = σ 5 0 8) : Tm B k' σ' := by
  obtain ⟨t, a, b, -⟩ := h
  exact ⟨t, by rw [h5]; exact a, b, fun v j hv hj' e => absurd e (hj j hj' v hv)⟩
theorem UQ_z {js : Nat → Int32} (hj : ∀ j, j < 4 → ∀ v, v < 4 → js j ≠ 10 + nI v) : UQ js := fun v i _ hv hi _ e _ => absurd e (hj i hi v hv)
theorem Zj_no {σ : Sg} (h : Zj σ) : ∀ j, j < 4 → ∀ v, v < 4 → σ 10 0 j ≠ 10 + nI v := fun j hj v hv => by rw [h j hj]; exact zero_no hv
theorem mfI_keep : ∀ (n m : Nat) (τ : Sg) (qs : List Nat), QC τ qs → n + m ≤ qs.length → CA τ → Mg τ m 0 (τ 8 0) (τ 9 0) → CA (mfI n m τ).1 ∧ Mg (mfI n m τ).1 (mfI n m τ).2 0 (τ 8 0) ((mfI n m τ).1 9 0)
  | 0, m, τ, qs, _, _, hA, hM => ⟨hA, hM⟩
  | n + 1, m, τ, qs, h, hn, hA, hM => by
    unfold mfI
    split
    · have hl : (qs.eraseIdx m).length = qs.length - 1 := by rw [List.length_eraseIdx, if_pos (by omega)]
      refine mfI_keep n m (tfq τ m 3 1) (qs.eraseIdx m) (QC_tfq h (by omega)) (by omega) (CA_tfq hA m (fun e => absurd rfl e)) ?_
      refine Mg_congr (σ := τ) m 0 _ _ (fun _ _ => rfl) (fun i _ hi => ⟨?_, fun _ _ => ⟨rfl, rfl⟩⟩) hM
      rw [tfq_13]
      unfold rmv
      rw [if_neg (by omega)]
    · rename_i hc
      refine mfI_keep n (m + 1) (mrgB τ (tn (τ 13 0 m))) qs (QC_of h rfl rfl rfl (fun _ => rfl)) (by omega) (CA_of hA rfl rfl) ?_
      have h1 := Mg_app m 0 (τ 8 0) (τ 9 0) hM (by rw [Nat.zero_add]; unfold cfB at hc; simpa using hc)
      rw [Nat.zero_add] at h1
      refine Mg_congr (σ := τ) (m + 1) 0 _ _ (fun _ _ => rfl) (fun i _ hi => ⟨rfl, fun _ _ => ⟨rfl, rfl⟩⟩) ?_
      · have e : (mrgB τ (tn (τ 13 0 m))) 9 0 = mrg (τ 14 (tn (τ 13 0 m))) (τ 15 (tn (τ 13 0 m))) (τ 9 0) := by unfold mrgB; rw [sga_same]
        rw [e]
        exact h1
theorem mfS_facts {τ : Sg} {qs ps : List Nat} {k : Nat} (hQ : QP τ qs (k :: ps)) (hA : CA τ) : ∃ qs', QC (mfS τ k).1 qs' ∧ (mfS τ k).2 ≤ k ∧ qs'.length + k = qs.length + (mfS τ k).2 ∧ (∀ t, t ≠ 1 → t ≠ 3 → t ≠ 9 → t ≠ 13 → (mfS τ k).1 t = τ t) ∧ (mfS τ k).1 13 1 = τ 13 1 ∧ (mfS τ k).1 3 1 = τ 3 1 ∧ CA (mfS τ k).1 ∧ Mg (mfS τ k).1 (mfS τ k).2 0 (τ 8 0) ((mfS τ k).1 9 0) := by
  have a8 := hQ.2.2.2.2.2.2.2
  simp only [List.sum_cons] at a8
  have hC0 : QC (sga τ 9 0 (τ 8 0)) qs := QC_of (QP_C hQ) rfl rfl rfl (fun _ => rfl)
  obtain ⟨qs', h2, h3, h4, h5, h6, h7, h9⟩ := mfI_ok k 0 _ qs hC0 (by omega)
  obtain ⟨g1, g2⟩ := mfI_keep k 0 _ qs hC0 (by omega) (CA_of hA rfl rfl) (fun p _ => by rw [sga_same, sga_t (by decide)])
  refine ⟨qs', h2, (by unfold mfS; omega), (by unfold mfS; omega), fun t t1 t3 t9 t13 => (h6 t t1 t3 t9 t13).trans (sga_t t9), h7.trans (by rw [sga_t (by decide)]), h9.trans (by rw [sga_t (by decide)]), g1, ?_⟩
  rw [sga_t (by decide)] at g2
  exact g2
theorem vld_some {p : Int32} : ∀ (n j : Nat) (s : Bool), vld p n j s = true → s = true ∨ ∃ i, j ≤ i ∧ i < j + n ∧ rq p (nI i) = true
  | 0, j, s, h => Or.inl h
  | n + 1, j, s, h => by
    rw [vld] at h
    split at h
    · cases h
    · rcases vld_some n (j + 1) _ h with h1 | ⟨i, h1, h2, h3⟩
      · rw [Bool.or_eq_true] at h1
        rcases h1 with h1 | h1
        · exact Or.inl h1
        · exact Or.inr ⟨j, Nat.le_refl j, by omega, h1⟩
      · exact Or.inr ⟨i, by omega, by omega, h3⟩
theorem bi_01 (b : Bool) : bi b = 0 ∨ bi b = 1 := by cases b <;> decide
theorem bi_no (b : Bool) {v : Nat} (hv : v < 4) : bi b ≠ 10 + nI v := by
  cases b
  · exact zero_no hv
  · exact NL_no (Or.inl rfl) hv
theorem mb_nI {σ : Sg} {m : Nat} (h : σ 0 0 1 = nI m) (hm : m < 2 ^ 31) : mb σ = m := by unfold mb; rw [h]; exact nI_clamp hm
theorem startB_t {σ : Sg} {m : Int32} {t : Nat} (h0 : t ≠ 0) (h10 : t ≠ 10) (h11 : t ≠ 11) : (startB σ m) t = σ t := by unfold startB; rw [sga_t h11, sga_t h10, sg_t h0]
theorem startB_10 (σ : Sg) (m : Int32) : (startB σ m) 10 0 = fun j => bi (tb (σ 9 0 0) (nI j)) := by unfold startB; rw [sga_t (by decide), sga_same]
theorem startB_11 (σ : Sg) (m : Int32) : (startB σ m) 11 0 = fun _ => 0 := by unfold startB; rw [sga_same]
theorem startB_0 (σ : Sg) (m : Int32) : (startB σ m) 0 0 1 = m := by unfold startB; rw [sga_t (by decide), sga_t (by decide), sg_same]
theorem Hx_start {σ : Sg} {B k k' m : Nat} (hA : CA σ) (hT : Tm B k σ) (hm : m ≤ 16) (hM : Mg σ m 0 (σ 8 0) (σ 9 0)) (hv : vld (σ 9 0 0) 4 0 false = true) : Hx B k' (startB σ (nI m)) ∧ JD (startB σ (nI m)) := by
  have hno : ∀ j, j < 4 → ∀ v, v < 4 → (startB σ (nI m)) 10 0 j ≠ 10 + nI v := fun j _ v hv => by rw [startB_10]; exact bi_no _ hv
  have e9 : (startB σ (nI m)) 9 = σ 9 := startB_t (by decide) (by decide) (by decide)
  refine ⟨⟨CA_of hA (startB_t (by decide) (by decide) (by decide)) (by rw [startB_t (by decide) (by decide) (by decide)]), Tm_z hT hno (by rw [startB_t (by decide) (by decide) (by decide)]), UQ_z hno, fun _ => ⟨?_, fun j _ ht => ?_⟩⟩, ?_, ?_⟩
  · unfold TR
    rw [mb_nI (startB_0 ..) (by omega), e9, startB_t (t := 8) (by decide) (by decide) (by decide)]
    refine Mg_congr m 0 _ _ (fun _ _ => rfl) (fun i _ _ => ?_) hM
    rw [startB_t (t := 13) (by decide) (by decide) (by decide), startB_t (t := 14) (by decide) (by decide) (by decide), startB_t (t := 15) (by decide) (by decide) (by decide)]
    exact ⟨rfl, fun _ _ => ⟨rfl, rfl⟩⟩
  · rw [e9] at ht
    rw [startB_10]
    show bi (tb (σ 9 0 0) (nI j)) = 0
    rw [ht]; rfl
  · unfold firstF
    rcases @fhit_in (ffC ((startB σ (nI m)) 9 0 0) ((startB σ (nI m)) 10 0)) 4 0 with q | ⟨i, -, h2, -, h4⟩
    · exact q
    · refine absurd h4 ?_
      unfold ffC
      rw [startB_10]
      show ¬ (decide (bi (tb (σ 9 0 0) (nI i)) = 3) && _) = true
      cases tb (σ 9 0 0) (nI i) <;> simp [bi]
  · unfold passedR
    rw [Bool.not_eq_false', any4]
    rcases vld_some 4 0 false hv with h | ⟨i, -, h2, h3⟩
    · cases h
    · refine ⟨i, by omega, ?_⟩
      unfold hpC
      rw [startB_10, e9, h3]
      show (!decide (bi (tb (σ 9 0 0) (nI i)) = 2) && true) = true
      cases tb (σ 9 0 0) (nI i) <;> decide
theorem Gk_build {bs : Int32} {b : Nat} {σ : Sg} {B k : Nat} {qs ps : List Nat} (hb : bs = nI b) (h1 : 1 ≤ b) (h8 : b ≤ 8) (hW : Wk σ qs ps) (hx : Hx B k σ) (h0 : σ 0 0 1 ≤ 0) (hq : 0 < qs.length) : Hx B k (buildB bs σ) ∧ (mb (buildB bs σ) ≠ 0 → JD (buildB bs σ)) := by
  obtain ⟨m0, j0⟩ := Wk_mb0 hW h0
  obtain ⟨p, ps1, hQ, -⟩ := planned_QP hb h1 h8 hW.1 hq
  have hP := hQ.2.2.1
  have hk := hQ.2.2.2.2.2.1 p List.mem_cons_self
  have a7 := hQ.2.2.2.2.2.2.1
  simp only [List.sum_cons] at a7
  have ek : tn ((planned bs σ) 13 1 0) = p := by rw [hP.2.2 0 p rfl]; exact tn_nI (by omega)
  have hA : CA (planned bs σ) := CA_of hx.1 (planned_t (by decide) (by decide)) (by rw [planned_t (by decide) (by decide)])
  obtain ⟨qs', g1, g2, g3, g4, g5, g6, g7, g8⟩ := mfS_facts hQ hA
  unfold buildB
  rw [ek]
  generalize hr : mfS (planned bs σ) p = r at *
  obtain ⟨r, m⟩ := r
  simp only at g1 g2 g3 g4 g5 g6 g7 g8
  have e10 : r 10 = σ 10 := (g4 10 (by decide) (by decide) (by decide) (by decide)).trans (planned_t (by decide) (by decide))
  have e0 : r 0 = σ 0 := (g4 0 (by decide) (by decide) (by decide) (by decide)).trans (planned_t (by decide) (by decide))
  have e5 : r 5 = σ 5 := (g4 5 (by decide) (by decide) (by decide) (by decide)).trans (planned_t (by decide) (by decide))
  have e8 : r 8 = (planned bs σ) 8 := g4 8 (by decide) (by decide) (by decide) (by decide)
  unfold buildT
  show Hx B k (if m = 0 then _ else _) ∧ _
  by_cases hm : m = 0
  · have em : mb (rowRmv r 1 0 (pn (planned bs σ))) = 0 := mb_z (by rw [rowRmv_t (by decide) (by decide), e0]; exact m0)
    have hno : ∀ j, j < 4 → ∀ v, v < 4 → (rowRmv r 1 0 (pn (planned bs σ))) 10 0 j ≠ 10 + nI v := fun j hj v hv => by rw [rowRmv_t (by decide) (by decide), e10, j0 j hj]; exact zero_no hv
    simp only [if_pos hm]
    exact ⟨⟨CA_of g7 (rowRmv_t (by decide) (by decide)) (by rw [rowRmv_t (by decide) (by decide)]), Tm_z hx.2.1 hno (by rw [rowRmv_t (by decide) (by decide), e5]), UQ_z hno, fun q => absurd em q⟩, fun q => absurd em q⟩
  · simp only [if_neg hm]
    have hT : Tm B k (sg r 13 1 0 (nI m)) := Tm_z hx.2.1 (fun j hj v hv => by rw [sg_t (by decide), e10, j0 j hj]; exact zero_no hv) (by rw [sg_t (by decide), e5])
    have hA2 : CA (sg r 13 1 0 (nI m)) := CA_of g7 (sg_t (by decide)) (by rw [sg_t (by decide)])
    split
    · rename_i hv
      have hM : Mg (sg r 13 1 0 (nI m)) m 0 ((sg r 13 1 0 (nI m)) 8 0) ((sg r 13 1 0 (nI m)) 9 0) := by
        rw [sg_t (t' := 8) (by decide), sg_t (t' := 9) (by decide), e8]
        exact Mg_congr (σ := r) m 0 _ _ (fun _ _ => rfl) (fun i _ _ => ⟨rfl, fun _ _ => ⟨rfl, rfl⟩⟩) g8
      have := Hx_start (k' := k) hA2 hT (by omega) hM hv
      exact ⟨this.1, fun _ => this.2⟩
    · exact ⟨Hx_fail (B := B) (k := k) ⟨hA2, hT, UQ_z (fun j hj v hv => by rw [sg_t (by decide), e10, j0 j hj]; exact zero_no hv), fun q => absurd (mb_z (by rw [sg_t (by decide), e0]; exact m0)) q⟩, fun q => absurd (mb_z (failS_0 ..)) q⟩
theorem qs_pos {σ : Sg} {qs : List Nat} (h : QI σ qs) (hq : ¬ σ 3 0 1 ≤ 0) : 0 < qs.length := by
  rcases Nat.eq_zero_or_pos qs.length with e | e
  · exact absurd (by rw [h.1, e]; decide) hq
  · exact e
theorem Gk_bld {bs : Int32} {b : Nat} {B k : Nat} (hb : bs = nI b) (h1 : 1 ≤ b) (h8 : b ≤ 8) : ∀ (n : Nat) (σ : Sg), Gk B k σ → Gk B k (bld bs n σ)
  | 0, σ, h => h
  | n + 1, σ, h => by
    unfold bld
    split
    · rename_i hc
      obtain ⟨⟨qs, ps, hW⟩, hx, hD⟩ := h
      have hq := qs_pos hW.1.2.1 hc.2
      obtain ⟨qs', ps', hW', -⟩ := build_Wk hb h1 h8 hW hc.1 hq
      obtain ⟨g1, g2⟩ := Gk_build hb h1 h8 hW hx hc.1 hq
      exact Gk_bld hb h1 h8 n _ ⟨⟨qs', ps', hW'⟩, g1, g2⟩
    · exact h
theorem bld_mb {bs : Int32} {σ : Sg} (hm : ¬ σ 0 0 1 ≤ 0) : ∀ n, bld bs n σ = σ
  | 0 => rfl
  | n + 1 => if_neg (fun q => hm q.1)
theorem bld_stop {bs : Int32} {σ : Sg} (h : σ 0 0 1 ≤ 0 → σ 3 0 1 ≤ 0) : ∀ n, bld bs n σ = σ
  | 0 => rfl
  | n + 1 => if_neg (fun q => q.2 (h q.1))
/-! .. and the reference builds the same -/
theorem Sc_plan {ρ0 σ ρ : Sg} {v : Int32} (h : Sc ρ0 σ ρ) : Sc ρ0 (rowIns σ 1 0 0 v) (sg (sg ρ 29 0 0 v) 7 0 22 1) := by
  refine ⟨S1_of h.1, S2_of h.2.1, S3_of h.2.2.1, ⟨rfl, fun i hi => ?_⟩, Kp_of h.2.2.2.2⟩
  have e : pn (rowIns σ 1 0 0 v) = 1 := rfl
  rw [e] at hi
  obtain rfl : i = 0 := by omega
  show up1 (ρ 29 0) 0 v 0 = ins (σ 13 1) 0 0 v 0
  rw [up1_same]
  rfl
theorem Sc_drop {ρ0 σ ρ : Sg} {x : Int32} (h : Sc ρ0 σ ρ) (hp : Pn σ) (h0 : 0 < pn σ) : Sc ρ0 (rowRmv σ 1 0 (pn σ)) (drP (sg ρ 29 0 0 x) (pn σ)) := by
  refine ⟨S1_of h.1, S2_of h.2.1, S3_of h.2.2.1, ⟨rfl, fun i hi => ?_⟩, Kp_of h.2.2.2.2⟩
  have e : pn (rowRmv σ 1 0 (pn σ)) = pn σ - 1 := nI_clamp (by have := hp.2; omega)
  rw [e] at hi
  show rmv (up1 (ρ 29 0) 0 x) 0 (pn σ) i = rmv (σ 13 1) 0 (pn σ) i
  rw [rmv_at hi, rmv_at hi, if_neg (by omega), up1_ne (by omega)]
  exact h.2.2.2.1.2 _ (by omega)
theorem Sc_set {ρ0 σ ρ : Sg} {x : Int32} (h : Sc ρ0 σ ρ) : Sc ρ0 (sg σ 13 1 0 x) (sg ρ 29 0 0 x) := by
  refine ⟨S1_of h.1, S2_of h.2.1, S3_of h.2.2.1, ⟨h.2.2.2.1.1, fun i hi => ?_⟩, Kp_of h.2.2.2.2⟩
  by_cases e : i = 0
  · subst e; rw [sg_same, sg_same]
  · rw [sg_k e, sg_k e]
    exact h.2.2.2.1.2 i hi
theorem st_step2 (ρ : Sg) (a b : Nat → Int32) (j : Nat) (u v : Int32) : sg (sg (sga (sga ρ 30 0 a) 31 0 b) 30 0 j v) 31 0 j u = sga (sga ρ 30 0 (up1 a j v)) 31 0 (up1 b j u) := by
  rw [sg_is _ 30, show (sga (sga ρ 30 0 a) 31 0 b) 30 0 = a by rw [sga_t (by decide), sga_same], sga_comm (t := 31) (t' := 30) (by decide), sga_sga, sg_sga]
set_option maxRecDepth 10000 in
theorem L_X8_mf {l : Launch} {w : WW} {Φ : Option Value → XX → Prop} {M : Mem} {ρ0 : Sg} {K : Nat} (hK : K ≤ 16) {H : Nat → Int32} : ∀ (n : Nat) {i m : Nat} {τ ρ : Sg} {qs : List Nat} {v4 : Option Value}, i + n = K → QC τ qs → n + m ≤ qs.length → Sc ρ0 τ ρ → (∀ p, p < 6 → ρ 34 0 p = τ 9 0 p) → ρ 32 0 = H → ρ 7 0 23 = 0 → (∀ ρ' u4, Sc ρ0 (mfI n m τ).1 ρ' → (∀ p, p < 6 → ρ' 34 0 p = (mfI n m τ).1 9 0 p) → ρ' 32 0 = H → ρ' 7 0 23 = 0 → A l w yX8_build cX8_build 5 none (rmd 5) Φ 102 [some (.ref (ad w 2 7 0)), some (.int (nI K)), some (.int (nI (mfI n m τ).2)), some (.int (nI K)), u4] [] (zx w M 2 ρ') 0 0) → A l w yX8_build cX8_build 5 none (rmd 5) Φ 55 [some (.ref (ad w 2 7 0)), some (.int (nI K)), some (.int (nI m)), some (.int (nI i)), v4] [] (zx w M 2 ρ) 0 0 := by
  intro n
  induction n with
  | zero =>
    intro i m τ ρ qs v4 hi hQ hn h hT h32 h23 kk
    refine a_iload_n dX8_build_55 rfl ?_
    refine a_iload_n dX8_build_56 rfl ?_
    refine a_icmp_ge (tgt := 102) dX8_build_57 (by decide) (fun c_57 => ?_) (fun c_57 => absurd (nI_le (by omega) (by omega)) c_57)
    obtain rfl : i = K := by omega
    exact kk _ _ h hT h32 h23
  | succ n ih =>
    intro i m τ ρ qs v4 hi hQ hn h hT h32 h23 kk
    refine a_iload_n dX8_build_55 rfl ?_
    refine a_iload_n dX8_build_56 rfl ?_
    refine a_icmp_ge (tgt := 102) dX8_build_57 (by decide) (fun c_57 => absurd c_57 (nI_ge (by omega) (by omega))) (fun c_57 => ?_)
    refine a_aload_n dX8_build_60 rfl ?_
    refine c_getR (t := 7) (k := 19) dX8_build_61 kw_100 rfl ?_
    refine a_iload_n dX8_build_64 rfl ?_
    refine c_iald (i := m) dX8_build_65 rfl (show m < 16 by have := hQ.2.1.2.1; omega) ?_
    have hq := QC_ok hQ
    have hqn := QI_qn hQ.2.1
    have hmq : m < qn τ := by omega
    obtain ⟨c, hc, he⟩ := hq.2.2 m hmq
    have hc16 : c < 16 := by have := hq.1.2; omega
    have ec : tn (τ 13 0 m) = c := by rw [he]; exact tn_nI (by omega)
    obtain ⟨x1, x2, -⟩ := h.2.1.2 c hc
    have hcf : cfB τ c = cfR ρ c := (cfl_congr x1 x2 hT).symm
    rw [show ρ 28 0 m = nI c from (h.2.2.1.2 m hmq).trans he]
    refine a_istore_4 dX8_build_66 (by decide) ?_
    refine a_aload_n dX8_build_68 rfl ?_
    refine a_iload dX8_build_69 rfl ?_
    refine c_V1I dX8_build_71 kw_429 kv_X8_conflicts (s_X8_conflicts hc16) ?_
    refine a_if_eq (tgt := 92) dX8_build_74 (by decide) (fun c_74 => ?_) (fun c_74 => ?_)
    · have hf := bi_0.mp c_74
      rw [if_neg (by rw [hf]; decide)]
      refine a_iload_n dX8_build_92 rfl ?_
      refine a_iconst (v := 1) dX8_build_93 (by decide) ?_
      refine a_iadd dX8_build_94 ?_
      rw [nI_1]
      refine a_istore_2 dX8_build_95 (by decide) ?_
      refine a_iinc_3 (u := nI (i + 1)) dX8_build_96 (inc_nI i) (by decide) ?_
      refine a_goto (tgt := 55) dX8_build_99 (by decide) ?_
      rw [mfI, ec, hcf] at kk
      first
        | (rw [if_pos hf] at kk
           refine ih (τ := tfq τ m 3 1) (qs := qs.eraseIdx m) (by omega) (QC_tfq hQ (by omega)) (by rw [List.length_eraseIdx, if_pos (by omega)]; omega) ?_ ?_ h32 h23 kk
           · have h9 := Sc_tfq h hq.2.1 hmq 1
             rw [ec] at h9
             exact h9
           · intro p hp
             rw [tfq_t (by decide) (by decide) (by decide)]
             exact hT p hp)
        | (rw [if_neg (by rw [hf]; decide)] at kk
           refine ih (τ := mrgB τ c) (qs := qs) (by omega) (QC_of hQ rfl rfl rfl (fun _ => rfl)) (by omega) ?_ ?_ h32 h23 kk
           · exact ⟨S1_of h.1, S2_of h.2.1, S3_of h.2.2.1, S4_of h.2.2.2.1, Kp_of h.2.2.2.2⟩
           · intro p hp
             unfold mgR mrgB
             rw [sga_same, sga_same]
             exact mrg_congr x1 x2 hT hp)
    · have hf := bi_n0.mp c_74
      rw [if_pos hf]
      refine a_aload_n dX8_build_77 rfl ?_
      refine a_iload dX8_build_78 rfl ?_
      refine a_iconst (v := 1) dX8_build_80 (by decide) ?_
      refine c_V2V dX8_build_81 kw_485 kv_X8_reject (s_X8_reject hc16) ?_
      refine a_aload_n dX8_build_84 rfl ?_
      refine a_iload_n dX8_build_85 rfl ?_
      refine c_V1V dX8_build_86 kw_489 kv_X8_leaveQueue (s_X8_leaveQueue (n := qn τ) (h.2.2.1.1.trans hq.2.1.1) hmq hq.2.1.2) ?_
      refine a_goto (tgt := 96) dX8_build_89 (by decide) ?_
      refine a_iinc_3 (u := nI (i + 1)) dX8_build_96 (inc_nI i) (by decide) ?_
      refine a_goto (tgt := 55) dX8_build_99 (by decide) ?_
      rw [mfI, ec, hcf] at kk
      first
        | (rw [if_pos hf] at kk
           refine ih (τ := tfq τ m 3 1) (qs := qs.eraseIdx m) (by omega) (QC_tfq hQ (by omega)) (by rw [List.length_eraseIdx, if_pos (by omega)]; omega) ?_ ?_ h32 h23 kk
           · have h9 := Sc_tfq h hq.2.1 hmq 1
             rw [ec] at h9
             exact h9
           · intro p hp
             rw [tfq_t (by decide) (by decide) (by decide)]
             exact hT p hp)
        | (rw [if_neg (by rw [hf]; decide)] at kk
           refine ih (τ := mrgB τ c) (qs := qs) (by omega) (QC_of hQ rfl rfl rfl (fun _ => rfl)) (by omega) ?_ ?_ h32 h23 kk
           · exact ⟨S1_of h.1, S2_of h.2.1, S3_of h.2.2.1, S4_of h.2.2.2.1, Kp_of h.2.2.2.2⟩
           · intro p hp
             unfold mgR mrgB
             rw [sga_same, sga_same]
             exact mrg_congr x1 x2 hT hp)
set_option maxRecDepth 10000 in
theorem L_X8_jb {l : Launch} {w : WW} {Φ : Option Value → XX → Prop} {M : Mem} {ρ : Sg} {p : Int32} (hp : ρ 34 0 0 = p) {v1 v2 v4 : Option Value} : ∀ (n : Nat) {j : Nat}, j + n = 4 → A l w yX8_build cX8_build 5 none (rmd 5) Φ 175 [some (.ref (ad w 2 7 0)), v1, v2, some (.int (nI 4)), v4] [] (zx w M 2 (sga (sga ρ 30 0 (mixN 4 (fun j => bi (tb p (nI j))) (ρ 30 0))) 31 0 (mixN 4 (fun _ => 0) (ρ 31 0)))) 0 0 → A l w yX8_build cX8_build 5 none (rmd 5) Φ 138 [some (.ref (ad w 2 7 0)), v1, v2, some (.int (nI j)), v4] [] (zx w M 2 (sga (sga ρ 30 0 (mixN j (fun j => bi (tb p (nI j))) (ρ 30 0))) 31 0 (mixN j (fun _ => 0) (ρ 31 0)))) 0 0 := by
  intro n
  induction n with
  | zero =>
    intro j hj kk
    refine a_iload_n dX8_build_138 rfl ?_
    refine a_iconst (v := 4) dX8_build_139 (by decide) ?_
    refine a_icmp_ge (tgt := 175) dX8_build_140 (by decide) (fun c_140 => ?_) (fun c_140 => absurd (by have e6 : j = 4 := (by omega); subst e6; decide) c_140)
    obtain rfl : j = 4 := by omega
    exact kk
  | succ n ih =>
    intro j hj kk
    refine a_iload_n dX8_build_138 rfl ?_
    refine a_iconst (v := 4) dX8_build_139 (by decide) ?_
    refine a_icmp_ge (tgt := 175) dX8_build_140 (by decide) (fun c_140 => absurd c_140 (nI_ge (b := 4) (by omega) (by omega))) (fun c_140 => ?_)
    refine a_aload_n dX8_build_143 rfl ?_
    refine c_getR (t := 7) (k := 24) dX8_build_144 kw_102 rfl ?_
    refine a_iload_n dX8_build_147 rfl ?_
    refine a_aload_n dX8_build_148 rfl ?_
    refine a_iload_n dX8_build_149 rfl ?_
    refine c_V1I dX8_build_150 kw_521 kv_X8_there (s_X8_there (p := p) (by rw [sga_t (by decide), sga_t (by decide)]; exact hp)) ?_
    refine a_if_eq (tgt := 160) dX8_build_153 (by decide) (fun c_153 => ?_) (fun c_153 => ?_)
    · refine a_iconst (v := 0) dX8_build_160 (by decide) ?_
      refine c_iast (i := j) dX8_build_161 rfl (show j < 4 by omega) ?_
      refine a_aload_n dX8_build_162 rfl ?_
      refine c_getR (t := 7) (k := 25) dX8_build_163 kw_103 rfl ?_
      refine a_iload_n dX8_build_166 rfl ?_
      refine a_iconst (v := 0) dX8_build_167 (by decide) ?_
      refine c_iast (i := j) dX8_build_168 rfl (show j < 4 by omega) ?_
      refine a_iinc_3 (u := nI (j + 1)) dX8_build_169 (inc_nI j) (by decide) ?_
      refine a_goto (tgt := 138) dX8_build_172 (by decide) ?_
      first
        | (have e1 : up1 (mixN j (fun j => bi (tb p (nI j))) (ρ 30 0)) j 0 = mixN (j + 1) (fun j => bi (tb p (nI j))) (ρ 30 0) := by
             rw [← mixN_up]
             show _ = up1 _ j (bi (tb p (nI j)))
             rw [bi_0.mp c_153]
             rfl
           rw [st_step2, e1, show up1 (mixN j (fun _ => (0 : Int32)) (ρ 31 0)) j 0 = mixN (j + 1) (fun _ => 0) (ρ 31 0) from mixN_up j (fun _ => 0) (ρ 31 0)]
           exact ih (by omega) kk)
        | (have e1 : up1 (mixN j (fun j => bi (tb p (nI j))) (ρ 30 0)) j 1 = mixN (j + 1) (fun j => bi (tb p (nI j))) (ρ 30 0) := by
             rw [← mixN_up]
             show _ = up1 _ j (bi (tb p (nI j)))
             rw [bi_n0.mp c_153]
             rfl
           rw [st_step2, e1, show up1 (mixN j (fun _ => (0 : Int32)) (ρ 31 0)) j 0 = mixN (j + 1) (fun _ => 0) (ρ 31 0) from mixN_up j (fun _ => 0) (ρ 31 0)]
           exact ih (by omega) kk)
    · refine a_iconst (v := 1) dX8_build_156 (by decide) ?_
      refine a_goto (tgt := 161) dX8_build_157 (by decide) ?_
      refine c_iast (i := j) dX8_build_161 rfl (show j < 4 by omega) ?_
      refine a_aload_n dX8_build_162 rfl ?_
      refine c_getR (t := 7) (k := 25) dX8_build_163 kw_103 rfl ?_
      refine a_iload_n dX8_build_166 rfl ?_
      refine a_iconst (v := 0) dX8_build_167 (by decide) ?_
      refine c_iast (i := j) dX8_build_168 rfl (show j < 4 by omega) ?_
      refine a_iinc_3 (u := nI (j + 1)) dX8_build_169 (inc_nI j) (by decide) ?_
      refine a_goto (tgt := 138) dX8_build_172 (by decide) ?_
      first
        | (have e1 : up1 (mixN j (fun j => bi (tb p (nI j))) (ρ 30 0)) j 0 = mixN (j + 1) (fun j => bi (tb p (nI j))) (ρ 30 0) := by
             rw [← mixN_up]
             show _ = up1 _ j (bi (tb p (nI j)))
             rw [bi_0.mp c_153]
             rfl
           rw [st_step2, e1, show up1 (mixN j (fun _ => (0 : Int32)) (ρ 31 0)) j 0 = mixN (j + 1) (fun _ => 0) (ρ 31 0) from mixN_up j (fun _ => 0) (ρ 31 0)]
           exact ih (by omega) kk)
        | (have e1 : up1 (mixN j (fun j => bi (tb p (nI j))) (ρ 30 0)) j 1 = mixN (j + 1) (fun j => bi (tb p (nI j))) (ρ 30 0) := by
             rw [← mixN_up]
             show _ = up1 _ j (bi (tb p (nI j)))
             rw [bi_n0.mp c_153]
             rfl
           rw [st_step2, e1, show up1 (mixN j (fun _ => (0 : Int32)) (ρ 31 0)) j 0 = mixN (j + 1) (fun _ => 0) (ρ 31 0) from mixN_up j (fun _ => 0) (ρ 31 0)]
           exact ih (by omega) kk)
set_option maxRecDepth 10000 in
theorem L_X8_b40 {l : Launch} {w : WW} {Φ : Option Value → XX → Prop} {M : Mem} {ρ0 τ ρ : Sg} {qs ps : List Nat} {k : Nat} {v1 v2 v3 v4 : Option Value} (hQ : QP τ qs (k :: ps)) (hA : CA τ) (h : Sc ρ0 τ ρ) (h32 : ρ 32 0 = m1) (h23 : ρ 7 0 23 = 0) (hm0 : τ 0 0 1 = 0) (hj0 : Zj τ) (kk : ∀ ρ' , Sm ρ0 (buildT τ (pn τ) (mfS τ (tn (τ 13 1 0)))) ρ' → Φ none (zx w M 2 ρ')) : A l w yX8_build cX8_build 5 none (rmd 5) Φ 40 [some (.ref (ad w 2 7 0)), v1, v2, v3, v4] [] (zx w M 2 ρ) 0 0 := by
  have hP := hQ.2.2.1
  have a6 := hQ.2.2.2.2.2.1
  have a7 := hQ.2.2.2.2.2.2.1
  have a8 := hQ.2.2.2.2.2.2.2
  have hk := a6 k List.mem_cons_self
  have hsl := sum_len ps (fun p hp => a6 p (List.mem_cons_of_mem _ hp))
  simp only [List.sum_cons] at a7 a8
  have hPn := PI_Pn hP
  have hpn : pn τ = ps.length + 1 := by rw [PI_pn hP]; rfl
  have ek : tn (τ 13 1 0) = k := by rw [hP.2.2 0 k rfl]; exact tn_nI (by omega)
  refine a_aload_n dX8_build_40 rfl ?_
  refine c_V0V dX8_build_41 kw_425 kv_X8_startTree s_X8_startTree ?_
  refine a_aload_n dX8_build_44 rfl ?_
  refine c_getR (t := 7) (k := 21) dX8_build_45 kw_101 rfl ?_
  refine a_iconst (v := 0) dX8_build_48 (by decide) ?_
  refine c_iald (i := 0) dX8_build_49 nI_0.symm (by decide) ?_
  rw [show (sga ρ 34 0 (ρ 22 0)) 29 0 0 = nI k from (h.2.2.2.1.2 0 (by omega)).trans (hP.2.2 0 k rfl)]
  refine a_istore_1 dX8_build_50 (by decide) ?_
  refine a_iconst (v := 0) dX8_build_51 (by decide) ?_
  refine a_istore_2 dX8_build_52 (by decide) ?_
  refine a_iconst (v := 0) dX8_build_53 (by decide) ?_
  refine a_istore_3 dX8_build_54 (by decide) ?_
  refine L_X8_mf (K := k) (by omega) (H := m1) k (i := 0) (m := 0) (τ := sga τ 9 0 (τ 8 0)) (qs := qs) (by omega) (QC_of (QP_C hQ) rfl rfl rfl (fun _ => rfl)) (by omega) ⟨S1_of h.1, S2_of h.2.1, S3_of h.2.2.1, S4_of h.2.2.2.1, Kp_of h.2.2.2.2⟩ (fun p hp => by rw [sga_same, sga_same]; exact h.1.1 p hp) h32 h23 (fun ρ1 u4 h1 hT1 q32 q23 => ?_)
  rw [show mfI k 0 (sga τ 9 0 (τ 8 0)) = mfS τ k from rfl] at *
  obtain ⟨qs', g1, g2, g3, g4, g5, g6, g7, g8⟩ := mfS_facts hQ hA
  rw [ek] at kk
  generalize hr : mfS τ k = r at *
  obtain ⟨r, m⟩ := r
  simp only at g1 g2 g3 g4 g5 g6 g7 g8 h1 hT1 ⊢
  have hP1 : PI r (k :: ps) := PI_of hP g6 g5
  have hPr : pn r = pn τ := by rw [PI_pn hP1, PI_pn hP]
  refine a_aload_n dX8_build_102 rfl ?_
  refine c_getR (t := 7) (k := 21) dX8_build_103 kw_101 rfl ?_
  refine a_iconst (v := 0) dX8_build_106 (by decide) ?_
  refine a_iload_n dX8_build_107 rfl ?_
  refine c_iast (i := 0) dX8_build_108 nI_0.symm (by decide) ?_
  refine a_iload_n dX8_build_109 rfl ?_
  refine a_if_ne (tgt := 118) dX8_build_110 (by decide) (fun c_110 => ?_) (fun c_110 => ?_)
  · have hmz : ¬ m = 0 := fun q => c_110 (by rw [q]; rfl)
    have hP2 := PI_set (v := nI m) hP1 rfl
    have hC2 := fin_QC (v := nI m) g1
    have h2 : Sc ρ0 (sg r 13 1 0 (nI m)) (sg (sg ρ1 29 0 0 (nI m)) 7 0 23 (nI m)) := by
      have h9 := Sc_set (x := nI m) h1
      exact ⟨S1_of h9.1, S2_of h9.2.1, S3_of h9.2.2.1, S4_of h9.2.2.2.1, Kp_of h9.2.2.2.2⟩
    have e40 : (sg (sg ρ1 29 0 0 (nI m)) 7 0 23 (nI m)) 34 0 0 = (sg r 13 1 0 (nI m)) 9 0 0 := hT1 0 (by decide)
    have hT : buildT τ (pn τ) (r, m) = _ := if_neg hmz
    rw [hT] at kk
    refine a_aload_n dX8_build_118 rfl ?_
    refine a_iload_n dX8_build_119 rfl ?_
    refine c_putI (t := 7) (k := 23) dX8_build_120 kw_125 ?_
    refine a_aload_n dX8_build_123 rfl ?_
    refine c_V0I dX8_build_124 kw_517 kv_X8_valid (s_X8_valid e40) ?_
    rw [valid_is]
    refine a_if_ne (tgt := 136) dX8_build_127 (by decide) (fun c_127 => ?_) (fun c_127 => ?_)
    · refine a_iconst (v := 0) dX8_build_136 (by decide) ?_
      refine a_istore_3 dX8_build_137 (by decide) ?_
      refine a_eq (x' := zx w M 2 (sga (sga _ 30 0 (mixN 0 (fun j => bi (tb ((sg r 13 1 0 (nI m)) 9 0 0) (nI j))) _)) 31 0 (mixN 0 (fun _ => 0) ((sga _ 30 0 _) 31 0)))) (by rw [mixN_0, mixN_0, sga_eta]; exact congrArg (zx w M 2) (sga_eta _ 30 0).symm) ?_
      refine L_X8_jb (ρ := sga (sg (sg ρ1 29 0 0 (nI m)) 7 0 23 (nI m)) 35 0 (lm (clo ((sg r 13 1 0 (nI m)) 9 0 0)))) (p := (sg r 13 1 0 (nI m)) 9 0 0) e40 4 (j := 0) rfl ?_
      exact c_vret dX8_build_175 (kk _ (by
          rw [if_pos (bi_n0.mp c_127)]
          have h3 := Sc_lead h2 (lm (clo ((sg r 13 1 0 (nI m)) 9 0 0)))
          refine ⟨⟨S1_of h3.1, S2_of h3.2.1, S3_of h3.2.2.1, S4_of h3.2.2.2.1, Kp_of h3.2.2.2.2⟩, ⟨?_, fun _ i hi => ⟨?_, ?_⟩⟩, fun v hv => ?_⟩
          · exact (startB_0 _ _).symm
          · rw [startB_10, sga_t (by decide), sga_same]
            exact if_pos hi
          · rw [startB_11, sga_same]
            exact if_pos hi
          · exact ⟨Or.inl ⟨congrFun q32 v, fun i hi => by rw [startB_10]; exact bi_no _ hv⟩, fun q => absurd (congrFun q32 v) q⟩))
    · refine a_aload_n dX8_build_130 rfl ?_
      refine a_iconst (v := 2) dX8_build_131 (by decide) ?_
      refine c_V1X dX8_build_132 kw_477 kv_X8_batchFails (s_X8_batchFails (k := m) (Sc_lead h2 _) rfl (by omega) (QC_ok hC2) (by rw [QI_qn hC2.2.1]; omega) (PI_Pn hP2) (by rw [PI_pn hP2]; simp) (fun e => by rw [PI_pn hP2]; simp only [List.length_cons]; omega)) (fun ρ132 h_132 => ?_)
      exact c_vret dX8_build_135 (kk _ (by rw [if_neg (by rw [bi_0.mp c_127]; decide)]; exact h_132))
  · have hmz : m = 0 := nI_inj (b := 0) (by first | exact c_110 | exact Classical.not_not.mp c_110) (by omega) (by omega)
    subst hmz
    refine a_aload_n dX8_build_113 rfl ?_
    refine c_V0V dX8_build_114 kw_493 kv_X8_dropPlan (s_X8_dropPlan (n := pn r) (h1.2.2.2.1.1.trans (PI_Pn hP1).1) (by omega) (by have := (PI_Pn hP1).2; omega)) ?_
    exact c_vret dX8_build_117 (kk _ (by
        have e : buildT τ (pn τ) (r, 0) = rowRmv r 1 0 (pn r) := by rw [hPr]; rfl
        have e0 : r 0 = τ 0 := g4 0 (by decide) (by decide) (by decide) (by decide)
        have e10 : r 10 = τ 10 := g4 10 (by decide) (by decide) (by decide) (by decide)
        rw [e]
        refine ⟨Sc_drop h1 (PI_Pn hP1) (by omega), S5_0 (by rw [rowRmv_t (by decide) (by decide), e0]; exact hm0) q23, fun v hv => ?_⟩
        have eh : (drP (sg ρ1 29 0 0 (nI 0)) (pn r)) 32 0 = m1 := q32
        rw [eh]
        exact ⟨Or.inl ⟨rfl, fun i hi => by rw [rowRmv_t (by decide) (by decide), e10, hj0 i hi]; exact zero_no hv⟩, fun q => absurd rfl q⟩))
set_option maxRecDepth 10000 in
theorem s_X8_build {l : Launch} {w : WW} {M : Mem} {ρ0 σ ρ : Sg} {qs ps : List Nat} {b B k : Nat} (hb : ρ0 7 0 1 = nI b) (b1 : 1 ≤ b) (b8 : b ≤ 8) (h : Sm ρ0 σ ρ) (hW : Wk σ qs ps) (hx : Hx B k σ) (h0 : σ 0 0 1 ≤ 0) (hq : 0 < qs.length) : Can l w yX8_build cX8_build 5 none (rmd 5) [.ref (ad w 2 7 0)] (zx w M 2 ρ) (RX w M (fun ρ' => Sm ρ0 (buildB (nI b) σ) ρ')) := by
  refine Can.go (ls := [some (.ref (ad w 2 7 0)), none, none, none, none]) ?_
  obtain ⟨m0, j0⟩ := Wk_mb0 hW h0
  obtain ⟨k1, ps1, hQ, -⟩ := planned_QP (bs := nI b) rfl b1 b8 hW.1 hq
  have hPn := PI_Pn hW.1.2.2.1
  have h32 : ρ 32 0 = m1 ∨ True := Or.inr trivial
  have hA : CA (planned (nI b) σ) := CA_of hx.1 (planned_t (by decide) (by decide)) (by rw [planned_t (by decide) (by decide)])
  have hsz : ρ 7 0 1 = nI b := h.1.2.2.2.2.2.2.2.2.2.1.trans hb
  have hqd : ρ 7 0 20 = nI qs.length := h.1.2.2.1.1.trans hW.1.2.1.1
  have hql := hW.1.2.1.2.1
  have hz : planned (nI b) σ 0 0 1 = 0 := by rw [planned_t (by decide) (by decide)]; exact m0
  have hzj : Zj (planned (nI b) σ) := fun j hj => by rw [planned_t (by decide) (by decide)]; exact j0 j hj
  have hh : ∀ v, v < 4 → ρ 32 0 v = -1 := by
    intro v hv
    rcases (h.2.2 v hv).1 with q | ⟨i, hi, -, q⟩
    · exact q.1
    · exact absurd q (by rw [j0 i hi]; exact zero_no hv)
  refine c_junk (M' := M) (σ' := sga ρ 32 0 m1) (fun u t c k' hk1 hk2 hk3 => by
    have e := junkA (M := M) (s := 2) (σ := ρ) (t := 32) (c := 0) (g := m1) (f := ρ 32 0) (by decide) (fun v hv => (hh v hv).symm) u t c k' hk1 hk2 hk3
    rw [sga_eta] at e
    exact e) ?_
  have h' : Sc ρ0 σ (sga ρ 32 0 m1) := ⟨S1_of h.1.1, S2_of h.1.2.1, S3_of h.1.2.2.1, S4_of h.1.2.2.2.1, Kp_of h.1.2.2.2.2⟩
  have h23 : (sga ρ 32 0 m1) 7 0 23 = 0 := h.2.1.1.trans m0
  refine a_aload_n dX8_build_0 rfl ?_
  refine c_getI (t := 7) (k := 22) dX8_build_1 kw_124 ?_
  refine a_if_ne (tgt := 40) dX8_build_4 (by decide) (fun c_4 => ?_) (fun c_4 => ?_)
  · first
      | (have hp : planned (nI b) σ = σ := if_neg (fun q => c_4 (h.1.2.2.2.1.1.trans q))
         rw [hp] at hQ hA hz hzj
         exact L_X8_b40 hQ hA h' (by rw [sga_same]) h23 hz hzj (fun ρ1 h1 => ⟨rfl, ρ1, rfl, by unfold buildB; rw [hp]; exact h1⟩))
      | (have c4 : σ 3 1 1 = 0 := h.1.2.2.2.1.1.symm.trans c_4
         have h0p : pn σ = 0 := nI_inj (b := 0) (hPn.1.symm.trans c4) (by have := hPn.2; omega) (by omega)
         have hp : planned (nI b) σ = rowIns σ 1 0 0 (if qs.length < b then nI qs.length else nI b) := by
           unfold planned
           rw [if_pos c4, h0p, hv]
         have hS := Sc_plan (v := if qs.length < b then nI qs.length else nI b) h'
         rw [← hp] at hS
         have hvv : (if qs.length < b then nI qs.length else nI b) = nI b := by
           by_cases q : qs.length < b
           · first
               | (rw [if_pos q]; done)
               | exact absurd (nI_le (Nat.le_of_lt q) (by omega)) c_20
           · first
               | (rw [if_neg q]; done)
               | (rw [if_neg q, show b = qs.length by
                    rcases Nat.lt_or_ge b qs.length with q2 | q2
                    · exact absurd c_20 (nI_ge q2 (by omega))
                    · omega])
         rw [hvv] at hS
         exact L_X8_b40 hQ hA hS (by rfl) h23 hz hzj (fun ρ1 h1 => ⟨rfl, ρ1, rfl, h1⟩))
  · refine a_aload_n dX8_build_7 rfl ?_
    refine c_getR (t := 7) (k := 21) dX8_build_8 kw_101 rfl ?_
    refine a_iconst (v := 0) dX8_build_11 (by decide) ?_
    refine a_aload_n dX8_build_12 rfl ?_
    refine c_getI (t := 7) (k := 1) dX8_build_13 kw_110 ?_
    refine a_aload_n dX8_build_16 rfl ?_
    refine c_getI (t := 7) (k := 20) dX8_build_17 kw_123 ?_
    rw [show (sga ρ 32 0 m1) 7 0 1 = nI b from hsz, show (sga ρ 32 0 m1) 7 0 20 = nI qs.length from hqd]
    refine a_icmp_ge (tgt := 30) dX8_build_20 (by decide) (fun c_20 => ?_) (fun c_20 => ?_)
    · refine a_aload_n dX8_build_30 rfl ?_
      refine c_getI (t := 7) (k := 20) dX8_build_31 kw_123 ?_
      have hv : (if σ 3 0 1 < nI b then σ 3 0 1 else nI b) = if qs.length < b then nI qs.length else nI b := by
        rw [hW.1.2.1.1]
        by_cases q : qs.length < b
        · rw [if_pos q, if_pos (nI_lt q (by omega))]
        · rw [if_neg q, if_neg (nI_nlt (by omega) (by omega))]
      try rw [show (sga ρ 32 0 m1) 7 0 20 = nI qs.length from hqd]
      refine c_iast (i := 0) dX8_build_34 nI_0.symm (by decide) ?_
      refine a_aload_n dX8_build_35 rfl ?_
      refine a_iconst (v := 1) dX8_build_36 (by decide) ?_
      refine c_putI (t := 7) (k := 22) dX8_build_37 kw_124 ?_
      first
        | (have hp : planned (nI b) σ = σ := if_neg (fun q => c_4 (h.1.2.2.2.1.1.trans q))
           rw [hp] at hQ hA hz hzj
           exact L_X8_b40 hQ hA h' (by rw [sga_same]) h23 hz hzj (fun ρ1 h1 => ⟨rfl, ρ1, rfl, by unfold buildB; rw [hp]; exact h1⟩))
        | (have c4 : σ 3 1 1 = 0 := h.1.2.2.2.1.1.symm.trans c_4
           have h0p : pn σ = 0 := nI_inj (b := 0) (hPn.1.symm.trans c4) (by have := hPn.2; omega) (by omega)
           have hp : planned (nI b) σ = rowIns σ 1 0 0 (if qs.length < b then nI qs.length else nI b) := by
             unfold planned
             rw [if_pos c4, h0p, hv]
           have hS := Sc_plan (v := if qs.length < b then nI qs.length else nI b) h'
           rw [← hp] at hS
           have hvv : (if qs.length < b then nI qs.length else nI b) = nI qs.length := by
             by_cases q : qs.length < b
             · first
                 | (rw [if_pos q]; done)
                 | exact absurd (nI_le (Nat.le_of_lt q) (by omega)) c_20
             · first
                 | (rw [if_neg q]; done)
                 | (rw [if_neg q, show b = qs.length by
                      rcases Nat.lt_or_ge b qs.length with q2 | q2
                      · exact absurd c_20 (nI_ge q2 (by omega))
                      · omega])
           rw [hvv] at hS
           exact L_X8_b40 hQ hA hS (by rfl) h23 hz hzj (fun ρ1 h1 => ⟨rfl, ρ1, rfl, h1⟩))
    · refine a_aload_n dX8_build_23 rfl ?_
      refine c_getI (t := 7) (k := 1) dX8_build_24 kw_110 ?_
      rw [show (sga ρ 32 0 m1) 7 0 1 = nI b from hsz]
      refine a_goto (tgt := 34) dX8_build_27 (by decide) ?_
      have hv : (if σ 3 0 1 < nI b then σ 3 0 1 else nI b) = if qs.length < b then nI qs.length else nI b := by
        rw [hW.1.2.1.1]
        by_cases q : qs.length < b
        · rw [if_pos q, if_pos (nI_lt q (by omega))]
        · rw [if_neg q, if_neg (nI_nlt (by omega) (by omega))]
      try rw [show (sga ρ 32 0 m1) 7 0 20 = nI qs.length from hqd]
      refine c_iast (i := 0) dX8_build_34 nI_0.symm (by decide) ?_
      refine a_aload_n dX8_build_35 rfl ?_
      refine a_iconst (v := 1) dX8_build_36 (by decide) ?_
      refine c_putI (t := 7) (k := 22) dX8_build_37 kw_124 ?_
      first
        | (have hp : planned (nI b) σ = σ := if_neg (fun q => c_4 (h.1.2.2.2.1.1.trans q))
           rw [hp] at hQ hA hz hzj
           exact L_X8_b40 hQ hA h' (by rw [sga_same]) h23 hz hzj (fun ρ1 h1 => ⟨rfl, ρ1, rfl, by unfold buildB; rw [hp]; exact h1⟩))
        | (have c4 : σ 3 1 1 = 0 := h.1.2.2.2.1.1.symm.trans c_4
           have h0p : pn σ = 0 := nI_inj (b := 0) (hPn.1.symm.trans c4) (by have := hPn.2; omega) (by omega)
           have hp : planned (nI b) σ = rowIns σ 1 0 0 (if qs.length < b then nI qs.length else nI b) := by
             unfold planned
             rw [if_pos c4, h0p, hv]
           have hS := Sc_plan (v := if qs.length < b then nI qs.length else nI b) h'
           rw [← hp] at hS
           have hvv : (if qs.length < b then nI qs.length else nI b) = nI b := by
             by_cases q : qs.length < b
             · first
                 | (rw [if_pos q]; done)
                 | exact absurd (nI_le (Nat.le_of_lt q) (by omega)) c_20
             · first
                 | (rw [if_neg q]; done)
                 | (rw [if_neg q, show b = qs.length by
                      rcases Nat.lt_or_ge b qs.length with q2 | q2
                      · exact absurd c_20 (nI_ge q2 (by omega))
                      · omega])
           rw [hvv] at hS
           exact L_X8_b40 hQ hA hS (by rfl) h23 hz hzj (fun ρ1 h1 => ⟨rfl, ρ1, rfl, h1⟩))
set_option maxRecDepth 10000 in
theorem L_X8_ba {l : Launch} {w : WW} {Φ : Option Value → XX → Prop} {M : Mem} {ρ0 : Sg} {b B k : Nat} (hb : ρ0 7 0 1 = nI b) (b1 : 1 ≤ b) (b8 : b ≤ 8) : ∀ (n : Nat) {i : Nat} {σ ρ : Sg} {qs ps : List Nat}, i + n ≤ 100 → Sm ρ0 σ ρ → Wk σ qs ps → Hx B k σ → (¬ σ 0 0 1 ≤ 0 ∨ 2 * qs.length ≤ n + ps.length) → (∀ ρ', Sm ρ0 (bld (nI b) n σ) ρ' → Φ none (zx w M 2 ρ')) → A l w yX8_buildAll cX8_buildAll 2 none (rmd 6) Φ 2 [some (.ref (ad w 2 7 0)), some (.int (nI i))] [] (zx w M 2 ρ) 0 0 := by
  intro n
  induction n with
  | zero =>
    intro i σ ρ qs ps hi h hW hx hd kk
    refine a_iload_n dX8_buildAll_2 rfl ?_
    refine a_sipush (v := 1000) dX8_buildAll_3 (by decide) ?_
    refine a_icmp_ge (tgt := 33) dX8_buildAll_6 (by decide) (fun c_6 => absurd c_6 (nI_ge (b := 1000) (by omega) (by omega))) (fun c_6 => ?_)
    refine a_aload_n dX8_buildAll_9 rfl ?_
    refine c_getI (t := 7) (k := 23) dX8_buildAll_10 kw_125 ?_
    rw [h.2.1.1]
    refine a_if_ne (tgt := 33) dX8_buildAll_13 (by decide) (fun c_13 => ?_) (fun c_13 => ?_)
    · exact c_vret dX8_buildAll_33 (kk _ h)
    · refine a_aload_n dX8_buildAll_16 rfl ?_
      refine c_getI (t := 7) (k := 20) dX8_buildAll_17 kw_123 ?_
      rw [h.1.2.2.1.1]
      refine a_if_le (tgt := 33) dX8_buildAll_20 (by decide) (fun c_20 => ?_) (fun c_20 => ?_)
      · exact c_vret dX8_buildAll_33 (kk _ h)
      · refine absurd ?_ c_20
        have hs := sum_len ps hW.1.2.2.2.2.2.1
        have hs2 := hW.1.2.2.2.2.2.2.2
        have hq0 : qs.length = 0 := by
          rcases hd with q | q
          · exact absurd (by rw [c_13]; decide) q
          · omega
        rw [hW.1.2.1.1, hq0]
        decide
  | succ n ih =>
    intro i σ ρ qs ps hi h hW hx hd kk
    refine a_iload_n dX8_buildAll_2 rfl ?_
    refine a_sipush (v := 1000) dX8_buildAll_3 (by decide) ?_
    refine a_icmp_ge (tgt := 33) dX8_buildAll_6 (by decide) (fun c_6 => absurd c_6 (nI_ge (b := 1000) (by omega) (by omega))) (fun c_6 => ?_)
    refine a_aload_n dX8_buildAll_9 rfl ?_
    refine c_getI (t := 7) (k := 23) dX8_buildAll_10 kw_125 ?_
    rw [h.2.1.1]
    refine a_if_ne (tgt := 33) dX8_buildAll_13 (by decide) (fun c_13 => ?_) (fun c_13 => ?_)
    · exact c_vret dX8_buildAll_33 (kk _ (by
            rw [bld_stop (fun q => by first | assumption | exact absurd (Wk_mb0 hW q).1 c_13)]
            exact h))
    · refine a_aload_n dX8_buildAll_16 rfl ?_
      refine c_getI (t := 7) (k := 20) dX8_buildAll_17 kw_123 ?_
      rw [h.1.2.2.1.1]
      refine a_if_le (tgt := 33) dX8_buildAll_20 (by decide) (fun c_20 => ?_) (fun c_20 => ?_)
      · exact c_vret dX8_buildAll_33 (kk _ (by
              rw [bld_stop (fun q => by first | assumption | exact absurd (Wk_mb0 hW q).1 c_13)]
              exact h))
      · refine a_aload_n dX8_buildAll_23 rfl ?_
        have h0 : σ 0 0 1 ≤ 0 := by rw [c_13]; decide
        have hq := qs_pos hW.1.2.1 c_20
        obtain ⟨qs2, ps2, hW2, hd2⟩ := build_Wk (bs := nI b) rfl b1 b8 hW h0 hq
        obtain ⟨hx2, -⟩ := Gk_build (bs := nI b) rfl b1 b8 hW hx h0 hq
        refine c_V0X dX8_buildAll_24 kw_513 kv_X8_build (s_X8_build hb b1 b8 h hW hx h0 hq) (fun ρ24 h_24 => ?_)
        refine a_iinc_1 (u := nI (i + 1)) dX8_buildAll_27 (inc_nI i) (by decide) ?_
        refine a_goto (tgt := 2) dX8_buildAll_30 (by decide) ?_
        rw [show bld (nI b) (n + 1) σ = bld (nI b) n (buildB (nI b) σ) by
          rw [bld]
          exact if_pos ⟨h0, c_20⟩] at kk
        refine ih (qs := qs2) (ps := ps2) (by omega) h_24 hW2 hx2 ?_ kk
        by_cases hz : (buildB (nI b) σ) 0 0 1 ≤ 0
        · have := hd2 hz
          rcases hd with q | q
          · exact absurd h0 q
          · exact Or.inr (by omega)
        · exact Or.inl hz
set_option maxRecDepth 10000 in
theorem s_X8_buildAll {l : Launch} {w : WW} {M : Mem} {ρ0 σ ρ : Sg} {b B k : Nat} (hb : ρ0 7 0 1 = nI b) (b1 : 1 ≤ b) (b8 : b ≤ 8) (h : Sm ρ0 σ ρ) (hG : Gk B k σ) : Can l w yX8_buildAll cX8_buildAll 2 none (rmd 6) [.ref (ad w 2 7 0)] (zx w M 2 ρ) (RX w M (fun ρ' => Sm ρ0 (bld (nI b) 40 σ) ρ')) := by
  refine Can.go (ls := [some (.ref (ad w 2 7 0)), none]) ?_
  refine a_iconst (v := 0) dX8_buildAll_0 (by decide) ?_
  refine a_istore_1 dX8_buildAll_1 (by decide) ?_
  obtain ⟨⟨qs, ps, hW⟩, hx, -⟩ := hG
  exact L_X8_ba hb b1 b8 40 (i := 0) (qs := qs) (ps := ps) (by omega) h hW hx (Or.inr (by have := hW.1.2.1.2.1; omega)) (fun ρ1 h1 => ⟨rfl, ρ1, rfl, h1⟩)
