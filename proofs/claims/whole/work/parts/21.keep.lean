/-! what holds of the class's state is kept when a batch fails or passes, when a job ends -/
def Gk (B k : Nat) (σ : Sg) : Prop := (∃ qs ps, Wk σ qs ps) ∧ Hx B k σ ∧ (mb σ ≠ 0 → JD σ)
theorem CA_of {σ σ' : Sg} (h : CA σ) (a : σ' 1 = σ 1) (b : σ' 5 0 4 = σ 5 0 4) : CA σ' := by
  unfold CA CI cn at *
  rw [a, b]
  exact h
theorem CA_become {σ : Sg} (h : CA σ) (c : Nat) {a b : Int32} (hab : a ≠ 3 → b = 0) : CA (become σ c a b) := by
  intro d hd
  obtain ⟨x1, x2, x3⟩ := h d hd
  by_cases e : d = c
  · subst e
    have e2 : (become σ d a b) 1 d 2 = a := by simp [become, sg, up1]
    have e3 : (become σ d a b) 1 d 3 = b := by simp [become, sg, up1]
    have e4 : (become σ d a b) 1 d 4 = σ 1 d 4 := by simp [become, sg, up1]
    have e5 : (become σ d a b) 1 d 5 = σ 1 d 5 := by simp [become, sg, up1]
    unfold CI
    rw [e2, e3, e4, e5]
    exact ⟨x1, x2, hab⟩
  · have e1 : (become σ c a b) 1 d = σ 1 d := by simp [become, sg, up1, e]
    unfold CI
    rw [e1]
    exact ⟨x1, x2, x3⟩
theorem CA_tfq {σ : Sg} (h : CA σ) (j : Nat) {a b : Int32} (hab : a ≠ 3 → b = 0) : CA (tfq σ j a b) := CA_of (CA_become h (tn (σ 13 0 j)) hab) rfl rfl
theorem CA_tkN : ∀ (n : Nat) (σ : Sg), CA σ → CA (tkN n σ)
  | 0, σ, h => h
  | n + 1, σ, h => CA_tkN n _ (CA_tfq h 0 (fun _ => rfl))
theorem CA_zero {σ : Sg} {qs : List Nat} (h : CA σ) (hq : QC σ qs) {c : Nat} (hc : c ∈ qs) : σ 1 c 3 = 0 := (h c (hq.2.2.1 c hc).1).2.2 (by rw [(hq.2.2.1 c hc).2]; decide)
theorem Tm_0 {σ σ' : Sg} {B k k' : Nat} (h : Tm B k σ) (hj : σ' 10 0 = fun _ => 0) (h5 : σ' 5 0 8 = σ 5 0 8) : Tm B k' σ' := by
  obtain ⟨t, a, b, -⟩ := h
  exact ⟨t, by rw [h5]; exact a, b, fun v j hv _ e => absurd e (by rw [hj]; exact zero_no hv)⟩
theorem UQ_0 {js : Nat → Int32} (hj : js = fun _ => 0) : UQ js := fun v i j hv _ _ e _ => absurd e (by rw [hj]; exact zero_no hv)
theorem failS_t {σ : Sg} {k t : Nat} {c : Int32} (h0 : t ≠ 0) (h1 : t ≠ 1) (h3 : t ≠ 3) (h10 : t ≠ 10) (h13 : t ≠ 13) : (failS σ k c) t = σ t := by
  unfold failS
  split
  · rw [rowRmv_t h3 h13, tfq_t h1 h3 h13, endB_t h0 h10]
  · rw [rowIns_t h3 h13, sg_t h13, endB_t h0 h10]
theorem Hx_fail {σ : Sg} {B k k' m : Nat} {c : Int32} (h : Hx B k σ) : Hx B k' (failS σ m c) := by
  obtain ⟨a, b, -, -⟩ := h
  refine ⟨?_, Tm_0 b (failS_10 ..) (by rw [failS_t (by decide) (by decide) (by decide) (by decide) (by decide)]), UQ_0 (failS_10 ..), fun hm => absurd (mb_z (failS_0 ..)) hm⟩
  have a1 : CA (endB σ) := CA_of a (endB_t (by decide) (by decide)) (by rw [endB_t (by decide) (by decide)])
  unfold failS
  split
  · exact CA_of (CA_tfq a1 0 (fun e => absurd rfl e)) (rowRmv_t (by decide) (by decide)) (by rw [rowRmv_t (by decide) (by decide)])
  · exact CA_of a1 (by rw [rowIns_t (by decide) (by decide), sg_t (by decide)]) (by rw [rowIns_t (by decide) (by decide), sg_t (by decide)])
theorem passS_5 (σ : Sg) : (passS σ) 5 0 8 = σ 5 0 8 := by
  unfold passS
  rw [endB_t (by decide) (by decide), rowRmv_t (by decide) (by decide), tkN_t (by decide) (by decide) (by decide)]
  rfl
theorem Hx_pass {σ : Sg} {B k k' : Nat} (h : Hx B k σ) : Hx B k' (passS σ) := by
  obtain ⟨a, b, -, -⟩ := h
  refine ⟨?_, Tm_0 b (by unfold passS; rw [endB_10]) (passS_5 σ), UQ_0 (by unfold passS; rw [endB_10]), fun hm => absurd (mb_z (passS_0 σ)) hm⟩
  have a1 : CA (trkS σ) := CA_of a rfl rfl
  unfold passS
  exact CA_of (CA_tkN (mb σ) _ a1) (by rw [endB_t (by decide) (by decide), rowRmv_t (by decide) (by decide)]) (by rw [endB_t (by decide) (by decide), rowRmv_t (by decide) (by decide)])
theorem Gk_judge {σ : Sg} {B k : Nat} (hW : ∃ qs ps, Wk σ qs ps) (h : Hx B k σ) (hm : mb σ ≠ 0) : Gk B k (judgeS σ) := by
  obtain ⟨qs, ps, hW⟩ := hW
  refine ⟨judge_Wk hW hm, ?_, ?_⟩
  · unfold judgeS
    split
    · split
      · exact Hx_pass h
      · exact h
    · exact Hx_fail h
  · unfold judgeS
    split
    · rename_i h1
      split
      · exact fun q => absurd (mb_z (passS_0 σ)) q
      · rename_i h2
        exact fun _ => ⟨h1, by simpa using h2⟩
    · exact fun q => absurd (mb_z (failS_0 ..)) q
/-- a job's state that is no lease -/
def NL (x : Int32) : Prop := x = 1 ∨ x = 2 ∨ x = 3
theorem NL_no {x : Int32} (h : NL x) {v : Nat} (hv : v < 4) : x ≠ 10 + nI v := by
  rcases h with rfl | rfl | rfl
  · exact (by decide : ∀ v, v < 4 → (1 : Int32) ≠ 10 + nI v) v hv
  · exact (by decide : ∀ v, v < 4 → (2 : Int32) ≠ 10 + nI v) v hv
  · exact (by decide : ∀ v, v < 4 → (3 : Int32) ≠ 10 + nI v) v hv
/-- some jobs ended or wait again, all else is as it was -/
def JS (σ τ : Sg) : Prop := (∀ t, t ≠ 10 → τ t = σ t) ∧ ∀ i, i < 4 → τ 10 0 i = σ 10 0 i ∨ (NL (τ 10 0 i) ∧ tb (σ 9 0 0) (nI i) = true)
theorem JS_le {σ τ : Sg} (h : JS σ τ) {v i : Nat} (hv : v < 4) (hi : i < 4) (e : τ 10 0 i = 10 + nI v) : σ 10 0 i = 10 + nI v := by
  rcases h.2 i hi with q | ⟨q, -⟩
  · rw [← q]; exact e
  · exact absurd e (NL_no q hv)
theorem JS_mb {σ τ : Sg} (h : JS σ τ) : mb τ = mb σ := by unfold mb; rw [h.1 0 (by decide)]
theorem JS_Wk {σ τ : Sg} {qs ps : List Nat} (h : JS σ τ) (hW : Wk σ qs ps) (hm : mb σ ≠ 0) : Wk τ qs ps := Wk_j hW hm (fun t h10 _ _ => h.1 t h10)
theorem JS_Hx {σ τ : Sg} {B k : Nat} (h : JS σ τ) (hx : Hx B k σ) : Hx B k τ := by
  obtain ⟨a, ⟨t, b1, b2, b3⟩, c, d⟩ := hx
  refine ⟨CA_of a (h.1 1 (by decide)) (by rw [h.1 5 (by decide)]), ⟨t, by rw [h.1 5 (by decide)]; exact b1, b2, fun v j hv hj e => ?_⟩, fun v i j hv hi hj e1 e2 => c v i j hv hi hj (JS_le h hv hi e1) (JS_le h hv hj e2), fun hm => ?_⟩
  · rw [h.1 12 (by decide)]
    exact b3 v j hv hj (JS_le h hv hj e)
  · have hm' : mb σ ≠ 0 := by rw [← JS_mb h]; exact hm
    obtain ⟨d1, d2⟩ := d hm'
    refine ⟨?_, fun j hj ht => ?_⟩
    · unfold TR
      rw [JS_mb h, h.1 8 (by decide), h.1 9 (by decide)]
      refine Mg_congr _ _ _ _ (fun _ _ => rfl) (fun i _ _ => ?_) d1
      rw [h.1 13 (by decide), h.1 14 (by decide), h.1 15 (by decide)]
      exact ⟨rfl, fun _ _ => ⟨rfl, rfl⟩⟩
    · rw [h.1 9 (by decide)] at ht
      rcases h.2 j hj with q | ⟨-, q⟩
      · rw [q]; exact d2 j hj ht
      · rw [ht] at q; cases q
theorem JS_sg {σ : Sg} {j : Nat} {x : Int32} (hx : NL x) (ht : tb (σ 9 0 0) (nI j) = true) : JS σ (sg σ 10 0 j x) := by
  refine ⟨fun t h => sg_t h, fun i hi => ?_⟩
  by_cases e : i = j
  · subst e
    exact Or.inr ⟨by rw [sg_same]; exact hx, ht⟩
  · exact Or.inl (sg_k e)
theorem failJ_at {σ : Sg} {j k : Nat} (hj : j < 4) (hk : k < 4) : (failJ σ (nI j)) 10 0 k = if clo (σ 9 0 0) (4 * k + j) = true ∨ k = j then 3 else σ 10 0 k := by
  unfold failJ
  rw [sga_same]
  unfold failF
  rw [failing_clo hk hj]
  simp
theorem JS_fail {σ : Sg} {j : Nat} (hj : j < 4) (ht : tb (σ 9 0 0) (nI j) = true) : JS σ (failJ σ (nI j)) := by
  refine ⟨fun t h => sga_t h, fun i hi => ?_⟩
  rw [failJ_at hj hi]
  by_cases e : clo (σ 9 0 0) (4 * i + j) = true ∨ i = j
  · rw [if_pos e]
    refine Or.inr ⟨Or.inr (Or.inr rfl), ?_⟩
    rcases e with e | rfl
    · exact clo_there hi hj e
    · exact ht
  · rw [if_neg e]
    exact Or.inl rfl
theorem job_there {σ : Sg} {j : Nat} (hT : JT σ) (hj : j < 4) (h0 : σ 10 0 j ≠ 0) : tb (σ 9 0 0) (nI j) = true := by
  cases h : tb (σ 9 0 0) (nI j) with
  | true => rfl
  | false => exact absurd (hT j hj h) h0
theorem lease_n0 {v : Nat} (hv : v < 4) : (10 : Int32) + nI v ≠ 0 := fun h => zero_no hv h.symm
theorem JS_expire {σ : Sg} {j v : Nat} {most : Int32} (hT : JT σ) (hj : j < 4) (hv : v < 4) (hl : σ 10 0 j = 10 + nI v) : JS σ (expireB σ j most) := by
  have ht := job_there hT hj (by rw [hl]; exact lease_n0 hv)
  unfold expireB
  split
  · exact JS_sg (Or.inl rfl) ht
  · exact JS_fail hj ht
theorem ex_no {σ : Sg} {j v : Nat} {most : Int32} (hu : UQ (σ 10 0)) (hT : JT σ) (hj : j < 4) (hv : v < 4) (hl : σ 10 0 j = 10 + nI v) : ∀ i, i < 4 → (expireB σ j most) 10 0 i ≠ 10 + nI v := by
  intro i hi e
  have h1 := JS_le (JS_expire (most := most) hT hj hv hl) hv hi e
  have h2 := hu v i j hv hi hj h1 hl
  subst h2
  unfold expireB at e
  split at e
  · rw [sg_same] at e
    exact NL_no (Or.inl rfl) hv e
  · rw [failJ_at hj hj, if_pos (Or.inr rfl)] at e
    exact NL_no (Or.inr (Or.inr rfl)) hv e
theorem judge_10 (σ : Sg) : (judgeS σ) 10 0 = σ 10 0 ∨ (judgeS σ) 10 0 = fun _ => 0 := by
  unfold judgeS
  split
  · split
    · exact Or.inr (by unfold passS; rw [endB_10])
    · exact Or.inl rfl
  · exact Or.inr (failS_10 ..)
/-- a lease that expires -/
theorem Gk_ex {σ : Sg} {B k j v : Nat} {most : Int32} (h : Gk B k σ) (hm : mb σ ≠ 0) (hj : j < 4) (hv : v < 4) (hl : σ 10 0 j = 10 + nI v) : Gk B k (judgeS (expireB σ j most)) := by
  obtain ⟨⟨qs, ps, hW⟩, hx, -⟩ := h
  have hJ := JS_expire (most := most) (hx.2.2.2 hm).2 hj hv hl
  exact Gk_judge ⟨qs, ps, JS_Wk hJ hW hm⟩ (JS_Hx hJ hx) (by rw [JS_mb hJ]; exact hm)
theorem Tm_up {σ : Sg} {B k : Nat} (h : Tm B k σ) (hn : ∀ j, j < 4 → σ 10 0 j = 10 + nI k → ¬ σ 12 0 k = σ 5 0 8) (hB : B < 2 ^ 20) : Tm B (k + 1) σ := by
  obtain ⟨t, a, b, c⟩ := h
  refine ⟨t, a, b, fun v j hv hj e => ?_⟩
  obtain ⟨u, c1, c2, c3, c4⟩ := c v j hv hj e
  refine ⟨u, c1, c2, c3, fun h => ?_⟩
  by_cases q : v = k
  · subst q
    have : ¬ u = t := fun q => hn j hj e (by rw [c1, a, q])
    omega
  · exact c4 (by omega)
theorem Gk_up {σ : Sg} {B k : Nat} (h : Gk B k σ) (hn : ∀ j, j < 4 → σ 10 0 j = 10 + nI k → ¬ σ 12 0 k = σ 5 0 8) (hB : B < 2 ^ 20) : Gk B (k + 1) σ := ⟨h.1, ⟨h.2.1.1, Tm_up h.2.1.2.1 hn hB, h.2.1.2.2⟩, h.2.2⟩
theorem Tm_dn {σ : Sg} {B k k' : Nat} (h : Tm B k σ) (hk : k' ≤ k) : Tm B k' σ := by
  obtain ⟨t, a, b, c⟩ := h
  refine ⟨t, a, b, fun v j hv hj e => ?_⟩
  obtain ⟨u, c1, c2, c3, c4⟩ := c v j hv hj e
  exact ⟨u, c1, c2, c3, fun h => c4 (by omega)⟩
theorem Gk_dn {σ : Sg} {B k k' : Nat} (h : Gk B k σ) (hk : k' ≤ k) : Gk B k' σ := ⟨h.1, ⟨h.2.1.1, Tm_dn h.2.1.2.1 hk, h.2.1.2.2⟩, h.2.2⟩
/-- where a job only waits again there is nothing to judge -/
theorem judge_wait {σ : Sg} {j v : Nat} (h : JD σ) (hj : j < 4) (hv : v < 4) (hl : σ 10 0 j = 10 + nI v) : judgeS (sg σ 10 0 j 1) = sg σ 10 0 j 1 := by
  have e9 : (sg σ 10 0 j 1) 9 = σ 9 := sg_t (by decide)
  have f1 : ∀ i, i < 4 → ffC (σ 9 0 0) (σ 10 0) i = false := by
    intro i hi
    have : ∀ n k, k ≤ i → i < k + n → fhit (ffC (σ 9 0 0) (σ 10 0)) n k = -1 → k + n ≤ 4 → ffC (σ 9 0 0) (σ 10 0) i = false := by
      intro n
      induction n with
      | zero => intro k h1 h2; omega
      | succ n ih =>
        intro k h1 h2 h3 h4
        unfold fhit at h3
        split at h3
        · exact absurd h3 (nI_m1 (by omega))
        · rename_i hn
          by_cases e : i = k
          · subst e; simpa using hn
          · exact ih (k + 1) (by omega) (by omega) h3 (by omega)
    exact this 4 0 (Nat.zero_le _) (by omega) h.1 (by omega)
  have g1 : firstF (sg σ 10 0 j 1) = -1 := by
    unfold firstF
    rw [e9]
    rcases @fhit_in (ffC (σ 9 0 0) ((sg σ 10 0 j 1) 10 0)) 4 0 with q | ⟨i, -, h2, -, h4⟩
    · exact q
    · refine absurd h4 ?_
      have hi : i < 4 := by omega
      by_cases e : i = j
      · subst e
        unfold ffC
        rw [sg_same]
        simp
      · have := f1 i hi
        unfold ffC at this ⊢
        rw [sg_k e, this]
        decide
  have g2 : passedR (sg σ 10 0 j 1) = false := by
    have h2 := h.2
    unfold passedR at h2 ⊢
    rw [e9]
    rw [Bool.not_eq_false'] at h2 ⊢
    rw [any4] at h2 ⊢
    obtain ⟨i, hi, h2⟩ := h2
    refine ⟨i, hi, ?_⟩
    by_cases e : i = j
    · subst e
      unfold hpC at h2 ⊢
      rw [sg_same]
      rw [Bool.and_eq_true] at h2
      rw [h2.2]
      decide
    · unfold hpC at h2 ⊢
      rw [sg_k e]
      exact h2
  unfold judgeS
  rw [if_pos g1, if_neg (by rw [g2]; decide)]
/-! what the reference's loops find, as the class has it -/
def jF (p : Int32) (js : Nat → Int32) : Nat → Int32 → Int32
  | 0, f => f
  | n + 1, f => jF p js n (if ffC p js n = true then nI n else f)
def jA (p : Int32) (js : Nat → Int32) : Nat → Bool → Bool
  | 0, a => a
  | n + 1, a => jA p js n (a && !hpC p js n)
theorem jF_is (σ : Sg) : jF (σ 9 0 0) (σ 10 0) 4 (-1) = firstF σ := by
  unfold firstF
  simp only [jF, fhit]
theorem jA_is (σ : Sg) : jA (σ 9 0 0) (σ 10 0) 4 true = passedR σ := by
  unfold passedR
  simp only [jA, anyU]
  generalize hpC (σ 9 0 0) (σ 10 0) 0 = a
  generalize hpC (σ 9 0 0) (σ 10 0) (0 + 1) = b
  generalize hpC (σ 9 0 0) (σ 10 0) (0 + 1 + 1) = c
  generalize hpC (σ 9 0 0) (σ 10 0) (0 + 1 + 1 + 1) = d
  revert a b c d
  decide
def stJ (p : Int32) (j : Nat) : Nat → Nat → (Nat → Int32) → (Nat → Int32)
  | 0, _, J => J
  | n + 1, k, J => stJ p j n (k + 1) (if clo p (4 * k + j) = true then up1 J k 3 else J)
def stH (p : Int32) (j : Nat) : Nat → Nat → (Nat → Int32) → (Nat → Int32)
  | 0, _, H => H
  | n + 1, k, H => stH p j n (k + 1) (if clo p (4 * k + j) = true then elO H (nI k) else H)
theorem stJ_at {p : Int32} {j : Nat} : ∀ (n k : Nat) (J : Nat → Int32) (i : Nat), stJ p j n k J i = if k ≤ i ∧ i < k + n ∧ clo p (4 * i + j) = true then 3 else J i
  | 0, k, J, i => by rw [stJ, if_neg (by omega)]
  | n + 1, k, J, i => by
    rw [stJ, stJ_at n (k + 1)]
    by_cases e : i = k
    · subst e
      rw [if_neg (by omega)]
      by_cases hc : clo p (4 * i + j) = true
      · rw [if_pos hc, up1_same, if_pos ⟨Nat.le_refl i, by omega, hc⟩]
      · rw [if_neg hc, if_neg (fun q => hc q.2.2)]
    · have e2 : (if clo p (4 * k + j) = true then up1 J k 3 else J) i = J i := by
        split
        · exact up1_ne e
        · rfl
      rw [e2]
      by_cases hc : k ≤ i ∧ i < k + (n + 1) ∧ clo p (4 * i + j) = true
      · rw [if_pos hc, if_pos ⟨by omega, by omega, hc.2.2⟩]
      · rw [if_neg hc, if_neg (fun q => hc ⟨by omega, by omega, q.2.2⟩)]
theorem stH_at {p : Int32} {j : Nat} : ∀ (n k : Nat) (H : Nat → Int32) (v : Nat), k + n ≤ 4 → ((∃ i, k ≤ i ∧ i < k + n ∧ clo p (4 * i + j) = true ∧ H v = nI i) → stH p j n k H v = -1) ∧ ((¬ ∃ i, k ≤ i ∧ i < k + n ∧ clo p (4 * i + j) = true ∧ H v = nI i) → stH p j n k H v = H v)
  | 0, k, H, v, hk => ⟨fun ⟨i, h1, h2, _⟩ => by omega, fun _ => rfl⟩
  | n + 1, k, H, v, hk => by
    rw [stH]
    obtain ⟨a1, a2⟩ := stH_at (p := p) (j := j) n (k + 1) (if clo p (4 * k + j) = true then elO H (nI k) else H) v (by omega)
    by_cases hc : clo p (4 * k + j) = true
    · rw [if_pos hc] at a1 a2 ⊢
      by_cases hv : H v = nI k
      · have e : elO H (nI k) v = -1 := if_pos hv
        have : stH p j n (k + 1) (elO H (nI k)) v = -1 := by
          by_cases q : ∃ i, k + 1 ≤ i ∧ i < k + 1 + n ∧ clo p (4 * i + j) = true ∧ elO H (nI k) v = nI i
          · exact a1 q
          · rw [a2 q, e]
        exact ⟨fun _ => this, fun q => absurd ⟨k, Nat.le_refl k, by omega, hc, hv⟩ q⟩
      · have e : elO H (nI k) v = H v := if_neg hv
        rw [e] at a1 a2
        refine ⟨fun ⟨i, h1, h2, h3, h4⟩ => a1 ⟨i, ?_, by omega, h3, h4⟩, fun q => a2 (fun ⟨i, h1, h2, h3, h4⟩ => q ⟨i, by omega, by omega, h3, h4⟩)⟩
        rcases Nat.lt_or_ge k i with q | q
        · exact q
        · exact absurd (by rw [h4, show i = k by omega]) hv
    · rw [if_neg hc] at a1 a2 ⊢
      refine ⟨fun ⟨i, h1, h2, h3, h4⟩ => a1 ⟨i, ?_, by omega, h3, h4⟩, fun q => a2 (fun ⟨i, h1, h2, h3, h4⟩ => q ⟨i, by omega, by omega, h3, h4⟩)⟩
      rcases Nat.lt_or_ge k i with q | q
      · exact q
      · exact absurd (by rw [show k = i by omega]; exact h3) hc
/-- the leases but worker u's, whose lease the reference has taken away already -/
def S6x (u : Nat) (σ ρ : Sg) : Prop := ρ 32 0 u = -1 ∧ ∀ v, v < 4 → v ≠ u → LJ (σ 10 0) v (ρ 32 0 v) ∧ (ρ 32 0 v ≠ -1 → ρ 33 0 v = σ 12 0 v)
theorem S6x_of {σ ρ : Sg} (u : Nat) (h : S6 σ ρ) : S6x u σ (sg ρ 32 0 u (-1)) := by
  refine ⟨sg_same .., fun v hv hne => ?_⟩
  rw [sg_k hne]
  exact h v hv
theorem S6_sg {σ ρ : Sg} {u j : Nat} {x : Int32} (h : S6x u σ ρ) (hu : UQ (σ 10 0)) (hu4 : u < 4) (hj : j < 4) (hl : σ 10 0 j = 10 + nI u) (hx : NL x) : S6 (sg σ 10 0 j x) (sg ρ 30 0 j x) := by
  intro v hv
  have e32 : (sg ρ 30 0 j x) 32 0 = ρ 32 0 := rfl
  have e33 : (sg ρ 30 0 j x) 33 0 = ρ 33 0 := rfl
  have e12 : (sg σ 10 0 j x) 12 0 = σ 12 0 := rfl
  rw [e32, e33, e12]
  by_cases e : v = u
  · subst e
    refine ⟨Or.inl ⟨h.1, fun i hi q => ?_⟩, fun q => absurd h.1 q⟩
    by_cases ei : i = j
    · subst ei
      rw [sg_same] at q
      exact NL_no hx hv q
    · rw [sg_k ei] at q
      exact ei (hu v i j hv hi hj q hl)
  · obtain ⟨a, b⟩ := h.2 v hv e
    refine ⟨?_, b⟩
    have hjv : σ 10 0 j ≠ 10 + nI v := by
      rw [hl]
      exact fun q => e ((by decide : ∀ v, v < 4 → ∀ u, u < 4 → (10 : Int32) + nI u = 10 + nI v → v = u) v hv u hu4 q)
    rcases a with ⟨a1, a2⟩ | ⟨i, hi, a1, a2⟩
    · refine Or.inl ⟨a1, fun i hi q => ?_⟩
      by_cases ei : i = j
      · subst ei
        rw [sg_same] at q
        exact NL_no hx hv q
      · rw [sg_k ei] at q
        exact a2 i hi q
    · refine Or.inr ⟨i, hi, a1, ?_⟩
      rw [sg_k (fun q => hjv (by rw [← q]; exact a2))]
      exact a2
theorem S6_fail {σ ρ ρ' : Sg} {u j : Nat} (h : S6x u σ ρ) (hu : UQ (σ 10 0)) (hu4 : u < 4) (hj : j < 4) (hl : σ 10 0 j = 10 + nI u) (h32 : ρ' 32 0 = stH (σ 9 0 0) j 4 0 (ρ 32 0)) (h33 : ρ' 33 0 = ρ 33 0) : S6 (failJ σ (nI j)) ρ' := by
  intro v hv
  have e12 : (failJ σ (nI j)) 12 0 = σ 12 0 := rfl
  rw [h32, h33, e12]
  obtain ⟨a1, a2⟩ := stH_at (p := σ 9 0 0) (j := j) 4 0 (ρ 32 0) v (by decide)
  by_cases e : v = u
  · subst e
    have e1 : stH (σ 9 0 0) j 4 0 (ρ 32 0) v = -1 := by
      by_cases q : ∃ i, 0 ≤ i ∧ i < 0 + 4 ∧ clo (σ 9 0 0) (4 * i + j) = true ∧ ρ 32 0 v = nI i
      · exact a1 q
      · rw [a2 q]; exact h.1
    rw [e1]
    refine ⟨Or.inl ⟨rfl, fun i hi q => ?_⟩, fun q => absurd rfl q⟩
    rw [failJ_at hj hi] at q
    split at q
    · exact NL_no (Or.inr (Or.inr rfl)) hv q
    · rename_i hn
      exact hn (Or.inr (hu v i j hv hi hj q hl))
  · obtain ⟨a, b⟩ := h.2 v hv e
    have hjv : σ 10 0 j ≠ 10 + nI v := by
      rw [hl]
      exact fun q => e ((by decide : ∀ v, v < 4 → ∀ u, u < 4 → (10 : Int32) + nI u = 10 + nI v → v = u) v hv u hu4 q)
    rcases a with ⟨b1, b2⟩ | ⟨i, hi, b1, b2⟩
    · have e1 : stH (σ 9 0 0) j 4 0 (ρ 32 0) v = -1 := by
        by_cases q : ∃ i, 0 ≤ i ∧ i < 0 + 4 ∧ clo (σ 9 0 0) (4 * i + j) = true ∧ ρ 32 0 v = nI i
        · exact a1 q
        · rw [a2 q]; exact b1
      rw [e1]
      refine ⟨Or.inl ⟨rfl, fun i hi q => ?_⟩, fun q => absurd rfl q⟩
      rw [failJ_at hj hi] at q
      split at q
      · exact NL_no (Or.inr (Or.inr rfl)) hv q
      · exact b2 i hi q
    · by_cases hc : clo (σ 9 0 0) (4 * i + j) = true
      · rw [a1 ⟨i, Nat.zero_le _, by omega, hc, b1⟩]
        refine ⟨Or.inl ⟨rfl, fun i' hi' q => ?_⟩, fun q => absurd rfl q⟩
        rw [failJ_at hj hi'] at q
        split at q
        · exact NL_no (Or.inr (Or.inr rfl)) hv q
        · rename_i hn
          have := hu v i' i hv hi' hi q b2
          subst this
          exact hn (Or.inl hc)
      · rw [a2 (fun ⟨i', _, h2, h3, h4⟩ => hc (by rw [show i = i' from nI_inj (b1.symm.trans h4) (by omega) (by omega)]; exact h3))]
        refine ⟨Or.inr ⟨i, hi, b1, ?_⟩, b⟩
        rw [failJ_at hj hi, if_neg]
        · exact b2
        · rintro (q | q)
          · exact hc q
          · exact hjv (by rw [← q]; exact b2)
theorem st_eq (ρ : Sg) (J H : Nat → Int32) (k : Nat) (x : Int32) (Z : Nat → Int32) : sga (sg (sga (sga ρ 30 0 J) 32 0 H) 30 0 k x) 32 0 Z = sga (sga ρ 30 0 (up1 J k x)) 32 0 Z := by
  rw [sg_is, show (sga (sga ρ 30 0 J) 32 0 H) 30 0 = J by rw [sga_t (by decide), sga_same], sga_comm (t := 32) (t' := 30) (by decide), sga_sga, sga_sga]
