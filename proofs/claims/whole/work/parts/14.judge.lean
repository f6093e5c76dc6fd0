def Qok (σ : Sg) : Prop := Cn σ ∧ Qn σ ∧ ∀ i, i < qn σ → ∃ c, c < cn σ ∧ σ 13 0 i = nI c
def tfq (σ : Sg) (j : Nat) (a b : Int32) : Sg := rowRmv (become σ (tn (σ 13 0 j)) a b) 0 j (qn σ)
def tkN : Nat → Sg → Sg
  | 0, σ => σ
  | n + 1, σ => tkN n (tfq σ 0 2 0)
def trkS (σ : Sg) : Sg := sg (sga σ 8 0 (σ 9 0)) 5 0 2 (σ 5 0 2 + 1)
def passS (σ : Sg) : Sg := endB (rowRmv (tkN (mb σ) (trkS σ)) 1 0 (pn σ))
def failS (σ : Sg) (k : Nat) (cause : Int32) : Sg := if k = 1 then rowRmv (tfq (endB σ) 0 3 cause) 1 0 (pn σ) else rowIns (sg (endB σ) 13 1 0 (nI (k / 2))) 1 0 (pn σ) (nI ((k + 1) / 2))
def judgeS (σ : Sg) : Sg := if firstF σ = -1 then (if passedR σ = true then passS σ else σ) else failS σ (mb σ) (10 + firstF σ)
def endJ (σ : Sg) (j : Nat) (outcome : Int32) : Sg := judgeS (if outcome = 2 then sg σ 10 0 j 2 else failJ σ (nI j))
theorem tn_nI {n : Nat} (h : n < 2 ^ 31) : tn (nI n) = n := nI_clamp h
theorem rmv_at {f : Nat → Int32} {j n i : Nat} (h : i < n - 1) : rmv f j n i = f (if i < j then i else i + 1) := by
  unfold rmv
  by_cases h1 : i < j
  · rw [if_neg (by omega), if_pos h1]
  · rw [if_pos (by omega), if_neg h1]
theorem tfq_13 (σ : Sg) (j : Nat) (a b : Int32) : (tfq σ j a b) 13 0 = rmv (σ 13 0) j (qn σ) := by
  simp [tfq, rowRmv, become, sg, sga, up1]
theorem tfq_p (σ : Sg) (j : Nat) (a b : Int32) : (tfq σ j a b) 13 1 = σ 13 1 ∧ (tfq σ j a b) 3 1 = σ 3 1 := by
  constructor <;> simp [tfq, rowRmv, become, sg, sga, up1]
theorem tfq_t {σ : Sg} {j : Nat} {a b : Int32} {t : Nat} (h1 : t ≠ 1) (h3 : t ≠ 3) (h13 : t ≠ 13) : (tfq σ j a b) t = σ t := by
  unfold tfq rowRmv become
  rw [sg_t h3, sga_t h13, sg_t h1, sg_t h1]
theorem tfq_q (σ : Sg) (j : Nat) (a b : Int32) : (tfq σ j a b) 3 0 1 = nI (qn σ - 1) := by
  simp [tfq, rowRmv, sg, up1]
theorem tfq_qn {σ : Sg} {j : Nat} {a b : Int32} (h : Qn σ) : qn (tfq σ j a b) = qn σ - 1 := by
  show ((tfq σ j a b) 3 0 1).toNatClampNeg = _
  rw [tfq_q]
  exact nI_clamp (by have := h.2; omega)
theorem tfq_cn (σ : Sg) (j : Nat) (a b : Int32) : cn (tfq σ j a b) = cn σ := by
  show ((tfq σ j a b) 5 0 4).toNatClampNeg = _
  rw [tfq_t (by decide) (by decide) (by decide)]
  rfl
theorem tfq_ok {σ : Sg} {j : Nat} {a b : Int32} (h : Qok σ) : Qok (tfq σ j a b) := by
  obtain ⟨h1, h2, h3⟩ := h
  refine ⟨⟨?_, by rw [tfq_cn]; exact h1.2⟩, ⟨by rw [tfq_qn h2]; exact tfq_q σ j a b, by rw [tfq_qn h2]; have := h2.2; omega⟩, fun i hi => ?_⟩
  · rw [tfq_cn, tfq_t (by decide) (by decide) (by decide)]
    exact h1.1
  · rw [tfq_qn h2] at hi
    rw [tfq_cn, tfq_13, rmv_at hi]
    by_cases h9 : i < j
    · rw [if_pos h9]; exact h3 i (by omega)
    · rw [if_neg h9]; exact h3 (i + 1) (by omega)
theorem Qok_of {σ τ : Sg} (h : Qok σ) (h5 : τ 5 0 4 = σ 5 0 4) (h3 : τ 3 0 1 = σ 3 0 1) (h13 : τ 13 0 = σ 13 0) : Qok τ := by
  unfold Qok Cn Qn cn qn at *
  rw [h5, h3, h13]
  exact h
theorem tkN_t {t : Nat} (h1 : t ≠ 1) (h3 : t ≠ 3) (h13 : t ≠ 13) : ∀ (n : Nat) (σ : Sg), (tkN n σ) t = σ t
  | 0, _ => rfl
  | n + 1, σ => (tkN_t h1 h3 h13 n _).trans (tfq_t h1 h3 h13)
theorem tkN_p : ∀ (n : Nat) (σ : Sg), (tkN n σ) 13 1 = σ 13 1 ∧ (tkN n σ) 3 1 = σ 3 1
  | 0, _ => ⟨rfl, rfl⟩
  | n + 1, σ => ⟨(tkN_p n _).1.trans (tfq_p σ 0 2 0).1, (tkN_p n _).2.trans (tfq_p σ 0 2 0).2⟩
/-- a batch is under test, and what is said of it fits the queue and the plan -/
def Jok (σ : Sg) : Prop := Qok σ ∧ Pn σ ∧ 0 < pn σ ∧ σ 0 0 1 = nI (mb σ) ∧ 1 ≤ mb σ ∧ mb σ ≤ 8 ∧ mb σ ≤ qn σ ∧ (mb σ ≠ 1 → pn σ < 8)
def Lok (σ : Sg) : Prop := (∀ j, j < 4 → σ 10 0 j = 0) ∨ Jok σ
theorem Jok_of {σ τ : Sg} (h : Jok σ) (h5 : τ 5 0 4 = σ 5 0 4) (h3 : τ 3 = σ 3) (h13 : τ 13 = σ 13) (h0 : τ 0 0 1 = σ 0 0 1) : Jok τ := by
  unfold Jok Qok Cn Qn Pn cn qn pn mb at *
  rw [h5, h3, h13, h0]
  exact h
theorem jk_sg {σ : Sg} {j : Nat} {v : Int32} (h : Jok σ) : Jok (sg σ 10 0 j v) := Jok_of h (by rw [sg_t (by decide)]) (by rw [sg_t (by decide)]) (by rw [sg_t (by decide)]) (by rw [sg_t (by decide)])
theorem jk_fj {σ : Sg} {j : Int32} (h : Jok σ) : Jok (failJ σ j) := Jok_of h (by unfold failJ; rw [sga_t (by decide)]) (by unfold failJ; rw [sga_t (by decide)]) (by unfold failJ; rw [sga_t (by decide)]) (by unfold failJ; rw [sga_t (by decide)])
theorem jk_ex {σ : Sg} {j : Nat} {m : Int32} (h : Jok σ) : Jok (expireB σ j m) := by
  unfold expireB
  split
  · exact jk_sg h
  · exact jk_fj h
theorem endB_10 (σ : Sg) : (endB σ) 10 0 = fun _ => 0 := by unfold endB; rw [sga_same]
theorem endB_t {σ : Sg} {t : Nat} (h0 : t ≠ 0) (h10 : t ≠ 10) : (endB σ) t = σ t := by unfold endB; rw [sga_t h10, sg_t h0]
theorem rowRmv_t {σ : Sg} {c j n t : Nat} (h3 : t ≠ 3) (h13 : t ≠ 13) : (rowRmv σ c j n) t = σ t := by unfold rowRmv; rw [sg_t h3, sga_t h13]
theorem rowIns_t {σ : Sg} {c j n t : Nat} {v : Int32} (h3 : t ≠ 3) (h13 : t ≠ 13) : (rowIns σ c j n v) t = σ t := by unfold rowIns; rw [sg_t h3, sga_t h13]
theorem failS_10 (σ : Sg) (k : Nat) (cause : Int32) : (failS σ k cause) 10 0 = fun _ => 0 := by
  unfold failS
  split
  · rw [rowRmv_t (by decide) (by decide), tfq_t (by decide) (by decide) (by decide), endB_10]
  · rw [rowIns_t (by decide) (by decide), sg_t (by decide), endB_10]
theorem judge_L {σ : Sg} (h : Jok σ) : Lok (judgeS σ) := by
  unfold judgeS
  split
  · split
    · exact Or.inl fun j _ => by unfold passS; rw [endB_10]
    · exact Or.inr h
  · exact Or.inl fun j _ => by rw [failS_10]
theorem half_nI {k : Nat} (h : k ≤ 16) : nI k / 2 = nI (k / 2) := by
  have : ∀ k, k < 17 → nI k / 2 = nI (k / 2) := by decide +kernel
  exact this k (by omega)
def expI (all rt : Int32) : Nat → Nat → Sg → Int32 → Sg × Int32
  | 0, _, τ, x => (τ, x)
  | n + 1, v, τ, x => if leasedJ τ (nI v) = -1 ∨ (all = 0 ∧ ¬ τ 12 0 v = τ 5 0 8) then expI all rt n (v + 1) τ x else expI all rt n (v + 1) (judgeS (expireB τ (tn (leasedJ τ (nI v))) (rt + 1))) (x + 1)
theorem leased_job {τ : Sg} {v : Nat} (hv : v < 4) (h : ¬ leasedJ τ (nI v) = -1) : leasedJ τ (nI v) = nI (tn (leasedJ τ (nI v))) ∧ tn (leasedJ τ (nI v)) < 4 ∧ τ 10 0 (tn (leasedJ τ (nI v))) = 10 + nI v := by
  obtain ⟨h1, h2, h3⟩ := fhit_tn h
  refine ⟨h1, h2, ?_⟩
  unfold ljC at h3
  simp only [Bool.and_eq_true, decide_eq_true_eq] at h3
  exact h3.2
theorem Lok_J {τ : Sg} {v : Nat} (hv : v < 4) (hL : Lok τ) (h : ¬ leasedJ τ (nI v) = -1) : Jok τ := by
  rcases hL with h0 | hJ
  · obtain ⟨-, h2, h3⟩ := leased_job hv h
    rw [h0 _ h2] at h3
    exact absurd h3 ((by decide +kernel : ∀ v, v < 4 → ¬ (0 : Int32) = 10 + nI v) v hv)
  · exact hJ
set_option maxRecDepth 10000 in
theorem s_X6_takeFromQueue {l : Launch} {w : WW} {M : Mem} {σ : Sg} {j : Nat} {a b : Int32} (h : Qok σ) (hj : j < qn σ) : Can l w yX6_takeFromQueue cX6_takeFromQueue 5 none (rmd 2) [.ref (ad w 0 5 0), .int (nI j), .int a, .int b] (zx w M 0 σ) (RV (zx w M 0 (tfq σ j a b))) := by
  refine Can.go (ls := [some (.ref (ad w 0 5 0)), some (.int (nI j)), some (.int a), some (.int b), none]) ?_
  obtain ⟨hc, hq, h3⟩ := h
  obtain ⟨c, e1, e2⟩ := h3 j hj
  have e3 : c < 16 := Nat.lt_of_lt_of_le e1 hc.2
  obtain ⟨r1, r14, r15⟩ := rl_ch e3
  have e4 : rowAt (σ 13 0) (qn σ) (nI j) = nI c := by
    rw [rowAt, if_pos (inr_of hj (by have := hq.2; omega)), nI_clamp (by have := hq.2; omega), e2]
  have e5 : tn (σ 13 0 j) = c := by rw [e2]; exact tn_nI (by omega)
  refine a_aload_n dX6_takeFromQueue_0 rfl ?_
  refine c_getR (t := 5) (k := 5) dX6_takeFromQueue_1 kw_57 rfl ?_
  refine a_iload_n dX6_takeFromQueue_4 rfl ?_
  refine c_V1I dX6_takeFromQueue_5 kw_294 kv_X4_at (s_X4_at rfl rfl hq.1 hq.2) ?_
  rw [e4]
  refine a_istore_4 dX6_takeFromQueue_8 (by decide) ?_
  refine a_aload_n dX6_takeFromQueue_10 rfl ?_
  refine a_iload dX6_takeFromQueue_11 rfl ?_
  refine c_V1I dX6_takeFromQueue_13 kw_298 kv_X6_isChange s_X6_isChange ?_
  refine a_if_eq (tgt := 39) dX6_takeFromQueue_16 (by decide) (fun c_16 => absurd c_16 (by rw [hc.1, inr_of e1 (by have := hc.2; omega)]; decide)) (fun c_16 => ?_)
  refine a_aload_n dX6_takeFromQueue_19 rfl ?_
  refine c_getR (t := 5) (k := 3) dX6_takeFromQueue_20 kw_53 rfl ?_
  refine a_iload dX6_takeFromQueue_23 rfl ?_
  refine c_aald (i := c) dX6_takeFromQueue_25 rfl e3 (if_pos e3) ?_
  refine a_iload_n dX6_takeFromQueue_26 rfl ?_
  refine a_iload_n dX6_takeFromQueue_27 rfl ?_
  refine c_V2V dX6_takeFromQueue_28 kw_210 kv_X1_become (s_X1_become e3) ?_
  refine a_aload_n dX6_takeFromQueue_31 rfl ?_
  refine c_getR (t := 5) (k := 5) dX6_takeFromQueue_32 kw_57 rfl ?_
  refine a_iload_n dX6_takeFromQueue_35 rfl ?_
  refine c_V1V dX6_takeFromQueue_36 kw_302 kv_X4_removeAt (s_X4_removeAt (c := 0) (n := qn σ) rfl rfl (by unfold become; rw [sg_t (by decide), sg_t (by decide)]; exact hq.1) hj hq.2) ?_
  exact c_vret dX6_takeFromQueue_39 ⟨rfl, by rw [tfq, e5]⟩
set_option maxRecDepth 10000 in
theorem L_X6_passBatch {l : Launch} {w : WW} {Φ : Option Value → XX → Prop} {M : Mem} {m : Nat} (hm : m ≤ 16) : ∀ (n : Nat) {i : Nat} {τ : Sg}, i + n = m → Qok τ → n ≤ qn τ → τ 0 0 1 = nI m → A l w yX6_passBatch cX6_passBatch 2 none (rmd 3) Φ 50 [some (.ref (ad w 0 5 0)), some (.int (nI m))] [] (zx w M 0 (tkN n τ)) 0 0 → A l w yX6_passBatch cX6_passBatch 2 none (rmd 3) Φ 26 [some (.ref (ad w 0 5 0)), some (.int (nI i))] [] (zx w M 0 τ) 0 0 := by
  intro n
  induction n with
  | zero =>
    intro i τ hi hq hn h0 kk
    refine a_iload_n dX6_passBatch_26 rfl ?_
    refine a_aload_n dX6_passBatch_27 rfl ?_
    refine c_getR (t := 5) (k := 7) dX6_passBatch_28 kw_62 rfl ?_
    refine c_getI (t := 0) (k := 1) dX6_passBatch_31 kw_274 ?_
    refine a_icmp_ge (tgt := 50) dX6_passBatch_34 (by decide) (fun c_34 => ?_) (fun c_34 => absurd (by rw [h0]; exact nI_le (by omega) (by omega)) c_34)
    obtain rfl : i = m := by omega
    exact kk
  | succ n ih =>
    intro i τ hi hq hn h0 kk
    refine a_iload_n dX6_passBatch_26 rfl ?_
    refine a_aload_n dX6_passBatch_27 rfl ?_
    refine c_getR (t := 5) (k := 7) dX6_passBatch_28 kw_62 rfl ?_
    refine c_getI (t := 0) (k := 1) dX6_passBatch_31 kw_274 ?_
    refine a_icmp_ge (tgt := 50) dX6_passBatch_34 (by decide) (fun c_34 => absurd c_34 (by rw [h0]; exact nI_ge (by omega) (by omega))) (fun c_34 => ?_)
    refine a_aload_n dX6_passBatch_37 rfl ?_
    refine a_iconst (v := 0) dX6_passBatch_38 (by decide) ?_
    refine a_iconst (v := 2) dX6_passBatch_39 (by decide) ?_
    refine a_iconst (v := 0) dX6_passBatch_40 (by decide) ?_
    refine c_V3V dX6_passBatch_41 kw_290 kv_X6_takeFromQueue (s_X6_takeFromQueue (j := 0) hq (by omega)) ?_
    refine a_iinc_1 (u := nI (i + 1)) dX6_passBatch_44 (inc_nI i) (by decide) ?_
    refine a_goto (tgt := 26) dX6_passBatch_47 (by decide) ?_
    exact ih (by omega) (tfq_ok hq) (by rw [tfq_qn hq.2.1]; omega) (by rw [tfq_t (by decide) (by decide) (by decide)]; exact h0) kk
set_option maxRecDepth 10000 in
theorem s_X6_passBatch {l : Launch} {w : WW} {M : Mem} {σ : Sg} (h : Qok σ) (hp : Pn σ) (h0 : 0 < pn σ) (hm : σ 0 0 1 = nI (mb σ)) (hle : mb σ ≤ qn σ) : Can l w yX6_passBatch cX6_passBatch 2 none (rmd 3) [.ref (ad w 0 5 0)] (zx w M 0 σ) (RV (zx w M 0 (passS σ))) := by
  refine Can.go (ls := [some (.ref (ad w 0 5 0)), none]) ?_
  refine a_aload_n dX6_passBatch_0 rfl ?_
  refine c_getR (t := 5) (k := 7) dX6_passBatch_1 kw_62 rfl ?_
  refine c_getR (t := 0) (k := 0) dX6_passBatch_4 kw_320 rfl ?_
  refine a_aload_n dX6_passBatch_7 rfl ?_
  refine c_getR (t := 5) (k := 1) dX6_passBatch_8 kw_51 rfl ?_
  refine c_N2V dX6_passBatch_11 nw_274 ks_X7_copyNumbers s_copy ?_
  refine a_aload_n dX6_passBatch_14 rfl ?_
  refine a_dup dX6_passBatch_15 rfl ?_
  refine c_getI (t := 5) (k := 2) dX6_passBatch_16 kw_147 ?_
  refine a_iconst (v := 1) dX6_passBatch_19 (by decide) ?_
  refine a_iadd dX6_passBatch_20 ?_
  refine c_putI (t := 5) (k := 2) dX6_passBatch_21 kw_147 ?_
  refine a_iconst (v := 0) dX6_passBatch_24 (by decide) ?_
  refine a_istore_1 dX6_passBatch_25 (by decide) ?_
  rw [show (sga σ 8 0 (σ 9 0)) 5 0 2 = σ 5 0 2 by rw [sga_t (by decide)]]
  refine L_X6_passBatch (m := mb σ) (by have := h.2.1.2; omega) (mb σ) (i := 0) (τ := trkS σ) (by omega) (Qok_of h rfl rfl rfl) hle hm ?_
  refine a_aload_n dX6_passBatch_50 rfl ?_
  refine c_getR (t := 5) (k := 6) dX6_passBatch_51 kw_58 rfl ?_
  refine a_iconst (v := 0) dX6_passBatch_54 (by decide) ?_
  refine c_V1V dX6_passBatch_55 kw_302 kv_X4_removeAt (s_X4_removeAt (c := 1) (j := 0) (n := pn σ) rfl rfl (by rw [(tkN_p _ _).2]; exact hp.1) h0 hp.2) ?_
  refine a_aload_n dX6_passBatch_58 rfl ?_
  refine c_getR (t := 5) (k := 7) dX6_passBatch_59 kw_62 rfl ?_
  refine c_V0V dX6_passBatch_62 kw_286 kv_X0_end s_X0_end ?_
  exact c_vret dX6_passBatch_65 ⟨rfl, rfl⟩
set_option maxRecDepth 10000 in
theorem s_X6_failBatch {l : Launch} {w : WW} {M : Mem} {σ : Sg} {k : Nat} {cause : Int32} (h : Qok σ) (hp : Pn σ) (h0 : 0 < pn σ) (h1 : 1 ≤ k) (h8 : k ≤ 8) (hq : k = 1 → 0 < qn σ) (hl : k ≠ 1 → pn σ < 8) : Can l w yX6_failBatch cX6_failBatch 3 none (rmd 3) [.ref (ad w 0 5 0), .int (nI k), .int cause] (zx w M 0 σ) (RV (zx w M 0 (failS σ k cause))) := by
  refine Can.go (ls := [some (.ref (ad w 0 5 0)), some (.int (nI k)), some (.int cause)]) ?_
  have e1 : Qok (endB σ) := Qok_of h rfl rfl rfl
  have e3 : (endB σ) 3 1 1 = nI (pn σ) := hp.1
  refine a_aload_n dX6_failBatch_0 rfl ?_
  refine c_getR (t := 5) (k := 7) dX6_failBatch_1 kw_62 rfl ?_
  refine c_V0V dX6_failBatch_4 kw_286 kv_X0_end s_X0_end ?_
  refine a_iload_n dX6_failBatch_7 rfl ?_
  refine a_iconst (v := 1) dX6_failBatch_8 (by decide) ?_
  refine a_icmp_ne (tgt := 30) dX6_failBatch_9 (by decide) (fun c_9 => ?_) (fun c_9 => ?_)
  · have e2 : k ≠ 1 := fun q => c_9 (by rw [q]; rfl)
    refine a_aload_n dX6_failBatch_30 rfl ?_
    refine c_getR (t := 5) (k := 6) dX6_failBatch_31 kw_58 rfl ?_
    refine a_iload_n dX6_failBatch_34 rfl ?_
    refine a_iconst (v := 2) dX6_failBatch_35 (by decide) ?_
    refine a_idiv dX6_failBatch_36 (by decide) ?_
    rw [half_nI (by omega)]
    refine c_V1V dX6_failBatch_37 kw_306 kv_X4_replaceFirst (s_X4_replaceFirst (c := 1) (n := pn σ) rfl rfl e3 h0 hp.2) ?_
    refine a_aload_n dX6_failBatch_40 rfl ?_
    refine c_getR (t := 5) (k := 6) dX6_failBatch_41 kw_58 rfl ?_
    refine a_iconst (v := 0) dX6_failBatch_44 (by decide) ?_
    refine a_iload_n dX6_failBatch_45 rfl ?_
    refine a_iconst (v := 1) dX6_failBatch_46 (by decide) ?_
    refine a_iadd dX6_failBatch_47 ?_
    refine a_iconst (v := 2) dX6_failBatch_48 (by decide) ?_
    refine a_idiv dX6_failBatch_49 (by decide) ?_
    rw [show nI k + 1 = nI (k + 1) from (nI_succ k).symm, half_nI (by omega)]
    refine c_V2V dX6_failBatch_50 kw_311 kv_X4_insert (s_X4_insert (c := 1) (j := 0) (n := pn σ) rfl rfl (by rw [sg_t (by decide)]; exact e3) (Nat.zero_le _) (hl e2)) ?_
    exact c_vret dX6_failBatch_53 ⟨rfl, by first | rw [failS, if_pos rfl] | rw [failS, if_neg e2]⟩
  · obtain rfl : k = 1 := nI_inj c_9 (by omega) (by omega)
    refine a_aload_n dX6_failBatch_12 rfl ?_
    refine a_iconst (v := 0) dX6_failBatch_13 (by decide) ?_
    refine a_iconst (v := 3) dX6_failBatch_14 (by decide) ?_
    refine a_iload_n dX6_failBatch_15 rfl ?_
    refine c_V3V dX6_failBatch_16 kw_290 kv_X6_takeFromQueue (s_X6_takeFromQueue (j := 0) e1 (hq rfl)) ?_
    refine a_aload_n dX6_failBatch_19 rfl ?_
    refine c_getR (t := 5) (k := 6) dX6_failBatch_20 kw_58 rfl ?_
    refine a_iconst (v := 0) dX6_failBatch_23 (by decide) ?_
    refine c_V1V dX6_failBatch_24 kw_302 kv_X4_removeAt (s_X4_removeAt (c := 1) (j := 0) (n := pn σ) rfl rfl (by rw [(tfq_p _ _ _ _).2]; exact e3) h0 hp.2) ?_
    refine a_goto (tgt := 53) dX6_failBatch_27 (by decide) ?_
    exact c_vret dX6_failBatch_53 ⟨rfl, by first | rw [failS, if_pos rfl] | rw [failS, if_neg e2]⟩
set_option maxRecDepth 10000 in
theorem s_X6_judgeBatch {l : Launch} {w : WW} {M : Mem} {σ : Sg} (h : Jok σ) : Can l w yX6_judgeBatch cX6_judgeBatch 2 none (rmd 4) [.ref (ad w 0 5 0)] (zx w M 0 σ) (RV (zx w M 0 (judgeS σ))) := by
  refine Can.go (ls := [some (.ref (ad w 0 5 0)), none]) ?_
  obtain ⟨hq, hp, h0, hm, h1, h8, hle, hl⟩ := id h
  refine a_aload_n dX6_judgeBatch_0 rfl ?_
  refine c_getR (t := 5) (k := 7) dX6_judgeBatch_1 kw_62 rfl ?_
  refine c_V0I dX6_judgeBatch_4 kw_275 kv_X0_firstFailedRequired s_X0_firstFailedRequired ?_
  refine a_istore_1 dX6_judgeBatch_7 (by decide) ?_
  refine a_iload_n dX6_judgeBatch_8 rfl ?_
  refine a_iconst (v := (-1)) dX6_judgeBatch_9 (by decide) ?_
  refine a_icmp_eq (tgt := 31) dX6_judgeBatch_10 (by decide) (fun c_10 => ?_) (fun c_10 => ?_)
  · refine a_aload_n dX6_judgeBatch_31 rfl ?_
    refine c_getR (t := 5) (k := 7) dX6_judgeBatch_32 kw_62 rfl ?_
    refine c_V0I dX6_judgeBatch_35 kw_312 kv_X0_hasPassedRequired s_X0_hasPassedRequired ?_
    refine a_if_eq (tgt := 45) dX6_judgeBatch_38 (by decide) (fun c_38 => ?_) (fun c_38 => ?_)
    · exact c_vret dX6_judgeBatch_45 ⟨rfl, by first | (rw [judgeS, if_neg c_10]) | (rw [judgeS, if_pos c_10, if_pos (bi_n0.mp c_38)]) | (rw [judgeS, if_pos c_10, if_neg (by rw [bi_0.mp c_38]; decide)])⟩
    · refine a_aload_n dX6_judgeBatch_41 rfl ?_
      refine c_V0V dX6_judgeBatch_42 kw_316 kv_X6_passBatch (s_X6_passBatch hq hp h0 hm hle) ?_
      exact c_vret dX6_judgeBatch_45 ⟨rfl, by first | (rw [judgeS, if_neg c_10]) | (rw [judgeS, if_pos c_10, if_pos (bi_n0.mp c_38)]) | (rw [judgeS, if_pos c_10, if_neg (by rw [bi_0.mp c_38]; decide)])⟩
  · refine a_aload_n dX6_judgeBatch_13 rfl ?_
    refine a_aload_n dX6_judgeBatch_14 rfl ?_
    refine c_getR (t := 5) (k := 7) dX6_judgeBatch_15 kw_62 rfl ?_
    refine c_getI (t := 0) (k := 1) dX6_judgeBatch_18 kw_274 ?_
    refine a_bipush (v := 10) dX6_judgeBatch_21 (by decide) ?_
    refine a_iload_n dX6_judgeBatch_23 rfl ?_
    refine a_iadd dX6_judgeBatch_24 ?_
    rw [hm]
    refine c_V2V dX6_judgeBatch_25 kw_282 kv_X6_failBatch (s_X6_failBatch hq hp h0 h1 h8 (fun e => by omega) hl) ?_
    refine a_goto (tgt := 45) dX6_judgeBatch_28 (by decide) ?_
    exact c_vret dX6_judgeBatch_45 ⟨rfl, by first | (rw [judgeS, if_neg c_10]) | (rw [judgeS, if_pos c_10, if_pos (bi_n0.mp c_38)]) | (rw [judgeS, if_pos c_10, if_neg (by rw [bi_0.mp c_38]; decide)])⟩
set_option maxRecDepth 10000 in
theorem s_X6_endJob {l : Launch} {w : WW} {M : Mem} {σ : Sg} {j : Nat} {oc : Int32} (h : Jok σ) (hj : j < 4) : Can l w yX6_endJob cX6_endJob 3 none (rmd 5) [.ref (ad w 0 5 0), .int (nI j), .int oc] (zx w M 0 σ) (RV (zx w M 0 (endJ σ j oc))) := by
  refine Can.go (ls := [some (.ref (ad w 0 5 0)), some (.int (nI j)), some (.int oc)]) ?_
  refine a_iload_n dX6_endJob_0 rfl ?_
  refine a_iconst (v := (-1)) dX6_endJob_1 (by decide) ?_
  refine a_icmp_ne (tgt := 6) dX6_endJob_2 (by decide) (fun c_2 => ?_) (fun c_2 => absurd c_2 ((by decide +kernel : ∀ j, j < 4 → ¬ nI j = -1) j hj))
  refine a_iload_n dX6_endJob_6 rfl ?_
  refine a_iconst (v := 2) dX6_endJob_7 (by decide) ?_
  refine a_icmp_ne (tgt := 24) dX6_endJob_8 (by decide) (fun c_8 => ?_) (fun c_8 => ?_)
  · refine a_aload_n dX6_endJob_24 rfl ?_
    refine c_getR (t := 5) (k := 7) dX6_endJob_25 kw_62 rfl ?_
    refine a_iload_n dX6_endJob_28 rfl ?_
    refine c_V1V dX6_endJob_29 kw_259 kv_X0_failJob s_X0_failJob ?_
    refine a_aload_n dX6_endJob_32 rfl ?_
    refine c_V0V dX6_endJob_33 kw_270 kv_X6_judgeBatch (s_X6_judgeBatch (by first | exact jk_sg h | exact jk_fj h)) ?_
    exact c_vret dX6_endJob_36 ⟨rfl, by first | rw [endJ, if_pos c_8] | rw [endJ, if_neg c_8]⟩
  · refine a_aload_n dX6_endJob_11 rfl ?_
    refine c_getR (t := 5) (k := 7) dX6_endJob_12 kw_62 rfl ?_
    refine c_getR (t := 0) (k := 2) dX6_endJob_15 kw_258 rfl ?_
    refine a_iload_n dX6_endJob_18 rfl ?_
    refine a_iconst (v := 2) dX6_endJob_19 (by decide) ?_
    refine c_iast (i := j) dX6_endJob_20 rfl hj ?_
    refine a_goto (tgt := 32) dX6_endJob_21 (by decide) ?_
    refine a_aload_n dX6_endJob_32 rfl ?_
    refine c_V0V dX6_endJob_33 kw_270 kv_X6_judgeBatch (s_X6_judgeBatch (by first | exact jk_sg h | exact jk_fj h)) ?_
    exact c_vret dX6_endJob_36 ⟨rfl, by first | rw [endJ, if_pos c_8] | rw [endJ, if_neg c_8]⟩
set_option maxRecDepth 10000 in
theorem L_X6_expire {l : Launch} {w : WW} {Φ : Option Value → XX → Prop} {M : Mem} {all : Int32} : ∀ (n : Nat) {v : Nat} {τ : Sg} {x : Int32} {v4 : Option Value}, v + n = 4 → Lok τ → Φ (some (.int (expI all (M 2 4 0 2) n v τ x).2)) (zx w M 0 (expI all (M 2 4 0 2) n v τ x).1) → A l w yX6_expireLeases cX6_expireLeases 5 (some .int) (rmd 5) Φ 4 [some (.ref (ad w 0 5 0)), some (.int all), some (.int x), some (.int (nI v)), v4] [] (zx w M 0 τ) 0 0 := by
  intro n
  induction n with
  | zero =>
    intro v τ x v4 hv hL h
    refine a_iload_n dX6_expireLeases_4 rfl ?_
    refine a_iconst (v := 4) dX6_expireLeases_5 (by decide) ?_
    refine a_icmp_ge (tgt := 76) dX6_expireLeases_6 (by decide) (fun c_6 => ?_) (fun c_6 => absurd (by have e6 : v = 4 := (by omega); subst e6; decide) c_6)
    refine a_iload_n dX6_expireLeases_76 rfl ?_
    exact c_iret dX6_expireLeases_77 h
  | succ n ih =>
    intro v τ x v4 hv hL h
    refine a_iload_n dX6_expireLeases_4 rfl ?_
    refine a_iconst (v := 4) dX6_expireLeases_5 (by decide) ?_
    refine a_icmp_ge (tgt := 76) dX6_expireLeases_6 (by decide) (fun c_6 => absurd c_6 (nI_ge (b := 4) (by omega) (by omega))) (fun c_6 => ?_)
    refine a_aload_n dX6_expireLeases_9 rfl ?_
    refine c_getR (t := 5) (k := 7) dX6_expireLeases_10 kw_62 rfl ?_
    refine a_iload_n dX6_expireLeases_13 rfl ?_
    refine c_V1I dX6_expireLeases_14 kw_248 kv_X0_leasedJob s_X0_leasedJob ?_
    refine a_istore_4 dX6_expireLeases_17 (by decide) ?_
    refine a_iload dX6_expireLeases_19 rfl ?_
    refine a_iconst (v := (-1)) dX6_expireLeases_21 (by decide) ?_
    refine a_icmp_eq (tgt := 70) dX6_expireLeases_22 (by decide) (fun c_22 => ?_) (fun c_22 => ?_)
    · refine a_iinc_3 (u := nI (v + 1)) dX6_expireLeases_70 (inc_nI v) (by decide) ?_
      refine a_goto (tgt := 4) dX6_expireLeases_73 (by decide) ?_
      rw [expI] at h
      first
        | (have hy : leasedJ τ (nI v) = -1 ∨ (all = 0 ∧ ¬ τ 12 0 v = τ 5 0 8) := (by first | exact Or.inl c_22 | exact Or.inr ⟨c_26, c_42⟩); rw [if_pos hy] at h; exact ih (by omega) hL h)
        | (have hy : ¬ (leasedJ τ (nI v) = -1 ∨ (all = 0 ∧ ¬ τ 12 0 v = τ 5 0 8)) := (fun q => q.elim c_22 (fun q => by first | exact absurd q.1 c_26 | exact absurd c_42 q.2)); rw [if_neg hy] at h; exact ih (by omega) (judge_L (jk_ex eJ)) h)
    · refine a_iload_n dX6_expireLeases_25 rfl ?_
      refine a_if_ne (tgt := 45) dX6_expireLeases_26 (by decide) (fun c_26 => ?_) (fun c_26 => ?_)
      · refine a_aload_n dX6_expireLeases_45 rfl ?_
        refine c_getR (t := 5) (k := 7) dX6_expireLeases_46 kw_62 rfl ?_
        obtain ⟨e1, e2, e3⟩ := leased_job (by omega) c_22
        have eJ := Lok_J (by omega) hL c_22
        refine a_iload dX6_expireLeases_49 rfl ?_
        rw [show leasedJ τ (nI v) = nI (tn (leasedJ τ (nI v))) from e1]
        refine a_aload_n dX6_expireLeases_51 rfl ?_
        refine c_getR (t := 5) (k := 0) dX6_expireLeases_52 kw_63 rfl ?_
        refine e_getI (t := 4) (k := 2) dX6_expireLeases_55 kw_326 ?_
        refine a_iconst (v := 1) dX6_expireLeases_58 (by decide) ?_
        refine a_iadd dX6_expireLeases_59 ?_
        refine c_V2V dX6_expireLeases_60 kw_327 kv_X0_expireLease (s_X0_expireLease e2) ?_
        refine a_aload_n dX6_expireLeases_63 rfl ?_
        refine c_V0V dX6_expireLeases_64 kw_270 kv_X6_judgeBatch (s_X6_judgeBatch (jk_ex eJ)) ?_
        refine a_iinc_2 (u := x + 1) dX6_expireLeases_67 rfl (by decide) ?_
        refine a_iinc_3 (u := nI (v + 1)) dX6_expireLeases_70 (inc_nI v) (by decide) ?_
        refine a_goto (tgt := 4) dX6_expireLeases_73 (by decide) ?_
        rw [expI] at h
        first
          | (have hy : leasedJ τ (nI v) = -1 ∨ (all = 0 ∧ ¬ τ 12 0 v = τ 5 0 8) := (by first | exact Or.inl c_22 | exact Or.inr ⟨c_26, c_42⟩); rw [if_pos hy] at h; exact ih (by omega) hL h)
          | (have hy : ¬ (leasedJ τ (nI v) = -1 ∨ (all = 0 ∧ ¬ τ 12 0 v = τ 5 0 8)) := (fun q => q.elim c_22 (fun q => by first | exact absurd q.1 c_26 | exact absurd c_42 q.2)); rw [if_neg hy] at h; exact ih (by omega) (judge_L (jk_ex eJ)) h)
      · refine a_aload_n dX6_expireLeases_29 rfl ?_
        refine c_getR (t := 5) (k := 7) dX6_expireLeases_30 kw_62 rfl ?_
        refine c_getR (t := 0) (k := 4) dX6_expireLeases_33 kw_325 rfl ?_
        refine a_iload_n dX6_expireLeases_36 rfl ?_
        refine c_iald (i := v) dX6_expireLeases_37 rfl (show v < 4 by omega) ?_
        refine a_aload_n dX6_expireLeases_38 rfl ?_
        refine c_getI (t := 5) (k := 8) dX6_expireLeases_39 kw_149 ?_
        refine a_icmp_ne (tgt := 70) dX6_expireLeases_42 (by decide) (fun c_42 => ?_) (fun c_42 => ?_)
        · refine a_iinc_3 (u := nI (v + 1)) dX6_expireLeases_70 (inc_nI v) (by decide) ?_
          refine a_goto (tgt := 4) dX6_expireLeases_73 (by decide) ?_
          rw [expI] at h
          first
            | (have hy : leasedJ τ (nI v) = -1 ∨ (all = 0 ∧ ¬ τ 12 0 v = τ 5 0 8) := (by first | exact Or.inl c_22 | exact Or.inr ⟨c_26, c_42⟩); rw [if_pos hy] at h; exact ih (by omega) hL h)
            | (have hy : ¬ (leasedJ τ (nI v) = -1 ∨ (all = 0 ∧ ¬ τ 12 0 v = τ 5 0 8)) := (fun q => q.elim c_22 (fun q => by first | exact absurd q.1 c_26 | exact absurd c_42 q.2)); rw [if_neg hy] at h; exact ih (by omega) (judge_L (jk_ex eJ)) h)
        · refine a_aload_n dX6_expireLeases_45 rfl ?_
          refine c_getR (t := 5) (k := 7) dX6_expireLeases_46 kw_62 rfl ?_
          obtain ⟨e1, e2, e3⟩ := leased_job (by omega) c_22
          have eJ := Lok_J (by omega) hL c_22
          refine a_iload dX6_expireLeases_49 rfl ?_
          rw [show leasedJ τ (nI v) = nI (tn (leasedJ τ (nI v))) from e1]
          refine a_aload_n dX6_expireLeases_51 rfl ?_
          refine c_getR (t := 5) (k := 0) dX6_expireLeases_52 kw_63 rfl ?_
          refine e_getI (t := 4) (k := 2) dX6_expireLeases_55 kw_326 ?_
          refine a_iconst (v := 1) dX6_expireLeases_58 (by decide) ?_
          refine a_iadd dX6_expireLeases_59 ?_
          refine c_V2V dX6_expireLeases_60 kw_327 kv_X0_expireLease (s_X0_expireLease e2) ?_
          refine a_aload_n dX6_expireLeases_63 rfl ?_
          refine c_V0V dX6_expireLeases_64 kw_270 kv_X6_judgeBatch (s_X6_judgeBatch (jk_ex eJ)) ?_
          refine a_iinc_2 (u := x + 1) dX6_expireLeases_67 rfl (by decide) ?_
          refine a_iinc_3 (u := nI (v + 1)) dX6_expireLeases_70 (inc_nI v) (by decide) ?_
          refine a_goto (tgt := 4) dX6_expireLeases_73 (by decide) ?_
          rw [expI] at h
          first
            | (have hy : leasedJ τ (nI v) = -1 ∨ (all = 0 ∧ ¬ τ 12 0 v = τ 5 0 8) := (by first | exact Or.inl c_22 | exact Or.inr ⟨c_26, c_42⟩); rw [if_pos hy] at h; exact ih (by omega) hL h)
            | (have hy : ¬ (leasedJ τ (nI v) = -1 ∨ (all = 0 ∧ ¬ τ 12 0 v = τ 5 0 8)) := (fun q => q.elim c_22 (fun q => by first | exact absurd q.1 c_26 | exact absurd c_42 q.2)); rw [if_neg hy] at h; exact ih (by omega) (judge_L (jk_ex eJ)) h)
set_option maxRecDepth 10000 in
theorem s_X6_expireLeases {l : Launch} {w : WW} {M : Mem} {σ : Sg} {all : Int32} (hL : Lok σ) : Can l w yX6_expireLeases cX6_expireLeases 5 (some .int) (rmd 5) [.ref (ad w 0 5 0), .int all] (zx w M 0 σ) (RI (expI all (M 2 4 0 2) 4 0 σ 0).2 (zx w M 0 (expI all (M 2 4 0 2) 4 0 σ 0).1)) := by
  refine Can.go (ls := [some (.ref (ad w 0 5 0)), some (.int all), none, none, none]) ?_
  refine a_iconst (v := 0) dX6_expireLeases_0 (by decide) ?_
  refine a_istore_2 dX6_expireLeases_1 (by decide) ?_
  refine a_iconst (v := 0) dX6_expireLeases_2 (by decide) ?_
  refine a_istore_3 dX6_expireLeases_3 (by decide) ?_
  exact L_X6_expire 4 (v := 0) rfl hL ⟨rfl, rfl⟩
