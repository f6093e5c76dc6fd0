/-! the queue and the plan as lists; what holds between the events of a state -/
def QI (σ : Sg) (qs : List Nat) : Prop := σ 3 0 1 = nI qs.length ∧ qs.length ≤ 16 ∧ ∀ (i c : Nat), qs[i]? = some c → σ 13 0 i = nI c
def PI (σ : Sg) (ps : List Nat) : Prop := σ 3 1 1 = nI ps.length ∧ ps.length ≤ 8 ∧ ∀ (i p : Nat), ps[i]? = some p → σ 13 1 i = nI p
/-- the queue and the plan fit -/
def QP (σ : Sg) (qs ps : List Nat) : Prop := Cn σ ∧ QI σ qs ∧ PI σ ps ∧ (∀ c ∈ qs, c < cn σ ∧ σ 1 c 2 = 1) ∧ qs.Nodup ∧ (∀ p ∈ ps, 1 ≤ p) ∧ ps.sum ≤ 8 ∧ ps.sum ≤ qs.length
/-- .. and the batch -/
def Bt (σ : Sg) (ps : List Nat) : Prop := σ 0 0 1 = nI (mb σ) ∧ ((mb σ = 0 ∧ ∀ j, j < 4 → σ 10 0 j = 0) ∨ (1 ≤ mb σ ∧ ∃ ps', ps = mb σ :: ps'))
def Wk (σ : Sg) (qs ps : List Nat) : Prop := QP σ qs ps ∧ Bt σ ps
theorem nd_inj {qs : List Nat} {i j c : Nat} (h : qs.Nodup) (hi : qs[i]? = some c) (hj : qs[j]? = some c) : i = j := by
  have hp := List.pairwise_iff_getElem.mp h
  obtain ⟨h1, e1⟩ := List.getElem?_eq_some_iff.mp hi
  obtain ⟨h2, e2⟩ := List.getElem?_eq_some_iff.mp hj
  rcases Nat.lt_trichotomy i j with h3 | h3 | h3
  · exact absurd (e1.trans e2.symm) (hp i j h1 h2 h3)
  · exact h3
  · exact absurd (e2.trans e1.symm) (hp j i h2 h1 h3)
theorem nd_len : ∀ (m : Nat) (l : List Nat), (∀ x ∈ l, x < m) → l.Nodup → l.length ≤ m
  | 0, l, h, _ => by
    cases l with
    | nil => exact Nat.le_refl 0
    | cons a t => exact absurd (h a List.mem_cons_self) (Nat.not_lt_zero a)
  | m + 1, l, h, hn => by
    by_cases hm : m ∈ l
    · have h1 := nd_len m (l.erase m) (fun x hx => by
        have h2 := (List.Nodup.mem_erase_iff hn).mp hx
        have h3 := h x h2.2
        omega) (hn.erase m)
      rw [List.length_erase_of_mem hm] at h1
      omega
    · exact Nat.le_succ_of_le (nd_len m l (fun x hx => by
        have h3 := h x hx
        have : x ≠ m := fun e => hm (e ▸ hx)
        omega) hn)
theorem QI_qn {σ : Sg} {qs : List Nat} (h : QI σ qs) : qn σ = qs.length := by
  show (σ 3 0 1).toNatClampNeg = _
  rw [h.1]
  exact nI_clamp (by have := h.2.1; omega)
theorem PI_pn {σ : Sg} {ps : List Nat} (h : PI σ ps) : pn σ = ps.length := by
  show (σ 3 1 1).toNatClampNeg = _
  rw [h.1]
  exact nI_clamp (by have := h.2.1; omega)
theorem QI_Qn {σ : Sg} {qs : List Nat} (h : QI σ qs) : Qn σ := by
  unfold Qn
  rw [QI_qn h]
  exact ⟨h.1, h.2.1⟩
theorem PI_Pn {σ : Sg} {ps : List Nat} (h : PI σ ps) : Pn σ := by
  unfold Pn
  rw [PI_pn h]
  exact ⟨h.1, h.2.1⟩
theorem QP_ok {σ : Sg} {qs ps : List Nat} (h : QP σ qs ps) : Qok σ := by
  obtain ⟨h1, h2, h3, h4, h5, -⟩ := h
  refine ⟨h1, QI_Qn h2, fun i hi => ?_⟩
  rw [QI_qn h2] at hi
  exact ⟨qs[i], (h4 _ (List.getElem_mem hi)).1, h2.2.2 i _ (List.getElem?_eq_getElem hi)⟩
theorem QI_of {σ τ : Sg} {qs : List Nat} (h : QI σ qs) (h3 : τ 3 0 = σ 3 0) (h13 : τ 13 0 = σ 13 0) : QI τ qs := by
  unfold QI at *
  rw [h3, h13]
  exact h
theorem PI_of {σ τ : Sg} {ps : List Nat} (h : PI σ ps) (h3 : τ 3 1 = σ 3 1) (h13 : τ 13 1 = σ 13 1) : PI τ ps := by
  unfold PI at *
  rw [h3, h13]
  exact h
theorem QP_of {σ τ : Sg} {qs ps : List Nat} (h : QP σ qs ps) (h5 : τ 5 0 4 = σ 5 0 4) (h3 : τ 3 = σ 3) (h13 : τ 13 = σ 13) (h1 : ∀ c, τ 1 c 2 = σ 1 c 2) : QP τ qs ps := by
  obtain ⟨a1, a2, a3, a4, a5⟩ := h
  have hc : cn τ = cn σ := by unfold cn; rw [h5]
  exact ⟨by unfold Cn; rw [hc, h5]; exact a1, QI_of a2 (by rw [h3]) (by rw [h13]), PI_of a3 (by rw [h3]) (by rw [h13]), fun c hm => by rw [hc, h1]; exact a4 c hm, a5⟩
theorem sum_len : ∀ (ps : List Nat), (∀ p ∈ ps, 1 ≤ p) → ps.length ≤ ps.sum
  | [], _ => Nat.le_refl 0
  | p :: t, h => by
    have h1 := sum_len t (fun q hq => h q (List.mem_cons_of_mem _ hq))
    have h2 := h p List.mem_cons_self
    simp only [List.length_cons, List.sum_cons]
    omega
theorem Wk_J {σ : Sg} {qs ps : List Nat} (h : Wk σ qs ps) (hm : mb σ ≠ 0) : Jok σ := by
  obtain ⟨hQ, h0, hB⟩ := h
  rcases hB with ⟨e, -⟩ | ⟨h1, ps', rfl⟩
  · exact absurd e hm
  · have hok := QP_ok hQ
    obtain ⟨a1, a2, a3, a4, a5, a6, a7, a8⟩ := hQ
    have e1 := PI_pn a3
    have e2 := QI_qn a2
    have e3 := sum_len ps' (fun q hq => a6 q (List.mem_cons_of_mem _ hq))
    simp only [List.length_cons, List.sum_cons] at e1 a7 a8
    exact ⟨hok, PI_Pn a3, by omega, h0, h1, by omega, by omega, by omega⟩
theorem Wk_L {σ : Sg} {qs ps : List Nat} (h : Wk σ qs ps) : Lok σ := by
  by_cases hm : mb σ = 0
  · rcases h.2.2 with ⟨-, h1⟩ | ⟨h1, -⟩
    · exact Or.inl h1
    · omega
  · exact Or.inr (Wk_J h hm)
theorem tfq_c (σ : Sg) (j : Nat) (a b : Int32) (c : Nat) : (tfq σ j a b) 1 c 2 = if c = tn (σ 13 0 j) then a else σ 1 c 2 := by
  by_cases h : c = tn (σ 13 0 j)
  · subst h
    simp [tfq, rowRmv, become, sg, sga, up1]
  · simp [tfq, rowRmv, become, sg, sga, up1, h]
theorem QI_tfq {σ : Sg} {qs : List Nat} {j : Nat} {a b : Int32} (h : QI σ qs) (hj : j < qs.length) : QI (tfq σ j a b) (qs.eraseIdx j) := by
  have hl : (qs.eraseIdx j).length = qs.length - 1 := by rw [List.length_eraseIdx, if_pos hj]
  refine ⟨by rw [tfq_q, QI_qn h, hl], by have := h.2.1; omega, fun i c hi => ?_⟩
  have h1 : i < qs.length - 1 := by rw [← hl]; exact (List.getElem?_eq_some_iff.mp hi).1
  rw [tfq_13, QI_qn h, rmv_at h1]
  rw [List.getElem?_eraseIdx] at hi
  by_cases h2 : i < j
  · rw [if_pos h2] at hi ⊢
    exact h.2.2 i c hi
  · rw [if_neg h2] at hi ⊢
    exact h.2.2 (i + 1) c hi
theorem er_ne {qs : List Nat} {j c d : Nat} (hn : qs.Nodup) (hj : qs[j]? = some d) (hc : c ∈ qs.eraseIdx j) : c ≠ d ∧ c ∈ qs := by
  obtain ⟨i, hi⟩ := List.getElem?_of_mem hc
  rw [List.getElem?_eraseIdx] at hi
  by_cases h2 : i < j
  · rw [if_pos h2] at hi
    exact ⟨fun e => by subst e; have := nd_inj hn hi hj; omega, List.mem_of_getElem? hi⟩
  · rw [if_neg h2] at hi
    exact ⟨fun e => by subst e; have := nd_inj hn hi hj; omega, List.mem_of_getElem? hi⟩
/-- what is said of the changes in the queue -/
def QC (σ : Sg) (qs : List Nat) : Prop := Cn σ ∧ QI σ qs ∧ (∀ c ∈ qs, c < cn σ ∧ σ 1 c 2 = 1) ∧ qs.Nodup
theorem QC_ok {σ : Sg} {qs : List Nat} (h : QC σ qs) : Qok σ := by
  obtain ⟨h1, h2, h4, h5⟩ := h
  refine ⟨h1, QI_Qn h2, fun i hi => ?_⟩
  rw [QI_qn h2] at hi
  exact ⟨qs[i], (h4 _ (List.getElem_mem hi)).1, h2.2.2 i _ (List.getElem?_eq_getElem hi)⟩
theorem QC_of {σ τ : Sg} {qs : List Nat} (h : QC σ qs) (h5 : τ 5 0 4 = σ 5 0 4) (h3 : τ 3 0 = σ 3 0) (h13 : τ 13 0 = σ 13 0) (h1 : ∀ c, τ 1 c 2 = σ 1 c 2) : QC τ qs := by
  obtain ⟨a1, a2, a4, a5⟩ := h
  have hc : cn τ = cn σ := by unfold cn; rw [h5]
  exact ⟨by unfold Cn; rw [hc, h5]; exact a1, QI_of a2 h3 h13, fun c hm => by rw [hc, h1]; exact a4 c hm, a5⟩
theorem QC_tfq {σ : Sg} {qs : List Nat} {j : Nat} {a b : Int32} (h : QC σ qs) (hj : j < qs.length) : QC (tfq σ j a b) (qs.eraseIdx j) := by
  obtain ⟨h1, h2, h4, h5⟩ := h
  refine ⟨(tfq_ok (QC_ok ⟨h1, h2, h4, h5⟩)).1, QI_tfq h2 hj, fun c hc => ?_, h5.sublist (List.eraseIdx_sublist ..)⟩
  have hg := List.getElem?_eq_getElem hj
  obtain ⟨e1, e2⟩ := er_ne h5 hg hc
  have h6 := h4 c e2
  have h7 := (h4 _ (List.getElem_mem hj)).1
  rw [tfq_cn, tfq_c, if_neg]
  · exact h6
  · rw [h2.2.2 j _ hg, tn_nI (by have := h1.2; omega)]
    exact e1
theorem QP_C {σ : Sg} {qs ps : List Nat} (h : QP σ qs ps) : QC σ qs := ⟨h.1, h.2.1, h.2.2.2.1, h.2.2.2.2.1⟩
theorem PI_rmv {σ : Sg} {p : Nat} {ps : List Nat} {n : Nat} (h : PI σ (p :: ps)) (hn : n = ps.length + 1) : PI (rowRmv σ 1 0 n) ps := by
  subst hn
  obtain ⟨h1, h2, h3⟩ := h
  refine ⟨by simp [rowRmv, sg, up1], by simp at h2; omega, fun i q hi => ?_⟩
  have e : (rowRmv σ 1 0 (ps.length + 1)) 13 1 = rmv (σ 13 1) 0 (ps.length + 1) := by simp [rowRmv, sg, sga, up1]
  rw [e, rmv_at (by have := (List.getElem?_eq_some_iff.mp hi).1; omega), if_neg (Nat.not_lt_zero i)]
  exact h3 (i + 1) q (by simpa using hi)
theorem PI_ins {σ : Sg} {q : Nat} {ps : List Nat} {n : Nat} {v : Int32} (h : PI σ ps) (hn : n = ps.length) (hv : v = nI q) (hl : ps.length < 8) : PI (rowIns σ 1 0 n v) (q :: ps) := by
  subst hn hv
  obtain ⟨h1, h2, h3⟩ := h
  refine ⟨by simp [rowIns, sg, up1], by simp; omega, fun i p hi => ?_⟩
  have e : (rowIns σ 1 0 ps.length (nI q)) 13 1 = ins (σ 13 1) 0 ps.length (nI q) := by simp [rowIns, sg, sga, up1]
  rw [e]
  cases i with
  | zero =>
    simp at hi
    subst hi
    rfl
  | succ i =>
    have hi : ps[i]? = some p := by simpa using hi
    have hlt := (List.getElem?_eq_some_iff.mp hi).1
    unfold ins
    rw [if_neg (by omega), if_pos (by omega)]
    exact h3 i p hi
theorem PI_set {σ : Sg} {p q : Nat} {ps : List Nat} {v : Int32} (h : PI σ (p :: ps)) (hv : v = nI q) : PI (sg σ 13 1 0 v) (q :: ps) := by
  subst hv
  obtain ⟨h1, h2, h3⟩ := h
  refine ⟨by rw [sg_t (by decide)]; simpa using h1, by simpa using h2, fun i r hi => ?_⟩
  cases i with
  | zero =>
    simp at hi
    subst hi
    exact sg_same _ _ _ _ _
  | succ i =>
    rw [sg_k (by omega)]
    exact h3 (i + 1) r (by simpa using hi)
theorem mb_end (σ : Sg) : (endB σ) 0 0 1 = 0 := by unfold endB; rw [sga_t (by decide), sg_same]
theorem mb_z {σ : Sg} (h : σ 0 0 1 = 0) : mb σ = 0 := by unfold mb; rw [h]; rfl
theorem Bt_0 {σ : Sg} {ps : List Nat} (h : σ 0 0 1 = 0) (hj : σ 10 0 = fun _ => 0) : Bt σ ps := ⟨by rw [mb_z h, h]; rfl, Or.inl ⟨mb_z h, fun j _ => by rw [hj]⟩⟩
theorem failS_0 (σ : Sg) (k : Nat) (cause : Int32) : (failS σ k cause) 0 0 1 = 0 := by
  unfold failS
  split
  · rw [rowRmv_t (by decide) (by decide), tfq_t (by decide) (by decide) (by decide), mb_end]
  · rw [rowIns_t (by decide) (by decide), sg_t (by decide), mb_end]
/-- a batch that fails: what the queue and the plan are then; what is left to do grows less -/
theorem fail_Wk {σ : Sg} {qs ps : List Nat} {k : Nat} {cause : Int32} (hQ : QC σ qs) (hP : PI σ (k :: ps)) (h1 : ∀ p ∈ k :: ps, 1 ≤ p) (h8 : (k :: ps).sum ≤ 8) (hq : (k :: ps).sum ≤ qs.length) : ∃ qs' ps', Wk (failS σ k cause) qs' ps' ∧ 2 * qs'.length + (ps.length + 1) + 1 ≤ 2 * qs.length + ps'.length ∧ (failS σ k cause) 0 0 1 = 0 := by
  have hk := h1 k List.mem_cons_self
  have h1' : ∀ p ∈ ps, 1 ≤ p := fun p hp => h1 p (List.mem_cons_of_mem _ hp)
  have hs := sum_len ps h1'
  simp only [List.sum_cons] at h8 hq
  have hP' : PI (endB σ) (k :: ps) := PI_of hP (by rw [endB_t (by decide) (by decide)]) (by rw [endB_t (by decide) (by decide)])
  have hQ' : QC (endB σ) qs := QC_of hQ (by rw [endB_t (by decide) (by decide)]) (by rw [endB_t (by decide) (by decide)]) (by rw [endB_t (by decide) (by decide)]) (fun c => by rw [endB_t (by decide) (by decide)])
  have hpn : pn σ = ps.length + 1 := by rw [PI_pn hP]; rfl
  by_cases hk1 : k = 1
  · subst hk1
    have e0 : failS σ 1 cause = rowRmv (tfq (endB σ) 0 3 cause) 1 0 (pn σ) := if_pos rfl
    have hl : 0 < qs.length := by omega
    have hl2 : (qs.eraseIdx 0).length = qs.length - 1 := by rw [List.length_eraseIdx, if_pos hl]
    have hQ2 := QC_tfq (a := 3) (b := cause) hQ' hl
    have hP2 : PI (tfq (endB σ) 0 3 cause) (1 :: ps) := PI_of hP' (tfq_p _ _ _ _).2 (tfq_p _ _ _ _).1
    have hP3 := PI_rmv hP2 hpn
    refine ⟨qs.eraseIdx 0, ps, ⟨⟨?_, ?_, ?_⟩, Bt_0 (failS_0 ..) (failS_10 ..)⟩, by omega, failS_0 ..⟩
    · rw [e0]
      have := hQ2.1
      unfold Cn cn at *
      rw [rowRmv_t (by decide) (by decide)]; exact this
    · rw [e0]
      refine QI_of hQ2.2.1 ?_ ?_ <;> simp [rowRmv, sg, sga, up1]
    · rw [e0]
      refine ⟨hP3, fun c hc => ?_, hQ2.2.2.2, h1', by omega, by omega⟩
      have := hQ2.2.2.1 c hc
      unfold cn at *
      rw [rowRmv_t (by decide) (by decide), rowRmv_t (by decide) (by decide)]
      exact this
  · have e0 : failS σ k cause = rowIns (sg (endB σ) 13 1 0 (nI (k / 2))) 1 0 (pn σ) (nI ((k + 1) / 2)) := if_neg hk1
    have hP2 := PI_set (v := nI (k / 2)) hP' rfl
    have hP3 := PI_ins (v := nI ((k + 1) / 2)) hP2 hpn rfl (by simp; omega)
    have hQ2 : QC (failS σ k cause) qs := by
      rw [e0]
      refine QC_of hQ' ?_ ?_ ?_ (fun c => ?_) <;> simp [rowIns, sg, sga, up1]
    refine ⟨qs, (k + 1) / 2 :: k / 2 :: ps, ⟨⟨hQ2.1, hQ2.2.1, ?_, hQ2.2.2.1, hQ2.2.2.2, ?_, ?_, ?_⟩, Bt_0 (failS_0 ..) (failS_10 ..)⟩, ?_, failS_0 ..⟩
    · rw [e0]; exact hP3
    · intro p hp
      rcases List.mem_cons.mp hp with rfl | hp
      · omega
      · rcases List.mem_cons.mp hp with rfl | hp
        · omega
        · exact h1' p hp
    · simp only [List.sum_cons]; omega
    · simp only [List.sum_cons]; omega
    · simp only [List.length_cons]; omega
theorem tkN_QC : ∀ (n : Nat) (σ : Sg) (qs : List Nat), QC σ qs → n ≤ qs.length → QC (tkN n σ) (qs.drop n)
  | 0, σ, qs, h, _ => by simpa [tkN] using h
  | n + 1, σ, qs, h, hn => by
    have h1 := tkN_QC n (tfq σ 0 2 0) (qs.eraseIdx 0) (QC_tfq h (by omega)) (by rw [List.length_eraseIdx, if_pos (by omega)]; omega)
    cases qs with
    | nil => simp at hn
    | cons a t => simpa [tkN] using h1
theorem passS_0 (σ : Sg) : (passS σ) 0 0 1 = 0 := mb_end _
theorem pass_Wk {σ : Sg} {qs ps : List Nat} (h : Wk σ qs ps) (hm : mb σ ≠ 0) : ∃ ps', ps = mb σ :: ps' ∧ Wk (passS σ) (qs.drop (mb σ)) ps' := by
  obtain ⟨hQ, h0, hB⟩ := h
  rcases hB with ⟨e, -⟩ | ⟨h1, ps', hps⟩
  · exact absurd e hm
  · refine ⟨ps', hps, ?_⟩
    subst hps
    have hC := QP_C hQ
    obtain ⟨a1, a2, a3, a4, a5, a6, a7, a8⟩ := hQ
    simp only [List.sum_cons] at a7 a8
    have hC1 : QC (trkS σ) qs := QC_of hC (by simp [trkS, sg, sga, up1]) (by simp [trkS, sg, sga, up1]) (by simp [trkS, sg, sga, up1]) (fun c => by simp [trkS, sg, sga, up1])
    have hC2 := tkN_QC (mb σ) (trkS σ) qs hC1 (by omega)
    have hP1 : PI (tkN (mb σ) (trkS σ)) (mb σ :: ps') := PI_of a3 (by rw [(tkN_p _ _).2]; simp [trkS, sg, sga, up1]) (by rw [(tkN_p _ _).1]; simp [trkS, sg, sga, up1])
    have hP2 := PI_rmv (n := pn σ) hP1 (by rw [PI_pn a3]; rfl)
    have e5 : ∀ τ : Sg, ∀ n, (endB (rowRmv τ 1 0 n)) 5 = τ 5 := fun τ n => by rw [endB_t (by decide) (by decide), rowRmv_t (by decide) (by decide)]
    have hC3 : QC (passS σ) (qs.drop (mb σ)) := by
      unfold passS
      refine QC_of hC2 (by rw [e5]) ?_ ?_ (fun c => ?_)
      · rw [endB_t (by decide) (by decide)]; simp [rowRmv, sg, sga, up1]
      · rw [endB_t (by decide) (by decide)]; simp [rowRmv, sg, sga, up1]
      · rw [endB_t (by decide) (by decide), rowRmv_t (by decide) (by decide)]
    refine ⟨⟨hC3.1, hC3.2.1, ?_, hC3.2.2.1, hC3.2.2.2, fun p hp => a6 p (List.mem_cons_of_mem _ hp), by omega, by rw [List.length_drop]; omega⟩, Bt_0 (passS_0 σ) (by unfold passS; rw [endB_10])⟩
    unfold passS
    exact PI_of hP2 (by rw [endB_t (by decide) (by decide)]) (by rw [endB_t (by decide) (by decide)])
/-- what a job's end leaves -/
theorem Wk_j {σ τ : Sg} {qs ps : List Nat} (h : Wk σ qs ps) (hm : mb σ ≠ 0) (ht : ∀ t, t ≠ 10 → t ≠ 11 → t ≠ 12 → τ t = σ t) : Wk τ qs ps := by
  have e0 : mb τ = mb σ := by unfold mb; rw [ht 0 (by decide) (by decide) (by decide)]
  refine ⟨QP_of h.1 (by rw [ht 5 (by decide) (by decide) (by decide)]) (ht 3 (by decide) (by decide) (by decide)) (ht 13 (by decide) (by decide) (by decide)) (fun c => by rw [ht 1 (by decide) (by decide) (by decide)]), by rw [e0, ht 0 (by decide) (by decide) (by decide)]; exact h.2.1, ?_⟩
  rw [e0]
  rcases h.2.2 with ⟨e, -⟩ | h1
  · exact absurd e hm
  · exact Or.inr h1
theorem judge_Wk {σ : Sg} {qs ps : List Nat} (h : Wk σ qs ps) (hm : mb σ ≠ 0) : ∃ qs' ps', Wk (judgeS σ) qs' ps' := by
  unfold judgeS
  split
  · split
    · obtain ⟨ps', -, h1⟩ := pass_Wk h hm
      exact ⟨_, _, h1⟩
    · exact ⟨_, _, h⟩
  · obtain ⟨hQ, h0, hB⟩ := h
    rcases hB with ⟨e, -⟩ | ⟨h1, ps', rfl⟩
    · exact absurd e hm
    · obtain ⟨q, p, h2, -⟩ := fail_Wk (cause := 10 + firstF σ) (QP_C hQ) hQ.2.2.1 hQ.2.2.2.2.2.1 hQ.2.2.2.2.2.2.1 hQ.2.2.2.2.2.2.2
      exact ⟨q, p, h2⟩
theorem ex_t {σ : Sg} {j : Nat} {m : Int32} {t : Nat} (h10 : t ≠ 10) : (expireB σ j m) t = σ t := by
  unfold expireB
  split
  · exact sg_t h10
  · unfold failJ; exact sga_t h10
theorem expI_Wk (all rt : Int32) : ∀ (n v : Nat) (τ : Sg) (x : Int32) (qs ps : List Nat), v + n = 4 → Wk τ qs ps → ∃ qs' ps', Wk (expI all rt n v τ x).1 qs' ps'
  | 0, v, τ, x, qs, ps, _, h => ⟨qs, ps, h⟩
  | n + 1, v, τ, x, qs, ps, hv, h => by
    unfold expI
    split
    · exact expI_Wk all rt n (v + 1) τ x qs ps (by omega) h
    · rename_i hne
      have hJ := Lok_J (v := v) (by omega) (Wk_L h) (fun q => hne (Or.inl q))
      have hm : mb τ ≠ 0 := by have := hJ.2.2.2.2.1; omega
      have h2 : Wk (expireB τ (tn (leasedJ τ (nI v))) (rt + 1)) qs ps := Wk_j h hm (fun t h10 _ _ => ex_t h10)
      obtain ⟨qs', ps', h3⟩ := judge_Wk h2 (by unfold mb at *; rw [ex_t (by decide)]; exact hm)
      exact expI_Wk all rt n (v + 1) _ _ qs' ps' (by omega) h3
