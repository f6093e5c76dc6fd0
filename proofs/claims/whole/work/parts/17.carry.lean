set_option maxRecDepth 10000 in
theorem L_X6_build34 {l : Launch} {w : WW} {Φ : Option Value → XX → Prop} {M : Mem} {τ : Sg} {qs ps : List Nat} {k : Nat} {v1 : Option Value} (hQ : QP τ qs (k :: ps)) (h : Φ none (zx w M 0 (buildT τ (pn τ) (mfS τ (tn (τ 13 1 0)))))) : A l w yX6_buildBatch cX6_buildBatch 2 none (rmd 4) Φ 34 [some (.ref (ad w 0 5 0)), v1] [] (zx w M 0 τ) 0 0 := by
  have hP := hQ.2.2.1
  have a6 := hQ.2.2.2.2.2.1
  have a7 := hQ.2.2.2.2.2.2.1
  have a8 := hQ.2.2.2.2.2.2.2
  have hk := a6 k List.mem_cons_self
  have hsl := sum_len ps (fun p hp => a6 p (List.mem_cons_of_mem _ hp))
  simp only [List.sum_cons] at a7 a8
  have hkq : k ≤ qs.length := by omega
  have hPn := PI_Pn hP
  have hpn : pn τ = ps.length + 1 := by rw [PI_pn hP]; rfl
  have ek : tn (τ 13 1 0) = k := by rw [hP.2.2 0 k rfl]; exact tn_nI (by omega)
  have e4 : rowAt (τ 13 1) (pn τ) 0 = nI k := by
    show rowAt (τ 13 1) (pn τ) (nI 0) = nI k
    rw [rowAt, if_pos (inr_of (by omega) (by have := hPn.2; omega)), nI_clamp (by omega)]
    exact hP.2.2 0 k rfl
  have hC0 : QC (sga τ 9 0 (τ 8 0)) qs := by
    refine QC_of (QP_C hQ) ?_ ?_ ?_ (fun c => ?_) <;> rw [sga_t (by decide)]
  obtain ⟨qs', h2, h3, h4, h5, h6, h7, h9⟩ := mfI_ok k 0 _ qs hC0 (by omega)
  have h2 : QC (mfS τ k).1 qs' := h2
  have h3 : 0 ≤ (mfS τ k).2 := h3
  have h4 : (mfS τ k).2 ≤ 0 + k := h4
  have h5 : qs'.length + k + 0 = qs.length + (mfS τ k).2 := h5
  have h6 : ∀ t, t ≠ 1 → t ≠ 3 → t ≠ 9 → t ≠ 13 → (mfS τ k).1 t = (sga τ 9 0 (τ 8 0)) t := h6
  have h7 : (mfS τ k).1 13 1 = τ 13 1 := h7.trans (by rw [sga_t (by decide)])
  have h9 : (mfS τ k).1 3 1 = τ 3 1 := h9.trans (by rw [sga_t (by decide)])
  refine a_aload_n dX6_buildBatch_34 rfl ?_
  refine a_aload_n dX6_buildBatch_35 rfl ?_
  refine c_getR (t := 5) (k := 6) dX6_buildBatch_36 kw_58 rfl ?_
  refine a_iconst (v := 0) dX6_buildBatch_39 (by decide) ?_
  refine c_V1I dX6_buildBatch_40 kw_294 kv_X4_at (s_X4_at (c := 1) (n := pn τ) rfl rfl hPn.1 hPn.2) ?_
  rw [e4]
  refine c_V1I dX6_buildBatch_43 kw_348 kv_X6_mergeFirst (s_X6_mergeFirst (QP_C hQ) hkq) ?_
  generalize hr : mfS τ k = r at *
  obtain ⟨r, m⟩ := r
  simp only at h2 h3 h4 h5 h6 h7 h9 ⊢
  have hP1 : PI r (k :: ps) := PI_of hP h9 h7
  refine a_istore_1 dX6_buildBatch_46 (by decide) ?_
  refine a_iload_n dX6_buildBatch_47 rfl ?_
  refine a_if_ne (tgt := 60) dX6_buildBatch_48 (by decide) (fun c_48 => ?_) (fun c_48 => ?_)
  · have hm0 : ¬ m = 0 := fun q => c_48 (by rw [q]; rfl)
    have hP2 := PI_set (v := nI m) hP1 rfl
    have hC2 := fin_QC (v := nI m) h2
    have hT : buildT τ (pn τ) (r, m) = _ := if_neg hm0
    rw [ek, hr, hT] at h
    refine a_aload_n dX6_buildBatch_60 rfl ?_
    refine c_getR (t := 5) (k := 6) dX6_buildBatch_61 kw_58 rfl ?_
    refine a_iload_n dX6_buildBatch_64 rfl ?_
    refine c_V1V dX6_buildBatch_65 kw_306 kv_X4_replaceFirst (s_X4_replaceFirst (c := 1) (n := pn τ) rfl rfl (by rw [hpn]; exact hP1.1) (by omega) hPn.2) ?_
    refine a_aload_n dX6_buildBatch_68 rfl ?_
    refine c_getR (t := 5) (k := 7) dX6_buildBatch_69 kw_62 rfl ?_
    refine c_V0I dX6_buildBatch_72 kw_360 kv_X0_pipeline s_X0_pipeline ?_
    refine c_S1I dX6_buildBatch_75 kw_361 ks_X3_isValid s_X3_isValid ?_
    refine a_if_eq (tgt := 92) dX6_buildBatch_78 (by decide) (fun c_78 => ?_) (fun c_78 => ?_)
    · refine a_aload_n dX6_buildBatch_92 rfl ?_
      refine a_iload_n dX6_buildBatch_93 rfl ?_
      refine a_iconst (v := 2) dX6_buildBatch_94 (by decide) ?_
      refine c_V2V dX6_buildBatch_95 kw_282 kv_X6_failBatch (s_X6_failBatch (QC_ok hC2) (PI_Pn hP2) (by rw [PI_pn hP2]; simp) (by omega) (by omega) (fun e => by rw [QI_qn hC2.2.1]; omega) (fun e => by rw [PI_pn hP2]; simp only [List.length_cons]; omega)) ?_
      exact c_vret dX6_buildBatch_98 (by first | (rw [if_pos (bi_n0.mp c_78)] at h; exact h) | (rw [if_neg (by rw [bi_0.mp c_78]; decide)] at h; exact h))
    · refine a_aload_n dX6_buildBatch_81 rfl ?_
      refine c_getR (t := 5) (k := 7) dX6_buildBatch_82 kw_62 rfl ?_
      refine a_iload_n dX6_buildBatch_85 rfl ?_
      refine c_V1V dX6_buildBatch_86 kw_366 kv_X0_start s_X0_start ?_
      refine a_goto (tgt := 98) dX6_buildBatch_89 (by decide) ?_
      exact c_vret dX6_buildBatch_98 (by first | (rw [if_pos (bi_n0.mp c_78)] at h; exact h) | (rw [if_neg (by rw [bi_0.mp c_78]; decide)] at h; exact h))
  · have hm0 : m = 0 := nI_inj (b := 0) c_48 (by omega) (by omega)
    subst hm0
    refine a_aload_n dX6_buildBatch_51 rfl ?_
    refine c_getR (t := 5) (k := 6) dX6_buildBatch_52 kw_58 rfl ?_
    refine a_iconst (v := 0) dX6_buildBatch_55 (by decide) ?_
    refine c_V1V dX6_buildBatch_56 kw_302 kv_X4_removeAt (s_X4_removeAt (c := 1) (j := 0) (n := pn τ) rfl rfl (by rw [hpn]; exact hP1.1) (by omega) hPn.2) ?_
    exact c_vret dX6_buildBatch_59 (by rw [ek, hr] at h; exact h)
set_option maxRecDepth 10000 in
theorem s_X6_buildBatch {l : Launch} {w : WW} {M : Mem} {σ : Sg} {qs ps : List Nat} {b : Nat} (hb : M 2 4 0 1 = nI b) (b1 : 1 ≤ b) (b8 : b ≤ 8) (h : Wk σ qs ps) (hq : 0 < qs.length) : Can l w yX6_buildBatch cX6_buildBatch 2 none (rmd 4) [.ref (ad w 0 5 0)] (zx w M 0 σ) (RV (zx w M 0 (buildB (M 2 4 0 1) σ))) := by
  refine Can.go (ls := [some (.ref (ad w 0 5 0)), none]) ?_
  obtain ⟨k, ps1, hQ, -⟩ := planned_QP hb b1 b8 h.1 hq
  have hPn := PI_Pn h.1.2.2.1
  refine a_aload_n dX6_buildBatch_0 rfl ?_
  refine c_getR (t := 5) (k := 6) dX6_buildBatch_1 kw_58 rfl ?_
  refine c_getI (t := 3) (k := 1) dX6_buildBatch_4 kw_337 ?_
  refine a_if_ne (tgt := 34) dX6_buildBatch_7 (by decide) (fun c_7 => ?_) (fun c_7 => ?_)
  · refine a_eq (x' := zx w M 0 (planned (M 2 4 0 1) σ)) (by unfold planned; first | rw [if_neg c_7] | rw [if_pos c_7]) ?_
    exact L_X6_build34 hQ ⟨rfl, rfl⟩
  · refine a_aload_n dX6_buildBatch_10 rfl ?_
    refine c_getR (t := 5) (k := 6) dX6_buildBatch_11 kw_58 rfl ?_
    refine a_aload_n dX6_buildBatch_14 rfl ?_
    refine c_getR (t := 5) (k := 0) dX6_buildBatch_15 kw_63 rfl ?_
    refine e_getI (t := 4) (k := 1) dX6_buildBatch_18 kw_346 ?_
    refine a_aload_n dX6_buildBatch_21 rfl ?_
    refine c_getR (t := 5) (k := 5) dX6_buildBatch_22 kw_57 rfl ?_
    refine c_getI (t := 3) (k := 1) dX6_buildBatch_25 kw_337 ?_
    refine a_min dX6_buildBatch_28 kw_347 kw_40 kw_41 kw_42 ⟨by decide, by exact Nat.le_of_ble_eq_true rfl⟩ ⟨Nat.zero_le _, Nat.zero_le _⟩ ?_
    have h0 : pn σ = 0 := by
      have := hPn.1.symm.trans c_7
      exact nI_inj (b := 0) this (by have := hPn.2; omega) (by omega)
    refine c_V1V dX6_buildBatch_31 kw_211 kv_X4_append (s_X4_append (c := 1) (n := pn σ) rfl rfl hPn.1 (by rw [h0]; decide)) ?_
    refine a_eq (x' := zx w M 0 (planned (M 2 4 0 1) σ)) (by unfold planned; first | rw [if_neg c_7] | rw [if_pos c_7]) ?_
    exact L_X6_build34 hQ ⟨rfl, rfl⟩
set_option maxRecDepth 10000 in
theorem L_X6_bld {l : Launch} {w : WW} {Φ : Option Value → XX → Prop} {M : Mem} {b : Nat} (hb : M 2 4 0 1 = nI b) (b1 : 1 ≤ b) (b8 : b ≤ 8) : ∀ (n : Nat) {i : Nat} {σ : Sg} {qs ps : List Nat}, i + n ≤ 100 → Wk σ qs ps → 2 * qs.length ≤ n + ps.length → (∀ v, A l w yX6_buildBatches cX6_buildBatches 2 none (rmd 5) Φ 38 [some (.ref (ad w 0 5 0)), v] [] (zx w M 0 (bld (M 2 4 0 1) n σ)) 0 0) → A l w yX6_buildBatches cX6_buildBatches 2 none (rmd 5) Φ 2 [some (.ref (ad w 0 5 0)), some (.int (nI i))] [] (zx w M 0 σ) 0 0 := by
  intro n
  induction n with
  | zero =>
    intro i σ qs ps hi h hm kk
    refine a_iload_n dX6_buildBatches_2 rfl ?_
    refine a_ldc (v := 1000000) dX6_buildBatches_3 kw_336 ?_
    refine a_icmp_ge (tgt := 38) dX6_buildBatches_5 (by decide) (fun c_5 => absurd c_5 (nI_ge (b := 1000000) (by omega) (by omega))) (fun c_5 => ?_)
    refine a_aload_n dX6_buildBatches_8 rfl ?_
    refine c_getR (t := 5) (k := 7) dX6_buildBatches_9 kw_62 rfl ?_
    refine c_V0I dX6_buildBatches_12 kw_338 kv_X0_isUnderTest s_X0_isUnderTest ?_
    refine a_if_ne (tgt := 38) dX6_buildBatches_15 (by decide) (fun c_15 => ?_) (fun c_15 => ?_)
    · exact kk _
    · refine a_aload_n dX6_buildBatches_18 rfl ?_
      refine c_getR (t := 5) (k := 5) dX6_buildBatches_19 kw_57 rfl ?_
      refine c_getI (t := 3) (k := 1) dX6_buildBatches_22 kw_337 ?_
      refine a_if_le (tgt := 38) dX6_buildBatches_25 (by decide) (fun c_25 => ?_) (fun c_25 => ?_)
      · exact kk _
      · have hs := sum_len ps h.1.2.2.2.2.2.1
        have hs2 := h.1.2.2.2.2.2.2.2
        exact absurd (by rw [h.1.2.1.1, show qs.length = 0 by omega]; decide) c_25
  | succ n ih =>
    intro i σ qs ps hi h hm kk
    refine a_iload_n dX6_buildBatches_2 rfl ?_
    refine a_ldc (v := 1000000) dX6_buildBatches_3 kw_336 ?_
    refine a_icmp_ge (tgt := 38) dX6_buildBatches_5 (by decide) (fun c_5 => absurd c_5 (nI_ge (b := 1000000) (by omega) (by omega))) (fun c_5 => ?_)
    refine a_aload_n dX6_buildBatches_8 rfl ?_
    refine c_getR (t := 5) (k := 7) dX6_buildBatches_9 kw_62 rfl ?_
    refine c_V0I dX6_buildBatches_12 kw_338 kv_X0_isUnderTest s_X0_isUnderTest ?_
    refine a_if_ne (tgt := 38) dX6_buildBatches_15 (by decide) (fun c_15 => ?_) (fun c_15 => ?_)
    · have e : bld (M 2 4 0 1) (n + 1) σ = σ := by
        rw [bld]
        first
          | exact if_neg (fun q => absurd (bi_n0.mp c_15) (by rw [decide_eq_true q.1]; decide))
          | exact if_neg (fun q => q.2 c_25)
      rw [e] at kk
      exact kk _
    · refine a_aload_n dX6_buildBatches_18 rfl ?_
      refine c_getR (t := 5) (k := 5) dX6_buildBatches_19 kw_57 rfl ?_
      refine c_getI (t := 3) (k := 1) dX6_buildBatches_22 kw_337 ?_
      refine a_if_le (tgt := 38) dX6_buildBatches_25 (by decide) (fun c_25 => ?_) (fun c_25 => ?_)
      · have e : bld (M 2 4 0 1) (n + 1) σ = σ := by
          rw [bld]
          first
            | exact if_neg (fun q => absurd (bi_n0.mp c_15) (by rw [decide_eq_true q.1]; decide))
            | exact if_neg (fun q => q.2 c_25)
        rw [e] at kk
        exact kk _
      · refine a_aload_n dX6_buildBatches_28 rfl ?_
        have e0 : σ 0 0 1 ≤ 0 := by
          have := bi_0.mp c_15
          simpa using this
        have hq : 0 < qs.length := by
          rcases Nat.eq_zero_or_pos qs.length with e | e
          · exact absurd (by rw [h.1.2.1.1, e]; decide) c_25
          · exact e
        obtain ⟨q, p, g1, g2⟩ := build_Wk hb b1 b8 h e0 hq
        refine c_V0V dX6_buildBatches_29 kw_342 kv_X6_buildBatch (s_X6_buildBatch hb b1 b8 h hq) ?_
        refine a_iinc_1 (u := nI (i + 1)) dX6_buildBatches_32 (inc_nI i) (by decide) ?_
        refine a_goto (tgt := 2) dX6_buildBatches_35 (by decide) ?_
        have e : bld (M 2 4 0 1) (n + 1) σ = bld (M 2 4 0 1) n (buildB (M 2 4 0 1) σ) := by
          rw [bld]
          exact if_pos ⟨e0, c_25⟩
        rw [e] at kk
        by_cases hz : (buildB (M 2 4 0 1) σ) 0 0 1 ≤ 0
        · have := g2 hz
          exact ih (by omega) g1 (by omega) kk
        · have ez : ∀ n, bld (M 2 4 0 1) n (buildB (M 2 4 0 1) σ) = buildB (M 2 4 0 1) σ := fun n => by
            cases n with
            | zero => rfl
            | succ n => exact if_neg (fun q => hz q.1)
          rw [ez] at kk
          refine a_iload_n dX6_buildBatches_2 rfl ?_
          refine a_ldc (v := 1000000) dX6_buildBatches_3 kw_336 ?_
          refine a_icmp_ge (tgt := 38) dX6_buildBatches_5 (by decide) (fun c_5 => absurd c_5 (nI_ge (b := 1000000) (by omega) (by omega))) (fun c_5 => ?_)
          refine a_aload_n dX6_buildBatches_8 rfl ?_
          refine c_getR (t := 5) (k := 7) dX6_buildBatches_9 kw_62 rfl ?_
          refine c_V0I dX6_buildBatches_12 kw_338 kv_X0_isUnderTest s_X0_isUnderTest ?_
          refine a_if_ne (tgt := 38) dX6_buildBatches_15 (by decide) (fun c_15 => ?_) (fun c_15 => absurd (bi_0.mp c_15) (by rw [decide_eq_false hz]; decide))
          exact kk _
set_option maxRecDepth 10000 in
theorem s_X6_buildBatches {l : Launch} {w : WW} {M : Mem} {σ : Sg} {qs ps : List Nat} {b : Nat} (hb : M 2 4 0 1 = nI b) (b1 : 1 ≤ b) (b8 : b ≤ 8) (h : Wk σ qs ps) : Can l w yX6_buildBatches cX6_buildBatches 2 none (rmd 5) [.ref (ad w 0 5 0)] (zx w M 0 σ) (RV (zx w M 0 (bld (M 2 4 0 1) 40 σ))) := by
  refine Can.go (ls := [some (.ref (ad w 0 5 0)), none]) ?_
  refine a_iconst (v := 0) dX6_buildBatches_0 (by decide) ?_
  refine a_istore_1 dX6_buildBatches_1 (by decide) ?_
  exact L_X6_bld hb b1 b8 40 (i := 0) (by omega) h (by have := h.1.2.1.2.1; omega) (fun v => c_vret dX6_buildBatches_38 ⟨rfl, rfl⟩)
set_option maxRecDepth 10000 in
theorem s_X6_recover {l : Launch} {w : WW} {M : Mem} {σ : Sg} {qs ps : List Nat} {b : Nat} (hb : M 2 4 0 1 = nI b) (b1 : 1 ≤ b) (b8 : b ≤ 8) (h : Wk σ qs ps) : Can l w yX6_recover cX6_recover 1 none (rmd 6) [.ref (ad w 0 5 0)] (zx w M 0 σ) (RV (zx w M 0 (bld (M 2 4 0 1) 40 (expI 1 (M 2 4 0 2) 4 0 σ 0).1))) := by
  refine Can.go (ls := [some (.ref (ad w 0 5 0))]) ?_
  obtain ⟨q, p, g1⟩ := expI_Wk 1 (M 2 4 0 2) 4 0 σ 0 qs ps rfl h
  refine a_aload_n dX6_recover_0 rfl ?_
  refine a_iconst (v := 1) dX6_recover_1 (by decide) ?_
  refine c_V1I dX6_recover_2 kw_321 kv_X6_expireLeases (s_X6_expireLeases (Wk_L h)) ?_
  refine a_pop dX6_recover_5 rfl ?_
  refine a_aload_n dX6_recover_6 rfl ?_
  refine c_V0V dX6_recover_7 kw_332 kv_X6_buildBatches (s_X6_buildBatches hb b1 b8 g1) ?_
  exact c_vret dX6_recover_10 ⟨rfl, rfl⟩
def tickN (z : Nat → Int32) : Nat → Sg → Int32 → Sg × Int32
  | 0, σ, x => (σ, x)
  | n + 1, σ, x => tickN z n (bld (z 1) 40 (expI 0 (z 2) 4 0 (sg σ 5 0 8 (σ 5 0 8 + 1)) 0).1) (x + (expI 0 (z 2) 4 0 (sg σ 5 0 8 (σ 5 0 8 + 1)) 0).2)
/-- what an event of a kind does, and answers -/
def stepK (z : Nat → Int32) (kd : Nat) (a b c : Int32) (σ : Sg) : Sg × Int32 := match kd with
  | 0 => (addC σ, σ 5 0 4)
  | 1 => (dropR (sg σ 15 (tn a) (tn b) c) (tn a), 0)
  | 2 => (addF σ (tn a) b, 0)
  | 3 => (addA σ (tn a) b, 0)
  | 4 => (become σ (tn a) 4 0, 0)
  | 5 => (rowIns (become σ (tn a) 1 0) 0 (qn σ) (qn σ) a, 0)
  | 6 => (moveO σ (tn a), 0)
  | 7 => (leaseN (z 3) σ (tn a), nextJ σ)
  | 8 => (endJ σ (tn (leasedJ σ a)) b, 0)
  | _ => tickN z (tn a) σ 0
theorem sgt_Wk {σ : Sg} {qs ps : List Nat} {v : Int32} (h : Wk σ qs ps) : Wk (sg σ 5 0 8 v) qs ps := by
  refine ⟨QP_of h.1 (by simp [sg, up1]) (by simp [sg, up1]) (by simp [sg, up1]) (fun c => by simp [sg, up1]), ?_⟩
  have e0 : mb (sg σ 5 0 8 v) = mb σ := by unfold mb; rw [sg_t (by decide)]
  unfold Bt
  rw [e0, sg_t (by decide), sg_t (by decide)]
  exact h.2
theorem tickN_Wk {z : Nat → Int32} {b : Nat} (hb : z 1 = nI b) (h1 : 1 ≤ b) (h8 : b ≤ 8) : ∀ (n : Nat) (σ : Sg) (x : Int32) (qs ps : List Nat), Wk σ qs ps → ∃ qs' ps', Wk (tickN z n σ x).1 qs' ps'
  | 0, σ, x, qs, ps, h => ⟨qs, ps, h⟩
  | n + 1, σ, x, qs, ps, h => by
    unfold tickN
    obtain ⟨q, p, g1⟩ := expI_Wk 0 (z 2) 4 0 _ 0 qs ps rfl (sgt_Wk (v := σ 5 0 8 + 1) h)
    obtain ⟨q2, p2, g2⟩ := bld_Wk hb h1 h8 40 _ q p g1
    exact tickN_Wk hb h1 h8 n _ _ q2 p2 g2
set_option maxRecDepth 10000 in
theorem L_tail {l : Launch} {w : WW} {Φ : Option Value → XX → Prop} {M : Mem} {τ : Sg} {x : Int32} {v3 : Option Value} {e : Nat} {qs ps : List Nat} {b : Nat} (hb : M 2 4 0 1 = nI b) (b1 : 1 ≤ b) (b8 : b ≤ 8) (h : Wk τ qs ps) (hΦ : Φ (some (.int x)) (zx w M 0 (bld (M 2 4 0 1) 40 τ))) : A l w yX6_carryOut cX6_carryOut 4 (some .int) (rmd 6) Φ 268 [some (.ref (ad w 0 5 0)), some (.ref (ad w 2 2 e)), some (.int x), v3] [] (zx w M 0 τ) 0 0 := by
  refine a_aload_n dX6_carryOut_268 rfl ?_
  refine c_V0V dX6_carryOut_269 kw_332 kv_X6_buildBatches (s_X6_buildBatches hb b1 b8 h) ?_
  refine a_iload_n dX6_carryOut_272 rfl ?_
  exact c_iret dX6_carryOut_273 hΦ
set_option maxRecDepth 10000 in
theorem s_carry_0 {l : Launch} {w : WW} {M : Mem} {σ : Sg} {e : Nat} (he : rl 2 2 e = true) {qs ps : List Nat} {b : Nat} (hb : M 2 4 0 1 = nI b) (b1 : 1 ≤ b) (b8 : b ≤ 8) (hk : M 2 2 e 0 = 0) (hw : Wk (stepK (M 2 4 0) 0 (M 2 2 e 1) (M 2 2 e 2) (M 2 2 e 3) σ).1 qs ps) (hc : Cn σ) (hlt : cn σ < 16) : Can l w yX6_carryOut cX6_carryOut 4 (some .int) (rmd 6) [.ref (ad w 0 5 0), .ref (ad w 2 2 e)] (zx w M 0 σ) (RI (stepK (M 2 4 0) 0 (M 2 2 e 1) (M 2 2 e 2) (M 2 2 e 3) σ).2 (zx w M 0 (bld (M 2 4 0 1) 40 (stepK (M 2 4 0) 0 (M 2 2 e 1) (M 2 2 e 2) (M 2 2 e 3) σ).1))) := by
  refine Can.go (ls := [some (.ref (ad w 0 5 0)), some (.ref (ad w 2 2 e)), none, none]) ?_
  refine a_iconst (v := 0) dX6_carryOut_0 (by decide) ?_
  refine a_istore_2 dX6_carryOut_1 (by decide) ?_
  refine a_aload_n dX6_carryOut_2 rfl ?_
  refine e_getI (t := 2) (k := 0) dX6_carryOut_3 kw_178 ?_
  rw [hk]
  refine a_tabIn (tgt := 60) (d_ := 54) dX6_carryOut_6 (by decide) (by decide) rfl (by decide) ?_
  refine a_aload_n dX6_carryOut_60 rfl ?_
  refine c_V0I dX6_carryOut_61 kw_182 kv_X6_addChange (s_X6_addChange hc hlt) ?_
  refine a_istore_2 dX6_carryOut_64 (by decide) ?_
  refine a_goto (tgt := 268) dX6_carryOut_65 (by decide) ?_
  exact L_tail hb b1 b8 hw ⟨rfl, rfl⟩
theorem s_setC {l : Launch} {w : WW} {M : Mem} {σ : Sg} {c : Nat} (hc : c < 16) {p : Nat} {q v : Int32} (hq : q = nI p) (hp : p < 6) : Can l w yX1_setContent cX1_setContent 3 none (rmd 2) [.ref (ad w 0 1 c), .int q, .int v] (zx w M 0 σ) (RV (zx w M 0 (dropR (sg σ 15 c p v) c))) := by
  subst hq
  exact s_X1_setContent hc hp
set_option maxRecDepth 10000 in
theorem s_carry_1 {l : Launch} {w : WW} {M : Mem} {σ : Sg} {e : Nat} (he : rl 2 2 e = true) {qs ps : List Nat} {b : Nat} (hb : M 2 4 0 1 = nI b) (b1 : 1 ≤ b) (b8 : b ≤ 8) (hk : M 2 2 e 0 = 1) (hw : Wk (stepK (M 2 4 0) 1 (M 2 2 e 1) (M 2 2 e 2) (M 2 2 e 3) σ).1 qs ps) (hc : M 2 2 e 1 = nI (tn (M 2 2 e 1))) (h16 : tn (M 2 2 e 1) < 16) (hp : M 2 2 e 2 = nI (tn (M 2 2 e 2))) (hp6 : tn (M 2 2 e 2) < 6) : Can l w yX6_carryOut cX6_carryOut 4 (some .int) (rmd 6) [.ref (ad w 0 5 0), .ref (ad w 2 2 e)] (zx w M 0 σ) (RI (stepK (M 2 4 0) 1 (M 2 2 e 1) (M 2 2 e 2) (M 2 2 e 3) σ).2 (zx w M 0 (bld (M 2 4 0 1) 40 (stepK (M 2 4 0) 1 (M 2 2 e 1) (M 2 2 e 2) (M 2 2 e 3) σ).1))) := by
  refine Can.go (ls := [some (.ref (ad w 0 5 0)), some (.ref (ad w 2 2 e)), none, none]) ?_
  obtain ⟨hr1, hr14, hr15⟩ := rl_ch h16
  refine a_iconst (v := 0) dX6_carryOut_0 (by decide) ?_
  refine a_istore_2 dX6_carryOut_1 (by decide) ?_
  refine a_aload_n dX6_carryOut_2 rfl ?_
  refine e_getI (t := 2) (k := 0) dX6_carryOut_3 kw_178 ?_
  rw [hk]
  refine a_tabIn (tgt := 68) (d_ := 62) dX6_carryOut_6 (by decide) (by decide) rfl (by decide) ?_
  refine a_aload_n dX6_carryOut_68 rfl ?_
  refine c_getR (t := 5) (k := 3) dX6_carryOut_69 kw_53 rfl ?_
  refine a_aload_n dX6_carryOut_72 rfl ?_
  refine e_getI (t := 2) (k := 1) dX6_carryOut_73 kw_179 ?_
  refine c_aald (i := tn (M 2 2 e 1)) dX6_carryOut_76 hc h16 (if_pos h16) ?_
  refine a_aload_n dX6_carryOut_77 rfl ?_
  refine e_getI (t := 2) (k := 2) dX6_carryOut_78 kw_180 ?_
  refine a_aload_n dX6_carryOut_81 rfl ?_
  refine e_getI (t := 2) (k := 3) dX6_carryOut_82 kw_181 ?_
  refine c_V2V dX6_carryOut_85 kw_198 kv_X1_setContent (s_setC h16 hp hp6) ?_
  refine a_goto (tgt := 268) dX6_carryOut_88 (by decide) ?_
  exact L_tail hb b1 b8 hw ⟨rfl, rfl⟩
set_option maxRecDepth 10000 in
theorem s_carry_2 {l : Launch} {w : WW} {M : Mem} {σ : Sg} {e : Nat} (he : rl 2 2 e = true) {qs ps : List Nat} {b : Nat} (hb : M 2 4 0 1 = nI b) (b1 : 1 ≤ b) (b8 : b ≤ 8) (hk : M 2 2 e 0 = 2) (hw : Wk (stepK (M 2 4 0) 2 (M 2 2 e 1) (M 2 2 e 2) (M 2 2 e 3) σ).1 qs ps) (hc : M 2 2 e 1 = nI (tn (M 2 2 e 1))) (h16 : tn (M 2 2 e 1) < 16) : Can l w yX6_carryOut cX6_carryOut 4 (some .int) (rmd 6) [.ref (ad w 0 5 0), .ref (ad w 2 2 e)] (zx w M 0 σ) (RI (stepK (M 2 4 0) 2 (M 2 2 e 1) (M 2 2 e 2) (M 2 2 e 3) σ).2 (zx w M 0 (bld (M 2 4 0 1) 40 (stepK (M 2 4 0) 2 (M 2 2 e 1) (M 2 2 e 2) (M 2 2 e 3) σ).1))) := by
  refine Can.go (ls := [some (.ref (ad w 0 5 0)), some (.ref (ad w 2 2 e)), none, none]) ?_
  obtain ⟨hr1, hr14, hr15⟩ := rl_ch h16
  refine a_iconst (v := 0) dX6_carryOut_0 (by decide) ?_
  refine a_istore_2 dX6_carryOut_1 (by decide) ?_
  refine a_aload_n dX6_carryOut_2 rfl ?_
  refine e_getI (t := 2) (k := 0) dX6_carryOut_3 kw_178 ?_
  rw [hk]
  refine a_tabIn (tgt := 91) (d_ := 85) dX6_carryOut_6 (by decide) (by decide) rfl (by decide) ?_
  refine a_aload_n dX6_carryOut_91 rfl ?_
  refine c_getR (t := 5) (k := 3) dX6_carryOut_92 kw_53 rfl ?_
  refine a_aload_n dX6_carryOut_95 rfl ?_
  refine e_getI (t := 2) (k := 1) dX6_carryOut_96 kw_179 ?_
  refine c_aald (i := tn (M 2 2 e 1)) dX6_carryOut_99 hc h16 (if_pos h16) ?_
  refine a_aload_n dX6_carryOut_100 rfl ?_
  refine e_getI (t := 2) (k := 2) dX6_carryOut_101 kw_180 ?_
  refine c_V1V dX6_carryOut_104 kw_202 kv_X1_addSupporter (s_X1_addSupporter h16) ?_
  refine a_goto (tgt := 268) dX6_carryOut_107 (by decide) ?_
  exact L_tail hb b1 b8 hw ⟨rfl, rfl⟩
set_option maxRecDepth 10000 in
theorem s_carry_3 {l : Launch} {w : WW} {M : Mem} {σ : Sg} {e : Nat} (he : rl 2 2 e = true) {qs ps : List Nat} {b : Nat} (hb : M 2 4 0 1 = nI b) (b1 : 1 ≤ b) (b8 : b ≤ 8) (hk : M 2 2 e 0 = 3) (hw : Wk (stepK (M 2 4 0) 3 (M 2 2 e 1) (M 2 2 e 2) (M 2 2 e 3) σ).1 qs ps) (hc : M 2 2 e 1 = nI (tn (M 2 2 e 1))) (h16 : tn (M 2 2 e 1) < 16) : Can l w yX6_carryOut cX6_carryOut 4 (some .int) (rmd 6) [.ref (ad w 0 5 0), .ref (ad w 2 2 e)] (zx w M 0 σ) (RI (stepK (M 2 4 0) 3 (M 2 2 e 1) (M 2 2 e 2) (M 2 2 e 3) σ).2 (zx w M 0 (bld (M 2 4 0 1) 40 (stepK (M 2 4 0) 3 (M 2 2 e 1) (M 2 2 e 2) (M 2 2 e 3) σ).1))) := by
  refine Can.go (ls := [some (.ref (ad w 0 5 0)), some (.ref (ad w 2 2 e)), none, none]) ?_
  obtain ⟨hr1, hr14, hr15⟩ := rl_ch h16
  refine a_iconst (v := 0) dX6_carryOut_0 (by decide) ?_
  refine a_istore_2 dX6_carryOut_1 (by decide) ?_
  refine a_aload_n dX6_carryOut_2 rfl ?_
  refine e_getI (t := 2) (k := 0) dX6_carryOut_3 kw_178 ?_
  rw [hk]
  refine a_tabIn (tgt := 110) (d_ := 104) dX6_carryOut_6 (by decide) (by decide) rfl (by decide) ?_
  refine a_aload_n dX6_carryOut_110 rfl ?_
  refine c_getR (t := 5) (k := 3) dX6_carryOut_111 kw_53 rfl ?_
  refine a_aload_n dX6_carryOut_114 rfl ?_
  refine e_getI (t := 2) (k := 1) dX6_carryOut_115 kw_179 ?_
  refine c_aald (i := tn (M 2 2 e 1)) dX6_carryOut_118 hc h16 (if_pos h16) ?_
  refine a_aload_n dX6_carryOut_119 rfl ?_
  refine e_getI (t := 2) (k := 2) dX6_carryOut_120 kw_180 ?_
  refine c_V1V dX6_carryOut_123 kw_206 kv_X1_addOpponent (s_X1_addOpponent h16) ?_
  refine a_goto (tgt := 268) dX6_carryOut_126 (by decide) ?_
  exact L_tail hb b1 b8 hw ⟨rfl, rfl⟩
set_option maxRecDepth 10000 in
theorem s_carry_4 {l : Launch} {w : WW} {M : Mem} {σ : Sg} {e : Nat} (he : rl 2 2 e = true) {qs ps : List Nat} {b : Nat} (hb : M 2 4 0 1 = nI b) (b1 : 1 ≤ b) (b8 : b ≤ 8) (hk : M 2 2 e 0 = 4) (hw : Wk (stepK (M 2 4 0) 4 (M 2 2 e 1) (M 2 2 e 2) (M 2 2 e 3) σ).1 qs ps) (hc : M 2 2 e 1 = nI (tn (M 2 2 e 1))) (h16 : tn (M 2 2 e 1) < 16) : Can l w yX6_carryOut cX6_carryOut 4 (some .int) (rmd 6) [.ref (ad w 0 5 0), .ref (ad w 2 2 e)] (zx w M 0 σ) (RI (stepK (M 2 4 0) 4 (M 2 2 e 1) (M 2 2 e 2) (M 2 2 e 3) σ).2 (zx w M 0 (bld (M 2 4 0 1) 40 (stepK (M 2 4 0) 4 (M 2 2 e 1) (M 2 2 e 2) (M 2 2 e 3) σ).1))) := by
  refine Can.go (ls := [some (.ref (ad w 0 5 0)), some (.ref (ad w 2 2 e)), none, none]) ?_
  obtain ⟨hr1, hr14, hr15⟩ := rl_ch h16
  refine a_iconst (v := 0) dX6_carryOut_0 (by decide) ?_
  refine a_istore_2 dX6_carryOut_1 (by decide) ?_
  refine a_aload_n dX6_carryOut_2 rfl ?_
  refine e_getI (t := 2) (k := 0) dX6_carryOut_3 kw_178 ?_
  rw [hk]
  refine a_tabIn (tgt := 129) (d_ := 123) dX6_carryOut_6 (by decide) (by decide) rfl (by decide) ?_
  refine a_aload_n dX6_carryOut_129 rfl ?_
  refine c_getR (t := 5) (k := 3) dX6_carryOut_130 kw_53 rfl ?_
  refine a_aload_n dX6_carryOut_133 rfl ?_
  refine e_getI (t := 2) (k := 1) dX6_carryOut_134 kw_179 ?_
  refine c_aald (i := tn (M 2 2 e 1)) dX6_carryOut_137 hc h16 (if_pos h16) ?_
  refine a_iconst (v := 4) dX6_carryOut_138 (by decide) ?_
  refine a_iconst (v := 0) dX6_carryOut_139 (by decide) ?_
  refine c_V2V dX6_carryOut_140 kw_210 kv_X1_become (s_X1_become h16) ?_
  refine a_goto (tgt := 268) dX6_carryOut_143 (by decide) ?_
  exact L_tail hb b1 b8 hw ⟨rfl, rfl⟩
set_option maxRecDepth 10000 in
theorem s_carry_5 {l : Launch} {w : WW} {M : Mem} {σ : Sg} {e : Nat} (he : rl 2 2 e = true) {qs ps : List Nat} {b : Nat} (hb : M 2 4 0 1 = nI b) (b1 : 1 ≤ b) (b8 : b ≤ 8) (hk : M 2 2 e 0 = 5) (hw : Wk (stepK (M 2 4 0) 5 (M 2 2 e 1) (M 2 2 e 2) (M 2 2 e 3) σ).1 qs ps) (hc : M 2 2 e 1 = nI (tn (M 2 2 e 1))) (h16 : tn (M 2 2 e 1) < 16) (hq : Qn σ) (hlt : qn σ < 16) : Can l w yX6_carryOut cX6_carryOut 4 (some .int) (rmd 6) [.ref (ad w 0 5 0), .ref (ad w 2 2 e)] (zx w M 0 σ) (RI (stepK (M 2 4 0) 5 (M 2 2 e 1) (M 2 2 e 2) (M 2 2 e 3) σ).2 (zx w M 0 (bld (M 2 4 0 1) 40 (stepK (M 2 4 0) 5 (M 2 2 e 1) (M 2 2 e 2) (M 2 2 e 3) σ).1))) := by
  refine Can.go (ls := [some (.ref (ad w 0 5 0)), some (.ref (ad w 2 2 e)), none, none]) ?_
  obtain ⟨hr1, hr14, hr15⟩ := rl_ch h16
  refine a_iconst (v := 0) dX6_carryOut_0 (by decide) ?_
  refine a_istore_2 dX6_carryOut_1 (by decide) ?_
  refine a_aload_n dX6_carryOut_2 rfl ?_
  refine e_getI (t := 2) (k := 0) dX6_carryOut_3 kw_178 ?_
  rw [hk]
  refine a_tabIn (tgt := 146) (d_ := 140) dX6_carryOut_6 (by decide) (by decide) rfl (by decide) ?_
  refine a_aload_n dX6_carryOut_146 rfl ?_
  refine c_getR (t := 5) (k := 3) dX6_carryOut_147 kw_53 rfl ?_
  refine a_aload_n dX6_carryOut_150 rfl ?_
  refine e_getI (t := 2) (k := 1) dX6_carryOut_151 kw_179 ?_
  refine c_aald (i := tn (M 2 2 e 1)) dX6_carryOut_154 hc h16 (if_pos h16) ?_
  refine a_iconst (v := 1) dX6_carryOut_155 (by decide) ?_
  refine a_iconst (v := 0) dX6_carryOut_156 (by decide) ?_
  refine c_V2V dX6_carryOut_157 kw_210 kv_X1_become (s_X1_become h16) ?_
  refine a_aload_n dX6_carryOut_160 rfl ?_
  refine c_getR (t := 5) (k := 5) dX6_carryOut_161 kw_57 rfl ?_
  refine a_aload_n dX6_carryOut_164 rfl ?_
  refine e_getI (t := 2) (k := 1) dX6_carryOut_165 kw_179 ?_
  refine c_V1V dX6_carryOut_168 kw_211 kv_X4_append (s_X4_append (c := 0) (n := qn σ) rfl rfl (by unfold become; rw [sg_t (by decide), sg_t (by decide)]; exact hq.1) hlt) ?_
  refine a_goto (tgt := 268) dX6_carryOut_171 (by decide) ?_
  exact L_tail hb b1 b8 hw ⟨rfl, rfl⟩
set_option maxRecDepth 10000 in
theorem s_carry_6 {l : Launch} {w : WW} {M : Mem} {σ : Sg} {e : Nat} (he : rl 2 2 e = true) {qs ps : List Nat} {b : Nat} (hb : M 2 4 0 1 = nI b) (b1 : 1 ≤ b) (b8 : b ≤ 8) (hk : M 2 2 e 0 = 6) (hw : Wk (stepK (M 2 4 0) 6 (M 2 2 e 1) (M 2 2 e 2) (M 2 2 e 3) σ).1 qs ps) (hc : M 2 2 e 1 = nI (tn (M 2 2 e 1))) (h16 : tn (M 2 2 e 1) < 16) : Can l w yX6_carryOut cX6_carryOut 4 (some .int) (rmd 6) [.ref (ad w 0 5 0), .ref (ad w 2 2 e)] (zx w M 0 σ) (RI (stepK (M 2 4 0) 6 (M 2 2 e 1) (M 2 2 e 2) (M 2 2 e 3) σ).2 (zx w M 0 (bld (M 2 4 0 1) 40 (stepK (M 2 4 0) 6 (M 2 2 e 1) (M 2 2 e 2) (M 2 2 e 3) σ).1))) := by
  refine Can.go (ls := [some (.ref (ad w 0 5 0)), some (.ref (ad w 2 2 e)), none, none]) ?_
  obtain ⟨hr1, hr14, hr15⟩ := rl_ch h16
  refine a_iconst (v := 0) dX6_carryOut_0 (by decide) ?_
  refine a_istore_2 dX6_carryOut_1 (by decide) ?_
  refine a_aload_n dX6_carryOut_2 rfl ?_
  refine e_getI (t := 2) (k := 0) dX6_carryOut_3 kw_178 ?_
  rw [hk]
  refine a_tabIn (tgt := 174) (d_ := 168) dX6_carryOut_6 (by decide) (by decide) rfl (by decide) ?_
  refine a_aload_n dX6_carryOut_174 rfl ?_
  refine c_getR (t := 5) (k := 3) dX6_carryOut_175 kw_53 rfl ?_
  refine a_aload_n dX6_carryOut_178 rfl ?_
  refine e_getI (t := 2) (k := 1) dX6_carryOut_179 kw_179 ?_
  refine c_aald (i := tn (M 2 2 e 1)) dX6_carryOut_182 hc h16 (if_pos h16) ?_
  refine a_aload_n dX6_carryOut_183 rfl ?_
  refine c_getR (t := 5) (k := 1) dX6_carryOut_184 kw_51 rfl ?_
  refine c_V1V dX6_carryOut_187 kw_219 kv_X1_moveOnto (s_X1_moveOnto h16) ?_
  refine a_goto (tgt := 268) dX6_carryOut_190 (by decide) ?_
  exact L_tail hb b1 b8 hw ⟨rfl, rfl⟩
set_option maxRecDepth 10000 in
theorem s_carry_7 {l : Launch} {w : WW} {M : Mem} {σ : Sg} {e : Nat} (he : rl 2 2 e = true) {qs ps : List Nat} {b : Nat} (hb : M 2 4 0 1 = nI b) (b1 : 1 ≤ b) (b8 : b ≤ 8) (hk : M 2 2 e 0 = 7) (hw : Wk (stepK (M 2 4 0) 7 (M 2 2 e 1) (M 2 2 e 2) (M 2 2 e 3) σ).1 qs ps) (hv : M 2 2 e 1 = nI (tn (M 2 2 e 1))) (hv4 : tn (M 2 2 e 1) < 4) : Can l w yX6_carryOut cX6_carryOut 4 (some .int) (rmd 6) [.ref (ad w 0 5 0), .ref (ad w 2 2 e)] (zx w M 0 σ) (RI (stepK (M 2 4 0) 7 (M 2 2 e 1) (M 2 2 e 2) (M 2 2 e 3) σ).2 (zx w M 0 (bld (M 2 4 0 1) 40 (stepK (M 2 4 0) 7 (M 2 2 e 1) (M 2 2 e 2) (M 2 2 e 3) σ).1))) := by
  refine Can.go (ls := [some (.ref (ad w 0 5 0)), some (.ref (ad w 2 2 e)), none, none]) ?_
  refine a_iconst (v := 0) dX6_carryOut_0 (by decide) ?_
  refine a_istore_2 dX6_carryOut_1 (by decide) ?_
  refine a_aload_n dX6_carryOut_2 rfl ?_
  refine e_getI (t := 2) (k := 0) dX6_carryOut_3 kw_178 ?_
  rw [hk]
  refine a_tabIn (tgt := 193) (d_ := 187) dX6_carryOut_6 (by decide) (by decide) rfl (by decide) ?_
  refine a_aload_n dX6_carryOut_193 rfl ?_
  refine a_aload_n dX6_carryOut_194 rfl ?_
  refine e_getI (t := 2) (k := 1) dX6_carryOut_195 kw_179 ?_
  rw [hv]
  refine c_V1I dX6_carryOut_198 kw_223 kv_X6_leaseNextJob (s_X6_leaseNextJob hv4) ?_
  refine a_istore_2 dX6_carryOut_201 (by decide) ?_
  refine a_goto (tgt := 268) dX6_carryOut_202 (by decide) ?_
  rw [← hv]
  exact L_tail hb b1 b8 hw ⟨rfl, rfl⟩
set_option maxRecDepth 10000 in
theorem s_carry_8 {l : Launch} {w : WW} {M : Mem} {σ : Sg} {e : Nat} (he : rl 2 2 e = true) {qs ps : List Nat} {b : Nat} (hb : M 2 4 0 1 = nI b) (b1 : 1 ≤ b) (b8 : b ≤ 8) (hk : M 2 2 e 0 = 8) (hw : Wk (stepK (M 2 4 0) 8 (M 2 2 e 1) (M 2 2 e 2) (M 2 2 e 3) σ).1 qs ps) (hJ : Jok σ) (hl : leasedJ σ (M 2 2 e 1) = nI (tn (leasedJ σ (M 2 2 e 1)))) (hj4 : tn (leasedJ σ (M 2 2 e 1)) < 4) : Can l w yX6_carryOut cX6_carryOut 4 (some .int) (rmd 6) [.ref (ad w 0 5 0), .ref (ad w 2 2 e)] (zx w M 0 σ) (RI (stepK (M 2 4 0) 8 (M 2 2 e 1) (M 2 2 e 2) (M 2 2 e 3) σ).2 (zx w M 0 (bld (M 2 4 0 1) 40 (stepK (M 2 4 0) 8 (M 2 2 e 1) (M 2 2 e 2) (M 2 2 e 3) σ).1))) := by
  refine Can.go (ls := [some (.ref (ad w 0 5 0)), some (.ref (ad w 2 2 e)), none, none]) ?_
  refine a_iconst (v := 0) dX6_carryOut_0 (by decide) ?_
  refine a_istore_2 dX6_carryOut_1 (by decide) ?_
  refine a_aload_n dX6_carryOut_2 rfl ?_
  refine e_getI (t := 2) (k := 0) dX6_carryOut_3 kw_178 ?_
  rw [hk]
  refine a_tabIn (tgt := 205) (d_ := 199) dX6_carryOut_6 (by decide) (by decide) rfl (by decide) ?_
  refine a_aload_n dX6_carryOut_205 rfl ?_
  refine a_aload_n dX6_carryOut_206 rfl ?_
  refine c_getR (t := 5) (k := 7) dX6_carryOut_207 kw_62 rfl ?_
  refine a_aload_n dX6_carryOut_210 rfl ?_
  refine e_getI (t := 2) (k := 1) dX6_carryOut_211 kw_179 ?_
  refine c_V1I dX6_carryOut_214 kw_248 kv_X0_leasedJob s_X0_leasedJob ?_
  rw [show leasedJ σ (M 2 2 e 1) = nI (tn (leasedJ σ (M 2 2 e 1))) from hl]
  refine a_aload_n dX6_carryOut_217 rfl ?_
  refine e_getI (t := 2) (k := 2) dX6_carryOut_218 kw_180 ?_
  refine c_V2V dX6_carryOut_221 kw_254 kv_X6_endJob (s_X6_endJob hJ hj4) ?_
  refine a_goto (tgt := 268) dX6_carryOut_224 (by decide) ?_
  exact L_tail hb b1 b8 hw ⟨rfl, rfl⟩
set_option maxRecDepth 10000 in
theorem L_tick {l : Launch} {w : WW} {Φ : Option Value → XX → Prop} {M : Mem} {b k e : Nat} (he : rl 2 2 e = true) (hb : M 2 4 0 1 = nI b) (b1 : 1 ≤ b) (b8 : b ≤ 8) (hk : k ≤ 20) (ha : M 2 2 e 1 = nI k) : ∀ (n : Nat) {i : Nat} {τ : Sg} {x : Int32} {qs ps : List Nat}, i + n = k → Wk τ qs ps → A l w yX6_carryOut cX6_carryOut 4 (some .int) (rmd 6) Φ 265 [some (.ref (ad w 0 5 0)), some (.ref (ad w 2 2 e)), some (.int (tickN (M 2 4 0) n τ x).2), some (.int (nI k))] [] (zx w M 0 (tickN (M 2 4 0) n τ x).1) 0 0 → A l w yX6_carryOut cX6_carryOut 4 (some .int) (rmd 6) Φ 229 [some (.ref (ad w 0 5 0)), some (.ref (ad w 2 2 e)), some (.int x), some (.int (nI i))] [] (zx w M 0 τ) 0 0 := by
  intro n
  induction n with
  | zero =>
    intro i τ x qs ps hi h kk
    refine a_iload_n dX6_carryOut_229 rfl ?_
    refine a_aload_n dX6_carryOut_230 rfl ?_
    refine e_getI (t := 2) (k := 1) dX6_carryOut_231 kw_179 ?_
    refine a_icmp_ge (tgt := 265) dX6_carryOut_234 (by decide) (fun c_234 => ?_) (fun c_234 => absurd (by rw [ha]; exact nI_le (by omega) (by omega)) c_234)
    obtain rfl : i = k := by omega
    exact kk
  | succ n ih =>
    intro i τ x qs ps hi h kk
    have h1 := sgt_Wk (v := τ 5 0 8 + 1) h
    obtain ⟨q, p, g1⟩ := expI_Wk 0 (M 2 4 0 2) 4 0 _ 0 qs ps rfl h1
    refine a_iload_n dX6_carryOut_229 rfl ?_
    refine a_aload_n dX6_carryOut_230 rfl ?_
    refine e_getI (t := 2) (k := 1) dX6_carryOut_231 kw_179 ?_
    refine a_icmp_ge (tgt := 265) dX6_carryOut_234 (by decide) (fun c_234 => absurd c_234 (by rw [ha]; exact nI_ge (by omega) (by omega))) (fun c_234 => ?_)
    refine a_aload_n dX6_carryOut_237 rfl ?_
    refine a_dup dX6_carryOut_238 rfl ?_
    refine c_getI (t := 5) (k := 8) dX6_carryOut_239 kw_149 ?_
    refine a_iconst (v := 1) dX6_carryOut_242 (by decide) ?_
    refine a_iadd dX6_carryOut_243 ?_
    refine c_putI (t := 5) (k := 8) dX6_carryOut_244 kw_149 ?_
    refine a_iload_n dX6_carryOut_247 rfl ?_
    refine a_aload_n dX6_carryOut_248 rfl ?_
    refine a_iconst (v := 0) dX6_carryOut_249 (by decide) ?_
    refine c_V1I dX6_carryOut_250 kw_321 kv_X6_expireLeases (s_X6_expireLeases (Wk_L h1)) ?_
    refine a_iadd dX6_carryOut_253 ?_
    refine a_istore_2 dX6_carryOut_254 (by decide) ?_
    refine a_aload_n dX6_carryOut_255 rfl ?_
    refine c_V0V dX6_carryOut_256 kw_332 kv_X6_buildBatches (s_X6_buildBatches hb b1 b8 g1) ?_
    refine a_iinc_3 (u := nI (i + 1)) dX6_carryOut_259 (inc_nI i) (by decide) ?_
    refine a_goto (tgt := 229) dX6_carryOut_262 (by decide) ?_
    obtain ⟨q2, p2, g2⟩ := bld_Wk hb b1 b8 40 _ q p g1
    exact ih (by omega) g2 kk
set_option maxRecDepth 10000 in
theorem s_carry_9 {l : Launch} {w : WW} {M : Mem} {σ : Sg} {e : Nat} (he : rl 2 2 e = true) {qs ps : List Nat} {b : Nat} (hb : M 2 4 0 1 = nI b) (b1 : 1 ≤ b) (b8 : b ≤ 8) (hk : M 2 2 e 0 = 9) (hw : Wk (stepK (M 2 4 0) 9 (M 2 2 e 1) (M 2 2 e 2) (M 2 2 e 3) σ).1 qs ps) {qs0 ps0 : List Nat} (h0 : Wk σ qs0 ps0) (ha : M 2 2 e 1 = nI (tn (M 2 2 e 1))) (h20 : tn (M 2 2 e 1) ≤ 20) : Can l w yX6_carryOut cX6_carryOut 4 (some .int) (rmd 6) [.ref (ad w 0 5 0), .ref (ad w 2 2 e)] (zx w M 0 σ) (RI (stepK (M 2 4 0) 9 (M 2 2 e 1) (M 2 2 e 2) (M 2 2 e 3) σ).2 (zx w M 0 (bld (M 2 4 0 1) 40 (stepK (M 2 4 0) 9 (M 2 2 e 1) (M 2 2 e 2) (M 2 2 e 3) σ).1))) := by
  refine Can.go (ls := [some (.ref (ad w 0 5 0)), some (.ref (ad w 2 2 e)), none, none]) ?_
  refine a_iconst (v := 0) dX6_carryOut_0 (by decide) ?_
  refine a_istore_2 dX6_carryOut_1 (by decide) ?_
  refine a_aload_n dX6_carryOut_2 rfl ?_
  refine e_getI (t := 2) (k := 0) dX6_carryOut_3 kw_178 ?_
  rw [hk]
  refine a_tabIn (tgt := 227) (d_ := 221) dX6_carryOut_6 (by decide) (by decide) rfl (by decide) ?_
  refine a_iconst (v := 0) dX6_carryOut_227 (by decide) ?_
  refine a_istore_3 dX6_carryOut_228 (by decide) ?_
  refine L_tick he hb b1 b8 h20 ha (tn (M 2 2 e 1)) (i := 0) (by omega) h0 ?_
  refine a_goto (tgt := 268) dX6_carryOut_265 (by decide) ?_
  exact L_tail hb b1 b8 hw ⟨rfl, rfl⟩
