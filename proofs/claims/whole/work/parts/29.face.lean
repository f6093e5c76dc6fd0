/-! a state is copied whole -/
def chEq (τ μ : Sg) (c : Nat) : Prop := τ 14 c = μ 14 c ∧ τ 15 c = μ 15 c ∧ τ 1 c 2 = μ 1 c 2 ∧ τ 1 c 3 = μ 1 c 3 ∧ τ 1 c 4 = μ 1 c 4 ∧ τ 1 c 5 = μ 1 c 5
theorem chEq_same (σ μ : Sg) (c : Nat) : chEq (cpC σ μ c) μ c := by
  refine ⟨?_, ?_, ?_, ?_, ?_, ?_⟩ <;> simp [cpC, sg, sga, up1]
theorem chEq_ne {σ μ : Sg} {c d : Nat} (h : d ≠ c) (hd : chEq σ μ d) : chEq (cpC σ μ c) μ d := by
  obtain ⟨a1, a2, a3, a4, a5, a6⟩ := hd
  refine ⟨?_, ?_, ?_, ?_, ?_, ?_⟩ <;> simp [cpC, sg, sga, up1, h] <;> assumption
theorem cpC_t {σ μ : Sg} {c t : Nat} (h1 : t ≠ 1) (h14 : t ≠ 14) (h15 : t ≠ 15) : (cpC σ μ c) t = σ t := by
  unfold cpC
  rw [sg_t h1, sg_t h1, sg_t h1, sg_t h1, sga_t h15, sga_t h14]
theorem rl_tags {s t c : Nat} (hs : s < 2) (h : rl s t c = true) : (t = 0 ∧ c = 0) ∨ (t = 1 ∧ c < 16) ∨ (t = 3 ∧ c < 2) ∨ (t = 5 ∧ c = 0) ∨ (8 ≤ t ∧ t ≤ 12 ∧ c = 0) ∨ (t = 13 ∧ c < 2) ∨ (t = 14 ∧ c < 16) ∨ (t = 15 ∧ c < 16) ∨ (t = 16 ∧ c = 0) := by
  unfold rl at h
  split at h <;> simp at h <;> omega
theorem copy_junk {M : Mem} {s : Nat} {τ μ : Sg} (hs : s < 2) (h1 : ∀ c, c < 16 → chEq τ μ c) (h0 : τ 0 0 1 = μ 0 0 1) (h3 : τ 3 0 1 = μ 3 0 1) (h31 : τ 3 1 1 = μ 3 1 1) (h52 : τ 5 0 2 = μ 5 0 2) (h54 : τ 5 0 4 = μ 5 0 4) (h58 : τ 5 0 8 = μ 5 0 8) (h8 : τ 8 0 = μ 8 0) (h9 : τ 9 0 = μ 9 0) (h10 : τ 10 0 = μ 10 0) (h11 : τ 11 0 = μ 11 0) (h12 : τ 12 0 = μ 12 0) (h13 : τ 13 0 = μ 13 0) (h131 : τ 13 1 = μ 13 1) : ∀ u t c k, rl u t c = true → k < (if t < 8 then nF t else aL t c) → ik t k = true → up1 M s μ u t c k = up1 M s τ u t c k := by
  intro u t c k hr hk hi
  by_cases e : u = s
  · subst e
    rw [up1_same, up1_same]
    rcases rl_tags hs hr with ⟨rfl, rfl⟩ | ⟨rfl, hc⟩ | ⟨rfl, hc⟩ | ⟨rfl, rfl⟩ | ⟨ha, hb, rfl⟩ | ⟨rfl, hc⟩ | ⟨rfl, hc⟩ | ⟨rfl, hc⟩ | ⟨rfl, rfl⟩
    · have : k = 1 := by
        simp [ik, isR] at hi
        exact hi
      subst this
      exact h0.symm
    · obtain ⟨a1, a2, a3, a4, a5, a6⟩ := h1 c hc
      have hk : k < 6 := by simpa [nF] using hk
      have hk2 : 2 ≤ k := by
        rcases Nat.lt_or_ge k 2 with q | q
        · rcases (show k = 0 ∨ k = 1 by omega) with rfl | rfl <;> exact absurd hi (by decide)
        · exact q
      rcases (show k = 2 ∨ k = 3 ∨ k = 4 ∨ k = 5 by omega) with rfl | rfl | rfl | rfl
      · exact a3.symm
      · exact a4.symm
      · exact a5.symm
      · exact a6.symm
    · have hk : k < 2 := by simpa [nF] using hk
      have : k = 1 := by
        simp [ik, isR] at hi
        omega
      subst this
      rcases (show c = 0 ∨ c = 1 by omega) with rfl | rfl
      · exact h3.symm
      · exact h31.symm
    · have hk : k < 9 := by simpa [nF] using hk
      have : k = 2 ∨ k = 4 ∨ k = 8 := by
        simp [ik, isR] at hi
        omega
      rcases this with rfl | rfl | rfl
      · exact h52.symm
      · exact h54.symm
      · exact h58.symm
    · rcases (show t = 8 ∨ t = 9 ∨ t = 10 ∨ t = 11 ∨ t = 12 by omega) with rfl | rfl | rfl | rfl | rfl
      · rw [h8]
      · rw [h9]
      · rw [h10]
      · rw [h11]
      · rw [h12]
    · rcases (show c = 0 ∨ c = 1 by omega) with rfl | rfl
      · rw [h13]
      · rw [h131]
    · rw [(h1 c hc).1]
    · rw [(h1 c hc).2.1]
    · simp [ik, aK] at hi
  · rw [up1_ne e, up1_ne e]
set_option maxRecDepth 10000 in
theorem L_X6_cp {l : Launch} {w : WW} {Φ : Option Value → XX → Prop} {M : Mem} {s u : Nat} (hs : s < 2) (hu2 : u < 2) (hu : u ≠ s)  : ∀ (n : Nat) {j : Nat} {τ : Sg}, j + n = 16 → (∀ c, c < j → chEq τ (M u) c) → (∀ τ', (∀ c, c < 16 → chEq τ' (M u) c) → (∀ t, t ≠ 1 → t ≠ 14 → t ≠ 15 → τ' t = τ t) → A l w yX6_copyFrom cX6_copyFrom 3 none (rmd 3) Φ 48 [some (.ref (ad w s 5 0)), some (.ref (ad w u 5 0)), some (.int (nI 16))] [] (zx w M s τ') 0 0) → A l w yX6_copyFrom cX6_copyFrom 3 none (rmd 3) Φ 21 [some (.ref (ad w s 5 0)), some (.ref (ad w u 5 0)), some (.int (nI j))] [] (zx w M s τ) 0 0 := by
  intro n
  induction n with
  | zero =>
    intro j τ hj hd kk
    have r0 : rl s 0 0 = true := by simp [rl, hs]
    have q0 : rl u 0 0 = true := by simp [rl, hu2]
    have r3 : rl s 3 0 = true := by simp [rl, hs]
    have q3 : rl u 3 0 = true := by simp [rl, hu2]
    have r5 : rl s 5 0 = true := by simp [rl, hs]
    have q5 : rl u 5 0 = true := by simp [rl, hu2]
    have r8 : rl s 8 0 = true := by simp [rl, hs]
    have q8 : rl u 8 0 = true := by simp [rl, hu2]
    have r16 : rl s 16 0 = true := by simp [rl, hs]
    have q16 : rl u 16 0 = true := by simp [rl, hu2]
    have r31 : rl s 3 1 = true := by simp [rl, hs]
    have q31 : rl u 3 1 = true := by simp [rl, hu2]
    refine a_iload_n dX6_copyFrom_21 rfl ?_
    refine a_bipush (v := 16) dX6_copyFrom_22 (by decide) ?_
    refine a_icmp_ge (tgt := 48) dX6_copyFrom_24 (by decide) (fun c_24 => ?_) (fun c_24 => absurd (by have e6 : j = 16 := (by omega); subst e6; decide) c_24)
    obtain rfl : j = 16 := by omega
    exact kk _ hd (fun _ _ _ _ => rfl)
  | succ n ih =>
    intro j τ hj hd kk
    have r0 : rl s 0 0 = true := by simp [rl, hs]
    have q0 : rl u 0 0 = true := by simp [rl, hu2]
    have r3 : rl s 3 0 = true := by simp [rl, hs]
    have q3 : rl u 3 0 = true := by simp [rl, hu2]
    have r5 : rl s 5 0 = true := by simp [rl, hs]
    have q5 : rl u 5 0 = true := by simp [rl, hu2]
    have r8 : rl s 8 0 = true := by simp [rl, hs]
    have q8 : rl u 8 0 = true := by simp [rl, hu2]
    have r16 : rl s 16 0 = true := by simp [rl, hs]
    have q16 : rl u 16 0 = true := by simp [rl, hu2]
    have r31 : rl s 3 1 = true := by simp [rl, hs]
    have q31 : rl u 3 1 = true := by simp [rl, hu2]
    refine a_iload_n dX6_copyFrom_21 rfl ?_
    refine a_bipush (v := 16) dX6_copyFrom_22 (by decide) ?_
    refine a_icmp_ge (tgt := 48) dX6_copyFrom_24 (by decide) (fun c_24 => absurd c_24 (nI_ge (b := 16) (by omega) (by omega))) (fun c_24 => ?_)
    have hj16 : j < 16 := by omega
    have p1 : rl s 1 j = true := (rl_chs hs hj16).1
    have p2 : rl u 1 j = true := (rl_chs hu2 hj16).1
    refine a_aload_n dX6_copyFrom_27 rfl ?_
    refine c_getR (t := 5) (k := 3) dX6_copyFrom_28 kw_53 rfl ?_
    refine a_iload_n dX6_copyFrom_31 rfl ?_
    refine c_aald (i := j) dX6_copyFrom_32 rfl (show j < 16 by omega) (if_pos hj16) ?_
    refine a_aload_n dX6_copyFrom_33 rfl ?_
    refine c_getR (t := 5) (k := 3) dX6_copyFrom_34 kw_53 rfl ?_
    refine a_iload_n dX6_copyFrom_37 rfl ?_
    refine c_aald (i := j) dX6_copyFrom_38 rfl (show j < 16 by omega) (if_pos hj16) ?_
    refine c_V1V dX6_copyFrom_39 kw_156 kv_X1_copyFrom (s_X1_copyFrom hs hu2 hu hj16) ?_
    refine a_iinc_2 (u := nI (j + 1)) dX6_copyFrom_42 (inc_nI j) (by decide) ?_
    refine a_goto (tgt := 21) dX6_copyFrom_45 (by decide) ?_
    refine ih (by omega) (fun c hc => ?_) (fun τ' h1 h2 => kk τ' h1 (fun t a b c => (h2 t a b c).trans (cpC_t a b c)))
    by_cases e : c = j
    · subst e; exact chEq_same _ _ _
    · exact chEq_ne e (hd c (by omega))
set_option maxRecDepth 10000 in
theorem s_X6_copyFrom {l : Launch} {w : WW} {M : Mem} {σ : Sg} {s u : Nat} (hs : s < 2) (hu2 : u < 2) (hu : u ≠ s)  : Can l w yX6_copyFrom cX6_copyFrom 3 none (rmd 3) [.ref (ad w s 5 0), .ref (ad w u 5 0)] (zx w M s σ) (RV (zx w M s (M u))) := by
  refine Can.go (ls := [some (.ref (ad w s 5 0)), some (.ref (ad w u 5 0)), none]) ?_
  have r0 : rl s 0 0 = true := by simp [rl, hs]
  have q0 : rl u 0 0 = true := by simp [rl, hu2]
  have r3 : rl s 3 0 = true := by simp [rl, hs]
  have q3 : rl u 3 0 = true := by simp [rl, hu2]
  have r5 : rl s 5 0 = true := by simp [rl, hs]
  have q5 : rl u 5 0 = true := by simp [rl, hu2]
  have r8 : rl s 8 0 = true := by simp [rl, hs]
  have q8 : rl u 8 0 = true := by simp [rl, hu2]
  have r16 : rl s 16 0 = true := by simp [rl, hs]
  have q16 : rl u 16 0 = true := by simp [rl, hu2]
  have r31 : rl s 3 1 = true := by simp [rl, hs]
  have q31 : rl u 3 1 = true := by simp [rl, hu2]
  refine a_aload_n dX6_copyFrom_0 rfl ?_
  refine c_getR (t := 5) (k := 1) dX6_copyFrom_1 kw_51 rfl ?_
  refine a_aload_n dX6_copyFrom_4 rfl ?_
  refine c_getR (t := 5) (k := 1) dX6_copyFrom_5 kw_51 rfl ?_
  refine c_N2V dX6_copyFrom_8 nw_274 ks_X7_copyNumbers s_copyX ?_
  refine a_aload_n dX6_copyFrom_11 rfl ?_
  refine a_aload_n dX6_copyFrom_12 rfl ?_
  refine e_getI (t := 5) (k := 2) dX6_copyFrom_13 kw_147 ?_
  refine c_putI (t := 5) (k := 2) dX6_copyFrom_16 kw_147 ?_
  refine a_iconst (v := 0) dX6_copyFrom_19 (by decide) ?_
  refine a_istore_2 dX6_copyFrom_20 (by decide) ?_
  refine L_X6_cp hs hu2 hu 16 (j := 0) rfl (fun c hc => absurd hc (Nat.not_lt_zero c)) (fun τ h1 h2 => ?_)
  have b8 : τ 8 0 = M u 8 0 := by
    rw [h2 8 (by decide) (by decide) (by decide), sg_t (by decide), sga_same]
  have b52 : τ 5 0 2 = M u 5 0 2 := by
    rw [h2 5 (by decide) (by decide) (by decide), sg_same]
  refine a_aload_n dX6_copyFrom_48 rfl ?_
  refine a_aload_n dX6_copyFrom_49 rfl ?_
  refine e_getI (t := 5) (k := 4) dX6_copyFrom_50 kw_148 ?_
  refine c_putI (t := 5) (k := 4) dX6_copyFrom_53 kw_148 ?_
  refine a_aload_n dX6_copyFrom_56 rfl ?_
  refine c_getR (t := 5) (k := 5) dX6_copyFrom_57 kw_57 rfl ?_
  refine a_aload_n dX6_copyFrom_60 rfl ?_
  refine c_getR (t := 5) (k := 5) dX6_copyFrom_61 kw_57 rfl ?_
  refine c_V1V dX6_copyFrom_64 kw_164 kv_X4_copyFrom (s_X4_copyFrom hs hu2 hu (c := 0) (by decide)) ?_
  refine a_aload_n dX6_copyFrom_67 rfl ?_
  refine c_getR (t := 5) (k := 6) dX6_copyFrom_68 kw_58 rfl ?_
  refine a_aload_n dX6_copyFrom_71 rfl ?_
  refine c_getR (t := 5) (k := 6) dX6_copyFrom_72 kw_58 rfl ?_
  refine c_V1V dX6_copyFrom_75 kw_164 kv_X4_copyFrom (s_X4_copyFrom hs hu2 hu (c := 1) (by decide)) ?_
  refine a_aload_n dX6_copyFrom_78 rfl ?_
  refine c_getR (t := 5) (k := 7) dX6_copyFrom_79 kw_62 rfl ?_
  refine a_aload_n dX6_copyFrom_82 rfl ?_
  refine c_getR (t := 5) (k := 7) dX6_copyFrom_83 kw_62 rfl ?_
  refine c_V1V dX6_copyFrom_86 kw_169 kv_X0_copyFrom (s_X0_copyFrom hs hu2 hu) ?_
  refine a_aload_n dX6_copyFrom_89 rfl ?_
  refine a_aload_n dX6_copyFrom_90 rfl ?_
  refine e_getI (t := 5) (k := 8) dX6_copyFrom_91 kw_149 ?_
  refine c_putI (t := 5) (k := 8) dX6_copyFrom_94 kw_149 ?_
  refine c_junk (M' := M) (σ' := M u) (copy_junk hs ?_ ?_ ?_ ?_ ?_ ?_ ?_ ?_ ?_ ?_ ?_ ?_ ?_ ?_) ?_
  · intro c hc
    exact h1 c hc
  all_goals first
    | exact b8
    | (simp [cpR, cpB, sg, sga, up1]; done)
    | (simp [cpR, cpB, sg, sga, up1]; exact b52)
    | skip
  exact c_vret dX6_copyFrom_97 ⟨rfl, rfl⟩
/-! the log -/
abbrev RM (w : WW) (r : Int32) (Q : Mem → Prop) : Option Value → XX → Prop := fun v x => v = some (.int r) ∧ ∃ N, x = mx w N ∧ Q N
theorem mx_0 (w : WW) (M : Mem) (s : Nat) : mx w M = zx w M s (M s) := by
  show (M, RT w, 158) = (up1 M s (M s), RT w, 158)
  rw [up1_eta]
set_option maxRecDepth 10000 in
theorem s_X7_keepLiveState {l : Launch} {w : WW} {M : Mem} : Can l w yX7_keepLiveState cX7_keepLiveState 1 none (rmd 4) [.ref (ad w 2 6 0)] (mx w M) (RV (mx w (up (up1 M 1 (M 0)) 2 6 0 3 0))) := by
  refine Can.go (ls := [some (.ref (ad w 2 6 0))]) ?_
  refine a_eq (x' := zx w M 1 (M 1)) (mx_0 w M 1) ?_
  refine a_aload_n dX7_keepLiveState_0 rfl ?_
  refine c_getR (t := 6) (k := 1) dX7_keepLiveState_1 kw_27 rfl ?_
  refine a_aload_n dX7_keepLiveState_4 rfl ?_
  refine c_getR (t := 6) (k := 0) dX7_keepLiveState_5 kw_26 rfl ?_
  refine c_V1V dX7_keepLiveState_8 kw_143 kv_X6_copyFrom (s_X6_copyFrom (s := 1) (u := 0) (by decide) (by decide) (by decide)) ?_
  refine a_aload_n dX7_keepLiveState_11 rfl ?_
  refine a_iconst (v := 0) dX7_keepLiveState_12 (by decide) ?_
  refine e_putI (t := 6) (k := 3) dX7_keepLiveState_13 kw_32 ?_
  exact c_vret dX7_keepLiveState_16 ⟨rfl, by
      show (up1 (up M 2 6 0 3 0) 1 (M 0), RT w, 158) = (up (up1 M 1 (M 0)) 2 6 0 3 0, RT w, 158)
      rw [up_y M (M 0) 6 0 3 0 (by decide)]⟩
def Evt (ρ : Sg) (i : Nat) (e : Ent) : Prop := ρ 2 i 0 = nI e.1 ∧ ρ 2 i 1 = e.2.1 ∧ ρ 2 i 2 = cbk e.1 e.2.2.1 ∧ ρ 2 i 3 = e.2.2.2
/-- the class after the events E, of which F are flushed -/
def ClsI (z : Nat → Int32) (E : List Ent) (F : Nat) (M : Mem) : Prop := M 0 = runE z E ∧ M 1 = runE z (E.take F) ∧ F ≤ E.length ∧ E.length ≤ F + 16 ∧ M 2 6 0 3 = nI (E.length - F) ∧ (∀ i e, E[F + i]? = some e → e.1 ≤ 9 ∧ Evt (M 2) i e) ∧ M 2 4 0 = z
/-- what of the reference's memory the class leaves -/
def C4 (M N : Mem) : Prop := ∀ t, t ≠ 2 → t ≠ 6 → N 2 t = M 2 t
def LgI (z : Nat → Int32) (E : List Ent) (F : Nat) (M N : Mem) (k a b c : Int32) : Prop := N 0 = M 0 ∧ N 1 = runE z (E.take (nFl E F)) ∧ N 2 6 0 3 = nI (E.length - nFl E F + 1) ∧ N 2 2 (E.length - nFl E F) 0 = k ∧ N 2 2 (E.length - nFl E F) 1 = a ∧ N 2 2 (E.length - nFl E F) 2 = b ∧ N 2 2 (E.length - nFl E F) 3 = c ∧ (∀ j, j < E.length - nFl E F → N 2 2 j = M 2 2 j) ∧ C4 M N
def lgS (ρ : Sg) (u : Nat) (k a b c : Int32) : Sg := sg (sg (sg (sg (sg ρ 6 0 3 (nI (u + 1))) 2 u 0 k) 2 u 1 a) 2 u 2 b) 2 u 3 c
theorem lgS_t {ρ : Sg} {u : Nat} {k a b c : Int32} {t : Nat} (h2 : t ≠ 2) (h6 : t ≠ 6) : (lgS ρ u k a b c) t = ρ t := by
  unfold lgS
  rw [sg_t h2, sg_t h2, sg_t h2, sg_t h2, sg_t h6]
theorem lgS_j {ρ : Sg} {u : Nat} {k a b c : Int32} {j : Nat} (h : j ≠ u) : (lgS ρ u k a b c) 2 j = ρ 2 j := by
  simp [lgS, sg, up1, h]
theorem lgS_u (ρ : Sg) (u : Nat) (k a b c : Int32) : (lgS ρ u k a b c) 2 u 0 = k ∧ (lgS ρ u k a b c) 2 u 1 = a ∧ (lgS ρ u k a b c) 2 u 2 = b ∧ (lgS ρ u k a b c) 2 u 3 = c ∧ (lgS ρ u k a b c) 6 0 3 = nI (u + 1) := by
  simp [lgS, sg, up1]
set_option maxRecDepth 10000 in
theorem L_X7_lg {l : Launch} {w : WW} {Φ : Option Value → XX → Prop} {M : Mem} {ρ : Sg} {u : Nat} {k a b c : Int32} {v5 : Option Value} (hu : ρ 6 0 3 = nI u) (hu16 : u < 16) (kk : Φ (some (.ref (ad w 2 2 u))) (zx w M 2 (lgS ρ u k a b c))) : A l w yX7_logged cX7_logged 6 (some (.object "GatedTrunk$Event")) (rmd 5) Φ 13 [some (.ref (ad w 2 6 0)), some (.int k), some (.int a), some (.int b), some (.int c), v5] [] (zx w M 2 ρ) 0 0 := by
  have r2 : rl 2 2 u = true := by simp [rl, hu16]
  refine a_aload_n dX7_logged_13 rfl ?_
  refine c_getR (t := 6) (k := 2) dX7_logged_14 kw_29 rfl ?_
  refine a_aload_n dX7_logged_17 rfl ?_
  refine c_getI (t := 6) (k := 3) dX7_logged_18 kw_32 ?_
  rw [hu]
  refine c_aald (i := u) dX7_logged_21 rfl (show u < 16 from hu16) (if_pos hu16) ?_
  refine a_astore_5 dX7_logged_22 (by decide) ?_
  refine a_aload_n dX7_logged_24 rfl ?_
  refine a_dup dX7_logged_25 rfl ?_
  refine c_getI (t := 6) (k := 3) dX7_logged_26 kw_32 ?_
  rw [hu]
  refine a_iconst (v := 1) dX7_logged_29 (by decide) ?_
  refine a_iadd dX7_logged_30 ?_
  rw [nI_1]
  refine c_putI (t := 6) (k := 3) dX7_logged_31 kw_32 ?_
  refine a_aload dX7_logged_34 rfl ?_
  refine a_iload_n dX7_logged_36 rfl ?_
  refine c_putI (t := 2) (k := 0) dX7_logged_37 kw_135 ?_
  refine a_aload dX7_logged_40 rfl ?_
  refine a_iload_n dX7_logged_42 rfl ?_
  refine c_putI (t := 2) (k := 1) dX7_logged_43 kw_136 ?_
  refine a_aload dX7_logged_46 rfl ?_
  refine a_iload_n dX7_logged_48 rfl ?_
  refine c_putI (t := 2) (k := 2) dX7_logged_49 kw_137 ?_
  refine a_aload dX7_logged_52 rfl ?_
  refine a_iload dX7_logged_54 rfl ?_
  refine c_putI (t := 2) (k := 3) dX7_logged_56 kw_138 ?_
  refine a_aload dX7_logged_59 rfl ?_
  exact a_aret dX7_logged_61 rfl rfl (Nat.le_refl 0) kk
set_option maxRecDepth 10000 in
theorem s_X7_logged {l : Launch} {w : WW} {M : Mem} {z : Nat → Int32} {E : List Ent} {F : Nat} (h : ClsI z E F M) {k a b c : Int32} : Can l w yX7_logged cX7_logged 6 (some (.object "GatedTrunk$Event")) (rmd 5) [.ref (ad w 2 6 0), .int k, .int a, .int b, .int c] (mx w M) (fun v x => v = some (.ref (ad w 2 2 (E.length - nFl E F))) ∧ ∃ N, x = mx w N ∧ LgI z E F M N k a b c) := by
  refine Can.go (ls := [some (.ref (ad w 2 6 0)), some (.int k), some (.int a), some (.int b), some (.int c), none]) ?_
  obtain ⟨h0, h1, hFE, h16, h3, hev, hz⟩ := h
  refine a_eq (x' := zx w M 2 (M 2)) (mx_0 w M 2) ?_
  refine a_aload_n dX7_logged_0 rfl ?_
  refine c_getI (t := 6) (k := 3) dX7_logged_1 kw_32 ?_
  rw [h3]
  refine a_bipush (v := 16) dX7_logged_4 (by decide) ?_
  refine a_icmp_lt (tgt := 13) dX7_logged_6 (by decide) (fun c_6 => ?_) (fun c_6 => ?_)
  · first
      | (have hlt : E.length - F < 16 := by
           rcases Nat.lt_or_ge (E.length - F) 16 with q | q
           · exact q
           · exact absurd c_6 (nI_nlt (b := 16) q (by omega))
         have hn : nFl E F = F := if_neg (by omega)
         rw [hn]
         refine L_X7_lg h3 hlt ⟨rfl, _, rfl, ?_⟩
         obtain ⟨g0, g1, g2, g3, g4⟩ := lgS_u (M 2) (E.length - F) k a b c
         refine ⟨up1_ne (by decide), by rw [up1_ne (by decide), hn]; exact h1, ?_, ?_, ?_, ?_, ?_, fun j hj => ?_, fun t t2 t6 => ?_⟩ <;> rw [up1_same]
         · rw [hn]; exact g4
         · rw [hn]; exact g0
         · rw [hn]; exact g1
         · rw [hn]; exact g2
         · rw [hn]; exact g3
         · rw [hn] at hj
           exact lgS_j (by omega)
         · exact lgS_t t2 t6)
      | (have hge : F + 16 ≤ E.length := by
           rcases Nat.lt_or_ge (E.length - F) 16 with q | q
           · exact absurd (nI_lt (b := 16) q (by decide)) c_6
           · omega
         have hn : nFl E F = E.length := if_pos hge
         obtain ⟨N, eN⟩ : ∃ N, up (up1 M 1 (M 0)) 2 6 0 3 0 = N := ⟨_, rfl⟩
         have n0 : N 0 = M 0 := by rw [← eN]; unfold up; rw [up1_ne (by decide), up1_ne (by decide)]
         have n1 : N 1 = M 0 := by rw [← eN]; unfold up; rw [up1_ne (by decide), up1_same]
         have n2 : N 2 = sg (M 2) 6 0 3 0 := by rw [← eN]; unfold up; rw [up1_same, up1_ne (by decide)]
         rw [eN, hn, Nat.sub_self]
         refine a_eq (x' := zx w N 2 (N 2)) (mx_0 w N 2) ?_
         refine L_X7_lg (u := 0) (by rw [n2, sg_same]; rfl) (by decide) ⟨rfl, _, rfl, ?_⟩
         obtain ⟨g0, g1, g2, g3, g4⟩ := lgS_u (N 2) 0 k a b c
         refine ⟨by rw [up1_ne (by decide)]; exact n0, by rw [up1_ne (by decide), hn, List.take_length, n1]; exact h0, ?_, ?_, ?_, ?_, ?_, fun j hj => ?_, fun t t2 t6 => ?_⟩ <;> rw [up1_same]
         · rw [hn, Nat.sub_self]; exact g4
         · rw [hn, Nat.sub_self]; exact g0
         · rw [hn, Nat.sub_self]; exact g1
         · rw [hn, Nat.sub_self]; exact g2
         · rw [hn, Nat.sub_self]; exact g3
         · rw [hn, Nat.sub_self] at hj
           exact absurd hj (Nat.not_lt_zero j)
         · rw [lgS_t t2 t6, n2, sg_t t6])
  · refine a_eq (x' := mx w M) (mx_0 w M 2).symm ?_
    refine a_aload_n dX7_logged_9 rfl ?_
    refine c_V0V dX7_logged_10 kw_139 kv_X7_keepLiveState s_X7_keepLiveState ?_
    first
      | (have hlt : E.length - F < 16 := by
           rcases Nat.lt_or_ge (E.length - F) 16 with q | q
           · exact q
           · exact absurd c_6 (nI_nlt (b := 16) q (by omega))
         have hn : nFl E F = F := if_neg (by omega)
         rw [hn]
         refine L_X7_lg h3 hlt ⟨rfl, _, rfl, ?_⟩
         obtain ⟨g0, g1, g2, g3, g4⟩ := lgS_u (M 2) (E.length - F) k a b c
         refine ⟨up1_ne (by decide), by rw [up1_ne (by decide), hn]; exact h1, ?_, ?_, ?_, ?_, ?_, fun j hj => ?_, fun t t2 t6 => ?_⟩ <;> rw [up1_same]
         · rw [hn]; exact g4
         · rw [hn]; exact g0
         · rw [hn]; exact g1
         · rw [hn]; exact g2
         · rw [hn]; exact g3
         · rw [hn] at hj
           exact lgS_j (by omega)
         · exact lgS_t t2 t6)
      | (have hge : F + 16 ≤ E.length := by
           rcases Nat.lt_or_ge (E.length - F) 16 with q | q
           · exact absurd (nI_lt (b := 16) q (by decide)) c_6
           · omega
         have hn : nFl E F = E.length := if_pos hge
         obtain ⟨N, eN⟩ : ∃ N, up (up1 M 1 (M 0)) 2 6 0 3 0 = N := ⟨_, rfl⟩
         have n0 : N 0 = M 0 := by rw [← eN]; unfold up; rw [up1_ne (by decide), up1_ne (by decide)]
         have n1 : N 1 = M 0 := by rw [← eN]; unfold up; rw [up1_ne (by decide), up1_same]
         have n2 : N 2 = sg (M 2) 6 0 3 0 := by rw [← eN]; unfold up; rw [up1_same, up1_ne (by decide)]
         rw [eN, hn, Nat.sub_self]
         refine a_eq (x' := zx w N 2 (N 2)) (mx_0 w N 2) ?_
         refine L_X7_lg (u := 0) (by rw [n2, sg_same]; rfl) (by decide) ⟨rfl, _, rfl, ?_⟩
         obtain ⟨g0, g1, g2, g3, g4⟩ := lgS_u (N 2) 0 k a b c
         refine ⟨by rw [up1_ne (by decide)]; exact n0, by rw [up1_ne (by decide), hn, List.take_length, n1]; exact h0, ?_, ?_, ?_, ?_, ?_, fun j hj => ?_, fun t t2 t6 => ?_⟩ <;> rw [up1_same]
         · rw [hn, Nat.sub_self]; exact g4
         · rw [hn, Nat.sub_self]; exact g0
         · rw [hn, Nat.sub_self]; exact g1
         · rw [hn, Nat.sub_self]; exact g2
         · rw [hn, Nat.sub_self]; exact g3
         · rw [hn, Nat.sub_self] at hj
           exact absurd hj (Nat.not_lt_zero j)
         · rw [lgS_t t2 t6, n2, sg_t t6])
/-- an event is carried out -/
theorem s_carry {l : Launch} {w : WW} {N : Mem} {σ : Sg} {z : Nat → Int32} {B i kd : Nat} {a b c : Int32} (hz : Zv z) (hN : N 2 4 0 = z) (hi : i < 16) (hk : kd ≤ 9) (hev : Evt (N 2) i (kd, a, b, c)) (hG : Gk B 4 σ) (hB : B + 20 < 2 ^ 20) (ha : Acc z kd a b σ = true) : Can l w yX6_carryOut cX6_carryOut 4 (some .int) (rmd 6) [.ref (ad w 0 5 0), .ref (ad w 2 2 i)] (zx w N 0 σ) (RI (stepK z kd a (cbk kd b) c σ).2 (zx w N 0 (stL z (kd, a, b, c) σ))) := by
  have hG1 := Gk_stE (c := c) hz hG hB (by omega) ha
  obtain ⟨⟨qs1, ps1, hW1⟩, -⟩ := hG1
  obtain ⟨⟨qs, ps, hW⟩, hx, hD⟩ := id hG
  have hC : Cn σ := hW.1.1
  obtain ⟨ap, bb, r, ls, z0, z1, z2, z3, hap, b1, b8, hr, l1, l9⟩ := id hz
  obtain ⟨e0, e1, e2, e3⟩ := hev
  change N 2 2 i 0 = nI kd at e0
  change N 2 2 i 1 = a at e1
  change N 2 2 i 2 = cbk kd b at e2
  change N 2 2 i 3 = c at e3
  have r2 : rl 2 2 i = true := by simp [rl, hi]
  have hb : N 2 4 0 1 = nI bb := by rw [hN]; exact z1
  have hsl : ∀ τ, bld (N 2 4 0 1) 40 τ = bld (z 1) 40 τ := fun τ => by rw [hN]
  rcases (show kd = 0 ∨ kd = 1 ∨ kd = 2 ∨ kd = 3 ∨ kd = 4 ∨ kd = 5 ∨ kd = 6 ∨ kd = 7 ∨ kd = 8 ∨ kd = 9 by omega) with rfl | rfl | rfl | rfl | rfl | rfl | rfl | rfl | rfl | rfl
  · have h9 := s_carry_0 (l := l) (w := w) (M := N) (σ := σ) r2 hb b1 b8 e0 (qs := qs1) (ps := ps1) (by rw [hN, e1, e2, e3]; exact hW1) hC (of_decide_eq_true ha)
    rw [hN, e1, e2, e3] at h9
    exact h9
  · have ha : (opB σ a && inr b 6) = true := ha
    rw [Bool.and_eq_true] at ha
    obtain ⟨eb, hb6⟩ := tn_i (n := 6) ha.2 (by decide)
    obtain ⟨ea, ha16, -, -⟩ := open_in ha.1 hC
    have h9 := s_carry_1 (l := l) (w := w) (M := N) (σ := σ) r2 hb b1 b8 e0 (qs := qs1) (ps := ps1) (by rw [hN, e1, e2, e3]; exact hW1) (by rw [e1]; exact ea) (by rw [e1]; exact ha16) (by rw [e2]; exact eb) (by rw [e2]; exact hb6)
    rw [hN, e1, e2, e3] at h9
    exact h9
  · have ha : (opB σ a && inr b 8) = true := ha
    rw [Bool.and_eq_true] at ha
    obtain ⟨ea, ha16, -, -⟩ := open_in ha.1 hC
    have h9 := s_carry_2 (l := l) (w := w) (M := N) (σ := σ) r2 hb b1 b8 e0 (qs := qs1) (ps := ps1) (by rw [hN, e1, e2, e3]; exact hW1) (by rw [e1]; exact ea) (by rw [e1]; exact ha16)
    rw [hN, e1, e2, e3] at h9
    exact h9
  · have ha : (opB σ a && inr b 8) = true := ha
    rw [Bool.and_eq_true] at ha
    obtain ⟨ea, ha16, -, -⟩ := open_in ha.1 hC
    have h9 := s_carry_3 (l := l) (w := w) (M := N) (σ := σ) r2 hb b1 b8 e0 (qs := qs1) (ps := ps1) (by rw [hN, e1, e2, e3]; exact hW1) (by rw [e1]; exact ea) (by rw [e1]; exact ha16)
    rw [hN, e1, e2, e3] at h9
    exact h9
  · obtain ⟨ea, ha16, -, -⟩ := orB_is (show orB σ a = true from ha) hC
    have h9 := s_carry_4 (l := l) (w := w) (M := N) (σ := σ) r2 hb b1 b8 e0 (qs := qs1) (ps := ps1) (by rw [hN, e1, e2, e3]; exact hW1) (by rw [e1]; exact ea) (by rw [e1]; exact ha16)
    rw [hN, e1, e2, e3] at h9
    exact h9
  · have ha : mqB (z 0) σ a = true := ha
    unfold mqB at ha
    rw [Bool.and_eq_true] at ha
    obtain ⟨ea, ha16, han, hst⟩ := open_in ha.1 hC
    have h9 := s_carry_5 (l := l) (w := w) (M := N) (σ := σ) r2 hb b1 b8 e0 (qs := qs1) (ps := ps1) (by rw [hN, e1, e2, e3]; exact hW1) (by rw [e1]; exact ea) (by rw [e1]; exact ha16) (QI_Qn hW.1.2.1) (by rw [QI_qn hW.1.2.1]; exact (q_room hW han (by rw [hst]; decide)).1)
    rw [hN, e1, e2, e3] at h9
    exact h9
  · have ha : mrB σ a = true := ha
    unfold mrB at ha
    rw [Bool.and_eq_true] at ha
    obtain ⟨ea, ha16, -, -⟩ := orB_is ha.1 hC
    have h9 := s_carry_6 (l := l) (w := w) (M := N) (σ := σ) r2 hb b1 b8 e0 (qs := qs1) (ps := ps1) (by rw [hN, e1, e2, e3]; exact hW1) (by rw [e1]; exact ea) (by rw [e1]; exact ha16)
    rw [hN, e1, e2, e3] at h9
    exact h9
  · have ha : (!decide (jtl σ a = -1)) = true := ha
    rw [Bool.not_eq_true', decide_eq_false_iff_not] at ha
    have hi : inr a 4 = true := by
      unfold jtl at ha
      by_cases q : (inr a 4 && decide (leasedJ σ a = -1)) = true
      · rw [Bool.and_eq_true] at q; exact q.1
      · rw [if_neg q] at ha; exact absurd rfl ha
    obtain ⟨ea, ha4⟩ := tn_i (n := 4) hi (by decide)
    have h9 := s_carry_7 (l := l) (w := w) (M := N) (σ := σ) r2 hb b1 b8 e0 (qs := qs1) (ps := ps1) (by rw [hN, e1, e2, e3]; exact hW1) (by rw [e1]; exact ea) (by rw [e1]; exact ha4)
    rw [hN, e1, e2, e3] at h9
    exact h9
  · have ha : (!decide (leasedJ σ a = -1)) = true := ha
    rw [Bool.not_eq_true', decide_eq_false_iff_not] at ha
    have hi : inr a 4 = true := by
      unfold leasedJ at ha
      have := (fhit_tn ha).2.2
      unfold ljC at this
      rw [Bool.and_eq_true] at this
      exact this.1
    obtain ⟨ea, ha4⟩ := tn_i (n := 4) hi (by decide)
    obtain ⟨x1, x2, x3⟩ := leased_job (τ := σ) ha4 (by rw [← ea]; exact ha)
    rw [← ea] at x1 x2
    have hJ := Lok_J (v := tn a) ha4 (Wk_L hW) (by rw [← ea]; exact ha)
    have h9 := s_carry_8 (l := l) (w := w) (M := N) (σ := σ) r2 hb b1 b8 e0 (qs := qs1) (ps := ps1) (by rw [hN, e1, e2, e3]; exact hW1) hJ (by rw [e1]; exact x1) (by rw [e1]; exact x2)
    rw [hN, e1, e2, e3] at h9
    exact h9
  · have ha : tkB a = true := ha
    unfold tkB at ha
    rw [Bool.and_eq_true, Bool.not_eq_true', Bool.not_eq_true', decide_eq_false_iff_not, decide_eq_false_iff_not] at ha
    obtain ⟨ea, -, h20⟩ := tkB_tn ha.1 (Int32.not_lt.mp ha.2)
    have h9 := s_carry_9 (l := l) (w := w) (M := N) (σ := σ) r2 hb b1 b8 e0 (qs := qs1) (ps := ps1) (by rw [hN, e1, e2, e3]; exact hW1) hW (by rw [e1]; exact ea) (by rw [e1]; exact h20)
    rw [hN, e1, e2, e3] at h9
    exact h9
