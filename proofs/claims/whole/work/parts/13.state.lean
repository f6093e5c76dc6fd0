def cn (σ : Sg) : Nat := (σ 5 0 4).toNatClampNeg
def qn (σ : Sg) : Nat := (σ 3 0 1).toNatClampNeg
def pn (σ : Sg) : Nat := (σ 3 1 1).toNatClampNeg
def mb (σ : Sg) : Nat := (σ 0 0 1).toNatClampNeg
def Cn (σ : Sg) : Prop := σ 5 0 4 = nI (cn σ) ∧ cn σ ≤ 16
def Qn (σ : Sg) : Prop := σ 3 0 1 = nI (qn σ) ∧ qn σ ≤ 16
def Pn (σ : Sg) : Prop := σ 3 1 1 = nI (pn σ) ∧ pn σ ≤ 8
def tn (c : Int32) : Nat := c.toNatClampNeg
def opB (σ : Sg) (c : Int32) : Bool := inr c (σ 5 0 4) && decide (σ 1 (tn c) 2 = 0)
def orB (σ : Sg) (c : Int32) : Bool := opB σ c || (inr c (σ 5 0 4) && decide (σ 1 (tn c) 2 = 3))
def mqB (a : Int32) (σ : Sg) (c : Int32) : Bool := opB σ c && (!decide (bitc (σ 1 (tn c) 4) < a) && decide (bitc (σ 1 (tn c) 5) = 0))
def cfT (σ : Sg) (c : Nat) : Bool := anyU (cfl (σ 14 c) (σ 15 c) (σ 8 0)) 6 0
def mrB (σ : Sg) (c : Int32) : Bool := orB σ c && !cfT σ (tn c)
def jtl (σ : Sg) (v : Int32) : Int32 := if (inr v 4 && decide (leasedJ σ v = -1)) = true then nextJ σ else -1
theorem tnC {σ : Sg} {c : Int32} (h : inr c (σ 5 0 4) = true) (hc : Cn σ) : c = nI (tn c) ∧ tn c < 16 := by
  obtain ⟨h1, h2⟩ := inr_nI h hc.1 (by have := hc.2; omega)
  exact ⟨h1, Nat.lt_of_lt_of_le h2 hc.2⟩
theorem opB_in {σ : Sg} {c : Int32} (h : opB σ c = true) : inr c (σ 5 0 4) = true := by
  unfold opB at h
  cases h1 : inr c (σ 5 0 4) with
  | true => rfl
  | false => rw [h1] at h; cases h
theorem orB_in {σ : Sg} {c : Int32} (h : orB σ c = true) : inr c (σ 5 0 4) = true := by
  unfold orB at h
  cases h1 : inr c (σ 5 0 4) with
  | true => rfl
  | false => rw [h1, show opB σ c = false by unfold opB; rw [h1]; rfl] at h; cases h
set_option maxRecDepth 10000 in
theorem s_X6_isChange {l : Launch} {w : WW} {M : Mem} {σ : Sg} {c : Int32} : Can l w yX6_isChange cX6_isChange 2 (some .boolean) (rmd 1) [.ref (ad w 0 5 0), .int c] (zx w M 0 σ) (RI (bi (inr c (σ 5 0 4))) (zx w M 0 σ)) := by
  refine Can.go (ls := [some (.ref (ad w 0 5 0)), some (.int c)]) ?_
  refine a_iload_n dX6_isChange_0 rfl ?_
  refine a_if_lt (tgt := 16) dX6_isChange_1 (by decide) (fun c_1 => ?_) (fun c_1 => ?_)
  · refine a_iconst (v := 0) dX6_isChange_16 (by decide) ?_
    exact c_zret dX6_isChange_17 ⟨by simp_all [bi, inr], rfl⟩
  · refine a_iload_n dX6_isChange_4 rfl ?_
    refine a_aload_n dX6_isChange_5 rfl ?_
    refine c_getI (t := 5) (k := 4) dX6_isChange_6 kw_148 ?_
    refine a_icmp_ge (tgt := 16) dX6_isChange_9 (by decide) (fun c_9 => ?_) (fun c_9 => ?_)
    · refine a_iconst (v := 0) dX6_isChange_16 (by decide) ?_
      exact c_zret dX6_isChange_17 ⟨by simp_all [bi, inr], rfl⟩
    · refine a_iconst (v := 1) dX6_isChange_12 (by decide) ?_
      refine a_goto (tgt := 17) dX6_isChange_13 (by decide) ?_
      exact c_zret dX6_isChange_17 ⟨by simp_all [bi, inr], rfl⟩
set_option maxRecDepth 10000 in
theorem s_X6_isOpen {l : Launch} {w : WW} {M : Mem} {σ : Sg} {c : Int32} (hc : Cn σ) : Can l w yX6_isOpen cX6_isOpen 2 (some .boolean) (rmd 2) [.ref (ad w 0 5 0), .int c] (zx w M 0 σ) (RI (bi (opB σ c)) (zx w M 0 σ)) := by
  refine Can.go (ls := [some (.ref (ad w 0 5 0)), some (.int c)]) ?_
  refine a_aload_n dX6_isOpen_0 rfl ?_
  refine a_iload_n dX6_isOpen_1 rfl ?_
  refine c_V1I dX6_isOpen_2 kw_298 kv_X6_isChange s_X6_isChange ?_
  refine a_if_eq (tgt := 24) dX6_isOpen_5 (by decide) (fun c_5 => ?_) (fun c_5 => ?_)
  · refine a_iconst (v := 0) dX6_isOpen_24 (by decide) ?_
    exact c_zret dX6_isOpen_25 ⟨by first | (rw [opB, bi_0.mp c_5]; rfl) | (rw [opB, bi_n0.mp c_5, decide_eq_true c_17]; rfl) | (rw [opB, bi_n0.mp c_5, decide_eq_false c_17]; rfl), rfl⟩
  · refine a_aload_n dX6_isOpen_8 rfl ?_
    refine c_getR (t := 5) (k := 3) dX6_isOpen_9 kw_53 rfl ?_
    refine a_iload_n dX6_isOpen_12 rfl ?_
    obtain ⟨e1, e2⟩ := tnC (bi_n0.mp c_5) hc
    obtain ⟨r1, r14, r15⟩ := rl_ch e2
    refine c_aald (i := tn c) dX6_isOpen_13 e1 e2 (if_pos e2) ?_
    refine c_getI (t := 1) (k := 2) dX6_isOpen_14 kw_541 ?_
    refine a_if_ne (tgt := 24) dX6_isOpen_17 (by decide) (fun c_17 => ?_) (fun c_17 => ?_)
    · refine a_iconst (v := 0) dX6_isOpen_24 (by decide) ?_
      exact c_zret dX6_isOpen_25 ⟨by first | (rw [opB, bi_0.mp c_5]; rfl) | (rw [opB, bi_n0.mp c_5, decide_eq_true c_17]; rfl) | (rw [opB, bi_n0.mp c_5, decide_eq_false c_17]; rfl), rfl⟩
    · refine a_iconst (v := 1) dX6_isOpen_20 (by decide) ?_
      refine a_goto (tgt := 25) dX6_isOpen_21 (by decide) ?_
      exact c_zret dX6_isOpen_25 ⟨by first | (rw [opB, bi_0.mp c_5]; rfl) | (rw [opB, bi_n0.mp c_5, decide_eq_true c_17]; rfl) | (rw [opB, bi_n0.mp c_5, decide_eq_false c_17]; rfl), rfl⟩
set_option maxRecDepth 10000 in
theorem s_X6_isOpenOrRejected {l : Launch} {w : WW} {M : Mem} {σ : Sg} {c : Int32} (hc : Cn σ) : Can l w yX6_isOpenOrRejected cX6_isOpenOrRejected 2 (some .boolean) (rmd 3) [.ref (ad w 0 5 0), .int c] (zx w M 0 σ) (RI (bi (orB σ c)) (zx w M 0 σ)) := by
  refine Can.go (ls := [some (.ref (ad w 0 5 0)), some (.int c)]) ?_
  refine a_aload_n dX6_isOpenOrRejected_0 rfl ?_
  refine a_iload_n dX6_isOpenOrRejected_1 rfl ?_
  refine c_V1I dX6_isOpenOrRejected_2 kw_576 kv_X6_isOpen (s_X6_isOpen hc) ?_
  refine a_if_ne (tgt := 29) dX6_isOpenOrRejected_5 (by decide) (fun c_5 => ?_) (fun c_5 => ?_)
  · refine a_iconst (v := 1) dX6_isOpenOrRejected_29 (by decide) ?_
    refine a_goto (tgt := 34) dX6_isOpenOrRejected_30 (by decide) ?_
    exact c_zret dX6_isOpenOrRejected_34 ⟨by first | (rw [orB, bi_n0.mp c_5]; rfl) | (rw [orB, bi_0.mp c_5, bi_0.mp c_13]; rfl) | (rw [orB, bi_0.mp c_5, bi_n0.mp c_13, decide_eq_true c_26]; rfl) | (rw [orB, bi_0.mp c_5, bi_n0.mp c_13, decide_eq_false c_26]; rfl), rfl⟩
  · refine a_aload_n dX6_isOpenOrRejected_8 rfl ?_
    refine a_iload_n dX6_isOpenOrRejected_9 rfl ?_
    refine c_V1I dX6_isOpenOrRejected_10 kw_298 kv_X6_isChange s_X6_isChange ?_
    refine a_if_eq (tgt := 33) dX6_isOpenOrRejected_13 (by decide) (fun c_13 => ?_) (fun c_13 => ?_)
    · refine a_iconst (v := 0) dX6_isOpenOrRejected_33 (by decide) ?_
      exact c_zret dX6_isOpenOrRejected_34 ⟨by first | (rw [orB, bi_n0.mp c_5]; rfl) | (rw [orB, bi_0.mp c_5, bi_0.mp c_13]; rfl) | (rw [orB, bi_0.mp c_5, bi_n0.mp c_13, decide_eq_true c_26]; rfl) | (rw [orB, bi_0.mp c_5, bi_n0.mp c_13, decide_eq_false c_26]; rfl), rfl⟩
    · refine a_aload_n dX6_isOpenOrRejected_16 rfl ?_
      refine c_getR (t := 5) (k := 3) dX6_isOpenOrRejected_17 kw_53 rfl ?_
      refine a_iload_n dX6_isOpenOrRejected_20 rfl ?_
      obtain ⟨e1, e2⟩ := tnC (bi_n0.mp c_13) hc
      obtain ⟨r1, r14, r15⟩ := rl_ch e2
      refine c_aald (i := tn c) dX6_isOpenOrRejected_21 e1 e2 (if_pos e2) ?_
      refine c_getI (t := 1) (k := 2) dX6_isOpenOrRejected_22 kw_541 ?_
      refine a_iconst (v := 3) dX6_isOpenOrRejected_25 (by decide) ?_
      refine a_icmp_ne (tgt := 33) dX6_isOpenOrRejected_26 (by decide) (fun c_26 => ?_) (fun c_26 => ?_)
      · refine a_iconst (v := 0) dX6_isOpenOrRejected_33 (by decide) ?_
        exact c_zret dX6_isOpenOrRejected_34 ⟨by first | (rw [orB, bi_n0.mp c_5]; rfl) | (rw [orB, bi_0.mp c_5, bi_0.mp c_13]; rfl) | (rw [orB, bi_0.mp c_5, bi_n0.mp c_13, decide_eq_true c_26]; rfl) | (rw [orB, bi_0.mp c_5, bi_n0.mp c_13, decide_eq_false c_26]; rfl), rfl⟩
      · refine a_iconst (v := 1) dX6_isOpenOrRejected_29 (by decide) ?_
        refine a_goto (tgt := 34) dX6_isOpenOrRejected_30 (by decide) ?_
        exact c_zret dX6_isOpenOrRejected_34 ⟨by first | (rw [orB, bi_n0.mp c_5]; rfl) | (rw [orB, bi_0.mp c_5, bi_0.mp c_13]; rfl) | (rw [orB, bi_0.mp c_5, bi_n0.mp c_13, decide_eq_true c_26]; rfl) | (rw [orB, bi_0.mp c_5, bi_n0.mp c_13, decide_eq_false c_26]; rfl), rfl⟩
set_option maxRecDepth 10000 in
theorem s_X6_mayBeQueued {l : Launch} {w : WW} {M : Mem} {σ : Sg} {c : Int32} (hc : Cn σ) : Can l w yX6_mayBeQueued cX6_mayBeQueued 2 (some .boolean) (rmd 3) [.ref (ad w 0 5 0), .int c] (zx w M 0 σ) (RI (bi (mqB (M 2 4 0 0) σ c)) (zx w M 0 σ)) := by
  refine Can.go (ls := [some (.ref (ad w 0 5 0)), some (.int c)]) ?_
  refine a_aload_n dX6_mayBeQueued_0 rfl ?_
  refine a_iload_n dX6_mayBeQueued_1 rfl ?_
  refine c_V1I dX6_mayBeQueued_2 kw_576 kv_X6_isOpen (s_X6_isOpen hc) ?_
  refine a_if_eq (tgt := 43) dX6_mayBeQueued_5 (by decide) (fun c_5 => ?_) (fun c_5 => ?_)
  · refine a_iconst (v := 0) dX6_mayBeQueued_43 (by decide) ?_
    exact c_zret dX6_mayBeQueued_44 ⟨by first | (rw [mqB, bi_0.mp c_5]; rfl) | (rw [mqB, bi_n0.mp c_5, decide_eq_true c_24]; rfl) | (rw [mqB, bi_n0.mp c_5, decide_eq_false c_24, decide_eq_true c_36]; rfl) | (rw [mqB, bi_n0.mp c_5, decide_eq_false c_24, decide_eq_false c_36]; rfl), rfl⟩
  · refine a_aload_n dX6_mayBeQueued_8 rfl ?_
    refine c_getR (t := 5) (k := 3) dX6_mayBeQueued_9 kw_53 rfl ?_
    refine a_iload_n dX6_mayBeQueued_12 rfl ?_
    obtain ⟨e1, e2⟩ := tnC (opB_in (bi_n0.mp c_5)) hc
    obtain ⟨r1, r14, r15⟩ := rl_ch e2
    refine c_aald (i := tn c) dX6_mayBeQueued_13 e1 e2 (if_pos e2) ?_
    refine c_V0I dX6_mayBeQueued_14 kw_590 kv_X1_countFor (s_X1_countFor e2) ?_
    refine a_aload_n dX6_mayBeQueued_17 rfl ?_
    refine c_getR (t := 5) (k := 0) dX6_mayBeQueued_18 kw_63 rfl ?_
    refine e_getI (t := 4) (k := 0) dX6_mayBeQueued_21 kw_589 ?_
    refine a_icmp_lt (tgt := 43) dX6_mayBeQueued_24 (by decide) (fun c_24 => ?_) (fun c_24 => ?_)
    · refine a_iconst (v := 0) dX6_mayBeQueued_43 (by decide) ?_
      exact c_zret dX6_mayBeQueued_44 ⟨by first | (rw [mqB, bi_0.mp c_5]; rfl) | (rw [mqB, bi_n0.mp c_5, decide_eq_true c_24]; rfl) | (rw [mqB, bi_n0.mp c_5, decide_eq_false c_24, decide_eq_true c_36]; rfl) | (rw [mqB, bi_n0.mp c_5, decide_eq_false c_24, decide_eq_false c_36]; rfl), rfl⟩
    · refine a_aload_n dX6_mayBeQueued_27 rfl ?_
      refine c_getR (t := 5) (k := 3) dX6_mayBeQueued_28 kw_53 rfl ?_
      refine a_iload_n dX6_mayBeQueued_31 rfl ?_
      refine c_aald (i := tn c) dX6_mayBeQueued_32 e1 e2 (if_pos e2) ?_
      refine c_V0I dX6_mayBeQueued_33 kw_601 kv_X1_countAgainst (s_X1_countAgainst e2) ?_
      refine a_if_ne (tgt := 43) dX6_mayBeQueued_36 (by decide) (fun c_36 => ?_) (fun c_36 => ?_)
      · refine a_iconst (v := 0) dX6_mayBeQueued_43 (by decide) ?_
        exact c_zret dX6_mayBeQueued_44 ⟨by first | (rw [mqB, bi_0.mp c_5]; rfl) | (rw [mqB, bi_n0.mp c_5, decide_eq_true c_24]; rfl) | (rw [mqB, bi_n0.mp c_5, decide_eq_false c_24, decide_eq_true c_36]; rfl) | (rw [mqB, bi_n0.mp c_5, decide_eq_false c_24, decide_eq_false c_36]; rfl), rfl⟩
      · refine a_iconst (v := 1) dX6_mayBeQueued_39 (by decide) ?_
        refine a_goto (tgt := 44) dX6_mayBeQueued_40 (by decide) ?_
        exact c_zret dX6_mayBeQueued_44 ⟨by first | (rw [mqB, bi_0.mp c_5]; rfl) | (rw [mqB, bi_n0.mp c_5, decide_eq_true c_24]; rfl) | (rw [mqB, bi_n0.mp c_5, decide_eq_false c_24, decide_eq_true c_36]; rfl) | (rw [mqB, bi_n0.mp c_5, decide_eq_false c_24, decide_eq_false c_36]; rfl), rfl⟩
set_option maxRecDepth 10000 in
theorem s_X6_mayBeRebased {l : Launch} {w : WW} {M : Mem} {σ : Sg} {c : Int32} (hc : Cn σ) : Can l w yX6_mayBeRebased cX6_mayBeRebased 2 (some .boolean) (rmd 4) [.ref (ad w 0 5 0), .int c] (zx w M 0 σ) (RI (bi (mrB σ c)) (zx w M 0 σ)) := by
  refine Can.go (ls := [some (.ref (ad w 0 5 0)), some (.int c)]) ?_
  refine a_aload_n dX6_mayBeRebased_0 rfl ?_
  refine a_iload_n dX6_mayBeRebased_1 rfl ?_
  refine c_V1I dX6_mayBeRebased_2 kw_617 kv_X6_isOpenOrRejected (s_X6_isOpenOrRejected hc) ?_
  refine a_if_eq (tgt := 28) dX6_mayBeRebased_5 (by decide) (fun c_5 => ?_) (fun c_5 => ?_)
  · refine a_iconst (v := 0) dX6_mayBeRebased_28 (by decide) ?_
    exact c_zret dX6_mayBeRebased_29 ⟨by first | (rw [mrB, bi_0.mp c_5]; rfl) | (rw [mrB, bi_n0.mp c_5, cfT, bi_n0.mp c_21]; rfl) | (rw [mrB, bi_n0.mp c_5, cfT, bi_0.mp c_21]; rfl), rfl⟩
  · refine a_aload_n dX6_mayBeRebased_8 rfl ?_
    refine c_getR (t := 5) (k := 3) dX6_mayBeRebased_9 kw_53 rfl ?_
    refine a_iload_n dX6_mayBeRebased_12 rfl ?_
    obtain ⟨e1, e2⟩ := tnC (orB_in (bi_n0.mp c_5)) hc
    obtain ⟨r1, r14, r15⟩ := rl_ch e2
    refine c_aald (i := tn c) dX6_mayBeRebased_13 e1 e2 (if_pos e2) ?_
    refine a_aload_n dX6_mayBeRebased_14 rfl ?_
    refine c_getR (t := 5) (k := 1) dX6_mayBeRebased_15 kw_51 rfl ?_
    refine c_V1I dX6_mayBeRebased_18 kw_352 kv_X1_conflictsWith (s_X1_conflictsWith (t := 8) e2 (by decide) rfl rfl rfl) ?_
    refine a_if_ne (tgt := 28) dX6_mayBeRebased_21 (by decide) (fun c_21 => ?_) (fun c_21 => ?_)
    · refine a_iconst (v := 0) dX6_mayBeRebased_28 (by decide) ?_
      exact c_zret dX6_mayBeRebased_29 ⟨by first | (rw [mrB, bi_0.mp c_5]; rfl) | (rw [mrB, bi_n0.mp c_5, cfT, bi_n0.mp c_21]; rfl) | (rw [mrB, bi_n0.mp c_5, cfT, bi_0.mp c_21]; rfl), rfl⟩
    · refine a_iconst (v := 1) dX6_mayBeRebased_24 (by decide) ?_
      refine a_goto (tgt := 29) dX6_mayBeRebased_25 (by decide) ?_
      exact c_zret dX6_mayBeRebased_29 ⟨by first | (rw [mrB, bi_0.mp c_5]; rfl) | (rw [mrB, bi_n0.mp c_5, cfT, bi_n0.mp c_21]; rfl) | (rw [mrB, bi_n0.mp c_5, cfT, bi_0.mp c_21]; rfl), rfl⟩
set_option maxRecDepth 10000 in
theorem s_X6_jobToLease {l : Launch} {w : WW} {M : Mem} {σ : Sg} {v : Int32} : Can l w yX6_jobToLease cX6_jobToLease 2 (some .int) (rmd 3) [.ref (ad w 0 5 0), .int v] (zx w M 0 σ) (RI (jtl σ v) (zx w M 0 σ)) := by
  refine Can.go (ls := [some (.ref (ad w 0 5 0)), some (.int v)]) ?_
  refine a_iload_n dX6_jobToLease_0 rfl ?_
  refine c_N1I dX6_jobToLease_1 nw_550 ks_X7_isWorker s_X7_isWorker ?_
  refine a_if_eq (tgt := 29) dX6_jobToLease_4 (by decide) (fun c_4 => ?_) (fun c_4 => ?_)
  · refine a_iconst (v := (-1)) dX6_jobToLease_29 (by decide) ?_
    exact c_iret dX6_jobToLease_30 ⟨by first | (rw [jtl, bi_0.mp c_4]; rfl) | (rw [jtl, bi_n0.mp c_4, decide_eq_true c_16]; rfl) | (rw [jtl, bi_n0.mp c_4, decide_eq_false c_16]; rfl), rfl⟩
  · refine a_aload_n dX6_jobToLease_7 rfl ?_
    refine c_getR (t := 5) (k := 7) dX6_jobToLease_8 kw_62 rfl ?_
    refine a_iload_n dX6_jobToLease_11 rfl ?_
    refine c_V1I dX6_jobToLease_12 kw_248 kv_X0_leasedJob s_X0_leasedJob ?_
    refine a_iconst (v := (-1)) dX6_jobToLease_15 (by decide) ?_
    refine a_icmp_ne (tgt := 29) dX6_jobToLease_16 (by decide) (fun c_16 => ?_) (fun c_16 => ?_)
    · refine a_iconst (v := (-1)) dX6_jobToLease_29 (by decide) ?_
      exact c_iret dX6_jobToLease_30 ⟨by first | (rw [jtl, bi_0.mp c_4]; rfl) | (rw [jtl, bi_n0.mp c_4, decide_eq_true c_16]; rfl) | (rw [jtl, bi_n0.mp c_4, decide_eq_false c_16]; rfl), rfl⟩
    · refine a_aload_n dX6_jobToLease_19 rfl ?_
      refine c_getR (t := 5) (k := 7) dX6_jobToLease_20 kw_62 rfl ?_
      refine c_V0I dX6_jobToLease_23 kw_228 kv_X0_nextJob s_X0_nextJob ?_
      refine a_goto (tgt := 30) dX6_jobToLease_26 (by decide) ?_
      exact c_iret dX6_jobToLease_30 ⟨by first | (rw [jtl, bi_0.mp c_4]; rfl) | (rw [jtl, bi_n0.mp c_4, decide_eq_true c_16]; rfl) | (rw [jtl, bi_n0.mp c_4, decide_eq_false c_16]; rfl), rfl⟩
def addC (σ : Sg) : Sg := sg (stF σ (cn σ)) 5 0 4 (σ 5 0 4 + 1)
def leaseN (t : Int32) (σ : Sg) (v : Nat) : Sg := if nextJ σ = -1 then σ else leaseB σ (tn (nextJ σ)) v (σ 5 0 8 + t)
theorem stF_5 (σ : Sg) (c : Nat) : stF σ c 5 = σ 5 := by
  unfold stF dropR become
  rw [sg_t (by decide), sg_t (by decide), sg_t (by decide), sg_t (by decide), sga_t (by decide), sga_t (by decide)]
theorem fhit_in {c : Nat → Bool} : ∀ {n j : Nat}, fhit c n j = -1 ∨ ∃ i, j ≤ i ∧ i < j + n ∧ fhit c n j = nI i ∧ c i = true
  | 0, j => Or.inl rfl
  | n + 1, j => by
    unfold fhit
    by_cases h : c j = true
    · rw [if_pos h]
      exact Or.inr ⟨j, Nat.le_refl j, by omega, rfl, h⟩
    · rw [if_neg h]
      rcases @fhit_in c n (j + 1) with h1 | ⟨i, h1, h2, h3, h4⟩
      · exact Or.inl h1
      · exact Or.inr ⟨i, by omega, by omega, h3, h4⟩
theorem fhit_tn {c : Nat → Bool} (h : ¬ fhit c 4 0 = -1) : fhit c 4 0 = nI (tn (fhit c 4 0)) ∧ tn (fhit c 4 0) < 4 ∧ c (tn (fhit c 4 0)) = true := by
  rcases @fhit_in c 4 0 with h1 | ⟨i, -, h2, h3, h4⟩
  · exact absurd h1 h
  · have e : tn (fhit c 4 0) = i := by rw [h3]; exact nI_clamp (by omega)
    rw [e]
    exact ⟨h3, by omega, h4⟩
set_option maxRecDepth 10000 in
theorem s_X6_addChange {l : Launch} {w : WW} {M : Mem} {σ : Sg} (hc : Cn σ) (hlt : cn σ < 16) : Can l w yX6_addChange cX6_addChange 2 (some .int) (rmd 3) [.ref (ad w 0 5 0)] (zx w M 0 σ) (RI (σ 5 0 4) (zx w M 0 (addC σ))) := by
  refine Can.go (ls := [some (.ref (ad w 0 5 0)), none]) ?_
  refine a_aload_n dX6_addChange_0 rfl ?_
  refine c_getI (t := 5) (k := 4) dX6_addChange_1 kw_148 ?_
  refine a_istore_1 dX6_addChange_4 (by decide) ?_
  refine a_aload_n dX6_addChange_5 rfl ?_
  refine c_getR (t := 5) (k := 3) dX6_addChange_6 kw_53 rfl ?_
  refine a_iload_n dX6_addChange_9 rfl ?_
  obtain ⟨r1, r14, r15⟩ := rl_ch hlt
  refine c_aald (i := cn σ) dX6_addChange_10 hc.1 hlt (if_pos hlt) ?_
  refine a_aload_n dX6_addChange_11 rfl ?_
  refine c_getR (t := 5) (k := 1) dX6_addChange_12 kw_51 rfl ?_
  refine c_V1V dX6_addChange_15 kw_186 kv_X1_startFrom (s_X1_startFrom hlt) ?_
  refine a_aload_n dX6_addChange_18 rfl ?_
  refine a_dup dX6_addChange_19 rfl ?_
  refine c_getI (t := 5) (k := 4) dX6_addChange_20 kw_148 ?_
  refine a_iconst (v := 1) dX6_addChange_23 (by decide) ?_
  refine a_iadd dX6_addChange_24 ?_
  refine c_putI (t := 5) (k := 4) dX6_addChange_25 kw_148 ?_
  refine a_iload_n dX6_addChange_28 rfl ?_
  exact c_iret dX6_addChange_29 ⟨rfl, by rw [stF_5]; rfl⟩
set_option maxRecDepth 10000 in
theorem s_X6_leaseNextJob {l : Launch} {w : WW} {M : Mem} {σ : Sg} {v : Nat} (hv : v < 4) : Can l w yX6_leaseNextJob cX6_leaseNextJob 3 (some .int) (rmd 3) [.ref (ad w 0 5 0), .int (nI v)] (zx w M 0 σ) (RI (nextJ σ) (zx w M 0 (leaseN (M 2 4 0 3) σ v))) := by
  refine Can.go (ls := [some (.ref (ad w 0 5 0)), some (.int (nI v)), none]) ?_
  refine a_aload_n dX6_leaseNextJob_0 rfl ?_
  refine c_getR (t := 5) (k := 7) dX6_leaseNextJob_1 kw_62 rfl ?_
  refine c_V0I dX6_leaseNextJob_4 kw_228 kv_X0_nextJob s_X0_nextJob ?_
  refine a_istore_2 dX6_leaseNextJob_7 (by decide) ?_
  refine a_iload_n dX6_leaseNextJob_8 rfl ?_
  refine a_iconst (v := (-1)) dX6_leaseNextJob_9 (by decide) ?_
  refine a_icmp_eq (tgt := 34) dX6_leaseNextJob_10 (by decide) (fun c_10 => ?_) (fun c_10 => ?_)
  · refine a_iload_n dX6_leaseNextJob_34 rfl ?_
    exact c_iret dX6_leaseNextJob_35 ⟨by first | rfl | exact e1.symm, by first | rw [leaseN, if_pos c_10] | rw [leaseN, if_neg c_10]⟩
  · refine a_aload_n dX6_leaseNextJob_13 rfl ?_
    refine c_getR (t := 5) (k := 7) dX6_leaseNextJob_14 kw_62 rfl ?_
    obtain ⟨e1, e2, -⟩ := fhit_tn c_10
    refine a_iload_n dX6_leaseNextJob_17 rfl ?_
    refine a_iload_n dX6_leaseNextJob_18 rfl ?_
    refine a_aload_n dX6_leaseNextJob_19 rfl ?_
    rw [show nextJ σ = nI (tn (nextJ σ)) from e1]
    refine c_getI (t := 5) (k := 8) dX6_leaseNextJob_20 kw_149 ?_
    refine a_aload_n dX6_leaseNextJob_23 rfl ?_
    refine c_getR (t := 5) (k := 0) dX6_leaseNextJob_24 kw_63 rfl ?_
    refine e_getI (t := 4) (k := 3) dX6_leaseNextJob_27 kw_227 ?_
    refine a_iadd dX6_leaseNextJob_30 ?_
    refine c_V3V dX6_leaseNextJob_31 kw_244 kv_X0_lease (s_X0_lease e2 hv) ?_
    refine a_iload_n dX6_leaseNextJob_34 rfl ?_
    exact c_iret dX6_leaseNextJob_35 ⟨by first | rfl | exact e1.symm, by first | rw [leaseN, if_pos c_10] | rw [leaseN, if_neg c_10]⟩
