set_option maxRecDepth 10000 in
theorem s_X1_become {l : Launch} {w : WW} {M : Mem} {σ : Sg} {c : Nat} (hc : c < 16) {a b : Int32} : Can l w yX1_become cX1_become 3 none (rmd 1) [.ref (ad w 0 1 c), .int a, .int b] (zx w M 0 σ) (RV (zx w M 0 (become σ c a b))) := by
  refine Can.go (ls := [some (.ref (ad w 0 1 c)), some (.int a), some (.int b)]) ?_
  obtain ⟨h1, h14, h15⟩ := rl_ch hc
  refine a_aload_n dX1_become_0 rfl ?_
  refine a_iload_n dX1_become_1 rfl ?_
  refine c_putI (t := 1) (k := 2) dX1_become_2 kw_160 ?_
  refine a_aload_n dX1_become_5 rfl ?_
  refine a_iload_n dX1_become_6 rfl ?_
  refine c_putI (t := 1) (k := 3) dX1_become_7 kw_161 ?_
  exact c_vret dX1_become_10 ⟨rfl, rfl⟩
set_option maxRecDepth 10000 in
theorem s_X1_dropReviews {l : Launch} {w : WW} {M : Mem} {σ : Sg} {c : Nat} (hc : c < 16)  : Can l w yX1_dropReviews cX1_dropReviews 1 none (rmd 1) [.ref (ad w 0 1 c)] (zx w M 0 σ) (RV (zx w M 0 (dropR σ c))) := by
  refine Can.go (ls := [some (.ref (ad w 0 1 c))]) ?_
  obtain ⟨h1, h14, h15⟩ := rl_ch hc
  refine a_aload_n dX1_dropReviews_0 rfl ?_
  refine a_iconst (v := 0) dX1_dropReviews_1 (by decide) ?_
  refine c_putI (t := 1) (k := 4) dX1_dropReviews_2 kw_162 ?_
  refine a_aload_n dX1_dropReviews_5 rfl ?_
  refine a_iconst (v := 0) dX1_dropReviews_6 (by decide) ?_
  refine c_putI (t := 1) (k := 5) dX1_dropReviews_7 kw_163 ?_
  exact c_vret dX1_dropReviews_10 ⟨rfl, rfl⟩
set_option maxRecDepth 10000 in
theorem s_X1_setContent {l : Launch} {w : WW} {M : Mem} {σ : Sg} {c : Nat} (hc : c < 16) {p : Nat} {v : Int32} (hp : p < 6) : Can l w yX1_setContent cX1_setContent 3 none (rmd 2) [.ref (ad w 0 1 c), .int (nI p), .int v] (zx w M 0 σ) (RV (zx w M 0 (dropR (sg σ 15 c p v) c))) := by
  refine Can.go (ls := [some (.ref (ad w 0 1 c)), some (.int (nI p)), some (.int v)]) ?_
  obtain ⟨h1, h14, h15⟩ := rl_ch hc
  refine a_aload_n dX1_setContent_0 rfl ?_
  refine c_getR (t := 1) (k := 1) dX1_setContent_1 kw_82 rfl ?_
  refine a_iload_n dX1_setContent_4 rfl ?_
  refine a_iload_n dX1_setContent_5 rfl ?_
  refine c_iast (i := p) dX1_setContent_6 rfl hp ?_
  refine a_aload_n dX1_setContent_7 rfl ?_
  refine c_V0V dX1_setContent_8 kw_194 kv_X1_dropReviews (s_X1_dropReviews hc) ?_
  exact c_vret dX1_setContent_11 ⟨rfl, rfl⟩
set_option maxRecDepth 10000 in
theorem s_X1_addSupporter {l : Launch} {w : WW} {M : Mem} {σ : Sg} {c : Nat} (hc : c < 16) {r : Int32} : Can l w yX1_addSupporter cX1_addSupporter 2 none (rmd 1) [.ref (ad w 0 1 c), .int r] (zx w M 0 σ) (RV (zx w M 0 (addF σ c r))) := by
  refine Can.go (ls := [some (.ref (ad w 0 1 c)), some (.int r)]) ?_
  obtain ⟨h1, h14, h15⟩ := rl_ch hc
  refine a_aload_n dX1_addSupporter_0 rfl ?_
  refine a_dup dX1_addSupporter_1 rfl ?_
  refine c_getI (t := 1) (k := 4) dX1_addSupporter_2 kw_162 ?_
  refine a_iconst (v := 1) dX1_addSupporter_5 (by decide) ?_
  refine a_iload_n dX1_addSupporter_6 rfl ?_
  refine a_ishl dX1_addSupporter_7 ?_
  refine a_ior dX1_addSupporter_8 ?_
  refine c_putI (t := 1) (k := 4) dX1_addSupporter_9 kw_162 ?_
  refine a_aload_n dX1_addSupporter_12 rfl ?_
  refine a_dup dX1_addSupporter_13 rfl ?_
  refine c_getI (t := 1) (k := 5) dX1_addSupporter_14 kw_163 ?_
  refine a_iconst (v := 1) dX1_addSupporter_17 (by decide) ?_
  refine a_iload_n dX1_addSupporter_18 rfl ?_
  refine a_ishl dX1_addSupporter_19 ?_
  refine a_iconst (v := (-1)) dX1_addSupporter_20 (by decide) ?_
  refine a_ixor dX1_addSupporter_21 ?_
  refine a_iand dX1_addSupporter_22 ?_
  refine c_putI (t := 1) (k := 5) dX1_addSupporter_23 kw_163 ?_
  exact c_vret dX1_addSupporter_26 ⟨rfl, by rw [sg_k (by decide)]; rfl⟩
set_option maxRecDepth 10000 in
theorem s_X1_addOpponent {l : Launch} {w : WW} {M : Mem} {σ : Sg} {c : Nat} (hc : c < 16) {r : Int32} : Can l w yX1_addOpponent cX1_addOpponent 2 none (rmd 1) [.ref (ad w 0 1 c), .int r] (zx w M 0 σ) (RV (zx w M 0 (addA σ c r))) := by
  refine Can.go (ls := [some (.ref (ad w 0 1 c)), some (.int r)]) ?_
  obtain ⟨h1, h14, h15⟩ := rl_ch hc
  refine a_aload_n dX1_addOpponent_0 rfl ?_
  refine a_dup dX1_addOpponent_1 rfl ?_
  refine c_getI (t := 1) (k := 5) dX1_addOpponent_2 kw_163 ?_
  refine a_iconst (v := 1) dX1_addOpponent_5 (by decide) ?_
  refine a_iload_n dX1_addOpponent_6 rfl ?_
  refine a_ishl dX1_addOpponent_7 ?_
  refine a_ior dX1_addOpponent_8 ?_
  refine c_putI (t := 1) (k := 5) dX1_addOpponent_9 kw_163 ?_
  refine a_aload_n dX1_addOpponent_12 rfl ?_
  refine a_dup dX1_addOpponent_13 rfl ?_
  refine c_getI (t := 1) (k := 4) dX1_addOpponent_14 kw_162 ?_
  refine a_iconst (v := 1) dX1_addOpponent_17 (by decide) ?_
  refine a_iload_n dX1_addOpponent_18 rfl ?_
  refine a_ishl dX1_addOpponent_19 ?_
  refine a_iconst (v := (-1)) dX1_addOpponent_20 (by decide) ?_
  refine a_ixor dX1_addOpponent_21 ?_
  refine a_iand dX1_addOpponent_22 ?_
  refine c_putI (t := 1) (k := 4) dX1_addOpponent_23 kw_162 ?_
  exact c_vret dX1_addOpponent_26 ⟨rfl, by rw [sg_k (by decide)]; rfl⟩
set_option maxRecDepth 10000 in
theorem s_X1_countFor {l : Launch} {w : WW} {M : Mem} {σ : Sg} {c : Nat} (hc : c < 16)  : Can l w yX1_countFor cX1_countFor 1 (some .int) (rmd 2) [.ref (ad w 0 1 c)] (zx w M 0 σ) (RI (bitc (σ 1 c 4)) (zx w M 0 σ)) := by
  refine Can.go (ls := [some (.ref (ad w 0 1 c))]) ?_
  obtain ⟨h1, h14, h15⟩ := rl_ch hc
  refine a_aload_n dX1_countFor_0 rfl ?_
  refine c_getI (t := 1) (k := 4) dX1_countFor_1 kw_162 ?_
  refine c_S1I dX1_countFor_4 kw_594 ks_J6_bitCount_0f7a4 s_J6_bitCount_0f7a4 ?_
  exact c_iret dX1_countFor_7 ⟨rfl, rfl⟩
set_option maxRecDepth 10000 in
theorem s_X1_countAgainst {l : Launch} {w : WW} {M : Mem} {σ : Sg} {c : Nat} (hc : c < 16)  : Can l w yX1_countAgainst cX1_countAgainst 1 (some .int) (rmd 2) [.ref (ad w 0 1 c)] (zx w M 0 σ) (RI (bitc (σ 1 c 5)) (zx w M 0 σ)) := by
  refine Can.go (ls := [some (.ref (ad w 0 1 c))]) ?_
  obtain ⟨h1, h14, h15⟩ := rl_ch hc
  refine a_aload_n dX1_countAgainst_0 rfl ?_
  refine c_getI (t := 1) (k := 5) dX1_countAgainst_1 kw_163 ?_
  refine c_S1I dX1_countAgainst_4 kw_594 ks_J6_bitCount_0f7a4 s_J6_bitCount_0f7a4 ?_
  exact c_iret dX1_countAgainst_7 ⟨rfl, rfl⟩
set_option maxRecDepth 10000 in
theorem L_X1_conflictsWith {l : Launch} {w : WW} {Φ : Option Value → XX → Prop} {M : Mem} {σ : Sg} {c t : Nat} (hc : c < 16) (ht : ¬ t < 8) (hk : aK t = 0) (hL : aL t 0 = 6) (ho : rl 0 t 0 = true) : ∀ (n : Nat) {j : Nat} {v3 : Option Value}, j + n = 6 → Φ (some (.int (bi (anyU (cfl (σ 14 c) (σ 15 c) (σ t 0)) n j)))) (zx w M 0 σ) → A l w yX1_conflictsWith cX1_conflictsWith 4 (some .boolean) (rmd 1) Φ 2 [some (.ref (ad w 0 1 c)), some (.ref (ad w 0 t 0)), some (.int (nI j)), v3] [] (zx w M 0 σ) 0 0 := by
  intro n
  induction n with
  | zero =>
    intro j v3 hj h
    obtain ⟨h1, h14, h15⟩ := rl_ch hc
    refine a_iload_n dX1_conflictsWith_2 rfl ?_
    refine a_bipush (v := 6) dX1_conflictsWith_3 (by decide) ?_
    refine a_icmp_ge (tgt := 65) dX1_conflictsWith_5 (by decide) (fun c_5 => ?_) (fun c_5 => absurd (by have e6 : j = 6 := (by omega); subst e6; decide) c_5)
    refine a_iconst (v := 0) dX1_conflictsWith_65 (by decide) ?_
    exact c_zret dX1_conflictsWith_66 h
  | succ n ih =>
    intro j v3 hj h
    obtain ⟨h1, h14, h15⟩ := rl_ch hc
    refine a_iload_n dX1_conflictsWith_2 rfl ?_
    refine a_bipush (v := 6) dX1_conflictsWith_3 (by decide) ?_
    refine a_icmp_ge (tgt := 65) dX1_conflictsWith_5 (by decide) (fun c_5 => absurd c_5 (nI_ge (b := 6) (by omega) (by omega))) (fun c_5 => ?_)
    refine a_aload_n dX1_conflictsWith_8 rfl ?_
    refine c_getR (t := 1) (k := 1) dX1_conflictsWith_9 kw_82 rfl ?_
    refine a_iload_n dX1_conflictsWith_12 rfl ?_
    refine c_iald (i := j) dX1_conflictsWith_13 rfl (show j < 6 by omega) ?_
    refine a_aload_n dX1_conflictsWith_14 rfl ?_
    refine c_getR (t := 1) (k := 0) dX1_conflictsWith_15 kw_81 rfl ?_
    refine a_iload_n dX1_conflictsWith_18 rfl ?_
    refine c_iald (i := j) dX1_conflictsWith_19 rfl (show j < 6 by omega) ?_
    refine a_icmp_eq (tgt := 27) dX1_conflictsWith_20 (by decide) (fun c_20 => ?_) (fun c_20 => ?_)
    · refine a_iconst (v := 0) dX1_conflictsWith_27 (by decide) ?_
      refine a_istore_3 dX1_conflictsWith_28 (by decide) ?_
      refine a_iload_n dX1_conflictsWith_29 rfl ?_
      refine a_if_eq (tgt := 59) dX1_conflictsWith_30 (by decide) (fun c_30 => ?_) (fun c_30 => ?_)
      · refine a_iinc_2 (u := nI (j + 1)) dX1_conflictsWith_59 (inc_nI j) (by decide) ?_
        refine a_goto (tgt := 2) dX1_conflictsWith_62 (by decide) ?_
        first | exact absurd rfl c_30 | exact absurd c_30 (by decide) | (refine ih (by omega) ?_; have h9 : cfl (σ 14 c) (σ 15 c) (σ t 0) j = false := (by simp_all [cfl]); rw [anyU, h9, Bool.false_or] at h; exact h)
      · refine a_aload_n dX1_conflictsWith_33 rfl ?_
        refine a_iload_n dX1_conflictsWith_34 rfl ?_
        refine c_iald (i := j) dX1_conflictsWith_35 rfl (by rw [hL]; omega) ?_
        refine a_aload_n dX1_conflictsWith_36 rfl ?_
        refine c_getR (t := 1) (k := 0) dX1_conflictsWith_37 kw_81 rfl ?_
        refine a_iload_n dX1_conflictsWith_40 rfl ?_
        refine c_iald (i := j) dX1_conflictsWith_41 rfl (show j < 6 by omega) ?_
        refine a_icmp_eq (tgt := 59) dX1_conflictsWith_42 (by decide) (fun c_42 => ?_) (fun c_42 => ?_)
        · refine a_iinc_2 (u := nI (j + 1)) dX1_conflictsWith_59 (inc_nI j) (by decide) ?_
          refine a_goto (tgt := 2) dX1_conflictsWith_62 (by decide) ?_
          first | exact absurd rfl c_30 | exact absurd c_30 (by decide) | (refine ih (by omega) ?_; have h9 : cfl (σ 14 c) (σ 15 c) (σ t 0) j = false := (by simp_all [cfl]); rw [anyU, h9, Bool.false_or] at h; exact h)
        · refine a_aload_n dX1_conflictsWith_45 rfl ?_
          refine a_iload_n dX1_conflictsWith_46 rfl ?_
          refine c_iald (i := j) dX1_conflictsWith_47 rfl (by rw [hL]; omega) ?_
          refine a_aload_n dX1_conflictsWith_48 rfl ?_
          refine c_getR (t := 1) (k := 1) dX1_conflictsWith_49 kw_82 rfl ?_
          refine a_iload_n dX1_conflictsWith_52 rfl ?_
          refine c_iald (i := j) dX1_conflictsWith_53 rfl (show j < 6 by omega) ?_
          refine a_icmp_eq (tgt := 59) dX1_conflictsWith_54 (by decide) (fun c_54 => ?_) (fun c_54 => ?_)
          · refine a_iinc_2 (u := nI (j + 1)) dX1_conflictsWith_59 (inc_nI j) (by decide) ?_
            refine a_goto (tgt := 2) dX1_conflictsWith_62 (by decide) ?_
            first | exact absurd rfl c_30 | exact absurd c_30 (by decide) | (refine ih (by omega) ?_; have h9 : cfl (σ 14 c) (σ 15 c) (σ t 0) j = false := (by simp_all [cfl]); rw [anyU, h9, Bool.false_or] at h; exact h)
          · refine a_iconst (v := 1) dX1_conflictsWith_57 (by decide) ?_
            exact c_zret dX1_conflictsWith_58 (by first | exact absurd rfl c_30 | exact absurd c_30 (by decide) | (have h9 : cfl (σ 14 c) (σ 15 c) (σ t 0) j = true := (by simp_all [cfl]); have h8 := h; rw [anyU, h9, Bool.true_or] at h8; exact h8))
    · refine a_iconst (v := 1) dX1_conflictsWith_23 (by decide) ?_
      refine a_goto (tgt := 28) dX1_conflictsWith_24 (by decide) ?_
      refine a_istore_3 dX1_conflictsWith_28 (by decide) ?_
      refine a_iload_n dX1_conflictsWith_29 rfl ?_
      refine a_if_eq (tgt := 59) dX1_conflictsWith_30 (by decide) (fun c_30 => ?_) (fun c_30 => ?_)
      · refine a_iinc_2 (u := nI (j + 1)) dX1_conflictsWith_59 (inc_nI j) (by decide) ?_
        refine a_goto (tgt := 2) dX1_conflictsWith_62 (by decide) ?_
        first | exact absurd rfl c_30 | exact absurd c_30 (by decide) | (refine ih (by omega) ?_; have h9 : cfl (σ 14 c) (σ 15 c) (σ t 0) j = false := (by simp_all [cfl]); rw [anyU, h9, Bool.false_or] at h; exact h)
      · refine a_aload_n dX1_conflictsWith_33 rfl ?_
        refine a_iload_n dX1_conflictsWith_34 rfl ?_
        refine c_iald (i := j) dX1_conflictsWith_35 rfl (by rw [hL]; omega) ?_
        refine a_aload_n dX1_conflictsWith_36 rfl ?_
        refine c_getR (t := 1) (k := 0) dX1_conflictsWith_37 kw_81 rfl ?_
        refine a_iload_n dX1_conflictsWith_40 rfl ?_
        refine c_iald (i := j) dX1_conflictsWith_41 rfl (show j < 6 by omega) ?_
        refine a_icmp_eq (tgt := 59) dX1_conflictsWith_42 (by decide) (fun c_42 => ?_) (fun c_42 => ?_)
        · refine a_iinc_2 (u := nI (j + 1)) dX1_conflictsWith_59 (inc_nI j) (by decide) ?_
          refine a_goto (tgt := 2) dX1_conflictsWith_62 (by decide) ?_
          first | exact absurd rfl c_30 | exact absurd c_30 (by decide) | (refine ih (by omega) ?_; have h9 : cfl (σ 14 c) (σ 15 c) (σ t 0) j = false := (by simp_all [cfl]); rw [anyU, h9, Bool.false_or] at h; exact h)
        · refine a_aload_n dX1_conflictsWith_45 rfl ?_
          refine a_iload_n dX1_conflictsWith_46 rfl ?_
          refine c_iald (i := j) dX1_conflictsWith_47 rfl (by rw [hL]; omega) ?_
          refine a_aload_n dX1_conflictsWith_48 rfl ?_
          refine c_getR (t := 1) (k := 1) dX1_conflictsWith_49 kw_82 rfl ?_
          refine a_iload_n dX1_conflictsWith_52 rfl ?_
          refine c_iald (i := j) dX1_conflictsWith_53 rfl (show j < 6 by omega) ?_
          refine a_icmp_eq (tgt := 59) dX1_conflictsWith_54 (by decide) (fun c_54 => ?_) (fun c_54 => ?_)
          · refine a_iinc_2 (u := nI (j + 1)) dX1_conflictsWith_59 (inc_nI j) (by decide) ?_
            refine a_goto (tgt := 2) dX1_conflictsWith_62 (by decide) ?_
            first | exact absurd rfl c_30 | exact absurd c_30 (by decide) | (refine ih (by omega) ?_; have h9 : cfl (σ 14 c) (σ 15 c) (σ t 0) j = false := (by simp_all [cfl]); rw [anyU, h9, Bool.false_or] at h; exact h)
          · refine a_iconst (v := 1) dX1_conflictsWith_57 (by decide) ?_
            exact c_zret dX1_conflictsWith_58 (by first | exact absurd rfl c_30 | exact absurd c_30 (by decide) | (have h9 : cfl (σ 14 c) (σ 15 c) (σ t 0) j = true := (by simp_all [cfl]); have h8 := h; rw [anyU, h9, Bool.true_or] at h8; exact h8))
set_option maxRecDepth 10000 in
theorem s_X1_conflictsWith {l : Launch} {w : WW} {M : Mem} {σ : Sg} {c : Nat} (hc : c < 16) {t : Nat} (ht : ¬ t < 8) (hk : aK t = 0) (hL : aL t 0 = 6) (ho : rl 0 t 0 = true) : Can l w yX1_conflictsWith cX1_conflictsWith 4 (some .boolean) (rmd 1) [.ref (ad w 0 1 c), .ref (ad w 0 t 0)] (zx w M 0 σ) (RI (bi (anyU (cfl (σ 14 c) (σ 15 c) (σ t 0)) 6 0)) (zx w M 0 σ)) := by
  refine Can.go (ls := [some (.ref (ad w 0 1 c)), some (.ref (ad w 0 t 0)), none, none]) ?_
  obtain ⟨h1, h14, h15⟩ := rl_ch hc
  refine a_iconst (v := 0) dX1_conflictsWith_0 (by decide) ?_
  refine a_istore_2 dX1_conflictsWith_1 (by decide) ?_
  exact L_X1_conflictsWith hc ht hk hL ho 6 rfl ⟨rfl, rfl⟩
set_option maxRecDepth 10000 in
theorem L_X1_mergeInto {l : Launch} {w : WW} {Φ : Option Value → XX → Prop} {M : Mem} {σ : Sg} {c : Nat} (hc : c < 16) : ∀ (n : Nat) {j : Nat}, j + n = 6 → A l w yX1_mergeInto cX1_mergeInto 3 none (rmd 1) Φ 38 [some (.ref (ad w 0 1 c)), some (.ref (ad w 0 9 0)), some (.int (nI 6))] [] (zx w M 0 (sga σ 9 0 (mixN 6 (mrg (σ 14 c) (σ 15 c) (σ 9 0)) (σ 9 0)))) 0 0 → A l w yX1_mergeInto cX1_mergeInto 3 none (rmd 1) Φ 2 [some (.ref (ad w 0 1 c)), some (.ref (ad w 0 9 0)), some (.int (nI j))] [] (zx w M 0 (sga σ 9 0 (mixN j (mrg (σ 14 c) (σ 15 c) (σ 9 0)) (σ 9 0)))) 0 0 := by
  intro n
  induction n with
  | zero =>
    intro j hj kk
    obtain ⟨h1, h14, h15⟩ := rl_ch hc
    refine a_iload_n dX1_mergeInto_2 rfl ?_
    refine a_bipush (v := 6) dX1_mergeInto_3 (by decide) ?_
    refine a_icmp_ge (tgt := 38) dX1_mergeInto_5 (by decide) (fun c_5 => ?_) (fun c_5 => absurd (by have e6 : j = 6 := (by omega); subst e6; decide) c_5)
    obtain rfl : j = 6 := by omega
    exact kk
  | succ n ih =>
    intro j hj kk
    obtain ⟨h1, h14, h15⟩ := rl_ch hc
    refine a_iload_n dX1_mergeInto_2 rfl ?_
    refine a_bipush (v := 6) dX1_mergeInto_3 (by decide) ?_
    refine a_icmp_ge (tgt := 38) dX1_mergeInto_5 (by decide) (fun c_5 => absurd c_5 (nI_ge (b := 6) (by omega) (by omega))) (fun c_5 => ?_)
    refine a_aload_n dX1_mergeInto_8 rfl ?_
    refine c_getR (t := 1) (k := 1) dX1_mergeInto_9 kw_82 rfl ?_
    refine a_iload_n dX1_mergeInto_12 rfl ?_
    refine c_iald (i := j) dX1_mergeInto_13 rfl (show j < 6 by omega) ?_
    refine a_aload_n dX1_mergeInto_14 rfl ?_
    refine c_getR (t := 1) (k := 0) dX1_mergeInto_15 kw_81 rfl ?_
    refine a_iload_n dX1_mergeInto_18 rfl ?_
    refine c_iald (i := j) dX1_mergeInto_19 rfl (show j < 6 by omega) ?_
    refine a_icmp_eq (tgt := 32) dX1_mergeInto_20 (by decide) (fun c_20 => ?_) (fun c_20 => ?_)
    · refine a_iinc_2 (u := nI (j + 1)) dX1_mergeInto_32 (inc_nI j) (by decide) ?_
      refine a_goto (tgt := 2) dX1_mergeInto_35 (by decide) ?_
      rw [sga_t (by decide), sga_t (by decide)] at c_20
      have h9 := @mixN_skip j (mrg (σ 14 c) (σ 15 c) (σ 9 0)) (σ 9 0)
      first
        | (rw [← h9 (if_pos c_20)]; exact ih (by omega) kk)
        | (rw [sga_t (by decide), sg_sga, ← show (mrg (σ 14 c) (σ 15 c) (σ 9 0)) j = σ 15 c j from if_neg c_20, mixN_up]; exact ih (by omega) kk)
    · refine a_aload_n dX1_mergeInto_23 rfl ?_
      refine a_iload_n dX1_mergeInto_24 rfl ?_
      refine a_aload_n dX1_mergeInto_25 rfl ?_
      refine c_getR (t := 1) (k := 1) dX1_mergeInto_26 kw_82 rfl ?_
      refine a_iload_n dX1_mergeInto_29 rfl ?_
      refine c_iald (i := j) dX1_mergeInto_30 rfl (show j < 6 by omega) ?_
      refine c_iast (i := j) dX1_mergeInto_31 rfl (show j < 6 by omega) ?_
      refine a_iinc_2 (u := nI (j + 1)) dX1_mergeInto_32 (inc_nI j) (by decide) ?_
      refine a_goto (tgt := 2) dX1_mergeInto_35 (by decide) ?_
      rw [sga_t (by decide), sga_t (by decide)] at c_20
      have h9 := @mixN_skip j (mrg (σ 14 c) (σ 15 c) (σ 9 0)) (σ 9 0)
      first
        | (rw [← h9 (if_pos c_20)]; exact ih (by omega) kk)
        | (rw [sga_t (by decide), sg_sga, ← show (mrg (σ 14 c) (σ 15 c) (σ 9 0)) j = σ 15 c j from if_neg c_20, mixN_up]; exact ih (by omega) kk)
set_option maxRecDepth 10000 in
theorem s_X1_mergeInto {l : Launch} {w : WW} {M : Mem} {σ : Sg} {c : Nat} (hc : c < 16)  : Can l w yX1_mergeInto cX1_mergeInto 3 none (rmd 1) [.ref (ad w 0 1 c), .ref (ad w 0 9 0)] (zx w M 0 σ) (RV (zx w M 0 (sga σ 9 0 (mrg (σ 14 c) (σ 15 c) (σ 9 0))))) := by
  refine Can.go (ls := [some (.ref (ad w 0 1 c)), some (.ref (ad w 0 9 0)), none]) ?_
  obtain ⟨h1, h14, h15⟩ := rl_ch hc
  refine a_iconst (v := 0) dX1_mergeInto_0 (by decide) ?_
  refine a_istore_2 dX1_mergeInto_1 (by decide) ?_
  refine a_eq (x' := zx w M 0 (sga σ 9 0 (mixN 0 (mrg (σ 14 c) (σ 15 c) (σ 9 0)) (σ 9 0)))) (by rw [mixN_0, sga_eta]) ?_
  refine L_X1_mergeInto hc 6 rfl ?_
  refine c_junk (M' := M) (σ' := sga σ 9 0 (mrg (σ 14 c) (σ 15 c) (σ 9 0))) (junkA (by decide) (fun k hk => (if_pos hk).symm)) ?_
  exact c_vret dX1_mergeInto_38 ⟨rfl, rfl⟩
set_option maxRecDepth 10000 in
theorem L_X1_moveOnto {l : Launch} {w : WW} {Φ : Option Value → XX → Prop} {M : Mem} {σ : Sg} {c : Nat} (hc : c < 16) : ∀ (n : Nat) {j : Nat}, j + n = 6 → A l w yX1_moveOnto cX1_moveOnto 3 none (rmd 2) Φ 38 [some (.ref (ad w 0 1 c)), some (.ref (ad w 0 8 0)), some (.int (nI 6))] [] (zx w M 0 (sga σ 15 c (mixN 6 (reb (σ 14 c) (σ 15 c) (σ 8 0)) (σ 15 c)))) 0 0 → A l w yX1_moveOnto cX1_moveOnto 3 none (rmd 2) Φ 2 [some (.ref (ad w 0 1 c)), some (.ref (ad w 0 8 0)), some (.int (nI j))] [] (zx w M 0 (sga σ 15 c (mixN j (reb (σ 14 c) (σ 15 c) (σ 8 0)) (σ 15 c)))) 0 0 := by
  intro n
  induction n with
  | zero =>
    intro j hj kk
    obtain ⟨h1, h14, h15⟩ := rl_ch hc
    refine a_iload_n dX1_moveOnto_2 rfl ?_
    refine a_bipush (v := 6) dX1_moveOnto_3 (by decide) ?_
    refine a_icmp_ge (tgt := 38) dX1_moveOnto_5 (by decide) (fun c_5 => ?_) (fun c_5 => absurd (by have e6 : j = 6 := (by omega); subst e6; decide) c_5)
    obtain rfl : j = 6 := by omega
    exact kk
  | succ n ih =>
    intro j hj kk
    obtain ⟨h1, h14, h15⟩ := rl_ch hc
    refine a_iload_n dX1_moveOnto_2 rfl ?_
    refine a_bipush (v := 6) dX1_moveOnto_3 (by decide) ?_
    refine a_icmp_ge (tgt := 38) dX1_moveOnto_5 (by decide) (fun c_5 => absurd c_5 (nI_ge (b := 6) (by omega) (by omega))) (fun c_5 => ?_)
    refine a_aload_n dX1_moveOnto_8 rfl ?_
    refine c_getR (t := 1) (k := 1) dX1_moveOnto_9 kw_82 rfl ?_
    refine a_iload_n dX1_moveOnto_12 rfl ?_
    refine c_iald (i := j) dX1_moveOnto_13 rfl (show j < 6 by omega) ?_
    refine a_aload_n dX1_moveOnto_14 rfl ?_
    refine c_getR (t := 1) (k := 0) dX1_moveOnto_15 kw_81 rfl ?_
    refine a_iload_n dX1_moveOnto_18 rfl ?_
    refine c_iald (i := j) dX1_moveOnto_19 rfl (show j < 6 by omega) ?_
    refine a_icmp_ne (tgt := 32) dX1_moveOnto_20 (by decide) (fun c_20 => ?_) (fun c_20 => ?_)
    · refine a_iinc_2 (u := nI (j + 1)) dX1_moveOnto_32 (inc_nI j) (by decide) ?_
      refine a_goto (tgt := 2) dX1_moveOnto_35 (by decide) ?_
      rw [sga_same, mixN_at (Nat.le_refl j), sga_t (by decide)] at c_20
      have h9 := @mixN_skip j (reb (σ 14 c) (σ 15 c) (σ 8 0)) (σ 15 c)
      first
        | (rw [← h9 (if_neg c_20)]; exact ih (by omega) kk)
        | (have c_21 := Decidable.not_not.mp c_20; rw [sga_t (by decide), sg_sga, ← show (reb (σ 14 c) (σ 15 c) (σ 8 0)) j = σ 8 0 j from if_pos c_21, mixN_up]; exact ih (by omega) kk)
        | (rw [sga_t (by decide), sg_sga, ← show (reb (σ 14 c) (σ 15 c) (σ 8 0)) j = σ 8 0 j from if_pos c_20, mixN_up]; exact ih (by omega) kk)
    · refine a_aload_n dX1_moveOnto_23 rfl ?_
      refine c_getR (t := 1) (k := 1) dX1_moveOnto_24 kw_82 rfl ?_
      refine a_iload_n dX1_moveOnto_27 rfl ?_
      refine a_aload_n dX1_moveOnto_28 rfl ?_
      refine a_iload_n dX1_moveOnto_29 rfl ?_
      refine c_iald (i := j) dX1_moveOnto_30 rfl (show j < 6 by omega) ?_
      refine c_iast (i := j) dX1_moveOnto_31 rfl (show j < 6 by omega) ?_
      refine a_iinc_2 (u := nI (j + 1)) dX1_moveOnto_32 (inc_nI j) (by decide) ?_
      refine a_goto (tgt := 2) dX1_moveOnto_35 (by decide) ?_
      rw [sga_same, mixN_at (Nat.le_refl j), sga_t (by decide)] at c_20
      have h9 := @mixN_skip j (reb (σ 14 c) (σ 15 c) (σ 8 0)) (σ 15 c)
      first
        | (rw [← h9 (if_neg c_20)]; exact ih (by omega) kk)
        | (have c_21 := Decidable.not_not.mp c_20; rw [sga_t (by decide), sg_sga, ← show (reb (σ 14 c) (σ 15 c) (σ 8 0)) j = σ 8 0 j from if_pos c_21, mixN_up]; exact ih (by omega) kk)
        | (rw [sga_t (by decide), sg_sga, ← show (reb (σ 14 c) (σ 15 c) (σ 8 0)) j = σ 8 0 j from if_pos c_20, mixN_up]; exact ih (by omega) kk)
set_option maxRecDepth 10000 in
theorem s_X1_moveOnto {l : Launch} {w : WW} {M : Mem} {σ : Sg} {c : Nat} (hc : c < 16)  : Can l w yX1_moveOnto cX1_moveOnto 3 none (rmd 2) [.ref (ad w 0 1 c), .ref (ad w 0 8 0)] (zx w M 0 σ) (RV (zx w M 0 (moveO σ c))) := by
  refine Can.go (ls := [some (.ref (ad w 0 1 c)), some (.ref (ad w 0 8 0)), none]) ?_
  obtain ⟨h1, h14, h15⟩ := rl_ch hc
  refine a_iconst (v := 0) dX1_moveOnto_0 (by decide) ?_
  refine a_istore_2 dX1_moveOnto_1 (by decide) ?_
  refine a_eq (x' := zx w M 0 (sga σ 15 c (mixN 0 (reb (σ 14 c) (σ 15 c) (σ 8 0)) (σ 15 c)))) (by rw [mixN_0, sga_eta]) ?_
  refine L_X1_moveOnto hc 6 rfl ?_
  refine c_junk (M' := M) (σ' := sga σ 15 c (reb (σ 14 c) (σ 15 c) (σ 8 0))) (junkA (by decide) (fun k hk => (if_pos hk).symm)) ?_
  refine a_aload_n dX1_moveOnto_38 rfl ?_
  refine a_aload_n dX1_moveOnto_39 rfl ?_
  refine c_getR (t := 1) (k := 0) dX1_moveOnto_40 kw_81 rfl ?_
  refine c_N2V dX1_moveOnto_43 nw_284 ks_X7_copyNumbers s_copy ?_
  refine a_aload_n dX1_moveOnto_46 rfl ?_
  refine a_iconst (v := 0) dX1_moveOnto_47 (by decide) ?_
  refine a_iconst (v := 0) dX1_moveOnto_48 (by decide) ?_
  refine c_V2V dX1_moveOnto_49 kw_190 kv_X1_become (s_X1_become hc) ?_
  refine a_aload_n dX1_moveOnto_52 rfl ?_
  refine c_V0V dX1_moveOnto_53 kw_194 kv_X1_dropReviews (s_X1_dropReviews hc) ?_
  exact c_vret dX1_moveOnto_56 ⟨rfl, by rw [sga_t (by decide)]; rfl⟩
set_option maxRecDepth 10000 in
theorem s_X1_startFrom {l : Launch} {w : WW} {M : Mem} {σ : Sg} {c : Nat} (hc : c < 16)  : Can l w yX1_startFrom cX1_startFrom 2 none (rmd 2) [.ref (ad w 0 1 c), .ref (ad w 0 8 0)] (zx w M 0 σ) (RV (zx w M 0 (stF σ c))) := by
  refine Can.go (ls := [some (.ref (ad w 0 1 c)), some (.ref (ad w 0 8 0))]) ?_
  obtain ⟨h1, h14, h15⟩ := rl_ch hc
  refine a_aload_n dX1_startFrom_0 rfl ?_
  refine a_aload_n dX1_startFrom_1 rfl ?_
  refine c_getR (t := 1) (k := 0) dX1_startFrom_2 kw_81 rfl ?_
  refine c_N2V dX1_startFrom_5 nw_284 ks_X7_copyNumbers s_copy ?_
  refine a_aload_n dX1_startFrom_8 rfl ?_
  refine a_aload_n dX1_startFrom_9 rfl ?_
  refine c_getR (t := 1) (k := 1) dX1_startFrom_10 kw_82 rfl ?_
  refine c_N2V dX1_startFrom_13 nw_284 ks_X7_copyNumbers s_copy ?_
  refine a_aload_n dX1_startFrom_16 rfl ?_
  refine a_iconst (v := 0) dX1_startFrom_17 (by decide) ?_
  refine a_iconst (v := 0) dX1_startFrom_18 (by decide) ?_
  refine c_V2V dX1_startFrom_19 kw_190 kv_X1_become (s_X1_become hc) ?_
  refine a_aload_n dX1_startFrom_22 rfl ?_
  refine c_V0V dX1_startFrom_23 kw_194 kv_X1_dropReviews (s_X1_dropReviews hc) ?_
  exact c_vret dX1_startFrom_26 ⟨rfl, by rw [sga_t (by decide)]; rfl⟩
set_option maxRecDepth 10000 in
theorem s_X4_copyFrom {l : Launch} {w : WW} {M : Mem} {σ : Sg} {s u : Nat} (hs : s < 2) (hu2 : u < 2) (hu : u ≠ s) {c : Nat} (hc : c < 2) : Can l w yX4_copyFrom cX4_copyFrom 2 none (rmd 2) [.ref (ad w s 3 c), .ref (ad w u 3 c)] (zx w M s σ) (RV (zx w M s (cpR σ (M u) c))) := by
  refine Can.go (ls := [some (.ref (ad w s 3 c)), some (.ref (ad w u 3 c))]) ?_
  have r1 : rl s 3 c = true := by simp [rl, hs, hc]
  have r2 : rl s 13 c = true := by simp [rl, hs, hc]
  have r3 : rl u 3 c = true := by simp [rl, hu2, hc]
  have r4 : rl u 13 c = true := by simp [rl, hu2, hc]
  refine a_aload_n dX4_copyFrom_0 rfl ?_
  refine c_getR (t := 3) (k := 0) dX4_copyFrom_1 kw_70 rfl ?_
  refine a_aload_n dX4_copyFrom_4 rfl ?_
  refine c_getR (t := 3) (k := 0) dX4_copyFrom_5 kw_70 rfl ?_
  refine c_N2V dX4_copyFrom_8 nw_289 ks_X7_copyNumbers s_copyX ?_
  refine a_aload_n dX4_copyFrom_11 rfl ?_
  refine a_aload_n dX4_copyFrom_12 rfl ?_
  refine e_getI (t := 3) (k := 1) dX4_copyFrom_13 kw_168 ?_
  refine c_putI (t := 3) (k := 1) dX4_copyFrom_16 kw_168 ?_
  exact c_vret dX4_copyFrom_19 ⟨rfl, rfl⟩
set_option maxRecDepth 10000 in
theorem s_X1_copyFrom {l : Launch} {w : WW} {M : Mem} {σ : Sg} {s u : Nat} (hs : s < 2) (hu2 : u < 2) (hu : u ≠ s) {c : Nat} (hc : c < 16) : Can l w yX1_copyFrom cX1_copyFrom 2 none (rmd 2) [.ref (ad w s 1 c), .ref (ad w u 1 c)] (zx w M s σ) (RV (zx w M s (cpC σ (M u) c))) := by
  refine Can.go (ls := [some (.ref (ad w s 1 c)), some (.ref (ad w u 1 c))]) ?_
  obtain ⟨h1, h14, h15⟩ := rl_chs hs hc
  obtain ⟨g1, g14, g15⟩ := rl_chs hu2 hc
  refine a_aload_n dX1_copyFrom_0 rfl ?_
  refine c_getR (t := 1) (k := 0) dX1_copyFrom_1 kw_81 rfl ?_
  refine a_aload_n dX1_copyFrom_4 rfl ?_
  refine c_getR (t := 1) (k := 0) dX1_copyFrom_5 kw_81 rfl ?_
  refine c_N2V dX1_copyFrom_8 nw_284 ks_X7_copyNumbers s_copyX ?_
  refine a_aload_n dX1_copyFrom_11 rfl ?_
  refine c_getR (t := 1) (k := 1) dX1_copyFrom_12 kw_82 rfl ?_
  refine a_aload_n dX1_copyFrom_15 rfl ?_
  refine c_getR (t := 1) (k := 1) dX1_copyFrom_16 kw_82 rfl ?_
  refine c_N2V dX1_copyFrom_19 nw_284 ks_X7_copyNumbers s_copyX ?_
  refine a_aload_n dX1_copyFrom_22 rfl ?_
  refine a_aload_n dX1_copyFrom_23 rfl ?_
  refine e_getI (t := 1) (k := 2) dX1_copyFrom_24 kw_160 ?_
  refine c_putI (t := 1) (k := 2) dX1_copyFrom_27 kw_160 ?_
  refine a_aload_n dX1_copyFrom_30 rfl ?_
  refine a_aload_n dX1_copyFrom_31 rfl ?_
  refine e_getI (t := 1) (k := 3) dX1_copyFrom_32 kw_161 ?_
  refine c_putI (t := 1) (k := 3) dX1_copyFrom_35 kw_161 ?_
  refine a_aload_n dX1_copyFrom_38 rfl ?_
  refine a_aload_n dX1_copyFrom_39 rfl ?_
  refine e_getI (t := 1) (k := 4) dX1_copyFrom_40 kw_162 ?_
  refine c_putI (t := 1) (k := 4) dX1_copyFrom_43 kw_162 ?_
  refine a_aload_n dX1_copyFrom_46 rfl ?_
  refine a_aload_n dX1_copyFrom_47 rfl ?_
  refine e_getI (t := 1) (k := 5) dX1_copyFrom_48 kw_163 ?_
  refine c_putI (t := 1) (k := 5) dX1_copyFrom_51 kw_163 ?_
  exact c_vret dX1_copyFrom_54 ⟨rfl, rfl⟩
set_option maxRecDepth 10000 in
theorem s_X0_copyFrom {l : Launch} {w : WW} {M : Mem} {σ : Sg} {s u : Nat} (hs : s < 2) (hu2 : u < 2) (hu : u ≠ s)  : Can l w yX0_copyFrom cX0_copyFrom 2 none (rmd 2) [.ref (ad w s 0 0), .ref (ad w u 0 0)] (zx w M s σ) (RV (zx w M s (cpB σ (M u)))) := by
  refine Can.go (ls := [some (.ref (ad w s 0 0)), some (.ref (ad w u 0 0))]) ?_
  have r0 : rl s 0 0 = true := by simp [rl, hs]
  have q0 : rl u 0 0 = true := by simp [rl, hu2]
  have r9 : rl s 9 0 = true := by simp [rl, hs]
  have q9 : rl u 9 0 = true := by simp [rl, hu2]
  have r10 : rl s 10 0 = true := by simp [rl, hs]
  have q10 : rl u 10 0 = true := by simp [rl, hu2]
  have r11 : rl s 11 0 = true := by simp [rl, hs]
  have q11 : rl u 11 0 = true := by simp [rl, hu2]
  have r12 : rl s 12 0 = true := by simp [rl, hs]
  have q12 : rl u 12 0 = true := by simp [rl, hu2]
  refine a_aload_n dX0_copyFrom_0 rfl ?_
  refine c_getR (t := 0) (k := 0) dX0_copyFrom_1 kw_74 rfl ?_
  refine a_aload_n dX0_copyFrom_4 rfl ?_
  refine c_getR (t := 0) (k := 0) dX0_copyFrom_5 kw_74 rfl ?_
  refine c_N2V dX0_copyFrom_8 nw_294 ks_X7_copyNumbers s_copyX ?_
  refine a_aload_n dX0_copyFrom_11 rfl ?_
  refine a_aload_n dX0_copyFrom_12 rfl ?_
  refine e_getI (t := 0) (k := 1) dX0_copyFrom_13 kw_173 ?_
  refine c_putI (t := 0) (k := 1) dX0_copyFrom_16 kw_173 ?_
  refine a_aload_n dX0_copyFrom_19 rfl ?_
  refine c_getR (t := 0) (k := 2) dX0_copyFrom_20 kw_75 rfl ?_
  refine a_aload_n dX0_copyFrom_23 rfl ?_
  refine c_getR (t := 0) (k := 2) dX0_copyFrom_24 kw_75 rfl ?_
  refine c_N2V dX0_copyFrom_27 nw_294 ks_X7_copyNumbers s_copyX ?_
  refine a_aload_n dX0_copyFrom_30 rfl ?_
  refine c_getR (t := 0) (k := 3) dX0_copyFrom_31 kw_76 rfl ?_
  refine a_aload_n dX0_copyFrom_34 rfl ?_
  refine c_getR (t := 0) (k := 3) dX0_copyFrom_35 kw_76 rfl ?_
  refine c_N2V dX0_copyFrom_38 nw_294 ks_X7_copyNumbers s_copyX ?_
  refine a_aload_n dX0_copyFrom_41 rfl ?_
  refine c_getR (t := 0) (k := 4) dX0_copyFrom_42 kw_77 rfl ?_
  refine a_aload_n dX0_copyFrom_45 rfl ?_
  refine c_getR (t := 0) (k := 4) dX0_copyFrom_46 kw_77 rfl ?_
  refine c_N2V dX0_copyFrom_49 nw_294 ks_X7_copyNumbers s_copyX ?_
  exact c_vret dX0_copyFrom_52 ⟨rfl, rfl⟩
