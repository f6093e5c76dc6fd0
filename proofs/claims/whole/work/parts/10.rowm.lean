set_option maxRecDepth 10000 in
theorem s_X7_isPath {l : Launch} {w : WW} {x : XX} {p : Int32} : Can l w yX7_isPath cX7_isPath 1 (some .boolean) (rmd 1) [.int p] (x) (RI (bi (inr p 6)) x) := by
  refine Can.go (ls := [some (.int p)]) ?_
  refine a_iload_n dX7_isPath_0 rfl ?_
  refine a_if_lt (tgt := 14) dX7_isPath_1 (by decide) (fun c_1 => ?_) (fun c_1 => ?_)
  · refine a_iconst (v := 0) dX7_isPath_14 (by decide) ?_
    exact c_zret dX7_isPath_15 ⟨by simp_all [bi, inr], rfl⟩
  · refine a_iload_n dX7_isPath_4 rfl ?_
    refine a_bipush (v := 6) dX7_isPath_5 (by decide) ?_
    refine a_icmp_ge (tgt := 14) dX7_isPath_7 (by decide) (fun c_7 => ?_) (fun c_7 => ?_)
    · refine a_iconst (v := 0) dX7_isPath_14 (by decide) ?_
      exact c_zret dX7_isPath_15 ⟨by simp_all [bi, inr], rfl⟩
    · refine a_iconst (v := 1) dX7_isPath_10 (by decide) ?_
      refine a_goto (tgt := 15) dX7_isPath_11 (by decide) ?_
      exact c_zret dX7_isPath_15 ⟨by simp_all [bi, inr], rfl⟩
set_option maxRecDepth 10000 in
theorem s_X7_isReviewer {l : Launch} {w : WW} {x : XX} {p : Int32} : Can l w yX7_isReviewer cX7_isReviewer 1 (some .boolean) (rmd 1) [.int p] (x) (RI (bi (inr p 8)) x) := by
  refine Can.go (ls := [some (.int p)]) ?_
  refine a_iload_n dX7_isReviewer_0 rfl ?_
  refine a_if_lt (tgt := 14) dX7_isReviewer_1 (by decide) (fun c_1 => ?_) (fun c_1 => ?_)
  · refine a_iconst (v := 0) dX7_isReviewer_14 (by decide) ?_
    exact c_zret dX7_isReviewer_15 ⟨by simp_all [bi, inr], rfl⟩
  · refine a_iload_n dX7_isReviewer_4 rfl ?_
    refine a_bipush (v := 8) dX7_isReviewer_5 (by decide) ?_
    refine a_icmp_ge (tgt := 14) dX7_isReviewer_7 (by decide) (fun c_7 => ?_) (fun c_7 => ?_)
    · refine a_iconst (v := 0) dX7_isReviewer_14 (by decide) ?_
      exact c_zret dX7_isReviewer_15 ⟨by simp_all [bi, inr], rfl⟩
    · refine a_iconst (v := 1) dX7_isReviewer_10 (by decide) ?_
      refine a_goto (tgt := 15) dX7_isReviewer_11 (by decide) ?_
      exact c_zret dX7_isReviewer_15 ⟨by simp_all [bi, inr], rfl⟩
set_option maxRecDepth 10000 in
theorem s_X7_isWorker {l : Launch} {w : WW} {x : XX} {p : Int32} : Can l w yX7_isWorker cX7_isWorker 1 (some .boolean) (rmd 1) [.int p] (x) (RI (bi (inr p 4)) x) := by
  refine Can.go (ls := [some (.int p)]) ?_
  refine a_iload_n dX7_isWorker_0 rfl ?_
  refine a_if_lt (tgt := 13) dX7_isWorker_1 (by decide) (fun c_1 => ?_) (fun c_1 => ?_)
  · refine a_iconst (v := 0) dX7_isWorker_13 (by decide) ?_
    exact c_zret dX7_isWorker_14 ⟨by simp_all [bi, inr], rfl⟩
  · refine a_iload_n dX7_isWorker_4 rfl ?_
    refine a_iconst (v := 4) dX7_isWorker_5 (by decide) ?_
    refine a_icmp_ge (tgt := 13) dX7_isWorker_6 (by decide) (fun c_6 => ?_) (fun c_6 => ?_)
    · refine a_iconst (v := 0) dX7_isWorker_13 (by decide) ?_
      exact c_zret dX7_isWorker_14 ⟨by simp_all [bi, inr], rfl⟩
    · refine a_iconst (v := 1) dX7_isWorker_9 (by decide) ?_
      refine a_goto (tgt := 14) dX7_isWorker_10 (by decide) ?_
      exact c_zret dX7_isWorker_14 ⟨by simp_all [bi, inr], rfl⟩
set_option maxRecDepth 10000 in
theorem s_X7_clamped {l : Launch} {w : WW} {x : XX} {n lo hi : Int32} : Can l w yX7_clamped cX7_clamped 3 (some .int) (rmd 1) [.int n, .int lo, .int hi] (x) (RI (if lo < (if n < hi then n else hi) then (if n < hi then n else hi) else lo) x) := by
  refine Can.go (ls := [some (.int n), some (.int lo), some (.int hi)]) ?_
  refine a_iload_n dX7_clamped_0 rfl ?_
  refine a_iload_n dX7_clamped_1 rfl ?_
  refine a_iload_n dX7_clamped_2 rfl ?_
  refine a_min dX7_clamped_3 kw_39 kw_40 kw_41 kw_42 ⟨by decide, by exact Nat.le_of_ble_eq_true rfl⟩ ⟨Nat.zero_le _, Nat.zero_le _⟩ ?_
  refine a_max dX7_clamped_6 kw_43 kw_44 kw_41 kw_45 ⟨by decide, by exact Nat.le_of_ble_eq_true rfl⟩ ⟨Nat.zero_le _, Nat.zero_le _⟩ ?_
  exact c_iret dX7_clamped_9 ⟨rfl, rfl⟩
set_option maxRecDepth 10000 in
theorem s_X7_copyNumbers {l : Launch} {w : WW} {M : Mem} {s t c u t' c' : Nat} (h1 : ¬ t < 8) (h2 : aK t = 0) (h3 : rl s t c = true) (h4 : ¬ t' < 8) (h5 : aK t' = 0) (h6 : rl u t' c' = true) (hn : aL t' c' = aL t c) : Can l w yX7_copyNumbers cX7_copyNumbers 2 none (rmd 1) [.ref (ad w s t c), .ref (ad w u t' c')] ((M, RT w, 158)) (RV (up1 M u (sga (M u) t' c' (M s t c)), RT w, 158)) := by
  refine Can.go (ls := [some (.ref (ad w s t c)), some (.ref (ad w u t' c'))]) ?_
  refine a_aload_n dX7_copyNumbers_0 rfl ?_
  refine a_iconst (v := 0) dX7_copyNumbers_1 (by decide) ?_
  refine a_aload_n dX7_copyNumbers_2 rfl ?_
  refine a_iconst (v := 0) dX7_copyNumbers_3 (by decide) ?_
  refine a_aload_n dX7_copyNumbers_4 rfl ?_
  refine a_alen dX7_copyNumbers_5 rfl h1 h2 (rlm h3) ?_
  refine a_aload_n dX7_copyNumbers_6 rfl ?_
  refine a_alen dX7_copyNumbers_7 rfl h4 h5 (rlm h6) ?_
  refine a_min dX7_copyNumbers_8 kw_39 kw_40 kw_41 kw_42 ⟨by decide, by exact Nat.le_of_ble_eq_true rfl⟩ ⟨Nat.zero_le _, Nat.zero_le _⟩ ?_
  have hb := aL_le t c
  refine a_copy (n := aL t c) dX7_copyNumbers_11 kw_152 kw_153 kw_154 kw_155 (by rw [hn]; exact ite_self _) (Nat.le_refl _) (by rw [hn]; exact Nat.le_refl _) h1 h2 (rlm h3) h4 h5 (rlm h6) (by decide) ?_
  refine a_jk (x' := (up1 M u (sga (M u) t' c' (M s t c)), RT w, 158)) (fun u2 t2 c2 k hk1 hk2 hk3 => ?_) rfl ?_
  · show up1 M u (sga (M u) t' c' (M s t c)) u2 t2 c2 k = up1 M u (sga (M u) t' c' _) u2 t2 c2 k
    refine junkA (s := u) h4 (fun k hk => ?_) u2 t2 c2 k hk1 hk2 hk3
    rw [hn] at hk
    exact (if_pos hk).symm
  exact c_vret dX7_copyNumbers_14 ⟨rfl, rfl⟩
theorem s_copy {l : Launch} {w : WW} {M : Mem} {σ : Sg} {s t c t' c' : Nat} (h1 : ¬ t < 8 := by first | decide | assumption) (h2 : aK t = 0 := by first | rfl | assumption) (h3 : rl s t c = true := by first | rfl | assumption) (h4 : ¬ t' < 8 := by first | decide | assumption) (h5 : aK t' = 0 := by first | rfl | assumption) (h6 : rl s t' c' = true := by first | rfl | assumption) (hn : aL t' c' = aL t c := by first | rfl | assumption) : Can l w yX7_copyNumbers cX7_copyNumbers 2 none (rmd 1) [.ref (ad w s t c), .ref (ad w s t' c')] (zx w M s σ) (RV (zx w M s (sga σ t' c' (σ t c)))) := by
  have h := s_X7_copyNumbers (l := l) (w := w) (M := up1 M s σ) h1 h2 h3 h4 h5 h6 hn
  rw [up1_same, up1_up1] at h
  exact h
theorem s_copyX {l : Launch} {w : WW} {M : Mem} {σ : Sg} {s u t c t' c' : Nat} (hu : u ≠ s := by first | decide | assumption) (h1 : ¬ t < 8 := by first | decide | assumption) (h2 : aK t = 0 := by first | rfl | assumption) (h3 : rl u t c = true := by first | rfl | assumption) (h4 : ¬ t' < 8 := by first | decide | assumption) (h5 : aK t' = 0 := by first | rfl | assumption) (h6 : rl s t' c' = true := by first | rfl | assumption) (hn : aL t' c' = aL t c := by first | rfl | assumption) : Can l w yX7_copyNumbers cX7_copyNumbers 2 none (rmd 1) [.ref (ad w u t c), .ref (ad w s t' c')] (zx w M s σ) (RV (zx w M s (sga σ t' c' (M u t c)))) := by
  have h := s_X7_copyNumbers (l := l) (w := w) (M := up1 M s σ) h1 h2 h3 h4 h5 h6 hn
  rw [up1_same, up1_up1, up1_ne hu] at h
  exact h
def ush (p q : Int32) : Int32 := (p.toUInt32 >>> (q.toUInt32 &&& Int32.toUInt32 31)).toInt32
def bitc5 (e : Int32) : Int32 := (e + ush e 16) &&& 63
def bitc4 (d : Int32) : Int32 := bitc5 (d + ush d 8)
def bitc3 (b : Int32) : Int32 := bitc4 ((b + ush b 4) &&& 252645135)
def bitc2 (a : Int32) : Int32 := bitc3 ((a &&& 858993459) + ((ush a 2) &&& 858993459))
def bitc (i : Int32) : Int32 := bitc2 (i - ((ush i 1) &&& 1431655765))
set_option maxRecDepth 10000 in
theorem s_J6_bitCount_0f7a4 {l : Launch} {w : WW} {x : XX} {i : Int32} : Can l w yJ6_bitCount_0f7a4 cJ6_bitCount_0f7a4 1 (some .int) (rmd 1) [.int i] (x) (RI (bitc i) x) := by
  refine Can.go (ls := [some (.int i)]) ?_
  refine a_iload_n dJ6_bitCount_0f7a4_0 rfl ?_
  refine a_iload_n dJ6_bitCount_0f7a4_1 rfl ?_
  refine a_iconst (v := 1) dJ6_bitCount_0f7a4_2 (by decide) ?_
  refine a_iushr dJ6_bitCount_0f7a4_3 ?_
  refine a_ldcw (v := 1431655765) dJ6_bitCount_0f7a4_4 kw_598 ?_
  refine a_iand dJ6_bitCount_0f7a4_7 ?_
  refine a_isub dJ6_bitCount_0f7a4_8 ?_
  refine a_istore_0 dJ6_bitCount_0f7a4_9 (by decide) ?_
  refine a_iload_n dJ6_bitCount_0f7a4_10 rfl ?_
  refine a_ldcw (v := 858993459) dJ6_bitCount_0f7a4_11 kw_599 ?_
  refine a_iand dJ6_bitCount_0f7a4_14 ?_
  refine a_iload_n dJ6_bitCount_0f7a4_15 rfl ?_
  refine a_iconst (v := 2) dJ6_bitCount_0f7a4_16 (by decide) ?_
  refine a_iushr dJ6_bitCount_0f7a4_17 ?_
  refine a_ldcw (v := 858993459) dJ6_bitCount_0f7a4_18 kw_599 ?_
  refine a_iand dJ6_bitCount_0f7a4_21 ?_
  refine a_iadd dJ6_bitCount_0f7a4_22 ?_
  refine a_istore_0 dJ6_bitCount_0f7a4_23 (by decide) ?_
  refine a_iload_n dJ6_bitCount_0f7a4_24 rfl ?_
  refine a_iload_n dJ6_bitCount_0f7a4_25 rfl ?_
  refine a_iconst (v := 4) dJ6_bitCount_0f7a4_26 (by decide) ?_
  refine a_iushr dJ6_bitCount_0f7a4_27 ?_
  refine a_iadd dJ6_bitCount_0f7a4_28 ?_
  refine a_ldcw (v := 252645135) dJ6_bitCount_0f7a4_29 kw_600 ?_
  refine a_iand dJ6_bitCount_0f7a4_32 ?_
  refine a_istore_0 dJ6_bitCount_0f7a4_33 (by decide) ?_
  refine a_iload_n dJ6_bitCount_0f7a4_34 rfl ?_
  refine a_iload_n dJ6_bitCount_0f7a4_35 rfl ?_
  refine a_bipush (v := 8) dJ6_bitCount_0f7a4_36 (by decide) ?_
  refine a_iushr dJ6_bitCount_0f7a4_38 ?_
  refine a_iadd dJ6_bitCount_0f7a4_39 ?_
  refine a_istore_0 dJ6_bitCount_0f7a4_40 (by decide) ?_
  refine a_iload_n dJ6_bitCount_0f7a4_41 rfl ?_
  refine a_iload_n dJ6_bitCount_0f7a4_42 rfl ?_
  refine a_bipush (v := 16) dJ6_bitCount_0f7a4_43 (by decide) ?_
  refine a_iushr dJ6_bitCount_0f7a4_45 ?_
  refine a_iadd dJ6_bitCount_0f7a4_46 ?_
  refine a_istore_0 dJ6_bitCount_0f7a4_47 (by decide) ?_
  refine a_iload_n dJ6_bitCount_0f7a4_48 rfl ?_
  refine a_bipush (v := 63) dJ6_bitCount_0f7a4_49 (by decide) ?_
  refine a_iand dJ6_bitCount_0f7a4_51 ?_
  exact c_iret dJ6_bitCount_0f7a4_52 ⟨rfl, rfl⟩
set_option maxRecDepth 10000 in
theorem s_X4_at {l : Launch} {w : WW} {M : Mem} {σ : Sg} {c : Nat} (hc : rl 0 3 c = true) (hd : rl 0 13 c = true) {n : Nat} {k : Int32} (hn : σ 3 c 1 = nI n) (hle : n ≤ aL 13 c) : Can l w yX4_at cX4_at 2 (some .int) (rmd 1) [.ref (ad w 0 3 c), .int k] (zx w M 0 σ) (RI (rowAt (σ 13 c) n k) (zx w M 0 σ)) := by
  refine Can.go (ls := [some (.ref (ad w 0 3 c)), some (.int k)]) ?_
  refine a_iload_n dX4_at_0 rfl ?_
  refine a_if_lt (tgt := 21) dX4_at_1 (by decide) (fun c_1 => ?_) (fun c_1 => ?_)
  · refine a_iconst (v := (-1)) dX4_at_21 (by decide) ?_
    exact c_iret dX4_at_22 ⟨by first | rw [rowAt, if_pos H17k] | simp_all [rowAt, inr], rfl⟩
  · refine a_iload_n dX4_at_4 rfl ?_
    refine a_aload_n dX4_at_5 rfl ?_
    refine c_getI (t := 3) (k := 1) dX4_at_6 kw_168 ?_
    refine a_icmp_ge (tgt := 21) dX4_at_9 (by decide) (fun c_9 => ?_) (fun c_9 => ?_)
    · refine a_iconst (v := (-1)) dX4_at_21 (by decide) ?_
      exact c_iret dX4_at_22 ⟨by first | rw [rowAt, if_pos H17k] | simp_all [rowAt, inr], rfl⟩
    · refine a_aload_n dX4_at_12 rfl ?_
      refine c_getR (t := 3) (k := 0) dX4_at_13 kw_70 rfl ?_
      refine a_iload_n dX4_at_16 rfl ?_
      have H17k : inr k (nI n) = true := by simp_all [inr]
      have H17 := inr_nI (n := n) H17k rfl (Nat.le_trans hle (aL_le _ _))
      refine c_iald (i := k.toNatClampNeg) dX4_at_17 H17.1 (Nat.lt_of_lt_of_le H17.2 hle) ?_
      refine a_goto (tgt := 22) dX4_at_18 (by decide) ?_
      exact c_iret dX4_at_22 ⟨by first | rw [rowAt, if_pos H17k] | simp_all [rowAt, inr], rfl⟩
theorem shup_0 (f : Nat → Int32) (j : Nat) : shup f j j = f := by
  funext q
  unfold shup
  rw [if_neg (by omega)]
theorem shup_S (f : Nat → Int32) (j m : Nat) : shup (up1 f (j + m + 1) (f (j + m))) j (j + m) = shup f j (j + (m + 1)) := by
  funext q
  unfold shup up1
  by_cases h : j < q ∧ q ≤ j + (m + 1)
  · by_cases h2 : q = j + m + 1
    · rw [if_neg (by omega), if_pos h2, if_pos h, h2]
      rfl
    · rw [if_pos (by omega), if_neg (by omega), if_pos h]
  · rw [if_neg (by omega), if_neg (by omega), if_neg h]
theorem ins_of (f : Nat → Int32) (j n : Nat) (v : Int32) : up1 (shup f j n) j v = ins f j n v := rfl
theorem rm2_0 (f : Nat → Int32) (e : Nat) : (fun i => if e ≤ i ∧ i < e then f (i + 1) else f i) = f := by
  funext i
  rw [if_neg (by omega)]
def rm2 (f : Nat → Int32) (q e : Nat) : Nat → Int32 := fun i => if q ≤ i ∧ i < e then f (i + 1) else f i
theorem rm2_S (f : Nat → Int32) (q m : Nat) : rm2 (up1 f q (f (q + 1))) (q + 1) (q + 1 + m) = rm2 f q (q + (m + 1)) := by
  funext i
  unfold rm2 up1
  by_cases h : i = q
  · subst h
    rw [if_neg (by omega), if_pos rfl, if_pos (by omega)]
  · by_cases h2 : q ≤ i ∧ i < q + (m + 1)
    · rw [if_pos (by omega), if_neg (by omega), if_pos h2]
    · rw [if_neg (by omega), if_neg h, if_neg h2]
theorem rmv_of (f : Nat → Int32) (j n : Nat) : rm2 f j (n - 1) = rmv f j n := rfl
theorem repl_of {σ : Sg} {c n : Nat} {v : Int32} (hn : σ 3 c 1 = nI n) (h0 : 0 < n) : rowIns (rowRmv σ c 0 n) c 0 (n - 1) v = sg σ 13 c 0 v := by
  unfold rowIns rowRmv
  have e1 : (sg (sga σ 13 c (rmv (σ 13 c) 0 n)) 3 c 1 (nI (n - 1))) 13 c = rmv (σ 13 c) 0 n := by rw [sg_t (by decide), sga_same]
  rw [e1, Nat.sub_add_cancel h0]
  have e2 : ins (rmv (σ 13 c) 0 n) 0 (n - 1) v = up1 (σ 13 c) 0 v := by
    funext i
    unfold ins rmv up1
    by_cases h : i = 0
    · rw [if_pos h, if_pos h]
    · rw [if_neg h, if_neg h]
      by_cases h2 : 0 < i ∧ i ≤ n - 1
      · rw [if_pos h2, if_pos (by omega), show i - 1 + 1 = i by omega]
      · rw [if_neg h2, if_neg (by omega)]
  rw [e2, sg_is σ 13 c 0 v, ← hn]
  unfold sg sga
  funext a b i
  by_cases ha : a = 3
  · subst ha
    by_cases hb : b = c
    · subst hb
      by_cases hi : i = 1
      · subst hi; simp [up1]
      · simp [up1, hi]
    · simp [up1, hb]
  · by_cases ha2 : a = 13
    · subst ha2
      by_cases hb : b = c
      · subst hb; simp [up1]
      · simp [up1, hb]
    · simp [up1, ha, ha2]
set_option maxRecDepth 10000 in
theorem L_X4_insert {l : Launch} {w : WW} {Φ : Option Value → XX → Prop} {M : Mem} {c j : Nat} {v : Int32} (hd : rl 0 13 c = true) : ∀ (n : Nat) {σ : Sg}, j + n < aL 13 c → A l w yX4_insert cX4_insert 4 none (rmd 1) Φ 55 [some (.ref (ad w 0 3 c)), some (.int (nI j)), some (.int v), some (.int (nI j))] [] (zx w M 0 (sga σ 13 c (shup (σ 13 c) j (j + n)))) 0 0 → A l w yX4_insert cX4_insert 4 none (rmd 1) Φ 30 [some (.ref (ad w 0 3 c)), some (.int (nI j)), some (.int v), some (.int (nI (j + n)))] [] (zx w M 0 σ) 0 0 := by
  intro n
  induction n with
  | zero =>
    intro σ hlt kk
    refine a_iload_n dX4_insert_30 rfl ?_
    refine a_iload_n dX4_insert_31 rfl ?_
    refine a_icmp_le (tgt := 55) dX4_insert_32 (by decide) (fun c_32 => ?_) (fun c_32 => absurd (nI_le (Nat.le_refl j) (by have := aL_le 13 c; omega)) c_32)
    rw [Nat.add_zero, shup_0, sga_eta] at kk
    exact kk
  | succ n ih =>
    intro σ hlt kk
    refine a_iload_n dX4_insert_30 rfl ?_
    refine a_iload_n dX4_insert_31 rfl ?_
    refine a_icmp_le (tgt := 55) dX4_insert_32 (by decide) (fun c_32 => absurd c_32 (by have := aL_le 13 c; first | exact nI_ge (by omega) (by omega) | exact nI_nlt (by omega) (by omega))) (fun c_32 => ?_)
    refine a_aload_n dX4_insert_35 rfl ?_
    refine c_getR (t := 3) (k := 0) dX4_insert_36 kw_70 rfl ?_
    refine a_iload_n dX4_insert_39 rfl ?_
    refine a_aload_n dX4_insert_40 rfl ?_
    refine c_getR (t := 3) (k := 0) dX4_insert_41 kw_70 rfl ?_
    refine a_iload_n dX4_insert_44 rfl ?_
    refine a_iconst (v := 1) dX4_insert_45 (by decide) ?_
    refine a_isub dX4_insert_46 ?_
    refine c_iald (i := j + n) dX4_insert_47 (nI_pred (j + n)) (by omega) ?_
    refine c_iast (i := j + (n + 1)) dX4_insert_48 rfl hlt ?_
    refine a_iinc_3 (u := nI (j + n)) dX4_insert_49 (dec_nI (j + n)) (by decide) ?_
    refine a_goto (tgt := 30) dX4_insert_52 (by decide) ?_
    refine ih (by omega) ?_
    rw [sg_is, sga_sga, sga_same, show j + (n + 1) = j + n + 1 from rfl, shup_S]
    exact kk
set_option maxRecDepth 10000 in
theorem s_X4_insert {l : Launch} {w : WW} {M : Mem} {σ : Sg} {c : Nat} (hc : rl 0 3 c = true) (hd : rl 0 13 c = true) {n j : Nat} {v : Int32} (hn : σ 3 c 1 = nI n) (hj : j ≤ n) (hlt : n < aL 13 c) : Can l w yX4_insert cX4_insert 4 none (rmd 1) [.ref (ad w 0 3 c), .int (nI j), .int v] (zx w M 0 σ) (RV (zx w M 0 (rowIns σ c j n v))) := by
  refine Can.go (ls := [some (.ref (ad w 0 3 c)), some (.int (nI j)), some (.int v), none]) ?_
  have hb := aL_le 13 c
  refine a_iload_n dX4_insert_0 rfl ?_
  refine a_if_lt (tgt := 24) dX4_insert_1 (by decide) (fun c_1 => absurd c_1 (nI_pos (by omega))) (fun c_1 => ?_)
  refine a_iload_n dX4_insert_4 rfl ?_
  refine a_aload_n dX4_insert_5 rfl ?_
  refine c_getI (t := 3) (k := 1) dX4_insert_6 kw_168 ?_
  refine a_icmp_gt (tgt := 24) dX4_insert_9 (by decide) (fun c_9 => absurd c_9 (by rw [hn]; exact nI_nlt hj (by omega))) (fun c_9 => ?_)
  refine a_aload_n dX4_insert_12 rfl ?_
  refine c_getI (t := 3) (k := 1) dX4_insert_13 kw_168 ?_
  refine a_aload_n dX4_insert_16 rfl ?_
  refine c_getR (t := 3) (k := 0) dX4_insert_17 kw_70 rfl ?_
  refine c_alen dX4_insert_20 rfl ?_
  refine a_icmp_lt (tgt := 25) dX4_insert_21 (by decide) (fun c_21 => ?_) (fun c_21 => absurd (by rw [hn]; exact nI_lt hlt (by omega)) c_21)
  refine a_aload_n dX4_insert_25 rfl ?_
  refine c_getI (t := 3) (k := 1) dX4_insert_26 kw_168 ?_
  refine a_istore_3 dX4_insert_29 (by decide) ?_
  rw [hn]
  obtain ⟨m, rfl⟩ := Nat.exists_eq_add_of_le hj
  refine L_X4_insert hd m hlt ?_
  refine a_aload_n dX4_insert_55 rfl ?_
  refine c_getR (t := 3) (k := 0) dX4_insert_56 kw_70 rfl ?_
  refine a_iload_n dX4_insert_59 rfl ?_
  refine a_iload_n dX4_insert_60 rfl ?_
  refine c_iast (i := j) dX4_insert_61 rfl (by omega) ?_
  refine a_aload_n dX4_insert_62 rfl ?_
  refine a_dup dX4_insert_63 rfl ?_
  refine c_getI (t := 3) (k := 1) dX4_insert_64 kw_168 ?_
  refine a_iconst (v := 1) dX4_insert_67 (by decide) ?_
  refine a_iadd dX4_insert_68 ?_
  refine c_putI (t := 3) (k := 1) dX4_insert_69 kw_168 ?_
  exact c_vret dX4_insert_72 ⟨rfl, by rw [sg_sga, sga_t (by decide), hn, ← nI_succ, ins_of]; rfl⟩
set_option maxRecDepth 10000 in
theorem s_X4_append {l : Launch} {w : WW} {M : Mem} {σ : Sg} {c : Nat} (hc : rl 0 3 c = true) (hd : rl 0 13 c = true) {n : Nat} {v : Int32} (hn : σ 3 c 1 = nI n) (hlt : n < aL 13 c) : Can l w yX4_append cX4_append 2 none (rmd 2) [.ref (ad w 0 3 c), .int v] (zx w M 0 σ) (RV (zx w M 0 (rowIns σ c n n v))) := by
  refine Can.go (ls := [some (.ref (ad w 0 3 c)), some (.int v)]) ?_
  refine a_aload_n dX4_append_0 rfl ?_
  refine a_aload_n dX4_append_1 rfl ?_
  refine c_getI (t := 3) (k := 1) dX4_append_2 kw_168 ?_
  refine a_iload_n dX4_append_5 rfl ?_
  rw [hn]
  refine c_V2V dX4_append_6 kw_215 kv_X4_insert (s_X4_insert hc hd hn (Nat.le_refl n) hlt) ?_
  exact c_vret dX4_append_9 ⟨rfl, rfl⟩
set_option maxRecDepth 10000 in
theorem L_X4_removeAt {l : Launch} {w : WW} {Φ : Option Value → XX → Prop} {M : Mem} {c e : Nat} {v1 : Option Value} (hc : rl 0 3 c = true) (hd : rl 0 13 c = true) (he : e < aL 13 c) : ∀ (n : Nat) {q : Nat} {σ : Sg}, q + n = e → σ 3 c 1 = nI e → A l w yX4_removeAt cX4_removeAt 3 none (rmd 1) Φ 53 [some (.ref (ad w 0 3 c)), v1, some (.int (nI e))] [] (zx w M 0 (sga σ 13 c (rm2 (σ 13 c) q e))) 0 0 → A l w yX4_removeAt cX4_removeAt 3 none (rmd 1) Φ 25 [some (.ref (ad w 0 3 c)), v1, some (.int (nI q))] [] (zx w M 0 σ) 0 0 := by
  intro n
  induction n with
  | zero =>
    intro q σ hq hn kk
    refine a_iload_n dX4_removeAt_25 rfl ?_
    refine a_aload_n dX4_removeAt_26 rfl ?_
    refine c_getI (t := 3) (k := 1) dX4_removeAt_27 kw_168 ?_
    refine a_icmp_ge (tgt := 53) dX4_removeAt_30 (by decide) (fun c_30 => ?_) (fun c_30 => absurd (by rw [hn]; exact nI_le (by omega) (by have := aL_le 13 c; omega)) c_30)
    obtain rfl : q = e := by omega
    rw [show rm2 (σ 13 c) q q = σ 13 c from rm2_0 _ _, sga_eta] at kk
    exact kk
  | succ n ih =>
    intro q σ hq hn kk
    refine a_iload_n dX4_removeAt_25 rfl ?_
    refine a_aload_n dX4_removeAt_26 rfl ?_
    refine c_getI (t := 3) (k := 1) dX4_removeAt_27 kw_168 ?_
    refine a_icmp_ge (tgt := 53) dX4_removeAt_30 (by decide) (fun c_30 => absurd c_30 (by rw [hn]; have := aL_le 13 c; exact nI_ge (by omega) (by omega))) (fun c_30 => ?_)
    refine a_aload_n dX4_removeAt_33 rfl ?_
    refine c_getR (t := 3) (k := 0) dX4_removeAt_34 kw_70 rfl ?_
    refine a_iload_n dX4_removeAt_37 rfl ?_
    refine a_aload_n dX4_removeAt_38 rfl ?_
    refine c_getR (t := 3) (k := 0) dX4_removeAt_39 kw_70 rfl ?_
    refine a_iload_n dX4_removeAt_42 rfl ?_
    refine a_iconst (v := 1) dX4_removeAt_43 (by decide) ?_
    refine a_iadd dX4_removeAt_44 ?_
    refine c_iald (i := q + 1) dX4_removeAt_45 (nI_succ q).symm (by omega) ?_
    refine c_iast (i := q) dX4_removeAt_46 rfl (by omega) ?_
    refine a_iinc_2 (u := nI (q + 1)) dX4_removeAt_47 (inc_nI q) (by decide) ?_
    refine a_goto (tgt := 25) dX4_removeAt_50 (by decide) ?_
    refine ih (q := q + 1) (by omega) (by rw [sg_t (by decide)]; exact hn) ?_
    subst hq
    have h9 := rm2_S (σ 13 c) q n
    rw [show q + 1 + n = q + (n + 1) by omega] at h9
    rw [sg_is, sga_sga, sga_same, h9]
    exact kk
set_option maxRecDepth 10000 in
theorem s_X4_removeAt {l : Launch} {w : WW} {M : Mem} {σ : Sg} {c : Nat} (hc : rl 0 3 c = true) (hd : rl 0 13 c = true) {n j : Nat} (hn : σ 3 c 1 = nI n) (hj : j < n) (hle : n ≤ aL 13 c) : Can l w yX4_removeAt cX4_removeAt 3 none (rmd 1) [.ref (ad w 0 3 c), .int (nI j)] (zx w M 0 σ) (RV (zx w M 0 (rowRmv σ c j n))) := by
  refine Can.go (ls := [some (.ref (ad w 0 3 c)), some (.int (nI j)), none]) ?_
  have hb := aL_le 13 c
  refine a_iload_n dX4_removeAt_0 rfl ?_
  refine a_if_lt (tgt := 12) dX4_removeAt_1 (by decide) (fun c_1 => absurd c_1 (nI_pos (by omega))) (fun c_1 => ?_)
  refine a_iload_n dX4_removeAt_4 rfl ?_
  refine a_aload_n dX4_removeAt_5 rfl ?_
  refine c_getI (t := 3) (k := 1) dX4_removeAt_6 kw_168 ?_
  refine a_icmp_lt (tgt := 13) dX4_removeAt_9 (by decide) (fun c_9 => ?_) (fun c_9 => absurd (by rw [hn]; exact nI_lt hj (by omega)) c_9)
  refine a_aload_n dX4_removeAt_13 rfl ?_
  refine a_dup dX4_removeAt_14 rfl ?_
  refine c_getI (t := 3) (k := 1) dX4_removeAt_15 kw_168 ?_
  refine a_iconst (v := 1) dX4_removeAt_18 (by decide) ?_
  refine a_isub dX4_removeAt_19 ?_
  refine c_putI (t := 3) (k := 1) dX4_removeAt_20 kw_168 ?_
  refine a_iload_n dX4_removeAt_23 rfl ?_
  refine a_istore_2 dX4_removeAt_24 (by decide) ?_
  rw [hn, show nI n - 1 = nI (n - 1) by rw [← nI_pred (n - 1), Nat.sub_add_cancel (by omega)]]
  obtain ⟨m, hm⟩ := Nat.exists_eq_add_of_le (show j ≤ n - 1 by omega)
  refine L_X4_removeAt hc hd (by omega) m hm.symm (sg_same _ _ _ _ _) ?_
  exact c_vret dX4_removeAt_53 ⟨rfl, by rw [sg_t (by decide), rmv_of, sg_is, sga_comm (by decide)]; unfold rowRmv; rw [sg_is, sga_t (by decide)]⟩
set_option maxRecDepth 10000 in
theorem s_X4_replaceFirst {l : Launch} {w : WW} {M : Mem} {σ : Sg} {c : Nat} (hc : rl 0 3 c = true) (hd : rl 0 13 c = true) {n : Nat} {v : Int32} (hn : σ 3 c 1 = nI n) (h0 : 0 < n) (hle : n ≤ aL 13 c) : Can l w yX4_replaceFirst cX4_replaceFirst 2 none (rmd 2) [.ref (ad w 0 3 c), .int v] (zx w M 0 σ) (RV (zx w M 0 (sg σ 13 c 0 v))) := by
  refine Can.go (ls := [some (.ref (ad w 0 3 c)), some (.int v)]) ?_
  refine a_aload_n dX4_replaceFirst_0 rfl ?_
  refine a_iconst (v := 0) dX4_replaceFirst_1 (by decide) ?_
  refine c_V1V dX4_replaceFirst_2 kw_310 kv_X4_removeAt (s_X4_removeAt (j := 0) hc hd hn h0 hle) ?_
  refine a_aload_n dX4_replaceFirst_5 rfl ?_
  refine a_iconst (v := 0) dX4_replaceFirst_6 (by decide) ?_
  refine a_iload_n dX4_replaceFirst_7 rfl ?_
  refine c_V2V dX4_replaceFirst_8 kw_215 kv_X4_insert (s_X4_insert (j := 0) (n := n - 1) hc hd (sg_same _ _ _ _ _) (Nat.zero_le _) (by omega)) ?_
  exact c_vret dX4_replaceFirst_11 ⟨rfl, by rw [repl_of hn h0]⟩
