/-- how many of n unflushed events survive -/
def kp (s : Int32) (n : Nat) : Nat := if s < 0 then 0 else if nI n < s then n else tn s
theorem kp_le {s : Int32} {n : Nat} (hn : n ≤ 600) : kp s n ≤ n := by
  unfold kp
  split
  · exact Nat.zero_le n
  · split
    · exact Nat.le_refl n
    · rename_i h1 h2
      rw [Int32.not_lt, Int32.le_iff_toInt_le, nI_toInt (by omega)] at h2
      show s.toInt.toNat ≤ n
      omega
theorem tn_nn {s : Int32} (h : ¬ s < 0) : s = nI (tn s) := by
  obtain ⟨j, hj, e⟩ := nI_of h
  rw [e, tn_nI hj]
theorem wth_kp {s : Int32} {n : Nat} : wth s 0 (nI n) = nI (kp s n) := by
  unfold wth kp
  split
  · rfl
  · split
    · rfl
    · rename_i h1 h2
      exact tn_nn h1
theorem sub_nI {a b : Nat} (h : b ≤ a) : nI a - nI b = nI (a - b) := by
  rw [show nI a = nI (a - b) + nI b by rw [nI_add, Nat.sub_add_cancel h], Int32.add_sub_cancel]
theorem sg_comm {σ : Sg} {t c k t' c' k' : Nat} {u v : Int32} (h : ¬ (t = t' ∧ c = c' ∧ k = k')) : sg (sg σ t c k u) t' c' k' v = sg (sg σ t' c' k' v) t c k u := by
  funext a b j
  unfold sg up1
  by_cases h1 : a = t <;> by_cases h2 : a = t' <;> by_cases h3 : b = c <;> by_cases h4 : b = c' <;> by_cases h5 : j = k <;> by_cases h6 : j = k' <;> simp_all
theorem nt_comm (ρ : Sg) (n : Nat) (k a b c x : Int32) : sg (ntR ρ n k a b c) 7 0 9 x = ntR (sg ρ 7 0 9 x) n k a b c := by
  unfold ntR
  rw [sg_comm (by decide), sg_comm (t := 21) (by simp), sg_comm (t := 20) (by simp), sg_comm (t := 19) (by simp), sg_comm (t := 18) (by simp)]
set_option maxRecDepth 10000 in
theorem L_X8_cr {l : Launch} {w : WW} {Φ : Option Value → XX → Prop} {M : Mem} {ρ0 : Sg} {z : Nat → Int32} {E : List Ent} {K : Nat} (hz : Zv z) (hZ : Zr z ρ0) (hE : okE z E) (hl : E.length ≤ 500) (hK : K ≤ E.length) (h8 : ρ0 7 0 8 = nI K) (hlog : ∀ i e, E[i]? = some e → ρ0 18 0 i = nI e.1 ∧ ρ0 19 0 i = e.2.1 ∧ ρ0 20 0 i = e.2.2.1 ∧ ρ0 21 0 i = e.2.2.2) {v1 v2 v3 : Option Value} : ∀ (n : Nat) {k : Nat} {ρ : Sg} {v5 : Option Value}, k + n = K → Sm ρ0 (runE z (E.take k)) ρ → (∀ ρ' u5, Sm ρ0 (runE z (E.take K)) ρ' → A l w yX8_crash cX8_crash 6 (some .int) (rmd 9) Φ 87 [some (.ref (ad w 2 7 0)), v1, v2, v3, some (.int (nI K)), u5] [] (zx w M 2 ρ') 0 0) → A l w yX8_crash cX8_crash 6 (some .int) (rmd 9) Φ 34 [some (.ref (ad w 2 7 0)), v1, v2, v3, some (.int (nI k)), v5] [] (zx w M 2 ρ) 0 0 := by
  intro n
  induction n with
  | zero =>
    intro k ρ v5 hk h kk
    refine a_iload dX8_crash_34 rfl ?_
    refine a_aload_n dX8_crash_36 rfl ?_
    refine c_getI (t := 7) (k := 8) dX8_crash_37 kw_379 ?_
    have KK := h.1.2.2.2.2
    rw [show ρ 7 0 8 = nI K from KK.2.2.2.2.2.2.2.2.1.trans h8]
    refine a_icmp_ge (tgt := 87) dX8_crash_40 (by decide) (fun c_40 => ?_) (fun c_40 => absurd (nI_le (by omega) (by omega)) c_40)
    obtain rfl : k = K := by omega
    exact kk _ _ h
  | succ n ih =>
    intro k ρ v5 hk h kk
    refine a_iload dX8_crash_34 rfl ?_
    refine a_aload_n dX8_crash_36 rfl ?_
    refine c_getI (t := 7) (k := 8) dX8_crash_37 kw_379 ?_
    have KK := h.1.2.2.2.2
    rw [show ρ 7 0 8 = nI K from KK.2.2.2.2.2.2.2.2.1.trans h8]
    refine a_icmp_ge (tgt := 87) dX8_crash_40 (by decide) (fun c_40 => absurd c_40 (nI_ge (by omega) (by omega))) (fun c_40 => ?_)
    refine a_aload_n dX8_crash_43 rfl ?_
    refine a_aload_n dX8_crash_44 rfl ?_
    refine c_getR (t := 7) (k := 4) dX8_crash_45 kw_90 rfl ?_
    refine a_iload dX8_crash_48 rfl ?_
    refine c_iald (i := k) dX8_crash_50 rfl (show k < 512 by omega) ?_
    refine a_aload_n dX8_crash_51 rfl ?_
    refine c_getR (t := 7) (k := 5) dX8_crash_52 kw_91 rfl ?_
    refine a_iload dX8_crash_55 rfl ?_
    refine c_iald (i := k) dX8_crash_57 rfl (show k < 512 by omega) ?_
    refine a_aload_n dX8_crash_58 rfl ?_
    refine c_getR (t := 7) (k := 6) dX8_crash_59 kw_92 rfl ?_
    refine a_iload dX8_crash_62 rfl ?_
    refine c_iald (i := k) dX8_crash_64 rfl (show k < 512 by omega) ?_
    refine a_aload_n dX8_crash_65 rfl ?_
    refine c_getR (t := 7) (k := 7) dX8_crash_66 kw_93 rfl ?_
    refine a_iload dX8_crash_69 rfl ?_
    refine c_iald (i := k) dX8_crash_71 rfl (show k < 512 by omega) ?_
    have he := List.getElem?_eq_getElem (show k < E.length by omega)
    generalize E[k] = e at he
    obtain ⟨o1, o2⟩ := hE k e he
    obtain ⟨g1, g2, g3, g4⟩ := hlog k e he
    have hG := Gk_run hz hE (by omega) k (by omega)
    have hG1 := Gk_stE (c := e.2.2.2) hz hG (by omega) o1 o2
    rw [show ρ 18 0 k = nI e.1 by rw [KK.1]; exact g1, show ρ 19 0 k = e.2.1 by rw [KK.2.1]; exact g2, show ρ 20 0 k = e.2.2.1 by rw [KK.2.2.1]; exact g3, show ρ 21 0 k = e.2.2.2 by rw [KK.2.2.2.1]; exact g4]
    refine c_V4Y dX8_crash_72 kw_381 kv_X8_once (s_once_y hz hZ h hG (by omega) o1 o2) (fun ρ72 h_72 => ?_)
    refine a_istore_5 dX8_crash_75 (by decide) ?_
    obtain ⟨ap, bb, r, ls, z0, z1, z2, z3, hap, b1, b8, hr2, l1, l9⟩ := id hz
    refine a_aload_n dX8_crash_77 rfl ?_
    refine c_V0X dX8_crash_78 kw_509 kv_X8_buildAll (s_X8_buildAll (b := bb) (hZ.2.1.trans z1) b1 b8 h_72 hG1) (fun ρ78 h_78 => ?_)
    refine a_iinc_4 (u := nI (k + 1)) dX8_crash_81 (inc_nI k) (by decide) ?_
    refine a_goto (tgt := 34) dX8_crash_84 (by decide) ?_
    refine ih (by omega) ?_ kk
    rw [run_take he]
    unfold stL
    rw [z1]
    exact h_78
set_option maxRecDepth 10000 in
theorem s_X8_crash {l : Launch} {w : WW} {M : Mem} {ρ : Sg} {z : Nat → Int32} {E : List Ent} {F : Nat} (hz : Zv z) (hR : RefI z E F ρ) (hE : okE z E) (hl : E.length ≤ 500) {s : Int32} : Can l w yX8_crash cX8_crash 6 (some .int) (rmd 9) [.ref (ad w 2 7 0), .int s] (zx w M 2 ρ) (RY w M (nI (E.length - F - kp s (E.length - F))) (fun ρ' => RefI z (E.take (F + kp s (E.length - F)) ++ [(10, 0, 0, 0)]) (F + kp s (E.length - F) + 1) ρ' ∧ C3 ρ ρ')) := by
  refine Can.go (ls := [some (.ref (ad w 2 7 0)), some (.int s), none, none, none, none]) ?_
  obtain ⟨h, ⟨l8, l9, hFE, hLE⟩, hZ⟩ := hR
  have hkp := kp_le (s := s) (show E.length - F ≤ 600 by omega)
  obtain ⟨n, hn⟩ : ∃ n, E.length - F = n := ⟨_, rfl⟩
  obtain ⟨K, hK⟩ : ∃ K, F + kp s n = K := ⟨_, rfl⟩
  rw [hn] at hkp
  rw [hn, hK]
  obtain ⟨ρa, ea⟩ : ∃ ρa, sg ρ 7 0 8 (nI K) = ρa := ⟨_, rfl⟩
  have a8 : ρa 7 0 8 = nI K := by rw [← ea, sg_same]
  have aL : LG ρa (E.take K) F := by
    rw [← ea]
    refine ⟨by rw [sg_same, List.length_take, Nat.min_eq_left (by omega)], l9, by rw [List.length_take]; omega, fun i e hi => ?_⟩
    rw [List.getElem?_take] at hi
    split at hi
    · exact hLE i e hi
    · cases hi
  have aLE : ∀ i e, E[i]? = some e → ρa 18 0 i = nI e.1 ∧ ρa 19 0 i = e.2.1 ∧ ρa 20 0 i = e.2.2.1 ∧ ρa 21 0 i = e.2.2.2 := by rw [← ea]; exact hLE
  have aZ : Zr z ρa := by rw [← ea]; exact hZ
  have aC : C3 ρ ρa := by rw [← ea]; exact ⟨rfl, rfl, rfl⟩
  have hKl : (E.take K).length = K := by rw [List.length_take, Nat.min_eq_left (by omega)]
  refine a_aload_n dX8_crash_0 rfl ?_
  refine c_getI (t := 7) (k := 8) dX8_crash_1 kw_379 ?_
  refine a_aload_n dX8_crash_4 rfl ?_
  refine c_getI (t := 7) (k := 9) dX8_crash_5 kw_380 ?_
  rw [l8, l9]
  refine a_isub dX8_crash_8 ?_
  rw [sub_nI hFE, hn]
  refine a_istore_2 dX8_crash_9 (by decide) ?_
  refine a_iload_n dX8_crash_10 rfl ?_
  refine a_iconst (v := 0) dX8_crash_11 (by decide) ?_
  refine a_iload_n dX8_crash_12 rfl ?_
  refine c_S3I dX8_crash_13 kw_113 ks_X8_within s_X8_within ?_
  rw [wth_kp]
  refine a_istore_3 dX8_crash_16 (by decide) ?_
  refine a_aload_n dX8_crash_17 rfl ?_
  refine a_aload_n dX8_crash_18 rfl ?_
  refine c_getI (t := 7) (k := 9) dX8_crash_19 kw_380 ?_
  refine a_iload_n dX8_crash_22 rfl ?_
  rw [l9]
  refine a_iadd dX8_crash_23 ?_
  rw [nI_add, hK]
  refine c_putI (t := 7) (k := 8) dX8_crash_24 kw_379 ?_
  rw [ea]
  refine a_aload_n dX8_crash_27 rfl ?_
  refine c_V0V dX8_crash_28 kw_116 kv_X8_begin s_X8_begin ?_
  refine a_iconst (v := 0) dX8_crash_31 (by decide) ?_
  refine a_istore_4 dX8_crash_32 (by decide) ?_
  refine L_X8_cr (ρ0 := ρa) hz aZ hE hl (by omega) a8 aLE K (k := 0) (by omega) (Sm_begin ⟨rfl, rfl, rfl, rfl, rfl, rfl, rfl, rfl, rfl, rfl, rfl, rfl, rfl⟩) (fun ρ2 u5 h2 => ?_)
  have hG2 := Gk_run hz hE (by omega) K (by omega)
  obtain ⟨ap, bb, r, ls, z0, z1, z2, z3, hap, b1, b8, hr2, l1, l9'⟩ := id hz
  refine a_aload_n dX8_crash_87 rfl ?_
  refine c_V0X dX8_crash_88 kw_525 kv_X8_expireAll (s_X8_expireAll (r := r) h2 hG2 (aZ.2.2.1.trans z2) hr2) (fun ρ88 h_88 => ?_)
  have hG3 := Gk_expA (rt := nI r) 4 0 _ 0 rfl hG2
  refine a_aload_n dX8_crash_91 rfl ?_
  refine c_V0X dX8_crash_92 kw_509 kv_X8_buildAll (s_X8_buildAll (b := bb) (aZ.2.1.trans z1) b1 b8 h_88 hG3) (fun ρ92 h_92 => ?_)
  have KK := h_92.1.2.2.2.2
  have k8 : ρ92 7 0 8 = nI K := KK.2.2.2.2.2.2.2.2.1.trans a8
  refine a_aload_n dX8_crash_95 rfl ?_
  refine a_bipush (v := 10) dX8_crash_96 (by decide) ?_
  refine a_iconst (v := 0) dX8_crash_98 (by decide) ?_
  refine a_iconst (v := 0) dX8_crash_99 (by decide) ?_
  refine a_iconst (v := 0) dX8_crash_100 (by decide) ?_
  refine c_V4V dX8_crash_101 kw_529 kv_X8_note (s_X8_note (n := K) k8 (by omega)) ?_
  refine a_aload_n dX8_crash_104 rfl ?_
  refine a_aload_n dX8_crash_105 rfl ?_
  refine c_getI (t := 7) (k := 8) dX8_crash_106 kw_379 ?_
  rw [show (ntR ρ92 K 10 0 0 0) 7 0 8 = nI (K + 1) from rfl]
  refine c_putI (t := 7) (k := 9) dX8_crash_109 kw_380 ?_
  rw [nt_comm]
  refine a_iload_n dX8_crash_112 rfl ?_
  refine a_iload_n dX8_crash_113 rfl ?_
  refine a_isub dX8_crash_114 ?_
  rw [sub_nI hkp]
  exact c_iret dX8_crash_115 ⟨rfl, _, rfl, by
    have h3 := Sm_note (x := nI (K + 1)) (n := K) (k := 10) (a := 0) (b := 0) (c := 0) h_92
    have hL3 := LG_Kp h3.1.2.2.2.2 (LG_note (kd := 10) (n := K) (f := K + 1) (a := 0) (b := 0) (c := 0) aL hKl.symm (Nat.le_refl _))
    have q1 : Zr z ρ92 := Zr_Kp KK aZ
    have q2 : C3 ρa ρ92 := C3_Kp KK
    have q3 : C3 ρ ρ92 := ⟨q2.1.trans aC.1, q2.2.1.trans aC.2.1, q2.2.2.trans aC.2.2⟩
    refine ⟨⟨?_, hL3, q1⟩, q3⟩
    rw [runE_snoc]
    unfold stL
    rw [z1]
    show Sm _ (bld (nI bb) 40 (expI 1 (z 2) 4 0 (runE z (E.take K)) 0).1) _
    rw [z2]
    exact Sm_self h3⟩
def RefE (z : Nat → Int32) (E : List Ent) (F kd : Nat) (a b c : Int32) (ρ ρ' : Sg) : Prop := (if Acc z kd a b (runE z E) = true then RefI z (E ++ [(kd, a, b, c)]) (nFl E F) ρ' else RefI z E F ρ') ∧ C3 ρ ρ'
theorem s_event {l : Launch} {w : WW} {M : Mem} {ρ : Sg} {z : Nat → Int32} {E : List Ent} {F kd : Nat} (hz : Zv z) (hR : RefI z E F ρ) (hE : okE z E) (hl : E.length ≤ 500) (hk : kd ≤ 9) {a b c : Int32} : Can l w yX8_event cX8_event 6 (some .int) (rmd 9) [.ref (ad w 2 7 0), .int (nI kd), .int a, .int b, .int c] (zx w M 2 ρ) (RY w M (if Acc z kd a b (runE z E) = true then ansR z kd a (runE z E) else -1) (fun ρ' => RefE z E F kd a b c ρ ρ')) := by
  cases ha : Acc z kd a b (runE z E) with
  | true =>
    refine (s_event_y (c := c) hz hR hE hl hk ha).mono (fun v x hq => ?_)
    obtain ⟨q1, ρ', q2, q3, q4⟩ := hq
    refine ⟨q1, ρ', q2, ?_, q4⟩
    rw [if_pos ha]
    exact q3
  | false =>
    refine (s_event_n (c := c) hz hR hE hl hk ha).mono (fun v x hq => ?_)
    obtain ⟨q1, ρ', q2, q3, q4⟩ := hq
    refine ⟨q1, ρ', q2, ?_, q4⟩
    rw [if_neg (by rw [ha]; decide)]
    exact q3
theorem ev_lt {z : Nat → Int32} {E : List Ent} {kd : Nat} {a b : Int32} (hz : Zv z) (hE : okE z E) (hl : E.length ≤ 500) (h : (if Acc z kd a b (runE z E) = true then ansR z kd a (runE z E) else -1) < 0) : Acc z kd a b (runE z E) = false := by
  cases ha : Acc z kd a b (runE z E) with
  | false => rfl
  | true =>
    rw [if_pos ha] at h
    have hC : Cn (runE z E) := (Gk_all hz hE (by omega)).1.elim fun qs h => h.elim fun ps hW => hW.1.1
    obtain ⟨e, h1, h2⟩ := ans_nn hC ha
    rw [h2] at h
    exact absurd h (nI_pos (by omega))
theorem ev_ge {z : Nat → Int32} {E : List Ent} {kd : Nat} {a b : Int32} (h : ¬ (if Acc z kd a b (runE z E) = true then ansR z kd a (runE z E) else -1) < 0) : Acc z kd a b (runE z E) = true := by
  cases ha : Acc z kd a b (runE z E) with
  | true => rfl
  | false => exact absurd (by rw [if_neg (by rw [ha]; decide)]; decide) h
set_option maxRecDepth 10000 in
theorem s_X8_open {l : Launch} {w : WW} {M : Mem} {ρ : Sg} {z : Nat → Int32} {E : List Ent} {F : Nat} (hz : Zv z) (hR : RefI z E F ρ) (hE : okE z E) (hl : E.length ≤ 500) : Can l w yX8_open cX8_open 1 (some .int) (rmd 10) [.ref (ad w 2 7 0)] (zx w M 2 ρ) (RY w M (if Acc z 0 0 0 (runE z E) = true then ansR z 0 0 (runE z E) else -1) (fun ρ' => RefE z E F 0 0 0 0 ρ ρ')) := by
  refine Can.go (ls := [some (.ref (ad w 2 7 0))]) ?_
  refine a_aload_n dX8_open_0 rfl ?_
  refine a_iconst (v := 0) dX8_open_1 (by decide) ?_
  refine a_iconst (v := 0) dX8_open_2 (by decide) ?_
  refine a_iconst (v := 0) dX8_open_3 (by decide) ?_
  refine a_iconst (v := 0) dX8_open_4 (by decide) ?_
  refine c_V4Y dX8_open_5 kw_375 kv_X8_event (s_event (kd := 0) hz hR hE hl (by decide)) (fun ρ5 h_5 => ?_)
  exact c_iret dX8_open_8 ⟨rfl, _, rfl, h_5⟩
set_option maxRecDepth 10000 in
theorem s_X8_push {l : Launch} {w : WW} {M : Mem} {ρ : Sg} {z : Nat → Int32} {E : List Ent} {F : Nat} (hz : Zv z) (hR : RefI z E F ρ) (hE : okE z E) (hl : E.length ≤ 500) {a b c : Int32} : Can l w yX8_push cX8_push 4 (some .boolean) (rmd 10) [.ref (ad w 2 7 0), .int a, .int b, .int c] (zx w M 2 ρ) (RY w M (bi (Acc z 1 a b (runE z E))) (fun ρ' => RefE z E F 1 a b c ρ ρ')) := by
  refine Can.go (ls := [some (.ref (ad w 2 7 0)), some (.int a), some (.int b), some (.int c)]) ?_
  refine a_aload_n dX8_push_0 rfl ?_
  refine a_iconst (v := 1) dX8_push_1 (by decide) ?_
  refine a_iload_n dX8_push_2 rfl ?_
  refine a_iload_n dX8_push_3 rfl ?_
  refine a_iload_n dX8_push_4 rfl ?_
  refine c_V4Y dX8_push_5 kw_375 kv_X8_event (s_event (kd := 1) hz hR hE hl (by decide)) (fun ρ5 h_5 => ?_)
  refine a_if_lt (tgt := 15) dX8_push_8 (by decide) (fun c_8 => ?_) (fun c_8 => ?_)
  · refine a_iconst (v := 0) dX8_push_15 (by decide) ?_
    exact c_zret dX8_push_16 ⟨by first | rw [ev_lt hz hE hl c_8]; rfl | rw [ev_ge c_8]; rfl, _, rfl, h_5⟩
  · refine a_iconst (v := 1) dX8_push_11 (by decide) ?_
    refine a_goto (tgt := 16) dX8_push_12 (by decide) ?_
    exact c_zret dX8_push_16 ⟨by first | rw [ev_lt hz hE hl c_8]; rfl | rw [ev_ge c_8]; rfl, _, rfl, h_5⟩
set_option maxRecDepth 10000 in
theorem s_X8_approve {l : Launch} {w : WW} {M : Mem} {ρ : Sg} {z : Nat → Int32} {E : List Ent} {F : Nat} (hz : Zv z) (hR : RefI z E F ρ) (hE : okE z E) (hl : E.length ≤ 500) {a b : Int32} : Can l w yX8_approve cX8_approve 3 (some .boolean) (rmd 10) [.ref (ad w 2 7 0), .int a, .int b] (zx w M 2 ρ) (RY w M (bi (Acc z 2 a b (runE z E))) (fun ρ' => RefE z E F 2 a b 0 ρ ρ')) := by
  refine Can.go (ls := [some (.ref (ad w 2 7 0)), some (.int a), some (.int b)]) ?_
  refine a_aload_n dX8_approve_0 rfl ?_
  refine a_iconst (v := 2) dX8_approve_1 (by decide) ?_
  refine a_iload_n dX8_approve_2 rfl ?_
  refine a_iload_n dX8_approve_3 rfl ?_
  refine a_iconst (v := 0) dX8_approve_4 (by decide) ?_
  refine c_V4Y dX8_approve_5 kw_375 kv_X8_event (s_event (kd := 2) hz hR hE hl (by decide)) (fun ρ5 h_5 => ?_)
  refine a_if_lt (tgt := 15) dX8_approve_8 (by decide) (fun c_8 => ?_) (fun c_8 => ?_)
  · refine a_iconst (v := 0) dX8_approve_15 (by decide) ?_
    exact c_zret dX8_approve_16 ⟨by first | rw [ev_lt hz hE hl c_8]; rfl | rw [ev_ge c_8]; rfl, _, rfl, h_5⟩
  · refine a_iconst (v := 1) dX8_approve_11 (by decide) ?_
    refine a_goto (tgt := 16) dX8_approve_12 (by decide) ?_
    exact c_zret dX8_approve_16 ⟨by first | rw [ev_lt hz hE hl c_8]; rfl | rw [ev_ge c_8]; rfl, _, rfl, h_5⟩
set_option maxRecDepth 10000 in
theorem s_X8_object {l : Launch} {w : WW} {M : Mem} {ρ : Sg} {z : Nat → Int32} {E : List Ent} {F : Nat} (hz : Zv z) (hR : RefI z E F ρ) (hE : okE z E) (hl : E.length ≤ 500) {a b : Int32} : Can l w yX8_object cX8_object 3 (some .boolean) (rmd 10) [.ref (ad w 2 7 0), .int a, .int b] (zx w M 2 ρ) (RY w M (bi (Acc z 3 a b (runE z E))) (fun ρ' => RefE z E F 3 a b 0 ρ ρ')) := by
  refine Can.go (ls := [some (.ref (ad w 2 7 0)), some (.int a), some (.int b)]) ?_
  refine a_aload_n dX8_object_0 rfl ?_
  refine a_iconst (v := 3) dX8_object_1 (by decide) ?_
  refine a_iload_n dX8_object_2 rfl ?_
  refine a_iload_n dX8_object_3 rfl ?_
  refine a_iconst (v := 0) dX8_object_4 (by decide) ?_
  refine c_V4Y dX8_object_5 kw_375 kv_X8_event (s_event (kd := 3) hz hR hE hl (by decide)) (fun ρ5 h_5 => ?_)
  refine a_if_lt (tgt := 15) dX8_object_8 (by decide) (fun c_8 => ?_) (fun c_8 => ?_)
  · refine a_iconst (v := 0) dX8_object_15 (by decide) ?_
    exact c_zret dX8_object_16 ⟨by first | rw [ev_lt hz hE hl c_8]; rfl | rw [ev_ge c_8]; rfl, _, rfl, h_5⟩
  · refine a_iconst (v := 1) dX8_object_11 (by decide) ?_
    refine a_goto (tgt := 16) dX8_object_12 (by decide) ?_
    exact c_zret dX8_object_16 ⟨by first | rw [ev_lt hz hE hl c_8]; rfl | rw [ev_ge c_8]; rfl, _, rfl, h_5⟩
set_option maxRecDepth 10000 in
theorem s_X8_close {l : Launch} {w : WW} {M : Mem} {ρ : Sg} {z : Nat → Int32} {E : List Ent} {F : Nat} (hz : Zv z) (hR : RefI z E F ρ) (hE : okE z E) (hl : E.length ≤ 500) {a : Int32} : Can l w yX8_close cX8_close 2 (some .boolean) (rmd 10) [.ref (ad w 2 7 0), .int a] (zx w M 2 ρ) (RY w M (bi (Acc z 4 a 0 (runE z E))) (fun ρ' => RefE z E F 4 a 0 0 ρ ρ')) := by
  refine Can.go (ls := [some (.ref (ad w 2 7 0)), some (.int a)]) ?_
  refine a_aload_n dX8_close_0 rfl ?_
  refine a_iconst (v := 4) dX8_close_1 (by decide) ?_
  refine a_iload_n dX8_close_2 rfl ?_
  refine a_iconst (v := 0) dX8_close_3 (by decide) ?_
  refine a_iconst (v := 0) dX8_close_4 (by decide) ?_
  refine c_V4Y dX8_close_5 kw_375 kv_X8_event (s_event (kd := 4) hz hR hE hl (by decide)) (fun ρ5 h_5 => ?_)
  refine a_if_lt (tgt := 15) dX8_close_8 (by decide) (fun c_8 => ?_) (fun c_8 => ?_)
  · refine a_iconst (v := 0) dX8_close_15 (by decide) ?_
    exact c_zret dX8_close_16 ⟨by first | rw [ev_lt hz hE hl c_8]; rfl | rw [ev_ge c_8]; rfl, _, rfl, h_5⟩
  · refine a_iconst (v := 1) dX8_close_11 (by decide) ?_
    refine a_goto (tgt := 16) dX8_close_12 (by decide) ?_
    exact c_zret dX8_close_16 ⟨by first | rw [ev_lt hz hE hl c_8]; rfl | rw [ev_ge c_8]; rfl, _, rfl, h_5⟩
set_option maxRecDepth 10000 in
theorem s_X8_enqueue {l : Launch} {w : WW} {M : Mem} {ρ : Sg} {z : Nat → Int32} {E : List Ent} {F : Nat} (hz : Zv z) (hR : RefI z E F ρ) (hE : okE z E) (hl : E.length ≤ 500) {a : Int32} : Can l w yX8_enqueue cX8_enqueue 2 (some .boolean) (rmd 10) [.ref (ad w 2 7 0), .int a] (zx w M 2 ρ) (RY w M (bi (Acc z 5 a 0 (runE z E))) (fun ρ' => RefE z E F 5 a 0 0 ρ ρ')) := by
  refine Can.go (ls := [some (.ref (ad w 2 7 0)), some (.int a)]) ?_
  refine a_aload_n dX8_enqueue_0 rfl ?_
  refine a_iconst (v := 5) dX8_enqueue_1 (by decide) ?_
  refine a_iload_n dX8_enqueue_2 rfl ?_
  refine a_iconst (v := 0) dX8_enqueue_3 (by decide) ?_
  refine a_iconst (v := 0) dX8_enqueue_4 (by decide) ?_
  refine c_V4Y dX8_enqueue_5 kw_375 kv_X8_event (s_event (kd := 5) hz hR hE hl (by decide)) (fun ρ5 h_5 => ?_)
  refine a_if_lt (tgt := 15) dX8_enqueue_8 (by decide) (fun c_8 => ?_) (fun c_8 => ?_)
  · refine a_iconst (v := 0) dX8_enqueue_15 (by decide) ?_
    exact c_zret dX8_enqueue_16 ⟨by first | rw [ev_lt hz hE hl c_8]; rfl | rw [ev_ge c_8]; rfl, _, rfl, h_5⟩
  · refine a_iconst (v := 1) dX8_enqueue_11 (by decide) ?_
    refine a_goto (tgt := 16) dX8_enqueue_12 (by decide) ?_
    exact c_zret dX8_enqueue_16 ⟨by first | rw [ev_lt hz hE hl c_8]; rfl | rw [ev_ge c_8]; rfl, _, rfl, h_5⟩
set_option maxRecDepth 10000 in
theorem s_X8_rebase {l : Launch} {w : WW} {M : Mem} {ρ : Sg} {z : Nat → Int32} {E : List Ent} {F : Nat} (hz : Zv z) (hR : RefI z E F ρ) (hE : okE z E) (hl : E.length ≤ 500) {a : Int32} : Can l w yX8_rebase cX8_rebase 2 (some .boolean) (rmd 10) [.ref (ad w 2 7 0), .int a] (zx w M 2 ρ) (RY w M (bi (Acc z 6 a 0 (runE z E))) (fun ρ' => RefE z E F 6 a 0 0 ρ ρ')) := by
  refine Can.go (ls := [some (.ref (ad w 2 7 0)), some (.int a)]) ?_
  refine a_aload_n dX8_rebase_0 rfl ?_
  refine a_bipush (v := 6) dX8_rebase_1 (by decide) ?_
  refine a_iload_n dX8_rebase_3 rfl ?_
  refine a_iconst (v := 0) dX8_rebase_4 (by decide) ?_
  refine a_iconst (v := 0) dX8_rebase_5 (by decide) ?_
  refine c_V4Y dX8_rebase_6 kw_375 kv_X8_event (s_event (kd := 6) hz hR hE hl (by decide)) (fun ρ6 h_6 => ?_)
  refine a_if_lt (tgt := 16) dX8_rebase_9 (by decide) (fun c_9 => ?_) (fun c_9 => ?_)
  · refine a_iconst (v := 0) dX8_rebase_16 (by decide) ?_
    exact c_zret dX8_rebase_17 ⟨by first | rw [ev_lt hz hE hl c_9]; rfl | rw [ev_ge c_9]; rfl, _, rfl, h_6⟩
  · refine a_iconst (v := 1) dX8_rebase_12 (by decide) ?_
    refine a_goto (tgt := 17) dX8_rebase_13 (by decide) ?_
    exact c_zret dX8_rebase_17 ⟨by first | rw [ev_lt hz hE hl c_9]; rfl | rw [ev_ge c_9]; rfl, _, rfl, h_6⟩
set_option maxRecDepth 10000 in
theorem s_X8_claim {l : Launch} {w : WW} {M : Mem} {ρ : Sg} {z : Nat → Int32} {E : List Ent} {F : Nat} (hz : Zv z) (hR : RefI z E F ρ) (hE : okE z E) (hl : E.length ≤ 500) {a : Int32} : Can l w yX8_claim cX8_claim 2 (some .int) (rmd 10) [.ref (ad w 2 7 0), .int a] (zx w M 2 ρ) (RY w M (if Acc z 7 a 0 (runE z E) = true then ansR z 7 a (runE z E) else -1) (fun ρ' => RefE z E F 7 a 0 0 ρ ρ')) := by
  refine Can.go (ls := [some (.ref (ad w 2 7 0)), some (.int a)]) ?_
  refine a_aload_n dX8_claim_0 rfl ?_
  refine a_bipush (v := 7) dX8_claim_1 (by decide) ?_
  refine a_iload_n dX8_claim_3 rfl ?_
  refine a_iconst (v := 0) dX8_claim_4 (by decide) ?_
  refine a_iconst (v := 0) dX8_claim_5 (by decide) ?_
  refine c_V4Y dX8_claim_6 kw_375 kv_X8_event (s_event (kd := 7) hz hR hE hl (by decide)) (fun ρ6 h_6 => ?_)
  exact c_iret dX8_claim_9 ⟨rfl, _, rfl, h_6⟩
set_option maxRecDepth 10000 in
theorem s_X8_report_t {l : Launch} {w : WW} {M : Mem} {ρ : Sg} {z : Nat → Int32} {E : List Ent} {F : Nat} (hz : Zv z) (hR : RefI z E F ρ) (hE : okE z E) (hl : E.length ≤ 500) {a : Int32} : Can l w yX8_report cX8_report 3 (some .boolean) (rmd 10) [.ref (ad w 2 7 0), .int a, .int 1] (zx w M 2 ρ) (RY w M (bi (Acc z 8 a 1 (runE z E))) (fun ρ' => RefE z E F 8 a 1 0 ρ ρ')) := by
  refine Can.go (ls := [some (.ref (ad w 2 7 0)), some (.int a), some (.int 1)]) ?_
  refine a_aload_n dX8_report_0 rfl ?_
  refine a_bipush (v := 8) dX8_report_1 (by decide) ?_
  refine a_iload_n dX8_report_3 rfl ?_
  refine a_iload_n dX8_report_4 rfl ?_
  refine a_if_eq (tgt := 12) dX8_report_5 (by decide) (fun c_5 => absurd c_5 (by decide)) (fun c_5 => ?_)
  refine a_iconst (v := 1) dX8_report_8 (by decide) ?_
  refine a_goto (tgt := 13) dX8_report_9 (by decide) ?_
  refine a_iconst (v := 0) dX8_report_13 (by decide) ?_
  refine c_V4Y dX8_report_14 kw_375 kv_X8_event (s_event (kd := 8) hz hR hE hl (by decide)) (fun ρ14 h_14 => ?_)
  refine a_if_lt (tgt := 24) dX8_report_17 (by decide) (fun c_17 => ?_) (fun c_17 => ?_)
  · refine a_iconst (v := 0) dX8_report_24 (by decide) ?_
    exact c_zret dX8_report_25 ⟨by first | rw [ev_lt hz hE hl c_17]; rfl | rw [ev_ge c_17]; rfl, _, rfl, h_14⟩
  · refine a_iconst (v := 1) dX8_report_20 (by decide) ?_
    refine a_goto (tgt := 25) dX8_report_21 (by decide) ?_
    exact c_zret dX8_report_25 ⟨by first | rw [ev_lt hz hE hl c_17]; rfl | rw [ev_ge c_17]; rfl, _, rfl, h_14⟩
set_option maxRecDepth 10000 in
theorem s_X8_report_f {l : Launch} {w : WW} {M : Mem} {ρ : Sg} {z : Nat → Int32} {E : List Ent} {F : Nat} (hz : Zv z) (hR : RefI z E F ρ) (hE : okE z E) (hl : E.length ≤ 500) {a : Int32} : Can l w yX8_report cX8_report 3 (some .boolean) (rmd 10) [.ref (ad w 2 7 0), .int a, .int 0] (zx w M 2 ρ) (RY w M (bi (Acc z 8 a 0 (runE z E))) (fun ρ' => RefE z E F 8 a 0 0 ρ ρ')) := by
  refine Can.go (ls := [some (.ref (ad w 2 7 0)), some (.int a), some (.int 0)]) ?_
  refine a_aload_n dX8_report_0 rfl ?_
  refine a_bipush (v := 8) dX8_report_1 (by decide) ?_
  refine a_iload_n dX8_report_3 rfl ?_
  refine a_iload_n dX8_report_4 rfl ?_
  refine a_if_eq (tgt := 12) dX8_report_5 (by decide) (fun c_5 => ?_) (fun c_5 => absurd rfl c_5)
  refine a_iconst (v := 0) dX8_report_12 (by decide) ?_
  refine a_iconst (v := 0) dX8_report_13 (by decide) ?_
  refine c_V4Y dX8_report_14 kw_375 kv_X8_event (s_event (kd := 8) hz hR hE hl (by decide)) (fun ρ14 h_14 => ?_)
  refine a_if_lt (tgt := 24) dX8_report_17 (by decide) (fun c_17 => ?_) (fun c_17 => ?_)
  · refine a_iconst (v := 0) dX8_report_24 (by decide) ?_
    exact c_zret dX8_report_25 ⟨by first | rw [ev_lt hz hE hl c_17]; rfl | rw [ev_ge c_17]; rfl, _, rfl, h_14⟩
  · refine a_iconst (v := 1) dX8_report_20 (by decide) ?_
    refine a_goto (tgt := 25) dX8_report_21 (by decide) ?_
    exact c_zret dX8_report_25 ⟨by first | rw [ev_lt hz hE hl c_17]; rfl | rw [ev_ge c_17]; rfl, _, rfl, h_14⟩
set_option maxRecDepth 10000 in
theorem s_X8_tick {l : Launch} {w : WW} {M : Mem} {ρ : Sg} {z : Nat → Int32} {E : List Ent} {F : Nat} (hz : Zv z) (hR : RefI z E F ρ) (hE : okE z E) (hl : E.length ≤ 500) {a : Int32} : Can l w yX8_tick cX8_tick 2 (some .int) (rmd 10) [.ref (ad w 2 7 0), .int a] (zx w M 2 ρ) (RY w M (if Acc z 9 a 0 (runE z E) = true then ansR z 9 a (runE z E) else -1) (fun ρ' => RefE z E F 9 a 0 0 ρ ρ')) := by
  refine Can.go (ls := [some (.ref (ad w 2 7 0)), some (.int a)]) ?_
  refine a_aload_n dX8_tick_0 rfl ?_
  refine a_bipush (v := 9) dX8_tick_1 (by decide) ?_
  refine a_iload_n dX8_tick_3 rfl ?_
  refine a_iconst (v := 0) dX8_tick_4 (by decide) ?_
  refine a_iconst (v := 0) dX8_tick_5 (by decide) ?_
  refine c_V4Y dX8_tick_6 kw_375 kv_X8_event (s_event (kd := 9) hz hR hE hl (by decide)) (fun ρ6 h_6 => ?_)
  exact c_iret dX8_tick_9 ⟨rfl, _, rfl, h_6⟩
set_option maxRecDepth 10000 in
theorem s_X8_state {l : Launch} {w : WW} {M : Mem} {ρ : Sg} {z : Nat → Int32} {E : List Ent} {F : Nat} (hz : Zv z) (hR : RefI z E F ρ) (hE : okE z E) (hl : E.length ≤ 500) {a : Int32} : Can l w yX8_state cX8_state 2 (some .int) (rmd 2) [.ref (ad w 2 7 0), .int a] (zx w M 2 ρ) (RY w M (if inr a ((runE z E) 5 0 4) = true then (runE z E) 1 (tn a) 2 else -1) (fun ρ' => RefI z E F ρ' ∧ C3 ρ ρ')) := by
  refine Can.go (ls := [some (.ref (ad w 2 7 0)), some (.int a)]) ?_
  have hG := Gk_all hz hE (by omega)
  obtain ⟨h, hL, hZ⟩ := id hR
  obtain ⟨⟨qs, ps, hW⟩, hx, hD⟩ := id hG
  have hC : Cn (runE z E) := hW.1.1
  obtain ⟨σ, eσ⟩ : ∃ σ, runE z E = σ := ⟨_, rfl⟩
  rw [eσ] at h hG hW hx hD hC ⊢
  have hsame : RefI z E F ρ ∧ C3 ρ ρ := ⟨hR, rfl, rfl, rfl⟩
  refine a_aload_n dX8_state_0 rfl ?_
  refine a_iload_n dX8_state_1 rfl ?_
  refine c_V1I dX8_state_2 kw_401 kv_X8_isChange s_X8_isChange ?_
  rw [h.1.2.1.1]
  refine a_if_eq (tgt := 17) dX8_state_5 (by decide) (fun c_5 => ?_) (fun c_5 => ?_)
  · refine a_iconst (v := (-1)) dX8_state_17 (by decide) ?_
    exact c_iret dX8_state_18 ⟨by first | (rw [if_neg (by rw [bi_0.mp c_5]; decide)]) | (rw [if_pos (bi_n0.mp c_5)]; exact congrArg (fun q => some (Value.int q)) x3), _, rfl, hsame⟩
  · obtain ⟨ea, han⟩ := tn_i (n := cn σ) (by rw [← hC.1]; exact bi_n0.mp c_5) (by have := hC.2; omega)
    obtain ⟨x1, x2, x3, x4, x5⟩ := h.1.2.1.2 _ han
    refine a_aload_n dX8_state_8 rfl ?_
    refine c_getR (t := 7) (k := 16) dX8_state_9 kw_97 rfl ?_
    refine a_iload_n dX8_state_12 rfl ?_
    refine c_iald (i := tn a) dX8_state_13 ea (show tn a < 16 from by have := hC.2; omega) ?_
    refine a_goto (tgt := 18) dX8_state_14 (by decide) ?_
    exact c_iret dX8_state_18 ⟨by first | (rw [if_neg (by rw [bi_0.mp c_5]; decide)]) | (rw [if_pos (bi_n0.mp c_5)]; exact congrArg (fun q => some (Value.int q)) x3), _, rfl, hsame⟩
set_option maxRecDepth 10000 in
theorem s_X8_cause {l : Launch} {w : WW} {M : Mem} {ρ : Sg} {z : Nat → Int32} {E : List Ent} {F : Nat} (hz : Zv z) (hR : RefI z E F ρ) (hE : okE z E) (hl : E.length ≤ 500) {a : Int32} : Can l w yX8_cause cX8_cause 2 (some .int) (rmd 2) [.ref (ad w 2 7 0), .int a] (zx w M 2 ρ) (RY w M (if inr a ((runE z E) 5 0 4) = true then (runE z E) 1 (tn a) 3 else -1) (fun ρ' => RefI z E F ρ' ∧ C3 ρ ρ')) := by
  refine Can.go (ls := [some (.ref (ad w 2 7 0)), some (.int a)]) ?_
  have hG := Gk_all hz hE (by omega)
  obtain ⟨h, hL, hZ⟩ := id hR
  obtain ⟨⟨qs, ps, hW⟩, hx, hD⟩ := id hG
  have hC : Cn (runE z E) := hW.1.1
  obtain ⟨σ, eσ⟩ : ∃ σ, runE z E = σ := ⟨_, rfl⟩
  rw [eσ] at h hG hW hx hD hC ⊢
  have hsame : RefI z E F ρ ∧ C3 ρ ρ := ⟨hR, rfl, rfl, rfl⟩
  refine a_aload_n dX8_cause_0 rfl ?_
  refine a_iload_n dX8_cause_1 rfl ?_
  refine c_V1I dX8_cause_2 kw_401 kv_X8_isChange s_X8_isChange ?_
  rw [h.1.2.1.1]
  refine a_if_eq (tgt := 17) dX8_cause_5 (by decide) (fun c_5 => ?_) (fun c_5 => ?_)
  · refine a_iconst (v := (-1)) dX8_cause_17 (by decide) ?_
    exact c_iret dX8_cause_18 ⟨by first | (rw [if_neg (by rw [bi_0.mp c_5]; decide)]) | (rw [if_pos (bi_n0.mp c_5)]; exact congrArg (fun q => some (Value.int q)) x4), _, rfl, hsame⟩
  · obtain ⟨ea, han⟩ := tn_i (n := cn σ) (by rw [← hC.1]; exact bi_n0.mp c_5) (by have := hC.2; omega)
    obtain ⟨x1, x2, x3, x4, x5⟩ := h.1.2.1.2 _ han
    refine a_aload_n dX8_cause_8 rfl ?_
    refine c_getR (t := 7) (k := 17) dX8_cause_9 kw_98 rfl ?_
    refine a_iload_n dX8_cause_12 rfl ?_
    refine c_iald (i := tn a) dX8_cause_13 ea (show tn a < 16 from by have := hC.2; omega) ?_
    refine a_goto (tgt := 18) dX8_cause_14 (by decide) ?_
    exact c_iret dX8_cause_18 ⟨by first | (rw [if_neg (by rw [bi_0.mp c_5]; decide)]) | (rw [if_pos (bi_n0.mp c_5)]; exact congrArg (fun q => some (Value.int q)) x4), _, rfl, hsame⟩
set_option maxRecDepth 10000 in
theorem s_X8_standing {l : Launch} {w : WW} {M : Mem} {ρ : Sg} {z : Nat → Int32} {E : List Ent} {F : Nat} (hz : Zv z) (hR : RefI z E F ρ) (hE : okE z E) (hl : E.length ≤ 500) {a : Int32} : Can l w yX8_standing cX8_standing 2 (some .int) (rmd 2) [.ref (ad w 2 7 0), .int a] (zx w M 2 ρ) (RY w M (if inr a ((runE z E) 5 0 4) = true then bitc ((runE z E) 1 (tn a) 4) + 10 * bitc ((runE z E) 1 (tn a) 5) else -1) (fun ρ' => RefI z E F ρ' ∧ C3 ρ ρ')) := by
  refine Can.go (ls := [some (.ref (ad w 2 7 0)), some (.int a)]) ?_
  have hG := Gk_all hz hE (by omega)
  obtain ⟨h, hL, hZ⟩ := id hR
  obtain ⟨⟨qs, ps, hW⟩, hx, hD⟩ := id hG
  have hC : Cn (runE z E) := hW.1.1
  obtain ⟨σ, eσ⟩ : ∃ σ, runE z E = σ := ⟨_, rfl⟩
  rw [eσ] at h hG hW hx hD hC ⊢
  have hsame : RefI z E F ρ ∧ C3 ρ ρ := ⟨hR, rfl, rfl, rfl⟩
  refine a_aload_n dX8_standing_0 rfl ?_
  refine a_iload_n dX8_standing_1 rfl ?_
  refine c_V1I dX8_standing_2 kw_401 kv_X8_isChange s_X8_isChange ?_
  rw [h.1.2.1.1]
  refine a_if_eq (tgt := 27) dX8_standing_5 (by decide) (fun c_5 => ?_) (fun c_5 => ?_)
  · refine a_iconst (v := (-1)) dX8_standing_27 (by decide) ?_
    exact c_iret dX8_standing_28 ⟨by first | (rw [if_neg (by rw [bi_0.mp c_5]; decide)]) | (rw [if_pos (bi_n0.mp c_5), cnt_for hcs hci, (cnt_aga hcs hci).1]), _, rfl, hsame⟩
  · obtain ⟨ea, han⟩ := tn_i (n := cn σ) (by rw [← hC.1]; exact bi_n0.mp c_5) (by have := hC.2; omega)
    have hcs := h.1.2.1.2 _ han
    have hci := hx.1 _ han
    refine a_aload_n dX8_standing_8 rfl ?_
    refine a_iload_n dX8_standing_9 rfl ?_
    refine a_iconst (v := 1) dX8_standing_10 (by decide) ?_
    refine c_V2I dX8_standing_11 kw_417 kv_X8_count (s_cnt ea (show tn a < 16 from by have := hC.2; omega)) ?_
    refine a_bipush (v := 10) dX8_standing_14 (by decide) ?_
    refine a_aload_n dX8_standing_16 rfl ?_
    refine a_iload_n dX8_standing_17 rfl ?_
    refine a_iconst (v := 2) dX8_standing_18 (by decide) ?_
    refine c_V2I dX8_standing_19 kw_417 kv_X8_count (s_cnt ea (show tn a < 16 from by have := hC.2; omega)) ?_
    refine a_imul dX8_standing_22 ?_
    refine a_iadd dX8_standing_23 ?_
    refine a_goto (tgt := 28) dX8_standing_24 (by decide) ?_
    exact c_iret dX8_standing_28 ⟨by first | (rw [if_neg (by rw [bi_0.mp c_5]; decide)]) | (rw [if_pos (bi_n0.mp c_5), cnt_for hcs hci, (cnt_aga hcs hci).1]), _, rfl, hsame⟩
set_option maxRecDepth 10000 in
theorem s_X8_queueAt {l : Launch} {w : WW} {M : Mem} {ρ : Sg} {z : Nat → Int32} {E : List Ent} {F : Nat} (hz : Zv z) (hR : RefI z E F ρ) (hE : okE z E) (hl : E.length ≤ 500) {a : Int32} : Can l w yX8_queueAt cX8_queueAt 2 (some .int) (rmd 1) [.ref (ad w 2 7 0), .int a] (zx w M 2 ρ) (RY w M (rowAt ((runE z E) 13 0) (qn (runE z E)) a) (fun ρ' => RefI z E F ρ' ∧ C3 ρ ρ')) := by
  refine Can.go (ls := [some (.ref (ad w 2 7 0)), some (.int a)]) ?_
  have hG := Gk_all hz hE (by omega)
  obtain ⟨h, hL, hZ⟩ := id hR
  obtain ⟨⟨qs, ps, hW⟩, hx, hD⟩ := id hG
  have hC : Cn (runE z E) := hW.1.1
  obtain ⟨σ, eσ⟩ : ∃ σ, runE z E = σ := ⟨_, rfl⟩
  rw [eσ] at h hG hW hx hD hC ⊢
  have hsame : RefI z E F ρ ∧ C3 ρ ρ := ⟨hR, rfl, rfl, rfl⟩
  refine a_iload_n dX8_queueAt_0 rfl ?_
  refine a_if_lt (tgt := 21) dX8_queueAt_1 (by decide) (fun c_1 => ?_) (fun c_1 => ?_)
  · refine a_iconst (v := (-1)) dX8_queueAt_21 (by decide) ?_
    exact c_iret dX8_queueAt_22 ⟨by first | (rw [rowAt, if_pos hin]; exact congrArg (fun q => some (Value.int q)) (h.1.2.2.1.2 _ hlt)) | (rw [rowAt, if_neg (by simp_all [inr])]), _, rfl, hsame⟩
  · refine a_iload_n dX8_queueAt_4 rfl ?_
    refine a_aload_n dX8_queueAt_5 rfl ?_
    refine c_getI (t := 7) (k := 20) dX8_queueAt_6 kw_123 ?_
    have hQ := QI_Qn hW.1.2.1
    rw [show ρ 7 0 20 = nI (qn σ) from h.1.2.2.1.1.trans hQ.1]
    refine a_icmp_ge (tgt := 21) dX8_queueAt_9 (by decide) (fun c_9 => ?_) (fun c_9 => ?_)
    · refine a_iconst (v := (-1)) dX8_queueAt_21 (by decide) ?_
      exact c_iret dX8_queueAt_22 ⟨by first | (rw [rowAt, if_pos hin]; exact congrArg (fun q => some (Value.int q)) (h.1.2.2.1.2 _ hlt)) | (rw [rowAt, if_neg (by simp_all [inr])]), _, rfl, hsame⟩
    · have hin : inr a (nI (qn σ)) = true := by simp_all [inr]
      obtain ⟨ea, hlt⟩ := tn_i hin (by have := hQ.2; omega)
      refine a_aload_n dX8_queueAt_12 rfl ?_
      refine c_getR (t := 7) (k := 19) dX8_queueAt_13 kw_100 rfl ?_
      refine a_iload_n dX8_queueAt_16 rfl ?_
      refine c_iald (i := tn a) dX8_queueAt_17 ea (show tn a < 16 from by have := hQ.2; omega) ?_
      refine a_goto (tgt := 22) dX8_queueAt_18 (by decide) ?_
      exact c_iret dX8_queueAt_22 ⟨by first | (rw [rowAt, if_pos hin]; exact congrArg (fun q => some (Value.int q)) (h.1.2.2.1.2 _ hlt)) | (rw [rowAt, if_neg (by simp_all [inr])]), _, rfl, hsame⟩
set_option maxRecDepth 10000 in
theorem s_X8_batch {l : Launch} {w : WW} {M : Mem} {ρ : Sg} {z : Nat → Int32} {E : List Ent} {F : Nat} (hz : Zv z) (hR : RefI z E F ρ) (hE : okE z E) (hl : E.length ≤ 500) : Can l w yX8_batch cX8_batch 1 (some .int) (rmd 1) [.ref (ad w 2 7 0)] (zx w M 2 ρ) (RY w M ((runE z E) 0 0 1) (fun ρ' => RefI z E F ρ' ∧ C3 ρ ρ')) := by
  refine Can.go (ls := [some (.ref (ad w 2 7 0))]) ?_
  have hG := Gk_all hz hE (by omega)
  obtain ⟨h, hL, hZ⟩ := id hR
  obtain ⟨⟨qs, ps, hW⟩, hx, hD⟩ := id hG
  have hC : Cn (runE z E) := hW.1.1
  obtain ⟨σ, eσ⟩ : ∃ σ, runE z E = σ := ⟨_, rfl⟩
  rw [eσ] at h hG hW hx hD hC ⊢
  have hsame : RefI z E F ρ ∧ C3 ρ ρ := ⟨hR, rfl, rfl, rfl⟩
  refine a_aload_n dX8_batch_0 rfl ?_
  refine c_getI (t := 7) (k := 23) dX8_batch_1 kw_125 ?_
  exact c_iret dX8_batch_4 ⟨by rw [h.2.1.1], _, rfl, hsame⟩
set_option maxRecDepth 10000 in
theorem s_X8_version {l : Launch} {w : WW} {M : Mem} {ρ : Sg} {z : Nat → Int32} {E : List Ent} {F : Nat} (hz : Zv z) (hR : RefI z E F ρ) (hE : okE z E) (hl : E.length ≤ 500) : Can l w yX8_version cX8_version 1 (some .int) (rmd 1) [.ref (ad w 2 7 0)] (zx w M 2 ρ) (RY w M ((runE z E) 5 0 2) (fun ρ' => RefI z E F ρ' ∧ C3 ρ ρ')) := by
  refine Can.go (ls := [some (.ref (ad w 2 7 0))]) ?_
  have hG := Gk_all hz hE (by omega)
  obtain ⟨h, hL, hZ⟩ := id hR
  obtain ⟨⟨qs, ps, hW⟩, hx, hD⟩ := id hG
  have hC : Cn (runE z E) := hW.1.1
  obtain ⟨σ, eσ⟩ : ∃ σ, runE z E = σ := ⟨_, rfl⟩
  rw [eσ] at h hG hW hx hD hC ⊢
  have hsame : RefI z E F ρ ∧ C3 ρ ρ := ⟨hR, rfl, rfl, rfl⟩
  refine a_aload_n dX8_version_0 rfl ?_
  refine c_getI (t := 7) (k := 11) dX8_version_1 kw_120 ?_
  exact c_iret dX8_version_4 ⟨by rw [h.1.1.2.1], _, rfl, hsame⟩
set_option maxRecDepth 10000 in
theorem s_X8_job {l : Launch} {w : WW} {M : Mem} {ρ : Sg} {z : Nat → Int32} {E : List Ent} {F : Nat} (hz : Zv z) (hR : RefI z E F ρ) (hE : okE z E) (hl : E.length ≤ 500) {a : Int32} : Can l w yX8_job cX8_job 2 (some .int) (rmd 1) [.ref (ad w 2 7 0), .int a] (zx w M 2 ρ) (RY w M (if inr a 4 = true then (runE z E) 10 0 (tn a) else 0) (fun ρ' => RefI z E F ρ' ∧ C3 ρ ρ')) := by
  refine Can.go (ls := [some (.ref (ad w 2 7 0)), some (.int a)]) ?_
  have hG := Gk_all hz hE (by omega)
  obtain ⟨h, hL, hZ⟩ := id hR
  obtain ⟨⟨qs, ps, hW⟩, hx, hD⟩ := id hG
  have hC : Cn (runE z E) := hW.1.1
  obtain ⟨σ, eσ⟩ : ∃ σ, runE z E = σ := ⟨_, rfl⟩
  rw [eσ] at h hG hW hx hD hC ⊢
  have hsame : RefI z E F ρ ∧ C3 ρ ρ := ⟨hR, rfl, rfl, rfl⟩
  refine a_aload_n dX8_job_0 rfl ?_
  refine c_getI (t := 7) (k := 23) dX8_job_1 kw_125 ?_
  rw [h.2.1.1]
  refine a_if_eq (tgt := 16) dX8_job_4 (by decide) (fun c_4 => ?_) (fun c_4 => ?_)
  · refine a_iconst (v := 0) dX8_job_16 (by decide) ?_
    refine a_goto (tgt := 26) dX8_job_17 (by decide) ?_
    exact c_iret dX8_job_26 ⟨by
        first
          | (rw [if_pos hin]; exact congrArg (fun q => some (Value.int q)) (h.2.1.2 hm _ ha4).1)
          | (rw [inr_neg c_8]; rfl)
          | (rw [inr_of3 (n := 4) (m := 4) rfl c_13 (by decide) (by decide)]; rfl)
          | (have hz0 := (Wk_mb0 hW (by rw [c_4]; decide)).2
             by_cases hin : inr a 4 = true
             · rw [if_pos hin, hz0 _ (tn_i (n := 4) hin (by decide)).2]
             · rw [if_neg hin]), _, rfl, hsame⟩
  · refine a_iload_n dX8_job_7 rfl ?_
    refine a_if_lt (tgt := 16) dX8_job_8 (by decide) (fun c_8 => ?_) (fun c_8 => ?_)
    · refine a_iconst (v := 0) dX8_job_16 (by decide) ?_
      refine a_goto (tgt := 26) dX8_job_17 (by decide) ?_
      exact c_iret dX8_job_26 ⟨by
          first
            | (rw [if_pos hin]; exact congrArg (fun q => some (Value.int q)) (h.2.1.2 hm _ ha4).1)
            | (rw [inr_neg c_8]; rfl)
            | (rw [inr_of3 (n := 4) (m := 4) rfl c_13 (by decide) (by decide)]; rfl)
            | (have hz0 := (Wk_mb0 hW (by rw [c_4]; decide)).2
               by_cases hin : inr a 4 = true
               · rw [if_pos hin, hz0 _ (tn_i (n := 4) hin (by decide)).2]
               · rw [if_neg hin]), _, rfl, hsame⟩
    · refine a_iload_n dX8_job_11 rfl ?_
      refine a_iconst (v := 3) dX8_job_12 (by decide) ?_
      refine a_icmp_le (tgt := 20) dX8_job_13 (by decide) (fun c_13 => ?_) (fun c_13 => ?_)
      · have hin := inr_of2 (n := 4) (m := 4) rfl c_8 c_13 (by decide) (by decide)
        obtain ⟨ea, ha4⟩ := tn_i (n := 4) hin (by decide)
        have hm : mb σ ≠ 0 := fun q => c_4 (by rw [hW.2.1, q]; rfl)
        refine a_aload_n dX8_job_20 rfl ?_
        refine c_getR (t := 7) (k := 24) dX8_job_21 kw_102 rfl ?_
        refine a_iload_n dX8_job_24 rfl ?_
        refine c_iald (i := tn a) dX8_job_25 ea (show tn a < 4 from ha4) ?_
        exact c_iret dX8_job_26 ⟨by
            first
              | (rw [if_pos hin]; exact congrArg (fun q => some (Value.int q)) (h.2.1.2 hm _ ha4).1)
              | (rw [inr_neg c_8]; rfl)
              | (rw [inr_of3 (n := 4) (m := 4) rfl c_13 (by decide) (by decide)]; rfl)
              | (have hz0 := (Wk_mb0 hW (by rw [c_4]; decide)).2
                 by_cases hin : inr a 4 = true
                 · rw [if_pos hin, hz0 _ (tn_i (n := 4) hin (by decide)).2]
                 · rw [if_neg hin]), _, rfl, hsame⟩
      · refine a_iconst (v := 0) dX8_job_16 (by decide) ?_
        refine a_goto (tgt := 26) dX8_job_17 (by decide) ?_
        exact c_iret dX8_job_26 ⟨by
            first
              | (rw [if_pos hin]; exact congrArg (fun q => some (Value.int q)) (h.2.1.2 hm _ ha4).1)
              | (rw [inr_neg c_8]; rfl)
              | (rw [inr_of3 (n := 4) (m := 4) rfl c_13 (by decide) (by decide)]; rfl)
              | (have hz0 := (Wk_mb0 hW (by rw [c_4]; decide)).2
                 by_cases hin : inr a 4 = true
                 · rw [if_pos hin, hz0 _ (tn_i (n := 4) hin (by decide)).2]
                 · rw [if_neg hin]), _, rfl, hsame⟩
def fileV (σ : Sg) (wh p : Int32) : Int32 := if inr p 6 = true then (if wh = -1 then σ 8 0 (tn p) else if wh = -2 then (if σ 0 0 1 ≤ 0 then 0 else σ 9 0 (tn p)) else if inr wh (σ 5 0 4) = true then σ 15 (tn wh) (tn p) else 0) else 0
theorem fv_neg {σ : Sg} {wh p : Int32} (h : inr p 6 = false) : fileV σ wh p = 0 := by
  unfold fileV
  rw [if_neg (by rw [h]; decide)]
theorem fv_out {σ : Sg} {wh p : Int32} (h1 : wh ≠ -1) (h2 : wh ≠ -2) (h : inr wh (σ 5 0 4) = false) : fileV σ wh p = 0 := by
  unfold fileV
  by_cases hp : inr p 6 = true
  · rw [if_pos hp, if_neg h1, if_neg h2, if_neg (by rw [h]; decide)]
  · rw [if_neg hp]
theorem wh_lt {wh : Int32} (h : wh < -2) : wh ≠ -1 ∧ wh ≠ -2 ∧ wh < 0 := by
  refine ⟨?_, ?_, Int32.lt_trans h (by decide)⟩
  · rintro rfl
    exact absurd h (by decide)
  · rintro rfl
    exact absurd h (by decide)
theorem wh_ge {wh : Int32} {n : Nat} (hn : n ≤ 600) (h : nI n ≤ wh) : wh ≠ -1 ∧ wh ≠ -2 ∧ inr wh (nI n) = false := by
  have h0 : 0 ≤ wh := Int32.le_trans (nI_pos' (by omega)) h
  refine ⟨?_, ?_, ?_⟩
  · rintro rfl
    exact absurd h0 (by decide)
  · rintro rfl
    exact absurd h0 (by decide)
  · unfold inr
    rw [decide_eq_true h]
    simp
theorem wh_m2 {wh : Int32} (h1 : ¬ wh < -2) (h2 : wh < 0) (h3 : ¬ wh = -1) : wh = -2 := by
  rw [Int32.lt_iff_toInt_lt] at h1 h2
  have a1 : (-2 : Int32).toInt = -2 := rfl
  have a0 : (0 : Int32).toInt = 0 := rfl
  have h4 : wh.toInt ≠ -1 := fun q => h3 (Int32.toInt_inj.mp q)
  apply Int32.toInt_inj.mp
  omega
theorem inr_le {a : Int32} (h1 : ¬ a < 0) (h2 : ¬ 5 < a) : inr a 6 = true := inr_of2 (n := 6) (m := 6) rfl h1 (Int32.not_lt.mp h2) (by decide) (by decide)
theorem inr_gt {a : Int32} (h2 : 5 < a) : inr a 6 = false := inr_of3 (n := 6) (m := 6) rfl (fun q => absurd h2 (Int32.not_lt.mpr q)) (by decide) (by decide)
set_option maxRecDepth 10000 in
theorem L_X8_file38 {l : Launch} {w : WW} {M : Mem} {ρ : Sg} {z : Nat → Int32} {E : List Ent} {F : Nat} (hz : Zv z) (hR : RefI z E F ρ) (hE : okE z E) (hl : E.length ≤ 500) {a b : Int32} (hp : inr b 6 = true) (h1 : ¬ a < -2) (h2 : ¬ (runE z E) 5 0 4 ≤ a) (h3 : ¬ a = -2 ∨ ¬ (runE z E) 0 0 1 = 0) : A l w yX8_file cX8_file 3 (some .int) (rmd 3) (RY w M (fileV (runE z E) a b) (fun ρ' => RefI z E F ρ' ∧ C3 ρ ρ')) 38 [some (.ref (ad w 2 7 0)), some (.int a), some (.int b)] [] (zx w M 2 ρ) 0 0 := by
  have hG := Gk_all hz hE (by omega)
  obtain ⟨h, hL, hZ⟩ := id hR
  obtain ⟨⟨qs, ps, hW⟩, hx, hD⟩ := id hG
  have hC : Cn (runE z E) := hW.1.1
  obtain ⟨σ, eσ⟩ : ∃ σ, runE z E = σ := ⟨_, rfl⟩
  rw [eσ] at h hG hW hx hD hC h2 h3 ⊢
  obtain ⟨eb, hb6⟩ := tn_i (n := 6) hp (by decide)
  obtain ⟨T, hT, hT2⟩ : ∃ T, Mg σ (mb σ) 0 (σ 8 0) T ∧ (mb σ ≠ 0 → T = σ 9 0) := by
    by_cases hm : mb σ = 0
    · exact ⟨σ 8 0, by rw [hm]; exact fun p _ => rfl, fun q => absurd hm q⟩
    · exact ⟨σ 9 0, (hx.2.2.2 hm).1, fun _ => rfl⟩
  have hmq : mb σ ≤ qn σ := by
    by_cases hm : mb σ = 0
    · omega
    · exact (Wk_J hW hm).2.2.2.2.2.2.1
  have hsame : RefI z E F (sga ρ 34 0 T) ∧ C3 ρ (sga ρ 34 0 T) := ⟨⟨by rw [eσ]; exact Sm_self (Sm_tree h T), hL, hZ⟩, rfl, rfl, rfl⟩
  refine a_aload_n dX8_file_38 rfl ?_
  refine c_V0V dX8_file_39 kw_441 kv_X8_batchTree (s_X8_batchTree h.1 (h.2.1.1.trans hW.2.1) (QP_ok hW.1) hmq hT) ?_
  refine a_iload_n dX8_file_42 rfl ?_
  refine a_if_lt (tgt := 60) dX8_file_43 (by decide) (fun c_43 => ?_) (fun c_43 => ?_)
  · refine a_iload_n dX8_file_60 rfl ?_
    refine a_iconst (v := (-1)) dX8_file_61 (by decide) ?_
    refine a_icmp_ne (tgt := 74) dX8_file_62 (by decide) (fun c_62 => ?_) (fun c_62 => ?_)
    · refine a_aload_n dX8_file_74 rfl ?_
      refine c_getR (t := 7) (k := 28) dX8_file_75 kw_106 rfl ?_
      refine a_iload_n dX8_file_78 rfl ?_
      refine c_iald (i := tn b) dX8_file_79 eb (show tn b < 6 from hb6) ?_
      exact c_iret dX8_file_80 ⟨by
          unfold fileV
          rw [if_pos hp]
          first
            | (rw [if_neg hne.1, if_neg hne.2, if_pos (by rw [hC.1]; exact hin)]
               exact congrArg (fun q => some (Value.int q)) ((h.1.2.1.2 _ han).2.1 _ hb6))
            | (rw [if_pos c_62]
               exact congrArg (fun q => some (Value.int q)) (h.1.1.1 _ hb6))
            | (have e2 := wh_m2 h1 c_43 c_62
               have hm0 : ¬ σ 0 0 1 = 0 := h3.resolve_left (fun q => q e2)
               have hm : mb σ ≠ 0 := fun q => hm0 (by rw [hW.2.1, q]; rfl)
               rw [if_neg c_62, if_pos e2, if_neg (fun q => hm0 (Wk_mb0 hW q).1), sga_same, hT2 hm]), _, rfl, hsame⟩
    · refine a_aload_n dX8_file_65 rfl ?_
      refine c_getR (t := 7) (k := 10) dX8_file_66 kw_94 rfl ?_
      refine a_iload_n dX8_file_69 rfl ?_
      refine c_iald (i := tn b) dX8_file_70 eb (show tn b < 6 from hb6) ?_
      refine a_goto (tgt := 80) dX8_file_71 (by decide) ?_
      exact c_iret dX8_file_80 ⟨by
          unfold fileV
          rw [if_pos hp]
          first
            | (rw [if_neg hne.1, if_neg hne.2, if_pos (by rw [hC.1]; exact hin)]
               exact congrArg (fun q => some (Value.int q)) ((h.1.2.1.2 _ han).2.1 _ hb6))
            | (rw [if_pos c_62]
               exact congrArg (fun q => some (Value.int q)) (h.1.1.1 _ hb6))
            | (have e2 := wh_m2 h1 c_43 c_62
               have hm0 : ¬ σ 0 0 1 = 0 := h3.resolve_left (fun q => q e2)
               have hm : mb σ ≠ 0 := fun q => hm0 (by rw [hW.2.1, q]; rfl)
               rw [if_neg c_62, if_pos e2, if_neg (fun q => hm0 (Wk_mb0 hW q).1), sga_same, hT2 hm]), _, rfl, hsame⟩
  · have hin : inr a (nI (cn σ)) = true := by rw [← hC.1]; unfold inr; rw [decide_eq_false c_43, decide_eq_false h2]; rfl
    obtain ⟨ea, han⟩ := tn_i hin (by have := hC.2; omega)
    have hne : a ≠ -1 ∧ a ≠ -2 := by
      refine ⟨?_, ?_⟩
      · rintro rfl; exact c_43 (by decide)
      · rintro rfl; exact c_43 (by decide)
    refine a_aload_n dX8_file_46 rfl ?_
    refine c_getR (t := 7) (k := 15) dX8_file_47 kw_96 rfl ?_
    refine a_bipush (v := 6) dX8_file_50 (by decide) ?_
    refine a_iload_n dX8_file_52 rfl ?_
    refine a_imul dX8_file_53 ?_
    refine a_iload_n dX8_file_54 rfl ?_
    refine a_iadd dX8_file_55 ?_
    refine c_iald (i := 6 * tn a + tn b) dX8_file_56 (show (6 : Int32) * a + b = nI (6 * tn a + tn b) by rw [← nI_6, ← ea, ← eb]) (show 6 * tn a + tn b < 96 by have := hC.2; omega) ?_
    refine a_goto (tgt := 80) dX8_file_57 (by decide) ?_
    exact c_iret dX8_file_80 ⟨by
        unfold fileV
        rw [if_pos hp]
        first
          | (rw [if_neg hne.1, if_neg hne.2, if_pos (by rw [hC.1]; exact hin)]
             exact congrArg (fun q => some (Value.int q)) ((h.1.2.1.2 _ han).2.1 _ hb6))
          | (rw [if_pos c_62]
             exact congrArg (fun q => some (Value.int q)) (h.1.1.1 _ hb6))
          | (have e2 := wh_m2 h1 c_43 c_62
             have hm0 : ¬ σ 0 0 1 = 0 := h3.resolve_left (fun q => q e2)
             have hm : mb σ ≠ 0 := fun q => hm0 (by rw [hW.2.1, q]; rfl)
             rw [if_neg c_62, if_pos e2, if_neg (fun q => hm0 (Wk_mb0 hW q).1), sga_same, hT2 hm]), _, rfl, hsame⟩
set_option maxRecDepth 10000 in
theorem s_X8_file {l : Launch} {w : WW} {M : Mem} {ρ : Sg} {z : Nat → Int32} {E : List Ent} {F : Nat} (hz : Zv z) (hR : RefI z E F ρ) (hE : okE z E) (hl : E.length ≤ 500) {a b : Int32} : Can l w yX8_file cX8_file 3 (some .int) (rmd 3) [.ref (ad w 2 7 0), .int a, .int b] (zx w M 2 ρ) (RY w M (fileV (runE z E) a b) (fun ρ' => RefI z E F ρ' ∧ C3 ρ ρ')) := by
  refine Can.go (ls := [some (.ref (ad w 2 7 0)), some (.int a), some (.int b)]) ?_
  have hG := Gk_all hz hE (by omega)
  obtain ⟨h, hL, hZ⟩ := id hR
  obtain ⟨⟨qs, ps, hW⟩, hx, hD⟩ := id hG
  have hC : Cn (runE z E) := hW.1.1
  obtain ⟨σ, eσ⟩ : ∃ σ, runE z E = σ := ⟨_, rfl⟩
  rw [eσ] at h hG hW hx hD hC ⊢
  have hsame : RefI z E F ρ ∧ C3 ρ ρ := ⟨hR, rfl, rfl, rfl⟩
  refine a_iload_n dX8_file_0 rfl ?_
  refine a_if_lt (tgt := 36) dX8_file_1 (by decide) (fun c_1 => ?_) (fun c_1 => ?_)
  · refine a_iconst (v := 0) dX8_file_36 (by decide) ?_
    exact c_iret dX8_file_37 ⟨by
        first
          | rw [fv_neg (inr_neg c_1)]
          | rw [fv_neg (inr_gt c_6)]
          | rw [fv_out (wh_lt c_12).1 (wh_lt c_12).2.1 (inr_neg (wh_lt c_12).2.2)]
          | (rw [hC.1] at c_20
             have q := wh_ge (by have := hC.2; omega) c_20
             rw [fv_out q.1 q.2.1 (by rw [hC.1]; exact q.2.2)])
          | (unfold fileV
             by_cases hp : inr b 6 = true
             · rw [if_pos hp, if_neg (by rw [c_26]; decide), if_pos c_26, if_pos (by rw [c_33]; decide)]
             · rw [if_neg hp]), _, rfl, hsame⟩
  · refine a_iload_n dX8_file_4 rfl ?_
    refine a_iconst (v := 5) dX8_file_5 (by decide) ?_
    refine a_icmp_gt (tgt := 36) dX8_file_6 (by decide) (fun c_6 => ?_) (fun c_6 => ?_)
    · refine a_iconst (v := 0) dX8_file_36 (by decide) ?_
      exact c_iret dX8_file_37 ⟨by
          first
            | rw [fv_neg (inr_neg c_1)]
            | rw [fv_neg (inr_gt c_6)]
            | rw [fv_out (wh_lt c_12).1 (wh_lt c_12).2.1 (inr_neg (wh_lt c_12).2.2)]
            | (rw [hC.1] at c_20
               have q := wh_ge (by have := hC.2; omega) c_20
               rw [fv_out q.1 q.2.1 (by rw [hC.1]; exact q.2.2)])
            | (unfold fileV
               by_cases hp : inr b 6 = true
               · rw [if_pos hp, if_neg (by rw [c_26]; decide), if_pos c_26, if_pos (by rw [c_33]; decide)]
               · rw [if_neg hp]), _, rfl, hsame⟩
    · refine a_iload_n dX8_file_9 rfl ?_
      refine a_bipush (v := (-2)) dX8_file_10 (by decide) ?_
      refine a_icmp_lt (tgt := 36) dX8_file_12 (by decide) (fun c_12 => ?_) (fun c_12 => ?_)
      · refine a_iconst (v := 0) dX8_file_36 (by decide) ?_
        exact c_iret dX8_file_37 ⟨by
            first
              | rw [fv_neg (inr_neg c_1)]
              | rw [fv_neg (inr_gt c_6)]
              | rw [fv_out (wh_lt c_12).1 (wh_lt c_12).2.1 (inr_neg (wh_lt c_12).2.2)]
              | (rw [hC.1] at c_20
                 have q := wh_ge (by have := hC.2; omega) c_20
                 rw [fv_out q.1 q.2.1 (by rw [hC.1]; exact q.2.2)])
              | (unfold fileV
                 by_cases hp : inr b 6 = true
                 · rw [if_pos hp, if_neg (by rw [c_26]; decide), if_pos c_26, if_pos (by rw [c_33]; decide)]
                 · rw [if_neg hp]), _, rfl, hsame⟩
      · refine a_iload_n dX8_file_15 rfl ?_
        refine a_aload_n dX8_file_16 rfl ?_
        refine c_getI (t := 7) (k := 13) dX8_file_17 kw_122 ?_
        rw [h.1.2.1.1]
        refine a_icmp_ge (tgt := 36) dX8_file_20 (by decide) (fun c_20 => ?_) (fun c_20 => ?_)
        · refine a_iconst (v := 0) dX8_file_36 (by decide) ?_
          exact c_iret dX8_file_37 ⟨by
              first
                | rw [fv_neg (inr_neg c_1)]
                | rw [fv_neg (inr_gt c_6)]
                | rw [fv_out (wh_lt c_12).1 (wh_lt c_12).2.1 (inr_neg (wh_lt c_12).2.2)]
                | (rw [hC.1] at c_20
                   have q := wh_ge (by have := hC.2; omega) c_20
                   rw [fv_out q.1 q.2.1 (by rw [hC.1]; exact q.2.2)])
                | (unfold fileV
                   by_cases hp : inr b 6 = true
                   · rw [if_pos hp, if_neg (by rw [c_26]; decide), if_pos c_26, if_pos (by rw [c_33]; decide)]
                   · rw [if_neg hp]), _, rfl, hsame⟩
        · refine a_iload_n dX8_file_23 rfl ?_
          refine a_bipush (v := (-2)) dX8_file_24 (by decide) ?_
          refine a_icmp_ne (tgt := 38) dX8_file_26 (by decide) (fun c_26 => ?_) (fun c_26 => ?_)
          · rw [← eσ]
            exact L_X8_file38 hz hR hE hl (inr_le c_1 c_6) c_12 (by rw [eσ]; exact c_20) (by rw [eσ]; first | exact Or.inl c_26 | exact Or.inr c_33)
          · refine a_aload_n dX8_file_29 rfl ?_
            refine c_getI (t := 7) (k := 23) dX8_file_30 kw_125 ?_
            rw [h.2.1.1]
            refine a_if_ne (tgt := 38) dX8_file_33 (by decide) (fun c_33 => ?_) (fun c_33 => ?_)
            · rw [← eσ]
              exact L_X8_file38 hz hR hE hl (inr_le c_1 c_6) c_12 (by rw [eσ]; exact c_20) (by rw [eσ]; first | exact Or.inl c_26 | exact Or.inr c_33)
            · refine a_iconst (v := 0) dX8_file_36 (by decide) ?_
              exact c_iret dX8_file_37 ⟨by
                  first
                    | rw [fv_neg (inr_neg c_1)]
                    | rw [fv_neg (inr_gt c_6)]
                    | rw [fv_out (wh_lt c_12).1 (wh_lt c_12).2.1 (inr_neg (wh_lt c_12).2.2)]
                    | (rw [hC.1] at c_20
                       have q := wh_ge (by have := hC.2; omega) c_20
                       rw [fv_out q.1 q.2.1 (by rw [hC.1]; exact q.2.2)])
                    | (unfold fileV
                       by_cases hp : inr b 6 = true
                       · rw [if_pos hp, if_neg (by rw [c_26]; decide), if_pos c_26, if_pos (by rw [c_33]; decide)]
                       · rw [if_neg hp]), _, rfl, hsame⟩
