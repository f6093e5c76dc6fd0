set_option maxRecDepth 10000 in
theorem L_X8_ck {l : Launch} {w : WW} {Φ : Option Value → XX → Prop} {M : Mem} {ρ : Sg} {p : Int32} {js : Nat → Int32} (hp : ρ 34 0 0 = p) (hjs : ∀ j, j < 4 → ρ 30 0 j = js j) {j : Nat} {v1 : Option Value} : ∀ (n : Nat) {k : Nat} {g : Bool}, k + n = 4 → A l w yX8_doClaim cX8_doClaim 5 (some .int) (rmd 3) Φ 100 [some (.ref (ad w 2 7 0)), v1, some (.int (nI j)), some (.int (bi (ckR p js j n k g))), some (.int (nI 4))] [] (zx w M 2 ρ) 0 0 → A l w yX8_doClaim cX8_doClaim 5 (some .int) (rmd 3) Φ 57 [some (.ref (ad w 2 7 0)), v1, some (.int (nI j)), some (.int (bi g)), some (.int (nI k))] [] (zx w M 2 ρ) 0 0 := by
  intro n
  induction n with
  | zero =>
    intro k g hk kk
    refine a_iload dX8_doClaim_57 rfl ?_
    refine a_iconst (v := 4) dX8_doClaim_59 (by decide) ?_
    refine a_icmp_ge (tgt := 100) dX8_doClaim_60 (by decide) (fun c_60 => ?_) (fun c_60 => absurd (by have e6 : k = 4 := (by omega); subst e6; decide) c_60)
    obtain rfl : k = 4 := by omega
    exact kk
  | succ n ih =>
    intro k g hk kk
    refine a_iload dX8_doClaim_57 rfl ?_
    refine a_iconst (v := 4) dX8_doClaim_59 (by decide) ?_
    refine a_icmp_ge (tgt := 100) dX8_doClaim_60 (by decide) (fun c_60 => absurd c_60 (nI_ge (b := 4) (by omega) (by omega))) (fun c_60 => ?_)
    refine a_iload_n dX8_doClaim_63 rfl ?_
    refine a_if_eq (tgt := 92) dX8_doClaim_64 (by decide) (fun c_64 => ?_) (fun c_64 => ?_)
    · refine a_iconst (v := 0) dX8_doClaim_92 (by decide) ?_
      refine a_istore_3 dX8_doClaim_93 (by decide) ?_
      refine a_iinc_4 (u := nI (k + 1)) dX8_doClaim_94 (inc_nI k) (by decide) ?_
      refine a_goto (tgt := 57) dX8_doClaim_97 (by decide) ?_
      rw [ckR] at kk
      first
        | (rw [bi_0.mp c_64, Bool.false_and] at kk; exact ih (g := false) (by omega) kk)
        | (rw [bi_n0.mp c_64, bi_0.mp c_74] at kk; exact ih (g := true) (by omega) kk)
        | (rw [bi_n0.mp c_64, bi_n0.mp c_74, decide_eq_true c_85] at kk; exact ih (g := true) (by omega) kk)
        | (rw [bi_n0.mp c_64, bi_n0.mp c_74, decide_eq_false c_85] at kk; exact ih (g := false) (by omega) kk)
    · refine a_aload_n dX8_doClaim_67 rfl ?_
      refine a_iload_n dX8_doClaim_68 rfl ?_
      refine a_iload dX8_doClaim_69 rfl ?_
      refine c_V2I dX8_doClaim_71 kw_445 kv_X8_needs (s_X8_needs hp) ?_
      refine a_if_eq (tgt := 88) dX8_doClaim_74 (by decide) (fun c_74 => ?_) (fun c_74 => ?_)
      · refine a_iconst (v := 1) dX8_doClaim_88 (by decide) ?_
        refine a_goto (tgt := 93) dX8_doClaim_89 (by decide) ?_
        refine a_istore_3 dX8_doClaim_93 (by decide) ?_
        refine a_iinc_4 (u := nI (k + 1)) dX8_doClaim_94 (inc_nI k) (by decide) ?_
        refine a_goto (tgt := 57) dX8_doClaim_97 (by decide) ?_
        rw [ckR] at kk
        first
          | (rw [bi_0.mp c_64, Bool.false_and] at kk; exact ih (g := false) (by omega) kk)
          | (rw [bi_n0.mp c_64, bi_0.mp c_74] at kk; exact ih (g := true) (by omega) kk)
          | (rw [bi_n0.mp c_64, bi_n0.mp c_74, decide_eq_true c_85] at kk; exact ih (g := true) (by omega) kk)
          | (rw [bi_n0.mp c_64, bi_n0.mp c_74, decide_eq_false c_85] at kk; exact ih (g := false) (by omega) kk)
      · refine a_aload_n dX8_doClaim_77 rfl ?_
        refine c_getR (t := 7) (k := 24) dX8_doClaim_78 kw_102 rfl ?_
        refine a_iload dX8_doClaim_81 rfl ?_
        refine c_iald (i := k) dX8_doClaim_83 rfl (show k < 4 by omega) ?_
        refine a_iconst (v := 2) dX8_doClaim_84 (by decide) ?_
        rw [hjs k (by omega)]
        refine a_icmp_ne (tgt := 92) dX8_doClaim_85 (by decide) (fun c_85 => ?_) (fun c_85 => ?_)
        · refine a_iconst (v := 0) dX8_doClaim_92 (by decide) ?_
          refine a_istore_3 dX8_doClaim_93 (by decide) ?_
          refine a_iinc_4 (u := nI (k + 1)) dX8_doClaim_94 (inc_nI k) (by decide) ?_
          refine a_goto (tgt := 57) dX8_doClaim_97 (by decide) ?_
          rw [ckR] at kk
          first
            | (rw [bi_0.mp c_64, Bool.false_and] at kk; exact ih (g := false) (by omega) kk)
            | (rw [bi_n0.mp c_64, bi_0.mp c_74] at kk; exact ih (g := true) (by omega) kk)
            | (rw [bi_n0.mp c_64, bi_n0.mp c_74, decide_eq_true c_85] at kk; exact ih (g := true) (by omega) kk)
            | (rw [bi_n0.mp c_64, bi_n0.mp c_74, decide_eq_false c_85] at kk; exact ih (g := false) (by omega) kk)
        · refine a_iconst (v := 1) dX8_doClaim_88 (by decide) ?_
          refine a_goto (tgt := 93) dX8_doClaim_89 (by decide) ?_
          refine a_istore_3 dX8_doClaim_93 (by decide) ?_
          refine a_iinc_4 (u := nI (k + 1)) dX8_doClaim_94 (inc_nI k) (by decide) ?_
          refine a_goto (tgt := 57) dX8_doClaim_97 (by decide) ?_
          rw [ckR] at kk
          first
            | (rw [bi_0.mp c_64, Bool.false_and] at kk; exact ih (g := false) (by omega) kk)
            | (rw [bi_n0.mp c_64, bi_0.mp c_74] at kk; exact ih (g := true) (by omega) kk)
            | (rw [bi_n0.mp c_64, bi_n0.mp c_74, decide_eq_true c_85] at kk; exact ih (g := true) (by omega) kk)
            | (rw [bi_n0.mp c_64, bi_n0.mp c_74, decide_eq_false c_85] at kk; exact ih (g := false) (by omega) kk)
set_option maxRecDepth 10000 in
theorem L_X8_dc38 {l : Launch} {w : WW} {Φ : Option Value → XX → Prop} {M : Mem} {ρ : Sg} {p : Int32} {js : Nat → Int32} (hp : ρ 34 0 0 = p) (hjs : ∀ j, j < 4 → ρ 30 0 j = js j) {j : Nat} (hj : j < 4) {v1 v3 v4 : Option Value} (kk : A l w yX8_doClaim cX8_doClaim 5 (some .int) (rmd 3) Φ 100 [some (.ref (ad w 2 7 0)), v1, some (.int (nI j)), some (.int (bi (ckR p js j 4 0 (decide (js j = 1))))), some (.int (nI 4))] [] (zx w M 2 ρ) 0 0) : A l w yX8_doClaim cX8_doClaim 5 (some .int) (rmd 3) Φ 38 [some (.ref (ad w 2 7 0)), v1, some (.int (nI j)), v3, v4] [] (zx w M 2 ρ) 0 0 := by
  refine a_aload_n dX8_doClaim_38 rfl ?_
  refine c_getR (t := 7) (k := 24) dX8_doClaim_39 kw_102 rfl ?_
  refine a_iload_n dX8_doClaim_42 rfl ?_
  refine c_iald (i := j) dX8_doClaim_43 rfl (show j < 4 by omega) ?_
  refine a_iconst (v := 1) dX8_doClaim_44 (by decide) ?_
  rw [hjs j hj]
  refine a_icmp_ne (tgt := 52) dX8_doClaim_45 (by decide) (fun c_45 => ?_) (fun c_45 => ?_)
  · refine a_iconst (v := 0) dX8_doClaim_52 (by decide) ?_
    refine a_istore_3 dX8_doClaim_53 (by decide) ?_
    refine a_iconst (v := 0) dX8_doClaim_54 (by decide) ?_
    refine a_istore_4 dX8_doClaim_55 (by decide) ?_
    have h9 := L_X8_ck (g := decide (js j = 1)) hp hjs 4 (k := 0) rfl kk
    first
      | (rw [decide_eq_false c_45] at h9; exact h9)
      | (rw [decide_eq_true c_45] at h9; exact h9)
  · refine a_iconst (v := 1) dX8_doClaim_48 (by decide) ?_
    refine a_goto (tgt := 53) dX8_doClaim_49 (by decide) ?_
    refine a_istore_3 dX8_doClaim_53 (by decide) ?_
    refine a_iconst (v := 0) dX8_doClaim_54 (by decide) ?_
    refine a_istore_4 dX8_doClaim_55 (by decide) ?_
    have h9 := L_X8_ck (g := decide (js j = 1)) hp hjs 4 (k := 0) rfl kk
    first
      | (rw [decide_eq_false c_45] at h9; exact h9)
      | (rw [decide_eq_true c_45] at h9; exact h9)
set_option maxRecDepth 10000 in
theorem L_X8_dc {l : Launch} {w : WW} {Φ : Option Value → XX → Prop} {M : Mem} {ρ : Sg} {p : Int32} {js : Nat → Int32} (hp : ρ 34 0 0 = p) (hjs : ∀ j, j < 4 → ρ 30 0 j = js j) (hno : ∀ j, j < 4 → tb p (nI j) = false → ¬ js j = 1) {v1 : Option Value} : ∀ (n : Nat) {j : Nat} {v3 v4 : Option Value}, j + n = 4 → (fhit (njC p js) n j = -1 → Φ (some (.int (-1))) (zx w M 2 ρ)) → (∀ i u3 u4, i < 4 → fhit (njC p js) n j = nI i → A l w yX8_doClaim cX8_doClaim 5 (some .int) (rmd 3) Φ 104 [some (.ref (ad w 2 7 0)), v1, some (.int (nI i)), u3, u4] [] (zx w M 2 ρ) 0 0) → A l w yX8_doClaim cX8_doClaim 5 (some .int) (rmd 3) Φ 33 [some (.ref (ad w 2 7 0)), v1, some (.int (nI j)), v3, v4] [] (zx w M 2 ρ) 0 0 := by
  intro n
  induction n with
  | zero =>
    intro j v3 v4 hj k1 k2
    refine a_iload_n dX8_doClaim_33 rfl ?_
    refine a_iconst (v := 4) dX8_doClaim_34 (by decide) ?_
    refine a_icmp_ge (tgt := 158) dX8_doClaim_35 (by decide) (fun c_35 => ?_) (fun c_35 => absurd (by have e6 : j = 4 := (by omega); subst e6; decide) c_35)
    refine a_iconst (v := (-1)) dX8_doClaim_158 (by decide) ?_
    exact c_iret dX8_doClaim_159 (k1 rfl)
  | succ n ih =>
    intro j v3 v4 hj k1 k2
    refine a_iload_n dX8_doClaim_33 rfl ?_
    refine a_iconst (v := 4) dX8_doClaim_34 (by decide) ?_
    refine a_icmp_ge (tgt := 158) dX8_doClaim_35 (by decide) (fun c_35 => absurd c_35 (nI_ge (b := 4) (by omega) (by omega))) (fun c_35 => ?_)
    refine L_X8_dc38 hp hjs (by omega) ?_
    rw [ck_is (by omega) (hno j (by omega))]
    refine a_iload_n dX8_doClaim_100 rfl ?_
    refine a_if_eq (tgt := 152) dX8_doClaim_101 (by decide) (fun c_101 => ?_) (fun c_101 => ?_)
    · refine a_iinc_2 (u := nI (j + 1)) dX8_doClaim_152 (inc_nI j) (by decide) ?_
      refine a_goto (tgt := 33) dX8_doClaim_155 (by decide) ?_
      have hf := bi_0.mp c_101
      rw [fhit, if_neg (by rw [hf]; decide)] at k1 k2
      exact ih (by omega) k1 k2
    · exact k2 j _ _ (by omega) (by rw [fhit, if_pos (bi_n0.mp c_101)])
theorem next_0 {σ : Sg} (h : ∀ j, j < 4 → σ 10 0 j = 0) : nextJ σ = -1 := by
  unfold nextJ
  rcases @fhit_in (njC (σ 9 0 0) (σ 10 0)) 4 0 with q | ⟨i, -, h2, -, h4⟩
  · exact q
  · unfold njC at h4
    rw [h i (by omega)] at h4
    exact absurd h4 (by simp)
theorem Sm_lease {ρ0 σ ρ : Sg} {j v : Nat} {e : Int32} (h : Sm ρ0 σ ρ) (hm : mb σ ≠ 0) (hj : j < 4) (hv : v < 4) (hl : ρ 32 0 v = -1) (hj1 : σ 10 0 j = 1) : Sm ρ0 (leaseB σ j v e) (sg (sg (sg (sg ρ 30 0 j (10 + nI v)) 31 0 j (σ 11 0 j + 1)) 32 0 v (nI j)) 33 0 v e) := by
  have hno : ∀ i, i < 4 → σ 10 0 i ≠ 10 + nI v := by
    rcases (h.2.2 v hv).1 with q | ⟨i, hi, q, -⟩
    · exact q.2
    · rw [hl] at q
      exact absurd q.symm (nI_m1 hi)
  have t10 : ∀ i, (leaseB σ j v e) 10 0 i = if i = j then 10 + nI v else σ 10 0 i := fun i => by
    show (sg σ 10 0 j (10 + nI v)) 10 0 i = _
    by_cases q : i = j
    · subst q; rw [sg_same, if_pos rfl]
    · rw [sg_k q, if_neg q]
  refine ⟨⟨S1_of h.1.1, S2_of h.1.2.1, S3_of h.1.2.2.1, S4_of h.1.2.2.2.1, Kp_of h.1.2.2.2.2⟩, ⟨h.2.1.1, fun _ i hi => ?_⟩, fun u hu => ?_⟩
  · obtain ⟨q1, q2⟩ := h.2.1.2 hm i hi
    refine ⟨?_, ?_⟩
    · show (sg ρ 30 0 j (10 + nI v)) 30 0 i = (sg σ 10 0 j (10 + nI v)) 10 0 i
      by_cases q : i = j
      · subst q; rw [sg_same, sg_same]
      · rw [sg_k q, sg_k q]; exact q1
    · show (sg _ 31 0 j (σ 11 0 j + 1)) 31 0 i = (sg _ 11 0 j (σ 11 0 j + 1)) 11 0 i
      by_cases q : i = j
      · subst q; rw [sg_same, sg_same]
      · rw [sg_k q, sg_k q]; exact q2
  · obtain ⟨q1, q2⟩ := h.2.2 u hu
    have e32 : (sg (sg (sg (sg ρ 30 0 j (10 + nI v)) 31 0 j (σ 11 0 j + 1)) 32 0 v (nI j)) 33 0 v e) 32 0 u = if u = v then nI j else ρ 32 0 u := by
      show (sg _ 32 0 v (nI j)) 32 0 u = _
      by_cases q : u = v
      · subst q; rw [sg_same, if_pos rfl]
      · rw [sg_k q, if_neg q]; rfl
    have e33 : (sg (sg (sg (sg ρ 30 0 j (10 + nI v)) 31 0 j (σ 11 0 j + 1)) 32 0 v (nI j)) 33 0 v e) 33 0 u = if u = v then e else ρ 33 0 u := by
      by_cases q : u = v
      · subst q; rw [sg_same, if_pos rfl]
      · rw [sg_k q, if_neg q]; rfl
    have e12 : (leaseB σ j v e) 12 0 u = if u = v then e else σ 12 0 u := by
      unfold leaseB
      by_cases q : u = v
      · subst q; rw [sg_same, if_pos rfl]
      · rw [sg_k q, if_neg q]; rfl
    rw [e32, e33, e12]
    by_cases q : u = v
    · subst q
      rw [if_pos rfl, if_pos rfl, if_pos rfl]
      exact ⟨Or.inr ⟨j, hj, rfl, by rw [t10, if_pos rfl]⟩, fun _ => rfl⟩
    · rw [if_neg q, if_neg q, if_neg q]
      refine ⟨?_, q2⟩
      rcases q1 with ⟨x1, x2⟩ | ⟨i, hi, x1, x2⟩
      · refine Or.inl ⟨x1, fun i hi y => ?_⟩
        rw [t10] at y
        by_cases ei : i = j
        · rw [if_pos ei] at y
          exact q (lease_inj hu hv y)
        · rw [if_neg ei] at y
          exact x2 i hi y
      · refine Or.inr ⟨i, hi, x1, ?_⟩
        rw [t10, if_neg]
        · exact x2
        · intro ei
          rw [ei, hj1] at x2
          exact NL_no (Or.inl rfl) hu x2
set_option maxRecDepth 10000 in
theorem L_X8_dc104 {l : Launch} {w : WW} {M : Mem} {ρ0 σ ρ : Sg} {a : Int32} {j ls : Nat} {u3 u4 : Option Value} (h : Sm ρ0 σ ρ) (hm : mb σ ≠ 0) (hls : ρ0 7 0 3 = nI ls) (hj : j < 4) (ea : a = nI (tn a)) (ha : tn a < 4) (hl : ρ 32 0 (tn a) = -1) (hn : nextJ σ = nI j) (hj1 : σ 10 0 j = 1) (hjt : jtl σ a = nextJ σ) : A l w yX8_doClaim cX8_doClaim 5 (some .int) (rmd 3) (RY w M (jtl σ a) (fun ρ' => Sm ρ0 (if jtl σ a = -1 then σ else leaseN (nI ls) σ (tn a)) ρ')) 104 [some (.ref (ad w 2 7 0)), some (.int a), some (.int (nI j)), u3, u4] [] (zx w M 2 ρ) 0 0 := by
  refine a_aload_n dX8_doClaim_104 rfl ?_
  refine c_getR (t := 7) (k := 24) dX8_doClaim_105 kw_102 rfl ?_
  refine a_iload_n dX8_doClaim_108 rfl ?_
  refine a_bipush (v := 10) dX8_doClaim_109 (by decide) ?_
  refine a_iload_n dX8_doClaim_111 rfl ?_
  refine a_iadd dX8_doClaim_112 ?_
  refine c_iast (i := j) dX8_doClaim_113 rfl (show j < 4 by omega) ?_
  refine a_aload_n dX8_doClaim_114 rfl ?_
  refine c_getR (t := 7) (k := 25) dX8_doClaim_115 kw_103 rfl ?_
  refine a_iload_n dX8_doClaim_118 rfl ?_
  refine a_aload_n dX8_doClaim_119 rfl ?_
  refine c_getR (t := 7) (k := 25) dX8_doClaim_120 kw_103 rfl ?_
  refine a_iload_n dX8_doClaim_123 rfl ?_
  refine c_iald (i := j) dX8_doClaim_124 rfl (show j < 4 by omega) ?_
  refine a_iconst (v := 1) dX8_doClaim_125 (by decide) ?_
  refine a_iadd dX8_doClaim_126 ?_
  refine c_iast (i := j) dX8_doClaim_127 rfl (show j < 4 by omega) ?_
  refine a_aload_n dX8_doClaim_128 rfl ?_
  refine c_getR (t := 7) (k := 26) dX8_doClaim_129 kw_104 rfl ?_
  refine a_iload_n dX8_doClaim_132 rfl ?_
  refine a_iload_n dX8_doClaim_133 rfl ?_
  refine c_iast (i := tn a) dX8_doClaim_134 ea (show tn a < 4 from ha) ?_
  refine a_aload_n dX8_doClaim_135 rfl ?_
  refine c_getR (t := 7) (k := 27) dX8_doClaim_136 kw_105 rfl ?_
  refine a_iload_n dX8_doClaim_139 rfl ?_
  refine a_aload_n dX8_doClaim_140 rfl ?_
  refine c_getI (t := 7) (k := 12) dX8_doClaim_141 kw_121 ?_
  refine a_aload_n dX8_doClaim_144 rfl ?_
  refine c_getI (t := 7) (k := 3) dX8_doClaim_145 kw_112 ?_
  refine a_iadd dX8_doClaim_148 ?_
  refine c_iast (i := tn a) dX8_doClaim_149 ea (show tn a < 4 from ha) ?_
  refine a_iload_n dX8_doClaim_150 rfl ?_
  exact c_iret dX8_doClaim_151 (by
      have hne : ¬ jtl σ a = -1 := by rw [hjt, hn]; exact nI_m1 hj
      refine ⟨by rw [hjt, hn], _, rfl, ?_⟩
      rw [if_neg hne]
      unfold leaseN
      rw [if_neg (by rw [hn]; exact nI_m1 hj), hn, tn_nI (by omega)]
      have h9 := Sm_lease (e := σ 5 0 8 + nI ls) h hm hj ha hl hj1
      rw [← ea, ← (h.2.1.2 hm j hj).2, ← h.1.1.2.2, ← hls, ← h.1.2.2.2.2.2.2.2.2.2.2.2.1] at h9
      rw [← h.1.1.2.2, ← hls, ← h.1.2.2.2.2.2.2.2.2.2.2.2.1]
      exact h9)
set_option maxRecDepth 10000 in
theorem s_X8_doClaim {l : Launch} {w : WW} {M : Mem} {ρ0 σ ρ : Sg} {B k : Nat} (h : Sm ρ0 σ ρ) (hG : Gk B k σ) {a : Int32} {ls : Nat} (hls : ρ0 7 0 3 = nI ls) : Can l w yX8_doClaim cX8_doClaim 5 (some .int) (rmd 3) [.ref (ad w 2 7 0), .int a] (zx w M 2 ρ) (RY w M (jtl σ a) (fun ρ' => Sm ρ0 (if jtl σ a = -1 then σ else leaseN (nI ls) σ (tn a)) ρ')) := by
  refine Can.go (ls := [some (.ref (ad w 2 7 0)), some (.int a), none, none, none]) ?_
  obtain ⟨⟨qs, ps, hW⟩, hx, hD⟩ := id hG
  refine a_aload_n dX8_doClaim_0 rfl ?_
  refine a_iload_n dX8_doClaim_1 rfl ?_
  refine c_V1I dX8_doClaim_2 kw_437 kv_X8_isWorker s_X8_isWorker ?_
  refine a_if_eq (tgt := 25) dX8_doClaim_5 (by decide) (fun c_5 => ?_) (fun c_5 => ?_)
  · refine a_iconst (v := (-1)) dX8_doClaim_25 (by decide) ?_
    exact c_iret dX8_doClaim_26 (by
        have hj : jtl σ a = -1 := by
          unfold jtl
          first
            | rw [bi_0.mp c_5, Bool.false_and, if_neg (by decide)]
            | rw [decide_eq_false c_15, Bool.and_false, if_neg (by decide)]
            | (rw [next_0 (Wk_mb0 hW (by rw [c_22]; decide)).2]; exact ite_self _)
        exact ⟨by rw [hj], _, rfl, by rw [if_pos hj]; exact h⟩)
  · have hi := bi_n0.mp c_5
    obtain ⟨ea, ha4⟩ := tn_i (n := 4) hi (by decide)
    have hh : ρ 32 0 (tn a) = leasedJ σ a := by
      have := held_is h.2.2 hx.2.2.1 (v := tn a) ha4
      rwa [← ea] at this
    refine a_aload_n dX8_doClaim_8 rfl ?_
    refine c_getR (t := 7) (k := 26) dX8_doClaim_9 kw_104 rfl ?_
    refine a_iload_n dX8_doClaim_12 rfl ?_
    refine c_iald (i := tn a) dX8_doClaim_13 ea (show tn a < 4 from ha4) ?_
    refine a_iconst (v := (-1)) dX8_doClaim_14 (by decide) ?_
    rw [hh]
    refine a_icmp_ne (tgt := 25) dX8_doClaim_15 (by decide) (fun c_15 => ?_) (fun c_15 => ?_)
    · refine a_iconst (v := (-1)) dX8_doClaim_25 (by decide) ?_
      exact c_iret dX8_doClaim_26 (by
          have hj : jtl σ a = -1 := by
            unfold jtl
            first
              | rw [bi_0.mp c_5, Bool.false_and, if_neg (by decide)]
              | rw [decide_eq_false c_15, Bool.and_false, if_neg (by decide)]
              | (rw [next_0 (Wk_mb0 hW (by rw [c_22]; decide)).2]; exact ite_self _)
          exact ⟨by rw [hj], _, rfl, by rw [if_pos hj]; exact h⟩)
    · refine a_aload_n dX8_doClaim_18 rfl ?_
      refine c_getI (t := 7) (k := 23) dX8_doClaim_19 kw_125 ?_
      rw [h.2.1.1]
      refine a_if_ne (tgt := 27) dX8_doClaim_22 (by decide) (fun c_22 => ?_) (fun c_22 => ?_)
      · have hm : mb σ ≠ 0 := fun q => c_22 (by rw [hW.2.1, q]; rfl)
        have hJ := Wk_J hW hm
        have hjt : jtl σ a = nextJ σ := by
          unfold jtl
          rw [hi, decide_eq_true c_15]
          exact if_pos rfl
        have h1 := Sm_tree h (σ 9 0)
        refine a_aload_n dX8_doClaim_27 rfl ?_
        refine c_V0V dX8_doClaim_28 kw_441 kv_X8_batchTree (s_X8_batchTree h.1 (h.2.1.1.trans hJ.2.2.2.1) hJ.1 hJ.2.2.2.2.2.2.1 (hx.2.2.2 hm).1) ?_
        refine a_iconst (v := 0) dX8_doClaim_31 (by decide) ?_
        refine a_istore_2 dX8_doClaim_32 (by decide) ?_
        refine L_X8_dc (p := σ 9 0 0) (js := σ 10 0) (by rw [sga_same]) (fun j hj => (h1.2.1.2 hm j hj).1) (fun j hj ht => by rw [(hx.2.2.2 hm).2 j hj ht]; decide) 4 (j := 0) rfl (fun q => ?_) (fun i u3 u4 hi4 q => ?_)
        · have hj : jtl σ a = -1 := hjt.trans q
          exact ⟨by rw [hj], _, rfl, by rw [if_pos hj]; exact h1⟩
        · have e3 := (fhit_tn (c := njC (σ 9 0 0) (σ 10 0)) (by rw [q]; exact nI_m1 hi4)).2.2
          rw [q, tn_nI (by omega)] at e3
          unfold njC at e3
          rw [Bool.and_eq_true, decide_eq_true_eq] at e3
          exact L_X8_dc104 h1 hm hls hi4 ea ha4 (hh.trans c_15) q e3.1 hjt
      · refine a_iconst (v := (-1)) dX8_doClaim_25 (by decide) ?_
        exact c_iret dX8_doClaim_26 (by
            have hj : jtl σ a = -1 := by
              unfold jtl
              first
                | rw [bi_0.mp c_5, Bool.false_and, if_neg (by decide)]
                | rw [decide_eq_false c_15, Bool.and_false, if_neg (by decide)]
                | (rw [next_0 (Wk_mb0 hW (by rw [c_22]; decide)).2]; exact ite_self _)
            exact ⟨by rw [hj], _, rfl, by rw [if_pos hj]; exact h⟩)
set_option maxRecDepth 10000 in
theorem s_rep_t {l : Launch} {w : WW} {M : Mem} {ρ0 σ ρ : Sg} {B k : Nat} (h : Sm ρ0 σ ρ) (hG : Gk B k σ) {a : Int32} : Can l w yX8_doReport cX8_doReport 4 (some .int) (rmd 6) [.ref (ad w 2 7 0), .int a, .int 1] (zx w M 2 ρ) (RY w M (if leasedJ σ a = -1 then -1 else 1) (fun ρ' => Sm ρ0 (if leasedJ σ a = -1 then σ else endJ σ (tn (leasedJ σ a)) 2) ρ')) := by
  refine Can.go (ls := [some (.ref (ad w 2 7 0)), some (.int a), some (.int 1), none]) ?_
  obtain ⟨⟨qs, ps, hW⟩, hx, hD⟩ := id hG
  refine a_aload_n dX8_doReport_0 rfl ?_
  refine a_iload_n dX8_doReport_1 rfl ?_
  refine c_V1I dX8_doReport_2 kw_437 kv_X8_isWorker s_X8_isWorker ?_
  refine a_if_eq (tgt := 18) dX8_doReport_5 (by decide) (fun c_5 => ?_) (fun c_5 => ?_)
  · refine a_iconst (v := (-1)) dX8_doReport_18 (by decide) ?_
    exact c_iret dX8_doReport_19 (by
        have hj : leasedJ σ a = -1 := by
          first
            | exact c_15
            | (unfold leasedJ
               rcases @fhit_in (ljC (σ 10 0) a) 4 0 with q | ⟨i, -, -, -, h4⟩
               · exact q
               · unfold ljC at h4
                 rw [bi_0.mp c_5, Bool.false_and] at h4
                 cases h4)
        exact ⟨by rw [if_pos hj], _, rfl, by rw [if_pos hj]; exact h⟩)
  · have hi := bi_n0.mp c_5
    obtain ⟨ea, ha4⟩ := tn_i (n := 4) hi (by decide)
    have hh : ρ 32 0 (tn a) = leasedJ σ a := by
      have := held_is h.2.2 hx.2.2.1 (v := tn a) ha4
      rwa [← ea] at this
    refine a_aload_n dX8_doReport_8 rfl ?_
    refine c_getR (t := 7) (k := 26) dX8_doReport_9 kw_104 rfl ?_
    refine a_iload_n dX8_doReport_12 rfl ?_
    refine c_iald (i := tn a) dX8_doReport_13 ea (show tn a < 4 from ha4) ?_
    refine a_iconst (v := (-1)) dX8_doReport_14 (by decide) ?_
    rw [hh]
    refine a_icmp_ne (tgt := 20) dX8_doReport_15 (by decide) (fun c_15 => ?_) (fun c_15 => ?_)
    · refine a_aload_n dX8_doReport_20 rfl ?_
      refine c_getR (t := 7) (k := 26) dX8_doReport_21 kw_104 rfl ?_
      refine a_iload_n dX8_doReport_24 rfl ?_
      refine c_iald (i := tn a) dX8_doReport_25 ea (show tn a < 4 from ha4) ?_
      obtain ⟨e1, e2, e3⟩ := leased_job (τ := σ) ha4 (by rw [← ea]; exact c_15)
      rw [← ea] at e1 e2 e3
      have hm : mb σ ≠ 0 := by
        have hJ := Lok_J ha4 (Wk_L hW) (by rw [← ea]; exact c_15)
        have := hJ.2.2.2.2.1
        omega
      have h0 : Sc ρ0 σ (sg ρ 32 0 (tn a) (-1)) := ⟨S1_of h.1.1, S2_of h.1.2.1, S3_of h.1.2.2.1, S4_of h.1.2.2.2.1, Kp_of h.1.2.2.2.2⟩
      have h5 : S5 σ (sg ρ 32 0 (tn a) (-1)) := S5_of h.2.1
      have h6 := S6x_of (tn a) h.2.2
      rw [hh, e1]
      refine a_istore_3 dX8_doReport_26 (by decide) ?_
      refine a_aload_n dX8_doReport_27 rfl ?_
      refine c_getR (t := 7) (k := 26) dX8_doReport_28 kw_104 rfl ?_
      refine a_iload_n dX8_doReport_31 rfl ?_
      refine a_iconst (v := (-1)) dX8_doReport_32 (by decide) ?_
      refine c_iast (i := tn a) dX8_doReport_33 ea (show tn a < 4 from ha4) ?_
      refine a_aload_n dX8_doReport_34 rfl ?_
      refine a_iload_n dX8_doReport_35 rfl ?_
      refine a_iload_n dX8_doReport_36 rfl ?_
      refine c_V2X dX8_doReport_37 kw_457 kv_X8_settle (s_settle_t (u := tn a) h0 h5 h6 hW hm hx e2 ha4 (by rw [← ea]; exact e3)) (fun ρ37 h_37 => ?_)
      refine a_iconst (v := 1) dX8_doReport_40 (by decide) ?_
      exact c_iret dX8_doReport_41 (by
          rw [← e1]
          exact ⟨by rw [if_neg c_15], _, rfl, by rw [if_neg c_15]; exact h_37⟩)
    · refine a_iconst (v := (-1)) dX8_doReport_18 (by decide) ?_
      exact c_iret dX8_doReport_19 (by
          have hj : leasedJ σ a = -1 := by
            first
              | exact c_15
              | (unfold leasedJ
                 rcases @fhit_in (ljC (σ 10 0) a) 4 0 with q | ⟨i, -, -, -, h4⟩
                 · exact q
                 · unfold ljC at h4
                   rw [bi_0.mp c_5, Bool.false_and] at h4
                   cases h4)
          exact ⟨by rw [if_pos hj], _, rfl, by rw [if_pos hj]; exact h⟩)
set_option maxRecDepth 10000 in
theorem s_rep_f {l : Launch} {w : WW} {M : Mem} {ρ0 σ ρ : Sg} {B k : Nat} (h : Sm ρ0 σ ρ) (hG : Gk B k σ) {a : Int32} : Can l w yX8_doReport cX8_doReport 4 (some .int) (rmd 6) [.ref (ad w 2 7 0), .int a, .int 0] (zx w M 2 ρ) (RY w M (if leasedJ σ a = -1 then -1 else 1) (fun ρ' => Sm ρ0 (if leasedJ σ a = -1 then σ else endJ σ (tn (leasedJ σ a)) 3) ρ')) := by
  refine Can.go (ls := [some (.ref (ad w 2 7 0)), some (.int a), some (.int 0), none]) ?_
  obtain ⟨⟨qs, ps, hW⟩, hx, hD⟩ := id hG
  refine a_aload_n dX8_doReport_0 rfl ?_
  refine a_iload_n dX8_doReport_1 rfl ?_
  refine c_V1I dX8_doReport_2 kw_437 kv_X8_isWorker s_X8_isWorker ?_
  refine a_if_eq (tgt := 18) dX8_doReport_5 (by decide) (fun c_5 => ?_) (fun c_5 => ?_)
  · refine a_iconst (v := (-1)) dX8_doReport_18 (by decide) ?_
    exact c_iret dX8_doReport_19 (by
        have hj : leasedJ σ a = -1 := by
          first
            | exact c_15
            | (unfold leasedJ
               rcases @fhit_in (ljC (σ 10 0) a) 4 0 with q | ⟨i, -, -, -, h4⟩
               · exact q
               · unfold ljC at h4
                 rw [bi_0.mp c_5, Bool.false_and] at h4
                 cases h4)
        exact ⟨by rw [if_pos hj], _, rfl, by rw [if_pos hj]; exact h⟩)
  · have hi := bi_n0.mp c_5
    obtain ⟨ea, ha4⟩ := tn_i (n := 4) hi (by decide)
    have hh : ρ 32 0 (tn a) = leasedJ σ a := by
      have := held_is h.2.2 hx.2.2.1 (v := tn a) ha4
      rwa [← ea] at this
    refine a_aload_n dX8_doReport_8 rfl ?_
    refine c_getR (t := 7) (k := 26) dX8_doReport_9 kw_104 rfl ?_
    refine a_iload_n dX8_doReport_12 rfl ?_
    refine c_iald (i := tn a) dX8_doReport_13 ea (show tn a < 4 from ha4) ?_
    refine a_iconst (v := (-1)) dX8_doReport_14 (by decide) ?_
    rw [hh]
    refine a_icmp_ne (tgt := 20) dX8_doReport_15 (by decide) (fun c_15 => ?_) (fun c_15 => ?_)
    · refine a_aload_n dX8_doReport_20 rfl ?_
      refine c_getR (t := 7) (k := 26) dX8_doReport_21 kw_104 rfl ?_
      refine a_iload_n dX8_doReport_24 rfl ?_
      refine c_iald (i := tn a) dX8_doReport_25 ea (show tn a < 4 from ha4) ?_
      obtain ⟨e1, e2, e3⟩ := leased_job (τ := σ) ha4 (by rw [← ea]; exact c_15)
      rw [← ea] at e1 e2 e3
      have hm : mb σ ≠ 0 := by
        have hJ := Lok_J ha4 (Wk_L hW) (by rw [← ea]; exact c_15)
        have := hJ.2.2.2.2.1
        omega
      have h0 : Sc ρ0 σ (sg ρ 32 0 (tn a) (-1)) := ⟨S1_of h.1.1, S2_of h.1.2.1, S3_of h.1.2.2.1, S4_of h.1.2.2.2.1, Kp_of h.1.2.2.2.2⟩
      have h5 : S5 σ (sg ρ 32 0 (tn a) (-1)) := S5_of h.2.1
      have h6 := S6x_of (tn a) h.2.2
      rw [hh, e1]
      refine a_istore_3 dX8_doReport_26 (by decide) ?_
      refine a_aload_n dX8_doReport_27 rfl ?_
      refine c_getR (t := 7) (k := 26) dX8_doReport_28 kw_104 rfl ?_
      refine a_iload_n dX8_doReport_31 rfl ?_
      refine a_iconst (v := (-1)) dX8_doReport_32 (by decide) ?_
      refine c_iast (i := tn a) dX8_doReport_33 ea (show tn a < 4 from ha4) ?_
      refine a_aload_n dX8_doReport_34 rfl ?_
      refine a_iload_n dX8_doReport_35 rfl ?_
      refine a_iload_n dX8_doReport_36 rfl ?_
      refine c_V2X dX8_doReport_37 kw_457 kv_X8_settle (s_settle_f (u := tn a) h0 h5 h6 hW hm hx e2 ha4 (by rw [← ea]; exact e3)) (fun ρ37 h_37 => ?_)
      refine a_iconst (v := 1) dX8_doReport_40 (by decide) ?_
      exact c_iret dX8_doReport_41 (by
          rw [← e1]
          exact ⟨by rw [if_neg c_15], _, rfl, by rw [if_neg c_15]; exact h_37⟩)
    · refine a_iconst (v := (-1)) dX8_doReport_18 (by decide) ?_
      exact c_iret dX8_doReport_19 (by
          have hj : leasedJ σ a = -1 := by
            first
              | exact c_15
              | (unfold leasedJ
                 rcases @fhit_in (ljC (σ 10 0) a) 4 0 with q | ⟨i, -, -, -, h4⟩
                 · exact q
                 · unfold ljC at h4
                   rw [bi_0.mp c_5, Bool.false_and] at h4
                   cases h4)
          exact ⟨by rw [if_pos hj], _, rfl, by rw [if_pos hj]; exact h⟩)
theorem expI_x {all rt : Int32} : ∀ (n v : Nat) (τ : Sg) (x : Int32), (expI all rt n v τ x).1 = (expI all rt n v τ 0).1 ∧ (expI all rt n v τ x).2 = x + (expI all rt n v τ 0).2
  | 0, v, τ, x => ⟨rfl, (Int32.add_zero x).symm⟩
  | n + 1, v, τ, x => by
    unfold expI
    split
    · exact expI_x n (v + 1) τ x
    · obtain ⟨a1, a2⟩ := expI_x (all := all) (rt := rt) n (v + 1) (judgeS (expireB τ (tn (leasedJ τ (nI v))) (rt + 1))) (x + 1)
      obtain ⟨b1, b2⟩ := expI_x (all := all) (rt := rt) n (v + 1) (judgeS (expireB τ (tn (leasedJ τ (nI v))) (rt + 1))) (0 + 1)
      rw [a1, a2, b1, b2]
      refine ⟨rfl, ?_⟩
      rw [Int32.add_assoc, Int32.zero_add]
theorem Sm_time {ρ0 σ ρ : Sg} (h : Sm ρ0 σ ρ) : Sm ρ0 (sg σ 5 0 8 (σ 5 0 8 + 1)) (sg ρ 7 0 12 (ρ 7 0 12 + 1)) := by
  refine ⟨⟨⟨h.1.1.1, h.1.1.2.1, ?_⟩, S2_of h.1.2.1, S3_of h.1.2.2.1, S4_of h.1.2.2.2.1, Kp_of h.1.2.2.2.2⟩, S5_of h.2.1, S6_of h.2.2⟩
  rw [sg_same, sg_same, h.1.1.2.2]
set_option maxRecDepth 10000 in
theorem L_X8_te {l : Launch} {w : WW} {Φ : Option Value → XX → Prop} {M : Mem} {ρ0 : Sg} {B r : Nat} (hB : B < 2 ^ 20) (hr : ρ0 7 0 2 = nI r) (hr2 : r ≤ 2) {v1 v3 : Option Value} : ∀ (n : Nat) {v : Nat} {τ ρ : Sg} {x : Int32}, v + n = 4 → Sm ρ0 τ ρ → Gk B v τ → (∀ ρ', Sm ρ0 (expI 0 (nI r) n v τ x).1 ρ' → A l w yX8_doTick cX8_doTick 5 (some .int) (rmd 7) Φ 82 [some (.ref (ad w 2 7 0)), v1, some (.int (expI 0 (nI r) n v τ x).2), v3, some (.int (nI 4))] [] (zx w M 2 ρ') 0 0) → A l w yX8_doTick cX8_doTick 5 (some .int) (rmd 7) Φ 35 [some (.ref (ad w 2 7 0)), v1, some (.int x), v3, some (.int (nI v))] [] (zx w M 2 ρ) 0 0 := by
  intro n
  induction n with
  | zero =>
    intro v τ ρ x hv h hG kk
    refine a_iload dX8_doTick_35 rfl ?_
    refine a_iconst (v := 4) dX8_doTick_37 (by decide) ?_
    refine a_icmp_ge (tgt := 82) dX8_doTick_38 (by decide) (fun c_38 => ?_) (fun c_38 => absurd (by have e6 : v = 4 := (by omega); subst e6; decide) c_38)
    obtain rfl : v = 4 := by omega
    exact kk _ h
  | succ n ih =>
    intro v τ ρ x hv h hG kk
    refine a_iload dX8_doTick_35 rfl ?_
    refine a_iconst (v := 4) dX8_doTick_37 (by decide) ?_
    refine a_icmp_ge (tgt := 82) dX8_doTick_38 (by decide) (fun c_38 => absurd c_38 (nI_ge (b := 4) (by omega) (by omega))) (fun c_38 => ?_)
    refine a_aload_n dX8_doTick_41 rfl ?_
    refine c_getR (t := 7) (k := 26) dX8_doTick_42 kw_104 rfl ?_
    refine a_iload dX8_doTick_45 rfl ?_
    refine c_iald (i := v) dX8_doTick_47 rfl (show v < 4 by omega) ?_
    refine a_iconst (v := (-1)) dX8_doTick_48 (by decide) ?_
    have hv4 : v < 4 := by omega
    have hh := held_is h.2.2 hG.2.1.2.2.1 hv4
    rw [hh]
    refine a_icmp_eq (tgt := 76) dX8_doTick_49 (by decide) (fun c_49 => ?_) (fun c_49 => ?_)
    · refine a_iinc_4 (u := nI (v + 1)) dX8_doTick_76 (inc_nI v) (by decide) ?_
      refine a_goto (tgt := 35) dX8_doTick_79 (by decide) ?_
      rw [expI] at kk
      first
        | (rw [if_pos (Or.inl c_49)] at kk
           exact ih (by omega) h (Gk_up hG (exp_skip hv4 hG.2.1.2.2.1 (Or.inl c_49)) hB) kk)
        | (have hne : ¬ τ 12 0 v = τ 5 0 8 := by
             rw [g1, q1]
             intro q
             rw [q] at c_63
             first
               | exact absurd c_63 (nI_nlt (Nat.le_refl t) (by omega))
               | exact c_63 (nI_le (Nat.le_refl t) (by omega))
           rw [if_pos (Or.inr ⟨rfl, hne⟩)] at kk
           exact ih (by omega) h (Gk_up hG (exp_skip hv4 hG.2.1.2.2.1 (Or.inr hne)) hB) kk)
        | (rw [if_neg (by rintro (q | q)
                          · exact c_49 q
                          · exact q.2 hut)] at kk
           exact ih (by omega) h_69 (Gk_expv hG hv4 c_49 hB) kk)
    · refine a_aload_n dX8_doTick_52 rfl ?_
      refine c_getR (t := 7) (k := 27) dX8_doTick_53 kw_105 rfl ?_
      refine a_iload dX8_doTick_56 rfl ?_
      refine c_iald (i := v) dX8_doTick_58 rfl (show v < 4 by omega) ?_
      refine a_aload_n dX8_doTick_59 rfl ?_
      refine c_getI (t := 7) (k := 12) dX8_doTick_60 kw_121 ?_
      have hl := leased_job (τ := τ) hv4 c_49
      have hun := (h.2.2 v hv4).2 (by rw [hh]; exact c_49)
      obtain ⟨t, q1, q2, q3⟩ := hG.2.1.2.1
      obtain ⟨u, g1, g2, g3, g4⟩ := q3 v _ hv4 hl.2.1 hl.2.2
      rw [hun, h.1.1.2.2, g1, q1]
      refine a_icmp_gt (tgt := 76) dX8_doTick_63 (by decide) (fun c_63 => ?_) (fun c_63 => ?_)
      · refine a_iinc_4 (u := nI (v + 1)) dX8_doTick_76 (inc_nI v) (by decide) ?_
        refine a_goto (tgt := 35) dX8_doTick_79 (by decide) ?_
        rw [expI] at kk
        first
          | (rw [if_pos (Or.inl c_49)] at kk
             exact ih (by omega) h (Gk_up hG (exp_skip hv4 hG.2.1.2.2.1 (Or.inl c_49)) hB) kk)
          | (have hne : ¬ τ 12 0 v = τ 5 0 8 := by
               rw [g1, q1]
               intro q
               rw [q] at c_63
               first
                 | exact absurd c_63 (nI_nlt (Nat.le_refl t) (by omega))
                 | exact c_63 (nI_le (Nat.le_refl t) (by omega))
             rw [if_pos (Or.inr ⟨rfl, hne⟩)] at kk
             exact ih (by omega) h (Gk_up hG (exp_skip hv4 hG.2.1.2.2.1 (Or.inr hne)) hB) kk)
          | (rw [if_neg (by rintro (q | q)
                            · exact c_49 q
                            · exact q.2 hut)] at kk
             exact ih (by omega) h_69 (Gk_expv hG hv4 c_49 hB) kk)
      · have hut : τ 12 0 v = τ 5 0 8 := by
          rw [g1, q1, show u = t by
            rcases Nat.lt_or_ge t u with q | q
            · first
                | exact absurd (nI_lt q (by omega)) c_63
                | exact absurd c_63 (nI_ge q (by omega))
            · omega]
        have hm : mb τ ≠ 0 := by
          obtain ⟨⟨qs, ps, hW⟩, -⟩ := id hG
          have hJ := Lok_J hv4 (Wk_L hW) c_49
          have := hJ.2.2.2.2.1
          omega
        refine a_aload_n dX8_doTick_66 rfl ?_
        refine a_iload dX8_doTick_67 rfl ?_
        refine c_V1X dX8_doTick_69 kw_505 kv_X8_expire (s_X8_expire h hG hm hl.2.1 hv4 hl.2.2 (hh.trans hl.1) (h.1.2.2.2.2.2.2.2.2.2.2.1.trans hr) hr2) (fun ρ69 h_69 => ?_)
        refine a_iload_n dX8_doTick_72 rfl ?_
        refine a_iconst (v := 1) dX8_doTick_73 (by decide) ?_
        refine a_iadd dX8_doTick_74 ?_
        refine a_istore_2 dX8_doTick_75 (by decide) ?_
        refine a_iinc_4 (u := nI (v + 1)) dX8_doTick_76 (inc_nI v) (by decide) ?_
        refine a_goto (tgt := 35) dX8_doTick_79 (by decide) ?_
        rw [expI] at kk
        first
          | (rw [if_pos (Or.inl c_49)] at kk
             exact ih (by omega) h (Gk_up hG (exp_skip hv4 hG.2.1.2.2.1 (Or.inl c_49)) hB) kk)
          | (have hne : ¬ τ 12 0 v = τ 5 0 8 := by
               rw [g1, q1]
               intro q
               rw [q] at c_63
               first
                 | exact absurd c_63 (nI_nlt (Nat.le_refl t) (by omega))
                 | exact c_63 (nI_le (Nat.le_refl t) (by omega))
             rw [if_pos (Or.inr ⟨rfl, hne⟩)] at kk
             exact ih (by omega) h (Gk_up hG (exp_skip hv4 hG.2.1.2.2.1 (Or.inr hne)) hB) kk)
          | (rw [if_neg (by rintro (q | q)
                            · exact c_49 q
                            · exact q.2 hut)] at kk
             exact ih (by omega) h_69 (Gk_expv hG hv4 c_49 hB) kk)
set_option maxRecDepth 10000 in
theorem L_X8_tk {l : Launch} {w : WW} {Φ : Option Value → XX → Prop} {M : Mem} {ρ0 : Sg} {z : Nat → Int32} {b r K : Nat} (hK : K ≤ 20) (hb : ρ0 7 0 1 = nI b) (hz1 : z 1 = nI b) (b1 : 1 ≤ b) (b8 : b ≤ 8) (hr : ρ0 7 0 2 = nI r) (hz2 : z 2 = nI r) (hr2 : r ≤ 2) : ∀ (n : Nat) {i B : Nat} {τ ρ : Sg} {x : Int32} {v4 : Option Value}, i + n = K → B + n < 2 ^ 20 → Sm ρ0 τ ρ → Gk B 4 τ → (∀ ρ' u4, Sm ρ0 (tickN z n τ x).1 ρ' → A l w yX8_doTick cX8_doTick 5 (some .int) (rmd 7) Φ 92 [some (.ref (ad w 2 7 0)), some (.int (nI K)), some (.int (tickN z n τ x).2), some (.int (nI K)), u4] [] (zx w M 2 ρ') 0 0) → A l w yX8_doTick cX8_doTick 5 (some .int) (rmd 7) Φ 17 [some (.ref (ad w 2 7 0)), some (.int (nI K)), some (.int x), some (.int (nI i)), v4] [] (zx w M 2 ρ) 0 0 := by
  intro n
  induction n with
  | zero =>
    intro i B τ ρ x v4 hi hB h hG kk
    refine a_iload_n dX8_doTick_17 rfl ?_
    refine a_iload_n dX8_doTick_18 rfl ?_
    refine a_icmp_ge (tgt := 92) dX8_doTick_19 (by decide) (fun c_19 => ?_) (fun c_19 => absurd (nI_le (by omega) (by omega)) c_19)
    obtain rfl : i = K := by omega
    exact kk _ _ h
  | succ n ih =>
    intro i B τ ρ x v4 hi hB h hG kk
    refine a_iload_n dX8_doTick_17 rfl ?_
    refine a_iload_n dX8_doTick_18 rfl ?_
    refine a_icmp_ge (tgt := 92) dX8_doTick_19 (by decide) (fun c_19 => absurd c_19 (nI_ge (by omega) (by omega))) (fun c_19 => ?_)
    refine a_aload_n dX8_doTick_22 rfl ?_
    refine a_aload_n dX8_doTick_23 rfl ?_
    refine c_getI (t := 7) (k := 12) dX8_doTick_24 kw_121 ?_
    refine a_iconst (v := 1) dX8_doTick_27 (by decide) ?_
    refine a_iadd dX8_doTick_28 ?_
    refine c_putI (t := 7) (k := 12) dX8_doTick_29 kw_121 ?_
    refine a_iconst (v := 0) dX8_doTick_32 (by decide) ?_
    refine a_istore_4 dX8_doTick_33 (by decide) ?_
    have hG1 := Gk_time hG
    refine L_X8_te (B := B + 1) (r := r) (by omega) hr hr2 4 (v := 0) rfl (Sm_time h) hG1 (fun ρ1 h1 => ?_)
    obtain ⟨a1, a2⟩ := expI_x (all := 0) (rt := nI r) 4 0 (sg τ 5 0 8 (τ 5 0 8 + 1)) x
    rw [a1] at h1
    rw [a2]
    have hG2 := Gk_expI (rt := nI r) (show B + 1 < 2 ^ 20 by omega) 4 0 (sg τ 5 0 8 (τ 5 0 8 + 1)) 0 rfl hG1
    refine a_aload_n dX8_doTick_82 rfl ?_
    refine c_V0X dX8_doTick_83 kw_509 kv_X8_buildAll (s_X8_buildAll hb b1 b8 h1 hG2) (fun ρ83 h_83 => ?_)
    refine a_iinc_3 (u := nI (i + 1)) dX8_doTick_86 (inc_nI i) (by decide) ?_
    refine a_goto (tgt := 17) dX8_doTick_89 (by decide) ?_
    rw [tickN, hz1, hz2] at kk
    exact ih (B := B + 1) (by omega) (by omega) h_83 (Gk_bld (bs := nI b) rfl b1 b8 40 _ hG2) kk
/-- 1 .. 20 -/
def tkB (a : Int32) : Bool := !decide (a < 1) && !decide (20 < a)
theorem tkB_tn {a : Int32} (h1 : ¬ a < 1) (h2 : a ≤ 20) : a = nI (tn a) ∧ 1 ≤ tn a ∧ tn a ≤ 20 := by
  have h3 : 1 ≤ a.toInt := by
    rw [Int32.lt_iff_toInt_lt] at h1
    have : (1 : Int32).toInt = 1 := rfl
    omega
  have h4 : a.toInt ≤ 20 := by
    rw [Int32.le_iff_toInt_le] at h2
    have : (20 : Int32).toInt = 20 := rfl
    omega
  have h5 : (tn a : Int) = a.toInt := by
    show ((a.toInt.toNat : Nat) : Int) = _
    omega
  refine ⟨?_, by omega, by omega⟩
  apply Int32.toInt_inj.mp
  rw [nI_toInt (by omega), h5]
set_option maxRecDepth 10000 in
theorem s_X8_doTick {l : Launch} {w : WW} {M : Mem} {ρ0 σ ρ : Sg} {B : Nat} {z : Nat → Int32} {b r : Nat} (h : Sm ρ0 σ ρ) (hG : Gk B 4 σ) (hB : B + 20 < 2 ^ 20) (hb : ρ0 7 0 1 = nI b) (hz1 : z 1 = nI b) (b1 : 1 ≤ b) (b8 : b ≤ 8) (hr : ρ0 7 0 2 = nI r) (hz2 : z 2 = nI r) (hr2 : r ≤ 2) {a : Int32} : Can l w yX8_doTick cX8_doTick 5 (some .int) (rmd 7) [.ref (ad w 2 7 0), .int a] (zx w M 2 ρ) (RY w M (if (tkB a) = true then (tickN z (tn a) σ 0).2 else -1) (fun ρ' => Sm ρ0 (if (tkB a) = true then (tickN z (tn a) σ 0).1 else σ) ρ')) := by
  refine Can.go (ls := [some (.ref (ad w 2 7 0)), some (.int a), none, none, none]) ?_
  refine a_iload_n dX8_doTick_0 rfl ?_
  refine a_iconst (v := 1) dX8_doTick_1 (by decide) ?_
  refine a_icmp_lt (tgt := 11) dX8_doTick_2 (by decide) (fun c_2 => ?_) (fun c_2 => ?_)
  · refine a_iconst (v := (-1)) dX8_doTick_11 (by decide) ?_
    exact c_iret dX8_doTick_12 (ry_n (by
          unfold tkB
          first
            | rw [decide_eq_true c_2]; rfl
            | (rw [decide_eq_true (show 20 < a from Int32.not_le.mp c_8)]; simp)) ⟨rfl, _, rfl, h⟩)
  · refine a_iload_n dX8_doTick_5 rfl ?_
    refine a_bipush (v := 20) dX8_doTick_6 (by decide) ?_
    refine a_icmp_le (tgt := 13) dX8_doTick_8 (by decide) (fun c_8 => ?_) (fun c_8 => ?_)
    · refine a_iconst (v := 0) dX8_doTick_13 (by decide) ?_
      refine a_istore_2 dX8_doTick_14 (by decide) ?_
      refine a_iconst (v := 0) dX8_doTick_15 (by decide) ?_
      refine a_istore_3 dX8_doTick_16 (by decide) ?_
      obtain ⟨ea, ha1, ha20⟩ := tkB_tn c_2 c_8
      have ht : tkB a = true := by
        unfold tkB
        rw [decide_eq_false c_2, decide_eq_false (Int32.not_lt.mpr c_8)]
        rfl
      have hls : ([some (.ref (ad w 2 7 0)), some (.int a), some (.int 0), some (.int 0), none] : List (Option Value)) = [some (.ref (ad w 2 7 0)), some (.int (nI (tn a))), some (.int 0), some (.int (nI 0)), none] := by rw [← ea]; rfl
      rw [hls]
      refine L_X8_tk (K := tn a) ha20 hb hz1 b1 b8 hr hz2 hr2 (tn a) (i := 0) (B := B) (by omega) (by omega) h hG (fun ρ1 u4 h1 => ?_)
      refine a_iload_n dX8_doTick_92 rfl ?_
      exact c_iret dX8_doTick_93 (ry_y ht ⟨rfl, _, rfl, h1⟩)
    · refine a_iconst (v := (-1)) dX8_doTick_11 (by decide) ?_
      exact c_iret dX8_doTick_12 (ry_n (by
            unfold tkB
            first
              | rw [decide_eq_true c_2]; rfl
              | (rw [decide_eq_true (show 20 < a from Int32.not_le.mp c_8)]; simp)) ⟨rfl, _, rfl, h⟩)
