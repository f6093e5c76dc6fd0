def pjI (js : Nat → Int32) : Nat → Nat → Int32 → Int32
  | 0, _, f => f
  | n + 1, j, f => pjI js n (j + 1) (if js j = 2 then f ||| sh1 (nI j) else f)
def ljC (js : Nat → Int32) (w : Int32) : Nat → Bool := fun j => inr w 4 && decide (js j = 10 + w)
def njC (p : Int32) (js : Nat → Int32) : Nat → Bool := fun j => decide (js j = 1) && decide (nd p (nI j) &&& (pjI js 4 0 0 ^^^ (-1)) = 0)
def ffC (p : Int32) (js : Nat → Int32) : Nat → Bool := fun j => decide (js j = 3) && rq p (nI j)
def hpC (p : Int32) (js : Nat → Int32) : Nat → Bool := fun j => !decide (js j = 2) && rq p (nI j)
def leasedJ (σ : Sg) (w : Int32) : Int32 := fhit (ljC (σ 10 0) w) 4 0
def nextJ (σ : Sg) : Int32 := fhit (njC (σ 9 0 0) (σ 10 0)) 4 0
def firstF (σ : Sg) : Int32 := fhit (ffC (σ 9 0 0) (σ 10 0)) 4 0
def passedR (σ : Sg) : Bool := !anyU (hpC (σ 9 0 0) (σ 10 0)) 4 0
def startB (σ : Sg) (m : Int32) : Sg := sga (sga (sg σ 0 0 1 m) 10 0 (fun j => bi (tb (σ 9 0 0) (nI j)))) 11 0 (fun _ => 0)
def endB (σ : Sg) : Sg := sga (sg σ 0 0 1 0) 10 0 (fun _ => 0)
def leaseB (σ : Sg) (j w : Nat) (e : Int32) : Sg := sg (sg (sg σ 10 0 j (10 + nI w)) 11 0 j (σ 11 0 j + 1)) 12 0 w e
def failing (p j : Int32) : Int32 := atn p j ||| sh1 j
def failF (p i : Int32) (js : Nat → Int32) : Nat → Int32 := fun k => if tb (failing p i) (nI k) = true then 3 else js k
def failJ (σ : Sg) (j : Int32) : Sg := sga σ 10 0 (failF (σ 9 0 0) j (σ 10 0))
def expireB (σ : Sg) (j : Nat) (most : Int32) : Sg := if σ 11 0 j < most then sg σ 10 0 j 1 else failJ σ (nI j)
set_option maxRecDepth 10000 in
theorem s_X3_isThere {l : Launch} {w : WW} {x : XX} {p j : Int32} : Can l w yX3_isThere cX3_isThere 2 (some .boolean) (rmd 1) [.int p, .int j] (x) (RI (bi (tb p j)) x) := by
  refine Can.go (ls := [some (.int p), some (.int j)]) ?_
  refine a_iload_n dX3_isThere_0 rfl ?_
  refine a_iload_n dX3_isThere_1 rfl ?_
  refine a_ishr dX3_isThere_2 ?_
  refine a_iconst (v := 1) dX3_isThere_3 (by decide) ?_
  refine a_iand dX3_isThere_4 ?_
  refine a_if_eq (tgt := 12) dX3_isThere_5 (by decide) (fun c_5 => ?_) (fun c_5 => ?_)
  · refine a_iconst (v := 0) dX3_isThere_12 (by decide) ?_
    exact c_zret dX3_isThere_13 ⟨by simp_all [tb, bi], rfl⟩
  · refine a_iconst (v := 1) dX3_isThere_8 (by decide) ?_
    refine a_goto (tgt := 13) dX3_isThere_9 (by decide) ?_
    exact c_zret dX3_isThere_13 ⟨by simp_all [tb, bi], rfl⟩
set_option maxRecDepth 10000 in
theorem s_X3_isRequired {l : Launch} {w : WW} {x : XX} {p j : Int32} : Can l w yX3_isRequired cX3_isRequired 2 (some .boolean) (rmd 2) [.int p, .int j] (x) (RI (bi (rq p j)) x) := by
  refine Can.go (ls := [some (.int p), some (.int j)]) ?_
  refine a_iload_n dX3_isRequired_0 rfl ?_
  refine a_iload_n dX3_isRequired_1 rfl ?_
  refine c_S2I dX3_isRequired_2 kw_266 ks_X3_isThere s_X3_isThere ?_
  refine a_if_eq (tgt := 22) dX3_isRequired_5 (by decide) (fun c_5 => ?_) (fun c_5 => ?_)
  · refine a_iconst (v := 0) dX3_isRequired_22 (by decide) ?_
    exact c_zret dX3_isRequired_23 ⟨by first | (have e5 := bi_0.mp c_5; simp [rq, e5, bi]) | (have e5 := bi_n0.mp c_5; simp_all [rq, tb, bi]), rfl⟩
  · refine a_iload_n dX3_isRequired_8 rfl ?_
    refine a_iconst (v := 4) dX3_isRequired_9 (by decide) ?_
    refine a_iload_n dX3_isRequired_10 rfl ?_
    refine a_iadd dX3_isRequired_11 ?_
    refine a_ishr dX3_isRequired_12 ?_
    refine a_iconst (v := 1) dX3_isRequired_13 (by decide) ?_
    refine a_iand dX3_isRequired_14 ?_
    refine a_if_eq (tgt := 22) dX3_isRequired_15 (by decide) (fun c_15 => ?_) (fun c_15 => ?_)
    · refine a_iconst (v := 0) dX3_isRequired_22 (by decide) ?_
      exact c_zret dX3_isRequired_23 ⟨by first | (have e5 := bi_0.mp c_5; simp [rq, e5, bi]) | (have e5 := bi_n0.mp c_5; simp_all [rq, tb, bi]), rfl⟩
    · refine a_iconst (v := 1) dX3_isRequired_18 (by decide) ?_
      refine a_goto (tgt := 23) dX3_isRequired_19 (by decide) ?_
      exact c_zret dX3_isRequired_23 ⟨by first | (have e5 := bi_0.mp c_5; simp [rq, e5, bi]) | (have e5 := bi_n0.mp c_5; simp_all [rq, tb, bi]), rfl⟩
set_option maxRecDepth 10000 in
theorem s_X3_needsOf {l : Launch} {w : WW} {x : XX} {p j : Int32} : Can l w yX3_needsOf cX3_needsOf 2 (some .int) (rmd 1) [.int p, .int j] (x) (RI (nd p j) x) := by
  refine Can.go (ls := [some (.int p), some (.int j)]) ?_
  refine a_iload_n dX3_needsOf_0 rfl ?_
  refine a_bipush (v := 8) dX3_needsOf_1 (by decide) ?_
  refine a_iconst (v := 4) dX3_needsOf_3 (by decide) ?_
  refine a_iload_n dX3_needsOf_4 rfl ?_
  refine a_imul dX3_needsOf_5 ?_
  refine a_iadd dX3_needsOf_6 ?_
  refine a_ishr dX3_needsOf_7 ?_
  refine a_bipush (v := 15) dX3_needsOf_8 (by decide) ?_
  refine a_iand dX3_needsOf_10 ?_
  exact c_iret dX3_needsOf_11 ⟨rfl, rfl⟩
set_option maxRecDepth 10000 in
theorem L_atnI {l : Launch} {w : WW} {Φ : Option Value → XX → Prop} {x : XX} {p k r : Int32} : ∀ (n : Nat) {j : Nat} {f : Int32}, j + n = 4 → A l w yX3_allThatNeed cX3_allThatNeed 5 (some .int) (rmd 2) Φ 55 [some (.int p), some (.int k), some (.int (atnI p k n j f)), some (.int r), some (.int 4)] [] x 0 0 → A l w yX3_allThatNeed cX3_allThatNeed 5 (some .int) (rmd 2) Φ 12 [some (.int p), some (.int k), some (.int f), some (.int r), some (.int (nI j))] [] x 0 0 := by
  intro n
  induction n with
  | zero =>
    intro j f hj kk
    refine a_iload dX3_allThatNeed_12 rfl ?_
    refine a_iconst (v := 4) dX3_allThatNeed_14 (by decide) ?_
    refine a_icmp_ge (tgt := 55) dX3_allThatNeed_15 (by decide) (fun c_15 => ?_) (fun c_15 => absurd (by have e6 : j = 4 := (by omega); subst e6; decide) c_15)
    have e6 : j = 4 := (by omega)
    subst e6
    exact kk
  | succ n ih =>
    intro j f hj kk
    refine a_iload dX3_allThatNeed_12 rfl ?_
    refine a_iconst (v := 4) dX3_allThatNeed_14 (by decide) ?_
    refine a_icmp_ge (tgt := 55) dX3_allThatNeed_15 (by decide) (fun c_15 => absurd c_15 (nI_ge (b := 4) (by omega) (by omega))) (fun c_15 => ?_)
    refine a_iload_n dX3_allThatNeed_18 rfl ?_
    refine a_iload dX3_allThatNeed_19 rfl ?_
    refine c_S2I dX3_allThatNeed_21 kw_266 ks_X3_isThere s_X3_isThere ?_
    refine a_if_eq (tgt := 49) dX3_allThatNeed_24 (by decide) (fun c_24 => ?_) (fun c_24 => ?_)
    · refine a_iinc_4 (u := nI (j + 1)) dX3_allThatNeed_49 (inc_nI j) (by decide) ?_
      refine a_goto (tgt := 12) dX3_allThatNeed_52 (by decide) ?_
      refine ih (by omega) ?_
      rw [atnI] at kk
      first
        | (rw [if_neg (fun h9 => absurd (bi_0.mp c_24) (by rw [h9.1]; decide))] at kk; exact kk)
        | (rw [if_pos ⟨bi_n0.mp c_24, c_39⟩] at kk; exact kk)
        | (rw [if_neg (fun h9 => h9.2 c_39)] at kk; exact kk)
    · refine a_iload_n dX3_allThatNeed_27 rfl ?_
      refine a_iload dX3_allThatNeed_28 rfl ?_
      refine c_S2I dX3_allThatNeed_30 kw_269 ks_X3_needsOf s_X3_needsOf ?_
      refine a_iload_n dX3_allThatNeed_33 rfl ?_
      refine a_iconst (v := 1) dX3_allThatNeed_34 (by decide) ?_
      refine a_iload_n dX3_allThatNeed_35 rfl ?_
      refine a_ishl dX3_allThatNeed_36 ?_
      refine a_ior dX3_allThatNeed_37 ?_
      refine a_iand dX3_allThatNeed_38 ?_
      refine a_if_eq (tgt := 49) dX3_allThatNeed_39 (by decide) (fun c_39 => ?_) (fun c_39 => ?_)
      · refine a_iinc_4 (u := nI (j + 1)) dX3_allThatNeed_49 (inc_nI j) (by decide) ?_
        refine a_goto (tgt := 12) dX3_allThatNeed_52 (by decide) ?_
        refine ih (by omega) ?_
        rw [atnI] at kk
        first
          | (rw [if_neg (fun h9 => absurd (bi_0.mp c_24) (by rw [h9.1]; decide))] at kk; exact kk)
          | (rw [if_pos ⟨bi_n0.mp c_24, c_39⟩] at kk; exact kk)
          | (rw [if_neg (fun h9 => h9.2 c_39)] at kk; exact kk)
      · refine a_iload_n dX3_allThatNeed_42 rfl ?_
        refine a_iconst (v := 1) dX3_allThatNeed_43 (by decide) ?_
        refine a_iload dX3_allThatNeed_44 rfl ?_
        refine a_ishl dX3_allThatNeed_46 ?_
        refine a_ior dX3_allThatNeed_47 ?_
        refine a_istore_2 dX3_allThatNeed_48 (by decide) ?_
        refine a_iinc_4 (u := nI (j + 1)) dX3_allThatNeed_49 (inc_nI j) (by decide) ?_
        refine a_goto (tgt := 12) dX3_allThatNeed_52 (by decide) ?_
        refine ih (by omega) ?_
        rw [atnI] at kk
        first
          | (rw [if_neg (fun h9 => absurd (bi_0.mp c_24) (by rw [h9.1]; decide))] at kk; exact kk)
          | (rw [if_pos ⟨bi_n0.mp c_24, c_39⟩] at kk; exact kk)
          | (rw [if_neg (fun h9 => h9.2 c_39)] at kk; exact kk)
set_option maxRecDepth 10000 in
theorem L_atnO {l : Launch} {w : WW} {Φ : Option Value → XX → Prop} {x : XX} {p k : Int32} : ∀ (n : Nat) {r : Nat} {f : Int32} {v4 : Option Value}, r + n = 4 → Φ (some (.int (atnO p k n f))) x → A l w yX3_allThatNeed cX3_allThatNeed 5 (some .int) (rmd 2) Φ 4 [some (.int p), some (.int k), some (.int f), some (.int (nI r)), v4] [] x 0 0 := by
  intro n
  induction n with
  | zero =>
    intro r f v4 hr h
    refine a_iload_n dX3_allThatNeed_4 rfl ?_
    refine a_iconst (v := 4) dX3_allThatNeed_5 (by decide) ?_
    refine a_icmp_ge (tgt := 61) dX3_allThatNeed_6 (by decide) (fun c_6 => ?_) (fun c_6 => absurd (by have e6 : r = 4 := (by omega); subst e6; decide) c_6)
    refine a_iload_n dX3_allThatNeed_61 rfl ?_
    exact c_iret dX3_allThatNeed_62 h
  | succ n ih =>
    intro r f v4 hr h
    refine a_iload_n dX3_allThatNeed_4 rfl ?_
    refine a_iconst (v := 4) dX3_allThatNeed_5 (by decide) ?_
    refine a_icmp_ge (tgt := 61) dX3_allThatNeed_6 (by decide) (fun c_6 => absurd c_6 (nI_ge (b := 4) (by omega) (by omega))) (fun c_6 => ?_)
    refine a_iconst (v := 0) dX3_allThatNeed_9 (by decide) ?_
    refine a_istore_4 dX3_allThatNeed_10 (by decide) ?_
    refine L_atnI 4 (j := 0) rfl ?_
    refine a_iinc_3 (u := nI (r + 1)) dX3_allThatNeed_55 (inc_nI r) (by decide) ?_
    refine a_goto (tgt := 4) dX3_allThatNeed_58 (by decide) ?_
    exact ih (by omega) h
set_option maxRecDepth 10000 in
theorem s_X3_allThatNeed {l : Launch} {w : WW} {x : XX} {p k : Int32} : Can l w yX3_allThatNeed cX3_allThatNeed 5 (some .int) (rmd 2) [.int p, .int k] (x) (RI (atn p k) x) := by
  refine Can.go (ls := [some (.int p), some (.int k), none, none, none]) ?_
  refine a_iconst (v := 0) dX3_allThatNeed_0 (by decide) ?_
  refine a_istore_2 dX3_allThatNeed_1 (by decide) ?_
  refine a_iconst (v := 0) dX3_allThatNeed_2 (by decide) ?_
  refine a_istore_3 dX3_allThatNeed_3 (by decide) ?_
  exact L_atnO 4 (r := 0) rfl ⟨rfl, rfl⟩
set_option maxRecDepth 10000 in
theorem L_v14 {l : Launch} {w : WW} {Φ : Option Value → XX → Prop} {x : XX} {p t : Int32} {j : Nat} {s : Bool} {v4 v5 : Option Value} (kk : A l w yX3_isValid cX3_isValid 6 (some .boolean) (rmd 3) Φ 32 [some (.int p), some (.int (bi (s || rq p (nI j)))), some (.int t), some (.int (nI j)), v4, v5] [] x 0 0) : A l w yX3_isValid cX3_isValid 6 (some .boolean) (rmd 3) Φ 14 [some (.int p), some (.int (bi (s))), some (.int t), some (.int (nI j)), v4, v5] [] x 0 0 := by
  refine a_iload_n dX3_isValid_14 rfl ?_
  refine a_if_ne (tgt := 26) dX3_isValid_15 (by decide) (fun c_15 => ?_) (fun c_15 => ?_)
  · refine a_iconst (v := 1) dX3_isValid_26 (by decide) ?_
    refine a_goto (tgt := 31) dX3_isValid_27 (by decide) ?_
    refine a_istore_1 dX3_isValid_31 (by decide) ?_
    first
      | (rw [bi_n0.mp c_15, Bool.true_or, bi_t] at kk; exact kk)
      | (rw [bi_n0.mp c_23, Bool.or_true, bi_t] at kk; exact kk)
      | (rw [bi_0.mp c_23, Bool.or_false, bi_0.mp c_15, bi_f] at kk; exact kk)
  · refine a_iload_n dX3_isValid_18 rfl ?_
    refine a_iload_n dX3_isValid_19 rfl ?_
    refine c_S2I dX3_isValid_20 kw_364 ks_X3_isRequired s_X3_isRequired ?_
    refine a_if_eq (tgt := 30) dX3_isValid_23 (by decide) (fun c_23 => ?_) (fun c_23 => ?_)
    · refine a_iconst (v := 0) dX3_isValid_30 (by decide) ?_
      refine a_istore_1 dX3_isValid_31 (by decide) ?_
      first
        | (rw [bi_n0.mp c_15, Bool.true_or, bi_t] at kk; exact kk)
        | (rw [bi_n0.mp c_23, Bool.or_true, bi_t] at kk; exact kk)
        | (rw [bi_0.mp c_23, Bool.or_false, bi_0.mp c_15, bi_f] at kk; exact kk)
    · refine a_iconst (v := 1) dX3_isValid_26 (by decide) ?_
      refine a_goto (tgt := 31) dX3_isValid_27 (by decide) ?_
      refine a_istore_1 dX3_isValid_31 (by decide) ?_
      first
        | (rw [bi_n0.mp c_15, Bool.true_or, bi_t] at kk; exact kk)
        | (rw [bi_n0.mp c_23, Bool.or_true, bi_t] at kk; exact kk)
        | (rw [bi_0.mp c_23, Bool.or_false, bi_0.mp c_15, bi_f] at kk; exact kk)
set_option maxRecDepth 10000 in
theorem L_v32 {l : Launch} {w : WW} {Φ : Option Value → XX → Prop} {x : XX} {p t : Int32} {j : Nat} {s : Bool} {v4 v5 : Option Value} (kk : A l w yX3_isValid cX3_isValid 6 (some .boolean) (rmd 3) Φ 51 [some (.int p), some (.int (bi (s))), some (.int t), some (.int (nI j)), some (.int (bi (!decide (nd p (nI j) &&& (t ^^^ (-1)) = 0)))), v5] [] x 0 0) : A l w yX3_isValid cX3_isValid 6 (some .boolean) (rmd 3) Φ 32 [some (.int p), some (.int (bi (s))), some (.int t), some (.int (nI j)), v4, v5] [] x 0 0 := by
  refine a_iload_n dX3_isValid_32 rfl ?_
  refine a_iload_n dX3_isValid_33 rfl ?_
  refine c_S2I dX3_isValid_34 kw_269 ks_X3_needsOf s_X3_needsOf ?_
  refine a_iload_n dX3_isValid_37 rfl ?_
  refine a_iconst (v := (-1)) dX3_isValid_38 (by decide) ?_
  refine a_ixor dX3_isValid_39 ?_
  refine a_iand dX3_isValid_40 ?_
  refine a_if_eq (tgt := 48) dX3_isValid_41 (by decide) (fun c_41 => ?_) (fun c_41 => ?_)
  · refine a_iconst (v := 0) dX3_isValid_48 (by decide) ?_
    refine a_istore_4 dX3_isValid_49 (by decide) ?_
    first
      | (rw [decide_eq_true c_41, Bool.not_true, bi_f] at kk; exact kk)
      | (rw [decide_eq_false c_41, Bool.not_false, bi_t] at kk; exact kk)
  · refine a_iconst (v := 1) dX3_isValid_44 (by decide) ?_
    refine a_goto (tgt := 49) dX3_isValid_45 (by decide) ?_
    refine a_istore_4 dX3_isValid_49 (by decide) ?_
    first
      | (rw [decide_eq_true c_41, Bool.not_true, bi_f] at kk; exact kk)
      | (rw [decide_eq_false c_41, Bool.not_false, bi_t] at kk; exact kk)
set_option maxRecDepth 10000 in
theorem L_v51 {l : Launch} {w : WW} {Φ : Option Value → XX → Prop} {x : XX} {p t : Int32} {j : Nat} {s a : Bool} {v5 : Option Value} (kk : A l w yX3_isValid cX3_isValid 6 (some .boolean) (rmd 3) Φ 70 [some (.int p), some (.int (bi (s))), some (.int t), some (.int (nI j)), some (.int (bi a)), some (.int (bi (tb (atn p (nI j)) (nI j))))] [] x 0 0) : A l w yX3_isValid cX3_isValid 6 (some .boolean) (rmd 3) Φ 51 [some (.int p), some (.int (bi (s))), some (.int t), some (.int (nI j)), some (.int (bi a)), v5] [] x 0 0 := by
  refine a_iload_n dX3_isValid_51 rfl ?_
  refine a_iload_n dX3_isValid_52 rfl ?_
  refine c_S2I dX3_isValid_53 kw_365 ks_X3_allThatNeed s_X3_allThatNeed ?_
  refine a_iload_n dX3_isValid_56 rfl ?_
  refine a_ishr dX3_isValid_57 ?_
  refine a_iconst (v := 1) dX3_isValid_58 (by decide) ?_
  refine a_iand dX3_isValid_59 ?_
  refine a_if_eq (tgt := 67) dX3_isValid_60 (by decide) (fun c_60 => ?_) (fun c_60 => ?_)
  · refine a_iconst (v := 0) dX3_isValid_67 (by decide) ?_
    refine a_istore_5 dX3_isValid_68 (by decide) ?_
    first
      | (rw [show tb (atn p (nI j)) (nI j) = false by simp_all [tb], bi_f] at kk; exact kk)
      | (rw [show tb (atn p (nI j)) (nI j) = true by simp_all [tb], bi_t] at kk; exact kk)
  · refine a_iconst (v := 1) dX3_isValid_63 (by decide) ?_
    refine a_goto (tgt := 68) dX3_isValid_64 (by decide) ?_
    refine a_istore_5 dX3_isValid_68 (by decide) ?_
    first
      | (rw [show tb (atn p (nI j)) (nI j) = false by simp_all [tb], bi_f] at kk; exact kk)
      | (rw [show tb (atn p (nI j)) (nI j) = true by simp_all [tb], bi_t] at kk; exact kk)
set_option maxRecDepth 10000 in
theorem L_v70 {l : Launch} {w : WW} {Φ : Option Value → XX → Prop} {x : XX} {p t : Int32} {j : Nat} {s a c : Bool} (k1 : (tb p (nI j) && (a || c)) = true → Φ (some (.int 0)) x) (k2 : (tb p (nI j) && (a || c)) = false → A l w yX3_isValid cX3_isValid 6 (some .boolean) (rmd 3) Φ 90 [some (.int p), some (.int (bi (s))), some (.int t), some (.int (nI j)), some (.int (bi a)), some (.int (bi c))] [] x 0 0) : A l w yX3_isValid cX3_isValid 6 (some .boolean) (rmd 3) Φ 70 [some (.int p), some (.int (bi (s))), some (.int t), some (.int (nI j)), some (.int (bi a)), some (.int (bi c))] [] x 0 0 := by
  refine a_iload_n dX3_isValid_70 rfl ?_
  refine a_iload_n dX3_isValid_71 rfl ?_
  refine c_S2I dX3_isValid_72 kw_266 ks_X3_isThere s_X3_isThere ?_
  refine a_if_eq (tgt := 90) dX3_isValid_75 (by decide) (fun c_75 => ?_) (fun c_75 => ?_)
  · refine k2 ?_
    first
      | (rw [bi_0.mp c_75]; rfl)
      | (rw [bi_0.mp c_83, bi_0.mp c_80]; cases tb p (nI j) <;> rfl)
      | (rw [bi_0.mp c_85, bi_0.mp c_80]; cases tb p (nI j) <;> rfl)
  · refine a_iload dX3_isValid_78 rfl ?_
    refine a_if_ne (tgt := 88) dX3_isValid_80 (by decide) (fun c_80 => ?_) (fun c_80 => ?_)
    · refine a_iconst (v := 0) dX3_isValid_88 (by decide) ?_
      exact c_zret dX3_isValid_89 (k1 (by first | (rw [bi_n0.mp c_75, bi_n0.mp c_80]; rfl) | (rw [bi_n0.mp c_75, bi_n0.mp c_85, Bool.or_true]; rfl)))
    · refine a_iload dX3_isValid_83 rfl ?_
      refine a_if_eq (tgt := 90) dX3_isValid_85 (by decide) (fun c_85 => ?_) (fun c_85 => ?_)
      · refine k2 ?_
        first
          | (rw [bi_0.mp c_75]; rfl)
          | (rw [bi_0.mp c_83, bi_0.mp c_80]; cases tb p (nI j) <;> rfl)
          | (rw [bi_0.mp c_85, bi_0.mp c_80]; cases tb p (nI j) <;> rfl)
      · refine a_iconst (v := 0) dX3_isValid_88 (by decide) ?_
        exact c_zret dX3_isValid_89 (k1 (by first | (rw [bi_n0.mp c_75, bi_n0.mp c_80]; rfl) | (rw [bi_n0.mp c_75, bi_n0.mp c_85, Bool.or_true]; rfl)))
set_option maxRecDepth 10000 in
theorem L_vld {l : Launch} {w : WW} {Φ : Option Value → XX → Prop} {x : XX} {p : Int32} : ∀ (n : Nat) {j : Nat} {s : Bool} {v4 v5 : Option Value}, j + n = 4 → Φ (some (.int (bi (vld p n j s)))) x → A l w yX3_isValid cX3_isValid 6 (some .boolean) (rmd 3) Φ 9 [some (.int p), some (.int (bi s)), some (.int (p &&& 15)), some (.int (nI j)), v4, v5] [] x 0 0 := by
  intro n
  induction n with
  | zero =>
    intro j s v4 v5 hj h
    refine a_iload_n dX3_isValid_9 rfl ?_
    refine a_iconst (v := 4) dX3_isValid_10 (by decide) ?_
    refine a_icmp_ge (tgt := 96) dX3_isValid_11 (by decide) (fun c_11 => ?_) (fun c_11 => absurd (by have e6 : j = 4 := (by omega); subst e6; decide) c_11)
    refine a_iload_n dX3_isValid_96 rfl ?_
    exact c_zret dX3_isValid_97 h (bi_nar s)
  | succ n ih =>
    intro j s v4 v5 hj h
    refine a_iload_n dX3_isValid_9 rfl ?_
    refine a_iconst (v := 4) dX3_isValid_10 (by decide) ?_
    refine a_icmp_ge (tgt := 96) dX3_isValid_11 (by decide) (fun c_11 => absurd c_11 (nI_ge (b := 4) (by omega) (by omega))) (fun c_11 => ?_)
    refine L_v14 (L_v32 (L_v51 (L_v70 (fun h9 => ?_) (fun h9 => ?_))))
    · rw [vld, if_pos h9] at h
      exact h
    · rw [vld, if_neg (by rw [h9]; decide)] at h
      refine a_iinc_3 (u := nI (j + 1)) dX3_isValid_90 (inc_nI j) (by decide) ?_
      refine a_goto (tgt := 9) dX3_isValid_93 (by decide) ?_
      exact ih (by omega) h
set_option maxRecDepth 10000 in
theorem s_X3_isValid {l : Launch} {w : WW} {x : XX} {p : Int32} : Can l w yX3_isValid cX3_isValid 6 (some .boolean) (rmd 3) [.int p] (x) (RI (bi (vld p 4 0 false)) x) := by
  refine Can.go (ls := [some (.int p), none, none, none, none, none]) ?_
  refine a_iconst (v := 0) dX3_isValid_0 (by decide) ?_
  refine a_istore_1 dX3_isValid_1 (by decide) ?_
  refine a_iload_n dX3_isValid_2 rfl ?_
  refine a_bipush (v := 15) dX3_isValid_3 (by decide) ?_
  refine a_iand dX3_isValid_5 ?_
  refine a_istore_2 dX3_isValid_6 (by decide) ?_
  refine a_iconst (v := 0) dX3_isValid_7 (by decide) ?_
  refine a_istore_3 dX3_isValid_8 (by decide) ?_
  exact L_vld 4 (j := 0) (s := false) rfl ⟨rfl, rfl⟩
set_option maxRecDepth 10000 in
theorem s_X0_isUnderTest {l : Launch} {w : WW} {M : Mem} {σ : Sg}  : Can l w yX0_isUnderTest cX0_isUnderTest 1 (some .boolean) (rmd 1) [.ref (ad w 0 0 0)] (zx w M 0 σ) (RI (bi (!decide (σ 0 0 1 ≤ 0))) (zx w M 0 σ)) := by
  refine Can.go (ls := [some (.ref (ad w 0 0 0))]) ?_
  refine a_aload_n dX0_isUnderTest_0 rfl ?_
  refine c_getI (t := 0) (k := 1) dX0_isUnderTest_1 kw_173 ?_
  refine a_if_le (tgt := 11) dX0_isUnderTest_4 (by decide) (fun c_4 => ?_) (fun c_4 => ?_)
  · refine a_iconst (v := 0) dX0_isUnderTest_11 (by decide) ?_
    exact c_zret dX0_isUnderTest_12 ⟨by simp_all [bi], rfl⟩
  · refine a_iconst (v := 1) dX0_isUnderTest_7 (by decide) ?_
    refine a_goto (tgt := 12) dX0_isUnderTest_8 (by decide) ?_
    exact c_zret dX0_isUnderTest_12 ⟨by simp_all [bi], rfl⟩
set_option maxRecDepth 10000 in
theorem s_X0_pipeline {l : Launch} {w : WW} {M : Mem} {σ : Sg}  : Can l w yX0_pipeline cX0_pipeline 1 (some .int) (rmd 1) [.ref (ad w 0 0 0)] (zx w M 0 σ) (RI (σ 9 0 0) (zx w M 0 σ)) := by
  refine Can.go (ls := [some (.ref (ad w 0 0 0))]) ?_
  refine a_aload_n dX0_pipeline_0 rfl ?_
  refine c_getR (t := 0) (k := 0) dX0_pipeline_1 kw_74 rfl ?_
  refine a_iconst (v := 0) dX0_pipeline_4 (by decide) ?_
  refine c_iald (i := 0) dX0_pipeline_5 (by decide) (by decide) ?_
  exact c_iret dX0_pipeline_6 ⟨rfl, rfl⟩
theorem st_step (σ : Sg) (a b : Nat → Int32) (j : Nat) (u v : Int32) : sg (sg (sga (sga σ 10 0 a) 11 0 b) 10 0 j v) 11 0 j u = sga (sga σ 10 0 (up1 a j v)) 11 0 (up1 b j u) := by
  rw [sg_is (sga (sga σ 10 0 a) 11 0 b), sga_t (by decide), sga_same, sga_comm (by decide), sga_sga, sg_sga]
set_option maxRecDepth 10000 in
theorem L_X0_start {l : Launch} {w : WW} {Φ : Option Value → XX → Prop} {M : Mem} {τ : Sg} {v1 : Option Value} : ∀ (n : Nat) {j : Nat}, j + n = 4 → A l w yX0_start cX0_start 3 none (rmd 2) Φ 47 [some (.ref (ad w 0 0 0)), v1, some (.int (nI 4))] [] (zx w M 0 (sga (sga τ 10 0 (mixN 4 (fun j => bi (tb (τ 9 0 0) (nI j))) (τ 10 0))) 11 0 (mixN 4 (fun _ => 0) (τ 11 0)))) 0 0 → A l w yX0_start cX0_start 3 none (rmd 2) Φ 7 [some (.ref (ad w 0 0 0)), v1, some (.int (nI j))] [] (zx w M 0 (sga (sga τ 10 0 (mixN j (fun j => bi (tb (τ 9 0 0) (nI j))) (τ 10 0))) 11 0 (mixN j (fun _ => 0) (τ 11 0)))) 0 0 := by
  intro n
  induction n with
  | zero =>
    intro j hj kk
    refine a_iload_n dX0_start_7 rfl ?_
    refine a_iconst (v := 4) dX0_start_8 (by decide) ?_
    refine a_icmp_ge (tgt := 47) dX0_start_9 (by decide) (fun c_9 => ?_) (fun c_9 => absurd (by have e6 : j = 4 := (by omega); subst e6; decide) c_9)
    have e6 : j = 4 := (by omega)
    subst e6
    exact kk
  | succ n ih =>
    intro j hj kk
    refine a_iload_n dX0_start_7 rfl ?_
    refine a_iconst (v := 4) dX0_start_8 (by decide) ?_
    refine a_icmp_ge (tgt := 47) dX0_start_9 (by decide) (fun c_9 => absurd c_9 (nI_ge (b := 4) (by omega) (by omega))) (fun c_9 => ?_)
    refine a_aload_n dX0_start_12 rfl ?_
    refine c_getR (t := 0) (k := 2) dX0_start_13 kw_75 rfl ?_
    refine a_iload_n dX0_start_16 rfl ?_
    refine a_aload_n dX0_start_17 rfl ?_
    refine c_V0I dX0_start_18 kw_232 kv_X0_pipeline s_X0_pipeline ?_
    refine a_iload_n dX0_start_21 rfl ?_
    refine c_S2I dX0_start_22 kw_370 ks_X3_isThere s_X3_isThere ?_
    rw [sga_t (by decide), sga_t (by decide)]
    refine a_if_eq (tgt := 32) dX0_start_25 (by decide) (fun c_25 => ?_) (fun c_25 => ?_)
    · refine a_iconst (v := 0) dX0_start_32 (by decide) ?_
      refine c_iast (i := j) dX0_start_33 rfl (show j < 4 by omega) ?_
      refine a_aload_n dX0_start_34 rfl ?_
      refine c_getR (t := 0) (k := 3) dX0_start_35 kw_76 rfl ?_
      refine a_iload_n dX0_start_38 rfl ?_
      refine a_iconst (v := 0) dX0_start_39 (by decide) ?_
      refine c_iast (i := j) dX0_start_40 rfl (show j < 4 by omega) ?_
      refine a_iinc_2 (u := nI (j + 1)) dX0_start_41 (inc_nI j) (by decide) ?_
      refine a_goto (tgt := 7) dX0_start_44 (by decide) ?_
      refine a_eq (x' := zx w M 0 (sga (sga τ 10 0 (mixN (j + 1) (fun j => bi (tb (τ 9 0 0) (nI j))) (τ 10 0))) 11 0 (mixN (j + 1) (fun _ => 0) (τ 11 0)))) ?_ (ih (by omega) kk)
      have h8 : ∀ b, bi (tb (τ 9 0 0) (nI j)) = b → sga (sga τ 10 0 (up1 (mixN j (fun j => bi (tb (τ 9 0 0) (nI j))) (τ 10 0)) j b)) 11 0 (up1 (mixN j (fun _ => 0) (τ 11 0)) j 0) = sga (sga τ 10 0 (mixN (j + 1) (fun j => bi (tb (τ 9 0 0) (nI j))) (τ 10 0))) 11 0 (mixN (j + 1) (fun _ => 0) (τ 11 0)) := by
        intro b hb
        rw [← hb, ← mixN_up, ← mixN_up]
      rw [st_step]
      first
        | rw [h8 0 c_25]
        | rw [h8 1 (by rw [bi_n0.mp c_25]; rfl)]
    · refine a_iconst (v := 1) dX0_start_28 (by decide) ?_
      refine a_goto (tgt := 33) dX0_start_29 (by decide) ?_
      refine c_iast (i := j) dX0_start_33 rfl (show j < 4 by omega) ?_
      refine a_aload_n dX0_start_34 rfl ?_
      refine c_getR (t := 0) (k := 3) dX0_start_35 kw_76 rfl ?_
      refine a_iload_n dX0_start_38 rfl ?_
      refine a_iconst (v := 0) dX0_start_39 (by decide) ?_
      refine c_iast (i := j) dX0_start_40 rfl (show j < 4 by omega) ?_
      refine a_iinc_2 (u := nI (j + 1)) dX0_start_41 (inc_nI j) (by decide) ?_
      refine a_goto (tgt := 7) dX0_start_44 (by decide) ?_
      refine a_eq (x' := zx w M 0 (sga (sga τ 10 0 (mixN (j + 1) (fun j => bi (tb (τ 9 0 0) (nI j))) (τ 10 0))) 11 0 (mixN (j + 1) (fun _ => 0) (τ 11 0)))) ?_ (ih (by omega) kk)
      have h8 : ∀ b, bi (tb (τ 9 0 0) (nI j)) = b → sga (sga τ 10 0 (up1 (mixN j (fun j => bi (tb (τ 9 0 0) (nI j))) (τ 10 0)) j b)) 11 0 (up1 (mixN j (fun _ => 0) (τ 11 0)) j 0) = sga (sga τ 10 0 (mixN (j + 1) (fun j => bi (tb (τ 9 0 0) (nI j))) (τ 10 0))) 11 0 (mixN (j + 1) (fun _ => 0) (τ 11 0)) := by
        intro b hb
        rw [← hb, ← mixN_up, ← mixN_up]
      rw [st_step]
      first
        | rw [h8 0 c_25]
        | rw [h8 1 (by rw [bi_n0.mp c_25]; rfl)]
set_option maxRecDepth 10000 in
theorem s_X0_start {l : Launch} {w : WW} {M : Mem} {σ : Sg} {m : Int32} : Can l w yX0_start cX0_start 3 none (rmd 2) [.ref (ad w 0 0 0), .int m] (zx w M 0 σ) (RV (zx w M 0 (startB σ m))) := by
  refine Can.go (ls := [some (.ref (ad w 0 0 0)), some (.int m), none]) ?_
  refine a_aload_n dX0_start_0 rfl ?_
  refine a_iload_n dX0_start_1 rfl ?_
  refine c_putI (t := 0) (k := 1) dX0_start_2 kw_173 ?_
  refine a_iconst (v := 0) dX0_start_5 (by decide) ?_
  refine a_istore_2 dX0_start_6 (by decide) ?_
  refine a_eq (x' := zx w M 0 (sga (sga (sg σ 0 0 1 m) 10 0 (mixN 0 (fun j => bi (tb ((sg σ 0 0 1 m) 9 0 0) (nI j))) ((sg σ 0 0 1 m) 10 0))) 11 0 (mixN 0 (fun _ => 0) ((sg σ 0 0 1 m) 11 0)))) ?_ ?_
  · rw [mixN_0, mixN_0, sga_eta, sga_eta]
  refine L_X0_start 4 rfl ?_
  refine c_junk (M' := M) (σ' := sga (sga (sg σ 0 0 1 m) 10 0 (mixN 4 (fun j => bi (tb ((sg σ 0 0 1 m) 9 0 0) (nI j))) ((sg σ 0 0 1 m) 10 0))) 11 0 (fun _ => 0)) (junkA (by decide) (fun k hk => (if_pos hk).symm)) ?_
  rw [sga_comm (by decide)]
  refine c_junk (M' := M) (σ' := sga (sga (sg σ 0 0 1 m) 11 0 (fun _ => 0)) 10 0 (fun j => bi (tb ((sg σ 0 0 1 m) 9 0 0) (nI j)))) (junkA (by decide) (fun k hk => (if_pos hk).symm)) ?_
  exact c_vret dX0_start_47 ⟨rfl, by rw [sga_comm (by decide)]; rfl⟩
def zf : Nat → Int32 := fun _ => 0
set_option maxRecDepth 10000 in
theorem L_X0_end {l : Launch} {w : WW} {Φ : Option Value → XX → Prop} {M : Mem} {τ : Sg} : ∀ (n : Nat) {j : Nat}, j + n = 4 → A l w yX0_end cX0_end 2 none (rmd 1) Φ 25 [some (.ref (ad w 0 0 0)), some (.int (nI 4))] [] (zx w M 0 (sga τ 10 0 (mixN 4 zf (τ 10 0)))) 0 0 → A l w yX0_end cX0_end 2 none (rmd 1) Φ 7 [some (.ref (ad w 0 0 0)), some (.int (nI j))] [] (zx w M 0 (sga τ 10 0 (mixN j zf (τ 10 0)))) 0 0 := by
  intro n
  induction n with
  | zero =>
    intro j hj kk
    refine a_iload_n dX0_end_7 rfl ?_
    refine a_iconst (v := 4) dX0_end_8 (by decide) ?_
    refine a_icmp_ge (tgt := 25) dX0_end_9 (by decide) (fun c_9 => ?_) (fun c_9 => absurd (by have e6 : j = 4 := (by omega); subst e6; decide) c_9)
    have e6 : j = 4 := (by omega)
    subst e6
    exact kk
  | succ n ih =>
    intro j hj kk
    refine a_iload_n dX0_end_7 rfl ?_
    refine a_iconst (v := 4) dX0_end_8 (by decide) ?_
    refine a_icmp_ge (tgt := 25) dX0_end_9 (by decide) (fun c_9 => absurd c_9 (nI_ge (b := 4) (by omega) (by omega))) (fun c_9 => ?_)
    refine a_aload_n dX0_end_12 rfl ?_
    refine c_getR (t := 0) (k := 2) dX0_end_13 kw_75 rfl ?_
    refine a_iload_n dX0_end_16 rfl ?_
    refine a_iconst (v := 0) dX0_end_17 (by decide) ?_
    refine c_iast (i := j) dX0_end_18 rfl (show j < 4 by omega) ?_
    refine a_iinc_1 (u := nI (j + 1)) dX0_end_19 (inc_nI j) (by decide) ?_
    refine a_goto (tgt := 7) dX0_end_22 (by decide) ?_
    rw [sg_sga, show (0 : Int32) = zf j from rfl, mixN_up]
    exact ih (by omega) kk
set_option maxRecDepth 10000 in
theorem s_X0_end {l : Launch} {w : WW} {M : Mem} {σ : Sg}  : Can l w yX0_end cX0_end 2 none (rmd 1) [.ref (ad w 0 0 0)] (zx w M 0 σ) (RV (zx w M 0 (endB σ))) := by
  refine Can.go (ls := [some (.ref (ad w 0 0 0)), none]) ?_
  refine a_aload_n dX0_end_0 rfl ?_
  refine a_iconst (v := 0) dX0_end_1 (by decide) ?_
  refine c_putI (t := 0) (k := 1) dX0_end_2 kw_173 ?_
  refine a_iconst (v := 0) dX0_end_5 (by decide) ?_
  refine a_istore_1 dX0_end_6 (by decide) ?_
  refine a_eq (x' := zx w M 0 (sga (sg σ 0 0 1 0) 10 0 (mixN 0 zf ((sg σ 0 0 1 0) 10 0)))) (by rw [mixN_0, sga_eta]) ?_
  refine L_X0_end 4 rfl ?_
  refine c_junk (M' := M) (σ' := sga (sg σ 0 0 1 0) 10 0 zf) (junkA (by decide) (fun k hk => (if_pos hk).symm)) ?_
  exact c_vret dX0_end_25 ⟨rfl, rfl⟩
set_option maxRecDepth 10000 in
theorem L_X0_leasedJob {l : Launch} {w : WW} {Φ : Option Value → XX → Prop} {M : Mem} {σ : Sg} {v : Int32} : ∀ (n : Nat) {j : Nat}, j + n = 4 → Φ (some (.int (fhit (ljC (σ 10 0) v) n j))) (zx w M 0 σ) → A l w yX0_leasedJob cX0_leasedJob 3 (some .int) (rmd 2) Φ 2 [some (.ref (ad w 0 0 0)), some (.int v), some (.int (nI j))] [] (zx w M 0 σ) 0 0 := by
  intro n
  induction n with
  | zero =>
    intro j hj h
    refine a_iload_n dX0_leasedJob_2 rfl ?_
    refine a_iconst (v := 4) dX0_leasedJob_3 (by decide) ?_
    refine a_icmp_ge (tgt := 35) dX0_leasedJob_4 (by decide) (fun c_4 => ?_) (fun c_4 => absurd (by have e6 : j = 4 := (by omega); subst e6; decide) c_4)
    refine a_iconst (v := (-1)) dX0_leasedJob_35 (by decide) ?_
    exact c_iret dX0_leasedJob_36 h
  | succ n ih =>
    intro j hj h
    refine a_iload_n dX0_leasedJob_2 rfl ?_
    refine a_iconst (v := 4) dX0_leasedJob_3 (by decide) ?_
    refine a_icmp_ge (tgt := 35) dX0_leasedJob_4 (by decide) (fun c_4 => absurd c_4 (nI_ge (b := 4) (by omega) (by omega))) (fun c_4 => ?_)
    refine a_iload_n dX0_leasedJob_7 rfl ?_
    refine c_N1I dX0_leasedJob_8 nw_367 ks_X7_isWorker s_X7_isWorker ?_
    refine a_if_eq (tgt := 29) dX0_leasedJob_11 (by decide) (fun c_11 => ?_) (fun c_11 => ?_)
    · refine a_iinc_2 (u := nI (j + 1)) dX0_leasedJob_29 (inc_nI j) (by decide) ?_
      refine a_goto (tgt := 2) dX0_leasedJob_32 (by decide) ?_
      refine ih (by omega) ?_
      rw [fhit, if_neg (show ¬ ljC (σ 10 0) v j = true by first | (have e9 := bi_0.mp c_11; simp [ljC, e9]; done) | (simp [ljC, c_24]; done) | simp_all [ljC])] at h
      exact h
    · refine a_aload_n dX0_leasedJob_14 rfl ?_
      refine c_getR (t := 0) (k := 2) dX0_leasedJob_15 kw_75 rfl ?_
      refine a_iload_n dX0_leasedJob_18 rfl ?_
      refine c_iald (i := j) dX0_leasedJob_19 rfl (show j < 4 by omega) ?_
      refine a_bipush (v := 10) dX0_leasedJob_20 (by decide) ?_
      refine a_iload_n dX0_leasedJob_22 rfl ?_
      refine a_iadd dX0_leasedJob_23 ?_
      refine a_icmp_ne (tgt := 29) dX0_leasedJob_24 (by decide) (fun c_24 => ?_) (fun c_24 => ?_)
      · refine a_iinc_2 (u := nI (j + 1)) dX0_leasedJob_29 (inc_nI j) (by decide) ?_
        refine a_goto (tgt := 2) dX0_leasedJob_32 (by decide) ?_
        refine ih (by omega) ?_
        rw [fhit, if_neg (show ¬ ljC (σ 10 0) v j = true by first | (have e9 := bi_0.mp c_11; simp [ljC, e9]; done) | (simp [ljC, c_24]; done) | simp_all [ljC])] at h
        exact h
      · refine a_iload_n dX0_leasedJob_27 rfl ?_
        exact c_iret dX0_leasedJob_28 (by rw [fhit, if_pos (show ljC (σ 10 0) v j = true by have e9 := bi_n0.mp c_11; simp_all [ljC])] at h; exact h)
set_option maxRecDepth 10000 in
theorem s_X0_leasedJob {l : Launch} {w : WW} {M : Mem} {σ : Sg} {v : Int32} : Can l w yX0_leasedJob cX0_leasedJob 3 (some .int) (rmd 2) [.ref (ad w 0 0 0), .int v] (zx w M 0 σ) (RI (leasedJ σ v) (zx w M 0 σ)) := by
  refine Can.go (ls := [some (.ref (ad w 0 0 0)), some (.int v), none]) ?_
  refine a_iconst (v := 0) dX0_leasedJob_0 (by decide) ?_
  refine a_istore_2 dX0_leasedJob_1 (by decide) ?_
  exact L_X0_leasedJob 4 (j := 0) rfl ⟨rfl, rfl⟩
set_option maxRecDepth 10000 in
theorem L_X0_passedJobs {l : Launch} {w : WW} {Φ : Option Value → XX → Prop} {M : Mem} {σ : Sg} : ∀ (n : Nat) {j : Nat} {f : Int32}, j + n = 4 → Φ (some (.int (pjI (σ 10 0) n j f))) (zx w M 0 σ) → A l w yX0_passedJobs cX0_passedJobs 3 (some .int) (rmd 1) Φ 4 [some (.ref (ad w 0 0 0)), some (.int f), some (.int (nI j))] [] (zx w M 0 σ) 0 0 := by
  intro n
  induction n with
  | zero =>
    intro j f hj h
    refine a_iload_n dX0_passedJobs_4 rfl ?_
    refine a_iconst (v := 4) dX0_passedJobs_5 (by decide) ?_
    refine a_icmp_ge (tgt := 31) dX0_passedJobs_6 (by decide) (fun c_6 => ?_) (fun c_6 => absurd (by have e6 : j = 4 := (by omega); subst e6; decide) c_6)
    refine a_iload_n dX0_passedJobs_31 rfl ?_
    exact c_iret dX0_passedJobs_32 h
  | succ n ih =>
    intro j f hj h
    refine a_iload_n dX0_passedJobs_4 rfl ?_
    refine a_iconst (v := 4) dX0_passedJobs_5 (by decide) ?_
    refine a_icmp_ge (tgt := 31) dX0_passedJobs_6 (by decide) (fun c_6 => absurd c_6 (nI_ge (b := 4) (by omega) (by omega))) (fun c_6 => ?_)
    refine a_aload_n dX0_passedJobs_9 rfl ?_
    refine c_getR (t := 0) (k := 2) dX0_passedJobs_10 kw_75 rfl ?_
    refine a_iload_n dX0_passedJobs_13 rfl ?_
    refine c_iald (i := j) dX0_passedJobs_14 rfl (show j < 4 by omega) ?_
    refine a_iconst (v := 2) dX0_passedJobs_15 (by decide) ?_
    refine a_icmp_ne (tgt := 25) dX0_passedJobs_16 (by decide) (fun c_16 => ?_) (fun c_16 => ?_)
    · refine a_iinc_2 (u := nI (j + 1)) dX0_passedJobs_25 (inc_nI j) (by decide) ?_
      refine a_goto (tgt := 4) dX0_passedJobs_28 (by decide) ?_
      refine ih (by omega) ?_
      rw [pjI] at h
      first
        | (rw [if_neg c_16] at h; exact h)
        | (rw [if_pos (Decidable.not_not.mp c_16)] at h; exact h)
        | (rw [if_pos c_16] at h; exact h)
    · refine a_iload_n dX0_passedJobs_19 rfl ?_
      refine a_iconst (v := 1) dX0_passedJobs_20 (by decide) ?_
      refine a_iload_n dX0_passedJobs_21 rfl ?_
      refine a_ishl dX0_passedJobs_22 ?_
      refine a_ior dX0_passedJobs_23 ?_
      refine a_istore_1 dX0_passedJobs_24 (by decide) ?_
      refine a_iinc_2 (u := nI (j + 1)) dX0_passedJobs_25 (inc_nI j) (by decide) ?_
      refine a_goto (tgt := 4) dX0_passedJobs_28 (by decide) ?_
      refine ih (by omega) ?_
      rw [pjI] at h
      first
        | (rw [if_neg c_16] at h; exact h)
        | (rw [if_pos (Decidable.not_not.mp c_16)] at h; exact h)
        | (rw [if_pos c_16] at h; exact h)
set_option maxRecDepth 10000 in
theorem s_X0_passedJobs {l : Launch} {w : WW} {M : Mem} {σ : Sg}  : Can l w yX0_passedJobs cX0_passedJobs 3 (some .int) (rmd 1) [.ref (ad w 0 0 0)] (zx w M 0 σ) (RI (pjI (σ 10 0) 4 0 0) (zx w M 0 σ)) := by
  refine Can.go (ls := [some (.ref (ad w 0 0 0)), none, none]) ?_
  refine a_iconst (v := 0) dX0_passedJobs_0 (by decide) ?_
  refine a_istore_1 dX0_passedJobs_1 (by decide) ?_
  refine a_iconst (v := 0) dX0_passedJobs_2 (by decide) ?_
  refine a_istore_2 dX0_passedJobs_3 (by decide) ?_
  exact L_X0_passedJobs 4 (j := 0) rfl ⟨rfl, rfl⟩
set_option maxRecDepth 10000 in
theorem L_X0_nextJob {l : Launch} {w : WW} {Φ : Option Value → XX → Prop} {M : Mem} {σ : Sg} : ∀ (n : Nat) {j : Nat}, j + n = 4 → Φ (some (.int (fhit (njC (σ 9 0 0) (σ 10 0)) n j))) (zx w M 0 σ) → A l w yX0_nextJob cX0_nextJob 2 (some .int) (rmd 2) Φ 2 [some (.ref (ad w 0 0 0)), some (.int (nI j))] [] (zx w M 0 σ) 0 0 := by
  intro n
  induction n with
  | zero =>
    intro j hj h
    refine a_iload_n dX0_nextJob_2 rfl ?_
    refine a_iconst (v := 4) dX0_nextJob_3 (by decide) ?_
    refine a_icmp_ge (tgt := 43) dX0_nextJob_4 (by decide) (fun c_4 => ?_) (fun c_4 => absurd (by have e6 : j = 4 := (by omega); subst e6; decide) c_4)
    refine a_iconst (v := (-1)) dX0_nextJob_43 (by decide) ?_
    exact c_iret dX0_nextJob_44 h
  | succ n ih =>
    intro j hj h
    refine a_iload_n dX0_nextJob_2 rfl ?_
    refine a_iconst (v := 4) dX0_nextJob_3 (by decide) ?_
    refine a_icmp_ge (tgt := 43) dX0_nextJob_4 (by decide) (fun c_4 => absurd c_4 (nI_ge (b := 4) (by omega) (by omega))) (fun c_4 => ?_)
    refine a_aload_n dX0_nextJob_7 rfl ?_
    refine c_getR (t := 0) (k := 2) dX0_nextJob_8 kw_75 rfl ?_
    refine a_iload_n dX0_nextJob_11 rfl ?_
    refine c_iald (i := j) dX0_nextJob_12 rfl (show j < 4 by omega) ?_
    refine a_iconst (v := 1) dX0_nextJob_13 (by decide) ?_
    refine a_icmp_ne (tgt := 37) dX0_nextJob_14 (by decide) (fun c_14 => ?_) (fun c_14 => ?_)
    · refine a_iinc_1 (u := nI (j + 1)) dX0_nextJob_37 (inc_nI j) (by decide) ?_
      refine a_goto (tgt := 2) dX0_nextJob_40 (by decide) ?_
      refine ih (by omega) ?_
      rw [fhit, if_neg (show ¬ njC (σ 9 0 0) (σ 10 0) j = true by first | (simp [njC, c_14]; done) | simp_all [njC])] at h
      exact h
    · refine a_aload_n dX0_nextJob_17 rfl ?_
      refine c_V0I dX0_nextJob_18 kw_232 kv_X0_pipeline s_X0_pipeline ?_
      refine a_iload_n dX0_nextJob_21 rfl ?_
      refine c_S2I dX0_nextJob_22 kw_236 ks_X3_needsOf s_X3_needsOf ?_
      refine a_aload_n dX0_nextJob_25 rfl ?_
      refine c_V0I dX0_nextJob_26 kw_240 kv_X0_passedJobs s_X0_passedJobs ?_
      refine a_iconst (v := (-1)) dX0_nextJob_29 (by decide) ?_
      refine a_ixor dX0_nextJob_30 ?_
      refine a_iand dX0_nextJob_31 ?_
      refine a_if_ne (tgt := 37) dX0_nextJob_32 (by decide) (fun c_32 => ?_) (fun c_32 => ?_)
      · refine a_iinc_1 (u := nI (j + 1)) dX0_nextJob_37 (inc_nI j) (by decide) ?_
        refine a_goto (tgt := 2) dX0_nextJob_40 (by decide) ?_
        refine ih (by omega) ?_
        rw [fhit, if_neg (show ¬ njC (σ 9 0 0) (σ 10 0) j = true by first | (simp [njC, c_14]; done) | simp_all [njC])] at h
        exact h
      · refine a_iload_n dX0_nextJob_35 rfl ?_
        exact c_iret dX0_nextJob_36 (by rw [fhit, if_pos (show njC (σ 9 0 0) (σ 10 0) j = true by simp_all [njC])] at h; exact h)
set_option maxRecDepth 10000 in
theorem s_X0_nextJob {l : Launch} {w : WW} {M : Mem} {σ : Sg}  : Can l w yX0_nextJob cX0_nextJob 2 (some .int) (rmd 2) [.ref (ad w 0 0 0)] (zx w M 0 σ) (RI (nextJ σ) (zx w M 0 σ)) := by
  refine Can.go (ls := [some (.ref (ad w 0 0 0)), none]) ?_
  refine a_iconst (v := 0) dX0_nextJob_0 (by decide) ?_
  refine a_istore_1 dX0_nextJob_1 (by decide) ?_
  exact L_X0_nextJob 4 (j := 0) rfl ⟨rfl, rfl⟩
set_option maxRecDepth 10000 in
theorem L_X0_firstF {l : Launch} {w : WW} {Φ : Option Value → XX → Prop} {M : Mem} {σ : Sg} : ∀ (n : Nat) {j : Nat}, j + n = 4 → Φ (some (.int (fhit (ffC (σ 9 0 0) (σ 10 0)) n j))) (zx w M 0 σ) → A l w yX0_firstFailedRequired cX0_firstFailedRequired 2 (some .int) (rmd 3) Φ 2 [some (.ref (ad w 0 0 0)), some (.int (nI j))] [] (zx w M 0 σ) 0 0 := by
  intro n
  induction n with
  | zero =>
    intro j hj h
    refine a_iload_n dX0_firstFailedRequired_2 rfl ?_
    refine a_iconst (v := 4) dX0_firstFailedRequired_3 (by decide) ?_
    refine a_icmp_ge (tgt := 36) dX0_firstFailedRequired_4 (by decide) (fun c_4 => ?_) (fun c_4 => absurd (by have e6 : j = 4 := (by omega); subst e6; decide) c_4)
    refine a_iconst (v := (-1)) dX0_firstFailedRequired_36 (by decide) ?_
    exact c_iret dX0_firstFailedRequired_37 h
  | succ n ih =>
    intro j hj h
    refine a_iload_n dX0_firstFailedRequired_2 rfl ?_
    refine a_iconst (v := 4) dX0_firstFailedRequired_3 (by decide) ?_
    refine a_icmp_ge (tgt := 36) dX0_firstFailedRequired_4 (by decide) (fun c_4 => absurd c_4 (nI_ge (b := 4) (by omega) (by omega))) (fun c_4 => ?_)
    refine a_aload_n dX0_firstFailedRequired_7 rfl ?_
    refine c_getR (t := 0) (k := 2) dX0_firstFailedRequired_8 kw_75 rfl ?_
    refine a_iload_n dX0_firstFailedRequired_11 rfl ?_
    refine c_iald (i := j) dX0_firstFailedRequired_12 rfl (show j < 4 by omega) ?_
    refine a_iconst (v := 3) dX0_firstFailedRequired_13 (by decide) ?_
    refine a_icmp_ne (tgt := 30) dX0_firstFailedRequired_14 (by decide) (fun c_14 => ?_) (fun c_14 => ?_)
    · refine a_iinc_1 (u := nI (j + 1)) dX0_firstFailedRequired_30 (inc_nI j) (by decide) ?_
      refine a_goto (tgt := 2) dX0_firstFailedRequired_33 (by decide) ?_
      refine ih (by omega) ?_
      rw [fhit, if_neg (show ¬ ffC (σ 9 0 0) (σ 10 0) j = true by first | (have e9 := bi_0.mp c_25; simp [ffC, e9]; done) | (simp [ffC, c_14]; done) | simp_all [ffC])] at h
      exact h
    · refine a_aload_n dX0_firstFailedRequired_17 rfl ?_
      refine c_V0I dX0_firstFailedRequired_18 kw_232 kv_X0_pipeline s_X0_pipeline ?_
      refine a_iload_n dX0_firstFailedRequired_21 rfl ?_
      refine c_S2I dX0_firstFailedRequired_22 kw_279 ks_X3_isRequired s_X3_isRequired ?_
      refine a_if_eq (tgt := 30) dX0_firstFailedRequired_25 (by decide) (fun c_25 => ?_) (fun c_25 => ?_)
      · refine a_iinc_1 (u := nI (j + 1)) dX0_firstFailedRequired_30 (inc_nI j) (by decide) ?_
        refine a_goto (tgt := 2) dX0_firstFailedRequired_33 (by decide) ?_
        refine ih (by omega) ?_
        rw [fhit, if_neg (show ¬ ffC (σ 9 0 0) (σ 10 0) j = true by first | (have e9 := bi_0.mp c_25; simp [ffC, e9]; done) | (simp [ffC, c_14]; done) | simp_all [ffC])] at h
        exact h
      · refine a_iload_n dX0_firstFailedRequired_28 rfl ?_
        exact c_iret dX0_firstFailedRequired_29 (by rw [fhit, if_pos (show ffC (σ 9 0 0) (σ 10 0) j = true by have e9 := bi_n0.mp c_25; simp_all [ffC])] at h; exact h)
set_option maxRecDepth 10000 in
theorem s_X0_firstFailedRequired {l : Launch} {w : WW} {M : Mem} {σ : Sg}  : Can l w yX0_firstFailedRequired cX0_firstFailedRequired 2 (some .int) (rmd 3) [.ref (ad w 0 0 0)] (zx w M 0 σ) (RI (firstF σ) (zx w M 0 σ)) := by
  refine Can.go (ls := [some (.ref (ad w 0 0 0)), none]) ?_
  refine a_iconst (v := 0) dX0_firstFailedRequired_0 (by decide) ?_
  refine a_istore_1 dX0_firstFailedRequired_1 (by decide) ?_
  exact L_X0_firstF 4 (j := 0) rfl ⟨rfl, rfl⟩
set_option maxRecDepth 10000 in
theorem L_X0_hasP {l : Launch} {w : WW} {Φ : Option Value → XX → Prop} {M : Mem} {σ : Sg} : ∀ (n : Nat) {j : Nat}, j + n = 4 → Φ (some (.int (bi (!anyU (hpC (σ 9 0 0) (σ 10 0)) n j)))) (zx w M 0 σ) → A l w yX0_hasPassedRequired cX0_hasPassedRequired 2 (some .boolean) (rmd 3) Φ 2 [some (.ref (ad w 0 0 0)), some (.int (nI j))] [] (zx w M 0 σ) 0 0 := by
  intro n
  induction n with
  | zero =>
    intro j hj h
    refine a_iload_n dX0_hasPassedRequired_2 rfl ?_
    refine a_iconst (v := 4) dX0_hasPassedRequired_3 (by decide) ?_
    refine a_icmp_ge (tgt := 36) dX0_hasPassedRequired_4 (by decide) (fun c_4 => ?_) (fun c_4 => absurd (by have e6 : j = 4 := (by omega); subst e6; decide) c_4)
    refine a_iconst (v := 1) dX0_hasPassedRequired_36 (by decide) ?_
    exact c_zret dX0_hasPassedRequired_37 h
  | succ n ih =>
    intro j hj h
    refine a_iload_n dX0_hasPassedRequired_2 rfl ?_
    refine a_iconst (v := 4) dX0_hasPassedRequired_3 (by decide) ?_
    refine a_icmp_ge (tgt := 36) dX0_hasPassedRequired_4 (by decide) (fun c_4 => absurd c_4 (nI_ge (b := 4) (by omega) (by omega))) (fun c_4 => ?_)
    refine a_aload_n dX0_hasPassedRequired_7 rfl ?_
    refine c_getR (t := 0) (k := 2) dX0_hasPassedRequired_8 kw_75 rfl ?_
    refine a_iload_n dX0_hasPassedRequired_11 rfl ?_
    refine c_iald (i := j) dX0_hasPassedRequired_12 rfl (show j < 4 by omega) ?_
    refine a_iconst (v := 2) dX0_hasPassedRequired_13 (by decide) ?_
    refine a_icmp_eq (tgt := 30) dX0_hasPassedRequired_14 (by decide) (fun c_14 => ?_) (fun c_14 => ?_)
    · refine a_iinc_1 (u := nI (j + 1)) dX0_hasPassedRequired_30 (inc_nI j) (by decide) ?_
      refine a_goto (tgt := 2) dX0_hasPassedRequired_33 (by decide) ?_
      refine ih (by omega) ?_
      rw [anyU, show hpC (σ 9 0 0) (σ 10 0) j = false by first | (have e9 := bi_0.mp c_25; simp [hpC, e9]; done) | (simp [hpC, c_14]; done) | simp_all [hpC], Bool.false_or] at h
      exact h
    · refine a_aload_n dX0_hasPassedRequired_17 rfl ?_
      refine c_V0I dX0_hasPassedRequired_18 kw_232 kv_X0_pipeline s_X0_pipeline ?_
      refine a_iload_n dX0_hasPassedRequired_21 rfl ?_
      refine c_S2I dX0_hasPassedRequired_22 kw_279 ks_X3_isRequired s_X3_isRequired ?_
      refine a_if_eq (tgt := 30) dX0_hasPassedRequired_25 (by decide) (fun c_25 => ?_) (fun c_25 => ?_)
      · refine a_iinc_1 (u := nI (j + 1)) dX0_hasPassedRequired_30 (inc_nI j) (by decide) ?_
        refine a_goto (tgt := 2) dX0_hasPassedRequired_33 (by decide) ?_
        refine ih (by omega) ?_
        rw [anyU, show hpC (σ 9 0 0) (σ 10 0) j = false by first | (have e9 := bi_0.mp c_25; simp [hpC, e9]; done) | (simp [hpC, c_14]; done) | simp_all [hpC], Bool.false_or] at h
        exact h
      · refine a_iconst (v := 0) dX0_hasPassedRequired_28 (by decide) ?_
        exact c_zret dX0_hasPassedRequired_29 (by rw [anyU, show hpC (σ 9 0 0) (σ 10 0) j = true by have e9 := bi_n0.mp c_25; simp_all [hpC]] at h; exact h)
set_option maxRecDepth 10000 in
theorem s_X0_hasPassedRequired {l : Launch} {w : WW} {M : Mem} {σ : Sg}  : Can l w yX0_hasPassedRequired cX0_hasPassedRequired 2 (some .boolean) (rmd 3) [.ref (ad w 0 0 0)] (zx w M 0 σ) (RI (bi (passedR σ)) (zx w M 0 σ)) := by
  refine Can.go (ls := [some (.ref (ad w 0 0 0)), none]) ?_
  refine a_iconst (v := 0) dX0_hasPassedRequired_0 (by decide) ?_
  refine a_istore_1 dX0_hasPassedRequired_1 (by decide) ?_
  exact L_X0_hasP 4 (j := 0) rfl ⟨rfl, rfl⟩
set_option maxRecDepth 10000 in
theorem s_X0_lease {l : Launch} {w : WW} {M : Mem} {σ : Sg} {j v : Nat} {e : Int32} (hj : j < 4) (hv : v < 4) : Can l w yX0_lease cX0_lease 4 none (rmd 1) [.ref (ad w 0 0 0), .int (nI j), .int (nI v), .int e] (zx w M 0 σ) (RV (zx w M 0 (leaseB σ j v e))) := by
  refine Can.go (ls := [some (.ref (ad w 0 0 0)), some (.int (nI j)), some (.int (nI v)), some (.int e)]) ?_
  refine a_aload_n dX0_lease_0 rfl ?_
  refine c_getR (t := 0) (k := 2) dX0_lease_1 kw_75 rfl ?_
  refine a_iload_n dX0_lease_4 rfl ?_
  refine a_bipush (v := 10) dX0_lease_5 (by decide) ?_
  refine a_iload_n dX0_lease_7 rfl ?_
  refine a_iadd dX0_lease_8 ?_
  refine c_iast (i := j) dX0_lease_9 rfl hj ?_
  refine a_aload_n dX0_lease_10 rfl ?_
  refine c_getR (t := 0) (k := 3) dX0_lease_11 kw_76 rfl ?_
  refine a_iload_n dX0_lease_14 rfl ?_
  refine a_dup2 dX0_lease_15 rfl rfl ?_
  refine c_iald (i := j) dX0_lease_16 rfl hj ?_
  refine a_iconst (v := 1) dX0_lease_17 (by decide) ?_
  refine a_iadd dX0_lease_18 ?_
  refine c_iast (i := j) dX0_lease_19 rfl hj ?_
  refine a_aload_n dX0_lease_20 rfl ?_
  refine c_getR (t := 0) (k := 4) dX0_lease_21 kw_77 rfl ?_
  refine a_iload_n dX0_lease_24 rfl ?_
  refine a_iload_n dX0_lease_25 rfl ?_
  refine c_iast (i := v) dX0_lease_26 rfl hv ?_
  exact c_vret dX0_lease_27 ⟨rfl, by rw [sg_t (by decide)]; rfl⟩
set_option maxRecDepth 10000 in
theorem L_X0_failJob {l : Launch} {w : WW} {Φ : Option Value → XX → Prop} {M : Mem} {σ : Sg} {i : Int32} {v1 : Option Value} : ∀ (n : Nat) {j : Nat}, j + n = 4 → A l w yX0_failJob cX0_failJob 4 none (rmd 3) Φ 41 [some (.ref (ad w 0 0 0)), v1, some (.int (failing (σ 9 0 0) i)), some (.int (nI 4))] [] (zx w M 0 (sga σ 10 0 (mixN 4 (failF (σ 9 0 0) i (σ 10 0)) (σ 10 0)))) 0 0 → A l w yX0_failJob cX0_failJob 4 none (rmd 3) Φ 15 [some (.ref (ad w 0 0 0)), v1, some (.int (failing (σ 9 0 0) i)), some (.int (nI j))] [] (zx w M 0 (sga σ 10 0 (mixN j (failF (σ 9 0 0) i (σ 10 0)) (σ 10 0)))) 0 0 := by
  intro n
  induction n with
  | zero =>
    intro j hj kk
    refine a_iload_n dX0_failJob_15 rfl ?_
    refine a_iconst (v := 4) dX0_failJob_16 (by decide) ?_
    refine a_icmp_ge (tgt := 41) dX0_failJob_17 (by decide) (fun c_17 => ?_) (fun c_17 => absurd (by have e6 : j = 4 := (by omega); subst e6; decide) c_17)
    have e6 : j = 4 := (by omega)
    subst e6
    exact kk
  | succ n ih =>
    intro j hj kk
    refine a_iload_n dX0_failJob_15 rfl ?_
    refine a_iconst (v := 4) dX0_failJob_16 (by decide) ?_
    refine a_icmp_ge (tgt := 41) dX0_failJob_17 (by decide) (fun c_17 => absurd c_17 (nI_ge (b := 4) (by omega) (by omega))) (fun c_17 => ?_)
    refine a_iload_n dX0_failJob_20 rfl ?_
    refine a_iload_n dX0_failJob_21 rfl ?_
    refine a_ishr dX0_failJob_22 ?_
    refine a_iconst (v := 1) dX0_failJob_23 (by decide) ?_
    refine a_iand dX0_failJob_24 ?_
    refine a_if_eq (tgt := 35) dX0_failJob_25 (by decide) (fun c_25 => ?_) (fun c_25 => ?_)
    · refine a_iinc_3 (u := nI (j + 1)) dX0_failJob_35 (inc_nI j) (by decide) ?_
      refine a_goto (tgt := 15) dX0_failJob_38 (by decide) ?_
      have h8 : tb (failing (σ 9 0 0) i) (nI j) = !decide ((failing (σ 9 0 0) i) >>> (nI j &&& 31) &&& 1 = 0) := rfl
      first
        | (rw [← mixN_skip (n := j) (g := (failF (σ 9 0 0) i (σ 10 0))) (f := σ 10 0) (if_neg (by rw [h8, decide_eq_true c_25]; decide))]; exact ih (by omega) kk)
        | (rw [sg_sga, ← show (failF (σ 9 0 0) i (σ 10 0)) j = 3 from if_pos (by rw [h8, decide_eq_false c_25]; rfl), mixN_up]; exact ih (by omega) kk)
    · refine a_aload_n dX0_failJob_28 rfl ?_
      refine c_getR (t := 0) (k := 2) dX0_failJob_29 kw_75 rfl ?_
      refine a_iload_n dX0_failJob_32 rfl ?_
      refine a_iconst (v := 3) dX0_failJob_33 (by decide) ?_
      refine c_iast (i := j) dX0_failJob_34 rfl (show j < 4 by omega) ?_
      refine a_iinc_3 (u := nI (j + 1)) dX0_failJob_35 (inc_nI j) (by decide) ?_
      refine a_goto (tgt := 15) dX0_failJob_38 (by decide) ?_
      have h8 : tb (failing (σ 9 0 0) i) (nI j) = !decide ((failing (σ 9 0 0) i) >>> (nI j &&& 31) &&& 1 = 0) := rfl
      first
        | (rw [← mixN_skip (n := j) (g := (failF (σ 9 0 0) i (σ 10 0))) (f := σ 10 0) (if_neg (by rw [h8, decide_eq_true c_25]; decide))]; exact ih (by omega) kk)
        | (rw [sg_sga, ← show (failF (σ 9 0 0) i (σ 10 0)) j = 3 from if_pos (by rw [h8, decide_eq_false c_25]; rfl), mixN_up]; exact ih (by omega) kk)
set_option maxRecDepth 10000 in
theorem s_X0_failJob {l : Launch} {w : WW} {M : Mem} {σ : Sg} {i : Int32} : Can l w yX0_failJob cX0_failJob 4 none (rmd 3) [.ref (ad w 0 0 0), .int i] (zx w M 0 σ) (RV (zx w M 0 (failJ σ i))) := by
  refine Can.go (ls := [some (.ref (ad w 0 0 0)), some (.int i), none, none]) ?_
  refine a_aload_n dX0_failJob_0 rfl ?_
  refine c_V0I dX0_failJob_1 kw_232 kv_X0_pipeline s_X0_pipeline ?_
  refine a_iload_n dX0_failJob_4 rfl ?_
  refine c_S2I dX0_failJob_5 kw_263 ks_X3_allThatNeed s_X3_allThatNeed ?_
  refine a_iconst (v := 1) dX0_failJob_8 (by decide) ?_
  refine a_iload_n dX0_failJob_9 rfl ?_
  refine a_ishl dX0_failJob_10 ?_
  refine a_ior dX0_failJob_11 ?_
  refine a_istore_2 dX0_failJob_12 (by decide) ?_
  refine a_iconst (v := 0) dX0_failJob_13 (by decide) ?_
  refine a_istore_3 dX0_failJob_14 (by decide) ?_
  refine a_eq (x' := zx w M 0 (sga σ 10 0 (mixN 0 (failF (σ 9 0 0) i (σ 10 0)) (σ 10 0)))) (by rw [mixN_0, sga_eta]) ?_
  refine L_X0_failJob 4 rfl ?_
  refine c_junk (M' := M) (σ' := failJ σ i) (junkA (by decide) (fun k hk => (if_pos hk).symm)) ?_
  exact c_vret dX0_failJob_41 ⟨rfl, rfl⟩
set_option maxRecDepth 10000 in
theorem s_X0_expireLease {l : Launch} {w : WW} {M : Mem} {σ : Sg} {j : Nat} {m : Int32} (hj : j < 4) : Can l w yX0_expireLease cX0_expireLease 3 none (rmd 4) [.ref (ad w 0 0 0), .int (nI j), .int m] (zx w M 0 σ) (RV (zx w M 0 (expireB σ j m))) := by
  refine Can.go (ls := [some (.ref (ad w 0 0 0)), some (.int (nI j)), some (.int m)]) ?_
  refine a_aload_n dX0_expireLease_0 rfl ?_
  refine c_getR (t := 0) (k := 3) dX0_expireLease_1 kw_76 rfl ?_
  refine a_iload_n dX0_expireLease_4 rfl ?_
  refine c_iald (i := j) dX0_expireLease_5 rfl hj ?_
  refine a_iload_n dX0_expireLease_6 rfl ?_
  refine a_icmp_lt (tgt := 18) dX0_expireLease_7 (by decide) (fun c_7 => ?_) (fun c_7 => ?_)
  · refine a_aload_n dX0_expireLease_18 rfl ?_
    refine c_getR (t := 0) (k := 2) dX0_expireLease_19 kw_75 rfl ?_
    refine a_iload_n dX0_expireLease_22 rfl ?_
    refine a_iconst (v := 1) dX0_expireLease_23 (by decide) ?_
    refine c_iast (i := j) dX0_expireLease_24 rfl hj ?_
    exact c_vret dX0_expireLease_25 ⟨rfl, by first | rw [expireB, if_pos c_7] | rw [expireB, if_neg c_7]⟩
  · refine a_aload_n dX0_expireLease_10 rfl ?_
    refine a_iload_n dX0_expireLease_11 rfl ?_
    refine c_V1V dX0_expireLease_12 kw_331 kv_X0_failJob s_X0_failJob ?_
    refine a_goto (tgt := 25) dX0_expireLease_15 (by decide) ?_
    exact c_vret dX0_expireLease_25 ⟨rfl, by first | rw [expireB, if_pos c_7] | rw [expireB, if_neg c_7]⟩
