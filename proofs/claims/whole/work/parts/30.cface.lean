/-! the face of GatedTrunk -/
def ClsE (z : Nat → Int32) (E : List Ent) (F kd : Nat) (a b c : Int32) (M N : Mem) : Prop := (if Acc z kd a b (runE z E) = true then ClsI z (E ++ [(kd, a, b, c)]) (nFl E F) N else ClsI z E F N) ∧ C4 M N
theorem nFl_lt {E : List Ent} {F : Nat} (h : E.length ≤ F + 16) : E.length - nFl E F < 16 := by
  unfold nFl
  split <;> omega
theorem nFl_le {E : List Ent} {F : Nat} (h : F ≤ E.length) : nFl E F ≤ E.length := by
  unfold nFl
  split <;> omega
theorem C4_rf (M : Mem) : C4 M M := fun _ _ _ => rfl
theorem Cls_step {z : Nat → Int32} {E : List Ent} {F kd : Nat} {a b c : Int32} {M N : Mem} (h : ClsI z E F M) (hL : LgI z E F M N (nI kd) a (cbk kd b) c) (hk : kd ≤ 9) : ClsI z (E ++ [(kd, a, b, c)]) (nFl E F) (up1 N 0 (stL z (kd, a, b, c) (runE z E))) ∧ C4 M (up1 N 0 (stL z (kd, a, b, c) (runE z E))) := by
  obtain ⟨h0, h1, hFE, h16, h3, hev, hzz⟩ := h
  obtain ⟨n0, n1, n3, e0, e1, e2, e3, nj, n4⟩ := hL
  have hle := nFl_le hFE
  refine ⟨⟨by rw [up1_same, runE_snoc], by rw [up1_ne (by decide), List.take_append_of_le_length hle]; exact n1, by simp; omega, ?_, ?_, fun i e hi => ?_, ?_⟩, fun t t2 t6 => by rw [up1_ne (by decide)]; exact n4 t t2 t6⟩
  · simp only [List.length_append, List.length_cons, List.length_nil]
    unfold nFl at *
    split <;> omega
  · rw [up1_ne (by decide), n3]
    simp only [List.length_append, List.length_cons, List.length_nil]
    congr 1
    omega
  · rw [up1_ne (by decide)]
    rw [List.getElem?_append] at hi
    split at hi
    · rename_i hl
      have hn : nFl E F = F := by
        unfold nFl at *
        split
        · rename_i q
          rw [if_pos q] at hl
          omega
        · rfl
      rw [hn] at hi hl nj
      obtain ⟨q1, q2⟩ := hev i e hi
      refine ⟨q1, ?_⟩
      unfold Evt at *
      rw [nj i (by omega)]
      exact q2
    · rename_i hl
      have h0 : nFl E F + i - E.length = 0 := by
        rcases Nat.eq_zero_or_pos (nFl E F + i - E.length) with q | q
        · exact q
        · rw [List.getElem?_eq_none (by simp; omega)] at hi; cases hi
      rw [h0] at hi
      have : (kd, a, b, c) = e := by simpa using hi
      subst this
      have hi2 : i = E.length - nFl E F := by omega
      subst hi2
      exact ⟨hk, e0, e1, e2, e3⟩
  · rw [up1_ne (by decide), n4 4 (by decide) (by decide)]
    exact hzz
theorem ce_y {z : Nat → Int32} {E : List Ent} {F kd : Nat} {a b c : Int32} {M N : Mem} (ha : Acc z kd a b (runE z E) = true) (h : ClsI z (E ++ [(kd, a, b, c)]) (nFl E F) N ∧ C4 M N) : ClsE z E F kd a b c M N := ⟨by rw [if_pos ha]; exact h.1, h.2⟩
theorem ce_n {z : Nat → Int32} {E : List Ent} {F kd : Nat} {a b c : Int32} {M : Mem} (ha : Acc z kd a b (runE z E) = false) (h : ClsI z E F M) : ClsE z E F kd a b c M M := ⟨by rw [if_neg (by rw [ha]; decide)]; exact h, C4_rf M⟩
theorem c_V4L {l : Launch} {w : WW} {y : MethodName} {cc : ByteArray} {nL : Nat} {ret : Option FieldType} {d : Nat} {Φ : Option Value → XX → Prop} {pc : Nat} {ls : List (Option Value)} {st : List Value} {u t c : Nat} {y' : MethodName} {cc' : ByteArray} {nL' : Nat} {ret' : Option FieldType} {d' idx q : Nat} {M0 : Mem} {R0 : RMem} {v1 v2 v3 v4 : Value} {Q : Mem → Prop} (hdg : decode cc pc = .ok (.invokevirtual idx, 3)) (hl : Cond.methodLink y.cls idx y' ∈ TBL) (hK : KV y' cc' nL' ret' 4) (hM : Can l w y' cc' nL' ret' (rmd d') [.ref (ad w u t c), v1, v2, v3, v4] (M0, R0, 158) (fun v x => v = some (.ref q) ∧ ∃ N, x = mx w N ∧ Q N)) (kk : ∀ N, Q N → A l w y cc nL ret (rmd d) Φ (pc + 3) ls (.ref q :: st) (mx w N) 0 0) (ht : t < 8 := by first | decide | assumption) (hcl : CC t = y'.cls := by first | rfl | assumption) (ho : rl u t c = true := by first | rfl | assumption) (hR : (rmd d').frames + 1 ≤ (rmd d).frames ∧ 8 + (nL' + 11) + (rmd d').locals ≤ (rmd d).locals := by decide) (hW : (st.map fun v => v.category).sum ≤ 8 := by exact Nat.le_of_ble_eq_true rfl) : A l w y cc nL ret (rmd d) Φ pc ls (v4 :: v3 :: v2 :: v1 :: .ref (ad w u t c) :: st) (M0, R0, 158) 0 0 :=
  c_V4G hdg hl hK hM (fun v z h => by obtain ⟨rfl, N, rfl, h1⟩ := h; exact kk N h1) ht hcl ho hR hW
set_option maxRecDepth 10000 in
theorem s_X7_open {l : Launch} {w : WW} {M : Mem} {z : Nat → Int32} {E : List Ent} {F : Nat} (hz : Zv z) (h : ClsI z E F M) (hE : okE z E) (hl : E.length ≤ 500) : Can l w yX7_open cX7_open 1 (some .int) (rmd 7) [.ref (ad w 2 6 0)] (mx w M) (RM w (if Acc z 0 0 0 (runE z E) = true then ansR z 0 0 (runE z E) else -1) (fun N => ClsE z E F 0 0 0 0 M N)) := by
  refine Can.go (ls := [some (.ref (ad w 2 6 0))]) ?_
  have hG := Gk_all hz hE (by omega)
  obtain ⟨h0, h1, hFE, h16, h3, hev, hzz⟩ := id h
  have hC : Cn (runE z E) := hG.1.elim fun qs h => h.elim fun ps hW => hW.1.1
  refine a_eq (x' := zx w M 0 (runE z E)) (by rw [← h0]; exact mx_0 w M 0) ?_
  refine a_aload_n dX7_open_0 rfl ?_
  refine c_getR (t := 6) (k := 0) dX7_open_1 kw_26 rfl ?_
  refine c_getI (t := 5) (k := 4) dX7_open_4 kw_130 ?_
  rw [hC.1]
  refine a_bipush (v := 16) dX7_open_7 (by decide) ?_
  refine a_icmp_lt (tgt := 14) dX7_open_9 (by decide) (fun c_9 => ?_) (fun c_9 => ?_)
  · refine a_aload_n dX7_open_14 rfl ?_
    refine c_getR (t := 6) (k := 0) dX7_open_15 kw_26 rfl ?_
    refine a_aload_n dX7_open_18 rfl ?_
    refine a_iconst (v := 0) dX7_open_19 (by decide) ?_
    refine a_iconst (v := 0) dX7_open_20 (by decide) ?_
    refine a_iconst (v := 0) dX7_open_21 (by decide) ?_
    refine a_iconst (v := 0) dX7_open_22 (by decide) ?_
    have ha : Acc z 0 0 0 (runE z E) = true := (decide_eq_true (by
        rcases Nat.lt_or_ge (cn (runE z E)) 16 with q | q
        · exact q
        · exact absurd c_9 (nI_nlt (b := 16) q (by have := hC.2; omega))))
    refine a_eq (x' := mx w M) (by rw [← h0]; exact (mx_0 w M 0).symm) ?_
    refine c_V4L dX7_open_23 kw_131 kv_X7_logged (s_X7_logged h) (fun N h_23 => ?_)
    have hS := Cls_step (kd := 0) (a := 0) (b := 0) (c := 0) h h_23 (by decide)
    obtain ⟨n0, n1, n3, e0, e1, e2, e3, nj, n4⟩ := id h_23
    refine a_eq (x' := zx w N 0 (runE z E)) (by rw [← h0, ← n0]; exact mx_0 w N 0) ?_
    refine c_V1I dX7_open_26 kw_174 kv_X6_carryOut (s_carry (kd := 0) (a := 0) (b := 0) (c := 0) hz (by rw [n4 4 (by decide) (by decide)]; exact hzz) (nFl_lt h16) (by decide) ⟨e0, e1, e2, e3⟩ hG (by omega) ha) ?_
    exact c_iret dX7_open_29 ⟨by rw [ha]; rfl, _, rfl, ce_y ha hS⟩
  · refine a_iconst (v := (-1)) dX7_open_12 (by decide) ?_
    exact c_iret dX7_open_13 (by
        have hn : Acc z 0 0 0 (runE z E) = false := by
          first
            | exact decide_eq_false (fun q => c_9 (nI_lt q (by decide)))
        exact ⟨by rw [hn]; rfl, M, by rw [← h0]; exact (mx_0 w M 0).symm, ce_n hn h⟩)
set_option maxRecDepth 10000 in
theorem s_X7_push {l : Launch} {w : WW} {M : Mem} {z : Nat → Int32} {E : List Ent} {F : Nat} (hz : Zv z) (h : ClsI z E F M) (hE : okE z E) (hl : E.length ≤ 500) {a b c : Int32} : Can l w yX7_push cX7_push 4 (some .boolean) (rmd 7) [.ref (ad w 2 6 0), .int a, .int b, .int c] (mx w M) (RM w (bi (Acc z 1 a b (runE z E))) (fun N => ClsE z E F 1 a b c M N)) := by
  refine Can.go (ls := [some (.ref (ad w 2 6 0)), some (.int a), some (.int b), some (.int c)]) ?_
  have hG := Gk_all hz hE (by omega)
  obtain ⟨h0, h1, hFE, h16, h3, hev, hzz⟩ := id h
  have hC : Cn (runE z E) := hG.1.elim fun qs h => h.elim fun ps hW => hW.1.1
  refine a_eq (x' := zx w M 0 (runE z E)) (by rw [← h0]; exact mx_0 w M 0) ?_
  refine a_aload_n dX7_push_0 rfl ?_
  refine c_getR (t := 6) (k := 0) dX7_push_1 kw_26 rfl ?_
  refine a_iload_n dX7_push_4 rfl ?_
  refine c_V1I dX7_push_5 kw_537 kv_X6_isOpen (s_X6_isOpen hC) ?_
  refine a_if_eq (tgt := 18) dX7_push_8 (by decide) (fun c_8 => ?_) (fun c_8 => ?_)
  · refine a_iconst (v := 0) dX7_push_18 (by decide) ?_
    exact c_zret dX7_push_19 (by
        have hn : Acc z 1 a b (runE z E) = false := by
          first
            | (show (opB (runE z E) a && inr b 6) = false; rw [bi_0.mp c_8, Bool.false_and])
            | (show (opB (runE z E) a && inr b 6) = false; rw [bi_0.mp c_15, Bool.and_false])
        exact ⟨by rw [hn]; rfl, M, by rw [← h0]; exact (mx_0 w M 0).symm, ce_n hn h⟩)
  · refine a_iload_n dX7_push_11 rfl ?_
    refine c_S1I dX7_push_12 kw_542 ks_X7_isPath s_X7_isPath ?_
    refine a_if_ne (tgt := 20) dX7_push_15 (by decide) (fun c_15 => ?_) (fun c_15 => ?_)
    · refine a_aload_n dX7_push_20 rfl ?_
      refine c_getR (t := 6) (k := 0) dX7_push_21 kw_26 rfl ?_
      refine a_aload_n dX7_push_24 rfl ?_
      refine a_iconst (v := 1) dX7_push_25 (by decide) ?_
      refine a_iload_n dX7_push_26 rfl ?_
      refine a_iload_n dX7_push_27 rfl ?_
      refine a_iload_n dX7_push_28 rfl ?_
      have ha : Acc z 1 a b (runE z E) = true := (show (opB (runE z E) a && inr b 6) = true by rw [bi_n0.mp c_8, bi_n0.mp c_15]; rfl)
      refine a_eq (x' := mx w M) (by rw [← h0]; exact (mx_0 w M 0).symm) ?_
      refine c_V4L dX7_push_29 kw_131 kv_X7_logged (s_X7_logged h) (fun N h_29 => ?_)
      have hS := Cls_step (kd := 1) (a := a) (b := b) (c := c) h h_29 (by decide)
      obtain ⟨n0, n1, n3, e0, e1, e2, e3, nj, n4⟩ := id h_29
      refine a_eq (x' := zx w N 0 (runE z E)) (by rw [← h0, ← n0]; exact mx_0 w N 0) ?_
      refine c_V1I dX7_push_32 kw_174 kv_X6_carryOut (s_carry (kd := 1) (a := a) (b := b) (c := c) hz (by rw [n4 4 (by decide) (by decide)]; exact hzz) (nFl_lt h16) (by decide) ⟨e0, e1, e2, e3⟩ hG (by omega) ha) ?_
      refine a_pop dX7_push_35 rfl ?_
      refine a_iconst (v := 1) dX7_push_36 (by decide) ?_
      exact c_zret dX7_push_37 ⟨by rw [ha]; rfl, _, rfl, ce_y ha hS⟩
    · refine a_iconst (v := 0) dX7_push_18 (by decide) ?_
      exact c_zret dX7_push_19 (by
          have hn : Acc z 1 a b (runE z E) = false := by
            first
              | (show (opB (runE z E) a && inr b 6) = false; rw [bi_0.mp c_8, Bool.false_and])
              | (show (opB (runE z E) a && inr b 6) = false; rw [bi_0.mp c_15, Bool.and_false])
          exact ⟨by rw [hn]; rfl, M, by rw [← h0]; exact (mx_0 w M 0).symm, ce_n hn h⟩)
set_option maxRecDepth 10000 in
theorem s_X7_approve {l : Launch} {w : WW} {M : Mem} {z : Nat → Int32} {E : List Ent} {F : Nat} (hz : Zv z) (h : ClsI z E F M) (hE : okE z E) (hl : E.length ≤ 500) {a b : Int32} : Can l w yX7_approve cX7_approve 3 (some .boolean) (rmd 7) [.ref (ad w 2 6 0), .int a, .int b] (mx w M) (RM w (bi (Acc z 2 a b (runE z E))) (fun N => ClsE z E F 2 a b 0 M N)) := by
  refine Can.go (ls := [some (.ref (ad w 2 6 0)), some (.int a), some (.int b)]) ?_
  have hG := Gk_all hz hE (by omega)
  obtain ⟨h0, h1, hFE, h16, h3, hev, hzz⟩ := id h
  have hC : Cn (runE z E) := hG.1.elim fun qs h => h.elim fun ps hW => hW.1.1
  refine a_eq (x' := zx w M 0 (runE z E)) (by rw [← h0]; exact mx_0 w M 0) ?_
  refine a_aload_n dX7_approve_0 rfl ?_
  refine c_getR (t := 6) (k := 0) dX7_approve_1 kw_26 rfl ?_
  refine a_iload_n dX7_approve_4 rfl ?_
  refine c_V1I dX7_approve_5 kw_537 kv_X6_isOpen (s_X6_isOpen hC) ?_
  refine a_if_eq (tgt := 18) dX7_approve_8 (by decide) (fun c_8 => ?_) (fun c_8 => ?_)
  · refine a_iconst (v := 0) dX7_approve_18 (by decide) ?_
    exact c_zret dX7_approve_19 (by
        have hn : Acc z 2 a b (runE z E) = false := by
          first
            | (show (opB (runE z E) a && inr b 8) = false; rw [bi_0.mp c_8, Bool.false_and])
            | (show (opB (runE z E) a && inr b 8) = false; rw [bi_0.mp c_15, Bool.and_false])
        exact ⟨by rw [hn]; rfl, M, by rw [← h0]; exact (mx_0 w M 0).symm, ce_n hn h⟩)
  · refine a_iload_n dX7_approve_11 rfl ?_
    refine c_S1I dX7_approve_12 kw_553 ks_X7_isReviewer s_X7_isReviewer ?_
    refine a_if_ne (tgt := 20) dX7_approve_15 (by decide) (fun c_15 => ?_) (fun c_15 => ?_)
    · refine a_aload_n dX7_approve_20 rfl ?_
      refine c_getR (t := 6) (k := 0) dX7_approve_21 kw_26 rfl ?_
      refine a_aload_n dX7_approve_24 rfl ?_
      refine a_iconst (v := 2) dX7_approve_25 (by decide) ?_
      refine a_iload_n dX7_approve_26 rfl ?_
      refine a_iload_n dX7_approve_27 rfl ?_
      refine a_iconst (v := 0) dX7_approve_28 (by decide) ?_
      have ha : Acc z 2 a b (runE z E) = true := (show (opB (runE z E) a && inr b 8) = true by rw [bi_n0.mp c_8, bi_n0.mp c_15]; rfl)
      refine a_eq (x' := mx w M) (by rw [← h0]; exact (mx_0 w M 0).symm) ?_
      refine c_V4L dX7_approve_29 kw_131 kv_X7_logged (s_X7_logged h) (fun N h_29 => ?_)
      have hS := Cls_step (kd := 2) (a := a) (b := b) (c := 0) h h_29 (by decide)
      obtain ⟨n0, n1, n3, e0, e1, e2, e3, nj, n4⟩ := id h_29
      refine a_eq (x' := zx w N 0 (runE z E)) (by rw [← h0, ← n0]; exact mx_0 w N 0) ?_
      refine c_V1I dX7_approve_32 kw_174 kv_X6_carryOut (s_carry (kd := 2) (a := a) (b := b) (c := 0) hz (by rw [n4 4 (by decide) (by decide)]; exact hzz) (nFl_lt h16) (by decide) ⟨e0, e1, e2, e3⟩ hG (by omega) ha) ?_
      refine a_pop dX7_approve_35 rfl ?_
      refine a_iconst (v := 1) dX7_approve_36 (by decide) ?_
      exact c_zret dX7_approve_37 ⟨by rw [ha]; rfl, _, rfl, ce_y ha hS⟩
    · refine a_iconst (v := 0) dX7_approve_18 (by decide) ?_
      exact c_zret dX7_approve_19 (by
          have hn : Acc z 2 a b (runE z E) = false := by
            first
              | (show (opB (runE z E) a && inr b 8) = false; rw [bi_0.mp c_8, Bool.false_and])
              | (show (opB (runE z E) a && inr b 8) = false; rw [bi_0.mp c_15, Bool.and_false])
          exact ⟨by rw [hn]; rfl, M, by rw [← h0]; exact (mx_0 w M 0).symm, ce_n hn h⟩)
set_option maxRecDepth 10000 in
theorem s_X7_object {l : Launch} {w : WW} {M : Mem} {z : Nat → Int32} {E : List Ent} {F : Nat} (hz : Zv z) (h : ClsI z E F M) (hE : okE z E) (hl : E.length ≤ 500) {a b : Int32} : Can l w yX7_object cX7_object 3 (some .boolean) (rmd 7) [.ref (ad w 2 6 0), .int a, .int b] (mx w M) (RM w (bi (Acc z 3 a b (runE z E))) (fun N => ClsE z E F 3 a b 0 M N)) := by
  refine Can.go (ls := [some (.ref (ad w 2 6 0)), some (.int a), some (.int b)]) ?_
  have hG := Gk_all hz hE (by omega)
  obtain ⟨h0, h1, hFE, h16, h3, hev, hzz⟩ := id h
  have hC : Cn (runE z E) := hG.1.elim fun qs h => h.elim fun ps hW => hW.1.1
  refine a_eq (x' := zx w M 0 (runE z E)) (by rw [← h0]; exact mx_0 w M 0) ?_
  refine a_aload_n dX7_object_0 rfl ?_
  refine c_getR (t := 6) (k := 0) dX7_object_1 kw_26 rfl ?_
  refine a_iload_n dX7_object_4 rfl ?_
  refine c_V1I dX7_object_5 kw_537 kv_X6_isOpen (s_X6_isOpen hC) ?_
  refine a_if_eq (tgt := 18) dX7_object_8 (by decide) (fun c_8 => ?_) (fun c_8 => ?_)
  · refine a_iconst (v := 0) dX7_object_18 (by decide) ?_
    exact c_zret dX7_object_19 (by
        have hn : Acc z 3 a b (runE z E) = false := by
          first
            | (show (opB (runE z E) a && inr b 8) = false; rw [bi_0.mp c_8, Bool.false_and])
            | (show (opB (runE z E) a && inr b 8) = false; rw [bi_0.mp c_15, Bool.and_false])
        exact ⟨by rw [hn]; rfl, M, by rw [← h0]; exact (mx_0 w M 0).symm, ce_n hn h⟩)
  · refine a_iload_n dX7_object_11 rfl ?_
    refine c_S1I dX7_object_12 kw_553 ks_X7_isReviewer s_X7_isReviewer ?_
    refine a_if_ne (tgt := 20) dX7_object_15 (by decide) (fun c_15 => ?_) (fun c_15 => ?_)
    · refine a_aload_n dX7_object_20 rfl ?_
      refine c_getR (t := 6) (k := 0) dX7_object_21 kw_26 rfl ?_
      refine a_aload_n dX7_object_24 rfl ?_
      refine a_iconst (v := 3) dX7_object_25 (by decide) ?_
      refine a_iload_n dX7_object_26 rfl ?_
      refine a_iload_n dX7_object_27 rfl ?_
      refine a_iconst (v := 0) dX7_object_28 (by decide) ?_
      have ha : Acc z 3 a b (runE z E) = true := (show (opB (runE z E) a && inr b 8) = true by rw [bi_n0.mp c_8, bi_n0.mp c_15]; rfl)
      refine a_eq (x' := mx w M) (by rw [← h0]; exact (mx_0 w M 0).symm) ?_
      refine c_V4L dX7_object_29 kw_131 kv_X7_logged (s_X7_logged h) (fun N h_29 => ?_)
      have hS := Cls_step (kd := 3) (a := a) (b := b) (c := 0) h h_29 (by decide)
      obtain ⟨n0, n1, n3, e0, e1, e2, e3, nj, n4⟩ := id h_29
      refine a_eq (x' := zx w N 0 (runE z E)) (by rw [← h0, ← n0]; exact mx_0 w N 0) ?_
      refine c_V1I dX7_object_32 kw_174 kv_X6_carryOut (s_carry (kd := 3) (a := a) (b := b) (c := 0) hz (by rw [n4 4 (by decide) (by decide)]; exact hzz) (nFl_lt h16) (by decide) ⟨e0, e1, e2, e3⟩ hG (by omega) ha) ?_
      refine a_pop dX7_object_35 rfl ?_
      refine a_iconst (v := 1) dX7_object_36 (by decide) ?_
      exact c_zret dX7_object_37 ⟨by rw [ha]; rfl, _, rfl, ce_y ha hS⟩
    · refine a_iconst (v := 0) dX7_object_18 (by decide) ?_
      exact c_zret dX7_object_19 (by
          have hn : Acc z 3 a b (runE z E) = false := by
            first
              | (show (opB (runE z E) a && inr b 8) = false; rw [bi_0.mp c_8, Bool.false_and])
              | (show (opB (runE z E) a && inr b 8) = false; rw [bi_0.mp c_15, Bool.and_false])
          exact ⟨by rw [hn]; rfl, M, by rw [← h0]; exact (mx_0 w M 0).symm, ce_n hn h⟩)
set_option maxRecDepth 10000 in
theorem s_X7_close {l : Launch} {w : WW} {M : Mem} {z : Nat → Int32} {E : List Ent} {F : Nat} (hz : Zv z) (h : ClsI z E F M) (hE : okE z E) (hl : E.length ≤ 500) {a : Int32} : Can l w yX7_close cX7_close 2 (some .boolean) (rmd 7) [.ref (ad w 2 6 0), .int a] (mx w M) (RM w (bi (Acc z 4 a 0 (runE z E))) (fun N => ClsE z E F 4 a 0 0 M N)) := by
  refine Can.go (ls := [some (.ref (ad w 2 6 0)), some (.int a)]) ?_
  have hG := Gk_all hz hE (by omega)
  obtain ⟨h0, h1, hFE, h16, h3, hev, hzz⟩ := id h
  have hC : Cn (runE z E) := hG.1.elim fun qs h => h.elim fun ps hW => hW.1.1
  refine a_eq (x' := zx w M 0 (runE z E)) (by rw [← h0]; exact mx_0 w M 0) ?_
  refine a_aload_n dX7_close_0 rfl ?_
  refine c_getR (t := 6) (k := 0) dX7_close_1 kw_26 rfl ?_
  refine a_iload_n dX7_close_4 rfl ?_
  refine c_V1I dX7_close_5 kw_572 kv_X6_isOpenOrRejected (s_X6_isOpenOrRejected hC) ?_
  refine a_if_ne (tgt := 13) dX7_close_8 (by decide) (fun c_8 => ?_) (fun c_8 => ?_)
  · refine a_aload_n dX7_close_13 rfl ?_
    refine c_getR (t := 6) (k := 0) dX7_close_14 kw_26 rfl ?_
    refine a_aload_n dX7_close_17 rfl ?_
    refine a_iconst (v := 4) dX7_close_18 (by decide) ?_
    refine a_iload_n dX7_close_19 rfl ?_
    refine a_iconst (v := 0) dX7_close_20 (by decide) ?_
    refine a_iconst (v := 0) dX7_close_21 (by decide) ?_
    have ha : Acc z 4 a 0 (runE z E) = true := bi_n0.mp c_8
    refine a_eq (x' := mx w M) (by rw [← h0]; exact (mx_0 w M 0).symm) ?_
    refine c_V4L dX7_close_22 kw_131 kv_X7_logged (s_X7_logged h) (fun N h_22 => ?_)
    have hS := Cls_step (kd := 4) (a := a) (b := 0) (c := 0) h h_22 (by decide)
    obtain ⟨n0, n1, n3, e0, e1, e2, e3, nj, n4⟩ := id h_22
    refine a_eq (x' := zx w N 0 (runE z E)) (by rw [← h0, ← n0]; exact mx_0 w N 0) ?_
    refine c_V1I dX7_close_25 kw_174 kv_X6_carryOut (s_carry (kd := 4) (a := a) (b := 0) (c := 0) hz (by rw [n4 4 (by decide) (by decide)]; exact hzz) (nFl_lt h16) (by decide) ⟨e0, e1, e2, e3⟩ hG (by omega) ha) ?_
    refine a_pop dX7_close_28 rfl ?_
    refine a_iconst (v := 1) dX7_close_29 (by decide) ?_
    exact c_zret dX7_close_30 ⟨by rw [ha]; rfl, _, rfl, ce_y ha hS⟩
  · refine a_iconst (v := 0) dX7_close_11 (by decide) ?_
    exact c_zret dX7_close_12 (by
        have hn : Acc z 4 a 0 (runE z E) = false := by
          first
            | exact bi_0.mp c_8
        exact ⟨by rw [hn]; rfl, M, by rw [← h0]; exact (mx_0 w M 0).symm, ce_n hn h⟩)
set_option maxRecDepth 10000 in
theorem s_X7_enqueue {l : Launch} {w : WW} {M : Mem} {z : Nat → Int32} {E : List Ent} {F : Nat} (hz : Zv z) (h : ClsI z E F M) (hE : okE z E) (hl : E.length ≤ 500) {a : Int32} : Can l w yX7_enqueue cX7_enqueue 2 (some .boolean) (rmd 7) [.ref (ad w 2 6 0), .int a] (mx w M) (RM w (bi (Acc z 5 a 0 (runE z E))) (fun N => ClsE z E F 5 a 0 0 M N)) := by
  refine Can.go (ls := [some (.ref (ad w 2 6 0)), some (.int a)]) ?_
  have hG := Gk_all hz hE (by omega)
  obtain ⟨h0, h1, hFE, h16, h3, hev, hzz⟩ := id h
  have hC : Cn (runE z E) := hG.1.elim fun qs h => h.elim fun ps hW => hW.1.1
  refine a_eq (x' := zx w M 0 (runE z E)) (by rw [← h0]; exact mx_0 w M 0) ?_
  refine a_aload_n dX7_enqueue_0 rfl ?_
  refine c_getR (t := 6) (k := 0) dX7_enqueue_1 kw_26 rfl ?_
  refine a_iload_n dX7_enqueue_4 rfl ?_
  refine c_V1I dX7_enqueue_5 kw_585 kv_X6_mayBeQueued (s_X6_mayBeQueued hC) ?_
  rw [show M 2 4 0 0 = z 0 by rw [hzz]]
  refine a_if_ne (tgt := 13) dX7_enqueue_8 (by decide) (fun c_8 => ?_) (fun c_8 => ?_)
  · refine a_aload_n dX7_enqueue_13 rfl ?_
    refine c_getR (t := 6) (k := 0) dX7_enqueue_14 kw_26 rfl ?_
    refine a_aload_n dX7_enqueue_17 rfl ?_
    refine a_iconst (v := 5) dX7_enqueue_18 (by decide) ?_
    refine a_iload_n dX7_enqueue_19 rfl ?_
    refine a_iconst (v := 0) dX7_enqueue_20 (by decide) ?_
    refine a_iconst (v := 0) dX7_enqueue_21 (by decide) ?_
    have ha : Acc z 5 a 0 (runE z E) = true := bi_n0.mp c_8
    refine a_eq (x' := mx w M) (by rw [← h0]; exact (mx_0 w M 0).symm) ?_
    refine c_V4L dX7_enqueue_22 kw_131 kv_X7_logged (s_X7_logged h) (fun N h_22 => ?_)
    have hS := Cls_step (kd := 5) (a := a) (b := 0) (c := 0) h h_22 (by decide)
    obtain ⟨n0, n1, n3, e0, e1, e2, e3, nj, n4⟩ := id h_22
    refine a_eq (x' := zx w N 0 (runE z E)) (by rw [← h0, ← n0]; exact mx_0 w N 0) ?_
    refine c_V1I dX7_enqueue_25 kw_174 kv_X6_carryOut (s_carry (kd := 5) (a := a) (b := 0) (c := 0) hz (by rw [n4 4 (by decide) (by decide)]; exact hzz) (nFl_lt h16) (by decide) ⟨e0, e1, e2, e3⟩ hG (by omega) ha) ?_
    refine a_pop dX7_enqueue_28 rfl ?_
    refine a_iconst (v := 1) dX7_enqueue_29 (by decide) ?_
    exact c_zret dX7_enqueue_30 ⟨by rw [ha]; rfl, _, rfl, ce_y ha hS⟩
  · refine a_iconst (v := 0) dX7_enqueue_11 (by decide) ?_
    exact c_zret dX7_enqueue_12 (by
        have hn : Acc z 5 a 0 (runE z E) = false := by
          first
            | exact bi_0.mp c_8
        exact ⟨by rw [hn]; rfl, M, by rw [← h0]; exact (mx_0 w M 0).symm, ce_n hn h⟩)
set_option maxRecDepth 10000 in
theorem s_X7_rebase {l : Launch} {w : WW} {M : Mem} {z : Nat → Int32} {E : List Ent} {F : Nat} (hz : Zv z) (h : ClsI z E F M) (hE : okE z E) (hl : E.length ≤ 500) {a : Int32} : Can l w yX7_rebase cX7_rebase 2 (some .boolean) (rmd 7) [.ref (ad w 2 6 0), .int a] (mx w M) (RM w (bi (Acc z 6 a 0 (runE z E))) (fun N => ClsE z E F 6 a 0 0 M N)) := by
  refine Can.go (ls := [some (.ref (ad w 2 6 0)), some (.int a)]) ?_
  have hG := Gk_all hz hE (by omega)
  obtain ⟨h0, h1, hFE, h16, h3, hev, hzz⟩ := id h
  have hC : Cn (runE z E) := hG.1.elim fun qs h => h.elim fun ps hW => hW.1.1
  refine a_eq (x' := zx w M 0 (runE z E)) (by rw [← h0]; exact mx_0 w M 0) ?_
  refine a_aload_n dX7_rebase_0 rfl ?_
  refine c_getR (t := 6) (k := 0) dX7_rebase_1 kw_26 rfl ?_
  refine a_iload_n dX7_rebase_4 rfl ?_
  refine c_V1I dX7_rebase_5 kw_613 kv_X6_mayBeRebased (s_X6_mayBeRebased hC) ?_
  refine a_if_ne (tgt := 13) dX7_rebase_8 (by decide) (fun c_8 => ?_) (fun c_8 => ?_)
  · refine a_aload_n dX7_rebase_13 rfl ?_
    refine c_getR (t := 6) (k := 0) dX7_rebase_14 kw_26 rfl ?_
    refine a_aload_n dX7_rebase_17 rfl ?_
    refine a_bipush (v := 6) dX7_rebase_18 (by decide) ?_
    refine a_iload_n dX7_rebase_20 rfl ?_
    refine a_iconst (v := 0) dX7_rebase_21 (by decide) ?_
    refine a_iconst (v := 0) dX7_rebase_22 (by decide) ?_
    have ha : Acc z 6 a 0 (runE z E) = true := bi_n0.mp c_8
    refine a_eq (x' := mx w M) (by rw [← h0]; exact (mx_0 w M 0).symm) ?_
    refine c_V4L dX7_rebase_23 kw_131 kv_X7_logged (s_X7_logged h) (fun N h_23 => ?_)
    have hS := Cls_step (kd := 6) (a := a) (b := 0) (c := 0) h h_23 (by decide)
    obtain ⟨n0, n1, n3, e0, e1, e2, e3, nj, n4⟩ := id h_23
    refine a_eq (x' := zx w N 0 (runE z E)) (by rw [← h0, ← n0]; exact mx_0 w N 0) ?_
    refine c_V1I dX7_rebase_26 kw_174 kv_X6_carryOut (s_carry (kd := 6) (a := a) (b := 0) (c := 0) hz (by rw [n4 4 (by decide) (by decide)]; exact hzz) (nFl_lt h16) (by decide) ⟨e0, e1, e2, e3⟩ hG (by omega) ha) ?_
    refine a_pop dX7_rebase_29 rfl ?_
    refine a_iconst (v := 1) dX7_rebase_30 (by decide) ?_
    exact c_zret dX7_rebase_31 ⟨by rw [ha]; rfl, _, rfl, ce_y ha hS⟩
  · refine a_iconst (v := 0) dX7_rebase_11 (by decide) ?_
    exact c_zret dX7_rebase_12 (by
        have hn : Acc z 6 a 0 (runE z E) = false := by
          first
            | exact bi_0.mp c_8
        exact ⟨by rw [hn]; rfl, M, by rw [← h0]; exact (mx_0 w M 0).symm, ce_n hn h⟩)
set_option maxRecDepth 10000 in
theorem s_X7_claim {l : Launch} {w : WW} {M : Mem} {z : Nat → Int32} {E : List Ent} {F : Nat} (hz : Zv z) (h : ClsI z E F M) (hE : okE z E) (hl : E.length ≤ 500) {a : Int32} : Can l w yX7_claim cX7_claim 2 (some .int) (rmd 7) [.ref (ad w 2 6 0), .int a] (mx w M) (RM w (if Acc z 7 a 0 (runE z E) = true then ansR z 7 a (runE z E) else -1) (fun N => ClsE z E F 7 a 0 0 M N)) := by
  refine Can.go (ls := [some (.ref (ad w 2 6 0)), some (.int a)]) ?_
  have hG := Gk_all hz hE (by omega)
  obtain ⟨h0, h1, hFE, h16, h3, hev, hzz⟩ := id h
  have hC : Cn (runE z E) := hG.1.elim fun qs h => h.elim fun ps hW => hW.1.1
  refine a_eq (x' := zx w M 0 (runE z E)) (by rw [← h0]; exact mx_0 w M 0) ?_
  refine a_aload_n dX7_claim_0 rfl ?_
  refine c_getR (t := 6) (k := 0) dX7_claim_1 kw_26 rfl ?_
  refine a_iload_n dX7_claim_4 rfl ?_
  refine c_V1I dX7_claim_5 kw_626 kv_X6_jobToLease s_X6_jobToLease ?_
  refine a_iconst (v := (-1)) dX7_claim_8 (by decide) ?_
  refine a_icmp_ne (tgt := 14) dX7_claim_9 (by decide) (fun c_9 => ?_) (fun c_9 => ?_)
  · refine a_aload_n dX7_claim_14 rfl ?_
    refine c_getR (t := 6) (k := 0) dX7_claim_15 kw_26 rfl ?_
    refine a_aload_n dX7_claim_18 rfl ?_
    refine a_bipush (v := 7) dX7_claim_19 (by decide) ?_
    refine a_iload_n dX7_claim_21 rfl ?_
    refine a_iconst (v := 0) dX7_claim_22 (by decide) ?_
    refine a_iconst (v := 0) dX7_claim_23 (by decide) ?_
    have ha : Acc z 7 a 0 (runE z E) = true := (show (!decide (jtl (runE z E) a = -1)) = true by rw [decide_eq_false c_9]; rfl)
    refine a_eq (x' := mx w M) (by rw [← h0]; exact (mx_0 w M 0).symm) ?_
    refine c_V4L dX7_claim_24 kw_131 kv_X7_logged (s_X7_logged h) (fun N h_24 => ?_)
    have hS := Cls_step (kd := 7) (a := a) (b := 0) (c := 0) h h_24 (by decide)
    obtain ⟨n0, n1, n3, e0, e1, e2, e3, nj, n4⟩ := id h_24
    refine a_eq (x' := zx w N 0 (runE z E)) (by rw [← h0, ← n0]; exact mx_0 w N 0) ?_
    refine c_V1I dX7_claim_27 kw_174 kv_X6_carryOut (s_carry (kd := 7) (a := a) (b := 0) (c := 0) hz (by rw [n4 4 (by decide) (by decide)]; exact hzz) (nFl_lt h16) (by decide) ⟨e0, e1, e2, e3⟩ hG (by omega) ha) ?_
    exact c_iret dX7_claim_30 ⟨by rw [ha]; rfl, _, rfl, ce_y ha hS⟩
  · refine a_iconst (v := (-1)) dX7_claim_12 (by decide) ?_
    exact c_iret dX7_claim_13 (by
        have hn : Acc z 7 a 0 (runE z E) = false := by
          first
            | (show (!decide (jtl (runE z E) a = -1)) = false; rw [decide_eq_true c_9]; rfl)
        exact ⟨by rw [hn]; rfl, M, by rw [← h0]; exact (mx_0 w M 0).symm, ce_n hn h⟩)
set_option maxRecDepth 10000 in
theorem s_X7_report_t {l : Launch} {w : WW} {M : Mem} {z : Nat → Int32} {E : List Ent} {F : Nat} (hz : Zv z) (h : ClsI z E F M) (hE : okE z E) (hl : E.length ≤ 500) {a : Int32} : Can l w yX7_report cX7_report 3 (some .boolean) (rmd 7) [.ref (ad w 2 6 0), .int a, .int 1] (mx w M) (RM w (bi (Acc z 8 a 1 (runE z E))) (fun N => ClsE z E F 8 a 1 0 M N)) := by
  refine Can.go (ls := [some (.ref (ad w 2 6 0)), some (.int a), some (.int 1)]) ?_
  have hG := Gk_all hz hE (by omega)
  obtain ⟨h0, h1, hFE, h16, h3, hev, hzz⟩ := id h
  have hC : Cn (runE z E) := hG.1.elim fun qs h => h.elim fun ps hW => hW.1.1
  refine a_eq (x' := zx w M 0 (runE z E)) (by rw [← h0]; exact mx_0 w M 0) ?_
  refine a_aload_n dX7_report_0 rfl ?_
  refine c_getR (t := 6) (k := 0) dX7_report_1 kw_26 rfl ?_
  refine c_getR (t := 5) (k := 7) dX7_report_4 kw_638 rfl ?_
  refine a_iload_n dX7_report_7 rfl ?_
  refine c_V1I dX7_report_8 kw_639 kv_X0_leasedJob s_X0_leasedJob ?_
  refine a_iconst (v := (-1)) dX7_report_11 (by decide) ?_
  refine a_icmp_ne (tgt := 17) dX7_report_12 (by decide) (fun c_12 => ?_) (fun c_12 => ?_)
  · refine a_aload_n dX7_report_17 rfl ?_
    refine c_getR (t := 6) (k := 0) dX7_report_18 kw_26 rfl ?_
    refine a_aload_n dX7_report_21 rfl ?_
    refine a_bipush (v := 8) dX7_report_22 (by decide) ?_
    refine a_iload_n dX7_report_24 rfl ?_
    refine a_iload_n dX7_report_25 rfl ?_
    refine a_if_eq (tgt := 33) dX7_report_26 (by decide) (fun c_26 => absurd c_26 (by decide)) (fun c_26 => ?_)
    refine a_iconst (v := 2) dX7_report_29 (by decide) ?_
    refine a_goto (tgt := 34) dX7_report_30 (by decide) ?_
    refine a_iconst (v := 0) dX7_report_34 (by decide) ?_
    have ha : Acc z 8 a 1 (runE z E) = true := (show (!decide (leasedJ (runE z E) a = -1)) = true by rw [decide_eq_false c_12]; rfl)
    refine a_eq (x' := mx w M) (by rw [← h0]; exact (mx_0 w M 0).symm) ?_
    refine c_V4L dX7_report_35 kw_131 kv_X7_logged (s_X7_logged h) (fun N h_35 => ?_)
    have hS := Cls_step (kd := 8) (a := a) (b := 1) (c := 0) h h_35 (by decide)
    obtain ⟨n0, n1, n3, e0, e1, e2, e3, nj, n4⟩ := id h_35
    refine a_eq (x' := zx w N 0 (runE z E)) (by rw [← h0, ← n0]; exact mx_0 w N 0) ?_
    refine c_V1I dX7_report_38 kw_174 kv_X6_carryOut (s_carry (kd := 8) (a := a) (b := 1) (c := 0) hz (by rw [n4 4 (by decide) (by decide)]; exact hzz) (nFl_lt h16) (by decide) ⟨e0, e1, e2, e3⟩ hG (by omega) ha) ?_
    refine a_pop dX7_report_41 rfl ?_
    refine a_iconst (v := 1) dX7_report_42 (by decide) ?_
    exact c_zret dX7_report_43 ⟨by rw [ha]; rfl, _, rfl, ce_y ha hS⟩
  · refine a_iconst (v := 0) dX7_report_15 (by decide) ?_
    exact c_zret dX7_report_16 (by
        have hn : Acc z 8 a 1 (runE z E) = false := by
          first
            | (show (!decide (leasedJ (runE z E) a = -1)) = false; rw [decide_eq_true c_12]; rfl)
        exact ⟨by rw [hn]; rfl, M, by rw [← h0]; exact (mx_0 w M 0).symm, ce_n hn h⟩)
set_option maxRecDepth 10000 in
theorem s_X7_report_f {l : Launch} {w : WW} {M : Mem} {z : Nat → Int32} {E : List Ent} {F : Nat} (hz : Zv z) (h : ClsI z E F M) (hE : okE z E) (hl : E.length ≤ 500) {a : Int32} : Can l w yX7_report cX7_report 3 (some .boolean) (rmd 7) [.ref (ad w 2 6 0), .int a, .int 0] (mx w M) (RM w (bi (Acc z 8 a 0 (runE z E))) (fun N => ClsE z E F 8 a 0 0 M N)) := by
  refine Can.go (ls := [some (.ref (ad w 2 6 0)), some (.int a), some (.int 0)]) ?_
  have hG := Gk_all hz hE (by omega)
  obtain ⟨h0, h1, hFE, h16, h3, hev, hzz⟩ := id h
  have hC : Cn (runE z E) := hG.1.elim fun qs h => h.elim fun ps hW => hW.1.1
  refine a_eq (x' := zx w M 0 (runE z E)) (by rw [← h0]; exact mx_0 w M 0) ?_
  refine a_aload_n dX7_report_0 rfl ?_
  refine c_getR (t := 6) (k := 0) dX7_report_1 kw_26 rfl ?_
  refine c_getR (t := 5) (k := 7) dX7_report_4 kw_638 rfl ?_
  refine a_iload_n dX7_report_7 rfl ?_
  refine c_V1I dX7_report_8 kw_639 kv_X0_leasedJob s_X0_leasedJob ?_
  refine a_iconst (v := (-1)) dX7_report_11 (by decide) ?_
  refine a_icmp_ne (tgt := 17) dX7_report_12 (by decide) (fun c_12 => ?_) (fun c_12 => ?_)
  · refine a_aload_n dX7_report_17 rfl ?_
    refine c_getR (t := 6) (k := 0) dX7_report_18 kw_26 rfl ?_
    refine a_aload_n dX7_report_21 rfl ?_
    refine a_bipush (v := 8) dX7_report_22 (by decide) ?_
    refine a_iload_n dX7_report_24 rfl ?_
    refine a_iload_n dX7_report_25 rfl ?_
    refine a_if_eq (tgt := 33) dX7_report_26 (by decide) (fun c_26 => ?_) (fun c_26 => absurd rfl c_26)
    refine a_iconst (v := 3) dX7_report_33 (by decide) ?_
    refine a_iconst (v := 0) dX7_report_34 (by decide) ?_
    have ha : Acc z 8 a 0 (runE z E) = true := (show (!decide (leasedJ (runE z E) a = -1)) = true by rw [decide_eq_false c_12]; rfl)
    refine a_eq (x' := mx w M) (by rw [← h0]; exact (mx_0 w M 0).symm) ?_
    refine c_V4L dX7_report_35 kw_131 kv_X7_logged (s_X7_logged h) (fun N h_35 => ?_)
    have hS := Cls_step (kd := 8) (a := a) (b := 0) (c := 0) h h_35 (by decide)
    obtain ⟨n0, n1, n3, e0, e1, e2, e3, nj, n4⟩ := id h_35
    refine a_eq (x' := zx w N 0 (runE z E)) (by rw [← h0, ← n0]; exact mx_0 w N 0) ?_
    refine c_V1I dX7_report_38 kw_174 kv_X6_carryOut (s_carry (kd := 8) (a := a) (b := 0) (c := 0) hz (by rw [n4 4 (by decide) (by decide)]; exact hzz) (nFl_lt h16) (by decide) ⟨e0, e1, e2, e3⟩ hG (by omega) ha) ?_
    refine a_pop dX7_report_41 rfl ?_
    refine a_iconst (v := 1) dX7_report_42 (by decide) ?_
    exact c_zret dX7_report_43 ⟨by rw [ha]; rfl, _, rfl, ce_y ha hS⟩
  · refine a_iconst (v := 0) dX7_report_15 (by decide) ?_
    exact c_zret dX7_report_16 (by
        have hn : Acc z 8 a 0 (runE z E) = false := by
          first
            | (show (!decide (leasedJ (runE z E) a = -1)) = false; rw [decide_eq_true c_12]; rfl)
        exact ⟨by rw [hn]; rfl, M, by rw [← h0]; exact (mx_0 w M 0).symm, ce_n hn h⟩)
set_option maxRecDepth 10000 in
theorem s_X7_tick {l : Launch} {w : WW} {M : Mem} {z : Nat → Int32} {E : List Ent} {F : Nat} (hz : Zv z) (h : ClsI z E F M) (hE : okE z E) (hl : E.length ≤ 500) {a : Int32} : Can l w yX7_tick cX7_tick 2 (some .int) (rmd 7) [.ref (ad w 2 6 0), .int a] (mx w M) (RM w (if Acc z 9 a 0 (runE z E) = true then ansR z 9 a (runE z E) else -1) (fun N => ClsE z E F 9 a 0 0 M N)) := by
  refine Can.go (ls := [some (.ref (ad w 2 6 0)), some (.int a)]) ?_
  have hG := Gk_all hz hE (by omega)
  obtain ⟨h0, h1, hFE, h16, h3, hev, hzz⟩ := id h
  have hC : Cn (runE z E) := hG.1.elim fun qs h => h.elim fun ps hW => hW.1.1
  refine a_eq (x' := zx w M 0 (runE z E)) (by rw [← h0]; exact mx_0 w M 0) ?_
  refine a_iload_n dX7_tick_0 rfl ?_
  refine a_iconst (v := 1) dX7_tick_1 (by decide) ?_
  refine a_icmp_lt (tgt := 11) dX7_tick_2 (by decide) (fun c_2 => ?_) (fun c_2 => ?_)
  · refine a_iconst (v := (-1)) dX7_tick_11 (by decide) ?_
    exact c_iret dX7_tick_12 (by
        have hn : Acc z 9 a 0 (runE z E) = false := by
          first
            | (show tkB a = false; unfold tkB; rw [decide_eq_true c_2]; rfl)
            | (show tkB a = false; unfold tkB; rw [decide_eq_true (show 20 < a from Int32.not_le.mp c_8)]; simp)
        exact ⟨by rw [hn]; rfl, M, by rw [← h0]; exact (mx_0 w M 0).symm, ce_n hn h⟩)
  · refine a_iload_n dX7_tick_5 rfl ?_
    refine a_bipush (v := 20) dX7_tick_6 (by decide) ?_
    refine a_icmp_le (tgt := 13) dX7_tick_8 (by decide) (fun c_8 => ?_) (fun c_8 => ?_)
    · refine a_aload_n dX7_tick_13 rfl ?_
      refine c_getR (t := 6) (k := 0) dX7_tick_14 kw_26 rfl ?_
      refine a_aload_n dX7_tick_17 rfl ?_
      refine a_bipush (v := 9) dX7_tick_18 (by decide) ?_
      refine a_iload_n dX7_tick_20 rfl ?_
      refine a_iconst (v := 0) dX7_tick_21 (by decide) ?_
      refine a_iconst (v := 0) dX7_tick_22 (by decide) ?_
      have ha : Acc z 9 a 0 (runE z E) = true := (show tkB a = true by unfold tkB; rw [decide_eq_false c_2, decide_eq_false (Int32.not_lt.mpr c_8)]; rfl)
      refine a_eq (x' := mx w M) (by rw [← h0]; exact (mx_0 w M 0).symm) ?_
      refine c_V4L dX7_tick_23 kw_131 kv_X7_logged (s_X7_logged h) (fun N h_23 => ?_)
      have hS := Cls_step (kd := 9) (a := a) (b := 0) (c := 0) h h_23 (by decide)
      obtain ⟨n0, n1, n3, e0, e1, e2, e3, nj, n4⟩ := id h_23
      refine a_eq (x' := zx w N 0 (runE z E)) (by rw [← h0, ← n0]; exact mx_0 w N 0) ?_
      refine c_V1I dX7_tick_26 kw_174 kv_X6_carryOut (s_carry (kd := 9) (a := a) (b := 0) (c := 0) hz (by rw [n4 4 (by decide) (by decide)]; exact hzz) (nFl_lt h16) (by decide) ⟨e0, e1, e2, e3⟩ hG (by omega) ha) ?_
      exact c_iret dX7_tick_29 ⟨by rw [ha]; rfl, _, rfl, ce_y ha hS⟩
    · refine a_iconst (v := (-1)) dX7_tick_11 (by decide) ?_
      exact c_iret dX7_tick_12 (by
          have hn : Acc z 9 a 0 (runE z E) = false := by
            first
              | (show tkB a = false; unfold tkB; rw [decide_eq_true c_2]; rfl)
              | (show tkB a = false; unfold tkB; rw [decide_eq_true (show 20 < a from Int32.not_le.mp c_8)]; simp)
          exact ⟨by rw [hn]; rfl, M, by rw [← h0]; exact (mx_0 w M 0).symm, ce_n hn h⟩)
theorem Cls_keep {z : Nat → Int32} {E : List Ent} {M : Mem} (h0 : M 0 = runE z E) (hzz : M 2 4 0 = z) : ClsI z E E.length (up (up1 M 1 (M 0)) 2 6 0 3 0) ∧ C4 M (up (up1 M 1 (M 0)) 2 6 0 3 0) := by
  obtain ⟨N, eN⟩ : ∃ N, up (up1 M 1 (M 0)) 2 6 0 3 0 = N := ⟨_, rfl⟩
  have n0 : N 0 = M 0 := by rw [← eN]; unfold up; rw [up1_ne (by decide), up1_ne (by decide)]
  have n1 : N 1 = M 0 := by rw [← eN]; unfold up; rw [up1_ne (by decide), up1_same]
  have n2 : N 2 = sg (M 2) 6 0 3 0 := by rw [← eN]; unfold up; rw [up1_same, up1_ne (by decide)]
  rw [eN]
  refine ⟨⟨n0.trans h0, by rw [n1, List.take_length]; exact h0, Nat.le_refl _, by omega, by rw [n2, sg_same, Nat.sub_self]; rfl, fun i e hi => ?_, by rw [n2, sg_t (by decide)]; exact hzz⟩, fun t _ t6 => by rw [n2, sg_t t6]⟩
  rw [List.getElem?_eq_none (by omega)] at hi
  cases hi
set_option maxRecDepth 10000 in
theorem s_X7_flush {l : Launch} {w : WW} {M : Mem} {z : Nat → Int32} {E : List Ent} {F : Nat} (h : ClsI z E F M) : Can l w yX7_flush cX7_flush 2 (some .int) (rmd 5) [.ref (ad w 2 6 0)] (mx w M) (RM w (nI (E.length - F)) (fun N => ClsI z E E.length N ∧ C4 M N)) := by
  refine Can.go (ls := [some (.ref (ad w 2 6 0)), none]) ?_
  obtain ⟨h0, h1, hFE, h16, h3, hev, hzz⟩ := id h
  refine a_eq (x' := zx w M 2 (M 2)) (mx_0 w M 2) ?_
  refine a_aload_n dX7_flush_0 rfl ?_
  refine c_getI (t := 6) (k := 3) dX7_flush_1 kw_32 ?_
  rw [h3]
  refine a_eq (x' := mx w M) (mx_0 w M 2).symm ?_
  refine a_istore_1 dX7_flush_4 (by decide) ?_
  refine a_aload_n dX7_flush_5 rfl ?_
  refine c_V0V dX7_flush_6 kw_139 kv_X7_keepLiveState s_X7_keepLiveState ?_
  refine a_iload_n dX7_flush_9 rfl ?_
  exact c_iret dX7_flush_10 ⟨rfl, _, rfl, Cls_keep h0 hzz⟩
theorem cl_kp {s : Int32} {n : Nat} (hn : n ≤ 600) : (if 0 < (if s < nI n then s else nI n) then (if s < nI n then s else nI n) else 0) = nI (kp s n) := by
  unfold kp
  by_cases h1 : s < 0
  · rw [if_pos h1, if_pos (Int32.lt_of_lt_of_le h1 (nI_pos' (by omega))), if_neg (fun q => Int32.lt_irrefl (Int32.lt_trans q h1))]
    rfl
  · rw [if_neg h1]
    by_cases h2 : nI n < s
    · rw [if_pos h2, if_neg (fun q => Int32.lt_irrefl (Int32.lt_trans q h2))]
      split
      · rfl
      · rename_i h3
        rcases Nat.eq_zero_or_pos n with q | q
        · subst q; rfl
        · exact absurd (nI_lt q (by omega)) h3
    · rw [if_neg h2]
      have e := tn_nn h1
      by_cases h4 : s < nI n
      · rw [if_pos h4]
        split
        · exact e
        · rename_i h3
          have : s = 0 := Int32.le_antisymm (Int32.not_lt.mp h3) (Int32.not_lt.mp h1)
          rw [this]; rfl
      · rw [if_neg h4]
        have : s = nI n := Int32.le_antisymm (Int32.not_lt.mp h2) (Int32.not_lt.mp h4)
        rw [this, tn_nI (by omega)]
        split
        · rfl
        · rename_i h3
          rcases Nat.eq_zero_or_pos n with q | q
          · subst q; rfl
          · exact absurd (nI_lt q (by omega)) h3
set_option maxRecDepth 10000 in
theorem L_X7_cr {l : Launch} {w : WW} {Φ : Option Value → XX → Prop} {M : Mem} {z : Nat → Int32} {E : List Ent} {F K : Nat} (hz : Zv z) (hE : okE z E) (hl : E.length ≤ 500) (hK : F + K ≤ E.length) (hK16 : K ≤ 16) (hev : ∀ i e, E[F + i]? = some e → e.1 ≤ 9 ∧ Evt (M 2) i e) (hzz : M 2 4 0 = z) {v1 v3 : Option Value} : ∀ (n : Nat) {k : Nat}, k + n = K → A l w yX7_crash cX7_crash 5 (some .int) (rmd 7) Φ 58 [some (.ref (ad w 2 6 0)), v1, some (.int (nI K)), v3, some (.int (nI K))] [] (zx w M 0 (runE z (E.take (F + K)))) 0 0 → A l w yX7_crash cX7_crash 5 (some .int) (rmd 7) Φ 31 [some (.ref (ad w 2 6 0)), v1, some (.int (nI K)), v3, some (.int (nI k))] [] (zx w M 0 (runE z (E.take (F + k)))) 0 0 := by
  intro n
  induction n with
  | zero =>
    intro k hk kk
    refine a_iload dX7_crash_31 rfl ?_
    refine a_iload_n dX7_crash_33 rfl ?_
    refine a_icmp_ge (tgt := 58) dX7_crash_34 (by decide) (fun c_34 => ?_) (fun c_34 => absurd (nI_le (by omega) (by omega)) c_34)
    obtain rfl : k = K := by omega
    exact kk
  | succ n ih =>
    intro k hk kk
    refine a_iload dX7_crash_31 rfl ?_
    refine a_iload_n dX7_crash_33 rfl ?_
    refine a_icmp_ge (tgt := 58) dX7_crash_34 (by decide) (fun c_34 => absurd c_34 (nI_ge (by omega) (by omega))) (fun c_34 => ?_)
    have hk16 : k < 16 := by omega
    have he := List.getElem?_eq_getElem (show F + k < E.length by omega)
    generalize E[F + k] = e at he
    obtain ⟨o1, o2⟩ := hE (F + k) e he
    obtain ⟨g1, g2⟩ := hev k e he
    have hG := Gk_run hz hE (by omega) (F + k) (by omega)
    refine a_aload_n dX7_crash_37 rfl ?_
    refine c_getR (t := 6) (k := 0) dX7_crash_38 kw_26 rfl ?_
    refine a_aload_n dX7_crash_41 rfl ?_
    refine c_getR (t := 6) (k := 2) dX7_crash_42 kw_29 rfl ?_
    refine a_iload dX7_crash_45 rfl ?_
    refine c_aald (i := k) dX7_crash_47 rfl (show k < 16 from hk16) (if_pos hk16) ?_
    have r2 : rl 2 2 k = true := by simp [rl, hk16]
    refine c_V1I dX7_crash_48 kw_174 kv_X6_carryOut (s_carry (kd := e.1) (a := e.2.1) (b := e.2.2.1) (c := e.2.2.2) hz hzz hk16 g1 g2 hG (by omega) o2) ?_
    refine a_pop dX7_crash_51 rfl ?_
    refine a_iinc_4 (u := nI (k + 1)) dX7_crash_52 (inc_nI k) (by decide) ?_
    refine a_goto (tgt := 31) dX7_crash_55 (by decide) ?_
    have h9 := ih (k := k + 1) (by omega) kk
    rw [show F + (k + 1) = F + k + 1 from rfl, run_take he] at h9
    exact h9
set_option maxRecDepth 10000 in
theorem s_X7_crash {l : Launch} {w : WW} {M : Mem} {z : Nat → Int32} {E : List Ent} {F : Nat} (hz : Zv z) (h : ClsI z E F M) (hE : okE z E) (hl : E.length ≤ 500) {s : Int32} : Can l w yX7_crash cX7_crash 5 (some .int) (rmd 7) [.ref (ad w 2 6 0), .int s] (mx w M) (RM w (nI (E.length - F - kp s (E.length - F))) (fun N => ClsI z (E.take (F + kp s (E.length - F)) ++ [(10, 0, 0, 0)]) (F + kp s (E.length - F) + 1) N ∧ C4 M N)) := by
  refine Can.go (ls := [some (.ref (ad w 2 6 0)), some (.int s), none, none, none]) ?_
  obtain ⟨h0, h1, hFE, h16, h3, hev, hzz⟩ := id h
  have hkp := kp_le (s := s) (show E.length - F ≤ 600 by omega)
  obtain ⟨n, hn⟩ : ∃ n, E.length - F = n := ⟨_, rfl⟩
  rw [hn] at hkp h3
  rw [hn]
  refine a_eq (x' := zx w M 2 (M 2)) (mx_0 w M 2) ?_
  refine a_iload_n dX7_crash_0 rfl ?_
  refine a_iconst (v := 0) dX7_crash_1 (by decide) ?_
  refine a_aload_n dX7_crash_2 rfl ?_
  refine c_getI (t := 6) (k := 3) dX7_crash_3 kw_32 ?_
  rw [h3]
  refine c_S3I dX7_crash_6 kw_36 ks_X7_clamped s_X7_clamped ?_
  rw [cl_kp (by omega)]
  refine a_istore_2 dX7_crash_9 (by decide) ?_
  refine a_aload_n dX7_crash_10 rfl ?_
  refine c_getI (t := 6) (k := 3) dX7_crash_11 kw_32 ?_
  rw [h3]
  refine a_iload_n dX7_crash_14 rfl ?_
  refine a_isub dX7_crash_15 ?_
  rw [sub_nI hkp]
  refine a_istore_3 dX7_crash_16 (by decide) ?_
  refine a_eq (x' := zx w M 0 (M 0)) ((mx_0 w M 2).symm.trans (mx_0 w M 0)) ?_
  refine a_aload_n dX7_crash_17 rfl ?_
  refine c_getR (t := 6) (k := 0) dX7_crash_18 kw_26 rfl ?_
  refine a_aload_n dX7_crash_21 rfl ?_
  refine c_getR (t := 6) (k := 1) dX7_crash_22 kw_27 rfl ?_
  refine c_V1V dX7_crash_25 kw_143 kv_X6_copyFrom (s_X6_copyFrom (s := 0) (u := 1) (by decide) (by decide) (by decide)) ?_
  refine a_iconst (v := 0) dX7_crash_28 (by decide) ?_
  refine a_istore_4 dX7_crash_29 (by decide) ?_
  refine a_eq (x' := zx w M 0 (runE z (E.take (F + 0)))) (by rw [h1]; rfl) ?_
  refine L_X7_cr (K := kp s n) hz hE hl (by omega) (by omega) hev hzz (kp s n) (k := 0) (by omega) ?_
  have hG := Gk_run hz hE (by omega) (F + kp s n) (by omega)
  obtain ⟨⟨qs, ps, hW⟩, -⟩ := id hG
  obtain ⟨ap, bb, r, ls, z0, z1, z2, z3, hap, b1, b8, hr2, l1, l9⟩ := id hz
  have hb : M 2 4 0 1 = nI bb := by rw [hzz]; exact z1
  refine a_aload_n dX7_crash_58 rfl ?_
  refine c_getR (t := 6) (k := 0) dX7_crash_59 kw_26 rfl ?_
  refine c_V0V dX7_crash_62 kw_664 kv_X6_recover (s_X6_recover hb b1 b8 hW) ?_
  have e9 : bld (M 2 4 0 1) 40 (expI 1 (M 2 4 0 2) 4 0 (runE z (E.take (F + kp s n))) 0).1 = runE z (E.take (F + kp s n) ++ [(10, 0, 0, 0)]) := by
    rw [runE_snoc, hzz]
    rfl
  rw [e9]
  refine a_aload_n dX7_crash_65 rfl ?_
  refine c_V0V dX7_crash_66 kw_139 kv_X7_keepLiveState s_X7_keepLiveState ?_
  refine a_iload_n dX7_crash_69 rfl ?_
  exact c_iret dX7_crash_70 ⟨rfl, _, rfl, by
    have hk := Cls_keep (z := z) (E := E.take (F + kp s n) ++ [(10, 0, 0, 0)]) (M := up1 M 0 (runE z (E.take (F + kp s n) ++ [(10, 0, 0, 0)]))) (by rw [up1_same]) (by rw [up1_ne (by decide)]; exact hzz)
    have hlen : (E.take (F + kp s n) ++ [((10, 0, 0, 0) : Ent)]).length = F + kp s n + 1 := by
      rw [List.length_append, List.length_take, Nat.min_eq_left (by omega)]
      rfl
    rw [hlen] at hk
    refine ⟨hk.1, fun t t2 t6 => (hk.2 t t2 t6).trans (by rw [up1_ne (by decide)])⟩⟩
set_option maxRecDepth 10000 in
theorem s_X7_state {l : Launch} {w : WW} {M : Mem} {z : Nat → Int32} {E : List Ent} {F : Nat} (hz : Zv z) (h : ClsI z E F M) (hE : okE z E) (hl : E.length ≤ 500) {a : Int32} : Can l w yX7_state cX7_state 2 (some .int) (rmd 2) [.ref (ad w 2 6 0), .int a] (mx w M) (RM w (if inr a ((runE z E) 5 0 4) = true then (runE z E) 1 (tn a) 2 else -1) (fun N => ClsI z E F N ∧ C4 M N)) := by
  refine Can.go (ls := [some (.ref (ad w 2 6 0)), some (.int a)]) ?_
  have hG := Gk_all hz hE (by omega)
  obtain ⟨h0, h1, hFE, h16, h3, hev, hzz⟩ := id h
  have hC : Cn (runE z E) := hG.1.elim fun qs h => h.elim fun ps hW => hW.1.1
  refine a_eq (x' := zx w M 0 (runE z E)) (by rw [← h0]; exact mx_0 w M 0) ?_
  obtain ⟨⟨qs, ps, hW⟩, hx, hD⟩ := id hG
  obtain ⟨σ, eσ⟩ : ∃ σ, runE z E = σ := ⟨_, rfl⟩
  rw [eσ] at hG hW hx hD hC ⊢
  have hsame : zx w M 0 σ = mx w M ∧ ClsI z E F M ∧ C4 M M := ⟨by rw [← eσ, ← h0]; exact (mx_0 w M 0).symm, h, C4_rf M⟩
  refine a_aload_n dX7_state_0 rfl ?_
  refine c_getR (t := 6) (k := 0) dX7_state_1 kw_26 rfl ?_
  refine a_iload_n dX7_state_4 rfl ?_
  refine c_V1I dX7_state_5 kw_678 kv_X6_isChange s_X6_isChange ?_
  refine a_if_eq (tgt := 26) dX7_state_8 (by decide) (fun c_8 => ?_) (fun c_8 => ?_)
  · refine a_iconst (v := (-1)) dX7_state_26 (by decide) ?_
    exact c_iret dX7_state_27 ⟨by first | rw [if_neg (by rw [bi_0.mp c_8]; decide)] | rw [if_pos (bi_n0.mp c_8)], M, hsame.1, hsame.2⟩
  · obtain ⟨ea, han⟩ := tn_i (n := cn σ) (by rw [← hC.1]; exact bi_n0.mp c_8) (by have := hC.2; omega)
    have ha16 : tn a < 16 := by have := hC.2; omega
    obtain ⟨r1, r14, r15⟩ := rl_ch ha16
    refine a_aload_n dX7_state_11 rfl ?_
    refine c_getR (t := 6) (k := 0) dX7_state_12 kw_26 rfl ?_
    refine c_getR (t := 5) (k := 3) dX7_state_15 kw_676 rfl ?_
    refine a_iload_n dX7_state_18 rfl ?_
    refine c_aald (i := tn a) dX7_state_19 ea (show tn a < 16 from ha16) (if_pos ha16) ?_
    refine c_getI (t := 1) (k := 2) dX7_state_20 kw_677 ?_
    refine a_goto (tgt := 27) dX7_state_23 (by decide) ?_
    exact c_iret dX7_state_27 ⟨by first | rw [if_neg (by rw [bi_0.mp c_8]; decide)] | rw [if_pos (bi_n0.mp c_8)], M, hsame.1, hsame.2⟩
set_option maxRecDepth 10000 in
theorem s_X7_cause {l : Launch} {w : WW} {M : Mem} {z : Nat → Int32} {E : List Ent} {F : Nat} (hz : Zv z) (h : ClsI z E F M) (hE : okE z E) (hl : E.length ≤ 500) {a : Int32} : Can l w yX7_cause cX7_cause 2 (some .int) (rmd 2) [.ref (ad w 2 6 0), .int a] (mx w M) (RM w (if inr a ((runE z E) 5 0 4) = true then (runE z E) 1 (tn a) 3 else -1) (fun N => ClsI z E F N ∧ C4 M N)) := by
  refine Can.go (ls := [some (.ref (ad w 2 6 0)), some (.int a)]) ?_
  have hG := Gk_all hz hE (by omega)
  obtain ⟨h0, h1, hFE, h16, h3, hev, hzz⟩ := id h
  have hC : Cn (runE z E) := hG.1.elim fun qs h => h.elim fun ps hW => hW.1.1
  refine a_eq (x' := zx w M 0 (runE z E)) (by rw [← h0]; exact mx_0 w M 0) ?_
  obtain ⟨⟨qs, ps, hW⟩, hx, hD⟩ := id hG
  obtain ⟨σ, eσ⟩ : ∃ σ, runE z E = σ := ⟨_, rfl⟩
  rw [eσ] at hG hW hx hD hC ⊢
  have hsame : zx w M 0 σ = mx w M ∧ ClsI z E F M ∧ C4 M M := ⟨by rw [← eσ, ← h0]; exact (mx_0 w M 0).symm, h, C4_rf M⟩
  refine a_aload_n dX7_cause_0 rfl ?_
  refine c_getR (t := 6) (k := 0) dX7_cause_1 kw_26 rfl ?_
  refine a_iload_n dX7_cause_4 rfl ?_
  refine c_V1I dX7_cause_5 kw_678 kv_X6_isChange s_X6_isChange ?_
  refine a_if_eq (tgt := 26) dX7_cause_8 (by decide) (fun c_8 => ?_) (fun c_8 => ?_)
  · refine a_iconst (v := (-1)) dX7_cause_26 (by decide) ?_
    exact c_iret dX7_cause_27 ⟨by first | rw [if_neg (by rw [bi_0.mp c_8]; decide)] | rw [if_pos (bi_n0.mp c_8)], M, hsame.1, hsame.2⟩
  · obtain ⟨ea, han⟩ := tn_i (n := cn σ) (by rw [← hC.1]; exact bi_n0.mp c_8) (by have := hC.2; omega)
    have ha16 : tn a < 16 := by have := hC.2; omega
    obtain ⟨r1, r14, r15⟩ := rl_ch ha16
    refine a_aload_n dX7_cause_11 rfl ?_
    refine c_getR (t := 6) (k := 0) dX7_cause_12 kw_26 rfl ?_
    refine c_getR (t := 5) (k := 3) dX7_cause_15 kw_676 rfl ?_
    refine a_iload_n dX7_cause_18 rfl ?_
    refine c_aald (i := tn a) dX7_cause_19 ea (show tn a < 16 from ha16) (if_pos ha16) ?_
    refine c_getI (t := 1) (k := 3) dX7_cause_20 kw_687 ?_
    refine a_goto (tgt := 27) dX7_cause_23 (by decide) ?_
    exact c_iret dX7_cause_27 ⟨by first | rw [if_neg (by rw [bi_0.mp c_8]; decide)] | rw [if_pos (bi_n0.mp c_8)], M, hsame.1, hsame.2⟩
set_option maxRecDepth 10000 in
theorem s_X7_standing {l : Launch} {w : WW} {M : Mem} {z : Nat → Int32} {E : List Ent} {F : Nat} (hz : Zv z) (h : ClsI z E F M) (hE : okE z E) (hl : E.length ≤ 500) {a : Int32} : Can l w yX7_standing cX7_standing 2 (some .int) (rmd 3) [.ref (ad w 2 6 0), .int a] (mx w M) (RM w (if inr a ((runE z E) 5 0 4) = true then bitc ((runE z E) 1 (tn a) 4) + 10 * bitc ((runE z E) 1 (tn a) 5) else -1) (fun N => ClsI z E F N ∧ C4 M N)) := by
  refine Can.go (ls := [some (.ref (ad w 2 6 0)), some (.int a)]) ?_
  have hG := Gk_all hz hE (by omega)
  obtain ⟨h0, h1, hFE, h16, h3, hev, hzz⟩ := id h
  have hC : Cn (runE z E) := hG.1.elim fun qs h => h.elim fun ps hW => hW.1.1
  refine a_eq (x' := zx w M 0 (runE z E)) (by rw [← h0]; exact mx_0 w M 0) ?_
  obtain ⟨⟨qs, ps, hW⟩, hx, hD⟩ := id hG
  obtain ⟨σ, eσ⟩ : ∃ σ, runE z E = σ := ⟨_, rfl⟩
  rw [eσ] at hG hW hx hD hC ⊢
  have hsame : zx w M 0 σ = mx w M ∧ ClsI z E F M ∧ C4 M M := ⟨by rw [← eσ, ← h0]; exact (mx_0 w M 0).symm, h, C4_rf M⟩
  refine a_aload_n dX7_standing_0 rfl ?_
  refine c_getR (t := 6) (k := 0) dX7_standing_1 kw_26 rfl ?_
  refine a_iload_n dX7_standing_4 rfl ?_
  refine c_V1I dX7_standing_5 kw_678 kv_X6_isChange s_X6_isChange ?_
  refine a_if_ne (tgt := 13) dX7_standing_8 (by decide) (fun c_8 => ?_) (fun c_8 => ?_)
  · obtain ⟨ea, han⟩ := tn_i (n := cn σ) (by rw [← hC.1]; exact bi_n0.mp c_8) (by have := hC.2; omega)
    have ha16 : tn a < 16 := by have := hC.2; omega
    obtain ⟨r1, r14, r15⟩ := rl_ch ha16
    refine a_aload_n dX7_standing_13 rfl ?_
    refine c_getR (t := 6) (k := 0) dX7_standing_14 kw_26 rfl ?_
    refine c_getR (t := 5) (k := 3) dX7_standing_17 kw_676 rfl ?_
    refine a_iload_n dX7_standing_20 rfl ?_
    refine c_aald (i := tn a) dX7_standing_21 ea (show tn a < 16 from ha16) (if_pos ha16) ?_
    refine c_V0I dX7_standing_22 kw_696 kv_X1_countFor (s_X1_countFor ha16) ?_
    refine a_bipush (v := 10) dX7_standing_25 (by decide) ?_
    refine a_aload_n dX7_standing_27 rfl ?_
    refine c_getR (t := 6) (k := 0) dX7_standing_28 kw_26 rfl ?_
    refine c_getR (t := 5) (k := 3) dX7_standing_31 kw_676 rfl ?_
    refine a_iload_n dX7_standing_34 rfl ?_
    refine c_aald (i := tn a) dX7_standing_35 ea (show tn a < 16 from ha16) (if_pos ha16) ?_
    refine c_V0I dX7_standing_36 kw_697 kv_X1_countAgainst (s_X1_countAgainst ha16) ?_
    refine a_imul dX7_standing_39 ?_
    refine a_iadd dX7_standing_40 ?_
    exact c_iret dX7_standing_41 ⟨by rw [if_pos (bi_n0.mp c_8)], M, hsame.1, hsame.2⟩
  · refine a_iconst (v := (-1)) dX7_standing_11 (by decide) ?_
    exact c_iret dX7_standing_12 ⟨by rw [if_neg (by rw [bi_0.mp c_8]; decide)], M, hsame.1, hsame.2⟩
set_option maxRecDepth 10000 in
theorem s_X7_queueAt {l : Launch} {w : WW} {M : Mem} {z : Nat → Int32} {E : List Ent} {F : Nat} (hz : Zv z) (h : ClsI z E F M) (hE : okE z E) (hl : E.length ≤ 500) {a : Int32} : Can l w yX7_queueAt cX7_queueAt 2 (some .int) (rmd 2) [.ref (ad w 2 6 0), .int a] (mx w M) (RM w (rowAt ((runE z E) 13 0) (qn (runE z E)) a) (fun N => ClsI z E F N ∧ C4 M N)) := by
  refine Can.go (ls := [some (.ref (ad w 2 6 0)), some (.int a)]) ?_
  have hG := Gk_all hz hE (by omega)
  obtain ⟨h0, h1, hFE, h16, h3, hev, hzz⟩ := id h
  have hC : Cn (runE z E) := hG.1.elim fun qs h => h.elim fun ps hW => hW.1.1
  refine a_eq (x' := zx w M 0 (runE z E)) (by rw [← h0]; exact mx_0 w M 0) ?_
  obtain ⟨⟨qs, ps, hW⟩, hx, hD⟩ := id hG
  obtain ⟨σ, eσ⟩ : ∃ σ, runE z E = σ := ⟨_, rfl⟩
  rw [eσ] at hG hW hx hD hC ⊢
  have hsame : zx w M 0 σ = mx w M ∧ ClsI z E F M ∧ C4 M M := ⟨by rw [← eσ, ← h0]; exact (mx_0 w M 0).symm, h, C4_rf M⟩
  refine a_aload_n dX7_queueAt_0 rfl ?_
  refine c_getR (t := 6) (k := 0) dX7_queueAt_1 kw_26 rfl ?_
  refine c_getR (t := 5) (k := 5) dX7_queueAt_4 kw_718 rfl ?_
  refine a_iload_n dX7_queueAt_7 rfl ?_
  refine c_V1I dX7_queueAt_8 kw_719 kv_X4_at (s_X4_at (c := 0) (n := qn σ) rfl rfl (QI_Qn hW.1.2.1).1 (QI_Qn hW.1.2.1).2) ?_
  exact c_iret dX7_queueAt_11 ⟨rfl, M, hsame.1, hsame.2⟩
set_option maxRecDepth 10000 in
theorem s_X7_batch {l : Launch} {w : WW} {M : Mem} {z : Nat → Int32} {E : List Ent} {F : Nat} (hz : Zv z) (h : ClsI z E F M) (hE : okE z E) (hl : E.length ≤ 500) : Can l w yX7_batch cX7_batch 1 (some .int) (rmd 1) [.ref (ad w 2 6 0)] (mx w M) (RM w ((runE z E) 0 0 1) (fun N => ClsI z E F N ∧ C4 M N)) := by
  refine Can.go (ls := [some (.ref (ad w 2 6 0))]) ?_
  have hG := Gk_all hz hE (by omega)
  obtain ⟨h0, h1, hFE, h16, h3, hev, hzz⟩ := id h
  have hC : Cn (runE z E) := hG.1.elim fun qs h => h.elim fun ps hW => hW.1.1
  refine a_eq (x' := zx w M 0 (runE z E)) (by rw [← h0]; exact mx_0 w M 0) ?_
  obtain ⟨⟨qs, ps, hW⟩, hx, hD⟩ := id hG
  obtain ⟨σ, eσ⟩ : ∃ σ, runE z E = σ := ⟨_, rfl⟩
  rw [eσ] at hG hW hx hD hC ⊢
  have hsame : zx w M 0 σ = mx w M ∧ ClsI z E F M ∧ C4 M M := ⟨by rw [← eσ, ← h0]; exact (mx_0 w M 0).symm, h, C4_rf M⟩
  refine a_aload_n dX7_batch_0 rfl ?_
  refine c_getR (t := 6) (k := 0) dX7_batch_1 kw_26 rfl ?_
  refine c_getR (t := 5) (k := 7) dX7_batch_4 kw_638 rfl ?_
  refine c_getI (t := 0) (k := 1) dX7_batch_7 kw_728 ?_
  exact c_iret dX7_batch_10 ⟨rfl, M, hsame.1, hsame.2⟩
set_option maxRecDepth 10000 in
theorem s_X7_version {l : Launch} {w : WW} {M : Mem} {z : Nat → Int32} {E : List Ent} {F : Nat} (hz : Zv z) (h : ClsI z E F M) (hE : okE z E) (hl : E.length ≤ 500) : Can l w yX7_version cX7_version 1 (some .int) (rmd 1) [.ref (ad w 2 6 0)] (mx w M) (RM w ((runE z E) 5 0 2) (fun N => ClsI z E F N ∧ C4 M N)) := by
  refine Can.go (ls := [some (.ref (ad w 2 6 0))]) ?_
  have hG := Gk_all hz hE (by omega)
  obtain ⟨h0, h1, hFE, h16, h3, hev, hzz⟩ := id h
  have hC : Cn (runE z E) := hG.1.elim fun qs h => h.elim fun ps hW => hW.1.1
  refine a_eq (x' := zx w M 0 (runE z E)) (by rw [← h0]; exact mx_0 w M 0) ?_
  obtain ⟨⟨qs, ps, hW⟩, hx, hD⟩ := id hG
  obtain ⟨σ, eσ⟩ : ∃ σ, runE z E = σ := ⟨_, rfl⟩
  rw [eσ] at hG hW hx hD hC ⊢
  have hsame : zx w M 0 σ = mx w M ∧ ClsI z E F M ∧ C4 M M := ⟨by rw [← eσ, ← h0]; exact (mx_0 w M 0).symm, h, C4_rf M⟩
  refine a_aload_n dX7_version_0 rfl ?_
  refine c_getR (t := 6) (k := 0) dX7_version_1 kw_26 rfl ?_
  refine c_getI (t := 5) (k := 2) dX7_version_4 kw_746 ?_
  exact c_iret dX7_version_7 ⟨rfl, M, hsame.1, hsame.2⟩
set_option maxRecDepth 10000 in
theorem s_X7_job {l : Launch} {w : WW} {M : Mem} {z : Nat → Int32} {E : List Ent} {F : Nat} (hz : Zv z) (h : ClsI z E F M) (hE : okE z E) (hl : E.length ≤ 500) {a : Int32} : Can l w yX7_job cX7_job 2 (some .int) (rmd 1) [.ref (ad w 2 6 0), .int a] (mx w M) (RM w (if inr a 4 = true then (runE z E) 10 0 (tn a) else 0) (fun N => ClsI z E F N ∧ C4 M N)) := by
  refine Can.go (ls := [some (.ref (ad w 2 6 0)), some (.int a)]) ?_
  have hG := Gk_all hz hE (by omega)
  obtain ⟨h0, h1, hFE, h16, h3, hev, hzz⟩ := id h
  have hC : Cn (runE z E) := hG.1.elim fun qs h => h.elim fun ps hW => hW.1.1
  refine a_eq (x' := zx w M 0 (runE z E)) (by rw [← h0]; exact mx_0 w M 0) ?_
  obtain ⟨⟨qs, ps, hW⟩, hx, hD⟩ := id hG
  obtain ⟨σ, eσ⟩ : ∃ σ, runE z E = σ := ⟨_, rfl⟩
  rw [eσ] at hG hW hx hD hC ⊢
  have hsame : zx w M 0 σ = mx w M ∧ ClsI z E F M ∧ C4 M M := ⟨by rw [← eσ, ← h0]; exact (mx_0 w M 0).symm, h, C4_rf M⟩
  refine a_iload_n dX7_job_0 rfl ?_
  refine a_if_lt (tgt := 24) dX7_job_1 (by decide) (fun c_1 => ?_) (fun c_1 => ?_)
  · refine a_iconst (v := 0) dX7_job_24 (by decide) ?_
    exact c_iret dX7_job_25 ⟨by first | rw [if_pos hin] | (rw [inr_neg c_1]; rfl) | (rw [show inr a 4 = false by unfold inr; rw [decide_eq_true c_6]; simp]; rfl), M, hsame.1, hsame.2⟩
  · refine a_iload_n dX7_job_4 rfl ?_
    refine a_iconst (v := 4) dX7_job_5 (by decide) ?_
    refine a_icmp_ge (tgt := 24) dX7_job_6 (by decide) (fun c_6 => ?_) (fun c_6 => ?_)
    · refine a_iconst (v := 0) dX7_job_24 (by decide) ?_
      exact c_iret dX7_job_25 ⟨by first | rw [if_pos hin] | (rw [inr_neg c_1]; rfl) | (rw [show inr a 4 = false by unfold inr; rw [decide_eq_true c_6]; simp]; rfl), M, hsame.1, hsame.2⟩
    · have hin : inr a 4 = true := by unfold inr; rw [decide_eq_false c_1, decide_eq_false c_6]; rfl
      obtain ⟨ea, ha4⟩ := tn_i (n := 4) hin (by decide)
      refine a_aload_n dX7_job_9 rfl ?_
      refine c_getR (t := 6) (k := 0) dX7_job_10 kw_26 rfl ?_
      refine c_getR (t := 5) (k := 7) dX7_job_13 kw_638 rfl ?_
      refine c_getR (t := 0) (k := 2) dX7_job_16 kw_737 rfl ?_
      refine a_iload_n dX7_job_19 rfl ?_
      refine c_iald (i := tn a) dX7_job_20 ea (show tn a < 4 from ha4) ?_
      refine a_goto (tgt := 25) dX7_job_21 (by decide) ?_
      exact c_iret dX7_job_25 ⟨by first | rw [if_pos hin] | (rw [inr_neg c_1]; rfl) | (rw [show inr a 4 = false by unfold inr; rw [decide_eq_true c_6]; simp]; rfl), M, hsame.1, hsame.2⟩
set_option maxRecDepth 10000 in
theorem s_X7_file {l : Launch} {w : WW} {M : Mem} {z : Nat → Int32} {E : List Ent} {F : Nat} (hz : Zv z) (h : ClsI z E F M) (hE : okE z E) (hl : E.length ≤ 500) {a b : Int32} : Can l w yX7_file cX7_file 3 (some .int) (rmd 2) [.ref (ad w 2 6 0), .int a, .int b] (mx w M) (RM w (fileV (runE z E) a b) (fun N => ClsI z E F N ∧ C4 M N)) := by
  refine Can.go (ls := [some (.ref (ad w 2 6 0)), some (.int a), some (.int b)]) ?_
  have hG := Gk_all hz hE (by omega)
  obtain ⟨h0, h1, hFE, h16, h3, hev, hzz⟩ := id h
  have hC : Cn (runE z E) := hG.1.elim fun qs h => h.elim fun ps hW => hW.1.1
  refine a_eq (x' := zx w M 0 (runE z E)) (by rw [← h0]; exact mx_0 w M 0) ?_
  obtain ⟨⟨qs, ps, hW⟩, hx, hD⟩ := id hG
  obtain ⟨σ, eσ⟩ : ∃ σ, runE z E = σ := ⟨_, rfl⟩
  rw [eσ] at hG hW hx hD hC ⊢
  have hsame : zx w M 0 σ = mx w M ∧ ClsI z E F M ∧ C4 M M := ⟨by rw [← eσ, ← h0]; exact (mx_0 w M 0).symm, h, C4_rf M⟩
  refine a_iload_n dX7_file_0 rfl ?_
  refine c_S1I dX7_file_1 kw_542 ks_X7_isPath s_X7_isPath ?_
  refine a_if_ne (tgt := 9) dX7_file_4 (by decide) (fun c_4 => ?_) (fun c_4 => ?_)
  · have hp := bi_n0.mp c_4
    obtain ⟨eb, hb6⟩ := tn_i (n := 6) hp (by decide)
    refine a_iload_n dX7_file_9 rfl ?_
    refine a_iconst (v := (-1)) dX7_file_10 (by decide) ?_
    refine a_icmp_ne (tgt := 24) dX7_file_11 (by decide) (fun c_11 => ?_) (fun c_11 => ?_)
    · refine a_iload_n dX7_file_24 rfl ?_
      refine a_bipush (v := (-2)) dX7_file_25 (by decide) ?_
      refine a_icmp_ne (tgt := 60) dX7_file_27 (by decide) (fun c_27 => ?_) (fun c_27 => ?_)
      · refine a_aload_n dX7_file_60 rfl ?_
        refine c_getR (t := 6) (k := 0) dX7_file_61 kw_26 rfl ?_
        refine a_iload_n dX7_file_64 rfl ?_
        refine c_V1I dX7_file_65 kw_678 kv_X6_isChange s_X6_isChange ?_
        refine a_if_eq (tgt := 88) dX7_file_68 (by decide) (fun c_68 => ?_) (fun c_68 => ?_)
        · refine a_iconst (v := 0) dX7_file_88 (by decide) ?_
          exact c_iret dX7_file_89 ⟨by
              unfold fileV
              rw [if_pos hp, if_neg c_11, if_neg c_27]
              first
                | rw [if_neg (by rw [bi_0.mp c_68]; decide)]
                | rw [if_pos (bi_n0.mp c_68)], M, hsame.1, hsame.2⟩
        · obtain ⟨ea, han⟩ := tn_i (n := cn σ) (by rw [← hC.1]; exact bi_n0.mp c_68) (by have := hC.2; omega)
          have ha16 : tn a < 16 := by have := hC.2; omega
          obtain ⟨r1, r14, r15⟩ := rl_ch ha16
          refine a_aload_n dX7_file_71 rfl ?_
          refine c_getR (t := 6) (k := 0) dX7_file_72 kw_26 rfl ?_
          refine c_getR (t := 5) (k := 3) dX7_file_75 kw_676 rfl ?_
          refine a_iload_n dX7_file_78 rfl ?_
          refine c_aald (i := tn a) dX7_file_79 ea (show tn a < 16 from ha16) (if_pos ha16) ?_
          refine c_getR (t := 1) (k := 1) dX7_file_80 kw_708 rfl ?_
          refine a_iload_n dX7_file_83 rfl ?_
          refine c_iald (i := tn b) dX7_file_84 eb (show tn b < 6 from hb6) ?_
          refine a_goto (tgt := 89) dX7_file_85 (by decide) ?_
          exact c_iret dX7_file_89 ⟨by
              unfold fileV
              rw [if_pos hp, if_neg c_11, if_neg c_27]
              first
                | rw [if_neg (by rw [bi_0.mp c_68]; decide)]
                | rw [if_pos (bi_n0.mp c_68)], M, hsame.1, hsame.2⟩
      · refine a_aload_n dX7_file_30 rfl ?_
        refine c_getR (t := 6) (k := 0) dX7_file_31 kw_26 rfl ?_
        refine c_getR (t := 5) (k := 7) dX7_file_34 kw_638 rfl ?_
        refine c_V0I dX7_file_37 kw_709 kv_X0_isUnderTest s_X0_isUnderTest ?_
        refine a_if_eq (tgt := 58) dX7_file_40 (by decide) (fun c_40 => ?_) (fun c_40 => ?_)
        · refine a_iconst (v := 0) dX7_file_58 (by decide) ?_
          exact c_iret dX7_file_59 ⟨by
              unfold fileV
              rw [if_pos hp, if_neg c_11, if_pos c_27]
              first
                | (have q := bi_0.mp c_40
                   rw [Bool.not_eq_false', decide_eq_true_eq] at q
                   rw [if_pos q])
                | (have q := bi_n0.mp c_40
                   rw [Bool.not_eq_true', decide_eq_false_iff_not] at q
                   rw [if_neg q]), M, hsame.1, hsame.2⟩
        · refine a_aload_n dX7_file_43 rfl ?_
          refine c_getR (t := 6) (k := 0) dX7_file_44 kw_26 rfl ?_
          refine c_getR (t := 5) (k := 7) dX7_file_47 kw_638 rfl ?_
          refine c_getR (t := 0) (k := 0) dX7_file_50 kw_707 rfl ?_
          refine a_iload_n dX7_file_53 rfl ?_
          refine c_iald (i := tn b) dX7_file_54 eb (show tn b < 6 from hb6) ?_
          refine a_goto (tgt := 59) dX7_file_55 (by decide) ?_
          exact c_iret dX7_file_59 ⟨by
              unfold fileV
              rw [if_pos hp, if_neg c_11, if_pos c_27]
              first
                | (have q := bi_0.mp c_40
                   rw [Bool.not_eq_false', decide_eq_true_eq] at q
                   rw [if_pos q])
                | (have q := bi_n0.mp c_40
                   rw [Bool.not_eq_true', decide_eq_false_iff_not] at q
                   rw [if_neg q]), M, hsame.1, hsame.2⟩
    · refine a_aload_n dX7_file_14 rfl ?_
      refine c_getR (t := 6) (k := 0) dX7_file_15 kw_26 rfl ?_
      refine c_getR (t := 5) (k := 1) dX7_file_18 kw_706 rfl ?_
      refine a_iload_n dX7_file_21 rfl ?_
      refine c_iald (i := tn b) dX7_file_22 eb (show tn b < 6 from hb6) ?_
      exact c_iret dX7_file_23 ⟨by unfold fileV; rw [if_pos hp, if_pos c_11], M, hsame.1, hsame.2⟩
  · refine a_iconst (v := 0) dX7_file_7 (by decide) ?_
    exact c_iret dX7_file_8 ⟨by rw [fv_neg (bi_0.mp c_4)], M, hsame.1, hsame.2⟩
