/-! the reference's batches and jobs, held against the class's -/
abbrev RX (w : WW) (M : Mem) (Q : Sg → Prop) : Option Value → XX → Prop := fun v z => v = none ∧ ∃ ρ', z = zx w M 2 ρ' ∧ Q ρ'
abbrev RY (w : WW) (M : Mem) (r : Int32) (Q : Sg → Prop) : Option Value → XX → Prop := fun v z => v = some (.int r) ∧ ∃ ρ', z = zx w M 2 ρ' ∧ Q ρ'
theorem c_V0X {l : Launch} {w : WW} {y : MethodName} {cc : ByteArray} {nL : Nat} {ret : Option FieldType} {d : Nat} {Φ : Option Value → XX → Prop} {pc : Nat} {ls : List (Option Value)} {st : List Value} {u t c : Nat} {y' : MethodName} {cc' : ByteArray} {nL' : Nat} {ret' : Option FieldType} {d' idx : Nat} {M M0 : Mem} {R0 : RMem} {Q : Sg → Prop} (hdg : decode cc pc = .ok (.invokevirtual idx, 3)) (hl : Cond.methodLink y.cls idx y' ∈ TBL) (hK : KV y' cc' nL' ret' 0) (hM : Can l w y' cc' nL' ret' (rmd d') [.ref (ad w u t c)] (M0, R0, 158) (RX w M Q)) (kk : ∀ ρ', Q ρ' → A l w y cc nL ret (rmd d) Φ (pc + 3) ls st (zx w M 2 ρ') 0 0) (ht : t < 8 := by first | decide | assumption) (hcl : CC t = y'.cls := by first | rfl | assumption) (ho : rl u t c = true := by first | rfl | assumption) (hR : (rmd d').frames + 1 ≤ (rmd d).frames ∧ 8 + (nL' + 11) + (rmd d').locals ≤ (rmd d).locals := by decide) (hW : (st.map fun v => v.category).sum ≤ 8 := by exact Nat.le_of_ble_eq_true rfl) : A l w y cc nL ret (rmd d) Φ pc ls (.ref (ad w u t c) :: st) (M0, R0, 158) 0 0 :=
  c_V0G hdg hl hK hM (fun v z h => by obtain ⟨rfl, ρ', rfl, h1⟩ := h; exact kk ρ' h1) ht hcl ho hR hW
theorem c_V0Y {l : Launch} {w : WW} {y : MethodName} {cc : ByteArray} {nL : Nat} {ret : Option FieldType} {d : Nat} {Φ : Option Value → XX → Prop} {pc : Nat} {ls : List (Option Value)} {st : List Value} {u t c : Nat} {y' : MethodName} {cc' : ByteArray} {nL' : Nat} {ret' : Option FieldType} {d' idx : Nat} {M M0 : Mem} {R0 : RMem} {r : Int32} {Q : Sg → Prop} (hdg : decode cc pc = .ok (.invokevirtual idx, 3)) (hl : Cond.methodLink y.cls idx y' ∈ TBL) (hK : KV y' cc' nL' ret' 0) (hM : Can l w y' cc' nL' ret' (rmd d') [.ref (ad w u t c)] (M0, R0, 158) (RY w M r Q)) (kk : ∀ ρ', Q ρ' → A l w y cc nL ret (rmd d) Φ (pc + 3) ls (.int r :: st) (zx w M 2 ρ') 0 0) (ht : t < 8 := by first | decide | assumption) (hcl : CC t = y'.cls := by first | rfl | assumption) (ho : rl u t c = true := by first | rfl | assumption) (hR : (rmd d').frames + 1 ≤ (rmd d).frames ∧ 8 + (nL' + 11) + (rmd d').locals ≤ (rmd d).locals := by decide) (hW : (st.map fun v => v.category).sum ≤ 8 := by exact Nat.le_of_ble_eq_true rfl) : A l w y cc nL ret (rmd d) Φ pc ls (.ref (ad w u t c) :: st) (M0, R0, 158) 0 0 :=
  c_V0G hdg hl hK hM (fun v z h => by obtain ⟨rfl, ρ', rfl, h1⟩ := h; exact kk ρ' h1) ht hcl ho hR hW
theorem c_V1X {l : Launch} {w : WW} {y : MethodName} {cc : ByteArray} {nL : Nat} {ret : Option FieldType} {d : Nat} {Φ : Option Value → XX → Prop} {pc : Nat} {ls : List (Option Value)} {st : List Value} {u t c : Nat} {y' : MethodName} {cc' : ByteArray} {nL' : Nat} {ret' : Option FieldType} {d' idx : Nat} {M M0 : Mem} {R0 : RMem} {v1 : Value} {Q : Sg → Prop} (hdg : decode cc pc = .ok (.invokevirtual idx, 3)) (hl : Cond.methodLink y.cls idx y' ∈ TBL) (hK : KV y' cc' nL' ret' 1) (hM : Can l w y' cc' nL' ret' (rmd d') [.ref (ad w u t c), v1] (M0, R0, 158) (RX w M Q)) (kk : ∀ ρ', Q ρ' → A l w y cc nL ret (rmd d) Φ (pc + 3) ls st (zx w M 2 ρ') 0 0) (ht : t < 8 := by first | decide | assumption) (hcl : CC t = y'.cls := by first | rfl | assumption) (ho : rl u t c = true := by first | rfl | assumption) (hR : (rmd d').frames + 1 ≤ (rmd d).frames ∧ 8 + (nL' + 11) + (rmd d').locals ≤ (rmd d).locals := by decide) (hW : (st.map fun v => v.category).sum ≤ 8 := by exact Nat.le_of_ble_eq_true rfl) : A l w y cc nL ret (rmd d) Φ pc ls (v1 :: .ref (ad w u t c) :: st) (M0, R0, 158) 0 0 :=
  c_V1G hdg hl hK hM (fun v z h => by obtain ⟨rfl, ρ', rfl, h1⟩ := h; exact kk ρ' h1) ht hcl ho hR hW
theorem c_V1Y {l : Launch} {w : WW} {y : MethodName} {cc : ByteArray} {nL : Nat} {ret : Option FieldType} {d : Nat} {Φ : Option Value → XX → Prop} {pc : Nat} {ls : List (Option Value)} {st : List Value} {u t c : Nat} {y' : MethodName} {cc' : ByteArray} {nL' : Nat} {ret' : Option FieldType} {d' idx : Nat} {M M0 : Mem} {R0 : RMem} {v1 : Value} {r : Int32} {Q : Sg → Prop} (hdg : decode cc pc = .ok (.invokevirtual idx, 3)) (hl : Cond.methodLink y.cls idx y' ∈ TBL) (hK : KV y' cc' nL' ret' 1) (hM : Can l w y' cc' nL' ret' (rmd d') [.ref (ad w u t c), v1] (M0, R0, 158) (RY w M r Q)) (kk : ∀ ρ', Q ρ' → A l w y cc nL ret (rmd d) Φ (pc + 3) ls (.int r :: st) (zx w M 2 ρ') 0 0) (ht : t < 8 := by first | decide | assumption) (hcl : CC t = y'.cls := by first | rfl | assumption) (ho : rl u t c = true := by first | rfl | assumption) (hR : (rmd d').frames + 1 ≤ (rmd d).frames ∧ 8 + (nL' + 11) + (rmd d').locals ≤ (rmd d).locals := by decide) (hW : (st.map fun v => v.category).sum ≤ 8 := by exact Nat.le_of_ble_eq_true rfl) : A l w y cc nL ret (rmd d) Φ pc ls (v1 :: .ref (ad w u t c) :: st) (M0, R0, 158) 0 0 :=
  c_V1G hdg hl hK hM (fun v z h => by obtain ⟨rfl, ρ', rfl, h1⟩ := h; exact kk ρ' h1) ht hcl ho hR hW
theorem c_V2X {l : Launch} {w : WW} {y : MethodName} {cc : ByteArray} {nL : Nat} {ret : Option FieldType} {d : Nat} {Φ : Option Value → XX → Prop} {pc : Nat} {ls : List (Option Value)} {st : List Value} {u t c : Nat} {y' : MethodName} {cc' : ByteArray} {nL' : Nat} {ret' : Option FieldType} {d' idx : Nat} {M M0 : Mem} {R0 : RMem} {v1 v2 : Value} {Q : Sg → Prop} (hdg : decode cc pc = .ok (.invokevirtual idx, 3)) (hl : Cond.methodLink y.cls idx y' ∈ TBL) (hK : KV y' cc' nL' ret' 2) (hM : Can l w y' cc' nL' ret' (rmd d') [.ref (ad w u t c), v1, v2] (M0, R0, 158) (RX w M Q)) (kk : ∀ ρ', Q ρ' → A l w y cc nL ret (rmd d) Φ (pc + 3) ls st (zx w M 2 ρ') 0 0) (ht : t < 8 := by first | decide | assumption) (hcl : CC t = y'.cls := by first | rfl | assumption) (ho : rl u t c = true := by first | rfl | assumption) (hR : (rmd d').frames + 1 ≤ (rmd d).frames ∧ 8 + (nL' + 11) + (rmd d').locals ≤ (rmd d).locals := by decide) (hW : (st.map fun v => v.category).sum ≤ 8 := by exact Nat.le_of_ble_eq_true rfl) : A l w y cc nL ret (rmd d) Φ pc ls (v2 :: v1 :: .ref (ad w u t c) :: st) (M0, R0, 158) 0 0 :=
  c_V2G hdg hl hK hM (fun v z h => by obtain ⟨rfl, ρ', rfl, h1⟩ := h; exact kk ρ' h1) ht hcl ho hR hW
theorem c_V2Y {l : Launch} {w : WW} {y : MethodName} {cc : ByteArray} {nL : Nat} {ret : Option FieldType} {d : Nat} {Φ : Option Value → XX → Prop} {pc : Nat} {ls : List (Option Value)} {st : List Value} {u t c : Nat} {y' : MethodName} {cc' : ByteArray} {nL' : Nat} {ret' : Option FieldType} {d' idx : Nat} {M M0 : Mem} {R0 : RMem} {v1 v2 : Value} {r : Int32} {Q : Sg → Prop} (hdg : decode cc pc = .ok (.invokevirtual idx, 3)) (hl : Cond.methodLink y.cls idx y' ∈ TBL) (hK : KV y' cc' nL' ret' 2) (hM : Can l w y' cc' nL' ret' (rmd d') [.ref (ad w u t c), v1, v2] (M0, R0, 158) (RY w M r Q)) (kk : ∀ ρ', Q ρ' → A l w y cc nL ret (rmd d) Φ (pc + 3) ls (.int r :: st) (zx w M 2 ρ') 0 0) (ht : t < 8 := by first | decide | assumption) (hcl : CC t = y'.cls := by first | rfl | assumption) (ho : rl u t c = true := by first | rfl | assumption) (hR : (rmd d').frames + 1 ≤ (rmd d).frames ∧ 8 + (nL' + 11) + (rmd d').locals ≤ (rmd d).locals := by decide) (hW : (st.map fun v => v.category).sum ≤ 8 := by exact Nat.le_of_ble_eq_true rfl) : A l w y cc nL ret (rmd d) Φ pc ls (v2 :: v1 :: .ref (ad w u t c) :: st) (M0, R0, 158) 0 0 :=
  c_V2G hdg hl hK hM (fun v z h => by obtain ⟨rfl, ρ', rfl, h1⟩ := h; exact kk ρ' h1) ht hcl ho hR hW
theorem c_V3X {l : Launch} {w : WW} {y : MethodName} {cc : ByteArray} {nL : Nat} {ret : Option FieldType} {d : Nat} {Φ : Option Value → XX → Prop} {pc : Nat} {ls : List (Option Value)} {st : List Value} {u t c : Nat} {y' : MethodName} {cc' : ByteArray} {nL' : Nat} {ret' : Option FieldType} {d' idx : Nat} {M M0 : Mem} {R0 : RMem} {v1 v2 v3 : Value} {Q : Sg → Prop} (hdg : decode cc pc = .ok (.invokevirtual idx, 3)) (hl : Cond.methodLink y.cls idx y' ∈ TBL) (hK : KV y' cc' nL' ret' 3) (hM : Can l w y' cc' nL' ret' (rmd d') [.ref (ad w u t c), v1, v2, v3] (M0, R0, 158) (RX w M Q)) (kk : ∀ ρ', Q ρ' → A l w y cc nL ret (rmd d) Φ (pc + 3) ls st (zx w M 2 ρ') 0 0) (ht : t < 8 := by first | decide | assumption) (hcl : CC t = y'.cls := by first | rfl | assumption) (ho : rl u t c = true := by first | rfl | assumption) (hR : (rmd d').frames + 1 ≤ (rmd d).frames ∧ 8 + (nL' + 11) + (rmd d').locals ≤ (rmd d).locals := by decide) (hW : (st.map fun v => v.category).sum ≤ 8 := by exact Nat.le_of_ble_eq_true rfl) : A l w y cc nL ret (rmd d) Φ pc ls (v3 :: v2 :: v1 :: .ref (ad w u t c) :: st) (M0, R0, 158) 0 0 :=
  c_V3G hdg hl hK hM (fun v z h => by obtain ⟨rfl, ρ', rfl, h1⟩ := h; exact kk ρ' h1) ht hcl ho hR hW
theorem c_V3Y {l : Launch} {w : WW} {y : MethodName} {cc : ByteArray} {nL : Nat} {ret : Option FieldType} {d : Nat} {Φ : Option Value → XX → Prop} {pc : Nat} {ls : List (Option Value)} {st : List Value} {u t c : Nat} {y' : MethodName} {cc' : ByteArray} {nL' : Nat} {ret' : Option FieldType} {d' idx : Nat} {M M0 : Mem} {R0 : RMem} {v1 v2 v3 : Value} {r : Int32} {Q : Sg → Prop} (hdg : decode cc pc = .ok (.invokevirtual idx, 3)) (hl : Cond.methodLink y.cls idx y' ∈ TBL) (hK : KV y' cc' nL' ret' 3) (hM : Can l w y' cc' nL' ret' (rmd d') [.ref (ad w u t c), v1, v2, v3] (M0, R0, 158) (RY w M r Q)) (kk : ∀ ρ', Q ρ' → A l w y cc nL ret (rmd d) Φ (pc + 3) ls (.int r :: st) (zx w M 2 ρ') 0 0) (ht : t < 8 := by first | decide | assumption) (hcl : CC t = y'.cls := by first | rfl | assumption) (ho : rl u t c = true := by first | rfl | assumption) (hR : (rmd d').frames + 1 ≤ (rmd d).frames ∧ 8 + (nL' + 11) + (rmd d').locals ≤ (rmd d).locals := by decide) (hW : (st.map fun v => v.category).sum ≤ 8 := by exact Nat.le_of_ble_eq_true rfl) : A l w y cc nL ret (rmd d) Φ pc ls (v3 :: v2 :: v1 :: .ref (ad w u t c) :: st) (M0, R0, 158) 0 0 :=
  c_V3G hdg hl hK hM (fun v z h => by obtain ⟨rfl, ρ', rfl, h1⟩ := h; exact kk ρ' h1) ht hcl ho hR hW
theorem c_V4X {l : Launch} {w : WW} {y : MethodName} {cc : ByteArray} {nL : Nat} {ret : Option FieldType} {d : Nat} {Φ : Option Value → XX → Prop} {pc : Nat} {ls : List (Option Value)} {st : List Value} {u t c : Nat} {y' : MethodName} {cc' : ByteArray} {nL' : Nat} {ret' : Option FieldType} {d' idx : Nat} {M M0 : Mem} {R0 : RMem} {v1 v2 v3 v4 : Value} {Q : Sg → Prop} (hdg : decode cc pc = .ok (.invokevirtual idx, 3)) (hl : Cond.methodLink y.cls idx y' ∈ TBL) (hK : KV y' cc' nL' ret' 4) (hM : Can l w y' cc' nL' ret' (rmd d') [.ref (ad w u t c), v1, v2, v3, v4] (M0, R0, 158) (RX w M Q)) (kk : ∀ ρ', Q ρ' → A l w y cc nL ret (rmd d) Φ (pc + 3) ls st (zx w M 2 ρ') 0 0) (ht : t < 8 := by first | decide | assumption) (hcl : CC t = y'.cls := by first | rfl | assumption) (ho : rl u t c = true := by first | rfl | assumption) (hR : (rmd d').frames + 1 ≤ (rmd d).frames ∧ 8 + (nL' + 11) + (rmd d').locals ≤ (rmd d).locals := by decide) (hW : (st.map fun v => v.category).sum ≤ 8 := by exact Nat.le_of_ble_eq_true rfl) : A l w y cc nL ret (rmd d) Φ pc ls (v4 :: v3 :: v2 :: v1 :: .ref (ad w u t c) :: st) (M0, R0, 158) 0 0 :=
  c_V4G hdg hl hK hM (fun v z h => by obtain ⟨rfl, ρ', rfl, h1⟩ := h; exact kk ρ' h1) ht hcl ho hR hW
theorem c_V4Y {l : Launch} {w : WW} {y : MethodName} {cc : ByteArray} {nL : Nat} {ret : Option FieldType} {d : Nat} {Φ : Option Value → XX → Prop} {pc : Nat} {ls : List (Option Value)} {st : List Value} {u t c : Nat} {y' : MethodName} {cc' : ByteArray} {nL' : Nat} {ret' : Option FieldType} {d' idx : Nat} {M M0 : Mem} {R0 : RMem} {v1 v2 v3 v4 : Value} {r : Int32} {Q : Sg → Prop} (hdg : decode cc pc = .ok (.invokevirtual idx, 3)) (hl : Cond.methodLink y.cls idx y' ∈ TBL) (hK : KV y' cc' nL' ret' 4) (hM : Can l w y' cc' nL' ret' (rmd d') [.ref (ad w u t c), v1, v2, v3, v4] (M0, R0, 158) (RY w M r Q)) (kk : ∀ ρ', Q ρ' → A l w y cc nL ret (rmd d) Φ (pc + 3) ls (.int r :: st) (zx w M 2 ρ') 0 0) (ht : t < 8 := by first | decide | assumption) (hcl : CC t = y'.cls := by first | rfl | assumption) (ho : rl u t c = true := by first | rfl | assumption) (hR : (rmd d').frames + 1 ≤ (rmd d).frames ∧ 8 + (nL' + 11) + (rmd d').locals ≤ (rmd d).locals := by decide) (hW : (st.map fun v => v.category).sum ≤ 8 := by exact Nat.le_of_ble_eq_true rfl) : A l w y cc nL ret (rmd d) Φ pc ls (v4 :: v3 :: v2 :: v1 :: .ref (ad w u t c) :: st) (M0, R0, 158) 0 0 :=
  c_V4G hdg hl hK hM (fun v z h => by obtain ⟨rfl, ρ', rfl, h1⟩ := h; exact kk ρ' h1) ht hcl ho hR hW
set_option maxRecDepth 10000 in
theorem L_X8_bt {l : Launch} {w : WW} {Φ : Option Value → XX → Prop} {M : Mem} {ρ0 σ ρ : Sg} {m : Nat} {T : Nat → Int32} (h : Sc ρ0 σ ρ) (hm : ρ 7 0 23 = nI m) (hq : Qok σ) (hle : m ≤ qn σ) : ∀ (n : Nat) {k : Nat} {t : Nat → Int32}, k + n = m → Mg σ n k t T → Φ none (zx w M 2 (sga ρ 34 0 T)) → A l w yX8_batchTree cX8_batchTree 2 none (rmd 2) Φ 6 [some (.ref (ad w 2 7 0)), some (.int (nI k))] [] (zx w M 2 (sga ρ 34 0 t)) 0 0 := by
  intro n
  induction n with
  | zero =>
    intro k t hk hM hΦ
    refine a_iload_n dX8_batchTree_6 rfl ?_
    refine a_aload_n dX8_batchTree_7 rfl ?_
    refine c_getI (t := 7) (k := 23) dX8_batchTree_8 kw_125 ?_
    rw [show (sga ρ 34 0 t) 7 0 23 = nI m from hm]
    refine a_icmp_ge (tgt := 34) dX8_batchTree_11 (by decide) (fun c_11 => ?_) (fun c_11 => absurd (nI_le (by omega) (by have := hq.2.1.2; omega)) c_11)
    refine c_junk (M' := M) (σ' := sga ρ 34 0 T) (junkA (by decide) (fun p hp => (hM p hp).symm)) ?_
    exact c_vret dX8_batchTree_34 hΦ
  | succ n ih =>
    intro k t hk hM hΦ
    refine a_iload_n dX8_batchTree_6 rfl ?_
    refine a_aload_n dX8_batchTree_7 rfl ?_
    refine c_getI (t := 7) (k := 23) dX8_batchTree_8 kw_125 ?_
    rw [show (sga ρ 34 0 t) 7 0 23 = nI m from hm]
    refine a_icmp_ge (tgt := 34) dX8_batchTree_11 (by decide) (fun c_11 => absurd c_11 (nI_ge (by omega) (by have := hq.2.1.2; omega))) (fun c_11 => ?_)
    refine a_aload_n dX8_batchTree_14 rfl ?_
    refine a_aload_n dX8_batchTree_15 rfl ?_
    refine c_getR (t := 7) (k := 19) dX8_batchTree_16 kw_100 rfl ?_
    refine a_iload_n dX8_batchTree_19 rfl ?_
    refine c_iald (i := k) dX8_batchTree_20 rfl (show k < 16 by have := hq.2.1.2; omega) ?_
    obtain ⟨c, hc, he⟩ := hq.2.2 k (by omega)
    have hc16 : c < 16 := by have := hq.1.2; omega
    have ec : tn (σ 13 0 k) = c := by rw [he]; exact tn_nI (by omega)
    obtain ⟨hM1, hM2⟩ := hM
    rw [ec] at hM1 hM2
    obtain ⟨x1, x2, -⟩ := h.2.1.2 c hc
    have hcf : cfR (sga ρ 34 0 t) c = false := by
      rw [← hM1]
      show anyU (cfl (bs ρ c) (ow ρ c) ((sga ρ 34 0 t) 34 0)) 6 0 = _
      rw [sga_same]
      exact cfl_congr x1 x2 (fun _ _ => rfl)
    rw [show (sga ρ 34 0 t) 28 0 k = nI c from (h.2.2.1.2 k (by omega)).trans he]
    refine c_V1I dX8_batchTree_21 kw_429 kv_X8_conflicts (s_X8_conflicts hc16) ?_
    refine a_if_eq (tgt := 28) dX8_batchTree_24 (by decide) (fun c_24 => ?_) (fun c_24 => absurd (by rw [hcf]; rfl) c_24)
    refine a_iinc_1 (u := nI (k + 1)) dX8_batchTree_28 (inc_nI k) (by decide) ?_
    refine a_goto (tgt := 6) dX8_batchTree_31 (by decide) ?_
    refine a_eq (x' := zx w M 2 (sga ρ 34 0 (mrg (bs ρ c) (ow ρ c) t))) (by rw [if_neg (by rw [hcf]; decide)]; unfold mgR; rw [sga_same, sga_sga]; rfl) ?_
    exact ih (by omega) (Mg_congr n (k + 1) _ _ (fun p hp => (mrg_congr x1 x2 (fun _ _ => rfl) hp).symm) (fun i _ _ => ⟨rfl, fun p _ => ⟨rfl, rfl⟩⟩) hM2) hΦ
set_option maxRecDepth 10000 in
theorem s_X8_batchTree {l : Launch} {w : WW} {M : Mem} {ρ0 σ ρ : Sg} {m : Nat} {T : Nat → Int32} (h : Sc ρ0 σ ρ) (hm : ρ 7 0 23 = nI m) (hq : Qok σ) (hle : m ≤ qn σ) (hT : Mg σ m 0 (σ 8 0) T) : Can l w yX8_batchTree cX8_batchTree 2 none (rmd 2) [.ref (ad w 2 7 0)] (zx w M 2 ρ) (RV (zx w M 2 (sga ρ 34 0 T))) := by
  refine Can.go (ls := [some (.ref (ad w 2 7 0)), none]) ?_
  refine a_aload_n dX8_batchTree_0 rfl ?_
  refine c_V0V dX8_batchTree_1 kw_425 kv_X8_startTree s_X8_startTree ?_
  refine a_iconst (v := 0) dX8_batchTree_4 (by decide) ?_
  refine a_istore_1 dX8_batchTree_5 (by decide) ?_
  exact L_X8_bt h hm hq hle m (k := 0) (by omega) (Mg_congr m 0 _ _ (fun p hp => (h.1.1 p hp).symm) (fun i _ _ => ⟨rfl, fun p _ => ⟨rfl, rfl⟩⟩) hT) ⟨rfl, rfl⟩
set_option maxRecDepth 10000 in
theorem s_bf1 {l : Launch} {w : WW} {M : Mem} {ρ0 σ ρ : Sg} {b : Int32} (h : Sc ρ0 σ ρ) (hm : ρ 7 0 23 = nI 1) (hq : Qok σ) (hq0 : 0 < qn σ) (hp : Pn σ) (hp0 : 0 < pn σ) : Can l w yX8_batchFails cX8_batchFails 4 none (rmd 2) [.ref (ad w 2 7 0), .int b] (zx w M 2 ρ) (RX w M (fun ρ' => Sm ρ0 (failS σ 1 b) ρ')) := by
  refine Can.go (ls := [some (.ref (ad w 2 7 0)), some (.int b), none, none]) ?_
  refine a_aload_n dX8_batchFails_0 rfl ?_
  refine c_getI (t := 7) (k := 23) dX8_batchFails_1 kw_125 ?_
  rw [hm]
  refine a_istore_2 dX8_batchFails_4 (by decide) ?_
  refine a_aload_n dX8_batchFails_5 rfl ?_
  refine a_iconst (v := 0) dX8_batchFails_6 (by decide) ?_
  refine c_putI (t := 7) (k := 23) dX8_batchFails_7 kw_125 ?_
  refine a_aload_n dX8_batchFails_10 rfl ?_
  refine c_V0V dX8_batchFails_11 kw_481 kv_X8_endLeases s_X8_endLeases ?_
  refine a_iload_n dX8_batchFails_14 rfl ?_
  refine a_iconst (v := 1) dX8_batchFails_15 (by decide) ?_
  refine a_icmp_ne (tgt := 40) dX8_batchFails_16 (by decide) (fun c_16 => absurd rfl c_16) (fun c_16 => ?_)
  refine a_aload_n dX8_batchFails_19 rfl ?_
  refine a_aload_n dX8_batchFails_20 rfl ?_
  refine c_getR (t := 7) (k := 19) dX8_batchFails_21 kw_100 rfl ?_
  refine a_iconst (v := 0) dX8_batchFails_24 (by decide) ?_
  refine c_iald (i := 0) dX8_batchFails_25 nI_0.symm (by decide) ?_
  obtain ⟨c, hc, he⟩ := hq.2.2 0 hq0
  have hc16 : c < 16 := by have := hq.1.2; omega
  have ec : tn (σ 13 0 0) = c := by rw [he]; exact tn_nI (by omega)
  rw [show (sga (sg ρ 7 0 23 0) 32 0 m1) 28 0 0 = nI c from (h.2.2.1.2 0 hq0).trans he]
  refine a_iload_n dX8_batchFails_26 rfl ?_
  refine c_V2V dX8_batchFails_27 kw_485 kv_X8_reject (s_X8_reject hc16) ?_
  refine a_aload_n dX8_batchFails_30 rfl ?_
  refine a_iconst (v := 0) dX8_batchFails_31 (by decide) ?_
  refine c_V1V dX8_batchFails_32 kw_489 kv_X8_leaveQueue (s_X8_leaveQueue (j := 0) (n := qn σ) (h.2.2.1.1.trans hq.2.1.1) hq0 hq.2.1.2) ?_
  refine a_aload_n dX8_batchFails_35 rfl ?_
  refine c_V0V dX8_batchFails_36 kw_493 kv_X8_dropPlan (s_X8_dropPlan (n := pn σ) (h.2.2.2.1.1.trans hp.1) hp0 (by have := hp.2; omega)) ?_
  exact c_vret dX8_batchFails_39 ⟨rfl, _, rfl, by have h9 := Sm_fail1 h hq.2.1 hq0 hp hp0 b; rw [ec] at h9; exact h9⟩
set_option maxRecDepth 10000 in
theorem L_X8_bfl {l : Launch} {w : WW} {Φ : Option Value → XX → Prop} {M : Mem} {v1 v2 : Option Value} : ∀ (n : Nat) {ρ : Sg}, 1 + n < 9 → A l w yX8_batchFails cX8_batchFails 4 none (rmd 2) Φ 70 [some (.ref (ad w 2 7 0)), v1, v2, some (.int (nI 1))] [] (zx w M 2 (sga ρ 29 0 (shup (ρ 29 0) 1 (1 + n)))) 0 0 → A l w yX8_batchFails cX8_batchFails 4 none (rmd 2) Φ 45 [some (.ref (ad w 2 7 0)), v1, v2, some (.int (nI (1 + n)))] [] (zx w M 2 ρ) 0 0 := by
  intro n
  induction n with
  | zero =>
    intro ρ hlt kk
    refine a_iload_n dX8_batchFails_45 rfl ?_
    refine a_iconst (v := 1) dX8_batchFails_46 (by decide) ?_
    refine a_icmp_le (tgt := 70) dX8_batchFails_47 (by decide) (fun c_47 => ?_) (fun c_47 => absurd (by decide) c_47)
    rw [Nat.add_zero, shup_0, sga_eta] at kk
    exact kk
  | succ n ih =>
    intro ρ hlt kk
    refine a_iload_n dX8_batchFails_45 rfl ?_
    refine a_iconst (v := 1) dX8_batchFails_46 (by decide) ?_
    refine a_icmp_le (tgt := 70) dX8_batchFails_47 (by decide) (fun c_47 => absurd c_47 (nI_ge (b := 1 + (n + 1)) (a := 1) (by omega) (by omega))) (fun c_47 => ?_)
    refine a_aload_n dX8_batchFails_50 rfl ?_
    refine c_getR (t := 7) (k := 21) dX8_batchFails_51 kw_101 rfl ?_
    refine a_iload_n dX8_batchFails_54 rfl ?_
    refine a_aload_n dX8_batchFails_55 rfl ?_
    refine c_getR (t := 7) (k := 21) dX8_batchFails_56 kw_101 rfl ?_
    refine a_iload_n dX8_batchFails_59 rfl ?_
    refine a_iconst (v := 1) dX8_batchFails_60 (by decide) ?_
    refine a_isub dX8_batchFails_61 ?_
    refine c_iald (i := 1 + n) dX8_batchFails_62 (nI_pred (1 + n)) (show 1 + n < 9 by omega) ?_
    refine c_iast (i := 1 + (n + 1)) dX8_batchFails_63 rfl (show 1 + (n + 1) < 9 by omega) ?_
    refine a_iinc_3 (u := nI (1 + n)) dX8_batchFails_64 (dec_nI (1 + n)) (by decide) ?_
    refine a_goto (tgt := 45) dX8_batchFails_67 (by decide) ?_
    refine ih (by omega) ?_
    rw [sg_is, sga_sga, sga_same, show 1 + (n + 1) = 1 + n + 1 from rfl, shup_S]
    exact kk
set_option maxRecDepth 10000 in
theorem s_bf2 {l : Launch} {w : WW} {M : Mem} {ρ0 σ ρ : Sg} {b : Int32} {k : Nat} (h : Sc ρ0 σ ρ) (hm : ρ 7 0 23 = nI k) (hk : k ≠ 1) (hk8 : k ≤ 8) (hp : Pn σ) (hp0 : 0 < pn σ) (hp8 : pn σ < 8) : Can l w yX8_batchFails cX8_batchFails 4 none (rmd 2) [.ref (ad w 2 7 0), .int b] (zx w M 2 ρ) (RX w M (fun ρ' => Sm ρ0 (failS σ k b) ρ')) := by
  refine Can.go (ls := [some (.ref (ad w 2 7 0)), some (.int b), none, none]) ?_
  refine a_aload_n dX8_batchFails_0 rfl ?_
  refine c_getI (t := 7) (k := 23) dX8_batchFails_1 kw_125 ?_
  rw [hm]
  refine a_istore_2 dX8_batchFails_4 (by decide) ?_
  refine a_aload_n dX8_batchFails_5 rfl ?_
  refine a_iconst (v := 0) dX8_batchFails_6 (by decide) ?_
  refine c_putI (t := 7) (k := 23) dX8_batchFails_7 kw_125 ?_
  refine a_aload_n dX8_batchFails_10 rfl ?_
  refine c_V0V dX8_batchFails_11 kw_481 kv_X8_endLeases s_X8_endLeases ?_
  refine a_iload_n dX8_batchFails_14 rfl ?_
  refine a_iconst (v := 1) dX8_batchFails_15 (by decide) ?_
  refine a_icmp_ne (tgt := 40) dX8_batchFails_16 (by decide) (fun c_16 => ?_) (fun c_16 => absurd (nI_inj (b := 1) c_16 (by omega) (by omega)) hk)
  refine a_aload_n dX8_batchFails_40 rfl ?_
  refine c_getI (t := 7) (k := 22) dX8_batchFails_41 kw_124 ?_
  rw [show (sga (sg ρ 7 0 23 0) 32 0 m1) 7 0 22 = nI (pn σ) from h.2.2.2.1.1.trans hp.1]
  obtain ⟨m, hpm⟩ := Nat.exists_eq_add_of_le (show 1 ≤ pn σ by omega)
  have hm9 : 1 + m < 9 := by omega
  rw [hpm]
  refine a_istore_3 dX8_batchFails_44 (by decide) ?_
  refine L_X8_bfl m hm9 ?_
  refine a_aload_n dX8_batchFails_70 rfl ?_
  refine c_getR (t := 7) (k := 21) dX8_batchFails_71 kw_101 rfl ?_
  refine a_iconst (v := 0) dX8_batchFails_74 (by decide) ?_
  refine a_iload_n dX8_batchFails_75 rfl ?_
  refine a_iconst (v := 1) dX8_batchFails_76 (by decide) ?_
  refine a_iadd dX8_batchFails_77 ?_
  refine a_iconst (v := 2) dX8_batchFails_78 (by decide) ?_
  refine a_idiv dX8_batchFails_79 (by decide) ?_
  rw [show (nI k + 1) / 2 = nI ((k + 1) / 2) by rw [← nI_succ]; exact half_nI (by omega)]
  refine c_iast (i := 0) dX8_batchFails_80 nI_0.symm (by decide) ?_
  refine a_aload_n dX8_batchFails_81 rfl ?_
  refine c_getR (t := 7) (k := 21) dX8_batchFails_82 kw_101 rfl ?_
  refine a_iconst (v := 1) dX8_batchFails_85 (by decide) ?_
  refine a_iload_n dX8_batchFails_86 rfl ?_
  refine a_iconst (v := 2) dX8_batchFails_87 (by decide) ?_
  refine a_idiv dX8_batchFails_88 (by decide) ?_
  rw [half_nI (by omega)]
  refine c_iast (i := 1) dX8_batchFails_89 rfl (by decide) ?_
  refine a_aload_n dX8_batchFails_90 rfl ?_
  refine a_aload_n dX8_batchFails_91 rfl ?_
  refine c_getI (t := 7) (k := 22) dX8_batchFails_92 kw_124 ?_
  refine a_iconst (v := 1) dX8_batchFails_95 (by decide) ?_
  refine a_iadd dX8_batchFails_96 ?_
  refine c_putI (t := 7) (k := 22) dX8_batchFails_97 kw_124 ?_
  exact c_vret dX8_batchFails_100 ⟨rfl, _, rfl, by have h9 := Sm_fail2 h hp hp0 hp8 hk b; unfold bf2 at h9; rw [nI_succ (pn σ), ← hp.1, ← h.2.2.2.1.1, hpm] at h9; exact h9⟩
theorem s_X8_batchFails {l : Launch} {w : WW} {M : Mem} {ρ0 σ ρ : Sg} {b : Int32} {k : Nat} (h : Sc ρ0 σ ρ) (hm : ρ 7 0 23 = nI k) (hk8 : k ≤ 8) (hq : Qok σ) (hq0 : 0 < qn σ) (hp : Pn σ) (hp0 : 0 < pn σ) (hp8 : k ≠ 1 → pn σ < 8) : Can l w yX8_batchFails cX8_batchFails 4 none (rmd 2) [.ref (ad w 2 7 0), .int b] (zx w M 2 ρ) (RX w M (fun ρ' => Sm ρ0 (failS σ k b) ρ')) := by
  by_cases hk : k = 1
  · subst hk
    exact s_bf1 h hm hq hq0 hp hp0
  · exact s_bf2 h hm hk hk8 hp hp0 (hp8 hk)
set_option maxRecDepth 10000 in
theorem L_X8_bp1 {l : Launch} {w : WW} {Φ : Option Value → XX → Prop} {M : Mem} {ρ : Sg} : ∀ (n : Nat) {j : Nat}, j + n = 6 → A l w yX8_batchPasses cX8_batchPasses 2 none (rmd 3) Φ 30 [some (.ref (ad w 2 7 0)), some (.int (nI 6))] [] (zx w M 2 (sga ρ 22 0 (mixN 6 (ρ 34 0) (ρ 22 0)))) 0 0 → A l w yX8_batchPasses cX8_batchPasses 2 none (rmd 3) Φ 6 [some (.ref (ad w 2 7 0)), some (.int (nI j))] [] (zx w M 2 (sga ρ 22 0 (mixN j (ρ 34 0) (ρ 22 0)))) 0 0 := by
  intro n
  induction n with
  | zero =>
    intro j hj kk
    refine a_iload_n dX8_batchPasses_6 rfl ?_
    refine a_bipush (v := 6) dX8_batchPasses_7 (by decide) ?_
    refine a_icmp_ge (tgt := 30) dX8_batchPasses_9 (by decide) (fun c_9 => ?_) (fun c_9 => absurd (by have e6 : j = 6 := (by omega); subst e6; decide) c_9)
    obtain rfl : j = 6 := by omega
    exact kk
  | succ n ih =>
    intro j hj kk
    refine a_iload_n dX8_batchPasses_6 rfl ?_
    refine a_bipush (v := 6) dX8_batchPasses_7 (by decide) ?_
    refine a_icmp_ge (tgt := 30) dX8_batchPasses_9 (by decide) (fun c_9 => absurd c_9 (nI_ge (b := 6) (by omega) (by omega))) (fun c_9 => ?_)
    refine a_aload_n dX8_batchPasses_12 rfl ?_
    refine c_getR (t := 7) (k := 10) dX8_batchPasses_13 kw_94 rfl ?_
    refine a_iload_n dX8_batchPasses_16 rfl ?_
    refine a_aload_n dX8_batchPasses_17 rfl ?_
    refine c_getR (t := 7) (k := 28) dX8_batchPasses_18 kw_106 rfl ?_
    refine a_iload_n dX8_batchPasses_21 rfl ?_
    refine c_iald (i := j) dX8_batchPasses_22 rfl (show j < 6 by omega) ?_
    refine c_iast (i := j) dX8_batchPasses_23 rfl (show j < 6 by omega) ?_
    refine a_iinc_1 (u := nI (j + 1)) dX8_batchPasses_24 (inc_nI j) (by decide) ?_
    refine a_goto (tgt := 6) dX8_batchPasses_27 (by decide) ?_
    rw [st_mix (g := ρ 34 0) (by rw [sga_t (by decide)])]
    exact ih (by omega) kk
set_option maxRecDepth 10000 in
theorem L_X8_bp2 {l : Launch} {w : WW} {Φ : Option Value → XX → Prop} {M : Mem} {ρ0 : Sg} {m : Nat} (hm : m ≤ 16) : ∀ (n : Nat) {i : Nat} {τ ρ : Sg} {qs : List Nat}, i + n = m → Sc ρ0 τ ρ → QC τ qs → n ≤ qs.length → CA τ → ρ 7 0 23 = nI m → (∀ ρ', Sc ρ0 (tkN n τ) ρ' → A l w yX8_batchPasses cX8_batchPasses 2 none (rmd 3) Φ 73 [some (.ref (ad w 2 7 0)), some (.int (nI m))] [] (zx w M 2 ρ') 0 0) → A l w yX8_batchPasses cX8_batchPasses 2 none (rmd 3) Φ 42 [some (.ref (ad w 2 7 0)), some (.int (nI i))] [] (zx w M 2 ρ) 0 0 := by
  intro n
  induction n with
  | zero =>
    intro i τ ρ qs hi h hQ hn hA h23 kk
    refine a_iload_n dX8_batchPasses_42 rfl ?_
    refine a_aload_n dX8_batchPasses_43 rfl ?_
    refine c_getI (t := 7) (k := 23) dX8_batchPasses_44 kw_125 ?_
    rw [h23]
    refine a_icmp_ge (tgt := 73) dX8_batchPasses_47 (by decide) (fun c_47 => ?_) (fun c_47 => absurd (nI_le (by omega) (by omega)) c_47)
    obtain rfl : i = m := by omega
    exact kk _ h
  | succ n ih =>
    intro i τ ρ qs hi h hQ hn hA h23 kk
    refine a_iload_n dX8_batchPasses_42 rfl ?_
    refine a_aload_n dX8_batchPasses_43 rfl ?_
    refine c_getI (t := 7) (k := 23) dX8_batchPasses_44 kw_125 ?_
    rw [h23]
    refine a_icmp_ge (tgt := 73) dX8_batchPasses_47 (by decide) (fun c_47 => absurd c_47 (nI_ge (by omega) (by omega))) (fun c_47 => ?_)
    refine a_aload_n dX8_batchPasses_50 rfl ?_
    refine c_getR (t := 7) (k := 16) dX8_batchPasses_51 kw_97 rfl ?_
    refine a_aload_n dX8_batchPasses_54 rfl ?_
    refine c_getR (t := 7) (k := 19) dX8_batchPasses_55 kw_100 rfl ?_
    refine a_iconst (v := 0) dX8_batchPasses_58 (by decide) ?_
    refine c_iald (i := 0) dX8_batchPasses_59 nI_0.symm (by decide) ?_
    have hq := QC_ok hQ
    have hqn := QI_qn hQ.2.1
    have hq0 : 0 < qn τ := by omega
    obtain ⟨c, hc, he⟩ := hq.2.2 0 hq0
    have hc16 : c < 16 := by have := hq.1.2; omega
    have ec : tn (τ 13 0 0) = c := by rw [he]; exact tn_nI (by omega)
    have hcq : c ∈ qs := by
      have h5 := hQ.2.1.2.2 0 _ (List.getElem?_eq_getElem (by omega : 0 < qs.length))
      have h6 := hQ.2.2.1 _ (List.getElem_mem (by omega : 0 < qs.length))
      rw [he] at h5
      have h7 := hQ.1.2
      rw [nI_inj h5 (by omega) (by omega)]
      exact List.getElem_mem _
    have hz := CA_zero hA hQ hcq
    rw [show ρ 28 0 0 = nI c from (h.2.2.1.2 0 hq0).trans he]
    refine a_iconst (v := 2) dX8_batchPasses_60 (by decide) ?_
    refine c_iast (i := c) dX8_batchPasses_61 rfl (show c < 16 from hc16) ?_
    refine a_aload_n dX8_batchPasses_62 rfl ?_
    refine a_iconst (v := 0) dX8_batchPasses_63 (by decide) ?_
    refine c_V1V dX8_batchPasses_64 kw_489 kv_X8_leaveQueue (s_X8_leaveQueue (j := 0) (n := qn τ) (h.2.2.1.1.trans hq.2.1.1) hq0 hq.2.1.2) ?_
    refine a_iinc_1 (u := nI (i + 1)) dX8_batchPasses_67 (inc_nI i) (by decide) ?_
    refine a_goto (tgt := 42) dX8_batchPasses_70 (by decide) ?_
    refine ih (τ := tfq τ 0 2 0) (qs := qs.eraseIdx 0) (by omega) ?_ (QC_tfq hQ (by omega)) (by rw [List.length_eraseIdx, if_pos (by omega)]; omega) (CA_tfq hA 0 (fun _ => rfl)) h23 kk
    have h9 := Sc_tfp h hq.2.1 hq0 (by rw [ec]; exact hc) (by rw [ec]; exact hz)
    rw [ec] at h9
    exact h9
set_option maxRecDepth 10000 in
theorem s_X8_batchPasses {l : Launch} {w : WW} {M : Mem} {ρ0 σ ρ : Sg} {B k : Nat} {qs ps : List Nat} (h : Sm ρ0 σ ρ) (hW : Wk σ qs ps) (hm : mb σ ≠ 0) (hx : Hx B k σ) : Can l w yX8_batchPasses cX8_batchPasses 2 none (rmd 3) [.ref (ad w 2 7 0)] (zx w M 2 ρ) (RX w M (fun ρ' => Sm ρ0 (passS σ) ρ')) := by
  refine Can.go (ls := [some (.ref (ad w 2 7 0)), none]) ?_
  have hJ := Wk_J hW hm
  have h23 : ρ 7 0 23 = nI (mb σ) := h.2.1.1.trans hJ.2.2.2.1
  refine a_aload_n dX8_batchPasses_0 rfl ?_
  refine c_V0V dX8_batchPasses_1 kw_441 kv_X8_batchTree (s_X8_batchTree h.1 h23 hJ.1 hJ.2.2.2.2.2.2.1 (hx.2.2.2 hm).1) ?_
  refine a_iconst (v := 0) dX8_batchPasses_4 (by decide) ?_
  refine a_istore_1 dX8_batchPasses_5 (by decide) ?_
  refine a_eq (x' := zx w M 2 (sga (sga ρ 34 0 (σ 9 0)) 22 0 (mixN 0 ((sga ρ 34 0 (σ 9 0)) 34 0) ((sga ρ 34 0 (σ 9 0)) 22 0)))) (by rw [mix_st]) ?_
  refine L_X8_bp1 6 (j := 0) rfl ?_
  refine c_junk (M' := M) (σ' := sga (sga ρ 34 0 (σ 9 0)) 22 0 (σ 9 0)) (junkA (by decide) (fun p hp => by rw [sga_same]; exact (if_pos hp).symm)) ?_
  refine a_aload_n dX8_batchPasses_30 rfl ?_
  refine a_aload_n dX8_batchPasses_31 rfl ?_
  refine c_getI (t := 7) (k := 11) dX8_batchPasses_32 kw_120 ?_
  refine a_iconst (v := 1) dX8_batchPasses_35 (by decide) ?_
  refine a_iadd dX8_batchPasses_36 ?_
  refine c_putI (t := 7) (k := 11) dX8_batchPasses_37 kw_120 ?_
  refine a_iconst (v := 0) dX8_batchPasses_40 (by decide) ?_
  refine a_istore_1 dX8_batchPasses_41 (by decide) ?_
  refine L_X8_bp2 (by have := hJ.2.2.2.2.2.1; omega) (mb σ) (i := 0) (by omega) (τ := trkS σ) (qs := qs) ⟨?_, S2_of h.1.2.1, S3_of h.1.2.2.1, S4_of h.1.2.2.2.1, Kp_of h.1.2.2.2.2⟩ (QC_of (QP_C hW.1) rfl rfl rfl (fun _ => rfl)) (by have := hJ.2.2.2.2.2.2.1; rw [QI_qn hW.1.2.1] at this; exact this) (CA_of hx.1 rfl rfl) h23 (fun ρ1 h1 => ?_)
  · refine ⟨fun p hp => rfl, ?_, h.1.1.2.2⟩
    show ρ 7 0 11 + 1 = σ 5 0 2 + 1
    rw [h.1.1.2.1]
  have e1 : pn (tkN (mb σ) (trkS σ)) = pn σ := by unfold pn; rw [(tkN_p _ _).2]; rfl
  have hPn : Pn (tkN (mb σ) (trkS σ)) := by unfold Pn; rw [e1, (tkN_p _ _).2]; exact hJ.2.1
  have h2 : Sc ρ0 (tkN (mb σ) (trkS σ)) (sg ρ1 7 0 23 0) := ⟨S1_of h1.1, S2_of h1.2.1, S3_of h1.2.2.1, S4_of h1.2.2.2.1, Kp_of h1.2.2.2.2⟩
  have h3 := Sc_rmp h2 hPn (by rw [e1]; exact hJ.2.2.1)
  rw [e1] at h3
  refine a_aload_n dX8_batchPasses_73 rfl ?_
  refine a_iconst (v := 0) dX8_batchPasses_74 (by decide) ?_
  refine c_putI (t := 7) (k := 23) dX8_batchPasses_75 kw_125 ?_
  refine a_aload_n dX8_batchPasses_78 rfl ?_
  refine c_V0V dX8_batchPasses_79 kw_493 kv_X8_dropPlan (s_X8_dropPlan (n := pn σ) (by rw [← e1]; exact h1.2.2.2.1.1.trans hPn.1) hJ.2.2.1 (by have := hJ.2.1.2; omega)) ?_
  refine a_aload_n dX8_batchPasses_82 rfl ?_
  refine c_V0V dX8_batchPasses_83 kw_481 kv_X8_endLeases s_X8_endLeases ?_
  exact c_vret dX8_batchPasses_86 ⟨rfl, _, rfl, ⟨⟨S1_of h3.1, S2_of h3.2.1, S3_of h3.2.2.1, S4_of h3.2.2.2.1, Kp_of h3.2.2.2.2⟩, S5_0 (passS_0 σ) rfl, S6_0 (endB_10 _) rfl⟩⟩
set_option maxRecDepth 10000 in
theorem L_X8_j14 {l : Launch} {w : WW} {Φ : Option Value → XX → Prop} {M : Mem} {ρ : Sg} {p : Int32} {js : Nat → Int32} (hp : ρ 34 0 0 = p) (hjs : ∀ j, j < 4 → ρ 30 0 j = js j) {n : Nat} (hn : n < 4) {f : Int32} {va : Option Value} (kk : A l w yX8_judge cX8_judge 4 none (rmd 4) Φ 38 [some (.ref (ad w 2 7 0)), some (.int (if ffC p js n = true then nI n else f)), va, some (.int (nI n))] [] (zx w M 2 ρ) 0 0) : A l w yX8_judge cX8_judge 4 none (rmd 4) Φ 14 [some (.ref (ad w 2 7 0)), some (.int f), va, some (.int (nI n))] [] (zx w M 2 ρ) 0 0 := by
  refine a_aload_n dX8_judge_14 rfl ?_
  refine a_iload_n dX8_judge_15 rfl ?_
  refine c_V1I dX8_judge_16 kw_473 kv_X8_required (s_X8_required hp) ?_
  refine a_if_eq (tgt := 36) dX8_judge_19 (by decide) (fun c_19 => ?_) (fun c_19 => ?_)
  · refine a_iload_n dX8_judge_36 rfl ?_
    refine a_istore_1 dX8_judge_37 (by decide) ?_
    first
      | (rw [if_neg (by unfold ffC; rw [bi_0.mp c_19, Bool.and_false]; decide)] at kk; exact kk)
      | (rw [if_neg (by unfold ffC; rw [decide_eq_false c_29, Bool.false_and]; decide)] at kk; exact kk)
      | (rw [if_pos (by unfold ffC; rw [decide_eq_true c_29, bi_n0.mp c_19]; rfl)] at kk; exact kk)
  · refine a_aload_n dX8_judge_22 rfl ?_
    refine c_getR (t := 7) (k := 24) dX8_judge_23 kw_102 rfl ?_
    refine a_iload_n dX8_judge_26 rfl ?_
    refine c_iald (i := n) dX8_judge_27 rfl (show n < 4 by omega) ?_
    refine a_iconst (v := 3) dX8_judge_28 (by decide) ?_
    rw [hjs n hn]
    refine a_icmp_ne (tgt := 36) dX8_judge_29 (by decide) (fun c_29 => ?_) (fun c_29 => ?_)
    · refine a_iload_n dX8_judge_36 rfl ?_
      refine a_istore_1 dX8_judge_37 (by decide) ?_
      first
        | (rw [if_neg (by unfold ffC; rw [bi_0.mp c_19, Bool.and_false]; decide)] at kk; exact kk)
        | (rw [if_neg (by unfold ffC; rw [decide_eq_false c_29, Bool.false_and]; decide)] at kk; exact kk)
        | (rw [if_pos (by unfold ffC; rw [decide_eq_true c_29, bi_n0.mp c_19]; rfl)] at kk; exact kk)
    · refine a_iload_n dX8_judge_32 rfl ?_
      refine a_goto (tgt := 37) dX8_judge_33 (by decide) ?_
      refine a_istore_1 dX8_judge_37 (by decide) ?_
      first
        | (rw [if_neg (by unfold ffC; rw [bi_0.mp c_19, Bool.and_false]; decide)] at kk; exact kk)
        | (rw [if_neg (by unfold ffC; rw [decide_eq_false c_29, Bool.false_and]; decide)] at kk; exact kk)
        | (rw [if_pos (by unfold ffC; rw [decide_eq_true c_29, bi_n0.mp c_19]; rfl)] at kk; exact kk)
set_option maxRecDepth 10000 in
theorem L_X8_j38 {l : Launch} {w : WW} {Φ : Option Value → XX → Prop} {M : Mem} {ρ : Sg} {p : Int32} {js : Nat → Int32} (hp : ρ 34 0 0 = p) (hjs : ∀ j, j < 4 → ρ 30 0 j = js j) {n : Nat} (hn : n < 4) {a : Bool} {vf : Option Value} (kk : A l w yX8_judge cX8_judge 4 none (rmd 4) Φ 66 [some (.ref (ad w 2 7 0)), vf, some (.int (bi (a && !hpC p js n))), some (.int (nI n))] [] (zx w M 2 ρ) 0 0) : A l w yX8_judge cX8_judge 4 none (rmd 4) Φ 38 [some (.ref (ad w 2 7 0)), vf, some (.int (bi a)), some (.int (nI n))] [] (zx w M 2 ρ) 0 0 := by
  refine a_iload_n dX8_judge_38 rfl ?_
  refine a_if_eq (tgt := 64) dX8_judge_39 (by decide) (fun c_39 => ?_) (fun c_39 => ?_)
  · refine a_iconst (v := 0) dX8_judge_64 (by decide) ?_
    refine a_istore_2 dX8_judge_65 (by decide) ?_
    first
      | (rw [bi_0.mp c_39, Bool.false_and] at kk; exact kk)
      | (rw [show hpC p js n = false by unfold hpC; rw [bi_0.mp c_47, Bool.and_false], bi_n0.mp c_39] at kk; exact kk)
      | (rw [show hpC p js n = true by unfold hpC; rw [decide_eq_false c_57, bi_n0.mp c_47]; rfl, bi_n0.mp c_39] at kk; exact kk)
      | (rw [show hpC p js n = false by unfold hpC; rw [decide_eq_true c_57]; rfl, bi_n0.mp c_39] at kk; exact kk)
  · refine a_aload_n dX8_judge_42 rfl ?_
    refine a_iload_n dX8_judge_43 rfl ?_
    refine c_V1I dX8_judge_44 kw_473 kv_X8_required (s_X8_required hp) ?_
    refine a_if_eq (tgt := 60) dX8_judge_47 (by decide) (fun c_47 => ?_) (fun c_47 => ?_)
    · refine a_iconst (v := 1) dX8_judge_60 (by decide) ?_
      refine a_goto (tgt := 65) dX8_judge_61 (by decide) ?_
      refine a_istore_2 dX8_judge_65 (by decide) ?_
      first
        | (rw [bi_0.mp c_39, Bool.false_and] at kk; exact kk)
        | (rw [show hpC p js n = false by unfold hpC; rw [bi_0.mp c_47, Bool.and_false], bi_n0.mp c_39] at kk; exact kk)
        | (rw [show hpC p js n = true by unfold hpC; rw [decide_eq_false c_57, bi_n0.mp c_47]; rfl, bi_n0.mp c_39] at kk; exact kk)
        | (rw [show hpC p js n = false by unfold hpC; rw [decide_eq_true c_57]; rfl, bi_n0.mp c_39] at kk; exact kk)
    · refine a_aload_n dX8_judge_50 rfl ?_
      refine c_getR (t := 7) (k := 24) dX8_judge_51 kw_102 rfl ?_
      refine a_iload_n dX8_judge_54 rfl ?_
      refine c_iald (i := n) dX8_judge_55 rfl (show n < 4 by omega) ?_
      refine a_iconst (v := 2) dX8_judge_56 (by decide) ?_
      rw [hjs n hn]
      refine a_icmp_ne (tgt := 64) dX8_judge_57 (by decide) (fun c_57 => ?_) (fun c_57 => ?_)
      · refine a_iconst (v := 0) dX8_judge_64 (by decide) ?_
        refine a_istore_2 dX8_judge_65 (by decide) ?_
        first
          | (rw [bi_0.mp c_39, Bool.false_and] at kk; exact kk)
          | (rw [show hpC p js n = false by unfold hpC; rw [bi_0.mp c_47, Bool.and_false], bi_n0.mp c_39] at kk; exact kk)
          | (rw [show hpC p js n = true by unfold hpC; rw [decide_eq_false c_57, bi_n0.mp c_47]; rfl, bi_n0.mp c_39] at kk; exact kk)
          | (rw [show hpC p js n = false by unfold hpC; rw [decide_eq_true c_57]; rfl, bi_n0.mp c_39] at kk; exact kk)
      · refine a_iconst (v := 1) dX8_judge_60 (by decide) ?_
        refine a_goto (tgt := 65) dX8_judge_61 (by decide) ?_
        refine a_istore_2 dX8_judge_65 (by decide) ?_
        first
          | (rw [bi_0.mp c_39, Bool.false_and] at kk; exact kk)
          | (rw [show hpC p js n = false by unfold hpC; rw [bi_0.mp c_47, Bool.and_false], bi_n0.mp c_39] at kk; exact kk)
          | (rw [show hpC p js n = true by unfold hpC; rw [decide_eq_false c_57, bi_n0.mp c_47]; rfl, bi_n0.mp c_39] at kk; exact kk)
          | (rw [show hpC p js n = false by unfold hpC; rw [decide_eq_true c_57]; rfl, bi_n0.mp c_39] at kk; exact kk)
set_option maxRecDepth 10000 in
theorem L_X8_jd {l : Launch} {w : WW} {Φ : Option Value → XX → Prop} {M : Mem} {ρ : Sg} {p : Int32} {js : Nat → Int32} (hp : ρ 34 0 0 = p) (hjs : ∀ j, j < 4 → ρ 30 0 j = js j) : ∀ (n : Nat) {f : Int32} {a : Bool}, n ≤ 4 → (∀ u3, A l w yX8_judge cX8_judge 4 none (rmd 4) Φ 72 [some (.ref (ad w 2 7 0)), some (.int (jF p js n f)), some (.int (bi (jA p js n a))), u3] [] (zx w M 2 ρ) 0 0) → A l w yX8_judge cX8_judge 4 none (rmd 4) Φ 10 [some (.ref (ad w 2 7 0)), some (.int f), some (.int (bi a)), some (.int (nI n + Int32.ofInt (-1)))] [] (zx w M 2 ρ) 0 0 := by
  intro n
  induction n with
  | zero =>
    intro f a hn kk
    refine a_iload_n dX8_judge_10 rfl ?_
    refine a_if_lt (tgt := 72) dX8_judge_11 (by decide) (fun c_11 => ?_) (fun c_11 => absurd (by decide) c_11)
    exact kk _
  | succ n ih =>
    intro f a hn kk
    rw [dec_nI n]
    refine a_iload_n dX8_judge_10 rfl ?_
    refine a_if_lt (tgt := 72) dX8_judge_11 (by decide) (fun c_11 => absurd c_11 (nI_pos (by omega))) (fun c_11 => ?_)
    refine L_X8_j14 hp hjs (by omega) ?_
    refine L_X8_j38 hp hjs (by omega) ?_
    refine a_iinc_3 (u := nI n + Int32.ofInt (-1)) dX8_judge_66 rfl (by decide) ?_
    refine a_goto (tgt := 10) dX8_judge_69 (by decide) ?_
    exact ih (by omega) kk
set_option maxRecDepth 10000 in
theorem s_X8_judge {l : Launch} {w : WW} {M : Mem} {ρ0 σ ρ : Sg} {B k : Nat} {qs ps : List Nat} (h : Sm ρ0 σ ρ) (hW : Wk σ qs ps) (hm : mb σ ≠ 0) (hx : Hx B k σ) : Can l w yX8_judge cX8_judge 4 none (rmd 4) [.ref (ad w 2 7 0)] (zx w M 2 ρ) (RX w M (fun ρ' => Sm ρ0 (judgeS σ) ρ')) := by
  refine Can.go (ls := [some (.ref (ad w 2 7 0)), none, none, none]) ?_
  have hJ := Wk_J hW hm
  have h23 : ρ 7 0 23 = nI (mb σ) := h.2.1.1.trans hJ.2.2.2.1
  have h1 := Sm_tree h (σ 9 0)
  refine a_aload_n dX8_judge_0 rfl ?_
  refine c_V0V dX8_judge_1 kw_441 kv_X8_batchTree (s_X8_batchTree h.1 h23 hJ.1 hJ.2.2.2.2.2.2.1 (hx.2.2.2 hm).1) ?_
  refine a_iconst (v := (-1)) dX8_judge_4 (by decide) ?_
  refine a_istore_1 dX8_judge_5 (by decide) ?_
  refine a_iconst (v := 1) dX8_judge_6 (by decide) ?_
  refine a_istore_2 dX8_judge_7 (by decide) ?_
  refine a_iconst (v := 3) dX8_judge_8 (by decide) ?_
  refine a_istore_3 dX8_judge_9 (by decide) ?_
  refine L_X8_jd (p := σ 9 0 0) (js := σ 10 0) (by rw [sga_same]) (fun j hj => (h1.2.1.2 hm j hj).1) 4 (f := -1) (a := true) (Nat.le_refl 4) (fun u3 => ?_)
  rw [jF_is, jA_is]
  by_cases hf : firstF σ = -1
  · refine a_iload_n dX8_judge_72 rfl ?_
    refine a_if_lt (tgt := 87) dX8_judge_73 (by decide) (fun c_73 => ?_) (fun c_73 => absurd (by rw [hf]; decide) c_73)
    refine a_iload_n dX8_judge_87 rfl ?_
    refine a_if_eq (tgt := 95) dX8_judge_88 (by decide) (fun c_88 => ?_) (fun c_88 => ?_)
    · exact c_vret dX8_judge_95 ⟨rfl, _, rfl, by first | (rw [judgeS, if_pos hf, if_neg (by rw [bi_0.mp c_88]; decide)]; exact h1) | (rw [judgeS, if_pos hf, if_pos (bi_n0.mp c_88)]; exact h_92)⟩
    · refine a_aload_n dX8_judge_91 rfl ?_
      refine c_V0X dX8_judge_92 kw_497 kv_X8_batchPasses (s_X8_batchPasses h1 hW hm hx) (fun ρ92 h_92 => ?_)
      exact c_vret dX8_judge_95 ⟨rfl, _, rfl, by first | (rw [judgeS, if_pos hf, if_neg (by rw [bi_0.mp c_88]; decide)]; exact h1) | (rw [judgeS, if_pos hf, if_pos (bi_n0.mp c_88)]; exact h_92)⟩
  · refine a_iload_n dX8_judge_72 rfl ?_
    refine a_if_lt (tgt := 87) dX8_judge_73 (by decide) (fun c_73 => absurd c_73 (by have h4 : tn (firstF σ) < 4 := (fhit_tn hf).2.1; rw [show firstF σ = nI (tn (firstF σ)) from (fhit_tn hf).1]; exact nI_pos (by omega))) (fun c_73 => ?_)
    refine a_aload_n dX8_judge_76 rfl ?_
    refine a_bipush (v := 10) dX8_judge_77 (by decide) ?_
    refine a_iload_n dX8_judge_79 rfl ?_
    refine a_iadd dX8_judge_80 ?_
    refine c_V1X dX8_judge_81 kw_477 kv_X8_batchFails (s_X8_batchFails (k := mb σ) h1.1 h23 hJ.2.2.2.2.2.1 hJ.1 (by have := hJ.2.2.2.2; omega) hJ.2.1 hJ.2.2.1 hJ.2.2.2.2.2.2.2) (fun ρ81 h_81 => ?_)
    refine a_goto (tgt := 95) dX8_judge_84 (by decide) ?_
    exact c_vret dX8_judge_95 ⟨rfl, _, rfl, by rw [judgeS, if_neg hf]; exact h_81⟩
set_option maxRecDepth 10000 in
theorem s_settle_t {l : Launch} {w : WW} {M : Mem} {ρ0 σ ρ : Sg} {B k j u : Nat} {qs ps : List Nat} (h : Sc ρ0 σ ρ) (h5 : S5 σ ρ) (h6 : S6x u σ ρ) (hW : Wk σ qs ps) (hm : mb σ ≠ 0) (hx : Hx B k σ) (hj : j < 4) (hu4 : u < 4) (hl : σ 10 0 j = 10 + nI u) : Can l w yX8_settle cX8_settle 4 none (rmd 5) [.ref (ad w 2 7 0), .int (nI j), .int 1] (zx w M 2 ρ) (RX w M (fun ρ' => Sm ρ0 (judgeS (sg σ 10 0 j 2)) ρ')) := by
  refine Can.go (ls := [some (.ref (ad w 2 7 0)), some (.int (nI j)), some (.int 1), none]) ?_
  have ht := job_there (hx.2.2.2 hm).2 hj (by rw [hl]; exact lease_n0 hu4)
  have hJS : JS σ (sg σ 10 0 j 2) := JS_sg (Or.inr (Or.inl rfl)) ht
  have h1 : Sm ρ0 (sg σ 10 0 j 2) (sg ρ 30 0 j 2) := by
    refine ⟨⟨S1_of h.1, S2_of h.2.1, S3_of h.2.2.1, S4_of h.2.2.2.1, Kp_of h.2.2.2.2⟩, ⟨h5.1, fun _ i hi => ⟨?_, (h5.2 hm i hi).2⟩⟩, S6_sg h6 hx.2.2.1 hu4 hj hl (Or.inr (Or.inl rfl))⟩
    by_cases e : i = j
    · subst e; rw [sg_same, sg_same]
    · rw [sg_k e, sg_k e]; exact (h5.2 hm i hi).1
  refine a_aload_n dX8_settle_0 rfl ?_
  refine c_getR (t := 7) (k := 24) dX8_settle_1 kw_102 rfl ?_
  refine a_iload_n dX8_settle_4 rfl ?_
  refine a_iload_n dX8_settle_5 rfl ?_
  refine a_if_eq (tgt := 13) dX8_settle_6 (by decide) (fun c_6 => absurd c_6 (by decide)) (fun c_6 => ?_)
  refine a_iconst (v := 2) dX8_settle_9 (by decide) ?_
  refine a_goto (tgt := 14) dX8_settle_10 (by decide) ?_
  refine c_iast (i := j) dX8_settle_14 rfl (show j < 4 by omega) ?_
  refine a_iload_n dX8_settle_15 rfl ?_
  refine a_if_ne (tgt := 65) dX8_settle_16 (by decide) (fun c_16 => ?_) (fun c_16 => absurd c_16 (by decide))
  refine a_aload_n dX8_settle_65 rfl ?_
  refine c_V0X dX8_settle_66 kw_469 kv_X8_judge (s_X8_judge h1 (JS_Wk hJS hW hm) (by rw [JS_mb hJS]; exact hm) (JS_Hx hJS hx)) (fun ρ66 h_66 => ?_)
  exact c_vret dX8_settle_69 ⟨rfl, _, rfl, h_66⟩
set_option maxRecDepth 10000 in
theorem L_X8_st {l : Launch} {w : WW} {Φ : Option Value → XX → Prop} {M : Mem} {ρ : Sg} {p : Int32} {j : Nat} {v2 : Option Value} (hL : ρ 35 0 = lm (clo p)) (hj : j < 4) : ∀ (n : Nat) {k : Nat} {J H : Nat → Int32}, k + n = 4 → A l w yX8_settle cX8_settle 4 none (rmd 5) Φ 65 [some (.ref (ad w 2 7 0)), some (.int (nI j)), v2, some (.int (nI 4))] [] (zx w M 2 (sga (sga ρ 30 0 (stJ p j n k J)) 32 0 (stH p j n k H))) 0 0 → A l w yX8_settle cX8_settle 4 none (rmd 5) Φ 29 [some (.ref (ad w 2 7 0)), some (.int (nI j)), v2, some (.int (nI k))] [] (zx w M 2 (sga (sga ρ 30 0 (J)) 32 0 (H))) 0 0 := by
  intro n
  induction n with
  | zero =>
    intro k J H hk kk
    refine a_iload_n dX8_settle_29 rfl ?_
    refine a_iconst (v := 4) dX8_settle_30 (by decide) ?_
    refine a_icmp_ge (tgt := 65) dX8_settle_31 (by decide) (fun c_31 => ?_) (fun c_31 => absurd (by have e6 : k = 4 := (by omega); subst e6; decide) c_31)
    obtain rfl : k = 4 := by omega
    exact kk
  | succ n ih =>
    intro k J H hk kk
    refine a_iload_n dX8_settle_29 rfl ?_
    refine a_iconst (v := 4) dX8_settle_30 (by decide) ?_
    refine a_icmp_ge (tgt := 65) dX8_settle_31 (by decide) (fun c_31 => absurd c_31 (nI_ge (b := 4) (by omega) (by omega))) (fun c_31 => ?_)
    refine a_aload_n dX8_settle_34 rfl ?_
    refine c_getR (t := 7) (k := 29) dX8_settle_35 kw_108 rfl ?_
    refine a_iconst (v := 4) dX8_settle_38 (by decide) ?_
    refine a_iload_n dX8_settle_39 rfl ?_
    refine a_imul dX8_settle_40 ?_
    refine a_iload_n dX8_settle_41 rfl ?_
    refine a_iadd dX8_settle_42 ?_
    refine c_zald (i := 4 * k + j) dX8_settle_43 (show (4 : Int32) * nI k + nI j = nI (4 * k + j) by rw [show (4 : Int32) = nI 4 from rfl, nI_mul, nI_add]) (show 4 * k + j < 16 by omega) ?_
    rw [show (sga (sga ρ 30 0 J) 32 0 H) 35 0 (4 * k + j) = bi (clo p (4 * k + j)) by rw [sga_t (by decide), sga_t (by decide), hL]; rfl]
    refine a_if_eq (tgt := 59) dX8_settle_44 (by decide) (fun c_44 => ?_) (fun c_44 => ?_)
    · refine a_iinc_3 (u := nI (k + 1)) dX8_settle_59 (inc_nI k) (by decide) ?_
      refine a_goto (tgt := 29) dX8_settle_62 (by decide) ?_
      rw [stJ, stH] at kk
      first
        | (rw [if_neg (by rw [bi_0.mp c_44]; decide), if_neg (by rw [bi_0.mp c_44]; decide)] at kk; exact ih (by omega) kk)
        | (rw [if_pos (bi_n0.mp c_44), if_pos (bi_n0.mp c_44)] at kk
           rw [st_eq, show (sg (sga (sga ρ 30 0 J) 32 0 H) 30 0 k 3) 32 0 = H by rw [sg_t (by decide), sga_same]]
           exact ih (by omega) kk)
    · refine a_aload_n dX8_settle_47 rfl ?_
      refine c_getR (t := 7) (k := 24) dX8_settle_48 kw_102 rfl ?_
      refine a_iload_n dX8_settle_51 rfl ?_
      refine a_iconst (v := 3) dX8_settle_52 (by decide) ?_
      refine c_iast (i := k) dX8_settle_53 rfl (show k < 4 by omega) ?_
      refine a_aload_n dX8_settle_54 rfl ?_
      refine a_iload_n dX8_settle_55 rfl ?_
      refine c_V1V dX8_settle_56 kw_465 kv_X8_endLeaseOn s_X8_endLeaseOn ?_
      refine a_iinc_3 (u := nI (k + 1)) dX8_settle_59 (inc_nI k) (by decide) ?_
      refine a_goto (tgt := 29) dX8_settle_62 (by decide) ?_
      rw [stJ, stH] at kk
      first
        | (rw [if_neg (by rw [bi_0.mp c_44]; decide), if_neg (by rw [bi_0.mp c_44]; decide)] at kk; exact ih (by omega) kk)
        | (rw [if_pos (bi_n0.mp c_44), if_pos (bi_n0.mp c_44)] at kk
           rw [st_eq, show (sg (sga (sga ρ 30 0 J) 32 0 H) 30 0 k 3) 32 0 = H by rw [sg_t (by decide), sga_same]]
           exact ih (by omega) kk)
set_option maxRecDepth 10000 in
theorem s_settle_f {l : Launch} {w : WW} {M : Mem} {ρ0 σ ρ : Sg} {B k j u : Nat} {qs ps : List Nat} (h : Sc ρ0 σ ρ) (h5 : S5 σ ρ) (h6 : S6x u σ ρ) (hW : Wk σ qs ps) (hm : mb σ ≠ 0) (hx : Hx B k σ) (hj : j < 4) (hu4 : u < 4) (hl : σ 10 0 j = 10 + nI u) : Can l w yX8_settle cX8_settle 4 none (rmd 5) [.ref (ad w 2 7 0), .int (nI j), .int 0] (zx w M 2 ρ) (RX w M (fun ρ' => Sm ρ0 (judgeS (failJ σ (nI j))) ρ')) := by
  refine Can.go (ls := [some (.ref (ad w 2 7 0)), some (.int (nI j)), some (.int 0), none]) ?_
  have ht := job_there (hx.2.2.2 hm).2 hj (by rw [hl]; exact lease_n0 hu4)
  have hJS : JS σ (failJ σ (nI j)) := JS_fail hj ht
  have hJ := Wk_J hW hm
  have h23 : (sg ρ 30 0 j 3) 7 0 23 = nI (mb σ) := h5.1.trans hJ.2.2.2.1
  have h0 : Sc ρ0 σ (sg ρ 30 0 j 3) := ⟨S1_of h.1, S2_of h.2.1, S3_of h.2.2.1, S4_of h.2.2.2.1, Kp_of h.2.2.2.2⟩
  refine a_aload_n dX8_settle_0 rfl ?_
  refine c_getR (t := 7) (k := 24) dX8_settle_1 kw_102 rfl ?_
  refine a_iload_n dX8_settle_4 rfl ?_
  refine a_iload_n dX8_settle_5 rfl ?_
  refine a_if_eq (tgt := 13) dX8_settle_6 (by decide) (fun c_6 => ?_) (fun c_6 => absurd rfl c_6)
  refine a_iconst (v := 3) dX8_settle_13 (by decide) ?_
  refine c_iast (i := j) dX8_settle_14 rfl (show j < 4 by omega) ?_
  refine a_iload_n dX8_settle_15 rfl ?_
  refine a_if_ne (tgt := 65) dX8_settle_16 (by decide) (fun c_16 => absurd rfl c_16) (fun c_16 => ?_)
  refine a_aload_n dX8_settle_19 rfl ?_
  refine c_V0V dX8_settle_20 kw_441 kv_X8_batchTree (s_X8_batchTree h0 h23 hJ.1 hJ.2.2.2.2.2.2.1 (hx.2.2.2 hm).1) ?_
  refine a_aload_n dX8_settle_23 rfl ?_
  refine c_V0V dX8_settle_24 kw_461 kv_X8_close4 (s_X8_close4 (p := σ 9 0 0) (by rw [sga_same])) ?_
  refine a_iconst (v := 0) dX8_settle_27 (by decide) ?_
  refine a_istore_3 dX8_settle_28 (by decide) ?_
  obtain ⟨ρ2, e2⟩ : ∃ ρ2, sga (sga (sg ρ 30 0 j 3) 34 0 (σ 9 0)) 35 0 (lm (clo (σ 9 0 0))) = ρ2 := ⟨_, rfl⟩
  have q30 : ρ2 30 0 = up1 (ρ 30 0) j 3 := by rw [← e2, sga_t (by decide), sga_t (by decide), sg_is, sga_same]
  have q32 : ρ2 32 0 = ρ 32 0 := by rw [← e2]; rfl
  have q33 : ρ2 33 0 = ρ 33 0 := by rw [← e2]; rfl
  have q35 : ρ2 35 0 = lm (clo (σ 9 0 0)) := by rw [← e2, sga_same]
  have q31 : ρ2 31 0 = ρ 31 0 := by rw [← e2]; rfl
  have q7 : ρ2 7 0 23 = ρ 7 0 23 := by rw [← e2]; rfl
  have h2 : Sc ρ0 σ ρ2 := by rw [← e2]; exact Sc_lead (Sc_tree h0 _) _
  rw [e2]
  refine a_eq (x' := zx w M 2 (sga (sga ρ2 30 0 (ρ2 30 0)) 32 0 (ρ2 32 0))) (by rw [show ρ2 32 0 = (sga ρ2 30 0 (ρ2 30 0)) 32 0 by rw [sga_t (by decide)], sga_eta, sga_eta]) ?_
  refine L_X8_st (p := σ 9 0 0) q35 hj 4 (k := 0) rfl ?_
  have h1 : Sm ρ0 (failJ σ (nI j)) (sga (sga ρ2 30 0 (stJ (σ 9 0 0) j 4 0 (ρ2 30 0))) 32 0 (stH (σ 9 0 0) j 4 0 (ρ2 32 0))) := by
    refine ⟨⟨S1_of h2.1, S2_of h2.2.1, S3_of h2.2.2.1, S4_of h2.2.2.2.1, Kp_of h2.2.2.2.2⟩, ⟨q7.trans h5.1, fun _ i hi => ⟨?_, ?_⟩⟩, S6_fail h6 hx.2.2.1 hu4 hj hl (by rw [sga_same, q32]) (by rw [sga_t (by decide), sga_t (by decide), q33])⟩
    · show stJ (σ 9 0 0) j 4 0 (ρ2 30 0) i = _
      rw [failJ_at hj hi, stJ_at, q30]
      by_cases hc : clo (σ 9 0 0) (4 * i + j) = true
      · rw [if_pos ⟨Nat.zero_le _, by omega, hc⟩, if_pos (Or.inl hc)]
      · rw [if_neg (fun q => hc q.2.2)]
        by_cases e : i = j
        · subst e; rw [up1_same, if_pos (Or.inr rfl)]
        · rw [up1_ne e, if_neg (fun q => q.elim hc e)]
          exact (h5.2 hm i hi).1
    · rw [sga_t (by decide), sga_t (by decide), q31]
      exact (h5.2 hm i hi).2
  refine a_aload_n dX8_settle_65 rfl ?_
  refine c_V0X dX8_settle_66 kw_469 kv_X8_judge (s_X8_judge h1 (JS_Wk hJS hW hm) (by rw [JS_mb hJS]; exact hm) (JS_Hx hJS hx)) (fun ρ66 h_66 => ?_)
  exact c_vret dX8_settle_69 ⟨rfl, _, rfl, h_66⟩
set_option maxRecDepth 10000 in
theorem s_X8_expire {l : Launch} {w : WW} {M : Mem} {ρ0 σ ρ : Sg} {B k j u r : Nat} (h : Sm ρ0 σ ρ) (hG : Gk B k σ) (hm : mb σ ≠ 0) (hj : j < 4) (hu4 : u < 4) (hl : σ 10 0 j = 10 + nI u) (hh : ρ 32 0 u = nI j) (hr : ρ 7 0 2 = nI r) (hr2 : r ≤ 2) : Can l w yX8_expire cX8_expire 3 none (rmd 6) [.ref (ad w 2 7 0), .int (nI u)] (zx w M 2 ρ) (RX w M (fun ρ' => Sm ρ0 (judgeS (expireB σ j (nI r + 1))) ρ')) := by
  refine Can.go (ls := [some (.ref (ad w 2 7 0)), some (.int (nI u)), none]) ?_
  obtain ⟨⟨qs, ps, hW⟩, hx, hD⟩ := hG
  have h0 : Sc ρ0 σ (sg ρ 32 0 u (-1)) := ⟨S1_of h.1.1, S2_of h.1.2.1, S3_of h.1.2.2.1, S4_of h.1.2.2.2.1, Kp_of h.1.2.2.2.2⟩
  have h5 : S5 σ (sg ρ 32 0 u (-1)) := S5_of h.2.1
  have h6 := S6x_of u h.2.2
  have hat : ρ 31 0 j = σ 11 0 j := (h.2.1.2 hm j hj).2
  have hle : (σ 11 0 j < nI r + 1) ↔ σ 11 0 j ≤ nI r := by
    rw [nI_1, Int32.lt_iff_toInt_lt, Int32.le_iff_toInt_le, nI_toInt (by omega), nI_toInt (by omega)]
    omega
  refine a_aload_n dX8_expire_0 rfl ?_
  refine c_getR (t := 7) (k := 26) dX8_expire_1 kw_104 rfl ?_
  refine a_iload_n dX8_expire_4 rfl ?_
  refine c_iald (i := u) dX8_expire_5 rfl (show u < 4 by omega) ?_
  rw [hh]
  refine a_istore_2 dX8_expire_6 (by decide) ?_
  refine a_aload_n dX8_expire_7 rfl ?_
  refine c_getR (t := 7) (k := 26) dX8_expire_8 kw_104 rfl ?_
  refine a_iload_n dX8_expire_11 rfl ?_
  refine a_iconst (v := (-1)) dX8_expire_12 (by decide) ?_
  refine c_iast (i := u) dX8_expire_13 rfl (show u < 4 by omega) ?_
  refine a_aload_n dX8_expire_14 rfl ?_
  refine c_getR (t := 7) (k := 25) dX8_expire_15 kw_103 rfl ?_
  refine a_iload_n dX8_expire_18 rfl ?_
  refine c_iald (i := j) dX8_expire_19 rfl (show j < 4 by omega) ?_
  refine a_aload_n dX8_expire_20 rfl ?_
  refine c_getI (t := 7) (k := 2) dX8_expire_21 kw_111 ?_
  rw [show (sg ρ 32 0 u (-1)) 31 0 j = σ 11 0 j from hat, show (sg ρ 32 0 u (-1)) 7 0 2 = nI r from hr]
  refine a_icmp_le (tgt := 36) dX8_expire_24 (by decide) (fun c_24 => ?_) (fun c_24 => ?_)
  · refine a_aload_n dX8_expire_36 rfl ?_
    refine c_getR (t := 7) (k := 24) dX8_expire_37 kw_102 rfl ?_
    refine a_iload_n dX8_expire_40 rfl ?_
    refine a_iconst (v := 1) dX8_expire_41 (by decide) ?_
    refine c_iast (i := j) dX8_expire_42 rfl (show j < 4 by omega) ?_
    exact c_vret dX8_expire_43 ⟨rfl, _, rfl, by
      first
        | (rw [expireB, if_pos (hle.mpr c_24), judge_wait (hD hm) hj hu4 hl]
           refine ⟨⟨S1_of h0.1, S2_of h0.2.1, S3_of h0.2.2.1, S4_of h0.2.2.2.1, Kp_of h0.2.2.2.2⟩, ⟨h5.1, fun _ i hi => ⟨?_, (h5.2 hm i hi).2⟩⟩, S6_sg h6 hx.2.2.1 hu4 hj hl (Or.inl rfl)⟩
           by_cases e : i = j
           · subst e; rw [sg_same, sg_same]
           · rw [sg_k e, sg_k e]; exact (h5.2 hm i hi).1)
        | (rw [expireB, if_neg (fun q => c_24 (hle.mp q))]
           exact h_30)⟩
  · refine a_aload_n dX8_expire_27 rfl ?_
    refine a_iload_n dX8_expire_28 rfl ?_
    refine a_iconst (v := 0) dX8_expire_29 (by decide) ?_
    refine c_V2X dX8_expire_30 kw_457 kv_X8_settle (s_settle_f h0 h5 h6 hW hm hx hj hu4 hl) (fun ρ30 h_30 => ?_)
    refine a_goto (tgt := 43) dX8_expire_33 (by decide) ?_
    exact c_vret dX8_expire_43 ⟨rfl, _, rfl, by
      first
        | (rw [expireB, if_pos (hle.mpr c_24), judge_wait (hD hm) hj hu4 hl]
           refine ⟨⟨S1_of h0.1, S2_of h0.2.1, S3_of h0.2.2.1, S4_of h0.2.2.2.1, Kp_of h0.2.2.2.2⟩, ⟨h5.1, fun _ i hi => ⟨?_, (h5.2 hm i hi).2⟩⟩, S6_sg h6 hx.2.2.1 hu4 hj hl (Or.inl rfl)⟩
           by_cases e : i = j
           · subst e; rw [sg_same, sg_same]
           · rw [sg_k e, sg_k e]; exact (h5.2 hm i hi).1)
        | (rw [expireB, if_neg (fun q => c_24 (hle.mp q))]
           exact h_30)⟩
set_option maxRecDepth 10000 in
theorem L_X8_ea {l : Launch} {w : WW} {Φ : Option Value → XX → Prop} {M : Mem} {ρ0 : Sg} {B k r : Nat} (hr : ρ0 7 0 2 = nI r) (hr2 : r ≤ 2) : ∀ (n : Nat) {v : Nat} {τ ρ : Sg} {x : Int32}, v + n = 4 → Sm ρ0 τ ρ → Gk B k τ → (∀ ρ', Sm ρ0 (expI 1 (nI r) n v τ x).1 ρ' → A l w yX8_expireAll cX8_expireAll 2 none (rmd 7) Φ 28 [some (.ref (ad w 2 7 0)), some (.int (nI 4))] [] (zx w M 2 ρ') 0 0) → A l w yX8_expireAll cX8_expireAll 2 none (rmd 7) Φ 2 [some (.ref (ad w 2 7 0)), some (.int (nI v))] [] (zx w M 2 ρ) 0 0 := by
  intro n
  induction n with
  | zero =>
    intro v τ ρ x hv h hG kk
    refine a_iload_n dX8_expireAll_2 rfl ?_
    refine a_iconst (v := 4) dX8_expireAll_3 (by decide) ?_
    refine a_icmp_ge (tgt := 28) dX8_expireAll_4 (by decide) (fun c_4 => ?_) (fun c_4 => absurd (by have e6 : v = 4 := (by omega); subst e6; decide) c_4)
    obtain rfl : v = 4 := by omega
    exact kk _ h
  | succ n ih =>
    intro v τ ρ x hv h hG kk
    refine a_iload_n dX8_expireAll_2 rfl ?_
    refine a_iconst (v := 4) dX8_expireAll_3 (by decide) ?_
    refine a_icmp_ge (tgt := 28) dX8_expireAll_4 (by decide) (fun c_4 => absurd c_4 (nI_ge (b := 4) (by omega) (by omega))) (fun c_4 => ?_)
    refine a_aload_n dX8_expireAll_7 rfl ?_
    refine c_getR (t := 7) (k := 26) dX8_expireAll_8 kw_104 rfl ?_
    refine a_iload_n dX8_expireAll_11 rfl ?_
    refine c_iald (i := v) dX8_expireAll_12 rfl (show v < 4 by omega) ?_
    refine a_iconst (v := (-1)) dX8_expireAll_13 (by decide) ?_
    have hh := held_is h.2.2 hG.2.1.2.2.1 (v := v) (by omega)
    rw [hh]
    refine a_icmp_eq (tgt := 22) dX8_expireAll_14 (by decide) (fun c_14 => ?_) (fun c_14 => ?_)
    · refine a_iinc_1 (u := nI (v + 1)) dX8_expireAll_22 (inc_nI v) (by decide) ?_
      refine a_goto (tgt := 2) dX8_expireAll_25 (by decide) ?_
      rw [expI] at kk
      first
        | (rw [if_pos (Or.inl c_14)] at kk; exact ih (by omega) h hG kk)
        | (rw [if_neg (by rintro (q | q)
                          · exact c_14 q
                          · exact absurd q.1 (by decide))] at kk
           exact ih (by omega) h_19 (Gk_ex hG hm hl.2.1 (by omega) hl.2.2) kk)
    · have hl := leased_job (τ := τ) (v := v) (by omega) c_14
      have hm : mb τ ≠ 0 := by
        obtain ⟨⟨qs, ps, hW⟩, -⟩ := id hG
        have hJ := Lok_J (v := v) (by omega) (Wk_L hW) c_14
        have := hJ.2.2.2.2.1
        omega
      refine a_aload_n dX8_expireAll_17 rfl ?_
      refine a_iload_n dX8_expireAll_18 rfl ?_
      refine c_V1X dX8_expireAll_19 kw_505 kv_X8_expire (s_X8_expire h hG hm hl.2.1 (by omega) hl.2.2 (hh.trans hl.1) (h.1.2.2.2.2.2.2.2.2.2.2.1.trans hr) hr2) (fun ρ19 h_19 => ?_)
      refine a_iinc_1 (u := nI (v + 1)) dX8_expireAll_22 (inc_nI v) (by decide) ?_
      refine a_goto (tgt := 2) dX8_expireAll_25 (by decide) ?_
      rw [expI] at kk
      first
        | (rw [if_pos (Or.inl c_14)] at kk; exact ih (by omega) h hG kk)
        | (rw [if_neg (by rintro (q | q)
                          · exact c_14 q
                          · exact absurd q.1 (by decide))] at kk
           exact ih (by omega) h_19 (Gk_ex hG hm hl.2.1 (by omega) hl.2.2) kk)
set_option maxRecDepth 10000 in
theorem s_X8_expireAll {l : Launch} {w : WW} {M : Mem} {ρ0 σ ρ : Sg} {B k r : Nat} (h : Sm ρ0 σ ρ) (hG : Gk B k σ) (hr : ρ0 7 0 2 = nI r) (hr2 : r ≤ 2) : Can l w yX8_expireAll cX8_expireAll 2 none (rmd 7) [.ref (ad w 2 7 0)] (zx w M 2 ρ) (RX w M (fun ρ' => Sm ρ0 (expI 1 (nI r) 4 0 σ 0).1 ρ')) := by
  refine Can.go (ls := [some (.ref (ad w 2 7 0)), none]) ?_
  refine a_iconst (v := 0) dX8_expireAll_0 (by decide) ?_
  refine a_istore_1 dX8_expireAll_1 (by decide) ?_
  exact L_X8_ea hr hr2 4 (v := 0) (x := 0) rfl h hG (fun ρ1 h1 => c_vret dX8_expireAll_28 ⟨rfl, _, rfl, h1⟩)
