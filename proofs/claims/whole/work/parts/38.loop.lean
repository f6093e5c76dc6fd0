/-! the law from a new pair to its end -/
section AR
variable {l : Launch} {w : WW} {b L : Nat} {xs : Nat → Int32} {q ks : Nat} {N : Mem} {z : Nat → Int32} {ls : List (Option Value)}
theorem law_end (hks : ks ≤ 7302250) : AG l w b L xs yL_law cL_law 4 ret room_1 TL 670 ls [] (mx w N) 158 ks := by
  refine g_iconst (v := 1) dL_law_670 (by decide) ?_
  intro p e s m args below meth c H locs arr E K P Z S B Lh
  have hsz : s.heap.size = w.2.2 := by
    have h1 : s.heap.size + 158 = w.2.2 + 158 := Z.1
    omega
  refine va_forget (fun q hq => by rw [hsz]; exact S.2.2 q hq) ?_
  refine W.widen (show 158 ≤ 600000 by decide) hks ?_
  exact lw_ret2 E.1 E.2.1 E.2.2.2.1 E.2.2.2.2.1 dL_law_671
theorem LI_up (h : LI z q N) : LI z (q + 1) N := by
  obtain ⟨E, F, h1, h2, h3, h4⟩ := h
  exact ⟨E, F, h1, h2, h3, Nat.le_succ_of_le h4⟩
theorem out20 : ∀ m, m < 32 → 20 ≤ m → (19 : Int) < (nI m).toInt := by decide
theorem law_loop (hz : Zv z) (hks : ks ≤ 7302250) : ∀ (n q : Nat) (N : Mem), n + q = 65 → LI z q N → AG l w b L xs yL_law cL_law 4 ret room_1 TL 58 [some (.ref b), some (.ref (ad w 2 6 0)), some (.ref (ad w 2 7 0)), some (.int (nI (4 + 4 * q)))] [] (mx w N) 158 ks := by
  intro n
  induction n with
  | zero =>
    intro q N hn h
    refine g_iload_n dL_law_58 rfl ?_
    refine g_aload_n dL_law_59 rfl ?_
    refine g_slen dL_law_60 (fun hL => ?_)
    refine g_iconst (v := 4) dL_law_61 (by decide) ?_
    refine g_isub dL_law_62 ?_
    refine g_icmp_gt (tgt := 670) dL_law_63 (by decide) (fun _ => law_end hks) (fun hc => ?_)
    have hi := lawgt hL (by omega) (by omega) hc
    omega
  | succ n ih =>
    intro q N hn h
    refine g_iload_n dL_law_58 rfl ?_
    refine g_aload_n dL_law_59 rfl ?_
    refine g_slen dL_law_60 (fun hL => ?_)
    refine g_iconst (v := 4) dL_law_61 (by decide) ?_
    refine g_isub dL_law_62 ?_
    refine g_icmp_gt (tgt := 670) dL_law_63 (by decide) (fun _ => law_end hks) (fun hc => ?_)
    have hi := lawgt hL (by omega) (by omega) hc
    have kk : ∀ N' : Mem, LI z (q + 1) N' → AG l w b L xs yL_law cL_law 4 ret room_1 TL 664 [some (.ref b), some (.ref (ad w 2 6 0)), some (.ref (ad w 2 7 0)), some (.int (nI (4 + 4 * q)))] [] (mx w N') 158 ks := by
      intro N' h'
      refine g_iinc_3 (u := nI (4 + 4 * (q + 1))) dL_law_664 ?_ (by decide) ?_
      · rw [show Int32.ofInt 4 = nI 4 by decide, nI_p]
        exact congrArg nI (by omega)
      refine g_goto (tgt := 58) dL_law_667 (by decide) ?_
      exact ih (q + 1) N' (by omega) h'
    refine g_aload_n dL_law_66 rfl ?_
    refine g_iload_n dL_law_67 rfl ?_
    refine g_sld (i := 4 + 4 * q) dL_law_68 rfl (by omega) ?_
    refine g_bipush (v := 31) dL_law_69 (by decide) ?_
    refine g_iand dL_law_71 ?_
    obtain ⟨m, hm, e⟩ := and31 (xs (4 + 4 * q))
    rw [e]
    rcases (show m = 0 ∨ m = 1 ∨ m = 2 ∨ m = 3 ∨ m = 4 ∨ m = 5 ∨ m = 6 ∨ m = 7 ∨ m = 8 ∨ m = 9 ∨ m = 10 ∨ m = 11 ∨ m = 12 ∨ m = 13 ∨ m = 14 ∨ m = 15 ∨ m = 16 ∨ m = 17 ∨ m = 18 ∨ m = 19 ∨ 20 ≤ m by omega) with rfl | rfl | rfl | rfl | rfl | rfl | rfl | rfl | rfl | rfl | rfl | rfl | rfl | rfl | rfl | rfl | rfl | rfl | rfl | rfl | h20
    · refine g_tabIn (tgt := 168) (d_ := 96) dL_law_72 (by decide) (by decide) rfl (by decide) ?_
      exact law_c0 hz hi (by omega) hks h kk
    · refine g_tabIn (tgt := 181) (d_ := 109) dL_law_72 (by decide) (by decide) rfl (by decide) ?_
      exact law_c1 hz hi (by omega) hks h kk
    · refine g_tabIn (tgt := 224) (d_ := 152) dL_law_72 (by decide) (by decide) rfl (by decide) ?_
      exact law_c2 hz hi (by omega) hks h kk
    · refine g_tabIn (tgt := 257) (d_ := 185) dL_law_72 (by decide) (by decide) rfl (by decide) ?_
      exact law_c3 hz hi (by omega) hks h kk
    · refine g_tabIn (tgt := 290) (d_ := 218) dL_law_72 (by decide) (by decide) rfl (by decide) ?_
      exact law_c4 hz hi (by omega) hks h kk
    · refine g_tabIn (tgt := 313) (d_ := 241) dL_law_72 (by decide) (by decide) rfl (by decide) ?_
      exact law_c5 hz hi (by omega) hks h kk
    · refine g_tabIn (tgt := 336) (d_ := 264) dL_law_72 (by decide) (by decide) rfl (by decide) ?_
      exact law_c6 hz hi (by omega) hks h kk
    · refine g_tabIn (tgt := 359) (d_ := 287) dL_law_72 (by decide) (by decide) rfl (by decide) ?_
      exact law_c7 hz hi (by omega) hks h kk
    · refine g_tabIn (tgt := 382) (d_ := 310) dL_law_72 (by decide) (by decide) rfl (by decide) ?_
      exact law_c8 hz hi (by omega) hks h kk
    · refine g_tabIn (tgt := 431) (d_ := 359) dL_law_72 (by decide) (by decide) rfl (by decide) ?_
      exact law_c9 hz hi (by omega) hks h kk
    · refine g_tabIn (tgt := 454) (d_ := 382) dL_law_72 (by decide) (by decide) rfl (by decide) ?_
      exact law_c10 hz hi (by omega) hks h kk
    · refine g_tabIn (tgt := 467) (d_ := 395) dL_law_72 (by decide) (by decide) rfl (by decide) ?_
      exact law_c11 hz hi (by omega) hks h kk
    · refine g_tabIn (tgt := 490) (d_ := 418) dL_law_72 (by decide) (by decide) rfl (by decide) ?_
      exact law_c12 hz hi (by omega) hks h kk
    · refine g_tabIn (tgt := 513) (d_ := 441) dL_law_72 (by decide) (by decide) rfl (by decide) ?_
      exact law_c13 hz hi (by omega) hks h kk
    · refine g_tabIn (tgt := 536) (d_ := 464) dL_law_72 (by decide) (by decide) rfl (by decide) ?_
      exact law_c14 hz hi (by omega) hks h kk
    · refine g_tabIn (tgt := 559) (d_ := 487) dL_law_72 (by decide) (by decide) rfl (by decide) ?_
      exact law_c15 hz hi (by omega) hks h kk
    · refine g_tabIn (tgt := 592) (d_ := 520) dL_law_72 (by decide) (by decide) rfl (by decide) ?_
      exact law_c16 hz hi (by omega) hks h kk
    · refine g_tabIn (tgt := 615) (d_ := 543) dL_law_72 (by decide) (by decide) rfl (by decide) ?_
      exact law_c17 hz hi (by omega) hks h kk
    · refine g_tabIn (tgt := 628) (d_ := 556) dL_law_72 (by decide) (by decide) rfl (by decide) ?_
      exact law_c18 hz hi (by omega) hks h kk
    · refine g_tabIn (tgt := 651) (d_ := 579) dL_law_72 (by decide) (by decide) rfl (by decide) ?_
      exact law_c19 hz hi (by omega) hks h kk
    · refine g_tabOut (tgt := 664) dL_law_72 (Or.inr (out20 m hm h20)) (by decide) ?_
      exact kk N (LI_up h)
theorem mI_t {M : Mem} {a b c d : Int32} {t : Nat} (h4 : t ≠ 4) (h6 : t ≠ 6) : mI M a b c d 2 t 0 = M 2 t 0 := by
  unfold mI mS
  rw [up_ne (by simp [h6]), up_ne (by simp), up_ne (by simp), up_ne (by simp [h4]), up_ne (by simp [h4]), up_ne (by simp [h4]), up_ne (by simp [h4])]
theorem law_new : AG l w b L xs yL_law cL_law 4 ret room_1 TL 0 [some (.ref b), none, none, none] [] (Mz, RT w, 0) 0 0 := by
  refine g_bnew (s := 2) (t := 6) (c := 0) dL_law_0 kw_0 kw_1 kw_2 (by decide) ob_6 (Mz_0 (Or.inr rfl)) ⟨Nat.le_of_ble_eq_true rfl, Nat.le_of_ble_eq_true rfl⟩ ?_
  refine g_dup dL_law_3 rfl ?_
  refine g_aload_n dL_law_4 rfl ?_
  refine g_iconst (v := nI 0) dL_law_5 (by decide) ?_
  refine g_cell (k := 0) dL_law_6 kw_6 rfl (by decide) ⟨Nat.le_of_ble_eq_true rfl, Nat.le_of_ble_eq_true rfl⟩ ⟨Nat.le_of_ble_eq_true rfl, Nat.le_of_ble_eq_true rfl⟩ (Nat.le_of_ble_eq_true rfl) ?_
  refine g_aload_n dL_law_9 rfl ?_
  refine g_iconst (v := nI 1) dL_law_10 (by decide) ?_
  refine g_cell (k := 1) dL_law_11 kw_6 rfl (by decide) ⟨Nat.le_of_ble_eq_true rfl, Nat.le_of_ble_eq_true rfl⟩ ⟨Nat.le_of_ble_eq_true rfl, Nat.le_of_ble_eq_true rfl⟩ (Nat.le_of_ble_eq_true rfl) ?_
  refine g_aload_n dL_law_14 rfl ?_
  refine g_iconst (v := nI 2) dL_law_15 (by decide) ?_
  refine g_cell (k := 2) dL_law_16 kw_6 rfl (by decide) ⟨Nat.le_of_ble_eq_true rfl, Nat.le_of_ble_eq_true rfl⟩ ⟨Nat.le_of_ble_eq_true rfl, Nat.le_of_ble_eq_true rfl⟩ (Nat.le_of_ble_eq_true rfl) ?_
  refine g_aload_n dL_law_19 rfl ?_
  refine g_iconst (v := nI 3) dL_law_20 (by decide) ?_
  refine g_cell (k := 3) dL_law_21 kw_6 rfl (by decide) ⟨Nat.le_of_ble_eq_true rfl, Nat.le_of_ble_eq_true rfl⟩ ⟨Nat.le_of_ble_eq_true rfl, Nat.le_of_ble_eq_true rfl⟩ (Nat.le_of_ble_eq_true rfl) ?_
  refine g_callI (rm' := rmc 3 138 824) [.int (cellV L xs 0), .int (cellV L xs 1), .int (cellV L xs 2), .int (cellV L xs 3)] dL_law_24 kw_10 ki_X7_init rfl ⟨Nat.le_of_ble_eq_true rfl, Nat.le_of_ble_eq_true rfl⟩ ⟨Nat.le_of_ble_eq_true rfl, Nat.le_of_ble_eq_true rfl⟩ (Nat.le_of_ble_eq_true rfl) (s_X7_init (fun s t c h => Mz_0 (rlz h))) (fun v z h => ?_)
  obtain ⟨rfl, rfl⟩ := h
  refine g_astore_1 dL_law_27 (by decide) ?_
  refine g_bnew (s := 2) (t := 7) (c := 0) dL_law_28 kw_3 kw_4 kw_5 (by decide) ob_7 ((mI_t (by decide) (by decide)).trans (Mz_0 (Or.inr rfl))) ⟨Nat.le_of_ble_eq_true rfl, Nat.le_of_ble_eq_true rfl⟩ ?_
  refine g_dup dL_law_31 rfl ?_
  refine g_aload_n dL_law_32 rfl ?_
  refine g_iconst (v := nI 0) dL_law_33 (by decide) ?_
  refine g_cell (k := 0) dL_law_34 kw_6 rfl (by decide) ⟨Nat.le_of_ble_eq_true rfl, Nat.le_of_ble_eq_true rfl⟩ ⟨Nat.le_of_ble_eq_true rfl, Nat.le_of_ble_eq_true rfl⟩ (Nat.le_of_ble_eq_true rfl) ?_
  refine g_aload_n dL_law_37 rfl ?_
  refine g_iconst (v := nI 1) dL_law_38 (by decide) ?_
  refine g_cell (k := 1) dL_law_39 kw_6 rfl (by decide) ⟨Nat.le_of_ble_eq_true rfl, Nat.le_of_ble_eq_true rfl⟩ ⟨Nat.le_of_ble_eq_true rfl, Nat.le_of_ble_eq_true rfl⟩ (Nat.le_of_ble_eq_true rfl) ?_
  refine g_aload_n dL_law_42 rfl ?_
  refine g_iconst (v := nI 2) dL_law_43 (by decide) ?_
  refine g_cell (k := 2) dL_law_44 kw_6 rfl (by decide) ⟨Nat.le_of_ble_eq_true rfl, Nat.le_of_ble_eq_true rfl⟩ ⟨Nat.le_of_ble_eq_true rfl, Nat.le_of_ble_eq_true rfl⟩ (Nat.le_of_ble_eq_true rfl) ?_
  refine g_aload_n dL_law_47 rfl ?_
  refine g_iconst (v := nI 3) dL_law_48 (by decide) ?_
  refine g_cell (k := 3) dL_law_49 kw_6 rfl (by decide) ⟨Nat.le_of_ble_eq_true rfl, Nat.le_of_ble_eq_true rfl⟩ ⟨Nat.le_of_ble_eq_true rfl, Nat.le_of_ble_eq_true rfl⟩ (Nat.le_of_ble_eq_true rfl) ?_
  refine g_callI (rm' := rmc 2 18 2469) [.int (cellV L xs 0), .int (cellV L xs 1), .int (cellV L xs 2), .int (cellV L xs 3)] dL_law_52 kw_86 ki_X8_init rfl ⟨Nat.le_of_ble_eq_true rfl, Nat.le_of_ble_eq_true rfl⟩ ⟨Nat.le_of_ble_eq_true rfl, Nat.le_of_ble_eq_true rfl⟩ (Nat.le_of_ble_eq_true rfl) (s_X8_init (fun t h1 h2 => (mI_t (by omega) (by omega)).trans (Mz_0 (Or.inr rfl)))) (fun v z h => ?_)
  obtain ⟨rfl, rfl⟩ := h
  refine g_astore_2 dL_law_55 (by decide) ?_
  refine g_iconst (v := nI (4 + 4 * 0)) dL_law_56 (by decide) ?_
  refine g_istore_3 dL_law_57 (by decide) ?_
  refine g_kk (kc' := 158) (ks' := 3327) (Nat.eq_of_beq_eq_true rfl) (Nat.eq_of_beq_eq_true rfl) ?_
  obtain ⟨z, hz, hI⟩ := new_I (cellV L xs 0) (cellV L xs 1) (cellV L xs 2) (cellV L xs 3)
  exact law_loop hz (by decide) 65 0 _ rfl hI
end AR
