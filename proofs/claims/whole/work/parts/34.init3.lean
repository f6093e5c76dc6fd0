/-! the constructors of the class and of the reference -/
def clp (n lo hi : Int32) : Int32 := if lo < (if n < hi then n else hi) then (if n < hi then n else hi) else lo
def mS (M : Mem) (a b c d : Int32) : Mem := up (up (up (up M 2 4 0 0 (clp a 0 3)) 2 4 0 1 (clp b 1 8)) 2 4 0 2 (clp c 0 2)) 2 4 0 3 (clp d 1 9)
def mI (M : Mem) (a b c d : Int32) : Mem := up (up (up (mS M a b c d) 0 8 0 0 17) 1 8 0 0 17) 2 6 0 3 0
def mR (M : Mem) (a b c d : Int32) : Mem := up (up (up (up M 2 7 0 0 (wth a 0 3)) 2 7 0 1 (wth b 1 8)) 2 7 0 2 (wth c 0 2)) 2 7 0 3 (wth d 1 9)
theorem ob_6 : obs[0]? = some (2, 6, 0) := by decide +kernel
theorem ob_4 : obs[1]? = some (2, 4, 0) := by decide +kernel
theorem ob_17 : obs[122]? = some (2, 17, 0) := by decide +kernel
theorem ob_7 : obs[139]? = some (2, 7, 0) := by decide +kernel
theorem obr_18 : obs[140]? = some (2, 18, 0) := by decide +kernel
theorem obr_19 : obs[141]? = some (2, 19, 0) := by decide +kernel
theorem obr_20 : obs[142]? = some (2, 20, 0) := by decide +kernel
theorem obr_21 : obs[143]? = some (2, 21, 0) := by decide +kernel
theorem obr_22 : obs[144]? = some (2, 22, 0) := by decide +kernel
theorem obr_23 : obs[145]? = some (2, 23, 0) := by decide +kernel
theorem obr_24 : obs[146]? = some (2, 24, 0) := by decide +kernel
theorem obr_25 : obs[147]? = some (2, 25, 0) := by decide +kernel
theorem obr_26 : obs[148]? = some (2, 26, 0) := by decide +kernel
theorem obr_27 : obs[149]? = some (2, 27, 0) := by decide +kernel
theorem obr_28 : obs[150]? = some (2, 28, 0) := by decide +kernel
theorem obr_29 : obs[151]? = some (2, 29, 0) := by decide +kernel
theorem obr_30 : obs[152]? = some (2, 30, 0) := by decide +kernel
theorem obr_31 : obs[153]? = some (2, 31, 0) := by decide +kernel
theorem obr_32 : obs[154]? = some (2, 32, 0) := by decide +kernel
theorem obr_33 : obs[155]? = some (2, 33, 0) := by decide +kernel
theorem obr_34 : obs[156]? = some (2, 34, 0) := by decide +kernel
theorem obr_35 : obs[157]? = some (2, 35, 0) := by decide +kernel
section AR
variable {l : Launch} {w : WW} {M : Mem} {R : RMem} {a b c d : Int32}
theorem s_X7_lp {f : Nat → Option Nat} {u1 u2 u3 u4 u5 : Option Value} (hf : f 2 = some (ad w 2 17 0)) (hF : ∀ k, k < nF 6 → isR 6 k = true → f k = RT w 2 6 0 k) (hM : ∀ i, i < 16 → M 2 2 i = zr) : ∀ m i, i + m = 16 → A l w yX7_init cX7_init 7 none (rmc 3 138 824) (RV (up M 2 6 0 3 0, RT w, 139)) 98 [some (.ref (ad w 2 6 0)), u1, u2, u3, u4, u5, some (.int (nI i))] [] (M, tR (RT w) 2 6 f 17 (gE w i), 123 + i) (122 + i) (760 + 4 * i) := by
  intro m
  induction m with
  | zero =>
    intro i him
    obtain rfl : i = 16 := by omega
    refine a_iload dX7_init_98 rfl ?_
    refine a_bipush (v := 16) dX7_init_100 (by decide) ?_
    refine a_icmp_ge (tgt := 125) dX7_init_102 (by decide) (fun _ => ?_) (fun h => absurd (by decide) h)
    refine a_aload_n dX7_init_125 rfl ?_
    refine a_iconst (v := 0) dX7_init_126 (by decide) ?_
    refine b_putI (t := 6) (k := 3) dX7_init_127 kw_32 (by decide) (by decide) rfl rfl rfl ob_6 (by omega) ?_
    rw [tR_of (R := RT w) (s := 2) (t := 6) (t' := 17) (f := f) (g := gE w 16) (by decide) rfl]
    refine b_fix (f' := RT w 2 6 0) (by decide) hF ?_
    rw [stR_id rfl]
    exact a_vret dX7_init_130 rfl rfl (Nat.le_of_ble_eq_true rfl) ⟨rfl, rfl⟩
  | succ m ih =>
    intro i him
    have hi : i < 16 := by omega
    refine a_iload dX7_init_98 rfl ?_
    refine a_bipush (v := 16) dX7_init_100 (by decide) ?_
    refine a_icmp_ge (tgt := 125) dX7_init_102 (by decide) (fun h => absurd h (nI_ge (b := 16) (by omega) (by omega))) (fun _ => ?_)
    refine a_aload_n dX7_init_105 rfl ?_
    refine b_get2 (t := 6) (k := 2) dX7_init_106 kw_29 (by decide) (by decide) rfl ob_6 (by omega) (by decide) hf ?_
    refine a_iload dX7_init_109 rfl ?_
    refine b_new (s := 2) (t := 2) (c := i) dX7_init_111 kw_28 kw_30 kw_31 (by decide) (obe_2 i hi) (hM i hi) (⟨show 122 + i + 1 ≤ 138 by omega, show 760 + 4 * i + 4 ≤ 824 by omega⟩) ?_
    refine a_dup dX7_init_114 rfl ?_
    refine a_callIN (rm' := rmc 1 0 0) [] dX7_init_115 nw_224 ki_X2_init rfl ⟨Nat.le_of_ble_eq_true rfl, Nat.le_of_ble_eq_true rfl⟩ ⟨show 122 + i + 1 + 0 ≤ 138 by omega, show 760 + 4 * i + 4 + 0 ≤ 824 by omega⟩ (Nat.le_of_ble_eq_true rfl) s_X2_init (fun v z h => ?_)
    obtain ⟨rfl, rfl⟩ := h
    refine b_fix (f' := RT w 2 2 i) (by decide) (fun k hk hi => Bool.noConfusion hi) ?_
    rw [stR_id (R := tR (RT w) 2 6 f 17 (gE w i)) (by rw [tR_ne (by simp) (by simp)])]
    refine b_aast (t := 17) (i := i) dX7_init_118 rfl hi (Or.inr ⟨rfl, rfl⟩) (by decide) ob_17 (by omega) (obe_2 i hi) (by omega) ?_
    refine a_iinc_6 (u := nI (i + 1)) dX7_init_119 (inc_nI i) (by decide) ?_
    refine a_goto (tgt := 98) dX7_init_122 (by decide) ?_
    refine a_eq (x' := (M, tR (RT w) 2 6 f 17 (gE w (i + 1)), 123 + (i + 1))) (by rw [gE_up]; rfl) ?_
    refine a_kk (kc' := 122 + (i + 1)) (ks' := 760 + 4 * (i + 1)) (by show 122 + i + 1 + 0 = _; omega) (by show 760 + 4 * i + 4 + 0 = _; omega) ?_
    exact ih (i + 1) (by omega)
theorem s_X7_init (hM : ∀ s t c, rl s t c = true → M s t c = zr) : Can l w yX7_init cX7_init 7 none (rmc 3 138 824) [.ref (ad w 2 6 0), .int a, .int b, .int c, .int d] (M, stR (RT w) 2 6 0 nn, 1) (RV (mI M a b c d, RT w, 139)) := by
  refine Can.go (ls := [some (.ref (ad w 2 6 0)), some (.int a), some (.int b), some (.int c), some (.int d), none, none]) ?_
  refine a_aload_n dX7_init_0 rfl ?_
  refine a_objI dX7_init_1 kw_13 kw_14 kw_15 ⟨Nat.le_of_ble_eq_true rfl, Nat.le_of_ble_eq_true rfl⟩ ?_
  refine b_new (s := 2) (t := 4) (c := 0) dX7_init_4 kw_16 kw_17 kw_18 (by decide) (ob_4) (hM 2 4 0 rfl) (⟨Nat.le_of_ble_eq_true rfl, Nat.le_of_ble_eq_true rfl⟩) ?_
  refine a_dup dX7_init_7 rfl ?_
  refine a_callIN (rm' := rmc 1 0 0) [] dX7_init_8 nw_77 ki_X5_init rfl ⟨Nat.le_of_ble_eq_true rfl, Nat.le_of_ble_eq_true rfl⟩ ⟨Nat.le_of_ble_eq_true rfl, Nat.le_of_ble_eq_true rfl⟩ (Nat.le_of_ble_eq_true rfl) s_X5_init (fun v z h => ?_)
  obtain ⟨rfl, rfl⟩ := h
  refine b_fix (f' := RT w 2 4 0) (by decide) (fun k hk hi => Bool.noConfusion hi) ?_
  rw [stR_id (R := stR (RT w) 2 6 0 nn) (by rw [stR_ne (by simp)])]
  refine a_astore_5 dX7_init_11 (by decide) ?_
  refine a_aload dX7_init_13 rfl ?_
  refine a_iload_n dX7_init_15 rfl ?_
  refine a_iconst (v := 0) dX7_init_16 (by decide) ?_
  refine a_iconst (v := 3) dX7_init_17 (by decide) ?_
  refine a_callS (rm' := rmd 1) [.int a, .int 0, .int 3] dX7_init_18 kw_36 ks_X7_clamped rfl ⟨Nat.le_of_ble_eq_true rfl, Nat.le_of_ble_eq_true rfl⟩ ⟨Nat.le_of_ble_eq_true rfl, Nat.le_of_ble_eq_true rfl⟩ (Nat.le_of_ble_eq_true rfl) s_X7_clamped (fun v z h => ?_)
  obtain ⟨rfl, rfl⟩ := h
  refine b_putI (t := 4) (k := 0) dX7_init_21 kw_19 (by decide) (by decide) rfl rfl rfl ob_4 (by omega) ?_
  refine a_aload dX7_init_24 rfl ?_
  refine a_iload_n dX7_init_26 rfl ?_
  refine a_iconst (v := 1) dX7_init_27 (by decide) ?_
  refine a_bipush (v := 8) dX7_init_28 (by decide) ?_
  refine a_callS (rm' := rmd 1) [.int b, .int 1, .int 8] dX7_init_30 kw_36 ks_X7_clamped rfl ⟨Nat.le_of_ble_eq_true rfl, Nat.le_of_ble_eq_true rfl⟩ ⟨Nat.le_of_ble_eq_true rfl, Nat.le_of_ble_eq_true rfl⟩ (Nat.le_of_ble_eq_true rfl) s_X7_clamped (fun v z h => ?_)
  obtain ⟨rfl, rfl⟩ := h
  refine b_putI (t := 4) (k := 1) dX7_init_33 kw_20 (by decide) (by decide) rfl rfl rfl ob_4 (by omega) ?_
  refine a_aload dX7_init_36 rfl ?_
  refine a_iload_n dX7_init_38 rfl ?_
  refine a_iconst (v := 0) dX7_init_39 (by decide) ?_
  refine a_iconst (v := 2) dX7_init_40 (by decide) ?_
  refine a_callS (rm' := rmd 1) [.int c, .int 0, .int 2] dX7_init_41 kw_36 ks_X7_clamped rfl ⟨Nat.le_of_ble_eq_true rfl, Nat.le_of_ble_eq_true rfl⟩ ⟨Nat.le_of_ble_eq_true rfl, Nat.le_of_ble_eq_true rfl⟩ (Nat.le_of_ble_eq_true rfl) s_X7_clamped (fun v z h => ?_)
  obtain ⟨rfl, rfl⟩ := h
  refine b_putI (t := 4) (k := 2) dX7_init_44 kw_21 (by decide) (by decide) rfl rfl rfl ob_4 (by omega) ?_
  refine a_aload dX7_init_47 rfl ?_
  refine a_iload dX7_init_49 rfl ?_
  refine a_iconst (v := 1) dX7_init_51 (by decide) ?_
  refine a_bipush (v := 9) dX7_init_52 (by decide) ?_
  refine a_callS (rm' := rmd 1) [.int d, .int 1, .int 9] dX7_init_54 kw_36 ks_X7_clamped rfl ⟨Nat.le_of_ble_eq_true rfl, Nat.le_of_ble_eq_true rfl⟩ ⟨Nat.le_of_ble_eq_true rfl, Nat.le_of_ble_eq_true rfl⟩ (Nat.le_of_ble_eq_true rfl) s_X7_clamped (fun v z h => ?_)
  obtain ⟨rfl, rfl⟩ := h
  refine b_putI (t := 4) (k := 3) dX7_init_57 kw_22 (by decide) (by decide) rfl rfl rfl ob_4 (by omega) ?_
  refine a_aload_n dX7_init_60 rfl ?_
  refine b_new (s := 0) (t := 5) (c := 0) dX7_init_61 kw_23 kw_24 kw_25 (by decide) (ob_5 (s := 0) (by decide) rfl) (hM 0 5 0 rfl) (⟨Nat.le_of_ble_eq_true rfl, Nat.le_of_ble_eq_true rfl⟩) ?_
  refine a_dup dX7_init_64 rfl ?_
  refine a_aload dX7_init_65 rfl ?_
  refine a_callI (rm' := rmc 2 59 361) [.ref (ad w 2 4 0)] dX7_init_67 kw_46 ki_X6_init rfl ⟨Nat.le_of_ble_eq_true rfl, Nat.le_of_ble_eq_true rfl⟩ ⟨Nat.le_of_ble_eq_true rfl, Nat.le_of_ble_eq_true rfl⟩ (Nat.le_of_ble_eq_true rfl) (s_X6_init (s := 0) (R := stR (RT w) 2 6 0 _) (by decide) (fun t c h => hM 0 t c h) rfl) (fun v z h => ?_)
  obtain ⟨rfl, rfl⟩ := h
  refine b_put1 (t := 6) (k := 0) dX7_init_70 kw_26 rfl rfl (by decide) (by decide) rfl rfl rfl rfl rfl ob_6 (by omega) ?_
  refine a_aload_n dX7_init_73 rfl ?_
  refine b_new (s := 1) (t := 5) (c := 0) dX7_init_74 kw_23 kw_24 kw_25 (by decide) (ob_5 (s := 1) (by decide) rfl) (hM 1 5 0 rfl) (⟨Nat.le_of_ble_eq_true rfl, Nat.le_of_ble_eq_true rfl⟩) ?_
  refine a_dup dX7_init_77 rfl ?_
  refine a_aload dX7_init_78 rfl ?_
  refine a_callI (rm' := rmc 2 59 361) [.ref (ad w 2 4 0)] dX7_init_80 kw_46 ki_X6_init rfl ⟨Nat.le_of_ble_eq_true rfl, Nat.le_of_ble_eq_true rfl⟩ ⟨Nat.le_of_ble_eq_true rfl, Nat.le_of_ble_eq_true rfl⟩ (Nat.le_of_ble_eq_true rfl) (s_X6_init (s := 1) (R := stR (RT w) 2 6 0 _) (by decide) (fun t c h => hM 1 t c h) rfl) (fun v z h => ?_)
  obtain ⟨rfl, rfl⟩ := h
  refine b_put1 (t := 6) (k := 1) dX7_init_83 kw_27 rfl rfl (by decide) (by decide) rfl rfl rfl rfl rfl ob_6 (by omega) ?_
  refine a_aload_n dX7_init_86 rfl ?_
  refine a_bipush (v := 16) dX7_init_87 (by decide) ?_
  refine b_newq (s := 2) (t := 17) (c := 0) dX7_init_89 kw_28 (by first | exact Or.inl ⟨rfl, rfl⟩ | exact Or.inr ⟨rfl, rfl⟩) (by first | rfl | decide) (by decide) (ob_17) (⟨Nat.le_of_ble_eq_true rfl, Nat.le_of_ble_eq_true rfl⟩) ?_
  refine a_eq (x' := (_, tR (RT w) 2 6 _ 17 nn, _)) rfl ?_
  refine b_put2 (t := 6) (k := 2) dX7_init_92 kw_29 rfl rfl (by decide) (by decide) rfl rfl rfl rfl rfl ob_6 (by omega) (by decide) ?_
  refine a_iconst (v := 0) dX7_init_95 (by decide) ?_
  refine a_istore_6 dX7_init_96 (by decide) ?_
  refine a_eq (x' := (up (up (mS M a b c d) 0 8 0 0 17) 1 8 0 0 17, tR (RT w) 2 6 _ 17 (gE w 0), 123 + 0)) (by rw [gE_0 w]; rfl) ?_
  refine a_kk (kc' := 122 + 0) (ks' := 760 + 4 * 0) (Nat.eq_of_beq_eq_true rfl) (Nat.eq_of_beq_eq_true rfl) ?_
  refine s_X7_lp ?_ (fun k hk hi => ?_) (fun i hi => ?_) 16 0 rfl
  · rfl
  · have hk : k < 4 := hk
    rcases (show k = 0 ∨ k = 1 ∨ k = 2 ∨ k = 3 by omega) with rfl | rfl | rfl | rfl <;> first | rfl | exact absurd hi (by decide)
  · exact hM 2 2 i (ob_rl (obe_2 i hi))
set_option maxRecDepth 10000 in
theorem s_X8_init (hM : ∀ t, 18 ≤ t → t < 36 → M 2 t 0 = zr) : Can l w yX8_init cX8_init 5 none (rmc 2 18 2469) [.ref (ad w 2 7 0), .int a, .int b, .int c, .int d] (M, stR (RT w) 2 7 0 nn, 140) (RV (zx w (mR M a b c d) 2 (beginR (mR M a b c d 2)))) := by
  refine Can.go (ls := [some (.ref (ad w 2 7 0)), some (.int a), some (.int b), some (.int c), some (.int d)]) ?_
  refine a_aload_n dX8_init_0 rfl ?_
  refine a_objI dX8_init_1 kw_89 kw_14 kw_15 ⟨Nat.le_of_ble_eq_true rfl, Nat.le_of_ble_eq_true rfl⟩ ?_
  refine a_aload_n dX8_init_4 rfl ?_
  refine a_sipush (v := 512) dX8_init_5 (by decide) ?_
  refine b_newi (s := 2) (t := 18) (c := 0) dX8_init_8 (by first | rfl | decide) (by decide) rfl (obr_18) (hM 18 (by decide) (by decide)) (⟨Nat.le_of_ble_eq_true rfl, Nat.le_of_ble_eq_true rfl⟩) ?_
  refine b_put1 (t := 7) (k := 4) dX8_init_10 kw_90 rfl rfl (by decide) (by decide) rfl rfl rfl rfl rfl ob_7 (by omega) ?_
  refine a_aload_n dX8_init_13 rfl ?_
  refine a_sipush (v := 512) dX8_init_14 (by decide) ?_
  refine b_newi (s := 2) (t := 19) (c := 0) dX8_init_17 (by first | rfl | decide) (by decide) rfl (obr_19) (hM 19 (by decide) (by decide)) (⟨Nat.le_of_ble_eq_true rfl, Nat.le_of_ble_eq_true rfl⟩) ?_
  refine b_put1 (t := 7) (k := 5) dX8_init_19 kw_91 rfl rfl (by decide) (by decide) rfl rfl rfl rfl rfl ob_7 (by omega) ?_
  refine a_aload_n dX8_init_22 rfl ?_
  refine a_sipush (v := 512) dX8_init_23 (by decide) ?_
  refine b_newi (s := 2) (t := 20) (c := 0) dX8_init_26 (by first | rfl | decide) (by decide) rfl (obr_20) (hM 20 (by decide) (by decide)) (⟨Nat.le_of_ble_eq_true rfl, Nat.le_of_ble_eq_true rfl⟩) ?_
  refine b_put1 (t := 7) (k := 6) dX8_init_28 kw_92 rfl rfl (by decide) (by decide) rfl rfl rfl rfl rfl ob_7 (by omega) ?_
  refine a_aload_n dX8_init_31 rfl ?_
  refine a_sipush (v := 512) dX8_init_32 (by decide) ?_
  refine b_newi (s := 2) (t := 21) (c := 0) dX8_init_35 (by first | rfl | decide) (by decide) rfl (obr_21) (hM 21 (by decide) (by decide)) (⟨Nat.le_of_ble_eq_true rfl, Nat.le_of_ble_eq_true rfl⟩) ?_
  refine b_put1 (t := 7) (k := 7) dX8_init_37 kw_93 rfl rfl (by decide) (by decide) rfl rfl rfl rfl rfl ob_7 (by omega) ?_
  refine a_aload_n dX8_init_40 rfl ?_
  refine a_bipush (v := 6) dX8_init_41 (by decide) ?_
  refine b_newi (s := 2) (t := 22) (c := 0) dX8_init_43 (by first | rfl | decide) (by decide) rfl (obr_22) (hM 22 (by decide) (by decide)) (⟨Nat.le_of_ble_eq_true rfl, Nat.le_of_ble_eq_true rfl⟩) ?_
  refine b_put1 (t := 7) (k := 10) dX8_init_45 kw_94 rfl rfl (by decide) (by decide) rfl rfl rfl rfl rfl ob_7 (by omega) ?_
  refine a_aload_n dX8_init_48 rfl ?_
  refine a_bipush (v := 96) dX8_init_49 (by decide) ?_
  refine b_newi (s := 2) (t := 23) (c := 0) dX8_init_51 (by first | rfl | decide) (by decide) rfl (obr_23) (hM 23 (by decide) (by decide)) (⟨Nat.le_of_ble_eq_true rfl, Nat.le_of_ble_eq_true rfl⟩) ?_
  refine b_put1 (t := 7) (k := 14) dX8_init_53 kw_95 rfl rfl (by decide) (by decide) rfl rfl rfl rfl rfl ob_7 (by omega) ?_
  refine a_aload_n dX8_init_56 rfl ?_
  refine a_bipush (v := 96) dX8_init_57 (by decide) ?_
  refine b_newi (s := 2) (t := 24) (c := 0) dX8_init_59 (by first | rfl | decide) (by decide) rfl (obr_24) (hM 24 (by decide) (by decide)) (⟨Nat.le_of_ble_eq_true rfl, Nat.le_of_ble_eq_true rfl⟩) ?_
  refine b_put1 (t := 7) (k := 15) dX8_init_61 kw_96 rfl rfl (by decide) (by decide) rfl rfl rfl rfl rfl ob_7 (by omega) ?_
  refine a_aload_n dX8_init_64 rfl ?_
  refine a_bipush (v := 16) dX8_init_65 (by decide) ?_
  refine b_newi (s := 2) (t := 25) (c := 0) dX8_init_67 (by first | rfl | decide) (by decide) rfl (obr_25) (hM 25 (by decide) (by decide)) (⟨Nat.le_of_ble_eq_true rfl, Nat.le_of_ble_eq_true rfl⟩) ?_
  refine b_put1 (t := 7) (k := 16) dX8_init_69 kw_97 rfl rfl (by decide) (by decide) rfl rfl rfl rfl rfl ob_7 (by omega) ?_
  refine a_aload_n dX8_init_72 rfl ?_
  refine a_bipush (v := 16) dX8_init_73 (by decide) ?_
  refine b_newi (s := 2) (t := 26) (c := 0) dX8_init_75 (by first | rfl | decide) (by decide) rfl (obr_26) (hM 26 (by decide) (by decide)) (⟨Nat.le_of_ble_eq_true rfl, Nat.le_of_ble_eq_true rfl⟩) ?_
  refine b_put1 (t := 7) (k := 17) dX8_init_77 kw_98 rfl rfl (by decide) (by decide) rfl rfl rfl rfl rfl ob_7 (by omega) ?_
  refine a_aload_n dX8_init_80 rfl ?_
  refine a_sipush (v := 128) dX8_init_81 (by decide) ?_
  refine b_newi (s := 2) (t := 27) (c := 0) dX8_init_84 (by first | rfl | decide) (by decide) rfl (obr_27) (hM 27 (by decide) (by decide)) (⟨Nat.le_of_ble_eq_true rfl, Nat.le_of_ble_eq_true rfl⟩) ?_
  refine b_put1 (t := 7) (k := 18) dX8_init_86 kw_99 rfl rfl (by decide) (by decide) rfl rfl rfl rfl rfl ob_7 (by omega) ?_
  refine a_aload_n dX8_init_89 rfl ?_
  refine a_bipush (v := 16) dX8_init_90 (by decide) ?_
  refine b_newi (s := 2) (t := 28) (c := 0) dX8_init_92 (by first | rfl | decide) (by decide) rfl (obr_28) (hM 28 (by decide) (by decide)) (⟨Nat.le_of_ble_eq_true rfl, Nat.le_of_ble_eq_true rfl⟩) ?_
  refine b_put1 (t := 7) (k := 19) dX8_init_94 kw_100 rfl rfl (by decide) (by decide) rfl rfl rfl rfl rfl ob_7 (by omega) ?_
  refine a_aload_n dX8_init_97 rfl ?_
  refine a_bipush (v := 9) dX8_init_98 (by decide) ?_
  refine b_newi (s := 2) (t := 29) (c := 0) dX8_init_100 (by first | rfl | decide) (by decide) rfl (obr_29) (hM 29 (by decide) (by decide)) (⟨Nat.le_of_ble_eq_true rfl, Nat.le_of_ble_eq_true rfl⟩) ?_
  refine b_put1 (t := 7) (k := 21) dX8_init_102 kw_101 rfl rfl (by decide) (by decide) rfl rfl rfl rfl rfl ob_7 (by omega) ?_
  refine a_aload_n dX8_init_105 rfl ?_
  refine a_iconst (v := 4) dX8_init_106 (by decide) ?_
  refine b_newi (s := 2) (t := 30) (c := 0) dX8_init_107 (by first | rfl | decide) (by decide) rfl (obr_30) (hM 30 (by decide) (by decide)) (⟨Nat.le_of_ble_eq_true rfl, Nat.le_of_ble_eq_true rfl⟩) ?_
  refine b_put1 (t := 7) (k := 24) dX8_init_109 kw_102 rfl rfl (by decide) (by decide) rfl rfl rfl rfl rfl ob_7 (by omega) ?_
  refine a_aload_n dX8_init_112 rfl ?_
  refine a_iconst (v := 4) dX8_init_113 (by decide) ?_
  refine b_newi (s := 2) (t := 31) (c := 0) dX8_init_114 (by first | rfl | decide) (by decide) rfl (obr_31) (hM 31 (by decide) (by decide)) (⟨Nat.le_of_ble_eq_true rfl, Nat.le_of_ble_eq_true rfl⟩) ?_
  refine b_put1 (t := 7) (k := 25) dX8_init_116 kw_103 rfl rfl (by decide) (by decide) rfl rfl rfl rfl rfl ob_7 (by omega) ?_
  refine a_aload_n dX8_init_119 rfl ?_
  refine a_iconst (v := 4) dX8_init_120 (by decide) ?_
  refine b_newi (s := 2) (t := 32) (c := 0) dX8_init_121 (by first | rfl | decide) (by decide) rfl (obr_32) (hM 32 (by decide) (by decide)) (⟨Nat.le_of_ble_eq_true rfl, Nat.le_of_ble_eq_true rfl⟩) ?_
  refine b_put1 (t := 7) (k := 26) dX8_init_123 kw_104 rfl rfl (by decide) (by decide) rfl rfl rfl rfl rfl ob_7 (by omega) ?_
  refine a_aload_n dX8_init_126 rfl ?_
  refine a_iconst (v := 4) dX8_init_127 (by decide) ?_
  refine b_newi (s := 2) (t := 33) (c := 0) dX8_init_128 (by first | rfl | decide) (by decide) rfl (obr_33) (hM 33 (by decide) (by decide)) (⟨Nat.le_of_ble_eq_true rfl, Nat.le_of_ble_eq_true rfl⟩) ?_
  refine b_put1 (t := 7) (k := 27) dX8_init_130 kw_105 rfl rfl (by decide) (by decide) rfl rfl rfl rfl rfl ob_7 (by omega) ?_
  refine a_aload_n dX8_init_133 rfl ?_
  refine a_bipush (v := 6) dX8_init_134 (by decide) ?_
  refine b_newi (s := 2) (t := 34) (c := 0) dX8_init_136 (by first | rfl | decide) (by decide) rfl (obr_34) (hM 34 (by decide) (by decide)) (⟨Nat.le_of_ble_eq_true rfl, Nat.le_of_ble_eq_true rfl⟩) ?_
  refine b_put1 (t := 7) (k := 28) dX8_init_138 kw_106 rfl rfl (by decide) (by decide) rfl rfl rfl rfl rfl ob_7 (by omega) ?_
  refine a_aload_n dX8_init_141 rfl ?_
  refine a_bipush (v := 16) dX8_init_142 (by decide) ?_
  refine b_newz (s := 2) (t := 35) (c := 0) dX8_init_144 (by first | rfl | decide) (by decide) rfl (obr_35) (hM 35 (by decide) (by decide)) (⟨Nat.le_of_ble_eq_true rfl, Nat.le_of_ble_eq_true rfl⟩) ?_
  refine b_put1 (t := 7) (k := 29) dX8_init_146 kw_108 rfl rfl (by decide) (by decide) rfl rfl rfl rfl rfl ob_7 (by omega) ?_
  refine a_aload_n dX8_init_149 rfl ?_
  refine a_iload_n dX8_init_150 rfl ?_
  refine a_iconst (v := 0) dX8_init_151 (by decide) ?_
  refine a_iconst (v := 3) dX8_init_152 (by decide) ?_
  refine a_callS (rm' := rmd 1) [.int a, .int 0, .int 3] dX8_init_153 kw_113 ks_X8_within rfl ⟨Nat.le_of_ble_eq_true rfl, Nat.le_of_ble_eq_true rfl⟩ ⟨Nat.le_of_ble_eq_true rfl, Nat.le_of_ble_eq_true rfl⟩ (Nat.le_of_ble_eq_true rfl) s_X8_within (fun v z h => ?_)
  obtain ⟨rfl, rfl⟩ := h
  refine b_putFI (t := 7) (k := 0) dX8_init_156 kw_109 rfl rfl (by decide) (by decide) rfl rfl rfl ob_7 (by omega) ?_
  refine a_aload_n dX8_init_159 rfl ?_
  refine a_iload_n dX8_init_160 rfl ?_
  refine a_iconst (v := 1) dX8_init_161 (by decide) ?_
  refine a_bipush (v := 8) dX8_init_162 (by decide) ?_
  refine a_callS (rm' := rmd 1) [.int b, .int 1, .int 8] dX8_init_164 kw_113 ks_X8_within rfl ⟨Nat.le_of_ble_eq_true rfl, Nat.le_of_ble_eq_true rfl⟩ ⟨Nat.le_of_ble_eq_true rfl, Nat.le_of_ble_eq_true rfl⟩ (Nat.le_of_ble_eq_true rfl) s_X8_within (fun v z h => ?_)
  obtain ⟨rfl, rfl⟩ := h
  refine b_putFI (t := 7) (k := 1) dX8_init_167 kw_110 rfl rfl (by decide) (by decide) rfl rfl rfl ob_7 (by omega) ?_
  refine a_aload_n dX8_init_170 rfl ?_
  refine a_iload_n dX8_init_171 rfl ?_
  refine a_iconst (v := 0) dX8_init_172 (by decide) ?_
  refine a_iconst (v := 2) dX8_init_173 (by decide) ?_
  refine a_callS (rm' := rmd 1) [.int c, .int 0, .int 2] dX8_init_174 kw_113 ks_X8_within rfl ⟨Nat.le_of_ble_eq_true rfl, Nat.le_of_ble_eq_true rfl⟩ ⟨Nat.le_of_ble_eq_true rfl, Nat.le_of_ble_eq_true rfl⟩ (Nat.le_of_ble_eq_true rfl) s_X8_within (fun v z h => ?_)
  obtain ⟨rfl, rfl⟩ := h
  refine b_putFI (t := 7) (k := 2) dX8_init_177 kw_111 rfl rfl (by decide) (by decide) rfl rfl rfl ob_7 (by omega) ?_
  refine a_aload_n dX8_init_180 rfl ?_
  refine a_iload dX8_init_181 rfl ?_
  refine a_iconst (v := 1) dX8_init_183 (by decide) ?_
  refine a_bipush (v := 9) dX8_init_184 (by decide) ?_
  refine a_callS (rm' := rmd 1) [.int d, .int 1, .int 9] dX8_init_186 kw_113 ks_X8_within rfl ⟨Nat.le_of_ble_eq_true rfl, Nat.le_of_ble_eq_true rfl⟩ ⟨Nat.le_of_ble_eq_true rfl, Nat.le_of_ble_eq_true rfl⟩ (Nat.le_of_ble_eq_true rfl) s_X8_within (fun v z h => ?_)
  obtain ⟨rfl, rfl⟩ := h
  refine b_putFI (t := 7) (k := 3) dX8_init_189 kw_112 rfl rfl (by decide) (by decide) rfl rfl rfl ob_7 (by omega) ?_
  refine a_aload_n dX8_init_192 rfl ?_
  refine b_fix (f' := RT w 2 7 0) (by decide) (fun k hk hi => ?_) ?_
  · have hk : k < 30 := hk
    rcases (show k = 0 ∨ k = 1 ∨ k = 2 ∨ k = 3 ∨ k = 4 ∨ k = 5 ∨ k = 6 ∨ k = 7 ∨ k = 8 ∨ k = 9 ∨ k = 10 ∨ k = 11 ∨ k = 12 ∨ k = 13 ∨ k = 14 ∨ k = 15 ∨ k = 16 ∨ k = 17 ∨ k = 18 ∨ k = 19 ∨ k = 20 ∨ k = 21 ∨ k = 22 ∨ k = 23 ∨ k = 24 ∨ k = 25 ∨ k = 26 ∨ k = 27 ∨ k = 28 ∨ k = 29 by omega) with rfl | rfl | rfl | rfl | rfl | rfl | rfl | rfl | rfl | rfl | rfl | rfl | rfl | rfl | rfl | rfl | rfl | rfl | rfl | rfl | rfl | rfl | rfl | rfl | rfl | rfl | rfl | rfl | rfl | rfl <;> first | rfl | exact absurd hi (by decide)
  rw [stR_id rfl]
  refine a_eq (x' := zx w (mR M a b c d) 2 (mR M a b c d 2)) (by unfold zx; rw [up1_eta]; rfl) ?_
  refine a_callV (rm' := rmd 1) [] dX8_init_193 kw_116 kv_X8_begin (x := zx w (mR M a b c d) 2 (mR M a b c d 2)) (s := 2) (t := 7) (c := 0) (ob_Rl (n := 139) ob_7 (by omega)) (by decide) rfl rfl ⟨Nat.le_of_ble_eq_true rfl, Nat.le_of_ble_eq_true rfl⟩ ⟨Nat.le_of_ble_eq_true rfl, Nat.le_of_ble_eq_true rfl⟩ (Nat.le_of_ble_eq_true rfl) (s_X8_begin (M := mR M a b c d) (ρ := mR M a b c d 2)) (fun v z h => ?_)
  obtain ⟨rfl, rfl⟩ := h
  exact a_vret dX8_init_196 rfl rfl (Nat.le_of_ble_eq_true rfl) ⟨rfl, rfl⟩
end AR
