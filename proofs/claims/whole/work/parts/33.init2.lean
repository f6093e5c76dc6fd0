/-! the constructors of a state, of the class, of the reference -/
theorem up_os {M : Mem} {u s t c k : Nat} {v : Int32} (h : s ≠ u) : up M u t c k v s = M s := up1_ne h
theorem stR_os {R : RMem} {u s t c : Nat} {f : Nat → Option Nat} (h : s ≠ u) : stR R u t c f s = R s := up1_ne h
def gC (w : WW) (s i : Nat) : Nat → Option Nat := fun k => if k < i then some (ad w s 1 k) else none
def gE (w : WW) (i : Nat) : Nat → Option Nat := fun k => if k < i then some (ad w 2 2 k) else none
theorem gC_up (w : WW) (s i : Nat) : up1 (gC w s i) i (some (ad w s 1 i)) = gC w s (i + 1) := by
  funext k
  unfold up1 gC
  by_cases h : k = i
  · subst h; rw [if_pos rfl, if_pos (by omega)]
  · rw [if_neg h]
    by_cases h1 : k < i
    · rw [if_pos h1, if_pos (by omega)]
    · rw [if_neg h1, if_neg (by omega)]
theorem gE_up (w : WW) (i : Nat) : up1 (gE w i) i (some (ad w 2 2 i)) = gE w (i + 1) := by
  funext k
  unfold up1 gE
  by_cases h : k = i
  · subst h; rw [if_pos rfl, if_pos (by omega)]
  · rw [if_neg h]
    by_cases h1 : k < i
    · rw [if_pos h1, if_pos (by omega)]
    · rw [if_neg h1, if_neg (by omega)]
theorem gC_0 (w : WW) (s : Nat) : nn = gC w s 0 := by
  funext k
  unfold gC nn
  rw [if_neg (by omega)]
theorem gE_0 (w : WW) : nn = gE w 0 := by
  funext k
  unfold gE nn
  rw [if_neg (by omega)]
section AR
variable {l : Launch} {w : WW} {M : Mem} {R : RMem} {s c : Nat}
theorem s_X6_lp {f : Nat → Option Nat} (hs : s < 2) (hf : f 3 = some (ad w s 16 0)) (hF : ∀ k, k < nF 5 → isR 5 k = true → f k = RT w s 5 0 k) (hR : R s = RT w s) (hM : ∀ i, i < 16 → M s 1 i = zr ∧ M s 14 i = zr ∧ M s 15 i = zr) : ∀ m i, i + m = 16 → A l w yX6_init cX6_init 3 none (rmc 2 59 361) (RV (M, R, 60 * s + 62)) 73 [some (.ref (ad w s 5 0)), some (.ref (ad w 2 4 0)), some (.int (nI i))] [] (M, tR R s 5 f 16 (gC w s i), 60 * s + 14 + 3 * i) (11 + 3 * i) (73 + 18 * i) := by
  intro m
  induction m with
  | zero =>
    intro i him
    obtain rfl : i = 16 := by omega
    refine a_iload_n dX6_init_73 rfl ?_
    refine a_bipush (v := 16) dX6_init_74 (by decide) ?_
    refine a_icmp_ge (tgt := 98) dX6_init_76 (by decide) (fun _ => ?_) (fun h => absurd (by decide) h)
    rw [tR_of (by decide) (by rw [hR]; rfl)]
    refine b_fix (f' := RT w s 5 0) (by decide) hF ?_
    rw [stR_id (by rw [hR])]
    exact a_vret dX6_init_98 rfl rfl (Nat.le_of_ble_eq_true rfl) ⟨rfl, rfl⟩
  | succ m ih =>
    intro i him
    have hi : i < 16 := by omega
    refine a_iload_n dX6_init_73 rfl ?_
    refine a_bipush (v := 16) dX6_init_74 (by decide) ?_
    refine a_icmp_ge (tgt := 98) dX6_init_76 (by decide) (fun h => absurd h (nI_ge (b := 16) (by omega) (by omega))) (fun _ => ?_)
    refine a_aload_n dX6_init_79 rfl ?_
    refine b_get2 (t := 5) (k := 3) dX6_init_80 kw_53 (by decide) (by decide) rfl (ob_5 hs rfl) (by omega) (by decide) hf ?_
    refine a_iload_n dX6_init_83 rfl ?_
    refine b_new (s := s) (t := 1) (c := i) dX6_init_84 kw_52 kw_64 kw_65 (by decide) (ob_1 hs hi rfl) ((hM i hi).1) (⟨show 11 + 3 * i + 1 ≤ 59 by omega, show 73 + 18 * i + 6 ≤ 361 by omega⟩) ?_
    refine a_dup dX6_init_87 rfl ?_
    refine a_callIN (rm' := rmc 1 2 12) [] dX6_init_88 nw_160 ki_X1_init rfl ⟨Nat.le_of_ble_eq_true rfl, Nat.le_of_ble_eq_true rfl⟩ ⟨show 11 + 3 * i + 1 + 2 ≤ 59 by omega, show 73 + 18 * i + 6 + 12 ≤ 361 by omega⟩ (Nat.le_of_ble_eq_true rfl) (s_X1_init (R := tR R s 5 f 16 (gC w s i)) hs hi (hM i hi).2.1 (hM i hi).2.2 (by rw [tR_ne (by simp) (by simp), hR])) (fun v z h => ?_)
    obtain ⟨rfl, rfl⟩ := h
    refine b_aast (t := 16) (i := i) dX6_init_91 rfl hi (Or.inl ⟨rfl, rfl⟩) (by decide) (ob_16 hs rfl) (by omega) (ob_1 hs hi rfl) (by omega) ?_
    refine a_iinc_2 (u := nI (i + 1)) dX6_init_92 (inc_nI i) (by decide) ?_
    refine a_goto (tgt := 73) dX6_init_95 (by decide) ?_
    refine a_eq (x' := (M, tR R s 5 f 16 (gC w s (i + 1)), 60 * s + 14 + 3 * (i + 1))) (by rw [gC_up]; rfl) ?_
    refine a_kk (kc' := 11 + 3 * (i + 1)) (ks' := 73 + 18 * (i + 1)) (by show 11 + 3 * i + 1 + 2 = _; omega) (by show 73 + 18 * i + 6 + 12 = _; omega) ?_
    exact ih (i + 1) (by omega)
theorem s_X6_init (hs : s < 2) (hM : ∀ t c, rl s t c = true → M s t c = zr) (hR : R s = RT w s) : Can l w yX6_init cX6_init 3 none (rmc 2 59 361) [.ref (ad w s 5 0), .ref (ad w 2 4 0)] (M, stR R s 5 0 nn, 60 * s + 3) (RV (up M s 8 0 0 17, R, 60 * s + 62)) := by
  refine Can.go (ls := [some (.ref (ad w s 5 0)), some (.ref (ad w 2 4 0)), none]) ?_
  refine a_aload_n dX6_init_0 rfl ?_
  refine a_objI dX6_init_1 kw_49 kw_14 kw_15 ⟨Nat.le_of_ble_eq_true rfl, Nat.le_of_ble_eq_true rfl⟩ ?_
  refine a_aload_n dX6_init_4 rfl ?_
  refine a_bipush (v := 6) dX6_init_5 (by decide) ?_
  refine b_newi (s := s) (t := 8) (c := 0) dX6_init_7 (by first | rfl | decide) (by decide) rfl (ob_8 hs rfl) (hM 8 0 (ob_rl (ob_8 hs rfl))) (⟨Nat.le_of_ble_eq_true rfl, Nat.le_of_ble_eq_true rfl⟩) ?_
  refine b_put1 (t := 5) (k := 1) dX6_init_9 kw_51 rfl rfl (by decide) (by decide) rfl rfl rfl rfl rfl (ob_5 hs rfl) (by omega) ?_
  refine a_aload_n dX6_init_12 rfl ?_
  refine a_bipush (v := 16) dX6_init_13 (by decide) ?_
  refine b_newq (s := s) (t := 16) (c := 0) dX6_init_15 kw_52 (by first | exact Or.inl ⟨rfl, rfl⟩ | exact Or.inr ⟨rfl, rfl⟩) (by first | rfl | decide) (by decide) (ob_16 hs rfl) (⟨Nat.le_of_ble_eq_true rfl, Nat.le_of_ble_eq_true rfl⟩) ?_
  refine a_eq (x' := (_, tR _ s 5 _ 16 nn, _)) rfl ?_
  refine b_put2 (t := 5) (k := 3) dX6_init_18 kw_53 rfl rfl (by decide) (by decide) rfl rfl rfl rfl rfl (ob_5 hs rfl) (by omega) (by decide) ?_
  refine a_aload_n dX6_init_21 rfl ?_
  refine b_new (s := s) (t := 3) (c := 0) dX6_init_22 kw_54 kw_55 kw_56 (by decide) (ob_30 hs rfl) (hM 3 0 (ob_rl (ob_30 hs rfl))) (⟨Nat.le_of_ble_eq_true rfl, Nat.le_of_ble_eq_true rfl⟩) ?_
  refine a_dup dX6_init_25 rfl ?_
  refine a_bipush (v := 16) dX6_init_26 (by decide) ?_
  refine a_callI (rm' := rmc 1 1 16) [.int 16] dX6_init_28 kw_66 ki_X4_init rfl ⟨Nat.le_of_ble_eq_true rfl, Nat.le_of_ble_eq_true rfl⟩ ⟨Nat.le_of_ble_eq_true rfl, Nat.le_of_ble_eq_true rfl⟩ (Nat.le_of_ble_eq_true rfl) (s_X4_init0 (R := tR _ s 5 _ 16 nn) hs (hM 13 0 (ob_rl (ob_130 hs rfl))) (by rw [tR_ne (by simp) (by simp), hR])) (fun v z h => ?_)
  obtain ⟨rfl, rfl⟩ := h
  refine b_put2 (t := 5) (k := 5) dX6_init_31 kw_57 rfl rfl (by decide) (by decide) rfl rfl rfl rfl rfl (ob_5 hs rfl) (by omega) (by decide) ?_
  refine a_aload_n dX6_init_34 rfl ?_
  refine b_new (s := s) (t := 3) (c := 1) dX6_init_35 kw_54 kw_55 kw_56 (by decide) (ob_31 hs rfl) (hM 3 1 (ob_rl (ob_31 hs rfl))) (⟨Nat.le_of_ble_eq_true rfl, Nat.le_of_ble_eq_true rfl⟩) ?_
  refine a_dup dX6_init_38 rfl ?_
  refine a_bipush (v := 8) dX6_init_39 (by decide) ?_
  refine a_callI (rm' := rmc 1 1 8) [.int 8] dX6_init_41 kw_66 ki_X4_init rfl ⟨Nat.le_of_ble_eq_true rfl, Nat.le_of_ble_eq_true rfl⟩ ⟨Nat.le_of_ble_eq_true rfl, Nat.le_of_ble_eq_true rfl⟩ (Nat.le_of_ble_eq_true rfl) (s_X4_init1 (R := tR _ s 5 _ 16 nn) hs (hM 13 1 (ob_rl (ob_131 hs rfl))) (by rw [tR_ne (by simp) (by simp), hR])) (fun v z h => ?_)
  obtain ⟨rfl, rfl⟩ := h
  refine b_put2 (t := 5) (k := 6) dX6_init_44 kw_58 rfl rfl (by decide) (by decide) rfl rfl rfl rfl rfl (ob_5 hs rfl) (by omega) (by decide) ?_
  refine a_aload_n dX6_init_47 rfl ?_
  refine b_new (s := s) (t := 0) (c := 0) dX6_init_48 kw_59 kw_60 kw_61 (by decide) (ob_0 hs rfl) (hM 0 0 (ob_rl (ob_0 hs rfl))) (⟨Nat.le_of_ble_eq_true rfl, Nat.le_of_ble_eq_true rfl⟩) ?_
  refine a_dup dX6_init_51 rfl ?_
  refine a_callIN (rm' := rmc 1 4 18) [] dX6_init_52 nw_132 ki_X0_init rfl ⟨Nat.le_of_ble_eq_true rfl, Nat.le_of_ble_eq_true rfl⟩ ⟨Nat.le_of_ble_eq_true rfl, Nat.le_of_ble_eq_true rfl⟩ (Nat.le_of_ble_eq_true rfl) (s_X0_init (R := tR _ s 5 _ 16 nn) hs (hM 9 0 (ob_rl (ob_9 hs rfl))) (hM 10 0 (ob_rl (ob_10 hs rfl))) (hM 11 0 (ob_rl (ob_11 hs rfl))) (hM 12 0 (ob_rl (ob_12 hs rfl))) (by rw [tR_ne (by simp) (by simp), hR])) (fun v z h => ?_)
  obtain ⟨rfl, rfl⟩ := h
  refine b_put2 (t := 5) (k := 7) dX6_init_55 kw_62 rfl rfl (by decide) (by decide) rfl rfl rfl rfl rfl (ob_5 hs rfl) (by omega) (by decide) ?_
  refine a_aload_n dX6_init_58 rfl ?_
  refine a_aload_n dX6_init_59 rfl ?_
  refine b_put2 (t := 5) (k := 0) dX6_init_60 kw_63 rfl rfl (by decide) (by decide) rfl rfl rfl rfl rfl (ob_5 hs rfl) (by omega) (by decide) ?_
  refine a_aload_n dX6_init_63 rfl ?_
  refine b_get2 (t := 5) (k := 1) dX6_init_64 kw_51 (by decide) (by decide) rfl (ob_5 hs rfl) (by omega) (by decide) rfl ?_
  refine a_iconst (v := 0) dX6_init_67 (by decide) ?_
  refine a_bipush (v := 17) dX6_init_68 (by decide) ?_
  refine b_iast (t := 8) (c := 0) (i := 0) dX6_init_70 rfl (by decide) (by decide) rfl (ob_8 hs rfl) (by omega) ?_
  refine a_iconst (v := 0) dX6_init_71 (by decide) ?_
  refine a_istore_2 dX6_init_72 (by decide) ?_
  refine a_eq (x' := (up M s 8 0 0 17, tR R s 5 _ 16 (gC w s 0), 60 * s + 14 + 3 * 0)) (by rw [gC_0 w s]) ?_
  refine s_X6_lp hs rfl (fun k hk hi => ?_) hR (fun i hi => ⟨?_, ?_, ?_⟩) 16 0 rfl
  · have hk : k < 9 := hk
    rcases (show k = 0 ∨ k = 1 ∨ k = 2 ∨ k = 3 ∨ k = 4 ∨ k = 5 ∨ k = 6 ∨ k = 7 ∨ k = 8 by omega) with rfl | rfl | rfl | rfl | rfl | rfl | rfl | rfl | rfl <;> first | rfl | exact absurd hi (by decide)
  · rw [up_ne (by simp)]; exact hM 1 i (ob_rl (ob_1 hs hi rfl))
  · rw [up_ne (by simp)]; exact hM 14 i (ob_rl (ob_14 hs hi rfl))
  · rw [up_ne (by simp)]; exact hM 15 i (ob_rl (ob_15 hs hi rfl))
end AR
