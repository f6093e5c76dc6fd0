/-! how the class's live state σ and the reference's memory ρ belong together -/
def rv (F A : Int32) (r : Nat) : Int32 := if bt F r = true then 1 else if bt A r = true then 2 else 0
def CS (σ ρ : Sg) (c : Nat) : Prop := (∀ p, p < 6 → bs ρ c p = σ 14 c p) ∧ (∀ p, p < 6 → ow ρ c p = σ 15 c p) ∧ ρ 25 0 c = σ 1 c 2 ∧ ρ 26 0 c = σ 1 c 3 ∧ ∀ r, r < 8 → ρ 27 0 (8 * c + r) = rv (σ 1 c 4) (σ 1 c 5) r
def LJ (js : Nat → Int32) (v : Nat) (x : Int32) : Prop := (x = -1 ∧ ∀ i, i < 4 → js i ≠ 10 + nI v) ∨ ∃ i, i < 4 ∧ x = nI i ∧ js i = 10 + nI v
def S1 (σ ρ : Sg) : Prop := (∀ p, p < 6 → ρ 22 0 p = σ 8 0 p) ∧ ρ 7 0 11 = σ 5 0 2 ∧ ρ 7 0 12 = σ 5 0 8
def S2 (σ ρ : Sg) : Prop := ρ 7 0 13 = σ 5 0 4 ∧ ∀ c, c < cn σ → CS σ ρ c
def S3 (σ ρ : Sg) : Prop := ρ 7 0 20 = σ 3 0 1 ∧ ∀ i, i < qn σ → ρ 28 0 i = σ 13 0 i
def S4 (σ ρ : Sg) : Prop := ρ 7 0 22 = σ 3 1 1 ∧ ∀ i, i < pn σ → ρ 29 0 i = σ 13 1 i
def S5 (σ ρ : Sg) : Prop := ρ 7 0 23 = σ 0 0 1 ∧ (mb σ ≠ 0 → ∀ j, j < 4 → ρ 30 0 j = σ 10 0 j ∧ ρ 31 0 j = σ 11 0 j)
def S6 (σ ρ : Sg) : Prop := ∀ v, v < 4 → LJ (σ 10 0) v (ρ 32 0 v) ∧ (ρ 32 0 v ≠ -1 → ρ 33 0 v = σ 12 0 v)
def Kp (ρ0 ρ : Sg) : Prop := ρ 18 = ρ0 18 ∧ ρ 19 = ρ0 19 ∧ ρ 20 = ρ0 20 ∧ ρ 21 = ρ0 21 ∧ ρ 7 0 0 = ρ0 7 0 0 ∧ ρ 7 0 1 = ρ0 7 0 1 ∧ ρ 7 0 2 = ρ0 7 0 2 ∧ ρ 7 0 3 = ρ0 7 0 3 ∧ ρ 7 0 8 = ρ0 7 0 8 ∧ ρ 7 0 9 = ρ0 7 0 9 ∧ ρ 2 = ρ0 2 ∧ ρ 4 = ρ0 4 ∧ ρ 6 = ρ0 6
/-- all but the batch -/
def Sc (ρ0 σ ρ : Sg) : Prop := S1 σ ρ ∧ S2 σ ρ ∧ S3 σ ρ ∧ S4 σ ρ ∧ Kp ρ0 ρ
def Sm (ρ0 σ ρ : Sg) : Prop := Sc ρ0 σ ρ ∧ S5 σ ρ ∧ S6 σ ρ
section OF
variable {ρ0 σ σ' ρ ρ' : Sg}
theorem S1_of (h : S1 σ ρ) (a : σ' 8 0 = σ 8 0 := by first | rfl | assumption) (b : σ' 5 0 2 = σ 5 0 2 := by first | rfl | assumption) (c : σ' 5 0 8 = σ 5 0 8 := by first | rfl | assumption) (d : ρ' 22 0 = ρ 22 0 := by first | rfl | assumption) (e : ρ' 7 0 11 = ρ 7 0 11 := by first | rfl | assumption) (f : ρ' 7 0 12 = ρ 7 0 12 := by first | rfl | assumption) : S1 σ' ρ' := by
  unfold S1 at *
  rw [a, b, c, d, e, f]
  exact h
theorem S2_of (h : S2 σ ρ) (a : σ' 1 = σ 1 := by first | rfl | assumption) (b : σ' 14 = σ 14 := by first | rfl | assumption) (c : σ' 15 = σ 15 := by first | rfl | assumption) (d : σ' 5 0 4 = σ 5 0 4 := by first | rfl | assumption) (e : ρ' 23 = ρ 23 := by first | rfl | assumption) (f : ρ' 24 = ρ 24 := by first | rfl | assumption) (g : ρ' 25 = ρ 25 := by first | rfl | assumption) (i : ρ' 26 = ρ 26 := by first | rfl | assumption) (j : ρ' 27 = ρ 27 := by first | rfl | assumption) (k : ρ' 7 0 13 = ρ 7 0 13 := by first | rfl | assumption) : S2 σ' ρ' := by
  unfold S2 CS bs ow cn at *
  rw [a, b, c, d, e, f, g, i, j, k]
  exact h
theorem S3_of (h : S3 σ ρ) (a : σ' 3 0 1 = σ 3 0 1 := by first | rfl | assumption) (b : σ' 13 0 = σ 13 0 := by first | rfl | assumption) (c : ρ' 28 0 = ρ 28 0 := by first | rfl | assumption) (d : ρ' 7 0 20 = ρ 7 0 20 := by first | rfl | assumption) : S3 σ' ρ' := by
  unfold S3 qn at *
  rw [a, b, c, d]
  exact h
theorem S4_of (h : S4 σ ρ) (a : σ' 3 1 1 = σ 3 1 1 := by first | rfl | assumption) (b : σ' 13 1 = σ 13 1 := by first | rfl | assumption) (c : ρ' 29 0 = ρ 29 0 := by first | rfl | assumption) (d : ρ' 7 0 22 = ρ 7 0 22 := by first | rfl | assumption) : S4 σ' ρ' := by
  unfold S4 pn at *
  rw [a, b, c, d]
  exact h
theorem S5_of (h : S5 σ ρ) (a : σ' 0 0 1 = σ 0 0 1 := by first | rfl | assumption) (b : σ' 10 0 = σ 10 0 := by first | rfl | assumption) (c : σ' 11 0 = σ 11 0 := by first | rfl | assumption) (d : ρ' 7 0 23 = ρ 7 0 23 := by first | rfl | assumption) (e : ρ' 30 0 = ρ 30 0 := by first | rfl | assumption) (f : ρ' 31 0 = ρ 31 0 := by first | rfl | assumption) : S5 σ' ρ' := by
  unfold S5 mb at *
  rw [a, b, c, d, e, f]
  exact h
theorem S6_of (h : S6 σ ρ) (a : σ' 10 0 = σ 10 0 := by first | rfl | assumption) (b : σ' 12 0 = σ 12 0 := by first | rfl | assumption) (c : ρ' 32 0 = ρ 32 0 := by first | rfl | assumption) (d : ρ' 33 0 = ρ 33 0 := by first | rfl | assumption) : S6 σ' ρ' := by
  unfold S6 at *
  rw [a, b, c, d]
  exact h
theorem Kp_of (h : Kp ρ0 ρ) (a : ρ' 18 = ρ 18 := by first | rfl | assumption) (b : ρ' 19 = ρ 19 := by first | rfl | assumption) (c : ρ' 20 = ρ 20 := by first | rfl | assumption) (d : ρ' 21 = ρ 21 := by first | rfl | assumption) (e : ρ' 7 0 0 = ρ 7 0 0 := by first | rfl | assumption) (f : ρ' 7 0 1 = ρ 7 0 1 := by first | rfl | assumption) (g : ρ' 7 0 2 = ρ 7 0 2 := by first | rfl | assumption) (i : ρ' 7 0 3 = ρ 7 0 3 := by first | rfl | assumption) (j : ρ' 7 0 8 = ρ 7 0 8 := by first | rfl | assumption) (k : ρ' 7 0 9 = ρ 7 0 9 := by first | rfl | assumption) (l : ρ' 2 = ρ 2 := by first | rfl | assumption) (m : ρ' 4 = ρ 4 := by first | rfl | assumption) (n : ρ' 6 = ρ 6 := by first | rfl | assumption) : Kp ρ0 ρ' := by
  unfold Kp at *
  rw [a, b, c, d, e, f, g, i, j, k, l, m, n]
  exact h
theorem Sc_tree (h : Sc ρ0 σ ρ) (t : Nat → Int32) : Sc ρ0 σ (sga ρ 34 0 t) := ⟨S1_of h.1, S2_of h.2.1, S3_of h.2.2.1, S4_of h.2.2.2.1, Kp_of h.2.2.2.2⟩
theorem Sc_lead (h : Sc ρ0 σ ρ) (t : Nat → Int32) : Sc ρ0 σ (sga ρ 35 0 t) := ⟨S1_of h.1, S2_of h.2.1, S3_of h.2.2.1, S4_of h.2.2.2.1, Kp_of h.2.2.2.2⟩
theorem Sm_tree (h : Sm ρ0 σ ρ) (t : Nat → Int32) : Sm ρ0 σ (sga ρ 34 0 t) := ⟨Sc_tree h.1 t, S5_of h.2.1, S6_of h.2.2⟩
theorem Sm_lead (h : Sm ρ0 σ ρ) (t : Nat → Int32) : Sm ρ0 σ (sga ρ 35 0 t) := ⟨Sc_lead h.1 t, S5_of h.2.1, S6_of h.2.2⟩
theorem S2_become (h : S2 σ ρ) (c : Nat) (a b : Int32) : S2 (become σ c a b) (sg (sg ρ 25 0 c a) 26 0 c b) := by
  refine ⟨h.1, fun d hd => ?_⟩
  obtain ⟨x1, x2, x3, x4, x5⟩ := h.2 d hd
  refine ⟨x1, x2, ?_, ?_, ?_⟩
  · by_cases e : d = c
    · subst e; simp [become, sg, up1]
    · simp [become, sg, up1, e]; exact x3
  · by_cases e : d = c
    · subst e; simp [become, sg, up1]
    · simp [become, sg, up1, e]; exact x4
  · intro r hr
    have e : (become σ c a b) 1 d 4 = σ 1 d 4 ∧ (become σ c a b) 1 d 5 = σ 1 d 5 := by
      by_cases e : d = c
      · subst e; simp [become, sg, up1]
      · simp [become, sg, up1, e]
    rw [e.1, e.2]
    exact x5 r hr
theorem S2_st (h : S2 σ ρ) {c : Nat} (hc : c < cn σ) (a : Int32) (h0 : σ 1 c 3 = 0) : S2 (become σ c a 0) (sg ρ 25 0 c a) := by
  have := S2_become h c a 0
  have e : sg (sg ρ 25 0 c a) 26 0 c 0 = sg ρ 25 0 c a := by
    have h4 := (h.2 c hc).2.2.2.1
    rw [h0] at h4
    rw [sg_is _ 26, show (sg ρ 25 0 c a) 26 0 = ρ 26 0 from rfl, ← h4, up1_eta]
    exact sga_eta _ 26 0
  rwa [e] at this
theorem S3_rmv (h : S3 σ ρ) (hq : Qn σ) {j : Nat} (hj : j < qn σ) : S3 (rowRmv σ 0 j (qn σ)) (lvQ ρ j (qn σ)) := by
  refine ⟨rfl, fun i hi => ?_⟩
  have e : qn (rowRmv σ 0 j (qn σ)) = qn σ - 1 := nI_clamp (by have := hq.2; omega)
  rw [e] at hi
  show rmv (ρ 28 0) j (qn σ) i = rmv (σ 13 0) j (qn σ) i
  rw [rmv_at hi, rmv_at hi]
  exact h.2 _ (by split <;> omega)
theorem S4_rmv (h : S4 σ ρ) (hp : Pn σ) (h0 : 0 < pn σ) : S4 (rowRmv σ 1 0 (pn σ)) (drP ρ (pn σ)) := by
  refine ⟨rfl, fun i hi => ?_⟩
  have e : pn (rowRmv σ 1 0 (pn σ)) = pn σ - 1 := nI_clamp (by have := hp.2; omega)
  rw [e] at hi
  show rmv (ρ 29 0) 0 (pn σ) i = rmv (σ 13 1) 0 (pn σ) i
  rw [rmv_at hi, rmv_at hi]
  exact h.2 _ (by split <;> omega)
theorem Sc_tfq (h : Sc ρ0 σ ρ) (hq : Qn σ) {j : Nat} (hj : j < qn σ) (b : Int32) : Sc ρ0 (tfq σ j 3 b) (lvQ (rejR ρ (tn (σ 13 0 j)) b) j (qn σ)) := by
  have h2 := S2_become h.2.1 (tn (σ 13 0 j)) 3 b
  have h3 : S3 (become σ (tn (σ 13 0 j)) 3 b) (rejR ρ (tn (σ 13 0 j)) b) := S3_of h.2.2.1
  exact ⟨S1_of h.1, S2_of h2, S3_rmv h3 hq hj, S4_of h.2.2.2.1, Kp_of h.2.2.2.2⟩
theorem Sc_tfp (h : Sc ρ0 σ ρ) (hq : Qn σ) (hj : 0 < qn σ) (hc : tn (σ 13 0 0) < cn σ) (h0 : σ 1 (tn (σ 13 0 0)) 3 = 0) : Sc ρ0 (tfq σ 0 2 0) (lvQ (sg ρ 25 0 (tn (σ 13 0 0)) 2) 0 (qn σ)) := by
  have h2 := S2_st h.2.1 hc 2 h0
  have h3 : S3 (become σ (tn (σ 13 0 0)) 2 0) (sg ρ 25 0 (tn (σ 13 0 0)) 2) := S3_of h.2.2.1
  exact ⟨S1_of h.1, S2_of h2, S3_rmv h3 hq hj, S4_of h.2.2.2.1, Kp_of h.2.2.2.2⟩
theorem Sc_rmp (h : Sc ρ0 σ ρ) (hp : Pn σ) (h0 : 0 < pn σ) : Sc ρ0 (rowRmv σ 1 0 (pn σ)) (drP ρ (pn σ)) := ⟨S1_of h.1, S2_of h.2.1, S3_of h.2.2.1, S4_rmv h.2.2.2.1 hp h0, Kp_of h.2.2.2.2⟩
theorem zero_no {v : Nat} (hv : v < 4) : (0 : Int32) ≠ 10 + nI v := (by decide : ∀ v, v < 4 → (0 : Int32) ≠ 10 + nI v) v hv
theorem S6_0 (hj : σ 10 0 = fun _ => 0) (hr : ρ 32 0 = m1) : S6 σ ρ := by
  intro v hv
  refine ⟨Or.inl ⟨by rw [hr]; rfl, fun i _ => ?_⟩, fun h => absurd (by rw [hr]; rfl) h⟩
  rw [hj]
  exact zero_no hv
theorem S5_0 (h1 : σ 0 0 1 = 0) (h2 : ρ 7 0 23 = 0) : S5 σ ρ := ⟨by rw [h1, h2], fun h => absurd (mb_z h1) h⟩
def bf1 (ρ : Sg) : Sg := sga (sg ρ 7 0 23 0) 32 0 m1
def bf2 (ρ : Sg) (k n : Nat) : Sg := sg (sg (sg (sga (bf1 ρ) 29 0 (shup (ρ 29 0) 1 n)) 29 0 0 (nI ((k + 1) / 2))) 29 0 1 (nI (k / 2))) 7 0 22 (nI (n + 1))
/-- a batch that fails -/
theorem Sm_fail1 (h : Sc ρ0 σ ρ) (hq : Qn σ) (hq0 : 0 < qn σ) (hp : Pn σ) (hp0 : 0 < pn σ) (b : Int32) : Sm ρ0 (failS σ 1 b) (drP (lvQ (rejR (bf1 ρ) (tn (σ 13 0 0)) b) 0 (qn σ)) (pn σ)) := by
  have e : failS σ 1 b = rowRmv (tfq (endB σ) 0 3 b) 1 0 (pn σ) := if_pos rfl
  have h1 : Sc ρ0 (endB σ) (bf1 ρ) := ⟨S1_of h.1, S2_of h.2.1, S3_of h.2.2.1, S4_of h.2.2.2.1, Kp_of h.2.2.2.2⟩
  have h2 := Sc_tfq (j := 0) h1 hq hq0 b
  have e1 : pn (tfq (endB σ) 0 3 b) = pn σ := by unfold pn; rw [(tfq_p _ _ _ _).2, endB_t (by decide) (by decide)]
  have h3 := Sc_rmp h2 (by unfold Pn; rw [e1, (tfq_p _ _ _ _).2, endB_t (by decide) (by decide)]; exact hp) (by rw [e1]; exact hp0)
  rw [e1] at h3
  refine ⟨by rw [e]; exact h3, S5_0 (failS_0 ..) rfl, S6_0 (failS_10 ..) rfl⟩
theorem Sm_fail2 (h : Sc ρ0 σ ρ) (hp : Pn σ) (hp0 : 0 < pn σ) (hp8 : pn σ < 8) {k : Nat} (hk : k ≠ 1) (b : Int32) : Sm ρ0 (failS σ k b) (bf2 ρ k (pn σ)) := by
  have e : failS σ k b = rowIns (sg (endB σ) 13 1 0 (nI (k / 2))) 1 0 (pn σ) (nI ((k + 1) / 2)) := if_neg hk
  rw [e]
  refine ⟨⟨S1_of h.1, S2_of h.2.1, S3_of h.2.2.1, ⟨rfl, fun i hi => ?_⟩, Kp_of h.2.2.2.2⟩, S5_0 rfl rfl, S6_0 (endB_10 σ) rfl⟩
  have en : pn (rowIns (sg (endB σ) 13 1 0 (nI (k / 2))) 1 0 (pn σ) (nI ((k + 1) / 2))) = pn σ + 1 := nI_clamp (by omega)
  rw [en] at hi
  show up1 (up1 (shup (ρ 29 0) 1 (pn σ)) 0 (nI ((k + 1) / 2))) 1 (nI (k / 2)) i = ins (up1 (σ 13 1) 0 (nI (k / 2))) 0 (pn σ) (nI ((k + 1) / 2)) i
  unfold ins
  by_cases e0 : i = 0
  · subst e0
    rw [if_pos rfl, up1_ne (by decide), up1_same]
  · by_cases e1 : i = 1
    · subst e1
      rw [if_neg (by decide), if_pos (by omega), up1_same]
      rfl
    · rw [if_neg e0, if_pos (by omega), up1_ne e1, up1_ne e0, up1_ne (by omega)]
      unfold shup
      rw [if_pos (by omega)]
      exact h.2.2.2.1.2 _ (by omega)
end OF
/-! the leases -/
def UQ (js : Nat → Int32) : Prop := ∀ v i j, v < 4 → i < 4 → j < 4 → js i = 10 + nI v → js j = 10 + nI v → i = j
theorem inr4 {v : Nat} (hv : v < 4) : inr (nI v) 4 = true := inr_of (n := 4) hv (by decide)
theorem LJ_leased {σ : Sg} {v : Nat} (hv : v < 4) : LJ (σ 10 0) v (leasedJ σ (nI v)) := by
  rcases @fhit_in (ljC (σ 10 0) (nI v)) 4 0 with h | ⟨i, -, h2, h3, h4⟩
  · refine Or.inl ⟨h, fun i hi hj => ?_⟩
    have : ∀ n j, j ≤ i → i < j + n → fhit (ljC (σ 10 0) (nI v)) n j ≠ -1 := by
      intro n
      induction n with
      | zero => intro j h1 h2; omega
      | succ n ih =>
        intro j h1 h2
        unfold fhit
        split
        · intro q
          have hb : j < 4 := by omega
          exact absurd q ((by decide : ∀ j, j < 4 → nI j ≠ -1) j hb)
        · rename_i hn
          by_cases e : i = j
          · subst e
            exact absurd (by unfold ljC; rw [inr4 hv, decide_eq_true hj]; rfl) hn
          · exact ih (j + 1) (by omega) (by omega)
    exact this 4 0 (Nat.zero_le _) (by omega) h
  · refine Or.inr ⟨i, by omega, h3, ?_⟩
    unfold ljC at h4
    rw [Bool.and_eq_true, decide_eq_true_eq] at h4
    exact h4.2
theorem LJ_uq {js : Nat → Int32} {v : Nat} {x y : Int32} (hu : UQ js) (hv : v < 4) (a : LJ js v x) (b : LJ js v y) : x = y := by
  rcases a with ⟨rfl, a⟩ | ⟨i, hi, rfl, a⟩
  · rcases b with ⟨rfl, b⟩ | ⟨j, hj, rfl, b⟩
    · rfl
    · exact absurd b (a j hj)
  · rcases b with ⟨rfl, b⟩ | ⟨j, hj, rfl, b⟩
    · exact absurd a (b i hi)
    · rw [hu v i j hv hi hj a b]
theorem held_is {σ ρ : Sg} (h : S6 σ ρ) (hu : UQ (σ 10 0)) {v : Nat} (hv : v < 4) : ρ 32 0 v = leasedJ σ (nI v) := LJ_uq hu hv (h v hv).1 (LJ_leased hv)
theorem nI_m1 {j : Nat} (hj : j < 4) : nI j ≠ -1 := (by decide : ∀ j, j < 4 → nI j ≠ -1) j hj
/-! merging -/
theorem any_congr {f g : Nat → Bool} : ∀ (n j : Nat), (∀ i, j ≤ i → i < j + n → f i = g i) → anyU f n j = anyU g n j
  | 0, _, _ => rfl
  | n + 1, j, h => by
    rw [anyU, anyU, h j (Nat.le_refl j) (by omega), any_congr n (j + 1) (fun i h1 h2 => h i (by omega) (by omega))]
theorem cfl_congr {b o t b' o' t' : Nat → Int32} (hb : ∀ p, p < 6 → b p = b' p) (ho : ∀ p, p < 6 → o p = o' p) (ht : ∀ p, p < 6 → t p = t' p) : anyU (cfl b o t) 6 0 = anyU (cfl b' o' t') 6 0 := by
  refine any_congr 6 0 (fun i _ h => ?_)
  unfold cfl
  rw [hb i (by omega), ho i (by omega), ht i (by omega)]
theorem mrg_congr {b o t b' o' t' : Nat → Int32} (hb : ∀ p, p < 6 → b p = b' p) (ho : ∀ p, p < 6 → o p = o' p) (ht : ∀ p, p < 6 → t p = t' p) {p : Nat} (hp : p < 6) : mrg b o t p = mrg b' o' t' p := by
  unfold mrg
  rw [hb p hp, ho p hp, ht p hp]
/-- the first changes of the queue, from a tree on, merge without a conflict to a tree -/
def Mg (σ : Sg) : Nat → Nat → (Nat → Int32) → (Nat → Int32) → Prop
  | 0, _, t, t' => ∀ p, p < 6 → t p = t' p
  | n + 1, k, t, t' => anyU (cfl (σ 14 (tn (σ 13 0 k))) (σ 15 (tn (σ 13 0 k))) t) 6 0 = false ∧ Mg σ n (k + 1) (mrg (σ 14 (tn (σ 13 0 k))) (σ 15 (tn (σ 13 0 k))) t) t'
theorem Mg_congr {σ τ : Sg} {t' : Nat → Int32} : ∀ (n k : Nat) (t u : Nat → Int32), (∀ p, p < 6 → t p = u p) → (∀ i, k ≤ i → i < k + n → τ 13 0 i = σ 13 0 i ∧ ∀ p, p < 6 → τ 14 (tn (σ 13 0 i)) p = σ 14 (tn (σ 13 0 i)) p ∧ τ 15 (tn (σ 13 0 i)) p = σ 15 (tn (σ 13 0 i)) p) → Mg σ n k t t' → Mg τ n k u t'
  | 0, k, t, u, h, _, hm => fun p hp => (h p hp).symm.trans (hm p hp)
  | n + 1, k, t, u, h, hq, hm => by
    obtain ⟨q1, q2⟩ := hq k (Nat.le_refl k) (by omega)
    obtain ⟨m1, m2⟩ := hm
    unfold Mg
    rw [q1]
    refine ⟨?_, Mg_congr n (k + 1) _ _ (fun p hp => ?_) (fun i h1 h2 => hq i (by omega) (by omega)) m2⟩
    · rw [← m1]
      exact cfl_congr (fun p hp => (q2 p hp).1) (fun p hp => (q2 p hp).2) (fun p hp => (h p hp).symm)
    · exact mrg_congr (fun p hp => ((q2 p hp).1).symm) (fun p hp => ((q2 p hp).2).symm) h hp
theorem Mg_app {σ : Sg} : ∀ (n k : Nat) (t u : Nat → Int32), Mg σ n k t u → anyU (cfl (σ 14 (tn (σ 13 0 (k + n)))) (σ 15 (tn (σ 13 0 (k + n)))) u) 6 0 = false → Mg σ (n + 1) k t (mrg (σ 14 (tn (σ 13 0 (k + n)))) (σ 15 (tn (σ 13 0 (k + n)))) u)
  | 0, k, t, u, h, hc => ⟨by rw [← hc]; exact cfl_congr (fun _ _ => rfl) (fun _ _ => rfl) h, fun p hp => mrg_congr (fun _ _ => rfl) (fun _ _ => rfl) h hp⟩
  | n + 1, k, t, u, h, hc => by
    obtain ⟨h1, h2⟩ := h
    refine ⟨h1, ?_⟩
    have e : k + (n + 1) = k + 1 + n := by omega
    rw [e] at hc ⊢
    exact Mg_app n (k + 1) _ u h2 hc
/-- what the tree of the batch under test is -/
def TR (σ : Sg) : Prop := Mg σ (mb σ) 0 (σ 8 0) (σ 9 0)
def JT (σ : Sg) : Prop := ∀ j, j < 4 → tb (σ 9 0 0) (nI j) = false → σ 10 0 j = 0
def JD (σ : Sg) : Prop := firstF σ = -1 ∧ passedR σ = false
/-- a change's reviews and cause -/
def CI (σ : Sg) (c : Nat) : Prop := (∀ r, bt (σ 1 c 4) r = true → bt (σ 1 c 5) r = true → False) ∧ (∀ r, 8 ≤ r → bt (σ 1 c 4) r = false ∧ bt (σ 1 c 5) r = false) ∧ (σ 1 c 2 ≠ 3 → σ 1 c 3 = 0)
def CA (σ : Sg) : Prop := ∀ c, c < cn σ → CI σ c
/-- the time, and until when the leases last: those of the workers below k longer than now -/
def Tm (B k : Nat) (σ : Sg) : Prop := ∃ t : Nat, σ 5 0 8 = nI t ∧ t ≤ B ∧ ∀ v j, v < 4 → j < 4 → σ 10 0 j = 10 + nI v → ∃ u : Nat, σ 12 0 v = nI u ∧ t ≤ u ∧ u ≤ B + 9 ∧ (v < k → t < u)
def Bd (σ : Sg) : Prop := mb σ ≠ 0 → TR σ ∧ JT σ
/-- what else holds of a state: while a job's end is judged; between the events -/
def Hx (B k : Nat) (σ : Sg) : Prop := CA σ ∧ Tm B k σ ∧ UQ (σ 10 0) ∧ Bd σ
def Gd (B : Nat) (σ : Sg) : Prop := (∃ qs ps, Wk σ qs ps) ∧ Hx B 4 σ ∧ (mb σ ≠ 0 → JD σ)
