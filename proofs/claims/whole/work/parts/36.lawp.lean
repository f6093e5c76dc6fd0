/-! the law: a new pair, and each of its calls -/
theorem RefI_C4 {z : Nat → Int32} {E : List Ent} {F : Nat} {M N : Mem} (hC : C4 M N) (h : RefI z E F (M 2)) : RefI z E F (N 2) := by
  unfold C4 at hC
  generalize N 2 = ρ' at hC ⊢
  generalize M 2 = ρ at hC h
  obtain ⟨⟨⟨h1, h2, h3, h4, -⟩, h5, h6⟩, hL, hZ⟩ := h
  have e (t : Nat) (a : (Nat.beq t 2 || Nat.beq t 6) = false) : ρ' t = ρ t := hC t (fun q => by subst q; cases a) (fun q => by subst q; cases a)
  have e7 := e 7 rfl
  have e22 := e 22 rfl
  have e23 := e 23 rfl
  have e24 := e 24 rfl
  have e25 := e 25 rfl
  have e26 := e 26 rfl
  have e27 := e 27 rfl
  have e28 := e 28 rfl
  have e29 := e 29 rfl
  have e30 := e 30 rfl
  have e31 := e 31 rfl
  have e32 := e 32 rfl
  have e33 := e 33 rfl
  have e18 := e 18 rfl
  have e19 := e 19 rfl
  have e20 := e 20 rfl
  have e21 := e 21 rfl
  refine ⟨⟨⟨?_, ?_, ?_, ?_, ⟨rfl, rfl, rfl, rfl, rfl, rfl, rfl, rfl, rfl, rfl, rfl, rfl, rfl⟩⟩, ?_, ?_⟩, ?_, ?_⟩
  · unfold S1 at h1 ⊢; rw [e22, e7]; exact h1
  · unfold S2 CS bs ow at h2 ⊢; rw [e23, e24, e25, e26, e27, e7]; exact h2
  · unfold S3 at h3 ⊢; rw [e28, e7]; exact h3
  · unfold S4 at h4 ⊢; rw [e29, e7]; exact h4
  · unfold S5 at h5 ⊢; rw [e30, e31, e7]; exact h5
  · unfold S6 at h6 ⊢; rw [e32, e33]; exact h6
  · unfold LG at hL ⊢; rw [e18, e19, e20, e21, e7]; exact hL
  · unfold Zr at hZ ⊢; rw [e7]; exact hZ
theorem ClsI_C3 {z : Nat → Int32} {E : List Ent} {F : Nat} {N : Mem} {ρ : Sg} (h : ClsI z E F N) (hC : C3 (N 2) ρ) : ClsI z E F (up1 N 2 ρ) := by
  obtain ⟨c2, c4, c6⟩ := hC
  obtain ⟨h0, h1, h2, h3, h4, h5, h6⟩ := h
  refine ⟨h0, h1, h2, h3, ?_, fun i e he => ?_, ?_⟩
  · rw [up1_same, c6]; exact h4
  · rw [up1_same]
    have := h5 i e he
    unfold Evt at this ⊢
    rw [c2]
    exact this
  · rw [up1_same, c4]; exact h6
/-- what the law keeps -/
def LI (z : Nat → Int32) (q : Nat) (N : Mem) : Prop := ∃ E F, ClsI z E F N ∧ RefI z E F (N 2) ∧ okE z E ∧ E.length ≤ q
theorem LI_of {z : Nat → Int32} {q F : Nat} {E : List Ent} {N : Mem} {ρ : Sg} (h7 : ClsI z E F N) (h8 : RefI z E F ρ ∧ C3 (N 2) ρ) (hE : okE z E) (hl : E.length ≤ q) : LI z q (up1 N 2 ρ) :=
  ⟨E, F, ClsI_C3 h7 h8.2, by rw [up1_same]; exact h8.1, hE, hl⟩
theorem LI_E {z : Nat → Int32} {q F kd : Nat} {a b c : Int32} {E : List Ent} {M N : Mem} {ρ : Sg} (hk : kd ≤ 10) (h7 : ClsE z E F kd a b c M N) (h8 : RefE z E F kd a b c (N 2) ρ) (hE : okE z E) (hl : E.length ≤ q) : LI z (q + 1) (up1 N 2 ρ) := by
  unfold ClsE at h7
  unfold RefE at h8
  by_cases hA : Acc z kd a b (runE z E) = true
  · rw [if_pos hA] at h7 h8
    exact LI_of h7.1 h8 (okE_snoc hE hk hA) (by rw [List.length_append]; exact Nat.add_le_add_right hl 1)
  · rw [if_neg hA] at h7 h8
    exact LI_of h7.1 h8 hE (by omega)
theorem LI_Q {z : Nat → Int32} {q F : Nat} {E : List Ent} {M N : Mem} {ρ : Sg} (h7 : ClsI z E F N ∧ C4 M N) (h8 : RefI z E F ρ ∧ C3 (N 2) ρ) (hE : okE z E) (hl : E.length ≤ q) : LI z (q + 1) (up1 N 2 ρ) := LI_of h7.1 h8 hE (by omega)
theorem LI_crash {z : Nat → Int32} {q F k : Nat} {E : List Ent} {M N : Mem} {ρ : Sg} (h7 : ClsI z (E.take (F + k) ++ [(10, 0, 0, 0)]) (F + k + 1) N ∧ C4 M N) (h8 : RefI z (E.take (F + k) ++ [(10, 0, 0, 0)]) (F + k + 1) ρ ∧ C3 (N 2) ρ) (hE : okE z E) (hl : E.length ≤ q) : LI z (q + 1) (up1 N 2 ρ) :=
  LI_of h7.1 h8 (okE_snoc (okE_take hE _) (by decide) rfl) (by rw [List.length_append, List.length_take]; show min (F + k) E.length + 1 ≤ q + 1; omega)
theorem wth_clp {v lo hi : Int32} (h : lo ≤ hi) : clp v lo hi = wth v lo hi := by
  unfold clp wth
  by_cases h1 : v < hi
  · rw [if_pos h1]
    by_cases h2 : lo < v
    · rw [if_pos h2, if_neg (fun q => Int32.lt_irrefl (Int32.lt_trans q h2)), if_neg (fun q => Int32.lt_irrefl (Int32.lt_trans q h1))]
    · rw [if_neg h2]
      by_cases h3 : v < lo
      · rw [if_pos h3]
      · rw [if_neg h3, if_neg (fun q => Int32.lt_irrefl (Int32.lt_trans q h1))]
        exact Int32.le_antisymm (Int32.not_lt.mp h3) (Int32.not_lt.mp h2)
  · rw [if_neg h1]
    have h1' : hi ≤ v := Int32.not_lt.mp h1
    rw [if_neg (fun q => h1 (Int32.lt_of_lt_of_le q h))]
    by_cases h2 : lo < hi
    · rw [if_pos h2]
      by_cases h3 : hi < v
      · rw [if_pos h3]
      · rw [if_neg h3]
        exact Int32.le_antisymm h1' (Int32.not_lt.mp h3)
    · rw [if_neg h2]
      have e : lo = hi := Int32.le_antisymm h (Int32.not_lt.mp h2)
      by_cases h3 : hi < v
      · rw [if_pos h3]; exact e
      · rw [if_neg h3, e]
        exact Int32.le_antisymm h1' (Int32.not_lt.mp h3)
theorem wth_nI {v : Int32} {lo hi : Nat} (h : lo ≤ hi) (hh : hi < 100) : ∃ n, lo ≤ n ∧ n ≤ hi ∧ wth v (nI lo) (nI hi) = nI n := by
  unfold wth
  by_cases h1 : v < nI lo
  · exact ⟨lo, Nat.le_refl _, h, by rw [if_pos h1]⟩
  · rw [if_neg h1]
    by_cases h2 : nI hi < v
    · exact ⟨hi, h, Nat.le_refl _, by rw [if_pos h2]⟩
    · rw [if_neg h2]
      have h0 : ¬ v < 0 := fun q => h1 (Int32.lt_of_lt_of_le q (nI_pos' (by omega)))
      have e := tn_nn h0
      rw [e] at h1 h2
      have ht : tn v < 2 ^ 31 := by
        unfold tn Int32.toNatClampNeg
        have := Int32.toInt_lt v
        omega
      refine ⟨tn v, ?_, ?_, e⟩
      · exact Nat.not_lt.mp fun q => h1 (nI_lt q (by omega))
      · exact Nat.not_lt.mp fun q => h2 (nI_lt q ht)
def Mz : Mem := fun s t c k => if s < 2 ∧ t = 8 ∧ c ≠ 0 ∧ k = 0 then 17 else 0
theorem Mz_0 {s t c : Nat} (h : t ≠ 8 ∨ c = 0) : Mz s t c = zr := by
  funext k
  unfold Mz zr
  rw [if_neg (by omega)]
def mN (a b c d : Int32) : Mem := up1 (mR (mI Mz a b c d) a b c d) 2 (beginR (mR (mI Mz a b c d) a b c d 2))
theorem up_at (M : Mem) (s t c k : Nat) (v : Int32) : up M s t c k v s t c k = v := by rw [up_eq, up1_same]
theorem rlz {s t c : Nat} (h : rl s t c = true) : t ≠ 8 ∨ c = 0 := by
  by_cases ht : t = 8
  · subst ht
    refine Or.inr ?_
    have h : (decide (s < 2) && decide (c < 1)) = true := h
    simp at h
    omega
  · exact Or.inl ht
theorem C3_begin (ρ : Sg) : C3 ρ (beginR ρ) := ⟨rfl, rfl, rfl⟩
theorem new_R {z : Nat → Int32} {ρ : Sg} (h8 : ρ 7 0 8 = 0) (h9 : ρ 7 0 9 = 0) (hz : Zr z ρ) : RefI z [] 0 (beginR ρ) := by
  have h : Sm (beginR ρ) sI (beginR ρ) := Sm_self (Sm_begin (ρ0 := ρ) ⟨rfl, rfl, rfl, rfl, rfl, rfl, rfl, rfl, rfl, rfl, rfl, rfl, rfl⟩)
  exact ⟨h, ⟨h8, h9, Nat.le_refl 0, fun i e he => (by simp at he)⟩, hz⟩
theorem new_C {z : Nat → Int32} {K : Mem} (h0 : K 0 = sI) (h1 : K 1 = sI) (h2 : K 2 6 0 3 = 0) (h3 : K 2 4 0 = z) : ClsI z [] 0 K :=
  ⟨h0, h1, Nat.le_refl 0, Nat.zero_le _, h2, fun i e he => (by simp at he), h3⟩
theorem mK_s (a b c d : Int32) (s : Nat) (h : s < 2) : mR (mI Mz a b c d) a b c d s = sg (Mz s) 8 0 0 17 := by
  rcases (show s = 0 ∨ s = 1 by omega) with rfl | rfl <;> rfl
theorem sI_eq (s : Nat) (h : s < 2) : sg (Mz s) 8 0 0 17 = sI := by
  funext t c' k
  unfold sg up1 sI Mz
  by_cases h8 : t = 8 <;> by_cases h0 : c' = 0 <;> by_cases hk : k = 0 <;> simp [h8, h0, hk, h]
section MK
variable (a b c d : Int32)
theorem mK_4 : mR (mI Mz a b c d) a b c d 2 4 0 = up1 (up1 (up1 (up1 (fun _ => 0) 0 (clp a 0 3)) 1 (clp b 1 8)) 2 (clp c 0 2)) 3 (clp d 1 9) := rfl
theorem mK_7 : mR (mI Mz a b c d) a b c d 2 7 0 = up1 (up1 (up1 (up1 (fun _ => 0) 0 (wth a 0 3)) 1 (wth b 1 8)) 2 (wth c 0 2)) 3 (wth d 1 9) := rfl
theorem mK_6 : mR (mI Mz a b c d) a b c d 2 6 0 3 = 0 := rfl
end MK
theorem new_I (a b c d : Int32) : ∃ z, Zv z ∧ LI z 0 (mN a b c d) := by
  have e0 : clp a 0 3 = wth a 0 3 := wth_clp (by decide)
  have e1 : clp b 1 8 = wth b 1 8 := wth_clp (by decide)
  have e2 : clp c 0 2 = wth c 0 2 := wth_clp (by decide)
  have e3 : clp d 1 9 = wth d 1 9 := wth_clp (by decide)
  have h4 := mK_4 a b c d
  have h7 := mK_7 a b c d
  have h6 := mK_6 a b c d
  have g0 := (mK_s a b c d 0 (by decide)).trans (sI_eq 0 (by decide))
  have g1 := (mK_s a b c d 1 (by decide)).trans (sI_eq 1 (by decide))
  rw [e0, e1, e2, e3, ← h7] at h4
  unfold mN
  generalize mR (mI Mz a b c d) a b c d = K at *
  refine ⟨K 2 4 0, ?_, LI_of (new_C g0 g1 h6 rfl) ⟨new_R ?_ ?_ ?_, C3_begin _⟩ (fun i e he => by simp at he) (Nat.le_refl 0)⟩
  · obtain ⟨n0, -, b0, f0⟩ := wth_nI (v := a) (lo := 0) (hi := 3) (by decide) (by decide)
    obtain ⟨n1, a1, b1, f1⟩ := wth_nI (v := b) (lo := 1) (hi := 8) (by decide) (by decide)
    obtain ⟨n2, -, b2, f2⟩ := wth_nI (v := c) (lo := 0) (hi := 2) (by decide) (by decide)
    obtain ⟨n3, a3, b3, f3⟩ := wth_nI (v := d) (lo := 1) (hi := 9) (by decide) (by decide)
    rw [h4, h7]
    exact ⟨n0, n1, n2, n3, f0, f1, f2, f3, b0, a1, b1, b2, a3, b3⟩
  · rw [h7]; rfl
  · rw [h7]; rfl
  · rw [h4]; exact ⟨rfl, rfl, rfl, rfl⟩
theorem nI_p (i k : Nat) : nI i + nI k = nI (i + k) := by
  show Int32.ofNat i + Int32.ofNat k = Int32.ofNat (i + k)
  exact (Int32.ofNat_add i k).symm
theorem and31 (x : Int32) : ∃ m, m < 32 ∧ x &&& 31 = nI m := by
  refine ⟨(x &&& 31).toBitVec.toNat, ?_, ?_⟩
  · rw [Int32.toBitVec_and, BitVec.toNat_and]
    exact Nat.lt_of_le_of_lt Nat.and_le_right (by decide)
  · exact Int32.toBitVec_inj.mp (by show _ = BitVec.ofNat 32 _; rw [BitVec.ofNat_toNat]; simp)
theorem lawgt {L i : Nat} (hL : L ≤ 260) (h4 : 4 ≤ i) (hi : i ≤ 264) (h : ¬ nI L - 4 < nI i) : i + 4 ≤ L := by
  by_cases hl : 4 ≤ L
  · have e : nI L - 4 = nI (L - 4) := by
      have : nI L = nI (L - 4) + nI 4 := by rw [nI_p]; congr 1; omega
      rw [this]
      show nI (L - 4) + 4 - 4 = _
      exact Int32.add_sub_cancel _ _
    rw [e] at h
    have := Nat.not_lt.mp fun q => h (nI_lt q (by omega))
    omega
  · exfalso
    apply h
    have h3 : ∀ L, L < 4 → nI L - 4 < 0 := by decide
    exact Int32.lt_of_lt_of_le (h3 L (by omega)) (nI_pos' (by omega))
