theorem Can.go {l : Launch} {w : WW} {y : MethodName} {cc : ByteArray} {nL : Nat} {ret : Option FieldType} {rm : Room} {vs : List Value} {x : XX} {Φ : Option Value → XX → Prop} {ls : List (Option Value)} (body : A l w y cc nL ret rm Φ 0 ls [] x 0 0) (hls : loc0 vs nL = ls := by rfl) (hy : plainName y.cls = true := by decide +kernel) (hc : vs.all (fun v => v.category == 1) = true := by rfl) (hn : vs.length ≤ nL := by exact Nat.le_of_ble_eq_true rfl) : Can l w y cc nL ret rm vs x Φ :=
  Can.of hy (fun v hv => by simpa using List.all_eq_true.mp hc v hv) hn (by rw [hls]; exact body)
def bi (b : Bool) : Int32 := if b = true then 1 else 0
theorem bi_t : bi true = 1 := rfl
theorem bi_f : bi false = 0 := rfl
theorem bi_0 {b : Bool} : bi b = 0 ↔ b = false := by cases b <;> decide
theorem bi_n0 {b : Bool} : ¬ bi b = 0 ↔ b = true := by cases b <;> decide
theorem bi_nar (b : Bool) : narrow .boolean (.int (bi b)) = .int (bi b) := by cases b <;> rfl
theorem inc_nI (n : Nat) : nI n + Int32.ofInt 1 = nI (n + 1) := (nI_succ n).symm
theorem dec_nI (n : Nat) : nI (n + 1) + Int32.ofInt (-1) = nI n := by
  rw [← nI_pred n, Int32.sub_eq_add_neg]
  rfl
theorem nI_inj {a b : Nat} (h : nI a = nI b) (ha : a < 2 ^ 31) (hb : b < 2 ^ 31) : a = b := by
  have := congrArg Int32.toNatClampNeg h
  rwa [nI_clamp ha, nI_clamp hb] at this
/-- a number from 0 to below another -/
def inr (p k : Int32) : Bool := !decide (p < 0) && !decide (k ≤ p)
theorem inr_nI {p k : Int32} {n : Nat} (h : inr p k = true) (hk : k = nI n) (hn : n ≤ 600) : p = nI p.toNatClampNeg ∧ p.toNatClampNeg < n := by
  subst hk
  simp only [inr, Bool.and_eq_true, Bool.not_eq_true', decide_eq_false_iff_not] at h
  obtain ⟨h1, h2⟩ := h
  have h3 : 0 ≤ p.toInt := by
    rw [Int32.lt_iff_toInt_lt, Int32.toInt_zero] at h1; omega
  have h4 : p.toInt < n := by
    rw [Int32.le_iff_toInt_le, nI_toInt (by omega)] at h2; omega
  have h5 : (p.toNatClampNeg : Int) = p.toInt := by
    show ((p.toInt.toNat : Nat) : Int) = _
    omega
  refine ⟨?_, by omega⟩
  apply Int32.toInt_inj.mp
  rw [nI_toInt (by omega), h5]
theorem inr_of {j n : Nat} (h : j < n) (hn : n ≤ 600) : inr (nI j) (nI n) = true := by
  simp only [inr, Bool.and_eq_true, Bool.not_eq_true', decide_eq_false_iff_not]
  exact ⟨nI_pos (by omega), nI_ge h (by omega)⟩
theorem inr_no {j n : Nat} (h : n ≤ j) (hn : j ≤ 600) : inr (nI j) (nI n) = false := by
  simp only [inr, Bool.and_eq_false_iff, Bool.not_eq_false', decide_eq_true_eq]
  exact Or.inr (nI_le h (by omega))
theorem rl_ch {c : Nat} (h : c < 16) : rl 0 1 c = true ∧ rl 0 14 c = true ∧ rl 0 15 c = true := by simp [rl, h]
/-- reads behind writes -/
theorem sg_same (σ : Sg) (t c k : Nat) (v : Int32) : sg σ t c k v t c k = v := by simp [sg, up1]
theorem sga_same (σ : Sg) (t c : Nat) (f : Nat → Int32) : sga σ t c f t c = f := by simp [sga, up1]
theorem sg_t {σ : Sg} {t c k : Nat} {v : Int32} {t' : Nat} (h : t' ≠ t) : sg σ t c k v t' = σ t' := by unfold sg; rw [up1_ne h]
theorem sga_t {σ : Sg} {t c : Nat} {f : Nat → Int32} {t' : Nat} (h : t' ≠ t) : sga σ t c f t' = σ t' := by unfold sga; rw [up1_ne h]
theorem sg_sga (σ : Sg) (t c k : Nat) (f : Nat → Int32) (v : Int32) : sg (sga σ t c f) t c k v = sga σ t c (up1 f k v) := by
  unfold sg sga
  rw [up1_same, up1_same, up1_up1, up1_up1]
theorem sg_is (σ : Sg) (t c k : Nat) (v : Int32) : sg σ t c k v = sga σ t c (up1 (σ t c) k v) := rfl
theorem sga_sga (σ : Sg) (t c : Nat) (f g : Nat → Int32) : sga (sga σ t c f) t c g = sga σ t c g := by
  unfold sga
  rw [up1_same, up1_up1, up1_up1]
theorem sga_eta (σ : Sg) (t c : Nat) : sga σ t c (σ t c) = σ := by
  unfold sga
  rw [up1_eta, up1_eta]
theorem sga_comm {σ : Sg} {t c t' c' : Nat} {f g : Nat → Int32} (h : t ≠ t') : sga (sga σ t c f) t' c' g = sga (sga σ t' c' g) t c f := by
  unfold sga
  rw [up1_ne (Ne.symm h), up1_ne h, up1_comm h]
theorem sg_k {σ : Sg} {t c k j : Nat} {v : Int32} (h : j ≠ k) : sg σ t c k v t c j = σ t c j := by simp [sg, up1, h]
def mixN (n : Nat) (g f : Nat → Int32) : Nat → Int32 := fun j => if j < n then g j else f j
theorem mixN_0 (g f : Nat → Int32) : mixN 0 g f = f := by funext j; simp [mixN]
theorem mixN_up (n : Nat) (g f : Nat → Int32) : up1 (mixN n g f) n (g n) = mixN (n + 1) g f := by
  funext j
  unfold mixN up1
  by_cases h : j = n
  · subst h; simp
  · by_cases h2 : j < n
    · simp [h, h2, Nat.lt_succ_of_lt h2]
    · simp [h, h2, show ¬ j < n + 1 by omega]
theorem mixN_at {n j : Nat} {g f : Nat → Int32} (h : n ≤ j) : mixN n g f j = f j := by simp [mixN, show ¬ j < n by omega]
theorem mixN_skip {n : Nat} {g f : Nat → Int32} (h : g n = f n) : mixN (n + 1) g f = mixN n g f := by
  rw [← mixN_up, h]
  funext j
  unfold up1 mixN
  by_cases hj : j = n
  · subst hj; simp
  · simp [hj]
theorem junkA {M : Mem} {s : Nat} {σ : Sg} {t c : Nat} {g f : Nat → Int32} (ht : ¬ t < 8) (h : ∀ k, k < aL t c → g k = f k) : ∀ u t' c' k, rl u t' c' = true → k < (if t' < 8 then nF t' else aL t' c') → ik t' k = true → up1 M s (sga σ t c g) u t' c' k = up1 M s (sga σ t c f) u t' c' k := by
  intro u t' c' k _ hk _
  by_cases hu : u = s
  · subst hu
    rw [up1_same, up1_same]
    by_cases h1 : t' = t
    · subst h1
      by_cases h2 : c' = c
      · subst h2
        rw [sga_same, sga_same]
        rw [if_neg ht] at hk
        exact h k hk
      · unfold sga
        rw [up1_same, up1_same, up1_ne h2, up1_ne h2]
    · rw [sga_t h1, sga_t h1]
  · rw [up1_ne hu, up1_ne hu]
/-- the first j from a start on, within a count, of a kind; -1 if there is none -/
def fhit (c : Nat → Bool) : Nat → Nat → Int32
  | 0, _ => -1
  | n + 1, j => if c j = true then nI j else fhit c n (j + 1)
def anyU (c : Nat → Bool) : Nat → Nat → Bool
  | 0, _ => false
  | n + 1, j => c j || anyU c n (j + 1)
/-! the pipeline -/
def tb (p j : Int32) : Bool := !decide ((p >>> (j &&& 31)) &&& 1 = 0)
def rq (p j : Int32) : Bool := tb p j && tb p (4 + j)
def nd (p j : Int32) : Int32 := (p >>> ((8 + 4 * j) &&& 31)) &&& 15
def sh1 (j : Int32) : Int32 := 1 <<< (j &&& 31)
def atnI (p k : Int32) : Nat → Nat → Int32 → Int32
  | 0, _, f => f
  | n + 1, j, f => atnI p k n (j + 1) (if tb p (nI j) = true ∧ ¬ nd p (nI j) &&& (f ||| sh1 k) = 0 then f ||| sh1 (nI j) else f)
def atnO (p k : Int32) : Nat → Int32 → Int32
  | 0, f => f
  | n + 1, f => atnO p k n (atnI p k 4 0 f)
def atn (p k : Int32) : Int32 := atnO p k 4 0
def vld (p : Int32) : Nat → Nat → Bool → Bool
  | 0, _, s => s
  | n + 1, j, s => if (tb p (nI j) && (!decide (nd p (nI j) &&& ((p &&& 15) ^^^ (-1)) = 0) || tb (atn p (nI j)) (nI j))) = true then false else vld p n (j + 1) (s || rq p (nI j))
/-! a row of numbers -/
def rowAt (f : Nat → Int32) (n : Nat) (k : Int32) : Int32 := if inr k (nI n) = true then f k.toNatClampNeg else -1
def shup (f : Nat → Int32) (j i : Nat) : Nat → Int32 := fun q => if j < q ∧ q ≤ i then f (q - 1) else f q
def ins (f : Nat → Int32) (j n : Nat) (v : Int32) : Nat → Int32 := fun q => if q = j then v else if j < q ∧ q ≤ n then f (q - 1) else f q
def rmv (f : Nat → Int32) (j n : Nat) : Nat → Int32 := fun q => if j ≤ q ∧ q < n - 1 then f (q + 1) else f q
def rowIns (σ : Sg) (c j n : Nat) (v : Int32) : Sg := sg (sga σ 13 c (ins (σ 13 c) j n v)) 3 c 1 (nI (n + 1))
def rowRmv (σ : Sg) (c j n : Nat) : Sg := sg (sga σ 13 c (rmv (σ 13 c) j n)) 3 c 1 (nI (n - 1))
/-! a change -/
def cfl (b o t : Nat → Int32) (p : Nat) : Bool := !decide (o p = b p) && (!decide (t p = b p) && !decide (t p = o p))
def mrg (b o t : Nat → Int32) : Nat → Int32 := fun p => if o p = b p then t p else o p
def reb (b o t : Nat → Int32) : Nat → Int32 := fun p => if o p = b p then t p else o p
def become (σ : Sg) (c : Nat) (a b : Int32) : Sg := sg (sg σ 1 c 2 a) 1 c 3 b
theorem rl_chs {s c : Nat} (hs : s < 2) (h : c < 16) : rl s 1 c = true ∧ rl s 14 c = true ∧ rl s 15 c = true := by simp [rl, h, hs]
def addF (σ : Sg) (c : Nat) (r : Int32) : Sg := sg (sg σ 1 c 4 (σ 1 c 4 ||| sh1 r)) 1 c 5 (σ 1 c 5 &&& (sh1 r ^^^ (-1)))
def addA (σ : Sg) (c : Nat) (r : Int32) : Sg := sg (sg σ 1 c 5 (σ 1 c 5 ||| sh1 r)) 1 c 4 (σ 1 c 4 &&& (sh1 r ^^^ (-1)))
def dropR (σ : Sg) (c : Nat) : Sg := sg (sg σ 1 c 4 0) 1 c 5 0
def stF (σ : Sg) (c : Nat) : Sg := dropR (become (sga (sga σ 14 c (σ 8 0)) 15 c (σ 8 0)) c 0 0) c
def moveO (σ : Sg) (c : Nat) : Sg := dropR (become (sga (sga σ 15 c (reb (σ 14 c) (σ 15 c) (σ 8 0))) 14 c (σ 8 0)) c 0 0) c
def cpR (σ τ : Sg) (c : Nat) : Sg := sg (sga σ 13 c (τ 13 c)) 3 c 1 (τ 3 c 1)
def cpC (σ τ : Sg) (c : Nat) : Sg := sg (sg (sg (sg (sga (sga σ 14 c (τ 14 c)) 15 c (τ 15 c)) 1 c 2 (τ 1 c 2)) 1 c 3 (τ 1 c 3)) 1 c 4 (τ 1 c 4)) 1 c 5 (τ 1 c 5)
def cpB (σ τ : Sg) : Sg := sga (sga (sga (sg (sga σ 9 0 (τ 9 0)) 0 0 1 (τ 0 0 1)) 10 0 (τ 10 0)) 11 0 (τ 11 0)) 12 0 (τ 12 0)
