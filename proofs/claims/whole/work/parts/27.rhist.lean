/-! runs of events -/
abbrev Ent : Type := Nat × Int32 × Int32 × Int32
def Zv (z : Nat → Int32) : Prop := ∃ ap b r ls : Nat, z 0 = nI ap ∧ z 1 = nI b ∧ z 2 = nI r ∧ z 3 = nI ls ∧ ap ≤ 3 ∧ 1 ≤ b ∧ b ≤ 8 ∧ r ≤ 2 ∧ 1 ≤ ls ∧ ls ≤ 9
def Zr (z : Nat → Int32) (ρ0 : Sg) : Prop := ρ0 7 0 0 = z 0 ∧ ρ0 7 0 1 = z 1 ∧ ρ0 7 0 2 = z 2 ∧ ρ0 7 0 3 = z 3
/-- what a report's outcome is in the class's log -/
def cbk (kd : Nat) (b : Int32) : Int32 := if kd = 8 then (if b = 1 then 2 else 3) else b
/-- an event's own work, ahead of the building; 10 is a crash -/
def stE (z : Nat → Int32) (kd : Nat) (a b c : Int32) (σ : Sg) : Sg := if kd = 10 then (expI 1 (z 2) 4 0 σ 0).1 else (stepK z kd a (cbk kd b) c σ).1
/-- whether an event isn't refused -/
def Acc (z : Nat → Int32) (kd : Nat) (a b : Int32) (σ : Sg) : Bool := match kd with
  | 0 => decide (cn σ < 16)
  | 1 => opB σ a && inr b 6
  | 2 => opB σ a && inr b 8
  | 3 => opB σ a && inr b 8
  | 4 => orB σ a
  | 5 => mqB (z 0) σ a
  | 6 => mrB σ a
  | 7 => !decide (jtl σ a = -1)
  | 8 => !decide (leasedJ σ a = -1)
  | 9 => tkB a
  | _ => true
def ansR (z : Nat → Int32) (kd : Nat) (a : Int32) (σ : Sg) : Int32 := match kd with
  | 0 => σ 5 0 4
  | 7 => nextJ σ
  | 9 => (tickN z (tn a) σ 0).2
  | 10 => 0
  | _ => 1
def stL (z : Nat → Int32) (e : Ent) (σ : Sg) : Sg := bld (z 1) 40 (stE z e.1 e.2.1 e.2.2.1 e.2.2.2 σ)
/-- a new object's state -/
def sI : Sg := fun t _ k => if t = 8 then (if k = 0 then 17 else 0) else 0
def runE (z : Nat → Int32) (E : List Ent) : Sg := E.foldl (fun σ e => stL z e σ) sI
def okE (z : Nat → Int32) (E : List Ent) : Prop := ∀ i e, E[i]? = some e → e.1 ≤ 10 ∧ Acc z e.1 e.2.1 e.2.2.1 (runE z (E.take i)) = true
theorem runE_snoc (z : Nat → Int32) (E : List Ent) (e : Ent) : runE z (E ++ [e]) = stL z e (runE z E) := by
  unfold runE
  rw [List.foldl_append]
  rfl
theorem run_take {z : Nat → Int32} {E : List Ent} {k : Nat} {e : Ent} (h : E[k]? = some e) : runE z (E.take (k + 1)) = stL z e (runE z (E.take k)) := by
  have : E.take (k + 1) = E.take k ++ [e] := by
    rw [List.take_add_one, h]
    rfl
  rw [this, runE_snoc]
theorem okE_take {z : Nat → Int32} {E : List Ent} (h : okE z E) (n : Nat) : okE z (E.take n) := by
  intro i e hi
  rw [List.getElem?_take] at hi
  split at hi
  · rename_i hl
    have := h i e hi
    rw [List.take_take, Nat.min_eq_left (by omega)]
    exact this
  · cases hi
theorem okE_snoc {z : Nat → Int32} {E : List Ent} {e : Ent} (h : okE z E) (h1 : e.1 ≤ 10) (h2 : Acc z e.1 e.2.1 e.2.2.1 (runE z E) = true) : okE z (E ++ [e]) := by
  intro i f hi
  rw [List.getElem?_append] at hi
  split at hi
  · rename_i hl
    have := h i f hi
    rw [List.take_append_of_le_length (by omega)]
    exact this
  · rename_i hl
    have h0 : i - E.length = 0 := by
      rcases Nat.eq_zero_or_pos (i - E.length) with q | q
      · exact q
      · rw [List.getElem?_eq_none (by simp; omega)] at hi; cases hi
    rw [h0] at hi
    have : e = f := by simpa using hi
    subst this
    have e1 : i = E.length := by omega
    rw [e1, List.take_append_of_le_length (Nat.le_refl _), List.take_length]
    exact ⟨h1, h2⟩
theorem Gk_stE {z : Nat → Int32} {kd B : Nat} {a b c : Int32} {σ : Sg} (hz : Zv z) (h : Gk B 4 σ) (hB : B + 20 < 2 ^ 20) (hk : kd ≤ 10) (ha : Acc z kd a b σ = true) : Gk (B + 20) 4 (stE z kd a b c σ) := by
  obtain ⟨ap, bb, r, ls, z0, z1, z2, z3, hap, b1, b8, hr, l1, l9⟩ := hz
  have hC : Cn σ := h.1.elim fun qs h => h.elim fun ps hW => hW.1.1
  have up : ∀ {τ}, Gk B 4 τ → Gk (B + 20) 4 τ := fun q => Gk_mono q (by omega)
  rcases (show kd = 0 ∨ kd = 1 ∨ kd = 2 ∨ kd = 3 ∨ kd = 4 ∨ kd = 5 ∨ kd = 6 ∨ kd = 7 ∨ kd = 8 ∨ kd = 9 ∨ kd = 10 by omega) with rfl | rfl | rfl | rfl | rfl | rfl | rfl | rfl | rfl | rfl | rfl
  · exact up (Gk_add h (of_decide_eq_true ha))
  · have ha : (opB σ a && inr b 6) = true := ha
    rw [Bool.and_eq_true] at ha
    exact up (Gk_push h ha.1)
  · have ha : (opB σ a && inr b 8) = true := ha
    rw [Bool.and_eq_true] at ha
    obtain ⟨eb, hb⟩ := tn_i (n := 8) ha.2 (by decide)
    show Gk (B + 20) 4 (addF σ (tn a) b)
    rw [eb]
    exact up (Gk_addF h ha.1 hb)
  · have ha : (opB σ a && inr b 8) = true := ha
    rw [Bool.and_eq_true] at ha
    obtain ⟨eb, hb⟩ := tn_i (n := 8) ha.2 (by decide)
    show Gk (B + 20) 4 (addA σ (tn a) b)
    rw [eb]
    exact up (Gk_addA h ha.1 hb)
  · exact up (Gk_close h ha)
  · have ha : mqB (z 0) σ a = true := ha
    unfold mqB at ha
    rw [Bool.and_eq_true] at ha
    exact up (Gk_enq h ha.1)
  · have ha : mrB σ a = true := ha
    unfold mrB at ha
    rw [Bool.and_eq_true] at ha
    exact up (Gk_move h ha.1)
  · have ha : (!decide (jtl σ a = -1)) = true := ha
    rw [Bool.not_eq_true', decide_eq_false_iff_not] at ha
    have hi : (inr a 4 && decide (leasedJ σ a = -1)) = true := by
      unfold jtl at ha
      by_cases q : (inr a 4 && decide (leasedJ σ a = -1)) = true
      · exact q
      · rw [if_neg q] at ha; exact absurd rfl ha
    rw [Bool.and_eq_true, decide_eq_true_eq] at hi
    obtain ⟨ea, ha4⟩ := tn_i (n := 4) hi.1 (by decide)
    show Gk (B + 20) 4 (leaseN (z 3) σ (tn a))
    rw [z3]
    exact up (Gk_lease h (Nat.le_refl 4) ha4 (by rw [← ea]; exact hi.2) ⟨l1, l9⟩ (by omega))
  · have ha : (!decide (leasedJ σ a = -1)) = true := ha
    rw [Bool.not_eq_true', decide_eq_false_iff_not] at ha
    have hi : inr a 4 = true := by
      unfold leasedJ at ha
      have := (fhit_tn ha).2.2
      unfold ljC at this
      rw [Bool.and_eq_true] at this
      exact this.1
    obtain ⟨ea, ha4⟩ := tn_i (n := 4) hi (by decide)
    have := Gk_endJ (oc := cbk 8 b) h ha4 (by rw [← ea]; exact ha)
    rw [← ea] at this
    exact up this
  · have ha : tkB a = true := ha
    unfold tkB at ha
    rw [Bool.and_eq_true, Bool.not_eq_true', Bool.not_eq_true', decide_eq_false_iff_not, decide_eq_false_iff_not] at ha
    obtain ⟨-, -, h20⟩ := tkB_tn ha.1 (Int32.not_lt.mp ha.2)
    exact Gk_mono (Gk_tick z1 b1 b8 (tn a) B σ 0 (by omega) h) (by omega)
  · exact up (Gk_expA 4 0 σ 0 rfl h)
theorem Gk_stL {z : Nat → Int32} {B : Nat} {e : Ent} {σ : Sg} (hz : Zv z) (h : Gk B 4 σ) (hB : B + 20 < 2 ^ 20) (hk : e.1 ≤ 10) (ha : Acc z e.1 e.2.1 e.2.2.1 σ = true) : Gk (B + 20) 4 (stL z e σ) := by
  have h1 := Gk_stE (c := e.2.2.2) hz h hB hk ha
  obtain ⟨ap, bb, r, ls, z0, z1, z2, z3, hap, b1, b8, hr, l1, l9⟩ := hz
  exact Gk_bld z1 b1 b8 40 _ h1
theorem Gk_I : Gk 0 4 sI := by
  have hc : cn sI = 0 := rfl
  refine ⟨⟨[], [], ⟨⟨rfl, by rw [hc]; omega⟩, ⟨rfl, by decide, fun i c h => by simp at h⟩, ⟨rfl, by decide, fun i c h => by simp at h⟩, fun c h => by simp at h, List.nodup_nil, fun p h => by simp at h, by decide, by decide⟩, ⟨rfl, Or.inl ⟨rfl, fun _ _ => rfl⟩⟩⟩, ⟨fun c h => by rw [hc] at h; omega, ⟨0, rfl, Nat.le_refl 0, fun v j hv _ e => absurd e (zero_no hv)⟩, fun v i j hv _ _ e _ => absurd e (zero_no hv), fun hm => absurd rfl hm⟩, fun hm => absurd rfl hm⟩
theorem Gk_run {z : Nat → Int32} {E : List Ent} (hz : Zv z) (h : okE z E) (hl : E.length ≤ 600) : ∀ k, k ≤ E.length → Gk (20 * k) 4 (runE z (E.take k))
  | 0, _ => by rw [List.take_zero]; exact Gk_I
  | k + 1, hk => by
    have he := List.getElem?_eq_getElem (show k < E.length by omega)
    obtain ⟨h1, h2⟩ := h k _ he
    rw [run_take he, show 20 * (k + 1) = 20 * k + 20 by omega]
    exact Gk_stL hz (Gk_run hz h hl k (by omega)) (by omega) h1 h2
theorem Gk_all {z : Nat → Int32} {E : List Ent} (hz : Zv z) (h : okE z E) (hl : E.length ≤ 600) : Gk (20 * E.length) 4 (runE z E) := by
  have := Gk_run hz h hl E.length (Nat.le_refl _)
  rwa [List.take_length] at this
theorem ans_nn {z : Nat → Int32} {kd : Nat} {a b : Int32} {σ : Sg} (hC : Cn σ) (ha : Acc z kd a b σ = true) : ∃ e : Nat, e ≤ 200 ∧ ansR z kd a σ = nI e := by
  unfold ansR
  split
  · exact ⟨cn σ, by have := hC.2; omega, hC.1⟩
  · have ha : (!decide (jtl σ a = -1)) = true := ha
    rw [Bool.not_eq_true', decide_eq_false_iff_not] at ha
    have hn : ¬ nextJ σ = -1 := by
      unfold jtl at ha
      split at ha
      · exact ha
      · exact absurd rfl ha
    obtain ⟨e1, e2, -⟩ := fhit_tn hn
    exact ⟨_, by have : tn (nextJ σ) < 4 := e2; omega, e1⟩
  · have ha : tkB a = true := ha
    unfold tkB at ha
    rw [Bool.and_eq_true, Bool.not_eq_true', Bool.not_eq_true', decide_eq_false_iff_not, decide_eq_false_iff_not] at ha
    obtain ⟨-, -, h20⟩ := tkB_tn ha.1 (Int32.not_lt.mp ha.2)
    obtain ⟨e, h1, h2⟩ := tick_cnt (z := z) (tn a) σ 0
    exact ⟨0 + e, by omega, h2⟩
  · exact ⟨0, by decide, rfl⟩
  · exact ⟨1, by decide, rfl⟩
theorem Sm_self {ρ0 σ ρ : Sg} (h : Sm ρ0 σ ρ) : Sm ρ σ ρ := ⟨⟨h.1.1, h.1.2.1, h.1.2.2.1, h.1.2.2.2.1, ⟨rfl, rfl, rfl, rfl, rfl, rfl, rfl, rfl, rfl, rfl, rfl, rfl, rfl⟩⟩, h.2⟩
theorem Sm_begin {ρ0 ρ : Sg} (h : Kp ρ0 ρ) : Sm ρ0 sI (beginR ρ) := by
  have hc : cn sI = 0 := rfl
  have hq : qn sI = 0 := rfl
  have hp : pn sI = 0 := rfl
  refine ⟨⟨⟨fun p hp => ?_, rfl, rfl⟩, ⟨rfl, fun c hl => by rw [hc] at hl; omega⟩, ⟨rfl, fun i hl => by rw [hq] at hl; omega⟩, ⟨rfl, fun i hl => by rw [hp] at hl; omega⟩, Kp_of h⟩, S5_0 rfl rfl, fun v hv => ?_⟩
  · show tr0 p = sI 8 0 p
    rfl
  · have e : (beginR ρ) 32 0 = m1 := by unfold beginR; rw [sga_same]
    rw [e]
    exact ⟨Or.inl ⟨rfl, fun i _ => zero_no hv⟩, fun q => absurd rfl q⟩
set_option maxRecDepth 10000 in
theorem s_once_0 {l : Launch} {w : WW} {M : Mem} {ρ0 σ ρ : Sg} {z : Nat → Int32} {B : Nat} (hz : Zv z) (hr : Zr z ρ0) (h : Sm ρ0 σ ρ) (hG : Gk B 4 σ) (hB : B + 20 < 2 ^ 20) {a b c : Int32} : Can l w yX8_once cX8_once 5 (some .int) (rmd 8) [.ref (ad w 2 7 0), .int (nI 0), .int a, .int b, .int c] (zx w M 2 ρ) (RY w M (if Acc z 0 a b σ = true then ansR z 0 a σ else -1) (fun ρ' => Sm ρ0 (if Acc z 0 a b σ = true then stE z 0 a b c σ else σ) ρ')) := by
  refine Can.go (ls := [some (.ref (ad w 2 7 0)), some (.int (nI 0)), some (.int a), some (.int b), some (.int c)]) ?_
  obtain ⟨ap, bb, r, ls, z0, z1, z2, z3, hap, b1, b8, hr2, l1, l9⟩ := id hz
  obtain ⟨hr0, hr1, hrr, hr3⟩ := id hr
  refine a_iload_n dX8_once_0 rfl ?_
  refine a_tabIn (tgt := 56) (d_ := 55) dX8_once_1 (by decide) (by decide) rfl (by decide) ?_
  refine a_aload_n dX8_once_56 rfl ?_
  refine c_V0Y dX8_once_57 kw_385 kv_X8_doOpen (s_X8_doOpen h hG) (fun ρ57 h_57 => ?_)
  exact c_iret dX8_once_60 ⟨rfl, _, rfl, h_57⟩
set_option maxRecDepth 10000 in
theorem s_once_1 {l : Launch} {w : WW} {M : Mem} {ρ0 σ ρ : Sg} {z : Nat → Int32} {B : Nat} (hz : Zv z) (hr : Zr z ρ0) (h : Sm ρ0 σ ρ) (hG : Gk B 4 σ) (hB : B + 20 < 2 ^ 20) {a b c : Int32} : Can l w yX8_once cX8_once 5 (some .int) (rmd 8) [.ref (ad w 2 7 0), .int (nI 1), .int a, .int b, .int c] (zx w M 2 ρ) (RY w M (if Acc z 1 a b σ = true then ansR z 1 a σ else -1) (fun ρ' => Sm ρ0 (if Acc z 1 a b σ = true then stE z 1 a b c σ else σ) ρ')) := by
  refine Can.go (ls := [some (.ref (ad w 2 7 0)), some (.int (nI 1)), some (.int a), some (.int b), some (.int c)]) ?_
  obtain ⟨ap, bb, r, ls, z0, z1, z2, z3, hap, b1, b8, hr2, l1, l9⟩ := id hz
  obtain ⟨hr0, hr1, hrr, hr3⟩ := id hr
  refine a_iload_n dX8_once_0 rfl ?_
  refine a_tabIn (tgt := 61) (d_ := 60) dX8_once_1 (by decide) (by decide) rfl (by decide) ?_
  refine a_aload_n dX8_once_61 rfl ?_
  refine a_iload_n dX8_once_62 rfl ?_
  refine a_iload_n dX8_once_63 rfl ?_
  refine a_iload dX8_once_64 rfl ?_
  refine c_V3Y dX8_once_66 kw_393 kv_X8_doPush (s_X8_doPush h hG) (fun ρ66 h_66 => ?_)
  exact c_iret dX8_once_69 ⟨rfl, _, rfl, h_66⟩
set_option maxRecDepth 10000 in
theorem s_once_2 {l : Launch} {w : WW} {M : Mem} {ρ0 σ ρ : Sg} {z : Nat → Int32} {B : Nat} (hz : Zv z) (hr : Zr z ρ0) (h : Sm ρ0 σ ρ) (hG : Gk B 4 σ) (hB : B + 20 < 2 ^ 20) {a b c : Int32} : Can l w yX8_once cX8_once 5 (some .int) (rmd 8) [.ref (ad w 2 7 0), .int (nI 2), .int a, .int b, .int c] (zx w M 2 ρ) (RY w M (if Acc z 2 a b σ = true then ansR z 2 a σ else -1) (fun ρ' => Sm ρ0 (if Acc z 2 a b σ = true then stE z 2 a b c σ else σ) ρ')) := by
  refine Can.go (ls := [some (.ref (ad w 2 7 0)), some (.int (nI 2)), some (.int a), some (.int b), some (.int c)]) ?_
  obtain ⟨ap, bb, r, ls, z0, z1, z2, z3, hap, b1, b8, hr2, l1, l9⟩ := id hz
  obtain ⟨hr0, hr1, hrr, hr3⟩ := id hr
  refine a_iload_n dX8_once_0 rfl ?_
  refine a_tabIn (tgt := 70) (d_ := 69) dX8_once_1 (by decide) (by decide) rfl (by decide) ?_
  refine a_aload_n dX8_once_70 rfl ?_
  refine a_iload_n dX8_once_71 rfl ?_
  refine a_iload_n dX8_once_72 rfl ?_
  refine a_iconst (v := 1) dX8_once_73 (by decide) ?_
  refine c_V3Y dX8_once_74 kw_405 kv_X8_doReview (s_X8_doReview h hG (fun ho hb => Sm_for h hG ho hb)) (fun ρ74 h_74 => ?_)
  exact c_iret dX8_once_77 ⟨rfl, _, rfl, h_74⟩
set_option maxRecDepth 10000 in
theorem s_once_3 {l : Launch} {w : WW} {M : Mem} {ρ0 σ ρ : Sg} {z : Nat → Int32} {B : Nat} (hz : Zv z) (hr : Zr z ρ0) (h : Sm ρ0 σ ρ) (hG : Gk B 4 σ) (hB : B + 20 < 2 ^ 20) {a b c : Int32} : Can l w yX8_once cX8_once 5 (some .int) (rmd 8) [.ref (ad w 2 7 0), .int (nI 3), .int a, .int b, .int c] (zx w M 2 ρ) (RY w M (if Acc z 3 a b σ = true then ansR z 3 a σ else -1) (fun ρ' => Sm ρ0 (if Acc z 3 a b σ = true then stE z 3 a b c σ else σ) ρ')) := by
  refine Can.go (ls := [some (.ref (ad w 2 7 0)), some (.int (nI 3)), some (.int a), some (.int b), some (.int c)]) ?_
  obtain ⟨ap, bb, r, ls, z0, z1, z2, z3, hap, b1, b8, hr2, l1, l9⟩ := id hz
  obtain ⟨hr0, hr1, hrr, hr3⟩ := id hr
  refine a_iload_n dX8_once_0 rfl ?_
  refine a_tabIn (tgt := 78) (d_ := 77) dX8_once_1 (by decide) (by decide) rfl (by decide) ?_
  refine a_aload_n dX8_once_78 rfl ?_
  refine a_iload_n dX8_once_79 rfl ?_
  refine a_iload_n dX8_once_80 rfl ?_
  refine a_iconst (v := 2) dX8_once_81 (by decide) ?_
  refine c_V3Y dX8_once_82 kw_405 kv_X8_doReview (s_X8_doReview h hG (fun ho hb => Sm_aga h hG ho hb)) (fun ρ82 h_82 => ?_)
  exact c_iret dX8_once_85 ⟨rfl, _, rfl, h_82⟩
set_option maxRecDepth 10000 in
theorem s_once_4 {l : Launch} {w : WW} {M : Mem} {ρ0 σ ρ : Sg} {z : Nat → Int32} {B : Nat} (hz : Zv z) (hr : Zr z ρ0) (h : Sm ρ0 σ ρ) (hG : Gk B 4 σ) (hB : B + 20 < 2 ^ 20) {a b c : Int32} : Can l w yX8_once cX8_once 5 (some .int) (rmd 8) [.ref (ad w 2 7 0), .int (nI 4), .int a, .int b, .int c] (zx w M 2 ρ) (RY w M (if Acc z 4 a b σ = true then ansR z 4 a σ else -1) (fun ρ' => Sm ρ0 (if Acc z 4 a b σ = true then stE z 4 a b c σ else σ) ρ')) := by
  refine Can.go (ls := [some (.ref (ad w 2 7 0)), some (.int (nI 4)), some (.int a), some (.int b), some (.int c)]) ?_
  obtain ⟨ap, bb, r, ls, z0, z1, z2, z3, hap, b1, b8, hr2, l1, l9⟩ := id hz
  obtain ⟨hr0, hr1, hrr, hr3⟩ := id hr
  refine a_iload_n dX8_once_0 rfl ?_
  refine a_tabIn (tgt := 86) (d_ := 85) dX8_once_1 (by decide) (by decide) rfl (by decide) ?_
  refine a_aload_n dX8_once_86 rfl ?_
  refine a_iload_n dX8_once_87 rfl ?_
  refine c_V1Y dX8_once_88 kw_409 kv_X8_doClose (s_X8_doClose h hG) (fun ρ88 h_88 => ?_)
  exact c_iret dX8_once_91 ⟨rfl, _, rfl, h_88⟩
set_option maxRecDepth 10000 in
theorem s_once_5 {l : Launch} {w : WW} {M : Mem} {ρ0 σ ρ : Sg} {z : Nat → Int32} {B : Nat} (hz : Zv z) (hr : Zr z ρ0) (h : Sm ρ0 σ ρ) (hG : Gk B 4 σ) (hB : B + 20 < 2 ^ 20) {a b c : Int32} : Can l w yX8_once cX8_once 5 (some .int) (rmd 8) [.ref (ad w 2 7 0), .int (nI 5), .int a, .int b, .int c] (zx w M 2 ρ) (RY w M (if Acc z 5 a b σ = true then ansR z 5 a σ else -1) (fun ρ' => Sm ρ0 (if Acc z 5 a b σ = true then stE z 5 a b c σ else σ) ρ')) := by
  refine Can.go (ls := [some (.ref (ad w 2 7 0)), some (.int (nI 5)), some (.int a), some (.int b), some (.int c)]) ?_
  obtain ⟨ap, bb, r, ls, z0, z1, z2, z3, hap, b1, b8, hr2, l1, l9⟩ := id hz
  obtain ⟨hr0, hr1, hrr, hr3⟩ := id hr
  refine a_iload_n dX8_once_0 rfl ?_
  refine a_tabIn (tgt := 92) (d_ := 91) dX8_once_1 (by decide) (by decide) rfl (by decide) ?_
  refine a_aload_n dX8_once_92 rfl ?_
  refine a_iload_n dX8_once_93 rfl ?_
  refine c_V1Y dX8_once_94 kw_413 kv_X8_doEnqueue (s_X8_doEnqueue (ap := ap) h hG (hr0.trans z0)) (fun ρ94 h_94 => ?_)
  exact c_iret dX8_once_97 (by
      show RY w M (if mqB (z 0) σ a = true then 1 else -1) (fun ρ' => Sm ρ0 (if mqB (z 0) σ a = true then rowIns (become σ (tn a) 1 0) 0 (qn σ) (qn σ) a else σ) ρ') _ _
      rw [z0]
      exact ⟨rfl, _, rfl, h_94⟩)
set_option maxRecDepth 10000 in
theorem s_once_6 {l : Launch} {w : WW} {M : Mem} {ρ0 σ ρ : Sg} {z : Nat → Int32} {B : Nat} (hz : Zv z) (hr : Zr z ρ0) (h : Sm ρ0 σ ρ) (hG : Gk B 4 σ) (hB : B + 20 < 2 ^ 20) {a b c : Int32} : Can l w yX8_once cX8_once 5 (some .int) (rmd 8) [.ref (ad w 2 7 0), .int (nI 6), .int a, .int b, .int c] (zx w M 2 ρ) (RY w M (if Acc z 6 a b σ = true then ansR z 6 a σ else -1) (fun ρ' => Sm ρ0 (if Acc z 6 a b σ = true then stE z 6 a b c σ else σ) ρ')) := by
  refine Can.go (ls := [some (.ref (ad w 2 7 0)), some (.int (nI 6)), some (.int a), some (.int b), some (.int c)]) ?_
  obtain ⟨ap, bb, r, ls, z0, z1, z2, z3, hap, b1, b8, hr2, l1, l9⟩ := id hz
  obtain ⟨hr0, hr1, hrr, hr3⟩ := id hr
  refine a_iload_n dX8_once_0 rfl ?_
  refine a_tabIn (tgt := 98) (d_ := 97) dX8_once_1 (by decide) (by decide) rfl (by decide) ?_
  refine a_aload_n dX8_once_98 rfl ?_
  refine a_iload_n dX8_once_99 rfl ?_
  refine c_V1Y dX8_once_100 kw_421 kv_X8_doRebase (s_X8_doRebase h hG) (fun ρ100 h_100 => ?_)
  exact c_iret dX8_once_103 ⟨rfl, _, rfl, h_100⟩
set_option maxRecDepth 10000 in
theorem s_once_7 {l : Launch} {w : WW} {M : Mem} {ρ0 σ ρ : Sg} {z : Nat → Int32} {B : Nat} (hz : Zv z) (hr : Zr z ρ0) (h : Sm ρ0 σ ρ) (hG : Gk B 4 σ) (hB : B + 20 < 2 ^ 20) {a b c : Int32} : Can l w yX8_once cX8_once 5 (some .int) (rmd 8) [.ref (ad w 2 7 0), .int (nI 7), .int a, .int b, .int c] (zx w M 2 ρ) (RY w M (if Acc z 7 a b σ = true then ansR z 7 a σ else -1) (fun ρ' => Sm ρ0 (if Acc z 7 a b σ = true then stE z 7 a b c σ else σ) ρ')) := by
  refine Can.go (ls := [some (.ref (ad w 2 7 0)), some (.int (nI 7)), some (.int a), some (.int b), some (.int c)]) ?_
  obtain ⟨ap, bb, r, ls, z0, z1, z2, z3, hap, b1, b8, hr2, l1, l9⟩ := id hz
  obtain ⟨hr0, hr1, hrr, hr3⟩ := id hr
  refine a_iload_n dX8_once_0 rfl ?_
  refine a_tabIn (tgt := 104) (d_ := 103) dX8_once_1 (by decide) (by decide) rfl (by decide) ?_
  refine a_aload_n dX8_once_104 rfl ?_
  refine a_iload_n dX8_once_105 rfl ?_
  refine c_V1Y dX8_once_106 kw_433 kv_X8_doClaim (s_X8_doClaim (ls := ls) h hG (hr3.trans z3)) (fun ρ106 h_106 => ?_)
  exact c_iret dX8_once_109 (by
      by_cases hj : jtl σ a = -1
      · rw [if_pos hj] at h_106
        exact ry_n (acc := !decide (jtl σ a = -1)) (by rw [decide_eq_true hj]; rfl) ⟨by rw [hj], _, rfl, h_106⟩
      · rw [if_neg hj, ← z3] at h_106
        have hn : jtl σ a = nextJ σ := by
          unfold jtl at hj ⊢
          split at hj
          · rename_i q
            rw [if_pos q]
          · exact absurd rfl hj
        exact ry_y (acc := !decide (jtl σ a = -1)) (τ := leaseN (z 3) σ (tn a)) (by rw [decide_eq_false hj]; rfl) ⟨by rw [hn]; rfl, _, rfl, h_106⟩)
theorem cbk_t : cbk 8 1 = 2 := rfl
theorem cbk_f {b : Int32} (h : ¬ b = 1) : cbk 8 b = 3 := by
  unfold cbk
  rw [if_pos rfl, if_neg h]
set_option maxRecDepth 10000 in
theorem s_once_8 {l : Launch} {w : WW} {M : Mem} {ρ0 σ ρ : Sg} {z : Nat → Int32} {B : Nat} (hz : Zv z) (hr : Zr z ρ0) (h : Sm ρ0 σ ρ) (hG : Gk B 4 σ) (hB : B + 20 < 2 ^ 20) {a b c : Int32} : Can l w yX8_once cX8_once 5 (some .int) (rmd 8) [.ref (ad w 2 7 0), .int (nI 8), .int a, .int b, .int c] (zx w M 2 ρ) (RY w M (if Acc z 8 a b σ = true then ansR z 8 a σ else -1) (fun ρ' => Sm ρ0 (if Acc z 8 a b σ = true then stE z 8 a b c σ else σ) ρ')) := by
  refine Can.go (ls := [some (.ref (ad w 2 7 0)), some (.int (nI 8)), some (.int a), some (.int b), some (.int c)]) ?_
  obtain ⟨ap, bb, r, ls, z0, z1, z2, z3, hap, b1, b8, hr2, l1, l9⟩ := id hz
  obtain ⟨hr0, hr1, hrr, hr3⟩ := id hr
  refine a_iload_n dX8_once_0 rfl ?_
  refine a_tabIn (tgt := 110) (d_ := 109) dX8_once_1 (by decide) (by decide) rfl (by decide) ?_
  refine a_aload_n dX8_once_110 rfl ?_
  refine a_iload_n dX8_once_111 rfl ?_
  refine a_iload_n dX8_once_112 rfl ?_
  refine a_iconst (v := 1) dX8_once_113 (by decide) ?_
  refine a_icmp_ne (tgt := 121) dX8_once_114 (by decide) (fun c_114 => ?_) (fun c_114 => ?_)
  · refine a_iconst (v := 0) dX8_once_121 (by decide) ?_
    refine c_V2Y dX8_once_122 kw_453 kv_X8_doReport (s_rep_f h hG) (fun ρ122 h_122 => ?_)
    exact c_iret dX8_once_125 (by
        by_cases hj : leasedJ σ a = -1
        · rw [if_pos hj] at h_122 ⊢
          exact ry_n (acc := !decide (leasedJ σ a = -1)) (by rw [decide_eq_true hj]; rfl) ⟨rfl, _, rfl, h_122⟩
        · rw [if_neg hj] at h_122 ⊢
          refine ry_y (acc := !decide (leasedJ σ a = -1)) (τ := endJ σ (tn (leasedJ σ a)) (cbk 8 b)) (by rw [decide_eq_false hj]; rfl) ⟨rfl, _, rfl, ?_⟩
          rw [show cbk 8 b = 3 from cbk_f c_114]
          exact h_122)
  · refine a_iconst (v := 1) dX8_once_117 (by decide) ?_
    refine a_goto (tgt := 122) dX8_once_118 (by decide) ?_
    refine c_V2Y dX8_once_122 kw_453 kv_X8_doReport (s_rep_t h hG) (fun ρ122 h_122 => ?_)
    exact c_iret dX8_once_125 (by
        by_cases hj : leasedJ σ a = -1
        · rw [if_pos hj] at h_122 ⊢
          exact ry_n (acc := !decide (leasedJ σ a = -1)) (by rw [decide_eq_true hj]; rfl) ⟨rfl, _, rfl, h_122⟩
        · rw [if_neg hj] at h_122 ⊢
          refine ry_y (acc := !decide (leasedJ σ a = -1)) (τ := endJ σ (tn (leasedJ σ a)) (cbk 8 b)) (by rw [decide_eq_false hj]; rfl) ⟨rfl, _, rfl, ?_⟩
          rw [show cbk 8 b = 2 from by rw [c_114]; rfl]
          exact h_122)
set_option maxRecDepth 10000 in
theorem s_once_9 {l : Launch} {w : WW} {M : Mem} {ρ0 σ ρ : Sg} {z : Nat → Int32} {B : Nat} (hz : Zv z) (hr : Zr z ρ0) (h : Sm ρ0 σ ρ) (hG : Gk B 4 σ) (hB : B + 20 < 2 ^ 20) {a b c : Int32} : Can l w yX8_once cX8_once 5 (some .int) (rmd 8) [.ref (ad w 2 7 0), .int (nI 9), .int a, .int b, .int c] (zx w M 2 ρ) (RY w M (if Acc z 9 a b σ = true then ansR z 9 a σ else -1) (fun ρ' => Sm ρ0 (if Acc z 9 a b σ = true then stE z 9 a b c σ else σ) ρ')) := by
  refine Can.go (ls := [some (.ref (ad w 2 7 0)), some (.int (nI 9)), some (.int a), some (.int b), some (.int c)]) ?_
  obtain ⟨ap, bb, r, ls, z0, z1, z2, z3, hap, b1, b8, hr2, l1, l9⟩ := id hz
  obtain ⟨hr0, hr1, hrr, hr3⟩ := id hr
  refine a_iload_n dX8_once_0 rfl ?_
  refine a_tabIn (tgt := 126) (d_ := 125) dX8_once_1 (by decide) (by decide) rfl (by decide) ?_
  refine a_aload_n dX8_once_126 rfl ?_
  refine a_iload_n dX8_once_127 rfl ?_
  refine c_V1Y dX8_once_128 kw_501 kv_X8_doTick (s_X8_doTick (z := z) h hG hB (hr1.trans z1) z1 b1 b8 (hrr.trans z2) z2 hr2) (fun ρ128 h_128 => ?_)
  exact c_iret dX8_once_131 ⟨rfl, _, rfl, h_128⟩
set_option maxRecDepth 10000 in
theorem s_once_10 {l : Launch} {w : WW} {M : Mem} {ρ0 σ ρ : Sg} {z : Nat → Int32} {B : Nat} (hz : Zv z) (hr : Zr z ρ0) (h : Sm ρ0 σ ρ) (hG : Gk B 4 σ) (hB : B + 20 < 2 ^ 20) {a b c : Int32} : Can l w yX8_once cX8_once 5 (some .int) (rmd 8) [.ref (ad w 2 7 0), .int (nI 10), .int a, .int b, .int c] (zx w M 2 ρ) (RY w M (if Acc z 10 a b σ = true then ansR z 10 a σ else -1) (fun ρ' => Sm ρ0 (if Acc z 10 a b σ = true then stE z 10 a b c σ else σ) ρ')) := by
  refine Can.go (ls := [some (.ref (ad w 2 7 0)), some (.int (nI 10)), some (.int a), some (.int b), some (.int c)]) ?_
  obtain ⟨ap, bb, r, ls, z0, z1, z2, z3, hap, b1, b8, hr2, l1, l9⟩ := id hz
  obtain ⟨hr0, hr1, hrr, hr3⟩ := id hr
  refine a_iload_n dX8_once_0 rfl ?_
  refine a_tabOut (tgt := 132) dX8_once_1 (by decide) (by decide) ?_
  refine a_aload_n dX8_once_132 rfl ?_
  refine c_V0X dX8_once_133 kw_525 kv_X8_expireAll (s_X8_expireAll h hG (hrr.trans z2) hr2) (fun ρ133 h_133 => ?_)
  refine a_iconst (v := 0) dX8_once_136 (by decide) ?_
  exact c_iret dX8_once_137 ⟨rfl, _, rfl, by rw [← z2] at h_133; exact h_133⟩
theorem s_once {l : Launch} {w : WW} {M : Mem} {ρ0 σ ρ : Sg} {z : Nat → Int32} {B kd : Nat} (hz : Zv z) (hr : Zr z ρ0) (h : Sm ρ0 σ ρ) (hG : Gk B 4 σ) (hB : B + 20 < 2 ^ 20) (hk : kd ≤ 10) {a b c : Int32} : Can l w yX8_once cX8_once 5 (some .int) (rmd 8) [.ref (ad w 2 7 0), .int (nI kd), .int a, .int b, .int c] (zx w M 2 ρ) (RY w M (if Acc z kd a b σ = true then ansR z kd a σ else -1) (fun ρ' => Sm ρ0 (if Acc z kd a b σ = true then stE z kd a b c σ else σ) ρ')) := by
  rcases (show kd = 0 ∨ kd = 1 ∨ kd = 2 ∨ kd = 3 ∨ kd = 4 ∨ kd = 5 ∨ kd = 6 ∨ kd = 7 ∨ kd = 8 ∨ kd = 9 ∨ kd = 10 by omega) with rfl | rfl | rfl | rfl | rfl | rfl | rfl | rfl | rfl | rfl | rfl
  · exact s_once_0 hz hr h hG hB
  · exact s_once_1 hz hr h hG hB
  · exact s_once_2 hz hr h hG hB
  · exact s_once_3 hz hr h hG hB
  · exact s_once_4 hz hr h hG hB
  · exact s_once_5 hz hr h hG hB
  · exact s_once_6 hz hr h hG hB
  · exact s_once_7 hz hr h hG hB
  · exact s_once_8 hz hr h hG hB
  · exact s_once_9 hz hr h hG hB
  · exact s_once_10 hz hr h hG hB
theorem s_once_y {l : Launch} {w : WW} {M : Mem} {ρ0 σ ρ : Sg} {z : Nat → Int32} {B kd : Nat} (hz : Zv z) (hr : Zr z ρ0) (h : Sm ρ0 σ ρ) (hG : Gk B 4 σ) (hB : B + 20 < 2 ^ 20) (hk : kd ≤ 10) {a b c : Int32} (ha : Acc z kd a b σ = true) : Can l w yX8_once cX8_once 5 (some .int) (rmd 8) [.ref (ad w 2 7 0), .int (nI kd), .int a, .int b, .int c] (zx w M 2 ρ) (RY w M (ansR z kd a σ) (fun ρ' => Sm ρ0 (stE z kd a b c σ) ρ')) := by
  have h1 := s_once (l := l) (w := w) (M := M) (c := c) hz hr h hG hB hk (a := a) (b := b)
  rw [ha] at h1
  exact h1
theorem s_once_n {l : Launch} {w : WW} {M : Mem} {ρ0 σ ρ : Sg} {z : Nat → Int32} {B kd : Nat} (hz : Zv z) (hr : Zr z ρ0) (h : Sm ρ0 σ ρ) (hG : Gk B 4 σ) (hB : B + 20 < 2 ^ 20) (hk : kd ≤ 10) {a b c : Int32} (ha : Acc z kd a b σ = false) : Can l w yX8_once cX8_once 5 (some .int) (rmd 8) [.ref (ad w 2 7 0), .int (nI kd), .int a, .int b, .int c] (zx w M 2 ρ) (RY w M (-1) (fun ρ' => Sm ρ0 σ ρ')) := by
  have h1 := s_once (l := l) (w := w) (M := M) (c := c) hz hr h hG hB hk (a := a) (b := b)
  rw [ha] at h1
  exact h1
/-! the reference's log -/
def LG (ρ : Sg) (E : List Ent) (F : Nat) : Prop := ρ 7 0 8 = nI E.length ∧ ρ 7 0 9 = nI F ∧ F ≤ E.length ∧ ∀ i e, E[i]? = some e → ρ 18 0 i = nI e.1 ∧ ρ 19 0 i = e.2.1 ∧ ρ 20 0 i = e.2.2.1 ∧ ρ 21 0 i = e.2.2.2
theorem LG_Kp {ρ0 ρ : Sg} {E : List Ent} {F : Nat} (h : Kp ρ0 ρ) (hl : LG ρ0 E F) : LG ρ E F := by
  unfold LG
  rw [h.1, h.2.1, h.2.2.1, h.2.2.2.1, h.2.2.2.2.2.2.2.2.1, h.2.2.2.2.2.2.2.2.2.1]
  exact hl
theorem Zr_Kp {ρ0 ρ : Sg} {z : Nat → Int32} (h : Kp ρ0 ρ) (hz : Zr z ρ0) : Zr z ρ := by
  unfold Zr
  rw [h.2.2.2.2.1, h.2.2.2.2.2.1, h.2.2.2.2.2.2.1, h.2.2.2.2.2.2.2.1]
  exact hz
/-- the reference after the events E, of which F are flushed -/
def RefI (z : Nat → Int32) (E : List Ent) (F : Nat) (ρ : Sg) : Prop := Sm ρ (runE z E) ρ ∧ LG ρ E F ∧ Zr z ρ
def C3 (ρ ρ' : Sg) : Prop := ρ' 2 = ρ 2 ∧ ρ' 4 = ρ 4 ∧ ρ' 6 = ρ 6
theorem C3_Kp {ρ0 ρ : Sg} (h : Kp ρ0 ρ) : C3 ρ0 ρ := h.2.2.2.2.2.2.2.2.2.2
def nFl (E : List Ent) (F : Nat) : Nat := if F + 16 ≤ E.length then E.length else F
def evR (ρ0 : Sg) (n f kd : Nat) (a b c : Int32) : Sg := ntR (sg ρ0 7 0 9 (nI f)) n (nI kd) a b c
theorem Sm_note {ρ0 σ ρ : Sg} {x : Int32} {n : Nat} {k a b c : Int32} (h : Sm ρ0 σ ρ) : Sm (ntR (sg ρ0 7 0 9 x) n k a b c) σ (ntR (sg ρ 7 0 9 x) n k a b c) := by
  have e18 : ∀ τ : Sg, (ntR (sg τ 7 0 9 x) n k a b c) 18 = up1 (τ 18) 0 (up1 (τ 18 0) n k) := fun _ => rfl
  have e19 : ∀ τ : Sg, (ntR (sg τ 7 0 9 x) n k a b c) 19 = up1 (τ 19) 0 (up1 (τ 19 0) n a) := fun _ => rfl
  have e20 : ∀ τ : Sg, (ntR (sg τ 7 0 9 x) n k a b c) 20 = up1 (τ 20) 0 (up1 (τ 20 0) n b) := fun _ => rfl
  have e21 : ∀ τ : Sg, (ntR (sg τ 7 0 9 x) n k a b c) 21 = up1 (τ 21) 0 (up1 (τ 21 0) n c) := fun _ => rfl
  have K := h.1.2.2.2.2
  refine ⟨⟨S1_of h.1.1, S2_of h.1.2.1, S3_of h.1.2.2.1, S4_of h.1.2.2.2.1, ?_⟩, S5_of h.2.1, S6_of h.2.2⟩
  refine ⟨by rw [e18, e18, K.1], by rw [e19, e19, K.2.1], by rw [e20, e20, K.2.2.1], by rw [e21, e21, K.2.2.2.1], ?_, ?_, ?_, ?_, rfl, rfl, ?_, ?_, ?_⟩
  · exact K.2.2.2.2.1
  · exact K.2.2.2.2.2.1
  · exact K.2.2.2.2.2.2.1
  · exact K.2.2.2.2.2.2.2.1
  · exact K.2.2.2.2.2.2.2.2.2.2.1
  · exact K.2.2.2.2.2.2.2.2.2.2.2.1
  · exact K.2.2.2.2.2.2.2.2.2.2.2.2
theorem LG_note {ρ0 : Sg} {E : List Ent} {F f kd n : Nat} {a b c : Int32} (h : LG ρ0 E F) (hn : n = E.length) (hf : f ≤ n + 1) : LG (ntR (sg ρ0 7 0 9 (nI f)) n (nI kd) a b c) (E ++ [(kd, a, b, c)]) f := by
  subst hn
  refine ⟨?_, rfl, by simp; omega, fun i e hi => ?_⟩
  · show nI (E.length + 1) = _
    simp
  · show up1 (ρ0 18 0) E.length (nI kd) i = _ ∧ up1 (ρ0 19 0) E.length a i = _ ∧ up1 (ρ0 20 0) E.length b i = _ ∧ up1 (ρ0 21 0) E.length c i = _
    rw [List.getElem?_append] at hi
    split at hi
    · rename_i hl
      rw [up1_ne (by omega), up1_ne (by omega), up1_ne (by omega), up1_ne (by omega)]
      exact h.2.2.2 i e hi
    · rename_i hl
      have h0 : i - E.length = 0 := by
        rcases Nat.eq_zero_or_pos (i - E.length) with q | q
        · exact q
        · rw [List.getElem?_eq_none (by simp; omega)] at hi; cases hi
      rw [h0] at hi
      have : (kd, a, b, c) = e := by simpa using hi
      subst this
      have e1 : i = E.length := by omega
      subst e1
      rw [up1_same, up1_same, up1_same, up1_same]
      exact ⟨rfl, rfl, rfl, rfl⟩
set_option maxRecDepth 10000 in
theorem s_event_y {l : Launch} {w : WW} {M : Mem} {ρ : Sg} {z : Nat → Int32} {E : List Ent} {F kd : Nat} (hz : Zv z) (hR : RefI z E F ρ) (hE : okE z E) (hl : E.length ≤ 500) (hk : kd ≤ 9) {a b c : Int32} (ha : Acc z kd a b (runE z E) = true) : Can l w yX8_event cX8_event 6 (some .int) (rmd 9) [.ref (ad w 2 7 0), .int (nI kd), .int a, .int b, .int c] (zx w M 2 ρ) (RY w M (ansR z kd a (runE z E)) (fun ρ' => RefI z (E ++ [(kd, a, b, c)]) (nFl E F) ρ' ∧ C3 ρ ρ')) := by
  refine Can.go (ls := [some (.ref (ad w 2 7 0)), some (.int (nI kd)), some (.int a), some (.int b), some (.int c), none]) ?_
  have hG := Gk_all hz hE (by omega)
  obtain ⟨h, hL, hZ⟩ := hR
  have hC : Cn (runE z E) := hG.1.elim fun qs h => h.elim fun ps hW => hW.1.1
  obtain ⟨x, hx, ex⟩ := ans_nn hC ha
  have hG1 := Gk_stE (c := c) hz hG (by omega) (by omega) ha
  obtain ⟨ap, bb, r, ls, z0, z1, z2, z3, hap, b1, b8, hr2, l1, l9⟩ := id hz
  obtain ⟨l8, l9', hFE, -⟩ := id hL
  refine a_aload_n dX8_event_0 rfl ?_
  refine a_iload_n dX8_event_1 rfl ?_
  refine a_iload_n dX8_event_2 rfl ?_
  refine a_iload_n dX8_event_3 rfl ?_
  refine a_iload dX8_event_4 rfl ?_
  refine c_V4Y dX8_event_6 kw_381 kv_X8_once (s_once_y (c := c) hz hZ h hG (by omega) (by omega) ha) (fun ρ6 h_6 => ?_)
  refine a_istore_5 dX8_event_9 (by decide) ?_
  refine a_iload dX8_event_11 rfl ?_
  refine a_if_lt (tgt := 58) dX8_event_13 (by decide) (fun c_13 => absurd c_13 (by rw [ex]; exact nI_pos (by omega))) (fun c_13 => ?_)
  refine a_aload_n dX8_event_16 rfl ?_
  refine c_V0X dX8_event_17 kw_509 kv_X8_buildAll (s_X8_buildAll (b := bb) (hZ.2.1.trans z1) b1 b8 h_6 hG1) (fun ρ17 h_17 => ?_)
  refine a_aload_n dX8_event_20 rfl ?_
  refine a_aload_n dX8_event_21 rfl ?_
  refine c_getI (t := 7) (k := 8) dX8_event_22 kw_379 ?_
  refine a_aload_n dX8_event_25 rfl ?_
  refine c_getI (t := 7) (k := 9) dX8_event_26 kw_380 ?_
  have K := h_17.1.2.2.2.2
  have k8 : ρ17 7 0 8 = nI E.length := K.2.2.2.2.2.2.2.2.1.trans l8
  have k9 : ρ17 7 0 9 = nI F := K.2.2.2.2.2.2.2.2.2.1.trans l9'
  rw [k8, k9]
  refine a_isub dX8_event_29 ?_
  rw [show nI E.length - nI F = nI (E.length - F) by rw [show nI E.length = nI (E.length - F) + nI F by rw [nI_add, Nat.sub_add_cancel hFE], Int32.add_sub_cancel]]
  refine a_bipush (v := 16) dX8_event_30 (by decide) ?_
  refine a_icmp_lt (tgt := 42) dX8_event_32 (by decide) (fun c_32 => ?_) (fun c_32 => ?_)
  · refine a_aload_n dX8_event_42 rfl ?_
    refine c_getI (t := 7) (k := 9) dX8_event_43 kw_380 ?_
    have hnf : ρ17 7 0 8 = nI (nFl E F) ∨ ρ17 7 0 9 = nI (nFl E F) := by
      unfold nFl
      by_cases q : F + 16 ≤ E.length
      · rw [if_pos q]; exact Or.inl k8
      · rw [if_neg q]; exact Or.inr k9
    first
      | rw [show ρ17 7 0 8 = nI (nFl E F) by
          unfold nFl
          rw [if_pos (by
            rcases Nat.lt_or_ge (E.length - F) 16 with q | q
            · exact absurd (nI_lt (b := 16) q (by omega)) c_32
            · omega)]
          exact k8]
      | rw [show ρ17 7 0 9 = nI (nFl E F) by
          unfold nFl
          rw [if_neg (by
            intro q
            exact absurd c_32 (nI_nlt (b := 16) (by omega) (by omega)))]
          exact k9]
    refine c_putI (t := 7) (k := 9) dX8_event_46 kw_380 ?_
    refine a_aload_n dX8_event_49 rfl ?_
    refine a_iload_n dX8_event_50 rfl ?_
    refine a_iload_n dX8_event_51 rfl ?_
    refine a_iload_n dX8_event_52 rfl ?_
    refine a_iload dX8_event_53 rfl ?_
    refine c_V4V dX8_event_55 kw_529 kv_X8_note (s_X8_note (n := E.length) k8 (by omega)) ?_
    refine a_iload dX8_event_58 rfl ?_
    exact c_iret dX8_event_60 ⟨rfl, _, rfl, by
      have h3 := Sm_note (x := nI (nFl E F)) (n := E.length) (k := nI kd) (a := a) (b := b) (c := c) h_17
      have hnf2 : nFl E F ≤ E.length + 1 := by unfold nFl; split <;> omega
      have hL3 := LG_Kp h3.1.2.2.2.2 (LG_note (kd := kd) (a := a) (b := b) (c := c) hL rfl hnf2)
      have q1 : Zr z ρ17 := Zr_Kp K hZ
      have q2 : C3 ρ ρ17 := C3_Kp K
      refine ⟨⟨?_, hL3, q1⟩, q2⟩
      rw [runE_snoc]
      unfold stL
      rw [z1]
      exact Sm_self h3⟩
  · refine a_aload_n dX8_event_35 rfl ?_
    refine c_getI (t := 7) (k := 8) dX8_event_36 kw_379 ?_
    refine a_goto (tgt := 46) dX8_event_39 (by decide) ?_
    have hnf : ρ17 7 0 8 = nI (nFl E F) ∨ ρ17 7 0 9 = nI (nFl E F) := by
      unfold nFl
      by_cases q : F + 16 ≤ E.length
      · rw [if_pos q]; exact Or.inl k8
      · rw [if_neg q]; exact Or.inr k9
    first
      | rw [show ρ17 7 0 8 = nI (nFl E F) by
          unfold nFl
          rw [if_pos (by
            rcases Nat.lt_or_ge (E.length - F) 16 with q | q
            · exact absurd (nI_lt (b := 16) q (by omega)) c_32
            · omega)]
          exact k8]
      | rw [show ρ17 7 0 9 = nI (nFl E F) by
          unfold nFl
          rw [if_neg (by
            intro q
            exact absurd c_32 (nI_nlt (b := 16) (by omega) (by omega)))]
          exact k9]
    refine c_putI (t := 7) (k := 9) dX8_event_46 kw_380 ?_
    refine a_aload_n dX8_event_49 rfl ?_
    refine a_iload_n dX8_event_50 rfl ?_
    refine a_iload_n dX8_event_51 rfl ?_
    refine a_iload_n dX8_event_52 rfl ?_
    refine a_iload dX8_event_53 rfl ?_
    refine c_V4V dX8_event_55 kw_529 kv_X8_note (s_X8_note (n := E.length) k8 (by omega)) ?_
    refine a_iload dX8_event_58 rfl ?_
    exact c_iret dX8_event_60 ⟨rfl, _, rfl, by
      have h3 := Sm_note (x := nI (nFl E F)) (n := E.length) (k := nI kd) (a := a) (b := b) (c := c) h_17
      have hnf2 : nFl E F ≤ E.length + 1 := by unfold nFl; split <;> omega
      have hL3 := LG_Kp h3.1.2.2.2.2 (LG_note (kd := kd) (a := a) (b := b) (c := c) hL rfl hnf2)
      have q1 : Zr z ρ17 := Zr_Kp K hZ
      have q2 : C3 ρ ρ17 := C3_Kp K
      refine ⟨⟨?_, hL3, q1⟩, q2⟩
      rw [runE_snoc]
      unfold stL
      rw [z1]
      exact Sm_self h3⟩
set_option maxRecDepth 10000 in
theorem s_event_n {l : Launch} {w : WW} {M : Mem} {ρ : Sg} {z : Nat → Int32} {E : List Ent} {F kd : Nat} (hz : Zv z) (hR : RefI z E F ρ) (hE : okE z E) (hl : E.length ≤ 500) (hk : kd ≤ 9) {a b c : Int32} (ha : Acc z kd a b (runE z E) = false) : Can l w yX8_event cX8_event 6 (some .int) (rmd 9) [.ref (ad w 2 7 0), .int (nI kd), .int a, .int b, .int c] (zx w M 2 ρ) (RY w M (-1) (fun ρ' => RefI z E F ρ' ∧ C3 ρ ρ')) := by
  refine Can.go (ls := [some (.ref (ad w 2 7 0)), some (.int (nI kd)), some (.int a), some (.int b), some (.int c), none]) ?_
  have hG := Gk_all hz hE (by omega)
  obtain ⟨h, hL, hZ⟩ := hR
  have hC : Cn (runE z E) := hG.1.elim fun qs h => h.elim fun ps hW => hW.1.1
  refine a_aload_n dX8_event_0 rfl ?_
  refine a_iload_n dX8_event_1 rfl ?_
  refine a_iload_n dX8_event_2 rfl ?_
  refine a_iload_n dX8_event_3 rfl ?_
  refine a_iload dX8_event_4 rfl ?_
  refine c_V4Y dX8_event_6 kw_381 kv_X8_once (s_once_n (c := c) hz hZ h hG (by omega) (by omega) ha) (fun ρ6 h_6 => ?_)
  refine a_istore_5 dX8_event_9 (by decide) ?_
  refine a_iload dX8_event_11 rfl ?_
  refine a_if_lt (tgt := 58) dX8_event_13 (by decide) (fun c_13 => ?_) (fun c_13 => absurd (by decide) c_13)
  refine a_iload dX8_event_58 rfl ?_
  exact c_iret dX8_event_60 ⟨rfl, _, rfl, ⟨Sm_self h_6, LG_Kp h_6.1.2.2.2.2 hL, Zr_Kp h_6.1.2.2.2.2 hZ⟩, C3_Kp h_6.1.2.2.2.2⟩
set_option maxRecDepth 10000 in
theorem s_X8_flush {l : Launch} {w : WW} {M : Mem} {ρ : Sg} {z : Nat → Int32} {E : List Ent} {F : Nat} (hR : RefI z E F ρ) : Can l w yX8_flush cX8_flush 2 (some .int) (rmd 1) [.ref (ad w 2 7 0)] (zx w M 2 ρ) (RY w M (nI (E.length - F)) (fun ρ' => RefI z E E.length ρ' ∧ C3 ρ ρ')) := by
  refine Can.go (ls := [some (.ref (ad w 2 7 0)), none]) ?_
  obtain ⟨h, ⟨l8, l9, hFE, hLE⟩, hZ⟩ := hR
  refine a_aload_n dX8_flush_0 rfl ?_
  refine c_getI (t := 7) (k := 8) dX8_flush_1 kw_379 ?_
  refine a_aload_n dX8_flush_4 rfl ?_
  refine c_getI (t := 7) (k := 9) dX8_flush_5 kw_380 ?_
  rw [l8, l9]
  refine a_isub dX8_flush_8 ?_
  rw [show nI E.length - nI F = nI (E.length - F) by rw [show nI E.length = nI (E.length - F) + nI F by rw [nI_add, Nat.sub_add_cancel hFE], Int32.add_sub_cancel]]
  refine a_istore_1 dX8_flush_9 (by decide) ?_
  refine a_aload_n dX8_flush_10 rfl ?_
  refine a_aload_n dX8_flush_11 rfl ?_
  refine c_getI (t := 7) (k := 8) dX8_flush_12 kw_379 ?_
  rw [l8]
  refine c_putI (t := 7) (k := 9) dX8_flush_15 kw_380 ?_
  refine a_iload_n dX8_flush_18 rfl ?_
  exact c_iret dX8_flush_19 ⟨rfl, _, rfl, ⟨⟨⟨S1_of h.1.1, S2_of h.1.2.1, S3_of h.1.2.2.1, S4_of h.1.2.2.2.1, ⟨rfl, rfl, rfl, rfl, rfl, rfl, rfl, rfl, rfl, rfl, rfl, rfl, rfl⟩⟩, S5_of h.2.1, S6_of h.2.2⟩, ⟨l8, rfl, Nat.le_refl _, hLE⟩, hZ⟩, ⟨rfl, rfl, rfl⟩⟩
