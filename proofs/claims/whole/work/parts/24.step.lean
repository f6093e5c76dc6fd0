/-! an event keeps what holds of the class's state -/
theorem Bt_of {σ τ : Sg} {ps : List Nat} (h : Bt σ ps) (h0 : τ 0 0 1 = σ 0 0 1) (h10 : τ 10 0 = σ 10 0) : Bt τ ps := by
  unfold Bt mb at *
  rw [h0, h10]
  exact h
theorem q_prefix {σ : Sg} {qs ps : List Nat} (hW : Wk σ qs ps) (hm : mb σ ≠ 0) {i : Nat} (hi : i < mb σ) : ∃ c, σ 13 0 i = nI c ∧ c < cn σ ∧ c < 16 ∧ σ 1 c 2 = 1 := by
  have hJ := Wk_J hW hm
  have hq := QI_qn hW.1.2.1
  have hl : i < qs.length := by have := hJ.2.2.2.2.2.2.1; omega
  have h1 := hW.1.2.1.2.2 i _ (List.getElem?_eq_getElem hl)
  have h2 := hW.1.2.2.2.1 _ (List.getElem_mem hl)
  have h3 := hW.1.1.2
  exact ⟨_, h1, h2.1, by omega, h2.2⟩
/-- an event that changes only changes that aren't queued -/
theorem Gk_ev {σ τ : Sg} {B k : Nat} (h : Gk B k σ) (h0 : τ 0 = σ 0) (h3 : τ 3 = σ 3) (h8 : τ 8 = σ 8) (h9 : τ 9 = σ 9) (h10 : τ 10 = σ 10) (h12 : τ 12 = σ 12) (h13 : τ 13 = σ 13) (h5 : τ 5 0 8 = σ 5 0 8) (hC : Cn τ) (hn : cn σ ≤ cn τ) (hq : ∀ c, c < cn σ → σ 1 c 2 = 1 → τ 1 c 2 = 1 ∧ τ 14 c = σ 14 c ∧ τ 15 c = σ 15 c) (hA : CA τ) : Gk B k τ := by
  obtain ⟨⟨qs, ps, hW⟩, hx, hD⟩ := h
  have em : mb τ = mb σ := by unfold mb; rw [h0]
  refine ⟨⟨qs, ps, ⟨hC, QI_of hW.1.2.1 (by rw [h3]) (by rw [h13]), PI_of hW.1.2.2.1 (by rw [h3]) (by rw [h13]), fun c hc => ?_, hW.1.2.2.2.2⟩, Bt_of hW.2 (by rw [h0]) (by rw [h10])⟩, ⟨hA, ?_, by rw [h10]; exact hx.2.2.1, fun hm => ?_⟩, fun hm => ?_⟩
  · obtain ⟨q1, q2⟩ := hW.1.2.2.2.1 c hc
    exact ⟨by omega, (hq c q1 q2).1⟩
  · obtain ⟨t, a, b, c⟩ := hx.2.1
    exact ⟨t, by rw [h5]; exact a, b, fun v j hv hj e => by rw [h12]; exact c v j hv hj (by rw [← h10]; exact e)⟩
  · rw [em] at hm
    obtain ⟨d1, d2⟩ := hx.2.2.2 hm
    refine ⟨?_, fun j hj ht => ?_⟩
    · unfold TR
      rw [em, h8, h9]
      refine Mg_congr _ _ _ _ (fun _ _ => rfl) (fun i _ hi => ?_) d1
      obtain ⟨c, q1, q2, q3, q4⟩ := q_prefix hW hm (i := i) (by omega)
      have ec : tn (σ 13 0 i) = c := by rw [q1]; exact tn_nI (by omega)
      obtain ⟨-, g2, g3⟩ := hq c q2 q4
      rw [h13, ec, g2, g3]
      exact ⟨rfl, fun _ _ => ⟨rfl, rfl⟩⟩
    · rw [h10]
      rw [h9] at ht
      exact d2 j hj ht
  · rw [em] at hm
    have := hD hm
    unfold JD firstF passedR at *
    rw [h9, h10]
    exact this
theorem CA_at {σ τ : Sg} {c : Nat} (h : CA σ) (ho : ∀ d, d ≠ c → τ 1 d = σ 1 d) (hc : CI τ c) (hn : ∀ d, d < cn τ → d = c ∨ d < cn σ) : CA τ := by
  intro d hd
  by_cases e : d = c
  · subst e; exact hc
  · rcases hn d hd with q | q
    · exact absurd q e
    · have := h d q
      unfold CI at *
      rw [ho d e]
      exact this
theorem open_in {σ : Sg} {a : Int32} (h : opB σ a = true) (hC : Cn σ) : a = nI (tn a) ∧ tn a < 16 ∧ tn a < cn σ ∧ σ 1 (tn a) 2 = 0 := by
  have h1 := opB_in h
  obtain ⟨e1, e2⟩ := tnC h1 hC
  have h2 := inr_nI (n := cn σ) h1 hC.1 (by have := hC.2; omega)
  unfold opB at h
  rw [Bool.and_eq_true, decide_eq_true_eq] at h
  exact ⟨e1, e2, h2.2, h.2⟩
theorem orB_is {σ : Sg} {a : Int32} (h : orB σ a = true) (hC : Cn σ) : a = nI (tn a) ∧ tn a < 16 ∧ tn a < cn σ ∧ (σ 1 (tn a) 2 = 0 ∨ σ 1 (tn a) 2 = 3) := by
  have h1 := orB_in h
  obtain ⟨e1, e2⟩ := tnC h1 hC
  have h2 := inr_nI (n := cn σ) h1 hC.1 (by have := hC.2; omega)
  refine ⟨e1, e2, h2.2, ?_⟩
  unfold orB at h
  rw [Bool.or_eq_true, Bool.and_eq_true, decide_eq_true_eq] at h
  rcases h with h | h
  · exact Or.inl (open_in h hC).2.2.2
  · exact Or.inr h.2
theorem ne1 {x : Int32} (h : x = 0 ∨ x = 3) : x ≠ 1 := by rcases h with rfl | rfl <;> decide
theorem Gk_add {σ : Sg} {B k : Nat} (h : Gk B k σ) (hlt : cn σ < 16) : Gk B k (addC σ) := by
  have hC : Cn σ := h.1.elim fun qs h => h.elim fun ps hW => hW.1.1
  have e5 : (addC σ) 5 0 4 = nI (cn σ + 1) := by
    unfold addC
    rw [sg_same, hC.1, nI_1]
  have ec : cn (addC σ) = cn σ + 1 := by unfold cn; rw [e5]; exact nI_clamp (by omega)
  have ho : ∀ d, d ≠ cn σ → (addC σ) 1 d = σ 1 d := fun d e => by simp [addC, stF, dropR, become, sg, sga, up1, e]
  refine Gk_ev h rfl rfl rfl rfl rfl rfl rfl rfl ⟨by rw [ec]; exact e5, by omega⟩ (by omega) (fun c hc h1 => ?_) (CA_at h.2.1.1 ho ?_ (fun d hd => by omega))
  · have e : c ≠ cn σ := by omega
    rw [ho c e]
    refine ⟨h1, ?_, ?_⟩ <;> simp [addC, stF, dropR, become, sg, sga, up1, e]
  · have a2 : (addC σ) 1 (cn σ) 3 = 0 := by simp [addC, stF, dropR, become, sg, sga, up1]
    have a4 : (addC σ) 1 (cn σ) 4 = 0 := by simp [addC, stF, dropR, become, sg, sga, up1]
    have a5 : (addC σ) 1 (cn σ) 5 = 0 := by simp [addC, stF, dropR, become, sg, sga, up1]
    unfold CI
    rw [a2, a4, a5]
    exact ⟨(fun r q => by rw [b_0] at q; cases q), fun r _ => ⟨b_0 r, b_0 r⟩, fun _ => rfl⟩
theorem Gk_push {σ : Sg} {B k p : Nat} {a c : Int32} (h : Gk B k σ) (ho : opB σ a = true) : Gk B k (dropR (sg σ 15 (tn a) p c) (tn a)) := by
  have hC : Cn σ := h.1.elim fun qs h => h.elim fun ps hW => hW.1.1
  obtain ⟨-, -, h3, h4⟩ := open_in ho hC
  have ho : ∀ d, d ≠ tn a → (dropR (sg σ 15 (tn a) p c) (tn a)) 1 d = σ 1 d := fun d e => by simp [dropR, sg, up1, e]
  refine Gk_ev h rfl rfl rfl rfl rfl rfl rfl rfl hC (Nat.le_refl _) (fun c hc h1 => ?_) (CA_at h.2.1.1 ho ?_ (fun d hd => Or.inr hd))
  · have e : c ≠ tn a := fun q => by rw [q, h4] at h1; exact absurd h1 (by decide)
    rw [ho c e]
    refine ⟨h1, rfl, ?_⟩
    simp [dropR, sg, up1, e]
  · obtain ⟨-, -, x3⟩ := h.2.1.1 (tn a) h3
    have a2 : (dropR (sg σ 15 (tn a) p c) (tn a)) 1 (tn a) 2 = σ 1 (tn a) 2 := by simp [dropR, sg, up1]
    have a3 : (dropR (sg σ 15 (tn a) p c) (tn a)) 1 (tn a) 3 = σ 1 (tn a) 3 := by simp [dropR, sg, up1]
    have a4 : (dropR (sg σ 15 (tn a) p c) (tn a)) 1 (tn a) 4 = 0 := by simp [dropR, sg, up1]
    have a5 : (dropR (sg σ 15 (tn a) p c) (tn a)) 1 (tn a) 5 = 0 := by simp [dropR, sg, up1]
    unfold CI
    rw [a2, a3, a4, a5]
    exact ⟨(fun r q => by rw [b_0] at q; cases q), fun r _ => ⟨b_0 r, b_0 r⟩, x3⟩
theorem or_bt {F : Int32} {r i : Nat} (hr : r < 32) : bt (F ||| sh1 (nI r)) i = (bt F i || decide (i = r)) := by
  by_cases hi : i < 32
  · rw [b_or, sh_bt hr hi]
  · rw [b_big (by omega), b_big (by omega), decide_eq_false (by omega)]; rfl
theorem an_bt {F : Int32} {r i : Nat} (hr : r < 32) : bt (F &&& (sh1 (nI r) ^^^ (-1))) i = (bt F i && !decide (i = r)) := by
  by_cases hi : i < 32
  · rw [b_and, b_xor, sh_bt hr hi, b_m1 i hi, Bool.xor_true]
  · rw [b_big (by omega), b_big (by omega)]; rfl
theorem CI_addF {σ : Sg} {c r : Nat} (h : CI σ c) (hr : r < 8) : CI (addF σ c (nI r)) c := by
  obtain ⟨x1, x2, x3⟩ := h
  have a2 : (addF σ c (nI r)) 1 c 2 = σ 1 c 2 := by simp [addF, sg, up1]
  have a3 : (addF σ c (nI r)) 1 c 3 = σ 1 c 3 := by simp [addF, sg, up1]
  have a4 : (addF σ c (nI r)) 1 c 4 = σ 1 c 4 ||| sh1 (nI r) := by simp [addF, sg, up1]
  have a5 : (addF σ c (nI r)) 1 c 5 = σ 1 c 5 &&& (sh1 (nI r) ^^^ (-1)) := by simp [addF, sg, up1]
  unfold CI
  rw [a2, a3, a4, a5]
  refine ⟨fun i h1 h2 => ?_, fun i hi => ?_, x3⟩
  · rw [or_bt (by omega), Bool.or_eq_true, decide_eq_true_eq] at h1
    rw [an_bt (by omega), Bool.and_eq_true, Bool.not_eq_true', decide_eq_false_iff_not] at h2
    rcases h1 with h1 | h1
    · exact x1 i h1 h2.1
    · exact h2.2 h1
  · obtain ⟨y1, y2⟩ := x2 i hi
    rw [or_bt (by omega), an_bt (by omega), y1, y2, decide_eq_false (by omega)]
    exact ⟨rfl, rfl⟩
theorem CI_addA {σ : Sg} {c r : Nat} (h : CI σ c) (hr : r < 8) : CI (addA σ c (nI r)) c := by
  obtain ⟨x1, x2, x3⟩ := h
  have a2 : (addA σ c (nI r)) 1 c 2 = σ 1 c 2 := by simp [addA, sg, up1]
  have a3 : (addA σ c (nI r)) 1 c 3 = σ 1 c 3 := by simp [addA, sg, up1]
  have a5 : (addA σ c (nI r)) 1 c 5 = σ 1 c 5 ||| sh1 (nI r) := by simp [addA, sg, up1]
  have a4 : (addA σ c (nI r)) 1 c 4 = σ 1 c 4 &&& (sh1 (nI r) ^^^ (-1)) := by simp [addA, sg, up1]
  unfold CI
  rw [a2, a3, a4, a5]
  refine ⟨fun i h2 h1 => ?_, fun i hi => ?_, x3⟩
  · rw [or_bt (by omega), Bool.or_eq_true, decide_eq_true_eq] at h1
    rw [an_bt (by omega), Bool.and_eq_true, Bool.not_eq_true', decide_eq_false_iff_not] at h2
    rcases h1 with h1 | h1
    · exact x1 i h2.1 h1
    · exact h2.2 h1
  · obtain ⟨y1, y2⟩ := x2 i hi
    rw [or_bt (by omega), an_bt (by omega), y1, y2, decide_eq_false (by omega)]
    exact ⟨rfl, rfl⟩
theorem Gk_rev {σ τ : Sg} {B k c : Nat} (h : Gk B k σ) (hc : c < cn σ) (h1 : ∀ d, d ≠ c → τ 1 d = σ 1 d) (h2 : τ 1 c 2 = σ 1 c 2) (hI : CI τ c) (ht : ∀ t, t ≠ 1 → τ t = σ t) : Gk B k τ := by
  have hC : Cn σ := h.1.elim fun qs h => h.elim fun ps hW => hW.1.1
  have ec : cn τ = cn σ := by unfold cn; rw [ht 5 (by decide)]
  refine Gk_ev h (ht 0 (by decide)) (ht 3 (by decide)) (ht 8 (by decide)) (ht 9 (by decide)) (ht 10 (by decide)) (ht 12 (by decide)) (ht 13 (by decide)) (by rw [ht 5 (by decide)]) (by unfold Cn; rw [ec, ht 5 (by decide)]; exact hC) (by omega) (fun d hd q => ⟨?_, by rw [ht 14 (by decide)], by rw [ht 15 (by decide)]⟩) (CA_at h.2.1.1 h1 hI (fun d hd => Or.inr (by omega)))
  by_cases e : d = c
  · subst e; rw [h2]; exact q
  · rw [h1 d e]; exact q
theorem Gk_addF {σ : Sg} {B k r : Nat} {a : Int32} (h : Gk B k σ) (ho : opB σ a = true) (hr : r < 8) : Gk B k (addF σ (tn a) (nI r)) := by
  have hC : Cn σ := h.1.elim fun qs h => h.elim fun ps hW => hW.1.1
  obtain ⟨-, -, h3, -⟩ := open_in ho hC
  exact Gk_rev h h3 (fun d e => by simp [addF, sg, up1, e]) (by simp [addF, sg, up1]) (CI_addF (h.2.1.1 _ h3) hr) (fun t e => by unfold addF; rw [sg_t e, sg_t e])
theorem Gk_addA {σ : Sg} {B k r : Nat} {a : Int32} (h : Gk B k σ) (ho : opB σ a = true) (hr : r < 8) : Gk B k (addA σ (tn a) (nI r)) := by
  have hC : Cn σ := h.1.elim fun qs h => h.elim fun ps hW => hW.1.1
  obtain ⟨-, -, h3, -⟩ := open_in ho hC
  exact Gk_rev h h3 (fun d e => by simp [addA, sg, up1, e]) (by simp [addA, sg, up1]) (CI_addA (h.2.1.1 _ h3) hr) (fun t e => by unfold addA; rw [sg_t e, sg_t e])
theorem Gk_close {σ : Sg} {B k : Nat} {a : Int32} (h : Gk B k σ) (ho : orB σ a = true) : Gk B k (become σ (tn a) 4 0) := by
  have hC : Cn σ := h.1.elim fun qs h => h.elim fun ps hW => hW.1.1
  obtain ⟨-, -, h3, h4⟩ := orB_is ho hC
  refine Gk_ev h rfl rfl rfl rfl rfl rfl rfl rfl hC (Nat.le_refl _) (fun c hc h1 => ⟨?_, rfl, rfl⟩) (CA_become h.2.1.1 _ (fun _ => rfl))
  have e : c ≠ tn a := fun q => by rw [q] at h1; exact ne1 h4 h1
  rw [show (become σ (tn a) 4 0) 1 c = σ 1 c by simp [become, sg, up1, e]]
  exact h1
theorem Gk_move {σ : Sg} {B k : Nat} {a : Int32} (h : Gk B k σ) (ho : orB σ a = true) : Gk B k (moveO σ (tn a)) := by
  have hC : Cn σ := h.1.elim fun qs h => h.elim fun ps hW => hW.1.1
  obtain ⟨-, -, h3, h4⟩ := orB_is ho hC
  have ho : ∀ d, d ≠ tn a → (moveO σ (tn a)) 1 d = σ 1 d := fun d e => by simp [moveO, dropR, become, sg, sga, up1, e]
  refine Gk_ev h rfl rfl rfl rfl rfl rfl rfl rfl hC (Nat.le_refl _) (fun c hc h1 => ?_) (CA_at h.2.1.1 ho ?_ (fun d hd => Or.inr hd))
  · have e : c ≠ tn a := fun q => by rw [q] at h1; exact ne1 h4 h1
    rw [ho c e]
    refine ⟨h1, ?_, ?_⟩ <;> simp [moveO, dropR, become, sg, sga, up1, e]
  · have a3 : (moveO σ (tn a)) 1 (tn a) 3 = 0 := by simp [moveO, dropR, become, sg, sga, up1]
    have a4 : (moveO σ (tn a)) 1 (tn a) 4 = 0 := by simp [moveO, dropR, become, sg, sga, up1]
    have a5 : (moveO σ (tn a)) 1 (tn a) 5 = 0 := by simp [moveO, dropR, become, sg, sga, up1]
    unfold CI
    rw [a3, a4, a5]
    exact ⟨(fun r q => by rw [b_0] at q; cases q), fun r _ => ⟨b_0 r, b_0 r⟩, fun _ => rfl⟩
theorem q_room {σ : Sg} {qs ps : List Nat} (hW : Wk σ qs ps) {c : Nat} (hc : c < cn σ) (h1 : σ 1 c 2 ≠ 1) : qs.length < 16 ∧ c ∉ qs := by
  have hn : c ∉ qs := fun q => h1 (hW.1.2.2.2.1 c q).2
  have h2 := nd_len (cn σ) (c :: qs) (fun x hx => by
    rcases List.mem_cons.mp hx with rfl | hx
    · exact hc
    · exact (hW.1.2.2.2.1 x hx).1) (List.nodup_cons.mpr ⟨hn, hW.1.2.2.2.2.1⟩)
  have := hW.1.1.2
  simp only [List.length_cons] at h2
  exact ⟨by omega, hn⟩
theorem Gk_enq {σ : Sg} {B k : Nat} {a : Int32} (h : Gk B k σ) (ho : opB σ a = true) : Gk B k (rowIns (become σ (tn a) 1 0) 0 (qn σ) (qn σ) a) := by
  obtain ⟨⟨qs, ps, hW⟩, hx, hD⟩ := h
  have hC := hW.1.1
  obtain ⟨h1, h2, h3, h4⟩ := open_in ho hC
  obtain ⟨hr, hni⟩ := q_room hW h3 (by rw [h4]; decide)
  have hqn := QI_qn hW.1.2.1
  obtain ⟨τ, hτ⟩ : ∃ τ, rowIns (become σ (tn a) 1 0) 0 (qn σ) (qn σ) a = τ := ⟨_, rfl⟩
  have t0 : τ 0 = σ 0 := by rw [← hτ]; rfl
  have t8 : τ 8 = σ 8 := by rw [← hτ]; rfl
  have t9 : τ 9 = σ 9 := by rw [← hτ]; rfl
  have t10 : τ 10 = σ 10 := by rw [← hτ]; rfl
  have t12 : τ 12 = σ 12 := by rw [← hτ]; rfl
  have t14 : τ 14 = σ 14 := by rw [← hτ]; rfl
  have t15 : τ 15 = σ 15 := by rw [← hτ]; rfl
  have t5 : τ 5 = σ 5 := by rw [← hτ]; rfl
  have t1 : τ 1 = (become σ (tn a) 1 0) 1 := by rw [← hτ]; rfl
  have t3 : τ 3 0 1 = nI (qn σ + 1) := by rw [← hτ]; rfl
  have t31 : τ 3 1 = σ 3 1 := by rw [← hτ]; simp [rowIns, become, sg, sga, up1]
  have t131 : τ 13 1 = σ 13 1 := by rw [← hτ]; simp [rowIns, become, sg, sga, up1]
  have t130 : τ 13 0 = ins (σ 13 0) (qn σ) (qn σ) a := by rw [← hτ]; simp [rowIns, become, sg, sga, up1]
  rw [hτ]
  have em : mb τ = mb σ := by unfold mb; rw [t0]
  have ec : cn τ = cn σ := by unfold cn; rw [t5]
  have hins : ∀ i, i < qn σ → τ 13 0 i = σ 13 0 i := fun i hi => by
    rw [t130]
    unfold ins
    rw [if_neg (by omega), if_neg (by omega)]
  have b1 : (become σ (tn a) 1 0) 1 (tn a) 2 = 1 := by simp [become, sg, up1]
  have b2 : ∀ d, d ≠ tn a → (become σ (tn a) 1 0) 1 d = σ 1 d := fun d e => by simp [become, sg, up1, e]
  refine ⟨⟨qs ++ [tn a], ps, ⟨by unfold Cn; rw [ec, t5]; exact hC, ⟨by rw [t3, hqn]; simp, by simp; omega, fun i c hi => ?_⟩, PI_of hW.1.2.2.1 t31 t131, fun c hc => ?_, ?_, hW.1.2.2.2.2.2.1, hW.1.2.2.2.2.2.2.1, by have := hW.1.2.2.2.2.2.2.2; simp; omega⟩, Bt_of hW.2 (by rw [t0]) (by rw [t10])⟩, ⟨CA_of (CA_become hx.1 (tn a) (fun _ => rfl)) t1 (by rw [t5]; rfl), ?_, by rw [t10]; exact hx.2.2.1, fun hm => ?_⟩, fun hm => ?_⟩
  · rw [List.getElem?_append] at hi
    split at hi
    · rename_i hl
      rw [hins i (by omega)]
      exact hW.1.2.1.2.2 i c hi
    · rename_i hl
      have hl2 : i - qs.length = 0 := by
        rcases Nat.eq_zero_or_pos (i - qs.length) with q | q
        · exact q
        · rw [List.getElem?_eq_none (by simp; omega)] at hi; cases hi
      rw [hl2] at hi
      have : tn a = c := by simpa using hi
      subst this
      have : i = qn σ := by omega
      subst this
      rw [t130]
      unfold ins
      rw [if_pos rfl]
      exact h1
  · rw [ec, t1]
    rcases List.mem_append.mp hc with hc | hc
    · have h5 := hW.1.2.2.2.1 c hc
      have e : c ≠ tn a := fun q => hni (by rw [← q]; exact hc)
      rw [b2 c e]
      exact h5
    · rw [List.mem_singleton.mp hc]
      exact ⟨h3, b1⟩
  · rw [List.nodup_append]
    refine ⟨hW.1.2.2.2.2.1, by simp, fun x hx y hy => ?_⟩
    rw [List.mem_singleton.mp hy]
    exact fun q => hni (by rw [← q]; exact hx)
  · obtain ⟨t, q1, q2, q3⟩ := hx.2.1
    exact ⟨t, by rw [t5]; exact q1, q2, fun v j hv hj e => by rw [t12]; exact q3 v j hv hj (by rw [← t10]; exact e)⟩
  · rw [em] at hm
    obtain ⟨d1, d2⟩ := hx.2.2.2 hm
    have hJ := Wk_J hW hm
    refine ⟨?_, fun j hj ht => ?_⟩
    · unfold TR
      rw [em, t8, t9]
      refine Mg_congr _ _ _ _ (fun _ _ => rfl) (fun i _ hi => ?_) d1
      rw [hins i (by have := hJ.2.2.2.2.2.2.1; omega), t14, t15]
      exact ⟨rfl, fun _ _ => ⟨rfl, rfl⟩⟩
    · rw [t10]
      rw [t9] at ht
      exact d2 j hj ht
  · rw [em] at hm
    have := hD hm
    unfold JD firstF passedR at *
    rw [t9, t10]
    exact this
theorem lease_inj {v u : Nat} (hv : v < 4) (hu : u < 4) (h : (10 : Int32) + nI u = 10 + nI v) : v = u := (by decide : ∀ v, v < 4 → ∀ u, u < 4 → (10 : Int32) + nI u = 10 + nI v → v = u) v hv u hu h
/-- a job is leased -/
theorem Gk_lease {σ : Sg} {B k v ls : Nat} (h : Gk B k σ) (hk : 4 ≤ k) (hv : v < 4) (hl : leasedJ σ (nI v) = -1) (hls : 1 ≤ ls ∧ ls ≤ 9) (hB : B < 2 ^ 20) : Gk B k (leaseN (nI ls) σ v) := by
  unfold leaseN
  split
  · exact h
  · rename_i hn
    obtain ⟨e1, e2, e3⟩ := fhit_tn hn
    change nextJ σ = nI (tn (nextJ σ)) at e1
    change tn (nextJ σ) < 4 at e2
    have e3 : njC (σ 9 0 0) (σ 10 0) (tn (nextJ σ)) = true := e3
    generalize tn (nextJ σ) = j at e2 e3 ⊢
    unfold njC at e3
    rw [Bool.and_eq_true, decide_eq_true_eq] at e3
    obtain ⟨⟨qs, ps, hW⟩, hx, hD⟩ := h
    have hm : mb σ ≠ 0 := by
      intro q
      rcases hW.2.2 with ⟨-, h1⟩ | ⟨h1, -⟩
      · exact absurd e3.1 (by rw [h1 j e2]; decide)
      · omega
    obtain ⟨d1, d2⟩ := hx.2.2.2 hm
    have hD := hD hm
    have hno : ∀ i, i < 4 → σ 10 0 i ≠ 10 + nI v := by
      rcases LJ_leased (σ := σ) hv with ⟨-, q⟩ | ⟨i, hi, q, -⟩
      · exact q
      · rw [hl] at q
        exact absurd q.symm (nI_m1 hi)
    obtain ⟨τ, hτ⟩ : ∃ τ, leaseB σ j v (σ 5 0 8 + nI ls) = τ := ⟨_, rfl⟩
    have t0 : τ 0 = σ 0 := by rw [← hτ]; rfl
    have t1 : τ 1 = σ 1 := by rw [← hτ]; rfl
    have t3 : τ 3 = σ 3 := by rw [← hτ]; rfl
    have t5 : τ 5 = σ 5 := by rw [← hτ]; rfl
    have t8 : τ 8 = σ 8 := by rw [← hτ]; rfl
    have t9 : τ 9 = σ 9 := by rw [← hτ]; rfl
    have t13 : τ 13 = σ 13 := by rw [← hτ]; rfl
    have t14 : τ 14 = σ 14 := by rw [← hτ]; rfl
    have t15 : τ 15 = σ 15 := by rw [← hτ]; rfl
    have t10 : ∀ i, τ 10 0 i = if i = j then 10 + nI v else σ 10 0 i := fun i => by
      rw [← hτ]
      show (sg σ 10 0 j (10 + nI v)) 10 0 i = _
      by_cases e : i = j
      · subst e; rw [sg_same, if_pos rfl]
      · rw [sg_k e, if_neg e]
    have t12 : ∀ u, τ 12 0 u = if u = v then σ 5 0 8 + nI ls else σ 12 0 u := fun u => by
      rw [← hτ]
      unfold leaseB
      by_cases e : u = v
      · subst e; rw [sg_same, if_pos rfl]
      · rw [sg_k e, if_neg e]; rfl
    rw [hτ]
    have em : mb τ = mb σ := by unfold mb; rw [t0]
    have ht := job_there d2 e2 (by rw [e3.1]; decide)
    refine ⟨⟨qs, ps, QP_of hW.1 (by rw [t5]) t3 t13 (fun c => by rw [t1]), ?_⟩, ⟨CA_of hx.1 t1 (by rw [t5]), ?_, ?_, fun _ => ⟨?_, fun i hi q => ?_⟩⟩, fun _ => ⟨?_, ?_⟩⟩
    · refine ⟨by rw [em, t0]; exact hW.2.1, ?_⟩
      rw [em]
      rcases hW.2.2 with ⟨q, -⟩ | q
      · exact absurd q hm
      · exact Or.inr q
    · obtain ⟨t, q1, q2, q3⟩ := hx.2.1
      refine ⟨t, by rw [t5]; exact q1, q2, fun u i hu hi e => ?_⟩
      rw [t10] at e
      rw [t12]
      by_cases ei : i = j
      · rw [if_pos ei] at e
        have := lease_inj hu hv e
        subst this
        rw [if_pos rfl]
        exact ⟨t + ls, by rw [q1, nI_add], by omega, by omega, fun _ => by omega⟩
      · rw [if_neg ei] at e
        have : u ≠ v := fun q => hno i hi (by rw [← q]; exact e)
        rw [if_neg this]
        exact q3 u i hu hi e
    · intro u i i' hu hi hi' a1 a2
      rw [t10] at a1 a2
      by_cases ei : i = j
      · rw [if_pos ei] at a1
        have := lease_inj hu hv a1
        subst this
        by_cases ei' : i' = j
        · omega
        · rw [if_neg ei'] at a2
          exact absurd a2 (hno i' hi')
      · rw [if_neg ei] at a1
        by_cases ei' : i' = j
        · rw [if_pos ei'] at a2
          have := lease_inj hu hv a2
          subst this
          exact absurd a1 (hno i hi)
        · rw [if_neg ei'] at a2
          exact hx.2.2.1 u i i' hu hi hi' a1 a2
    · unfold TR
      rw [em, t8, t9]
      refine Mg_congr _ _ _ _ (fun _ _ => rfl) (fun i _ hi => ?_) d1
      rw [t13, t14, t15]
      exact ⟨rfl, fun _ _ => ⟨rfl, rfl⟩⟩
    · rw [t9] at q
      rw [t10]
      by_cases ei : i = j
      · subst ei
        rw [ht] at q; cases q
      · rw [if_neg ei]
        exact d2 i hi q
    · unfold firstF
      rcases @fhit_in (ffC (τ 9 0 0) (τ 10 0)) 4 0 with q | ⟨i, -, h2, -, h4⟩
      · exact q
      · refine absurd h4 ?_
        unfold ffC
        rw [t10, t9]
        by_cases ei : i = j
        · rw [if_pos ei, decide_eq_false (fun q => (NL_no (Or.inr (Or.inr rfl)) hv) q.symm)]
          simp
        · rw [if_neg ei]
          have hf := hD.1
          have : ∀ n k, k ≤ i → i < k + n → k + n ≤ 4 → fhit (ffC (σ 9 0 0) (σ 10 0)) n k = -1 → ffC (σ 9 0 0) (σ 10 0) i = false := by
            intro n
            induction n with
            | zero => intro k h1 h2; omega
            | succ n ih =>
              intro k h1 h2 h4 h3
              unfold fhit at h3
              split at h3
              · exact absurd h3 (nI_m1 (by omega))
              · rename_i hn
                by_cases e : i = k
                · subst e; simpa using hn
                · exact ih (k + 1) (by omega) (by omega) (by omega) h3
          have h5 := this 4 0 (Nat.zero_le _) (by omega) (by omega) hf
          unfold ffC at h5
          rw [h5]
          decide
    · have hp := hD.2
      unfold passedR at hp ⊢
      rw [Bool.not_eq_false', any4] at hp ⊢
      obtain ⟨i, hi, hp⟩ := hp
      refine ⟨i, hi, ?_⟩
      unfold hpC at hp ⊢
      rw [t10, t9]
      by_cases ei : i = j
      · rw [if_pos ei, decide_eq_false (fun q => (NL_no (Or.inr (Or.inl rfl)) hv) q.symm)]
        rw [Bool.and_eq_true] at hp
        rw [hp.2]
        decide
      · rw [if_neg ei]
        exact hp
theorem Gk_mono {σ : Sg} {B B' k : Nat} (h : Gk B k σ) (hB : B ≤ B') : Gk B' k σ := by
  obtain ⟨hW, ⟨a, ⟨t, b1, b2, b3⟩, c⟩, d⟩ := h
  refine ⟨hW, ⟨a, ⟨t, b1, by omega, fun v j hv hj e => ?_⟩, c⟩, d⟩
  obtain ⟨u, c1, c2, c3, c4⟩ := b3 v j hv hj e
  exact ⟨u, c1, c2, by omega, c4⟩
/-- a job's end -/
theorem Gk_endJ {σ : Sg} {B k v : Nat} {oc : Int32} (h : Gk B k σ) (hv : v < 4) (hl : leasedJ σ (nI v) ≠ -1) : Gk B k (endJ σ (tn (leasedJ σ (nI v))) oc) := by
  obtain ⟨e1, e2, e3⟩ := leased_job hv hl
  generalize tn (leasedJ σ (nI v)) = j at e1 e2 e3 ⊢
  obtain ⟨⟨qs, ps, hW⟩, hx, -⟩ := h
  have hm : mb σ ≠ 0 := by
    have hJ := Lok_J hv (Wk_L hW) hl
    have := hJ.2.2.2.2.1
    omega
  have ht := job_there (hx.2.2.2 hm).2 e2 (by rw [e3]; exact lease_n0 hv)
  have hJ : JS σ (if oc = 2 then sg σ 10 0 j 2 else failJ σ (nI j)) := by
    split
    · exact JS_sg (Or.inr (Or.inl rfl)) ht
    · exact JS_fail e2 ht
  exact Gk_judge ⟨qs, ps, JS_Wk hJ hW hm⟩ (JS_Hx hJ hx) (by rw [JS_mb hJ]; exact hm)
theorem Gk_time {σ : Sg} {B : Nat} (h : Gk B 4 σ) : Gk (B + 1) 0 (sg σ 5 0 8 (σ 5 0 8 + 1)) := by
  obtain ⟨⟨qs, ps, hW⟩, hx, hD⟩ := h
  have e0 : mb (sg σ 5 0 8 (σ 5 0 8 + 1)) = mb σ := rfl
  refine ⟨⟨qs, ps, sgt_Wk hW⟩, ⟨?_, ?_, hx.2.2.1, fun hm => ?_⟩, fun hm => hD hm⟩
  · have ec : cn (sg σ 5 0 8 (σ 5 0 8 + 1)) = cn σ := rfl
    intro c hc
    exact hx.1 c hc
  · obtain ⟨t, q1, q2, q3⟩ := hx.2.1
    refine ⟨t + 1, by rw [sg_same, q1, nI_1], by omega, fun v j hv hj e => ?_⟩
    obtain ⟨u, c1, c2, c3, c4⟩ := q3 v j hv hj e
    exact ⟨u, c1, c4 hv, by omega, fun q => absurd q (Nat.not_lt_zero v)⟩
  · obtain ⟨d1, d2⟩ := hx.2.2.2 hm
    refine ⟨?_, fun j hj ht => d2 j hj ht⟩
    unfold TR
    rw [e0]
    exact Mg_congr (σ := σ) _ _ _ _ (fun _ _ => rfl) (fun i _ _ => ⟨rfl, fun _ _ => ⟨rfl, rfl⟩⟩) d1
theorem exp_skip {τ : Sg} {v : Nat} (hv : v < 4) (hu : UQ (τ 10 0)) (h : leasedJ τ (nI v) = -1 ∨ ¬ τ 12 0 v = τ 5 0 8) : ∀ j, j < 4 → τ 10 0 j = 10 + nI v → ¬ τ 12 0 v = τ 5 0 8 := by
  intro j hj e
  rcases h with h | h
  · rcases LJ_leased (σ := τ) hv with ⟨-, q⟩ | ⟨i, hi, q, -⟩
    · exact absurd e (q j hj)
    · rw [h] at q
      exact absurd q.symm (nI_m1 hi)
  · exact h
theorem Gk_expv {τ : Sg} {B v : Nat} {most : Int32} (h : Gk B v τ) (hv : v < 4) (hl : leasedJ τ (nI v) ≠ -1) (hB : B < 2 ^ 20) : Gk B (v + 1) (judgeS (expireB τ (tn (leasedJ τ (nI v))) most)) := by
  obtain ⟨e1, e2, e3⟩ := leased_job hv hl
  obtain ⟨⟨qs, ps, hW⟩, hx, hD⟩ := id h
  have hm : mb τ ≠ 0 := by
    have hJ := Lok_J hv (Wk_L hW) hl
    have := hJ.2.2.2.2.1
    omega
  have h1 := Gk_ex (most := most) h hm e2 hv e3
  refine Gk_up h1 (fun j hj e => ?_) hB
  exfalso
  have hno := ex_no (most := most) hx.2.2.1 (hx.2.2.2 hm).2 e2 hv e3
  rcases judge_10 (expireB τ (tn (leasedJ τ (nI v))) most) with q | q
  · rw [q] at e
    exact hno j hj e
  · rw [q] at e
    exact absurd e (zero_no hv)
/-- the leases that last until now expire -/
theorem Gk_expI {B : Nat} {rt : Int32} (hB : B < 2 ^ 20) : ∀ (n v : Nat) (τ : Sg) (x : Int32), v + n = 4 → Gk B v τ → Gk B 4 (expI 0 rt n v τ x).1
  | 0, v, τ, x, hv, h => by
    obtain rfl : v = 4 := by omega
    exact h
  | n + 1, v, τ, x, hv, h => by
    unfold expI
    split
    · rename_i hc
      refine Gk_expI hB n (v + 1) _ _ (by omega) (Gk_up h (exp_skip (by omega) h.2.1.2.2.1 (hc.imp id (fun q => q.2))) hB)
    · rename_i hc
      exact Gk_expI hB n (v + 1) _ _ (by omega) (Gk_expv h (by omega) (fun q => hc (Or.inl q)) hB)
/-- .. all of them, after a crash -/
theorem Gk_expA {B k : Nat} {rt : Int32} : ∀ (n v : Nat) (τ : Sg) (x : Int32), v + n = 4 → Gk B k τ → Gk B k (expI 1 rt n v τ x).1
  | 0, v, τ, x, hv, h => h
  | n + 1, v, τ, x, hv, h => by
    unfold expI
    split
    · exact Gk_expA n (v + 1) _ _ (by omega) h
    · rename_i hc
      have hl : leasedJ τ (nI v) ≠ -1 := fun q => hc (Or.inl q)
      obtain ⟨e1, e2, e3⟩ := leased_job (by omega) hl
      obtain ⟨⟨qs, ps, hW⟩, hx, hD⟩ := id h
      have hm : mb τ ≠ 0 := by
        have hJ := Lok_J (v := v) (by omega) (Wk_L hW) hl
        have := hJ.2.2.2.2.1
        omega
      exact Gk_expA n (v + 1) _ _ (by omega) (Gk_ex h hm e2 (by omega) e3)
theorem Gk_tick {z : Nat → Int32} {b : Nat} (hb : z 1 = nI b) (h1 : 1 ≤ b) (h8 : b ≤ 8) : ∀ (n B : Nat) (σ : Sg) (x : Int32), B + n < 2 ^ 20 → Gk B 4 σ → Gk (B + n) 4 (tickN z n σ x).1
  | 0, B, σ, x, hB, h => h
  | n + 1, B, σ, x, hB, h => by
    unfold tickN
    have := Gk_tick hb h1 h8 n (B + 1) _ (x + (expI 0 (z 2) 4 0 (sg σ 5 0 8 (σ 5 0 8 + 1)) 0).2) (by omega) (Gk_bld hb h1 h8 40 _ (Gk_expI (rt := z 2) (by omega) 4 0 _ 0 rfl (Gk_time h)))
    rw [show B + (n + 1) = B + 1 + n by omega]
    exact this
theorem exp_cnt {all rt : Int32} : ∀ (n v : Nat) (τ : Sg) (x : Nat), ∃ e, e ≤ n ∧ (expI all rt n v τ (nI x)).2 = nI (x + e)
  | 0, v, τ, x => ⟨0, Nat.le_refl 0, rfl⟩
  | n + 1, v, τ, x => by
    unfold expI
    split
    · obtain ⟨e, h1, h2⟩ := exp_cnt n (v + 1) τ x
      exact ⟨e, by omega, h2⟩
    · rw [nI_1]
      obtain ⟨e, h1, h2⟩ := exp_cnt n (v + 1) (judgeS (expireB τ (tn (leasedJ τ (nI v))) (rt + 1))) (x + 1)
      exact ⟨e + 1, by omega, by rw [h2]; congr 1; omega⟩
theorem tick_cnt {z : Nat → Int32} : ∀ (n : Nat) (σ : Sg) (x : Nat), ∃ e, e ≤ 4 * n ∧ (tickN z n σ (nI x)).2 = nI (x + e)
  | 0, σ, x => ⟨0, Nat.le_refl 0, rfl⟩
  | n + 1, σ, x => by
    unfold tickN
    obtain ⟨e, h1, h2⟩ := exp_cnt (all := 0) (rt := z 2) 4 0 (sg σ 5 0 8 (σ 5 0 8 + 1)) 0
    rw [Nat.zero_add] at h2
    rw [show (expI 0 (z 2) 4 0 (sg σ 5 0 8 (σ 5 0 8 + 1)) 0).2 = nI e from h2, nI_add]
    obtain ⟨e', h3, h4⟩ := tick_cnt n (bld (z 1) 40 (expI 0 (z 2) 4 0 (sg σ 5 0 8 (σ 5 0 8 + 1)) 0).1) (x + e)
    exact ⟨e + e', by omega, by rw [h4]; congr 1; omega⟩
