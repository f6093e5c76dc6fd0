/-! the law's calls and its loop -/
def R_law : String := "GatedTrunkLaw"
def lw_P (b : Addr) (xs : List Int32) (args : Array Value) (s : State) : Prop := args = #[.ref b] ∧ s.IntsAt b xs ∧ xs.length ≤ 260 ∧ (Jvm.Cond.and given_1 narrow_1).before args s = true
def lw_Q (_ : Array Value) (s : State) (o : Outcome) (t : State) : Prop := o = .returned (some (.int 1)) ∧ Framed s o t [] 600000 7302250
def lw_Z (below : List Frame) (a : Array Value) (s : State) : State → Prop := fun t => ∃ o, t.status = .running ∧ Ended t below o ∧ lw_Q a s o t
theorem lw_ret2 {p : Program} {l : Launch} {e : Env} {s : State} {m : MethodId} {below : List Frame} {meth : Method} {c : Code} {args : Array Value} (hx : p.tables.exec = Jvm.exec) (hb : c.code = code) (hr : meth.sig.returnType = ret) (hlocks : meth.locks = false) {pc : Nat} {H : Heap} {ls : Array Slot} (hdg : decode code pc = .ok (.ireturn, 1)) : W p l e room_1 s m args below meth c H [] 600000 7302250 (lw_Z below args s) (F0 m pc ls [.int 1]) := by
  intro T hT X
  obtain ⟨fs, hret, hrun, hended, hW, hframe⟩ := X.leave (v := some (.int 1)) (hlocks := hlocks) (fun h => by rw [hr] at h; cases h)
  have hmeth' : T.vm.method? m = some meth := X.method'
  refine ⟨T.setFrames fs, ?_, .returned (some (.int 1)), hrun, hended, rfl, ⟨_, rfl⟩, hW, hframe⟩
  jvm_step X.here [X.here.top, hx, hb, hdg, hmeth', hr, ret, narrow_b1]
  (try refine ⟨rfl, ?_⟩); (try refine ⟨rfl, ?_⟩)
  first | (intro acts; rw [hret _ acts rfl rfl rfl]) | rw [hret _ _ rfl rfl rfl]
  exact Steps.refl _
/-- what holds at the law's entry: the machine, the code, the tables' words (any of lw_tbl by 'hts w (by decide +kernel)'), the script of L ints xs at the cell b, what the Statement gives of the start (any of its parts by flat_of_before) -/
def lw_At (p : Program) (s : State) (m : MethodId) (meth : Method) (c : Code) (b L : Nat) (xs : Nat → Int32) : Prop :=
  p.tables.exec = Jvm.exec ∧ c.code = code ∧ meth.sig.returnType = ret ∧ c.maxLocals = 4 ∧ s.vm.findClass R_law = some m.cls ∧ (∀ w ∈ lw_tbl, w.before #[Value.ref b] s = true) ∧ va_X b L xs s s.heap ∧ b < s.heap.size ∧ meth.locks = false ∧ (Jvm.Cond.and given_1 narrow_1).before #[Value.ref b] s = true
def TL : TT0 := fun below args s => lw_Z below args s
section AR
variable {l : Launch} {w : WW} {b L : Nat} {xs : Nat → Int32} {i q ks : Nat} {N : Mem} {z : Nat → Int32}
theorem law_c0 (hz : Zv z) (hi : i + 4 ≤ L) (hq : q ≤ 100) (hks : ks ≤ 7302250) (h : LI z q N) (kk : ∀ N' : Mem, LI z (q + 1) N' → AG l w b L xs yL_law cL_law 4 ret room_1 TL 664 [some (.ref b), some (.ref (ad w 2 6 0)), some (.ref (ad w 2 7 0)), some (.int (nI i))] [] (mx w N') 158 ks) : AG l w b L xs yL_law cL_law 4 ret room_1 TL 168 [some (.ref b), some (.ref (ad w 2 6 0)), some (.ref (ad w 2 7 0)), some (.int (nI i))] [] (mx w N) 158 ks := by
  obtain ⟨E, F, hI, hR, hE, hl⟩ := h
  refine g_aload_n dL_law_168 rfl ?_
  refine g_callV (rm' := rmd 7) [] dL_law_169 kw_126 kv_X7_open (ob_Rl ob_6 (by decide)) (by decide) rfl rfl ⟨Nat.le_of_ble_eq_true rfl, Nat.le_of_ble_eq_true rfl⟩ ⟨Nat.le_of_ble_eq_true rfl, hks⟩ (Nat.le_of_ble_eq_true rfl) (s_X7_open hz hI hE (by omega)) (fun v z1 h1 => ?_)
  obtain ⟨rfl, N1, rfl, h7⟩ := h1
  refine g_aload_n dL_law_172 rfl ?_
  refine g_eq (x' := zx w N1 2 (N1 2)) (mx_0 w N1 2) ?_
  refine g_callV (rm' := rmd 10) [] dL_law_173 kw_371 kv_X8_open (ob_Rl ob_7 (by decide)) (by decide) rfl rfl ⟨Nat.le_of_ble_eq_true rfl, Nat.le_of_ble_eq_true rfl⟩ ⟨Nat.le_of_ble_eq_true rfl, hks⟩ (Nat.le_of_ble_eq_true rfl) (s_X8_open hz (RefI_C4 h7.2 hR) hE (by omega)) (fun v z2 h2 => ?_)
  obtain ⟨rfl, ρ, rfl, h8⟩ := h2
  refine g_icmp_eq (tgt := 664) dL_law_176 (by decide) (fun _ => ?_) (fun q => absurd rfl q)
  exact kk (up1 N1 2 ρ) (LI_E (by decide) h7 h8 hE hl)
theorem law_c1 (hz : Zv z) (hi : i + 4 ≤ L) (hq : q ≤ 100) (hks : ks ≤ 7302250) (h : LI z q N) (kk : ∀ N' : Mem, LI z (q + 1) N' → AG l w b L xs yL_law cL_law 4 ret room_1 TL 664 [some (.ref b), some (.ref (ad w 2 6 0)), some (.ref (ad w 2 7 0)), some (.int (nI i))] [] (mx w N') 158 ks) : AG l w b L xs yL_law cL_law 4 ret room_1 TL 181 [some (.ref b), some (.ref (ad w 2 6 0)), some (.ref (ad w 2 7 0)), some (.int (nI i))] [] (mx w N) 158 ks := by
  obtain ⟨E, F, hI, hR, hE, hl⟩ := h
  refine g_aload_n dL_law_181 rfl ?_
  refine g_aload_n dL_law_182 rfl ?_
  refine g_iload_n dL_law_183 rfl ?_
  refine g_iconst (v := nI 1) dL_law_184 (by decide) ?_
  refine g_iadd dL_law_185 ?_
  refine g_sld (i := i + 1) dL_law_186 (nI_p i 1) (by omega) ?_
  refine g_aload_n dL_law_187 rfl ?_
  refine g_iload_n dL_law_188 rfl ?_
  refine g_iconst (v := nI 2) dL_law_189 (by decide) ?_
  refine g_iadd dL_law_190 ?_
  refine g_sld (i := i + 2) dL_law_191 (nI_p i 2) (by omega) ?_
  refine g_aload_n dL_law_192 rfl ?_
  refine g_iload_n dL_law_193 rfl ?_
  refine g_iconst (v := nI 3) dL_law_194 (by decide) ?_
  refine g_iadd dL_law_195 ?_
  refine g_sld (i := i + 3) dL_law_196 (nI_p i 3) (by omega) ?_
  refine g_callV (rm' := rmd 7) [.int (xs (i + 1)), .int (xs (i + 2)), .int (xs (i + 3))] dL_law_197 kw_533 kv_X7_push (ob_Rl ob_6 (by decide)) (by decide) rfl rfl ⟨Nat.le_of_ble_eq_true rfl, Nat.le_of_ble_eq_true rfl⟩ ⟨Nat.le_of_ble_eq_true rfl, hks⟩ (Nat.le_of_ble_eq_true rfl) (s_X7_push hz hI hE (by omega)) (fun v z1 h1 => ?_)
  obtain ⟨rfl, N1, rfl, h7⟩ := h1
  refine g_aload_n dL_law_200 rfl ?_
  refine g_aload_n dL_law_201 rfl ?_
  refine g_iload_n dL_law_202 rfl ?_
  refine g_iconst (v := nI 1) dL_law_203 (by decide) ?_
  refine g_iadd dL_law_204 ?_
  refine g_sld (i := i + 1) dL_law_205 (nI_p i 1) (by omega) ?_
  refine g_aload_n dL_law_206 rfl ?_
  refine g_iload_n dL_law_207 rfl ?_
  refine g_iconst (v := nI 2) dL_law_208 (by decide) ?_
  refine g_iadd dL_law_209 ?_
  refine g_sld (i := i + 2) dL_law_210 (nI_p i 2) (by omega) ?_
  refine g_aload_n dL_law_211 rfl ?_
  refine g_iload_n dL_law_212 rfl ?_
  refine g_iconst (v := nI 3) dL_law_213 (by decide) ?_
  refine g_iadd dL_law_214 ?_
  refine g_sld (i := i + 3) dL_law_215 (nI_p i 3) (by omega) ?_
  refine g_eq (x' := zx w N1 2 (N1 2)) (mx_0 w N1 2) ?_
  refine g_callV (rm' := rmd 10) [.int (xs (i + 1)), .int (xs (i + 2)), .int (xs (i + 3))] dL_law_216 kw_545 kv_X8_push (ob_Rl ob_7 (by decide)) (by decide) rfl rfl ⟨Nat.le_of_ble_eq_true rfl, Nat.le_of_ble_eq_true rfl⟩ ⟨Nat.le_of_ble_eq_true rfl, hks⟩ (Nat.le_of_ble_eq_true rfl) (s_X8_push hz (RefI_C4 h7.2 hR) hE (by omega)) (fun v z2 h2 => ?_)
  obtain ⟨rfl, ρ, rfl, h8⟩ := h2
  refine g_icmp_eq (tgt := 664) dL_law_219 (by decide) (fun _ => ?_) (fun q => absurd rfl q)
  exact kk (up1 N1 2 ρ) (LI_E (by decide) h7 h8 hE hl)
theorem law_c2 (hz : Zv z) (hi : i + 4 ≤ L) (hq : q ≤ 100) (hks : ks ≤ 7302250) (h : LI z q N) (kk : ∀ N' : Mem, LI z (q + 1) N' → AG l w b L xs yL_law cL_law 4 ret room_1 TL 664 [some (.ref b), some (.ref (ad w 2 6 0)), some (.ref (ad w 2 7 0)), some (.int (nI i))] [] (mx w N') 158 ks) : AG l w b L xs yL_law cL_law 4 ret room_1 TL 224 [some (.ref b), some (.ref (ad w 2 6 0)), some (.ref (ad w 2 7 0)), some (.int (nI i))] [] (mx w N) 158 ks := by
  obtain ⟨E, F, hI, hR, hE, hl⟩ := h
  refine g_aload_n dL_law_224 rfl ?_
  refine g_aload_n dL_law_225 rfl ?_
  refine g_iload_n dL_law_226 rfl ?_
  refine g_iconst (v := nI 1) dL_law_227 (by decide) ?_
  refine g_iadd dL_law_228 ?_
  refine g_sld (i := i + 1) dL_law_229 (nI_p i 1) (by omega) ?_
  refine g_aload_n dL_law_230 rfl ?_
  refine g_iload_n dL_law_231 rfl ?_
  refine g_iconst (v := nI 2) dL_law_232 (by decide) ?_
  refine g_iadd dL_law_233 ?_
  refine g_sld (i := i + 2) dL_law_234 (nI_p i 2) (by omega) ?_
  refine g_callV (rm' := rmd 7) [.int (xs (i + 1)), .int (xs (i + 2))] dL_law_235 kw_549 kv_X7_approve (ob_Rl ob_6 (by decide)) (by decide) rfl rfl ⟨Nat.le_of_ble_eq_true rfl, Nat.le_of_ble_eq_true rfl⟩ ⟨Nat.le_of_ble_eq_true rfl, hks⟩ (Nat.le_of_ble_eq_true rfl) (s_X7_approve hz hI hE (by omega)) (fun v z1 h1 => ?_)
  obtain ⟨rfl, N1, rfl, h7⟩ := h1
  refine g_aload_n dL_law_238 rfl ?_
  refine g_aload_n dL_law_239 rfl ?_
  refine g_iload_n dL_law_240 rfl ?_
  refine g_iconst (v := nI 1) dL_law_241 (by decide) ?_
  refine g_iadd dL_law_242 ?_
  refine g_sld (i := i + 1) dL_law_243 (nI_p i 1) (by omega) ?_
  refine g_aload_n dL_law_244 rfl ?_
  refine g_iload_n dL_law_245 rfl ?_
  refine g_iconst (v := nI 2) dL_law_246 (by decide) ?_
  refine g_iadd dL_law_247 ?_
  refine g_sld (i := i + 2) dL_law_248 (nI_p i 2) (by omega) ?_
  refine g_eq (x' := zx w N1 2 (N1 2)) (mx_0 w N1 2) ?_
  refine g_callV (rm' := rmd 10) [.int (xs (i + 1)), .int (xs (i + 2))] dL_law_249 kw_556 kv_X8_approve (ob_Rl ob_7 (by decide)) (by decide) rfl rfl ⟨Nat.le_of_ble_eq_true rfl, Nat.le_of_ble_eq_true rfl⟩ ⟨Nat.le_of_ble_eq_true rfl, hks⟩ (Nat.le_of_ble_eq_true rfl) (s_X8_approve hz (RefI_C4 h7.2 hR) hE (by omega)) (fun v z2 h2 => ?_)
  obtain ⟨rfl, ρ, rfl, h8⟩ := h2
  refine g_icmp_eq (tgt := 664) dL_law_252 (by decide) (fun _ => ?_) (fun q => absurd rfl q)
  exact kk (up1 N1 2 ρ) (LI_E (by decide) h7 h8 hE hl)
theorem law_c3 (hz : Zv z) (hi : i + 4 ≤ L) (hq : q ≤ 100) (hks : ks ≤ 7302250) (h : LI z q N) (kk : ∀ N' : Mem, LI z (q + 1) N' → AG l w b L xs yL_law cL_law 4 ret room_1 TL 664 [some (.ref b), some (.ref (ad w 2 6 0)), some (.ref (ad w 2 7 0)), some (.int (nI i))] [] (mx w N') 158 ks) : AG l w b L xs yL_law cL_law 4 ret room_1 TL 257 [some (.ref b), some (.ref (ad w 2 6 0)), some (.ref (ad w 2 7 0)), some (.int (nI i))] [] (mx w N) 158 ks := by
  obtain ⟨E, F, hI, hR, hE, hl⟩ := h
  refine g_aload_n dL_law_257 rfl ?_
  refine g_aload_n dL_law_258 rfl ?_
  refine g_iload_n dL_law_259 rfl ?_
  refine g_iconst (v := nI 1) dL_law_260 (by decide) ?_
  refine g_iadd dL_law_261 ?_
  refine g_sld (i := i + 1) dL_law_262 (nI_p i 1) (by omega) ?_
  refine g_aload_n dL_law_263 rfl ?_
  refine g_iload_n dL_law_264 rfl ?_
  refine g_iconst (v := nI 2) dL_law_265 (by decide) ?_
  refine g_iadd dL_law_266 ?_
  refine g_sld (i := i + 2) dL_law_267 (nI_p i 2) (by omega) ?_
  refine g_callV (rm' := rmd 7) [.int (xs (i + 1)), .int (xs (i + 2))] dL_law_268 kw_560 kv_X7_object (ob_Rl ob_6 (by decide)) (by decide) rfl rfl ⟨Nat.le_of_ble_eq_true rfl, Nat.le_of_ble_eq_true rfl⟩ ⟨Nat.le_of_ble_eq_true rfl, hks⟩ (Nat.le_of_ble_eq_true rfl) (s_X7_object hz hI hE (by omega)) (fun v z1 h1 => ?_)
  obtain ⟨rfl, N1, rfl, h7⟩ := h1
  refine g_aload_n dL_law_271 rfl ?_
  refine g_aload_n dL_law_272 rfl ?_
  refine g_iload_n dL_law_273 rfl ?_
  refine g_iconst (v := nI 1) dL_law_274 (by decide) ?_
  refine g_iadd dL_law_275 ?_
  refine g_sld (i := i + 1) dL_law_276 (nI_p i 1) (by omega) ?_
  refine g_aload_n dL_law_277 rfl ?_
  refine g_iload_n dL_law_278 rfl ?_
  refine g_iconst (v := nI 2) dL_law_279 (by decide) ?_
  refine g_iadd dL_law_280 ?_
  refine g_sld (i := i + 2) dL_law_281 (nI_p i 2) (by omega) ?_
  refine g_eq (x' := zx w N1 2 (N1 2)) (mx_0 w N1 2) ?_
  refine g_callV (rm' := rmd 10) [.int (xs (i + 1)), .int (xs (i + 2))] dL_law_282 kw_564 kv_X8_object (ob_Rl ob_7 (by decide)) (by decide) rfl rfl ⟨Nat.le_of_ble_eq_true rfl, Nat.le_of_ble_eq_true rfl⟩ ⟨Nat.le_of_ble_eq_true rfl, hks⟩ (Nat.le_of_ble_eq_true rfl) (s_X8_object hz (RefI_C4 h7.2 hR) hE (by omega)) (fun v z2 h2 => ?_)
  obtain ⟨rfl, ρ, rfl, h8⟩ := h2
  refine g_icmp_eq (tgt := 664) dL_law_285 (by decide) (fun _ => ?_) (fun q => absurd rfl q)
  exact kk (up1 N1 2 ρ) (LI_E (by decide) h7 h8 hE hl)
theorem law_c4 (hz : Zv z) (hi : i + 4 ≤ L) (hq : q ≤ 100) (hks : ks ≤ 7302250) (h : LI z q N) (kk : ∀ N' : Mem, LI z (q + 1) N' → AG l w b L xs yL_law cL_law 4 ret room_1 TL 664 [some (.ref b), some (.ref (ad w 2 6 0)), some (.ref (ad w 2 7 0)), some (.int (nI i))] [] (mx w N') 158 ks) : AG l w b L xs yL_law cL_law 4 ret room_1 TL 290 [some (.ref b), some (.ref (ad w 2 6 0)), some (.ref (ad w 2 7 0)), some (.int (nI i))] [] (mx w N) 158 ks := by
  obtain ⟨E, F, hI, hR, hE, hl⟩ := h
  refine g_aload_n dL_law_290 rfl ?_
  refine g_aload_n dL_law_291 rfl ?_
  refine g_iload_n dL_law_292 rfl ?_
  refine g_iconst (v := nI 1) dL_law_293 (by decide) ?_
  refine g_iadd dL_law_294 ?_
  refine g_sld (i := i + 1) dL_law_295 (nI_p i 1) (by omega) ?_
  refine g_callV (rm' := rmd 7) [.int (xs (i + 1))] dL_law_296 kw_568 kv_X7_close (ob_Rl ob_6 (by decide)) (by decide) rfl rfl ⟨Nat.le_of_ble_eq_true rfl, Nat.le_of_ble_eq_true rfl⟩ ⟨Nat.le_of_ble_eq_true rfl, hks⟩ (Nat.le_of_ble_eq_true rfl) (s_X7_close hz hI hE (by omega)) (fun v z1 h1 => ?_)
  obtain ⟨rfl, N1, rfl, h7⟩ := h1
  refine g_aload_n dL_law_299 rfl ?_
  refine g_aload_n dL_law_300 rfl ?_
  refine g_iload_n dL_law_301 rfl ?_
  refine g_iconst (v := nI 1) dL_law_302 (by decide) ?_
  refine g_iadd dL_law_303 ?_
  refine g_sld (i := i + 1) dL_law_304 (nI_p i 1) (by omega) ?_
  refine g_eq (x' := zx w N1 2 (N1 2)) (mx_0 w N1 2) ?_
  refine g_callV (rm' := rmd 10) [.int (xs (i + 1))] dL_law_305 kw_577 kv_X8_close (ob_Rl ob_7 (by decide)) (by decide) rfl rfl ⟨Nat.le_of_ble_eq_true rfl, Nat.le_of_ble_eq_true rfl⟩ ⟨Nat.le_of_ble_eq_true rfl, hks⟩ (Nat.le_of_ble_eq_true rfl) (s_X8_close hz (RefI_C4 h7.2 hR) hE (by omega)) (fun v z2 h2 => ?_)
  obtain ⟨rfl, ρ, rfl, h8⟩ := h2
  refine g_icmp_eq (tgt := 664) dL_law_308 (by decide) (fun _ => ?_) (fun q => absurd rfl q)
  exact kk (up1 N1 2 ρ) (LI_E (by decide) h7 h8 hE hl)
theorem law_c5 (hz : Zv z) (hi : i + 4 ≤ L) (hq : q ≤ 100) (hks : ks ≤ 7302250) (h : LI z q N) (kk : ∀ N' : Mem, LI z (q + 1) N' → AG l w b L xs yL_law cL_law 4 ret room_1 TL 664 [some (.ref b), some (.ref (ad w 2 6 0)), some (.ref (ad w 2 7 0)), some (.int (nI i))] [] (mx w N') 158 ks) : AG l w b L xs yL_law cL_law 4 ret room_1 TL 313 [some (.ref b), some (.ref (ad w 2 6 0)), some (.ref (ad w 2 7 0)), some (.int (nI i))] [] (mx w N) 158 ks := by
  obtain ⟨E, F, hI, hR, hE, hl⟩ := h
  refine g_aload_n dL_law_313 rfl ?_
  refine g_aload_n dL_law_314 rfl ?_
  refine g_iload_n dL_law_315 rfl ?_
  refine g_iconst (v := nI 1) dL_law_316 (by decide) ?_
  refine g_iadd dL_law_317 ?_
  refine g_sld (i := i + 1) dL_law_318 (nI_p i 1) (by omega) ?_
  refine g_callV (rm' := rmd 7) [.int (xs (i + 1))] dL_law_319 kw_581 kv_X7_enqueue (ob_Rl ob_6 (by decide)) (by decide) rfl rfl ⟨Nat.le_of_ble_eq_true rfl, Nat.le_of_ble_eq_true rfl⟩ ⟨Nat.le_of_ble_eq_true rfl, hks⟩ (Nat.le_of_ble_eq_true rfl) (s_X7_enqueue hz hI hE (by omega)) (fun v z1 h1 => ?_)
  obtain ⟨rfl, N1, rfl, h7⟩ := h1
  refine g_aload_n dL_law_322 rfl ?_
  refine g_aload_n dL_law_323 rfl ?_
  refine g_iload_n dL_law_324 rfl ?_
  refine g_iconst (v := nI 1) dL_law_325 (by decide) ?_
  refine g_iadd dL_law_326 ?_
  refine g_sld (i := i + 1) dL_law_327 (nI_p i 1) (by omega) ?_
  refine g_eq (x' := zx w N1 2 (N1 2)) (mx_0 w N1 2) ?_
  refine g_callV (rm' := rmd 10) [.int (xs (i + 1))] dL_law_328 kw_605 kv_X8_enqueue (ob_Rl ob_7 (by decide)) (by decide) rfl rfl ⟨Nat.le_of_ble_eq_true rfl, Nat.le_of_ble_eq_true rfl⟩ ⟨Nat.le_of_ble_eq_true rfl, hks⟩ (Nat.le_of_ble_eq_true rfl) (s_X8_enqueue hz (RefI_C4 h7.2 hR) hE (by omega)) (fun v z2 h2 => ?_)
  obtain ⟨rfl, ρ, rfl, h8⟩ := h2
  refine g_icmp_eq (tgt := 664) dL_law_331 (by decide) (fun _ => ?_) (fun q => absurd rfl q)
  exact kk (up1 N1 2 ρ) (LI_E (by decide) h7 h8 hE hl)
theorem law_c6 (hz : Zv z) (hi : i + 4 ≤ L) (hq : q ≤ 100) (hks : ks ≤ 7302250) (h : LI z q N) (kk : ∀ N' : Mem, LI z (q + 1) N' → AG l w b L xs yL_law cL_law 4 ret room_1 TL 664 [some (.ref b), some (.ref (ad w 2 6 0)), some (.ref (ad w 2 7 0)), some (.int (nI i))] [] (mx w N') 158 ks) : AG l w b L xs yL_law cL_law 4 ret room_1 TL 336 [some (.ref b), some (.ref (ad w 2 6 0)), some (.ref (ad w 2 7 0)), some (.int (nI i))] [] (mx w N) 158 ks := by
  obtain ⟨E, F, hI, hR, hE, hl⟩ := h
  refine g_aload_n dL_law_336 rfl ?_
  refine g_aload_n dL_law_337 rfl ?_
  refine g_iload_n dL_law_338 rfl ?_
  refine g_iconst (v := nI 1) dL_law_339 (by decide) ?_
  refine g_iadd dL_law_340 ?_
  refine g_sld (i := i + 1) dL_law_341 (nI_p i 1) (by omega) ?_
  refine g_callV (rm' := rmd 7) [.int (xs (i + 1))] dL_law_342 kw_609 kv_X7_rebase (ob_Rl ob_6 (by decide)) (by decide) rfl rfl ⟨Nat.le_of_ble_eq_true rfl, Nat.le_of_ble_eq_true rfl⟩ ⟨Nat.le_of_ble_eq_true rfl, hks⟩ (Nat.le_of_ble_eq_true rfl) (s_X7_rebase hz hI hE (by omega)) (fun v z1 h1 => ?_)
  obtain ⟨rfl, N1, rfl, h7⟩ := h1
  refine g_aload_n dL_law_345 rfl ?_
  refine g_aload_n dL_law_346 rfl ?_
  refine g_iload_n dL_law_347 rfl ?_
  refine g_iconst (v := nI 1) dL_law_348 (by decide) ?_
  refine g_iadd dL_law_349 ?_
  refine g_sld (i := i + 1) dL_law_350 (nI_p i 1) (by omega) ?_
  refine g_eq (x' := zx w N1 2 (N1 2)) (mx_0 w N1 2) ?_
  refine g_callV (rm' := rmd 10) [.int (xs (i + 1))] dL_law_351 kw_618 kv_X8_rebase (ob_Rl ob_7 (by decide)) (by decide) rfl rfl ⟨Nat.le_of_ble_eq_true rfl, Nat.le_of_ble_eq_true rfl⟩ ⟨Nat.le_of_ble_eq_true rfl, hks⟩ (Nat.le_of_ble_eq_true rfl) (s_X8_rebase hz (RefI_C4 h7.2 hR) hE (by omega)) (fun v z2 h2 => ?_)
  obtain ⟨rfl, ρ, rfl, h8⟩ := h2
  refine g_icmp_eq (tgt := 664) dL_law_354 (by decide) (fun _ => ?_) (fun q => absurd rfl q)
  exact kk (up1 N1 2 ρ) (LI_E (by decide) h7 h8 hE hl)
theorem law_c7 (hz : Zv z) (hi : i + 4 ≤ L) (hq : q ≤ 100) (hks : ks ≤ 7302250) (h : LI z q N) (kk : ∀ N' : Mem, LI z (q + 1) N' → AG l w b L xs yL_law cL_law 4 ret room_1 TL 664 [some (.ref b), some (.ref (ad w 2 6 0)), some (.ref (ad w 2 7 0)), some (.int (nI i))] [] (mx w N') 158 ks) : AG l w b L xs yL_law cL_law 4 ret room_1 TL 359 [some (.ref b), some (.ref (ad w 2 6 0)), some (.ref (ad w 2 7 0)), some (.int (nI i))] [] (mx w N) 158 ks := by
  obtain ⟨E, F, hI, hR, hE, hl⟩ := h
  refine g_aload_n dL_law_359 rfl ?_
  refine g_aload_n dL_law_360 rfl ?_
  refine g_iload_n dL_law_361 rfl ?_
  refine g_iconst (v := nI 1) dL_law_362 (by decide) ?_
  refine g_iadd dL_law_363 ?_
  refine g_sld (i := i + 1) dL_law_364 (nI_p i 1) (by omega) ?_
  refine g_callV (rm' := rmd 7) [.int (xs (i + 1))] dL_law_365 kw_622 kv_X7_claim (ob_Rl ob_6 (by decide)) (by decide) rfl rfl ⟨Nat.le_of_ble_eq_true rfl, Nat.le_of_ble_eq_true rfl⟩ ⟨Nat.le_of_ble_eq_true rfl, hks⟩ (Nat.le_of_ble_eq_true rfl) (s_X7_claim hz hI hE (by omega)) (fun v z1 h1 => ?_)
  obtain ⟨rfl, N1, rfl, h7⟩ := h1
  refine g_aload_n dL_law_368 rfl ?_
  refine g_aload_n dL_law_369 rfl ?_
  refine g_iload_n dL_law_370 rfl ?_
  refine g_iconst (v := nI 1) dL_law_371 (by decide) ?_
  refine g_iadd dL_law_372 ?_
  refine g_sld (i := i + 1) dL_law_373 (nI_p i 1) (by omega) ?_
  refine g_eq (x' := zx w N1 2 (N1 2)) (mx_0 w N1 2) ?_
  refine g_callV (rm' := rmd 10) [.int (xs (i + 1))] dL_law_374 kw_630 kv_X8_claim (ob_Rl ob_7 (by decide)) (by decide) rfl rfl ⟨Nat.le_of_ble_eq_true rfl, Nat.le_of_ble_eq_true rfl⟩ ⟨Nat.le_of_ble_eq_true rfl, hks⟩ (Nat.le_of_ble_eq_true rfl) (s_X8_claim hz (RefI_C4 h7.2 hR) hE (by omega)) (fun v z2 h2 => ?_)
  obtain ⟨rfl, ρ, rfl, h8⟩ := h2
  refine g_icmp_eq (tgt := 664) dL_law_377 (by decide) (fun _ => ?_) (fun q => absurd rfl q)
  exact kk (up1 N1 2 ρ) (LI_E (by decide) h7 h8 hE hl)
theorem law_c8 (hz : Zv z) (hi : i + 4 ≤ L) (hq : q ≤ 100) (hks : ks ≤ 7302250) (h : LI z q N) (kk : ∀ N' : Mem, LI z (q + 1) N' → AG l w b L xs yL_law cL_law 4 ret room_1 TL 664 [some (.ref b), some (.ref (ad w 2 6 0)), some (.ref (ad w 2 7 0)), some (.int (nI i))] [] (mx w N') 158 ks) : AG l w b L xs yL_law cL_law 4 ret room_1 TL 382 [some (.ref b), some (.ref (ad w 2 6 0)), some (.ref (ad w 2 7 0)), some (.int (nI i))] [] (mx w N) 158 ks := by
  obtain ⟨E, F, hI, hR, hE, hl⟩ := h
  refine g_aload_n dL_law_382 rfl ?_
  refine g_aload_n dL_law_383 rfl ?_
  refine g_iload_n dL_law_384 rfl ?_
  refine g_iconst (v := nI 1) dL_law_385 (by decide) ?_
  refine g_iadd dL_law_386 ?_
  refine g_sld (i := i + 1) dL_law_387 (nI_p i 1) (by omega) ?_
  refine g_aload_n dL_law_388 rfl ?_
  refine g_iload_n dL_law_389 rfl ?_
  refine g_iconst (v := nI 2) dL_law_390 (by decide) ?_
  refine g_iadd dL_law_391 ?_
  refine g_sld (i := i + 2) dL_law_392 (nI_p i 2) (by omega) ?_
  refine g_if_eq (tgt := 400) dL_law_393 (by decide) (fun hc => ?_) (fun hc => ?_)
  · refine g_iconst (v := 0) dL_law_400 (by decide) ?_
    refine g_callV (rm' := rmd 7) [.int (xs (i + 1)), .int 0] dL_law_401 kw_634 kv_X7_report (ob_Rl ob_6 (by decide)) (by decide) rfl rfl ⟨Nat.le_of_ble_eq_true rfl, Nat.le_of_ble_eq_true rfl⟩ ⟨Nat.le_of_ble_eq_true rfl, hks⟩ (Nat.le_of_ble_eq_true rfl) (s_X7_report_f hz hI hE (by omega)) (fun v z1 h1 => ?_)
    obtain ⟨rfl, N1, rfl, h7⟩ := h1
    refine g_aload_n dL_law_404 rfl ?_
    refine g_aload_n dL_law_405 rfl ?_
    refine g_iload_n dL_law_406 rfl ?_
    refine g_iconst (v := nI 1) dL_law_407 (by decide) ?_
    refine g_iadd dL_law_408 ?_
    refine g_sld (i := i + 1) dL_law_409 (nI_p i 1) (by omega) ?_
    refine g_aload_n dL_law_410 rfl ?_
    refine g_iload_n dL_law_411 rfl ?_
    refine g_iconst (v := nI 2) dL_law_412 (by decide) ?_
    refine g_iadd dL_law_413 ?_
    refine g_sld (i := i + 2) dL_law_414 (nI_p i 2) (by omega) ?_
    refine g_if_eq (tgt := 422) dL_law_415 (by decide) (fun _ => ?_) (fun q => absurd hc q)
    refine g_iconst (v := 0) dL_law_422 (by decide) ?_
    refine g_eq (x' := zx w N1 2 (N1 2)) (mx_0 w N1 2) ?_
    refine g_callV (rm' := rmd 10) [.int (xs (i + 1)), .int 0] dL_law_423 kw_640 kv_X8_report (ob_Rl ob_7 (by decide)) (by decide) rfl rfl ⟨Nat.le_of_ble_eq_true rfl, Nat.le_of_ble_eq_true rfl⟩ ⟨Nat.le_of_ble_eq_true rfl, hks⟩ (Nat.le_of_ble_eq_true rfl) (s_X8_report_f hz (RefI_C4 h7.2 hR) hE (by omega)) (fun v z2 h2 => ?_)
    obtain ⟨rfl, ρ, rfl, h8⟩ := h2
    refine g_icmp_eq (tgt := 664) dL_law_426 (by decide) (fun _ => ?_) (fun q => absurd rfl q)
    exact kk (up1 N1 2 ρ) (LI_E (by decide) h7 h8 hE hl)
  · refine g_iconst (v := 1) dL_law_396 (by decide) ?_
    refine g_goto (tgt := 401) dL_law_397 (by decide) ?_
    refine g_callV (rm' := rmd 7) [.int (xs (i + 1)), .int 1] dL_law_401 kw_634 kv_X7_report (ob_Rl ob_6 (by decide)) (by decide) rfl rfl ⟨Nat.le_of_ble_eq_true rfl, Nat.le_of_ble_eq_true rfl⟩ ⟨Nat.le_of_ble_eq_true rfl, hks⟩ (Nat.le_of_ble_eq_true rfl) (s_X7_report_t hz hI hE (by omega)) (fun v z1 h1 => ?_)
    obtain ⟨rfl, N1, rfl, h7⟩ := h1
    refine g_aload_n dL_law_404 rfl ?_
    refine g_aload_n dL_law_405 rfl ?_
    refine g_iload_n dL_law_406 rfl ?_
    refine g_iconst (v := nI 1) dL_law_407 (by decide) ?_
    refine g_iadd dL_law_408 ?_
    refine g_sld (i := i + 1) dL_law_409 (nI_p i 1) (by omega) ?_
    refine g_aload_n dL_law_410 rfl ?_
    refine g_iload_n dL_law_411 rfl ?_
    refine g_iconst (v := nI 2) dL_law_412 (by decide) ?_
    refine g_iadd dL_law_413 ?_
    refine g_sld (i := i + 2) dL_law_414 (nI_p i 2) (by omega) ?_
    refine g_if_eq (tgt := 422) dL_law_415 (by decide) (fun q => absurd q hc) (fun _ => ?_)
    refine g_iconst (v := 1) dL_law_418 (by decide) ?_
    refine g_goto (tgt := 423) dL_law_419 (by decide) ?_
    refine g_eq (x' := zx w N1 2 (N1 2)) (mx_0 w N1 2) ?_
    refine g_callV (rm' := rmd 10) [.int (xs (i + 1)), .int 1] dL_law_423 kw_640 kv_X8_report (ob_Rl ob_7 (by decide)) (by decide) rfl rfl ⟨Nat.le_of_ble_eq_true rfl, Nat.le_of_ble_eq_true rfl⟩ ⟨Nat.le_of_ble_eq_true rfl, hks⟩ (Nat.le_of_ble_eq_true rfl) (s_X8_report_t hz (RefI_C4 h7.2 hR) hE (by omega)) (fun v z2 h2 => ?_)
    obtain ⟨rfl, ρ, rfl, h8⟩ := h2
    refine g_icmp_eq (tgt := 664) dL_law_426 (by decide) (fun _ => ?_) (fun q => absurd rfl q)
    exact kk (up1 N1 2 ρ) (LI_E (by decide) h7 h8 hE hl)
theorem law_c9 (hz : Zv z) (hi : i + 4 ≤ L) (hq : q ≤ 100) (hks : ks ≤ 7302250) (h : LI z q N) (kk : ∀ N' : Mem, LI z (q + 1) N' → AG l w b L xs yL_law cL_law 4 ret room_1 TL 664 [some (.ref b), some (.ref (ad w 2 6 0)), some (.ref (ad w 2 7 0)), some (.int (nI i))] [] (mx w N') 158 ks) : AG l w b L xs yL_law cL_law 4 ret room_1 TL 431 [some (.ref b), some (.ref (ad w 2 6 0)), some (.ref (ad w 2 7 0)), some (.int (nI i))] [] (mx w N) 158 ks := by
  obtain ⟨E, F, hI, hR, hE, hl⟩ := h
  refine g_aload_n dL_law_431 rfl ?_
  refine g_aload_n dL_law_432 rfl ?_
  refine g_iload_n dL_law_433 rfl ?_
  refine g_iconst (v := nI 1) dL_law_434 (by decide) ?_
  refine g_iadd dL_law_435 ?_
  refine g_sld (i := i + 1) dL_law_436 (nI_p i 1) (by omega) ?_
  refine g_callV (rm' := rmd 7) [.int (xs (i + 1))] dL_law_437 kw_644 kv_X7_tick (ob_Rl ob_6 (by decide)) (by decide) rfl rfl ⟨Nat.le_of_ble_eq_true rfl, Nat.le_of_ble_eq_true rfl⟩ ⟨Nat.le_of_ble_eq_true rfl, hks⟩ (Nat.le_of_ble_eq_true rfl) (s_X7_tick hz hI hE (by omega)) (fun v z1 h1 => ?_)
  obtain ⟨rfl, N1, rfl, h7⟩ := h1
  refine g_aload_n dL_law_440 rfl ?_
  refine g_aload_n dL_law_441 rfl ?_
  refine g_iload_n dL_law_442 rfl ?_
  refine g_iconst (v := nI 1) dL_law_443 (by decide) ?_
  refine g_iadd dL_law_444 ?_
  refine g_sld (i := i + 1) dL_law_445 (nI_p i 1) (by omega) ?_
  refine g_eq (x' := zx w N1 2 (N1 2)) (mx_0 w N1 2) ?_
  refine g_callV (rm' := rmd 10) [.int (xs (i + 1))] dL_law_446 kw_648 kv_X8_tick (ob_Rl ob_7 (by decide)) (by decide) rfl rfl ⟨Nat.le_of_ble_eq_true rfl, Nat.le_of_ble_eq_true rfl⟩ ⟨Nat.le_of_ble_eq_true rfl, hks⟩ (Nat.le_of_ble_eq_true rfl) (s_X8_tick hz (RefI_C4 h7.2 hR) hE (by omega)) (fun v z2 h2 => ?_)
  obtain ⟨rfl, ρ, rfl, h8⟩ := h2
  refine g_icmp_eq (tgt := 664) dL_law_449 (by decide) (fun _ => ?_) (fun q => absurd rfl q)
  exact kk (up1 N1 2 ρ) (LI_E (by decide) h7 h8 hE hl)
theorem law_c10 (hz : Zv z) (hi : i + 4 ≤ L) (hq : q ≤ 100) (hks : ks ≤ 7302250) (h : LI z q N) (kk : ∀ N' : Mem, LI z (q + 1) N' → AG l w b L xs yL_law cL_law 4 ret room_1 TL 664 [some (.ref b), some (.ref (ad w 2 6 0)), some (.ref (ad w 2 7 0)), some (.int (nI i))] [] (mx w N') 158 ks) : AG l w b L xs yL_law cL_law 4 ret room_1 TL 454 [some (.ref b), some (.ref (ad w 2 6 0)), some (.ref (ad w 2 7 0)), some (.int (nI i))] [] (mx w N) 158 ks := by
  obtain ⟨E, F, hI, hR, hE, hl⟩ := h
  refine g_aload_n dL_law_454 rfl ?_
  refine g_callV (rm' := rmd 5) [] dL_law_455 kw_652 kv_X7_flush (ob_Rl ob_6 (by decide)) (by decide) rfl rfl ⟨Nat.le_of_ble_eq_true rfl, Nat.le_of_ble_eq_true rfl⟩ ⟨Nat.le_of_ble_eq_true rfl, hks⟩ (Nat.le_of_ble_eq_true rfl) (s_X7_flush hI) (fun v z1 h1 => ?_)
  obtain ⟨rfl, N1, rfl, h7⟩ := h1
  refine g_aload_n dL_law_458 rfl ?_
  refine g_eq (x' := zx w N1 2 (N1 2)) (mx_0 w N1 2) ?_
  refine g_callV (rm' := rmd 1) [] dL_law_459 kw_656 kv_X8_flush (ob_Rl ob_7 (by decide)) (by decide) rfl rfl ⟨Nat.le_of_ble_eq_true rfl, Nat.le_of_ble_eq_true rfl⟩ ⟨Nat.le_of_ble_eq_true rfl, hks⟩ (Nat.le_of_ble_eq_true rfl) (s_X8_flush (RefI_C4 h7.2 hR)) (fun v z2 h2 => ?_)
  obtain ⟨rfl, ρ, rfl, h8⟩ := h2
  refine g_icmp_eq (tgt := 664) dL_law_462 (by decide) (fun _ => ?_) (fun q => absurd rfl q)
  exact kk (up1 N1 2 ρ) (LI_of h7.1 h8 hE (Nat.le_succ_of_le hl))
theorem law_c11 (hz : Zv z) (hi : i + 4 ≤ L) (hq : q ≤ 100) (hks : ks ≤ 7302250) (h : LI z q N) (kk : ∀ N' : Mem, LI z (q + 1) N' → AG l w b L xs yL_law cL_law 4 ret room_1 TL 664 [some (.ref b), some (.ref (ad w 2 6 0)), some (.ref (ad w 2 7 0)), some (.int (nI i))] [] (mx w N') 158 ks) : AG l w b L xs yL_law cL_law 4 ret room_1 TL 467 [some (.ref b), some (.ref (ad w 2 6 0)), some (.ref (ad w 2 7 0)), some (.int (nI i))] [] (mx w N) 158 ks := by
  obtain ⟨E, F, hI, hR, hE, hl⟩ := h
  refine g_aload_n dL_law_467 rfl ?_
  refine g_aload_n dL_law_468 rfl ?_
  refine g_iload_n dL_law_469 rfl ?_
  refine g_iconst (v := nI 1) dL_law_470 (by decide) ?_
  refine g_iadd dL_law_471 ?_
  refine g_sld (i := i + 1) dL_law_472 (nI_p i 1) (by omega) ?_
  refine g_callV (rm' := rmd 7) [.int (xs (i + 1))] dL_law_473 kw_660 kv_X7_crash (ob_Rl ob_6 (by decide)) (by decide) rfl rfl ⟨Nat.le_of_ble_eq_true rfl, Nat.le_of_ble_eq_true rfl⟩ ⟨Nat.le_of_ble_eq_true rfl, hks⟩ (Nat.le_of_ble_eq_true rfl) (s_X7_crash hz hI hE (by omega)) (fun v z1 h1 => ?_)
  obtain ⟨rfl, N1, rfl, h7⟩ := h1
  refine g_aload_n dL_law_476 rfl ?_
  refine g_aload_n dL_law_477 rfl ?_
  refine g_iload_n dL_law_478 rfl ?_
  refine g_iconst (v := nI 1) dL_law_479 (by decide) ?_
  refine g_iadd dL_law_480 ?_
  refine g_sld (i := i + 1) dL_law_481 (nI_p i 1) (by omega) ?_
  refine g_eq (x' := zx w N1 2 (N1 2)) (mx_0 w N1 2) ?_
  refine g_callV (rm' := rmd 9) [.int (xs (i + 1))] dL_law_482 kw_668 kv_X8_crash (ob_Rl ob_7 (by decide)) (by decide) rfl rfl ⟨Nat.le_of_ble_eq_true rfl, Nat.le_of_ble_eq_true rfl⟩ ⟨Nat.le_of_ble_eq_true rfl, hks⟩ (Nat.le_of_ble_eq_true rfl) (s_X8_crash hz (RefI_C4 h7.2 hR) hE (by omega)) (fun v z2 h2 => ?_)
  obtain ⟨rfl, ρ, rfl, h8⟩ := h2
  refine g_icmp_eq (tgt := 664) dL_law_485 (by decide) (fun _ => ?_) (fun q => absurd rfl q)
  exact kk (up1 N1 2 ρ) (LI_crash h7 h8 hE hl)
theorem law_c12 (hz : Zv z) (hi : i + 4 ≤ L) (hq : q ≤ 100) (hks : ks ≤ 7302250) (h : LI z q N) (kk : ∀ N' : Mem, LI z (q + 1) N' → AG l w b L xs yL_law cL_law 4 ret room_1 TL 664 [some (.ref b), some (.ref (ad w 2 6 0)), some (.ref (ad w 2 7 0)), some (.int (nI i))] [] (mx w N') 158 ks) : AG l w b L xs yL_law cL_law 4 ret room_1 TL 490 [some (.ref b), some (.ref (ad w 2 6 0)), some (.ref (ad w 2 7 0)), some (.int (nI i))] [] (mx w N) 158 ks := by
  obtain ⟨E, F, hI, hR, hE, hl⟩ := h
  refine g_aload_n dL_law_490 rfl ?_
  refine g_aload_n dL_law_491 rfl ?_
  refine g_iload_n dL_law_492 rfl ?_
  refine g_iconst (v := nI 1) dL_law_493 (by decide) ?_
  refine g_iadd dL_law_494 ?_
  refine g_sld (i := i + 1) dL_law_495 (nI_p i 1) (by omega) ?_
  refine g_callV (rm' := rmd 2) [.int (xs (i + 1))] dL_law_496 kw_672 kv_X7_state (ob_Rl ob_6 (by decide)) (by decide) rfl rfl ⟨Nat.le_of_ble_eq_true rfl, Nat.le_of_ble_eq_true rfl⟩ ⟨Nat.le_of_ble_eq_true rfl, hks⟩ (Nat.le_of_ble_eq_true rfl) (s_X7_state hz hI hE (by omega)) (fun v z1 h1 => ?_)
  obtain ⟨rfl, N1, rfl, h7⟩ := h1
  refine g_aload_n dL_law_499 rfl ?_
  refine g_aload_n dL_law_500 rfl ?_
  refine g_iload_n dL_law_501 rfl ?_
  refine g_iconst (v := nI 1) dL_law_502 (by decide) ?_
  refine g_iadd dL_law_503 ?_
  refine g_sld (i := i + 1) dL_law_504 (nI_p i 1) (by omega) ?_
  refine g_eq (x' := zx w N1 2 (N1 2)) (mx_0 w N1 2) ?_
  refine g_callV (rm' := rmd 2) [.int (xs (i + 1))] dL_law_505 kw_679 kv_X8_state (ob_Rl ob_7 (by decide)) (by decide) rfl rfl ⟨Nat.le_of_ble_eq_true rfl, Nat.le_of_ble_eq_true rfl⟩ ⟨Nat.le_of_ble_eq_true rfl, hks⟩ (Nat.le_of_ble_eq_true rfl) (s_X8_state hz (RefI_C4 h7.2 hR) hE (by omega)) (fun v z2 h2 => ?_)
  obtain ⟨rfl, ρ, rfl, h8⟩ := h2
  refine g_icmp_eq (tgt := 664) dL_law_508 (by decide) (fun _ => ?_) (fun q => absurd rfl q)
  exact kk (up1 N1 2 ρ) (LI_Q h7 h8 hE hl)
theorem law_c13 (hz : Zv z) (hi : i + 4 ≤ L) (hq : q ≤ 100) (hks : ks ≤ 7302250) (h : LI z q N) (kk : ∀ N' : Mem, LI z (q + 1) N' → AG l w b L xs yL_law cL_law 4 ret room_1 TL 664 [some (.ref b), some (.ref (ad w 2 6 0)), some (.ref (ad w 2 7 0)), some (.int (nI i))] [] (mx w N') 158 ks) : AG l w b L xs yL_law cL_law 4 ret room_1 TL 513 [some (.ref b), some (.ref (ad w 2 6 0)), some (.ref (ad w 2 7 0)), some (.int (nI i))] [] (mx w N) 158 ks := by
  obtain ⟨E, F, hI, hR, hE, hl⟩ := h
  refine g_aload_n dL_law_513 rfl ?_
  refine g_aload_n dL_law_514 rfl ?_
  refine g_iload_n dL_law_515 rfl ?_
  refine g_iconst (v := nI 1) dL_law_516 (by decide) ?_
  refine g_iadd dL_law_517 ?_
  refine g_sld (i := i + 1) dL_law_518 (nI_p i 1) (by omega) ?_
  refine g_callV (rm' := rmd 2) [.int (xs (i + 1))] dL_law_519 kw_683 kv_X7_cause (ob_Rl ob_6 (by decide)) (by decide) rfl rfl ⟨Nat.le_of_ble_eq_true rfl, Nat.le_of_ble_eq_true rfl⟩ ⟨Nat.le_of_ble_eq_true rfl, hks⟩ (Nat.le_of_ble_eq_true rfl) (s_X7_cause hz hI hE (by omega)) (fun v z1 h1 => ?_)
  obtain ⟨rfl, N1, rfl, h7⟩ := h1
  refine g_aload_n dL_law_522 rfl ?_
  refine g_aload_n dL_law_523 rfl ?_
  refine g_iload_n dL_law_524 rfl ?_
  refine g_iconst (v := nI 1) dL_law_525 (by decide) ?_
  refine g_iadd dL_law_526 ?_
  refine g_sld (i := i + 1) dL_law_527 (nI_p i 1) (by omega) ?_
  refine g_eq (x' := zx w N1 2 (N1 2)) (mx_0 w N1 2) ?_
  refine g_callV (rm' := rmd 2) [.int (xs (i + 1))] dL_law_528 kw_688 kv_X8_cause (ob_Rl ob_7 (by decide)) (by decide) rfl rfl ⟨Nat.le_of_ble_eq_true rfl, Nat.le_of_ble_eq_true rfl⟩ ⟨Nat.le_of_ble_eq_true rfl, hks⟩ (Nat.le_of_ble_eq_true rfl) (s_X8_cause hz (RefI_C4 h7.2 hR) hE (by omega)) (fun v z2 h2 => ?_)
  obtain ⟨rfl, ρ, rfl, h8⟩ := h2
  refine g_icmp_eq (tgt := 664) dL_law_531 (by decide) (fun _ => ?_) (fun q => absurd rfl q)
  exact kk (up1 N1 2 ρ) (LI_Q h7 h8 hE hl)
theorem law_c14 (hz : Zv z) (hi : i + 4 ≤ L) (hq : q ≤ 100) (hks : ks ≤ 7302250) (h : LI z q N) (kk : ∀ N' : Mem, LI z (q + 1) N' → AG l w b L xs yL_law cL_law 4 ret room_1 TL 664 [some (.ref b), some (.ref (ad w 2 6 0)), some (.ref (ad w 2 7 0)), some (.int (nI i))] [] (mx w N') 158 ks) : AG l w b L xs yL_law cL_law 4 ret room_1 TL 536 [some (.ref b), some (.ref (ad w 2 6 0)), some (.ref (ad w 2 7 0)), some (.int (nI i))] [] (mx w N) 158 ks := by
  obtain ⟨E, F, hI, hR, hE, hl⟩ := h
  refine g_aload_n dL_law_536 rfl ?_
  refine g_aload_n dL_law_537 rfl ?_
  refine g_iload_n dL_law_538 rfl ?_
  refine g_iconst (v := nI 1) dL_law_539 (by decide) ?_
  refine g_iadd dL_law_540 ?_
  refine g_sld (i := i + 1) dL_law_541 (nI_p i 1) (by omega) ?_
  refine g_callV (rm' := rmd 3) [.int (xs (i + 1))] dL_law_542 kw_692 kv_X7_standing (ob_Rl ob_6 (by decide)) (by decide) rfl rfl ⟨Nat.le_of_ble_eq_true rfl, Nat.le_of_ble_eq_true rfl⟩ ⟨Nat.le_of_ble_eq_true rfl, hks⟩ (Nat.le_of_ble_eq_true rfl) (s_X7_standing hz hI hE (by omega)) (fun v z1 h1 => ?_)
  obtain ⟨rfl, N1, rfl, h7⟩ := h1
  refine g_aload_n dL_law_545 rfl ?_
  refine g_aload_n dL_law_546 rfl ?_
  refine g_iload_n dL_law_547 rfl ?_
  refine g_iconst (v := nI 1) dL_law_548 (by decide) ?_
  refine g_iadd dL_law_549 ?_
  refine g_sld (i := i + 1) dL_law_550 (nI_p i 1) (by omega) ?_
  refine g_eq (x' := zx w N1 2 (N1 2)) (mx_0 w N1 2) ?_
  refine g_callV (rm' := rmd 2) [.int (xs (i + 1))] dL_law_551 kw_698 kv_X8_standing (ob_Rl ob_7 (by decide)) (by decide) rfl rfl ⟨Nat.le_of_ble_eq_true rfl, Nat.le_of_ble_eq_true rfl⟩ ⟨Nat.le_of_ble_eq_true rfl, hks⟩ (Nat.le_of_ble_eq_true rfl) (s_X8_standing hz (RefI_C4 h7.2 hR) hE (by omega)) (fun v z2 h2 => ?_)
  obtain ⟨rfl, ρ, rfl, h8⟩ := h2
  refine g_icmp_eq (tgt := 664) dL_law_554 (by decide) (fun _ => ?_) (fun q => absurd rfl q)
  exact kk (up1 N1 2 ρ) (LI_Q h7 h8 hE hl)
theorem law_c15 (hz : Zv z) (hi : i + 4 ≤ L) (hq : q ≤ 100) (hks : ks ≤ 7302250) (h : LI z q N) (kk : ∀ N' : Mem, LI z (q + 1) N' → AG l w b L xs yL_law cL_law 4 ret room_1 TL 664 [some (.ref b), some (.ref (ad w 2 6 0)), some (.ref (ad w 2 7 0)), some (.int (nI i))] [] (mx w N') 158 ks) : AG l w b L xs yL_law cL_law 4 ret room_1 TL 559 [some (.ref b), some (.ref (ad w 2 6 0)), some (.ref (ad w 2 7 0)), some (.int (nI i))] [] (mx w N) 158 ks := by
  obtain ⟨E, F, hI, hR, hE, hl⟩ := h
  refine g_aload_n dL_law_559 rfl ?_
  refine g_aload_n dL_law_560 rfl ?_
  refine g_iload_n dL_law_561 rfl ?_
  refine g_iconst (v := nI 1) dL_law_562 (by decide) ?_
  refine g_iadd dL_law_563 ?_
  refine g_sld (i := i + 1) dL_law_564 (nI_p i 1) (by omega) ?_
  refine g_aload_n dL_law_565 rfl ?_
  refine g_iload_n dL_law_566 rfl ?_
  refine g_iconst (v := nI 2) dL_law_567 (by decide) ?_
  refine g_iadd dL_law_568 ?_
  refine g_sld (i := i + 2) dL_law_569 (nI_p i 2) (by omega) ?_
  refine g_callV (rm' := rmd 2) [.int (xs (i + 1)), .int (xs (i + 2))] dL_law_570 kw_702 kv_X7_file (ob_Rl ob_6 (by decide)) (by decide) rfl rfl ⟨Nat.le_of_ble_eq_true rfl, Nat.le_of_ble_eq_true rfl⟩ ⟨Nat.le_of_ble_eq_true rfl, hks⟩ (Nat.le_of_ble_eq_true rfl) (s_X7_file hz hI hE (by omega)) (fun v z1 h1 => ?_)
  obtain ⟨rfl, N1, rfl, h7⟩ := h1
  refine g_aload_n dL_law_573 rfl ?_
  refine g_aload_n dL_law_574 rfl ?_
  refine g_iload_n dL_law_575 rfl ?_
  refine g_iconst (v := nI 1) dL_law_576 (by decide) ?_
  refine g_iadd dL_law_577 ?_
  refine g_sld (i := i + 1) dL_law_578 (nI_p i 1) (by omega) ?_
  refine g_aload_n dL_law_579 rfl ?_
  refine g_iload_n dL_law_580 rfl ?_
  refine g_iconst (v := nI 2) dL_law_581 (by decide) ?_
  refine g_iadd dL_law_582 ?_
  refine g_sld (i := i + 2) dL_law_583 (nI_p i 2) (by omega) ?_
  refine g_eq (x' := zx w N1 2 (N1 2)) (mx_0 w N1 2) ?_
  refine g_callV (rm' := rmd 3) [.int (xs (i + 1)), .int (xs (i + 2))] dL_law_584 kw_710 kv_X8_file (ob_Rl ob_7 (by decide)) (by decide) rfl rfl ⟨Nat.le_of_ble_eq_true rfl, Nat.le_of_ble_eq_true rfl⟩ ⟨Nat.le_of_ble_eq_true rfl, hks⟩ (Nat.le_of_ble_eq_true rfl) (s_X8_file hz (RefI_C4 h7.2 hR) hE (by omega)) (fun v z2 h2 => ?_)
  obtain ⟨rfl, ρ, rfl, h8⟩ := h2
  refine g_icmp_eq (tgt := 664) dL_law_587 (by decide) (fun _ => ?_) (fun q => absurd rfl q)
  exact kk (up1 N1 2 ρ) (LI_Q h7 h8 hE hl)
theorem law_c16 (hz : Zv z) (hi : i + 4 ≤ L) (hq : q ≤ 100) (hks : ks ≤ 7302250) (h : LI z q N) (kk : ∀ N' : Mem, LI z (q + 1) N' → AG l w b L xs yL_law cL_law 4 ret room_1 TL 664 [some (.ref b), some (.ref (ad w 2 6 0)), some (.ref (ad w 2 7 0)), some (.int (nI i))] [] (mx w N') 158 ks) : AG l w b L xs yL_law cL_law 4 ret room_1 TL 592 [some (.ref b), some (.ref (ad w 2 6 0)), some (.ref (ad w 2 7 0)), some (.int (nI i))] [] (mx w N) 158 ks := by
  obtain ⟨E, F, hI, hR, hE, hl⟩ := h
  refine g_aload_n dL_law_592 rfl ?_
  refine g_aload_n dL_law_593 rfl ?_
  refine g_iload_n dL_law_594 rfl ?_
  refine g_iconst (v := nI 1) dL_law_595 (by decide) ?_
  refine g_iadd dL_law_596 ?_
  refine g_sld (i := i + 1) dL_law_597 (nI_p i 1) (by omega) ?_
  refine g_callV (rm' := rmd 2) [.int (xs (i + 1))] dL_law_598 kw_714 kv_X7_queueAt (ob_Rl ob_6 (by decide)) (by decide) rfl rfl ⟨Nat.le_of_ble_eq_true rfl, Nat.le_of_ble_eq_true rfl⟩ ⟨Nat.le_of_ble_eq_true rfl, hks⟩ (Nat.le_of_ble_eq_true rfl) (s_X7_queueAt hz hI hE (by omega)) (fun v z1 h1 => ?_)
  obtain ⟨rfl, N1, rfl, h7⟩ := h1
  refine g_aload_n dL_law_601 rfl ?_
  refine g_aload_n dL_law_602 rfl ?_
  refine g_iload_n dL_law_603 rfl ?_
  refine g_iconst (v := nI 1) dL_law_604 (by decide) ?_
  refine g_iadd dL_law_605 ?_
  refine g_sld (i := i + 1) dL_law_606 (nI_p i 1) (by omega) ?_
  refine g_eq (x' := zx w N1 2 (N1 2)) (mx_0 w N1 2) ?_
  refine g_callV (rm' := rmd 1) [.int (xs (i + 1))] dL_law_607 kw_720 kv_X8_queueAt (ob_Rl ob_7 (by decide)) (by decide) rfl rfl ⟨Nat.le_of_ble_eq_true rfl, Nat.le_of_ble_eq_true rfl⟩ ⟨Nat.le_of_ble_eq_true rfl, hks⟩ (Nat.le_of_ble_eq_true rfl) (s_X8_queueAt hz (RefI_C4 h7.2 hR) hE (by omega)) (fun v z2 h2 => ?_)
  obtain ⟨rfl, ρ, rfl, h8⟩ := h2
  refine g_icmp_eq (tgt := 664) dL_law_610 (by decide) (fun _ => ?_) (fun q => absurd rfl q)
  exact kk (up1 N1 2 ρ) (LI_Q h7 h8 hE hl)
theorem law_c17 (hz : Zv z) (hi : i + 4 ≤ L) (hq : q ≤ 100) (hks : ks ≤ 7302250) (h : LI z q N) (kk : ∀ N' : Mem, LI z (q + 1) N' → AG l w b L xs yL_law cL_law 4 ret room_1 TL 664 [some (.ref b), some (.ref (ad w 2 6 0)), some (.ref (ad w 2 7 0)), some (.int (nI i))] [] (mx w N') 158 ks) : AG l w b L xs yL_law cL_law 4 ret room_1 TL 615 [some (.ref b), some (.ref (ad w 2 6 0)), some (.ref (ad w 2 7 0)), some (.int (nI i))] [] (mx w N) 158 ks := by
  obtain ⟨E, F, hI, hR, hE, hl⟩ := h
  refine g_aload_n dL_law_615 rfl ?_
  refine g_callV (rm' := rmd 1) [] dL_law_616 kw_724 kv_X7_batch (ob_Rl ob_6 (by decide)) (by decide) rfl rfl ⟨Nat.le_of_ble_eq_true rfl, Nat.le_of_ble_eq_true rfl⟩ ⟨Nat.le_of_ble_eq_true rfl, hks⟩ (Nat.le_of_ble_eq_true rfl) (s_X7_batch hz hI hE (by omega)) (fun v z1 h1 => ?_)
  obtain ⟨rfl, N1, rfl, h7⟩ := h1
  refine g_aload_n dL_law_619 rfl ?_
  refine g_eq (x' := zx w N1 2 (N1 2)) (mx_0 w N1 2) ?_
  refine g_callV (rm' := rmd 1) [] dL_law_620 kw_729 kv_X8_batch (ob_Rl ob_7 (by decide)) (by decide) rfl rfl ⟨Nat.le_of_ble_eq_true rfl, Nat.le_of_ble_eq_true rfl⟩ ⟨Nat.le_of_ble_eq_true rfl, hks⟩ (Nat.le_of_ble_eq_true rfl) (s_X8_batch hz (RefI_C4 h7.2 hR) hE (by omega)) (fun v z2 h2 => ?_)
  obtain ⟨rfl, ρ, rfl, h8⟩ := h2
  refine g_icmp_eq (tgt := 664) dL_law_623 (by decide) (fun _ => ?_) (fun q => absurd rfl q)
  exact kk (up1 N1 2 ρ) (LI_Q h7 h8 hE hl)
theorem law_c18 (hz : Zv z) (hi : i + 4 ≤ L) (hq : q ≤ 100) (hks : ks ≤ 7302250) (h : LI z q N) (kk : ∀ N' : Mem, LI z (q + 1) N' → AG l w b L xs yL_law cL_law 4 ret room_1 TL 664 [some (.ref b), some (.ref (ad w 2 6 0)), some (.ref (ad w 2 7 0)), some (.int (nI i))] [] (mx w N') 158 ks) : AG l w b L xs yL_law cL_law 4 ret room_1 TL 628 [some (.ref b), some (.ref (ad w 2 6 0)), some (.ref (ad w 2 7 0)), some (.int (nI i))] [] (mx w N) 158 ks := by
  obtain ⟨E, F, hI, hR, hE, hl⟩ := h
  refine g_aload_n dL_law_628 rfl ?_
  refine g_aload_n dL_law_629 rfl ?_
  refine g_iload_n dL_law_630 rfl ?_
  refine g_iconst (v := nI 1) dL_law_631 (by decide) ?_
  refine g_iadd dL_law_632 ?_
  refine g_sld (i := i + 1) dL_law_633 (nI_p i 1) (by omega) ?_
  refine g_callV (rm' := rmd 1) [.int (xs (i + 1))] dL_law_634 kw_733 kv_X7_job (ob_Rl ob_6 (by decide)) (by decide) rfl rfl ⟨Nat.le_of_ble_eq_true rfl, Nat.le_of_ble_eq_true rfl⟩ ⟨Nat.le_of_ble_eq_true rfl, hks⟩ (Nat.le_of_ble_eq_true rfl) (s_X7_job hz hI hE (by omega)) (fun v z1 h1 => ?_)
  obtain ⟨rfl, N1, rfl, h7⟩ := h1
  refine g_aload_n dL_law_637 rfl ?_
  refine g_aload_n dL_law_638 rfl ?_
  refine g_iload_n dL_law_639 rfl ?_
  refine g_iconst (v := nI 1) dL_law_640 (by decide) ?_
  refine g_iadd dL_law_641 ?_
  refine g_sld (i := i + 1) dL_law_642 (nI_p i 1) (by omega) ?_
  refine g_eq (x' := zx w N1 2 (N1 2)) (mx_0 w N1 2) ?_
  refine g_callV (rm' := rmd 1) [.int (xs (i + 1))] dL_law_643 kw_738 kv_X8_job (ob_Rl ob_7 (by decide)) (by decide) rfl rfl ⟨Nat.le_of_ble_eq_true rfl, Nat.le_of_ble_eq_true rfl⟩ ⟨Nat.le_of_ble_eq_true rfl, hks⟩ (Nat.le_of_ble_eq_true rfl) (s_X8_job hz (RefI_C4 h7.2 hR) hE (by omega)) (fun v z2 h2 => ?_)
  obtain ⟨rfl, ρ, rfl, h8⟩ := h2
  refine g_icmp_eq (tgt := 664) dL_law_646 (by decide) (fun _ => ?_) (fun q => absurd rfl q)
  exact kk (up1 N1 2 ρ) (LI_Q h7 h8 hE hl)
theorem law_c19 (hz : Zv z) (hi : i + 4 ≤ L) (hq : q ≤ 100) (hks : ks ≤ 7302250) (h : LI z q N) (kk : ∀ N' : Mem, LI z (q + 1) N' → AG l w b L xs yL_law cL_law 4 ret room_1 TL 664 [some (.ref b), some (.ref (ad w 2 6 0)), some (.ref (ad w 2 7 0)), some (.int (nI i))] [] (mx w N') 158 ks) : AG l w b L xs yL_law cL_law 4 ret room_1 TL 651 [some (.ref b), some (.ref (ad w 2 6 0)), some (.ref (ad w 2 7 0)), some (.int (nI i))] [] (mx w N) 158 ks := by
  obtain ⟨E, F, hI, hR, hE, hl⟩ := h
  refine g_aload_n dL_law_651 rfl ?_
  refine g_callV (rm' := rmd 1) [] dL_law_652 kw_742 kv_X7_version (ob_Rl ob_6 (by decide)) (by decide) rfl rfl ⟨Nat.le_of_ble_eq_true rfl, Nat.le_of_ble_eq_true rfl⟩ ⟨Nat.le_of_ble_eq_true rfl, hks⟩ (Nat.le_of_ble_eq_true rfl) (s_X7_version hz hI hE (by omega)) (fun v z1 h1 => ?_)
  obtain ⟨rfl, N1, rfl, h7⟩ := h1
  refine g_aload_n dL_law_655 rfl ?_
  refine g_eq (x' := zx w N1 2 (N1 2)) (mx_0 w N1 2) ?_
  refine g_callV (rm' := rmd 1) [] dL_law_656 kw_747 kv_X8_version (ob_Rl ob_7 (by decide)) (by decide) rfl rfl ⟨Nat.le_of_ble_eq_true rfl, Nat.le_of_ble_eq_true rfl⟩ ⟨Nat.le_of_ble_eq_true rfl, hks⟩ (Nat.le_of_ble_eq_true rfl) (s_X8_version hz (RefI_C4 h7.2 hR) hE (by omega)) (fun v z2 h2 => ?_)
  obtain ⟨rfl, ρ, rfl, h8⟩ := h2
  refine g_icmp_eq (tgt := 664) dL_law_659 (by decide) (fun _ => ?_) (fun q => absurd rfl q)
  exact kk (up1 N1 2 ρ) (LI_Q h7 h8 hE hl)
end AR
