/-! the law: cases feed, end, fault, cell (written by lawcase.py) -/
section LC
variable {Γ : GT} {σ : AH} {b x i N Ln C E : Nat} {f : Nat → Int} {R : Nat → Nat} {s : LSt} {Q : Option Value → AH → Prop}
theorem la_0 (hΓ : Gd Γ) (hro : RO Γ b Ln f) (hfr : ∀ j, rg (f j)) (hi : i + 6 ≤ Ln) (hLn : Ln ≤ 3072) (hN : N < 600) (hI : LI σ x N R s) (kk : ∀ σ' R' s', LI σ' x (N + 1) R' s' → G Γ miL_law code Q noX (C + dC R' RM) (E + dS R' RM) 3063 [some (.ref b), some (.ref x), some (.ref (x + 54)), some (.ref (x + 88)), some (.int (ii (i : Int))), none, none] [] σ') : G Γ miL_law code Q noX (C + 8 + dC R RM) (E + 48 + dS R RM) 228 [some (.ref b), some (.ref x), some (.ref (x + 54)), some (.ref (x + 88)), some (.int (ii (i : Int))), none, none] [] σ := by
  obtain ⟨len, tx, fa, z, l, wl, wr⟩ := s
  obtain ⟨hX, ⟨e0, hM⟩, g, ho⟩ := hI
  have hX : CX σ x (x + 89) N R len tx fa z l wl wr := hX
  have hM : MX σ (x + 54) e0 len tx fa z l wl wr := hM
  obtain ⟨av, ve, hx, -, -⟩ := hX.ob
  obtain ⟨hl1, hl2, h302⟩ := hX.low
  refine g_aload_n q_L_law_228 rfl ?_
  refine g_aload_n q_L_law_229 rfl ?_
  refine g_iload q_L_law_230 rfl ?_
  refine g_iconst q_L_law_232 ?_
  refine g_iadd q_L_law_233 ?_
  refine g_topi (b := ((i + 1 : Nat) : Int)) (by omega) ?_
  refine g_iaload_ro q_L_law_234 hro (by omega) (by omega) (by omega) ?_
  refine g_topi (b := f (i + 1)) (by rw [Int.toNat_natCast]) ?_
  refine g_aload_n q_L_law_235 rfl ?_
  refine g_iload q_L_law_236 rfl ?_
  refine g_iconst q_L_law_238 ?_
  refine g_iadd q_L_law_239 ?_
  refine g_topi (b := ((i + 2 : Nat) : Int)) (by omega) ?_
  refine g_iaload_ro q_L_law_240 hro (by omega) (by omega) (by omega) ?_
  refine g_topi (b := f (i + 2)) (by rw [Int.toNat_natCast]) ?_
  refine g_aload_n q_L_law_241 rfl ?_
  refine g_iload q_L_law_242 rfl ?_
  refine g_iconst q_L_law_244 ?_
  refine g_iadd q_L_law_245 ?_
  refine g_topi (b := ((i + 3 : Nat) : Int)) (by omega) ?_
  refine g_iaload_ro q_L_law_246 hro (by omega) (by omega) (by omega) ?_
  refine g_topi (b := f (i + 3)) (by rw [Int.toNat_natCast]) ?_
  refine g_aload_n q_L_law_247 rfl ?_
  refine g_iload q_L_law_248 rfl ?_
  refine g_iconst q_L_law_250 ?_
  refine g_iadd q_L_law_251 ?_
  refine g_topi (b := ((i + 4 : Nat) : Int)) (by omega) ?_
  refine g_iaload_ro q_L_law_252 hro (by omega) (by omega) (by omega) ?_
  refine g_topi (b := f (i + 4)) (by rw [Int.toNat_natCast]) ?_
  refine g_aload_n q_L_law_253 rfl ?_
  refine g_iload q_L_law_254 rfl ?_
  refine g_iconst q_L_law_256 ?_
  refine g_iadd q_L_law_257 ?_
  refine g_topi (b := ((i + 5 : Nat) : Int)) (by omega) ?_
  refine g_iaload_ro q_L_law_258 hro (by omega) (by omega) (by omega) ?_
  refine g_topi (b := f (i + 5)) (by rw [Int.toNat_natCast]) ?_
  refine g_callV (rc' := (C + dC R RM)) (rs' := (E + dS R RM)) (As := [_, _, _, _, _]) cs_L_138 q_L_law_259 (sp_feed hΓ (by omega) hX (f (i + 1)) (f (i + 2)) (f (i + 3)) (f (i + 4)) (f (i + 5))) rfl (by repeat first | with_reducible assumption | with_reducible exact hput_s _ _ _ | refine (hput_n _ _ (by omega)).trans ?_ | exact hput_s _ _ _ | assumption) rfl rfl rfl rfl (Nat.le_of_ble_eq_true rfl) (by decide) rmZ rmZ (fun _ _ h => h.elim) (fun v σ1 hq => ?_)
  obtain ⟨-, rfl, hC1, hE1⟩ := hq
  have hM1 := hM.kp (σ' := σ1) (fun a ha => by unfold inb at ha; exact hE1.2 a (by omega) (by unfold fX inb; omega))
  have ho1 : σ1.2 (x + 88) = some (al 1 g) := (hE1.2 (x + 88) (by omega) (by unfold fX inb; omega)).trans ho
  have hm1 := hM1
  obtain ⟨I8, A8, N8, -, hMC8, -⟩ := hm1
  have m80 := hMC8.1
  refine g_aload_n q_L_law_262 rfl ?_
  refine g_aload_n q_L_law_263 rfl ?_
  refine g_iload q_L_law_264 rfl ?_
  refine g_iconst q_L_law_266 ?_
  refine g_iadd q_L_law_267 ?_
  refine g_topi (b := ((i + 1 : Nat) : Int)) (by omega) ?_
  refine g_iaload_ro q_L_law_268 hro (by omega) (by omega) (by omega) ?_
  refine g_topi (b := f (i + 1)) (by rw [Int.toNat_natCast]) ?_
  refine g_aload_n q_L_law_269 rfl ?_
  refine g_iload q_L_law_270 rfl ?_
  refine g_iconst q_L_law_272 ?_
  refine g_iadd q_L_law_273 ?_
  refine g_topi (b := ((i + 2 : Nat) : Int)) (by omega) ?_
  refine g_iaload_ro q_L_law_274 hro (by omega) (by omega) (by omega) ?_
  refine g_topi (b := f (i + 2)) (by rw [Int.toNat_natCast]) ?_
  refine g_aload_n q_L_law_275 rfl ?_
  refine g_iload q_L_law_276 rfl ?_
  refine g_iconst q_L_law_278 ?_
  refine g_iadd q_L_law_279 ?_
  refine g_topi (b := ((i + 3 : Nat) : Int)) (by omega) ?_
  refine g_iaload_ro q_L_law_280 hro (by omega) (by omega) (by omega) ?_
  refine g_topi (b := f (i + 3)) (by rw [Int.toNat_natCast]) ?_
  refine g_aload_n q_L_law_281 rfl ?_
  refine g_iload q_L_law_282 rfl ?_
  refine g_iconst q_L_law_284 ?_
  refine g_iadd q_L_law_285 ?_
  refine g_topi (b := ((i + 4 : Nat) : Int)) (by omega) ?_
  refine g_iaload_ro q_L_law_286 hro (by omega) (by omega) (by omega) ?_
  refine g_topi (b := f (i + 4)) (by rw [Int.toNat_natCast]) ?_
  refine g_aload_n q_L_law_287 rfl ?_
  refine g_iload q_L_law_288 rfl ?_
  refine g_iconst q_L_law_290 ?_
  refine g_iadd q_L_law_291 ?_
  refine g_topi (b := ((i + 5 : Nat) : Int)) (by omega) ?_
  refine g_iaload_ro q_L_law_292 hro (by omega) (by omega) (by omega) ?_
  refine g_topi (b := f (i + 5)) (by rw [Int.toNat_natCast]) ?_
  refine g_callV (rc' := _) (rs' := _) (As := [_, _, _, _, _]) cs_L_141 q_L_law_293 (sp_mfeed hΓ hM1 (f (i + 1)) (f (i + 2)) (f (i + 3)) (f (i + 4)) (f (i + 5))) rfl (by repeat first | with_reducible assumption | with_reducible exact hput_s _ _ _ | refine (hput_n _ _ (by omega)).trans ?_ | exact hput_s _ _ _ | assumption) rfl rfl rfl rfl (Nat.le_of_ble_eq_true rfl) (by decide) (Nat.le_refl _) (Nat.le_refl _) (fun _ _ h => h.elim) (fun v2 σ2 hq2 => ?_)
  obtain ⟨rfl, hM2, hE2⟩ := hq2
  obtain ⟨hLI, -⟩ := lw_B (s2 := (if 380 < len then len else len + 20, if 380 < len then tx else fdT tx len (f (i + 1)) (f (i + 2)) (f (i + 3)) (f (i + 4)) (f (i + 5)), fa, z, l, wl, wr)) (e := 0) hC1 ho1 hM2 hE2
  rw [if_pos rfl]
  refine g_icmp_eqS (tgt := 3063) q_L_law_296 (by decide) ?_
  exact g_fl (kk _ _ _ hLI) ⟨rfl, rfl, rfl, rfl, rfl, trivial⟩
theorem la_1 (hΓ : Gd Γ) (hro : RO Γ b Ln f) (hfr : ∀ j, rg (f j)) (hi : i + 6 ≤ Ln) (hLn : Ln ≤ 3072) (hN : N < 600) (hI : LI σ x N R s) (kk : ∀ σ' R' s', LI σ' x (N + 1) R' s' → G Γ miL_law code Q noX (C + dC R' RM) (E + dS R' RM) 3063 [some (.ref b), some (.ref x), some (.ref (x + 54)), some (.ref (x + 88)), some (.int (ii (i : Int))), none, none] [] σ') : G Γ miL_law code Q noX (C + 8 + dC R RM) (E + 48 + dS R RM) 301 [some (.ref b), some (.ref x), some (.ref (x + 54)), some (.ref (x + 88)), some (.int (ii (i : Int))), none, none] [] σ := by
  obtain ⟨len, tx, fa, z, l, wl, wr⟩ := s
  obtain ⟨hX, ⟨e0, hM⟩, g, ho⟩ := hI
  have hX : CX σ x (x + 89) N R len tx fa z l wl wr := hX
  have hM : MX σ (x + 54) e0 len tx fa z l wl wr := hM
  obtain ⟨av, ve, hx, -, -⟩ := hX.ob
  obtain ⟨hl1, hl2, h302⟩ := hX.low
  refine g_aload_n q_L_law_301 rfl ?_
  refine g_aload_n q_L_law_302 rfl ?_
  refine g_iload q_L_law_303 rfl ?_
  refine g_iconst q_L_law_305 ?_
  refine g_iadd q_L_law_306 ?_
  refine g_topi (b := ((i + 1 : Nat) : Int)) (by omega) ?_
  refine g_iaload_ro q_L_law_307 hro (by omega) (by omega) (by omega) ?_
  refine g_topi (b := f (i + 1)) (by rw [Int.toNat_natCast]) ?_
  refine g_callV (rc' := (C + dC R RM)) (rs' := (E + dS R RM)) (As := [_]) cs_L_142 q_L_law_308 (sp_end hΓ (by omega) hX (f (i + 1)) (hfr _)) rfl (by repeat first | with_reducible assumption | with_reducible exact hput_s _ _ _ | refine (hput_n _ _ (by omega)).trans ?_ | exact hput_s _ _ _ | assumption) rfl rfl rfl rfl (Nat.le_of_ble_eq_true rfl) (by decide) rmZ rmZ (fun _ _ h => h.elim) (fun v σ1 hq => ?_)
  obtain ⟨-, rfl, hC1, hE1⟩ := hq
  have hM1 := hM.kp (σ' := σ1) (fun a ha => by unfold inb at ha; exact hE1.2 a (by omega) (by unfold fX inb; omega))
  have ho1 : σ1.2 (x + 88) = some (al 1 g) := (hE1.2 (x + 88) (by omega) (by unfold fX inb; omega)).trans ho
  have hm1 := hM1
  obtain ⟨I8, A8, N8, -, hMC8, -⟩ := hm1
  have m80 := hMC8.1
  refine g_aload_n q_L_law_311 rfl ?_
  refine g_aload_n q_L_law_312 rfl ?_
  refine g_iload q_L_law_313 rfl ?_
  refine g_iconst q_L_law_315 ?_
  refine g_iadd q_L_law_316 ?_
  refine g_topi (b := ((i + 1 : Nat) : Int)) (by omega) ?_
  refine g_iaload_ro q_L_law_317 hro (by omega) (by omega) (by omega) ?_
  refine g_topi (b := f (i + 1)) (by rw [Int.toNat_natCast]) ?_
  refine g_callV (rc' := _) (rs' := _) (As := [_]) cs_L_146 q_L_law_318 (sp_mend hΓ hM1 (f (i + 1)) (hfr _)) rfl (by repeat first | with_reducible assumption | with_reducible exact hput_s _ _ _ | refine (hput_n _ _ (by omega)).trans ?_ | exact hput_s _ _ _ | assumption) rfl rfl rfl rfl (Nat.le_of_ble_eq_true rfl) (by decide) (Nat.le_refl _) (Nat.le_refl _) (fun _ _ h => h.elim) (fun v2 σ2 hq2 => ?_)
  obtain ⟨rfl, hM2, hE2⟩ := hq2
  obtain ⟨hLI, -⟩ := lw_B (s2 := (if 0 ≤ f (i + 1) ∧ f (i + 1) ≤ len then (f (i + 1)).toNat else len, tx, fa, z, l, wl, wr)) (e := 0) hC1 ho1 hM2 hE2
  rw [if_pos rfl]
  refine g_icmp_eqS (tgt := 3063) q_L_law_321 (by decide) ?_
  exact g_fl (kk _ _ _ hLI) ⟨rfl, rfl, rfl, rfl, rfl, trivial⟩
theorem la_3 (hΓ : Gd Γ) (hro : RO Γ b Ln f) (hfr : ∀ j, rg (f j)) (hi : i + 6 ≤ Ln) (hLn : Ln ≤ 3072) (hN : N < 600) (hI : LI σ x N R s) (kk : ∀ σ' R' s', LI σ' x (N + 1) R' s' → G Γ miL_law code Q noX (C + dC R' RM) (E + dS R' RM) 3063 [some (.ref b), some (.ref x), some (.ref (x + 54)), some (.ref (x + 88)), some (.int (ii (i : Int))), none, none] [] σ') : G Γ miL_law code Q noX (C + 8 + dC R RM) (E + 48 + dS R RM) 370 [some (.ref b), some (.ref x), some (.ref (x + 54)), some (.ref (x + 88)), some (.int (ii (i : Int))), none, none] [] σ := by
  obtain ⟨len, tx, fa, z, l, wl, wr⟩ := s
  obtain ⟨hX, ⟨e0, hM⟩, g, ho⟩ := hI
  have hX : CX σ x (x + 89) N R len tx fa z l wl wr := hX
  have hM : MX σ (x + 54) e0 len tx fa z l wl wr := hM
  obtain ⟨av, ve, hx, -, -⟩ := hX.ob
  obtain ⟨hl1, hl2, h302⟩ := hX.low
  refine g_aload_n q_L_law_370 rfl ?_
  refine g_callV (rc' := (C + dC R RM)) (rs' := (E + dS R RM)) (As := []) cs_L_156 q_L_law_371 (sp_fault hΓ (by omega) hX) rfl (by repeat first | with_reducible assumption | with_reducible exact hput_s _ _ _ | refine (hput_n _ _ (by omega)).trans ?_ | exact hput_s _ _ _ | assumption) rfl rfl rfl rfl (Nat.le_of_ble_eq_true rfl) (by decide) rmZ rmZ (fun _ _ h => h.elim) (fun v σ1 hq => ?_)
  obtain ⟨-, rfl, hC1, hE1⟩ := hq
  have hM1 := hM.kp (σ' := σ1) (fun a ha => by unfold inb at ha; exact hE1.2 a (by omega) (by unfold fX inb; omega))
  have ho1 : σ1.2 (x + 88) = some (al 1 g) := (hE1.2 (x + 88) (by omega) (by unfold fX inb; omega)).trans ho
  have hm1 := hM1
  obtain ⟨I8, A8, N8, -, hMC8, -⟩ := hm1
  have m80 := hMC8.1
  refine g_aload_n q_L_law_374 rfl ?_
  refine g_callV (rc' := _) (rs' := _) (As := []) cs_L_159 q_L_law_375 (sp_mfault hΓ hM1) rfl (by repeat first | with_reducible assumption | with_reducible exact hput_s _ _ _ | refine (hput_n _ _ (by omega)).trans ?_ | exact hput_s _ _ _ | assumption) rfl rfl rfl rfl (Nat.le_of_ble_eq_true rfl) (by decide) (Nat.le_refl _) (Nat.le_refl _) (fun _ _ h => h.elim) (fun v2 σ2 hq2 => ?_)
  obtain ⟨rfl, hM2, hE2⟩ := hq2
  obtain ⟨hLI, -⟩ := lw_B (s2 := (len, tx, fa, z, l, wl, wr)) (e := 0) hC1 ho1 hM2 hE2
  rw [if_pos rfl]
  refine g_icmp_eqS (tgt := 3063) q_L_law_378 (by decide) ?_
  exact g_fl (kk _ _ _ hLI) ⟨rfl, rfl, rfl, rfl, rfl, trivial⟩
theorem la_4 (hΓ : Gd Γ) (hro : RO Γ b Ln f) (hfr : ∀ j, rg (f j)) (hi : i + 6 ≤ Ln) (hLn : Ln ≤ 3072) (hN : N < 600) (hI : LI σ x N R s) (kk : ∀ σ' R' s', LI σ' x (N + 1) R' s' → G Γ miL_law code Q noX (C + dC R' RM) (E + dS R' RM) 3063 [some (.ref b), some (.ref x), some (.ref (x + 54)), some (.ref (x + 88)), some (.int (ii (i : Int))), none, none] [] σ') : G Γ miL_law code Q noX (C + 8 + dC R RM) (E + 48 + dS R RM) 383 [some (.ref b), some (.ref x), some (.ref (x + 54)), some (.ref (x + 88)), some (.int (ii (i : Int))), none, none] [] σ := by
  obtain ⟨len, tx, fa, z, l, wl, wr⟩ := s
  obtain ⟨hX, ⟨e0, hM⟩, g, ho⟩ := hI
  have hX : CX σ x (x + 89) N R len tx fa z l wl wr := hX
  have hM : MX σ (x + 54) e0 len tx fa z l wl wr := hM
  obtain ⟨av, ve, hx, -, -⟩ := hX.ob
  obtain ⟨hl1, hl2, h302⟩ := hX.low
  refine g_aload_n q_L_law_383 rfl ?_
  refine g_aload_n q_L_law_384 rfl ?_
  refine g_iload q_L_law_385 rfl ?_
  refine g_iconst q_L_law_387 ?_
  refine g_iadd q_L_law_388 ?_
  refine g_topi (b := ((i + 1 : Nat) : Int)) (by omega) ?_
  refine g_iaload_ro q_L_law_389 hro (by omega) (by omega) (by omega) ?_
  refine g_topi (b := f (i + 1)) (by rw [Int.toNat_natCast]) ?_
  refine g_aload_n q_L_law_390 rfl ?_
  refine g_iload q_L_law_391 rfl ?_
  refine g_iconst q_L_law_393 ?_
  refine g_iadd q_L_law_394 ?_
  refine g_topi (b := ((i + 2 : Nat) : Int)) (by omega) ?_
  refine g_iaload_ro q_L_law_395 hro (by omega) (by omega) (by omega) ?_
  refine g_topi (b := f (i + 2)) (by rw [Int.toNat_natCast]) ?_
  refine g_aload_n q_L_law_396 rfl ?_
  refine g_callSW (rc' := (C + dC R RM)) (rs' := (E + dS R RM)) (As := [_, _, _, _]) cs_L_160 q_L_law_397 (sp_L_cell hΓ hx (Sp_w (sp_cell hΓ (by omega) hX (f (i + 1)) (f (i + 2)) (hfr _) (hfr _))) (fun v σ' h => (h.2.2.2.2 (x + 88) (by omega) (by unfold fX inb; omega)).trans ho)) rfl rfl rfl (Nat.le_of_ble_eq_true rfl) (by decide) rmZ rmZ (fun v σ1 hq => ?_)
  obtain ⟨he4, rfl, hM1, ⟨g1, ho1, hg1⟩, hC0, hC1⟩ := lw_A (s := (len, tx, fa, z, l, wl, wr)) (s0 := (len, tx, fa, z, l, wl, wr)) (s1 := (len, tx, fa, z, l, wl, wr)) hX hM ho (fun σ' h => h) (fun σ' h => h) hq
  have hM1 : MX σ1 (x + 54) e0 len tx fa z l wl wr := hM1
  have hm1 := hM1
  obtain ⟨I8, A8, N8, -, hMC8, -⟩ := hm1
  have m80 := hMC8.1
  refine g_istore (L' := [_, _, _, _, _, _, _]) q_L_law_400 (by decide) rfl ?_
  refine g_aload_n q_L_law_402 rfl ?_
  refine g_aload_n q_L_law_403 rfl ?_
  refine g_iload q_L_law_404 rfl ?_
  refine g_iconst q_L_law_406 ?_
  refine g_iadd q_L_law_407 ?_
  refine g_topi (b := ((i + 1 : Nat) : Int)) (by omega) ?_
  refine g_iaload_ro q_L_law_408 hro (by omega) (by omega) (by omega) ?_
  refine g_topi (b := f (i + 1)) (by rw [Int.toNat_natCast]) ?_
  refine g_aload_n q_L_law_409 rfl ?_
  refine g_iload q_L_law_410 rfl ?_
  refine g_iconst q_L_law_412 ?_
  refine g_iadd q_L_law_413 ?_
  refine g_topi (b := ((i + 2 : Nat) : Int)) (by omega) ?_
  refine g_iaload_ro q_L_law_414 hro (by omega) (by omega) (by omega) ?_
  refine g_topi (b := f (i + 2)) (by rw [Int.toNat_natCast]) ?_
  refine g_callV (rc' := _) (rs' := _) (As := [_, _]) cs_L_163 q_L_law_415 (sp_mcell hΓ hM1 (f (i + 1)) (f (i + 2)) (hfr _) (hfr _)) rfl (by repeat first | with_reducible assumption | with_reducible exact hput_s _ _ _ | refine (hput_n _ _ (by omega)).trans ?_ | exact hput_s _ _ _ | assumption) rfl rfl rfl rfl (Nat.le_of_ble_eq_true rfl) (by decide) (Nat.le_refl _) (Nat.le_refl _) (fun _ _ h => h.elim) (fun v2 σ2 hq2 => ?_)
  obtain ⟨rfl, hM2, hE2⟩ := hq2
  obtain ⟨hLI, ho2⟩ := lw_B (s2 := (len, tx, fa, z, l, wl, wr)) ((Classical.em _).elim hC0 hC1) ho1 hM2 hE2
  obtain ⟨I9, A9, N9, i90, hMC9, -⟩ := hM2
  have m90 := hMC9.1
  refine g_istore (L' := [_, _, _, _, _, _, _]) q_L_law_418 (by decide) rfl ?_
  refine g_aload_n q_L_law_420 rfl ?_
  refine g_callV (rc' := _) (rs' := _) (As := []) cs_L_153 q_L_law_421 (sp_thrown hΓ m90) rfl (by repeat first | with_reducible assumption | with_reducible exact hput_s _ _ _ | refine (hput_n _ _ (by omega)).trans ?_ | exact hput_s _ _ _ | assumption) rfl rfl rfl rfl (Nat.le_of_ble_eq_true rfl) (by decide) (Nat.le_refl _) (Nat.le_refl _) (fun _ _ h => h.elim) (k_ri ?_)
  rw [i90]
  refine g_iload q_L_law_424 rfl ?_
  refine g_icmp_eqS (tgt := 431) q_L_law_426 (by decide) ?_
  refine g_iload q_L_law_431 rfl ?_
  refine g_if_ne (tgt := 448) q_L_law_433 (by decide) ⟨by omega, by omega⟩ (fun b8 => ?_) (fun b8 => ?_)
  · -- it threw
    refine g_goto (tgt := 3063) q_L_law_448 (by decide) ?_
    exact g_fl (kk _ _ _ hLI) ⟨rfl, rfl, rfl, rfl, rfl, trivial⟩
  refine g_aload_n q_L_law_436 rfl ?_
  refine g_iconst q_L_law_437 ?_
  refine g_laload q_L_law_438 (by repeat first | with_reducible assumption | with_reducible exact hput_s _ _ _ | refine (hput_n _ _ (by omega)).trans ?_ | exact hput_s _ _ _ | assumption) (by omega) (by omega) ?_
  rw [show g1 (0 : Int).toNat = g1 0 from rfl, hg1 (by omega), if_pos (by omega)]
  refine g_iload q_L_law_439 rfl ?_
  refine g_top (v' := .int (ii (cn _))) (congrArg Value.int (ii_cn _).symm) ?_
  refine g_i2l q_L_law_441 (cn_rg _) ?_
  refine g_lcmp q_L_law_442 ?_
  refine g_topi (b := 0) (lcm_self _) ?_
  refine g_if_eq (tgt := 448) q_L_law_443 (by decide) ⟨by omega, by omega⟩ (fun b7 => ?_) (fun b7 => ?_)
  case refine_2 => exact absurd rfl b7
  refine g_goto (tgt := 3063) q_L_law_448 (by decide) ?_
  exact g_fl (kk _ _ _ hLI) ⟨rfl, rfl, rfl, rfl, rfl, trivial⟩
end LC

