/-! the law: cases read, cart, name, tell, goal, change, undo (written by lawcase.py) -/
section LC
variable {Γ : GT} {σ : AH} {b x i N Ln C E : Nat} {f : Nat → Int} {R : Nat → Nat} {s : LSt} {Q : Option Value → AH → Prop}
theorem la_2 (hΓ : Gd Γ) (hro : RO Γ b Ln f) (hfr : ∀ j, rg (f j)) (hi : i + 6 ≤ Ln) (hLn : Ln ≤ 3072) (hN : N < 600) (hI : LI σ x N R s) (kk : ∀ σ' R' s', LI σ' x (N + 1) R' s' → G Γ miL_law code Q noX (C + dC R' RM) (E + dS R' RM) 3063 [some (.ref b), some (.ref x), some (.ref (x + 54)), some (.ref (x + 88)), some (.int (ii (i : Int))), none, none] [] σ') : G Γ miL_law code Q noX (C + 8 + dC R RM) (E + 48 + dS R RM) 326 [some (.ref b), some (.ref x), some (.ref (x + 54)), some (.ref (x + 88)), some (.int (ii (i : Int))), none, none] [] σ := by
  obtain ⟨len, tx, fa, z, l, wl, wr⟩ := s
  obtain ⟨hX, ⟨e0, hM⟩, g, ho⟩ := hI
  have hX : CX σ x (x + 89) N R len tx fa z l wl wr := hX
  have hM : MX σ (x + 54) e0 len tx fa z l wl wr := hM
  obtain ⟨av, ve, hx, -, -⟩ := hX.ob
  obtain ⟨hl1, hl2, h302⟩ := hX.low
  refine g_aload_n q_L_law_326 rfl ?_
  refine g_aload_n q_L_law_327 rfl ?_
  refine g_callSW (rc' := (C + dC R RM)) (rs' := (E + dS R RM)) (As := [_, _]) cs_L_147 q_L_law_328 (sp_L_read (QI := fun v σ' => ∃ PL GO LE NL, gbg PL GO LE NL ∧ prF tx len PL GO LE NL = -1 ∧ v = (zCa (prZ tx len PL GO LE NL) : Int) ∧ SX σ x (x + 89) (N + 1) R 0 tx (-1) (prZ tx len PL GO LE NL) [] wl wr σ') (XI := fun k σ' => k = 1 ∧ ∃ PL GO LE NL, gbg PL GO LE NL ∧ prF tx len PL GO LE NL ≠ -1 ∧ SX σ x (x + 89) (N + 1) R 0 tx (prF tx len PL GO LE NL) z l wl wr σ') hΓ hx (Sp_cons (sp_read hΓ (by omega) hX) (by rintro r σ' ⟨PL, GO, LE, NL, q1, q2, q3, q4⟩; exact ⟨_, q3, PL, GO, LE, NL, q1, q2, rfl, q4⟩) (by rintro Ex σ' ⟨PL, GO, LE, NL, q1, q2, q3, q4⟩; exact ⟨0, by rw [q3]; rfl, rfl, PL, GO, LE, NL, q1, q2, q4⟩)) (fun v σ' h => by obtain ⟨PL, GO, LE, NL, -, -, -, h⟩ := h; exact (h.2.2 (x + 88) (by omega) (by unfold fX inb; omega)).trans ho)) rfl rfl rfl (Nat.le_of_ble_eq_true rfl) (by decide) rmZ rmZ (fun v σ1 hq => ?_)
  rcases hq with ⟨v0, σ0, ⟨PL, GO, LE, NL, q1, q2, q3, q4⟩, rfl, rfl⟩ | ⟨kx, hkx, ⟨rfl, PL, GO, LE, NL, q1, q2, q4⟩, rfl⟩
  · have hM1 : MX (hput σ0 (x + 88) (al 1 (va_up g 0 (BitVec.ofInt 64 (cn v0))))) (x + 54) e0 len tx fa z l wl wr := hM.kp (fun a ha => by unfold inb at ha; rw [hput_n _ _ (by omega)]; exact q4.2.2 a (by omega) (by unfold fX inb; omega))
    have hC1 : CX (hput σ0 (x + 88) (al 1 (va_up g 0 (BitVec.ofInt 64 (cn v0))))) x (x + 89) (N + 1) R 0 tx (-1) (prZ tx len PL GO LE NL) [] wl wr := q4.1.kp (by rw [hput_1]; exact Nat.le_refl _) (fun a _ ha => hput_n _ _ (by unfold fX inb at ha; omega))
    have ho1 : (hput σ0 (x + 88) (al 1 (va_up g 0 (BitVec.ofInt 64 (cn v0))))).2 (x + 88) = some (al 1 (va_up g 0 (BitVec.ofInt 64 (cn v0)))) := hput_s _ _ _
    obtain ⟨g1, hg1e⟩ : ∃ g1, g1 = va_up g 0 (BitVec.ofInt 64 (cn v0)) := ⟨_, rfl⟩
    have hg1 : (0 : Nat) = 0 → g1 0 = BitVec.ofInt 64 (cn v0) := fun _ => by rw [hg1e, va_eq]
    rw [← hg1e] at hM1 hC1 ho1 ⊢
    obtain ⟨σ1, hσ1⟩ : ∃ σ1, σ1 = hput σ0 (x + 88) (al 1 g1) := ⟨_, rfl⟩
    rw [← hσ1] at hM1 hC1 ho1 ⊢
    have hm1 := hM1
    obtain ⟨I8, A8, N8, -, hMC8, -⟩ := hm1
    have m80 := hMC8.1
    refine g_istore (L' := [_, _, _, _, _, _, _]) q_L_law_331 (by decide) rfl ?_
    refine g_aload_n q_L_law_333 rfl ?_
    refine g_callV (rc' := _) (rs' := _) (As := []) cs_L_152 q_L_law_334 (sp_mread hΓ hM1 PL GO LE NL q1) rfl (by repeat first | with_reducible assumption | with_reducible exact hput_s _ _ _ | refine (hput_n _ _ (by omega)).trans ?_ | exact hput_s _ _ _ | assumption) rfl rfl rfl rfl (Nat.le_of_ble_eq_true rfl) (by decide) (Nat.le_refl _) (Nat.le_refl _) (fun _ _ h => h.elim) (fun v2 σ2 hq2 => ?_)
    rcases hq2 with ⟨-, rfl, hM2, hE2⟩ | ⟨w1, -⟩
    case inr => exact absurd q2 w1
    obtain ⟨hLI, ho2⟩ := lw_B (s2 := (0, tx, -1, prZ tx len PL GO LE NL, [], wl, wr)) hC1 ho1 hM2 hE2
    refine g_top (v' := .int (ii (if (0 : Nat) = 0 then v0 else 0))) (by rw [if_pos rfl, q3]) ?_
    have hM2 : MX σ2 (x + 54) ((0 : Nat) : Int) 0 tx (-1) (prZ tx len PL GO LE NL) [] wl wr := hM2
    obtain ⟨I9, A9, N9, i90, hMC9, -⟩ := hM2
    have m90 := hMC9.1
    refine g_istore (L' := [_, _, _, _, _, _, _]) q_L_law_337 (by decide) rfl ?_
    refine g_aload_n q_L_law_339 rfl ?_
    refine g_callV (rc' := _) (rs' := _) (As := []) cs_L_153 q_L_law_340 (sp_thrown hΓ m90) rfl (by repeat first | with_reducible assumption | with_reducible exact hput_s _ _ _ | refine (hput_n _ _ (by omega)).trans ?_ | exact hput_s _ _ _ | assumption) rfl rfl rfl rfl (Nat.le_of_ble_eq_true rfl) (by decide) (Nat.le_refl _) (Nat.le_refl _) (fun _ _ h => h.elim) (k_ri ?_)
    rw [i90]
    refine g_iload q_L_law_343 rfl ?_
    refine g_icmp_eqS (tgt := 350) q_L_law_345 (by decide) ?_
    refine g_iload q_L_law_350 rfl ?_
    refine g_if_ne (tgt := 367) q_L_law_352 (by decide) ⟨by omega, by omega⟩ (fun b8 => ?_) (fun b8 => ?_)
    · -- it threw
      refine g_goto (tgt := 3063) q_L_law_367 (by decide) ?_
      exact g_fl (kk _ _ _ hLI) ⟨rfl, rfl, rfl, rfl, rfl, trivial⟩
    refine g_aload_n q_L_law_355 rfl ?_
    refine g_iconst q_L_law_356 ?_
    refine g_laload q_L_law_357 (by repeat first | with_reducible assumption | with_reducible exact hput_s _ _ _ | refine (hput_n _ _ (by omega)).trans ?_ | exact hput_s _ _ _ | assumption) (by omega) (by omega) ?_
    rw [show g1 (0 : Int).toNat = g1 0 from rfl, hg1 (by omega), if_pos (by omega)]
    refine g_iload q_L_law_358 rfl ?_
    refine g_top (v' := .int (ii (cn _))) (congrArg Value.int (ii_cn _).symm) ?_
    refine g_i2l q_L_law_360 (cn_rg _) ?_
    refine g_lcmp q_L_law_361 ?_
    refine g_topi (b := 0) (lcm_self _) ?_
    refine g_if_eq (tgt := 367) q_L_law_362 (by decide) ⟨by omega, by omega⟩ (fun b7 => ?_) (fun b7 => ?_)
    case refine_2 => exact absurd rfl b7
    refine g_goto (tgt := 3063) q_L_law_367 (by decide) ?_
    exact g_fl (kk _ _ _ hLI) ⟨rfl, rfl, rfl, rfl, rfl, trivial⟩
  · have hM1 : MX σ1 (x + 54) e0 len tx fa z l wl wr := hM.kp (fun a ha => by unfold inb at ha; exact q4.2.2 a (by omega) (by unfold fX inb; omega))
    have ho1 : σ1.2 (x + 88) = some (al 1 g) := (q4.2.2 (x + 88) (by omega) (by unfold fX inb; omega)).trans ho
    have hm1 := hM1
    obtain ⟨I8, A8, N8, -, hMC8, -⟩ := hm1
    have m80 := hMC8.1
    refine g_istore (L' := [_, _, _, _, _, _, _]) q_L_law_331 (by decide) rfl ?_
    refine g_aload_n q_L_law_333 rfl ?_
    refine g_callV (rc' := _) (rs' := _) (As := []) cs_L_152 q_L_law_334 (sp_mread hΓ hM1 PL GO LE NL q1) rfl (by repeat first | with_reducible assumption | with_reducible exact hput_s _ _ _ | refine (hput_n _ _ (by omega)).trans ?_ | exact hput_s _ _ _ | assumption) rfl rfl rfl rfl (Nat.le_of_ble_eq_true rfl) (by decide) (Nat.le_refl _) (Nat.le_refl _) (fun _ _ h => h.elim) (fun v2 σ2 hq2 => ?_)
    rcases hq2 with ⟨w1, -⟩ | ⟨-, rfl, hM2, hE2⟩
    · exact absurd w1 q2
    obtain ⟨hLI, ho2⟩ := lw_B (s2 := (0, tx, prF tx len PL GO LE NL, z, l, wl, wr)) q4.1 ho1 hM2 hE2
    have hM2 : MX σ2 (x + 54) ((1 : Nat) : Int) 0 tx (prF tx len PL GO LE NL) z l wl wr := hM2
    obtain ⟨g1, hg1e⟩ : ∃ g1, g1 = g := ⟨_, rfl⟩
    have hg1 : (1 : Nat) = 0 → g1 0 = BitVec.ofInt 64 (cn 0) := fun q => absurd q (by decide)
    rw [← hg1e] at ho2
    refine g_top (v' := .int (ii (if (1 : Nat) = 0 then 0 else 0))) rfl ?_
    obtain ⟨I9, A9, N9, i90, hMC9, -⟩ := hM2
    have m90 := hMC9.1
    refine g_istore (L' := [_, _, _, _, _, _, _]) q_L_law_337 (by decide) rfl ?_
    refine g_aload_n q_L_law_339 rfl ?_
    refine g_callV (rc' := _) (rs' := _) (As := []) cs_L_153 q_L_law_340 (sp_thrown hΓ m90) rfl (by repeat first | with_reducible assumption | with_reducible exact hput_s _ _ _ | refine (hput_n _ _ (by omega)).trans ?_ | exact hput_s _ _ _ | assumption) rfl rfl rfl rfl (Nat.le_of_ble_eq_true rfl) (by decide) (Nat.le_refl _) (Nat.le_refl _) (fun _ _ h => h.elim) (k_ri ?_)
    rw [i90]
    refine g_iload q_L_law_343 rfl ?_
    refine g_icmp_eqS (tgt := 350) q_L_law_345 (by decide) ?_
    refine g_iload q_L_law_350 rfl ?_
    refine g_if_ne (tgt := 367) q_L_law_352 (by decide) ⟨by omega, by omega⟩ (fun b8 => ?_) (fun b8 => ?_)
    · -- it threw
      refine g_goto (tgt := 3063) q_L_law_367 (by decide) ?_
      exact g_fl (kk _ _ _ hLI) ⟨rfl, rfl, rfl, rfl, rfl, trivial⟩
    refine g_aload_n q_L_law_355 rfl ?_
    refine g_iconst q_L_law_356 ?_
    refine g_laload q_L_law_357 (by repeat first | with_reducible assumption | with_reducible exact hput_s _ _ _ | refine (hput_n _ _ (by omega)).trans ?_ | exact hput_s _ _ _ | assumption) (by omega) (by omega) ?_
    rw [show g1 (0 : Int).toNat = g1 0 from rfl, hg1 (by omega), if_pos (by omega)]
    refine g_iload q_L_law_358 rfl ?_
    refine g_top (v' := .int (ii (cn _))) (congrArg Value.int (ii_cn _).symm) ?_
    refine g_i2l q_L_law_360 (cn_rg _) ?_
    refine g_lcmp q_L_law_361 ?_
    refine g_topi (b := 0) (lcm_self _) ?_
    refine g_if_eq (tgt := 367) q_L_law_362 (by decide) ⟨by omega, by omega⟩ (fun b7 => ?_) (fun b7 => ?_)
    case refine_2 => exact absurd rfl b7
    refine g_goto (tgt := 3063) q_L_law_367 (by decide) ?_
    exact g_fl (kk _ _ _ hLI) ⟨rfl, rfl, rfl, rfl, rfl, trivial⟩
theorem la_5 (hΓ : Gd Γ) (hro : RO Γ b Ln f) (hfr : ∀ j, rg (f j)) (hi : i + 6 ≤ Ln) (hLn : Ln ≤ 3072) (hN : N < 600) (hI : LI σ x N R s) (kk : ∀ σ' R' s', LI σ' x (N + 1) R' s' → G Γ miL_law code Q noX (C + dC R' RM) (E + dS R' RM) 3063 [some (.ref b), some (.ref x), some (.ref (x + 54)), some (.ref (x + 88)), some (.int (ii (i : Int))), none, none] [] σ') : G Γ miL_law code Q noX (C + 8 + dC R RM) (E + 48 + dS R RM) 451 [some (.ref b), some (.ref x), some (.ref (x + 54)), some (.ref (x + 88)), some (.int (ii (i : Int))), none, none] [] σ := by
  obtain ⟨len, tx, fa, z, l, wl, wr⟩ := s
  obtain ⟨hX, ⟨e0, hM⟩, g, ho⟩ := hI
  have hX : CX σ x (x + 89) N R len tx fa z l wl wr := hX
  have hM : MX σ (x + 54) e0 len tx fa z l wl wr := hM
  obtain ⟨av, ve, hx, -, -⟩ := hX.ob
  obtain ⟨hl1, hl2, h302⟩ := hX.low
  refine g_aload_n q_L_law_451 rfl ?_
  refine g_aload_n q_L_law_452 rfl ?_
  refine g_iload q_L_law_453 rfl ?_
  refine g_iconst q_L_law_455 ?_
  refine g_iadd q_L_law_456 ?_
  refine g_topi (b := ((i + 1 : Nat) : Int)) (by omega) ?_
  refine g_iaload_ro q_L_law_457 hro (by omega) (by omega) (by omega) ?_
  refine g_topi (b := f (i + 1)) (by rw [Int.toNat_natCast]) ?_
  refine g_aload_n q_L_law_458 rfl ?_
  refine g_iload q_L_law_459 rfl ?_
  refine g_iconst q_L_law_461 ?_
  refine g_iadd q_L_law_462 ?_
  refine g_topi (b := ((i + 2 : Nat) : Int)) (by omega) ?_
  refine g_iaload_ro q_L_law_463 hro (by omega) (by omega) (by omega) ?_
  refine g_topi (b := f (i + 2)) (by rw [Int.toNat_natCast]) ?_
  refine g_aload_n q_L_law_464 rfl ?_
  refine g_callSW (rc' := (C + dC R RM)) (rs' := (E + dS R RM)) (As := [_, _, _, _]) cs_L_164 q_L_law_465 (sp_L_cart hΓ hx (Sp_w (sp_cart hΓ (by omega) hX (f (i + 1)) (f (i + 2)) (hfr _) (hfr _))) (fun v σ' h => (h.2.2.2.2 (x + 88) (by omega) (by unfold fX inb; omega)).trans ho)) rfl rfl rfl (Nat.le_of_ble_eq_true rfl) (by decide) rmZ rmZ (fun v σ1 hq => ?_)
  obtain ⟨he4, rfl, hM1, ⟨g1, ho1, hg1⟩, hC0, hC1⟩ := lw_A (s := (len, tx, fa, z, l, wl, wr)) (s0 := (len, tx, fa, z, l, wl, wr)) (s1 := (len, tx, fa, z, l, wl, wr)) hX hM ho (fun σ' h => h) (fun σ' h => h) hq
  have hM1 : MX σ1 (x + 54) e0 len tx fa z l wl wr := hM1
  have hm1 := hM1
  obtain ⟨I8, A8, N8, -, hMC8, -⟩ := hm1
  have m80 := hMC8.1
  refine g_istore (L' := [_, _, _, _, _, _, _]) q_L_law_468 (by decide) rfl ?_
  refine g_aload_n q_L_law_470 rfl ?_
  refine g_aload_n q_L_law_471 rfl ?_
  refine g_iload q_L_law_472 rfl ?_
  refine g_iconst q_L_law_474 ?_
  refine g_iadd q_L_law_475 ?_
  refine g_topi (b := ((i + 1 : Nat) : Int)) (by omega) ?_
  refine g_iaload_ro q_L_law_476 hro (by omega) (by omega) (by omega) ?_
  refine g_topi (b := f (i + 1)) (by rw [Int.toNat_natCast]) ?_
  refine g_aload_n q_L_law_477 rfl ?_
  refine g_iload q_L_law_478 rfl ?_
  refine g_iconst q_L_law_480 ?_
  refine g_iadd q_L_law_481 ?_
  refine g_topi (b := ((i + 2 : Nat) : Int)) (by omega) ?_
  refine g_iaload_ro q_L_law_482 hro (by omega) (by omega) (by omega) ?_
  refine g_topi (b := f (i + 2)) (by rw [Int.toNat_natCast]) ?_
  refine g_callV (rc' := _) (rs' := _) (As := [_, _]) cs_L_166 q_L_law_483 (sp_mcart hΓ hM1 (f (i + 1)) (f (i + 2)) (hfr _) (hfr _)) rfl (by repeat first | with_reducible assumption | with_reducible exact hput_s _ _ _ | refine (hput_n _ _ (by omega)).trans ?_ | exact hput_s _ _ _ | assumption) rfl rfl rfl rfl (Nat.le_of_ble_eq_true rfl) (by decide) (Nat.le_refl _) (Nat.le_refl _) (fun _ _ h => h.elim) (fun v2 σ2 hq2 => ?_)
  obtain ⟨rfl, hM2, hE2⟩ := hq2
  obtain ⟨hLI, ho2⟩ := lw_B (s2 := (len, tx, fa, z, l, wl, wr)) ((Classical.em _).elim hC0 hC1) ho1 hM2 hE2
  obtain ⟨I9, A9, N9, i90, hMC9, -⟩ := hM2
  have m90 := hMC9.1
  refine g_istore (L' := [_, _, _, _, _, _, _]) q_L_law_486 (by decide) rfl ?_
  refine g_aload_n q_L_law_488 rfl ?_
  refine g_callV (rc' := _) (rs' := _) (As := []) cs_L_153 q_L_law_489 (sp_thrown hΓ m90) rfl (by repeat first | with_reducible assumption | with_reducible exact hput_s _ _ _ | refine (hput_n _ _ (by omega)).trans ?_ | exact hput_s _ _ _ | assumption) rfl rfl rfl rfl (Nat.le_of_ble_eq_true rfl) (by decide) (Nat.le_refl _) (Nat.le_refl _) (fun _ _ h => h.elim) (k_ri ?_)
  rw [i90]
  refine g_iload q_L_law_492 rfl ?_
  refine g_icmp_eqS (tgt := 499) q_L_law_494 (by decide) ?_
  refine g_iload q_L_law_499 rfl ?_
  refine g_if_ne (tgt := 516) q_L_law_501 (by decide) ⟨by omega, by omega⟩ (fun b8 => ?_) (fun b8 => ?_)
  · -- it threw
    refine g_goto (tgt := 3063) q_L_law_516 (by decide) ?_
    exact g_fl (kk _ _ _ hLI) ⟨rfl, rfl, rfl, rfl, rfl, trivial⟩
  refine g_aload_n q_L_law_504 rfl ?_
  refine g_iconst q_L_law_505 ?_
  refine g_laload q_L_law_506 (by repeat first | with_reducible assumption | with_reducible exact hput_s _ _ _ | refine (hput_n _ _ (by omega)).trans ?_ | exact hput_s _ _ _ | assumption) (by omega) (by omega) ?_
  rw [show g1 (0 : Int).toNat = g1 0 from rfl, hg1 (by omega), if_pos (by omega)]
  refine g_iload q_L_law_507 rfl ?_
  refine g_top (v' := .int (ii (cn _))) (congrArg Value.int (ii_cn _).symm) ?_
  refine g_i2l q_L_law_509 (cn_rg _) ?_
  refine g_lcmp q_L_law_510 ?_
  refine g_topi (b := 0) (lcm_self _) ?_
  refine g_if_eq (tgt := 516) q_L_law_511 (by decide) ⟨by omega, by omega⟩ (fun b7 => ?_) (fun b7 => ?_)
  case refine_2 => exact absurd rfl b7
  refine g_goto (tgt := 3063) q_L_law_516 (by decide) ?_
  exact g_fl (kk _ _ _ hLI) ⟨rfl, rfl, rfl, rfl, rfl, trivial⟩
theorem la_6 (hΓ : Gd Γ) (hro : RO Γ b Ln f) (hfr : ∀ j, rg (f j)) (hi : i + 6 ≤ Ln) (hLn : Ln ≤ 3072) (hN : N < 600) (hI : LI σ x N R s) (kk : ∀ σ' R' s', LI σ' x (N + 1) R' s' → G Γ miL_law code Q noX (C + dC R' RM) (E + dS R' RM) 3063 [some (.ref b), some (.ref x), some (.ref (x + 54)), some (.ref (x + 88)), some (.int (ii (i : Int))), none, none] [] σ') : G Γ miL_law code Q noX (C + 8 + dC R RM) (E + 48 + dS R RM) 519 [some (.ref b), some (.ref x), some (.ref (x + 54)), some (.ref (x + 88)), some (.int (ii (i : Int))), none, none] [] σ := by
  obtain ⟨len, tx, fa, z, l, wl, wr⟩ := s
  obtain ⟨hX, ⟨e0, hM⟩, g, ho⟩ := hI
  have hX : CX σ x (x + 89) N R len tx fa z l wl wr := hX
  have hM : MX σ (x + 54) e0 len tx fa z l wl wr := hM
  obtain ⟨av, ve, hx, -, -⟩ := hX.ob
  obtain ⟨hl1, hl2, h302⟩ := hX.low
  refine g_aload_n q_L_law_519 rfl ?_
  refine g_aload_n q_L_law_520 rfl ?_
  refine g_iload q_L_law_521 rfl ?_
  refine g_iconst q_L_law_523 ?_
  refine g_iadd q_L_law_524 ?_
  refine g_topi (b := ((i + 1 : Nat) : Int)) (by omega) ?_
  refine g_iaload_ro q_L_law_525 hro (by omega) (by omega) (by omega) ?_
  refine g_topi (b := f (i + 1)) (by rw [Int.toNat_natCast]) ?_
  refine g_aload_n q_L_law_526 rfl ?_
  refine g_iload q_L_law_527 rfl ?_
  refine g_iconst q_L_law_529 ?_
  refine g_iadd q_L_law_530 ?_
  refine g_topi (b := ((i + 2 : Nat) : Int)) (by omega) ?_
  refine g_iaload_ro q_L_law_531 hro (by omega) (by omega) (by omega) ?_
  refine g_topi (b := f (i + 2)) (by rw [Int.toNat_natCast]) ?_
  refine g_aload_n q_L_law_532 rfl ?_
  refine g_callSW (rc' := (C + dC R RM)) (rs' := (E + dS R RM)) (As := [_, _, _, _]) cs_L_167 q_L_law_533 (sp_L_name hΓ hx (Sp_w (sp_name hΓ (by omega) hX (f (i + 1)) (f (i + 2)) (hfr _) (hfr _))) (fun v σ' h => (h.2.2.2.2 (x + 88) (by omega) (by unfold fX inb; omega)).trans ho)) rfl rfl rfl (Nat.le_of_ble_eq_true rfl) (by decide) rmZ rmZ (fun v σ1 hq => ?_)
  obtain ⟨he4, rfl, hM1, ⟨g1, ho1, hg1⟩, hC0, hC1⟩ := lw_A (s := (len, tx, fa, z, l, wl, wr)) (s0 := (len, tx, fa, z, l, wl, wr)) (s1 := (len, tx, fa, z, l, wl, wr)) hX hM ho (fun σ' h => h) (fun σ' h => h) hq
  have hM1 : MX σ1 (x + 54) e0 len tx fa z l wl wr := hM1
  have hm1 := hM1
  obtain ⟨I8, A8, N8, -, hMC8, -⟩ := hm1
  have m80 := hMC8.1
  refine g_istore (L' := [_, _, _, _, _, _, _]) q_L_law_536 (by decide) rfl ?_
  refine g_aload_n q_L_law_538 rfl ?_
  refine g_aload_n q_L_law_539 rfl ?_
  refine g_iload q_L_law_540 rfl ?_
  refine g_iconst q_L_law_542 ?_
  refine g_iadd q_L_law_543 ?_
  refine g_topi (b := ((i + 1 : Nat) : Int)) (by omega) ?_
  refine g_iaload_ro q_L_law_544 hro (by omega) (by omega) (by omega) ?_
  refine g_topi (b := f (i + 1)) (by rw [Int.toNat_natCast]) ?_
  refine g_aload_n q_L_law_545 rfl ?_
  refine g_iload q_L_law_546 rfl ?_
  refine g_iconst q_L_law_548 ?_
  refine g_iadd q_L_law_549 ?_
  refine g_topi (b := ((i + 2 : Nat) : Int)) (by omega) ?_
  refine g_iaload_ro q_L_law_550 hro (by omega) (by omega) (by omega) ?_
  refine g_topi (b := f (i + 2)) (by rw [Int.toNat_natCast]) ?_
  refine g_callV (rc' := _) (rs' := _) (As := [_, _]) cs_L_169 q_L_law_551 (sp_mname hΓ hM1 (f (i + 1)) (f (i + 2)) (hfr _) (hfr _)) rfl (by repeat first | with_reducible assumption | with_reducible exact hput_s _ _ _ | refine (hput_n _ _ (by omega)).trans ?_ | exact hput_s _ _ _ | assumption) rfl rfl rfl rfl (Nat.le_of_ble_eq_true rfl) (by decide) (Nat.le_refl _) (Nat.le_refl _) (fun _ _ h => h.elim) (fun v2 σ2 hq2 => ?_)
  obtain ⟨rfl, hM2, hE2⟩ := hq2
  obtain ⟨hLI, ho2⟩ := lw_B (s2 := (len, tx, fa, z, l, wl, wr)) ((Classical.em _).elim hC0 hC1) ho1 hM2 hE2
  obtain ⟨I9, A9, N9, i90, hMC9, -⟩ := hM2
  have m90 := hMC9.1
  refine g_istore (L' := [_, _, _, _, _, _, _]) q_L_law_554 (by decide) rfl ?_
  refine g_aload_n q_L_law_556 rfl ?_
  refine g_callV (rc' := _) (rs' := _) (As := []) cs_L_153 q_L_law_557 (sp_thrown hΓ m90) rfl (by repeat first | with_reducible assumption | with_reducible exact hput_s _ _ _ | refine (hput_n _ _ (by omega)).trans ?_ | exact hput_s _ _ _ | assumption) rfl rfl rfl rfl (Nat.le_of_ble_eq_true rfl) (by decide) (Nat.le_refl _) (Nat.le_refl _) (fun _ _ h => h.elim) (k_ri ?_)
  rw [i90]
  refine g_iload q_L_law_560 rfl ?_
  refine g_icmp_eqS (tgt := 567) q_L_law_562 (by decide) ?_
  refine g_iload q_L_law_567 rfl ?_
  refine g_if_ne (tgt := 584) q_L_law_569 (by decide) ⟨by omega, by omega⟩ (fun b8 => ?_) (fun b8 => ?_)
  · -- it threw
    refine g_goto (tgt := 3063) q_L_law_584 (by decide) ?_
    exact g_fl (kk _ _ _ hLI) ⟨rfl, rfl, rfl, rfl, rfl, trivial⟩
  refine g_aload_n q_L_law_572 rfl ?_
  refine g_iconst q_L_law_573 ?_
  refine g_laload q_L_law_574 (by repeat first | with_reducible assumption | with_reducible exact hput_s _ _ _ | refine (hput_n _ _ (by omega)).trans ?_ | exact hput_s _ _ _ | assumption) (by omega) (by omega) ?_
  rw [show g1 (0 : Int).toNat = g1 0 from rfl, hg1 (by omega), if_pos (by omega)]
  refine g_iload q_L_law_575 rfl ?_
  refine g_top (v' := .int (ii (cn _))) (congrArg Value.int (ii_cn _).symm) ?_
  refine g_i2l q_L_law_577 (cn_rg _) ?_
  refine g_lcmp q_L_law_578 ?_
  refine g_topi (b := 0) (lcm_self _) ?_
  refine g_if_eq (tgt := 584) q_L_law_579 (by decide) ⟨by omega, by omega⟩ (fun b7 => ?_) (fun b7 => ?_)
  case refine_2 => exact absurd rfl b7
  refine g_goto (tgt := 3063) q_L_law_584 (by decide) ?_
  exact g_fl (kk _ _ _ hLI) ⟨rfl, rfl, rfl, rfl, rfl, trivial⟩
theorem la_7 (hΓ : Gd Γ) (hro : RO Γ b Ln f) (hfr : ∀ j, rg (f j)) (hi : i + 6 ≤ Ln) (hLn : Ln ≤ 3072) (hN : N < 600) (hI : LI σ x N R s) (kk : ∀ σ' R' s', LI σ' x (N + 1) R' s' → G Γ miL_law code Q noX (C + dC R' RM) (E + dS R' RM) 3063 [some (.ref b), some (.ref x), some (.ref (x + 54)), some (.ref (x + 88)), some (.int (ii (i : Int))), none, none] [] σ') : G Γ miL_law code Q noX (C + 8 + dC R RM) (E + 48 + dS R RM) 587 [some (.ref b), some (.ref x), some (.ref (x + 54)), some (.ref (x + 88)), some (.int (ii (i : Int))), none, none] [] σ := by
  obtain ⟨len, tx, fa, z, l, wl, wr⟩ := s
  obtain ⟨hX, ⟨e0, hM⟩, g, ho⟩ := hI
  have hX : CX σ x (x + 89) N R len tx fa z l wl wr := hX
  have hM : MX σ (x + 54) e0 len tx fa z l wl wr := hM
  obtain ⟨av, ve, hx, -, -⟩ := hX.ob
  obtain ⟨hl1, hl2, h302⟩ := hX.low
  refine g_aload_n q_L_law_587 rfl ?_
  refine g_aload_n q_L_law_588 rfl ?_
  refine g_iload q_L_law_589 rfl ?_
  refine g_iconst q_L_law_591 ?_
  refine g_iadd q_L_law_592 ?_
  refine g_topi (b := ((i + 1 : Nat) : Int)) (by omega) ?_
  refine g_iaload_ro q_L_law_593 hro (by omega) (by omega) (by omega) ?_
  refine g_topi (b := f (i + 1)) (by rw [Int.toNat_natCast]) ?_
  refine g_aload_n q_L_law_594 rfl ?_
  refine g_iload q_L_law_595 rfl ?_
  refine g_iconst q_L_law_597 ?_
  refine g_iadd q_L_law_598 ?_
  refine g_topi (b := ((i + 2 : Nat) : Int)) (by omega) ?_
  refine g_iaload_ro q_L_law_599 hro (by omega) (by omega) (by omega) ?_
  refine g_topi (b := f (i + 2)) (by rw [Int.toNat_natCast]) ?_
  refine g_aload_n q_L_law_600 rfl ?_
  refine g_iload q_L_law_601 rfl ?_
  refine g_iconst q_L_law_603 ?_
  refine g_iadd q_L_law_604 ?_
  refine g_topi (b := ((i + 3 : Nat) : Int)) (by omega) ?_
  refine g_iaload_ro q_L_law_605 hro (by omega) (by omega) (by omega) ?_
  refine g_topi (b := f (i + 3)) (by rw [Int.toNat_natCast]) ?_
  refine g_aload_n q_L_law_606 rfl ?_
  refine g_callSW (rc' := (C + dC R RM)) (rs' := (E + dS R RM)) (As := [_, _, _, _, _]) cs_L_170 q_L_law_607 (sp_L_tell hΓ hx (Sp_w (sp_tell hΓ (by omega) hX (f (i + 1)) (f (i + 2)) (f (i + 3)) (hfr _) (hfr _) (hfr _))) (fun v σ' h => (h.2.2.2.2 (x + 88) (by omega) (by unfold fX inb; omega)).trans ho)) rfl rfl rfl (Nat.le_of_ble_eq_true rfl) (by decide) rmZ rmZ (fun v σ1 hq => ?_)
  obtain ⟨he4, rfl, hM1, ⟨g1, ho1, hg1⟩, hC0, hC1⟩ := lw_A (s := (len, tx, fa, z, l, wl, wr)) (s0 := (len, tx, fa, sZ z (va_up (zSO z) (6 * f (i + 2) + f (i + 1)).toNat (f (i + 3))) (zGO z), kpl l (0, 6 * f (i + 2) + f (i + 1), zSO z (6 * f (i + 2) + f (i + 1)).toNat), wl, wr)) (s1 := (len, tx, fa, z, l, wl, wr)) hX hM ho (fun σ' h => h) (fun σ' h => h) hq
  have hM1 : MX σ1 (x + 54) e0 len tx fa z l wl wr := hM1
  have hm1 := hM1
  obtain ⟨I8, A8, N8, -, hMC8, -⟩ := hm1
  have m80 := hMC8.1
  refine g_istore (L' := [_, _, _, _, _, _, _]) q_L_law_610 (by decide) rfl ?_
  refine g_aload_n q_L_law_612 rfl ?_
  refine g_aload_n q_L_law_613 rfl ?_
  refine g_iload q_L_law_614 rfl ?_
  refine g_iconst q_L_law_616 ?_
  refine g_iadd q_L_law_617 ?_
  refine g_topi (b := ((i + 1 : Nat) : Int)) (by omega) ?_
  refine g_iaload_ro q_L_law_618 hro (by omega) (by omega) (by omega) ?_
  refine g_topi (b := f (i + 1)) (by rw [Int.toNat_natCast]) ?_
  refine g_aload_n q_L_law_619 rfl ?_
  refine g_iload q_L_law_620 rfl ?_
  refine g_iconst q_L_law_622 ?_
  refine g_iadd q_L_law_623 ?_
  refine g_topi (b := ((i + 2 : Nat) : Int)) (by omega) ?_
  refine g_iaload_ro q_L_law_624 hro (by omega) (by omega) (by omega) ?_
  refine g_topi (b := f (i + 2)) (by rw [Int.toNat_natCast]) ?_
  refine g_aload_n q_L_law_625 rfl ?_
  refine g_iload q_L_law_626 rfl ?_
  refine g_iconst q_L_law_628 ?_
  refine g_iadd q_L_law_629 ?_
  refine g_topi (b := ((i + 3 : Nat) : Int)) (by omega) ?_
  refine g_iaload_ro q_L_law_630 hro (by omega) (by omega) (by omega) ?_
  refine g_topi (b := f (i + 3)) (by rw [Int.toNat_natCast]) ?_
  refine g_callV (rc' := _) (rs' := _) (As := [_, _, _]) cs_L_173 q_L_law_631 (sp_mtell hΓ hM1 (f (i + 1)) (f (i + 2)) (f (i + 3)) (hfr _) (hfr _) (hfr _)) rfl (by repeat first | with_reducible assumption | with_reducible exact hput_s _ _ _ | refine (hput_n _ _ (by omega)).trans ?_ | exact hput_s _ _ _ | assumption) rfl rfl rfl rfl (Nat.le_of_ble_eq_true rfl) (by decide) (Nat.le_refl _) (Nat.le_refl _) (fun _ _ h => h.elim) (fun v2 σ2 hq2 => ?_)
  obtain ⟨rfl, w1, w2⟩ := hq2
  obtain ⟨e, he⟩ : ∃ e, e = eTell z (f (i + 1)) (f (i + 2)) (f (i + 3)) := ⟨_, rfl⟩
  rw [← he] at he4 hg1 hC0 hC1 w1 w2 ⊢
  have hfin : ∃ s2, (LI σ2 x (N + 1) R s2 ∧ σ2.2 (x + 88) = some (al 1 g1)) ∧ MXs σ2 (x + 54) (e : Int) s2 := by
    by_cases h : e = 0
    · obtain ⟨hM2, hE2⟩ := w1 h
      exact ⟨_, lw_B (e := 0) (hC0 h) ho1 hM2 hE2, by rw [h]; exact hM2⟩
    · obtain ⟨hM2, hE2⟩ := w2 h
      exact ⟨_, lw_B (hC1 h) ho1 hM2 hE2, hM2⟩
  obtain ⟨s2, ⟨hLI, ho2⟩, hM2⟩ := hfin
  obtain ⟨I9, A9, N9, i90, hMC9, -⟩ := hM2
  have m90 := hMC9.1
  refine g_istore (L' := [_, _, _, _, _, _, _]) q_L_law_634 (by decide) rfl ?_
  refine g_aload_n q_L_law_636 rfl ?_
  refine g_callV (rc' := _) (rs' := _) (As := []) cs_L_153 q_L_law_637 (sp_thrown hΓ m90) rfl (by repeat first | with_reducible assumption | with_reducible exact hput_s _ _ _ | refine (hput_n _ _ (by omega)).trans ?_ | exact hput_s _ _ _ | assumption) rfl rfl rfl rfl (Nat.le_of_ble_eq_true rfl) (by decide) (Nat.le_refl _) (Nat.le_refl _) (fun _ _ h => h.elim) (k_ri ?_)
  rw [i90]
  refine g_iload q_L_law_640 rfl ?_
  refine g_icmp_eqS (tgt := 647) q_L_law_642 (by decide) ?_
  refine g_iload q_L_law_647 rfl ?_
  refine g_if_ne (tgt := 664) q_L_law_649 (by decide) ⟨by omega, by omega⟩ (fun b8 => ?_) (fun b8 => ?_)
  · -- it threw
    refine g_goto (tgt := 3063) q_L_law_664 (by decide) ?_
    exact g_fl (kk _ _ _ hLI) ⟨rfl, rfl, rfl, rfl, rfl, trivial⟩
  refine g_aload_n q_L_law_652 rfl ?_
  refine g_iconst q_L_law_653 ?_
  refine g_laload q_L_law_654 (by repeat first | with_reducible assumption | with_reducible exact hput_s _ _ _ | refine (hput_n _ _ (by omega)).trans ?_ | exact hput_s _ _ _ | assumption) (by omega) (by omega) ?_
  rw [show g1 (0 : Int).toNat = g1 0 from rfl, hg1 (by omega), if_pos (by omega)]
  refine g_iload q_L_law_655 rfl ?_
  refine g_top (v' := .int (ii (cn _))) (congrArg Value.int (ii_cn _).symm) ?_
  refine g_i2l q_L_law_657 (cn_rg _) ?_
  refine g_lcmp q_L_law_658 ?_
  refine g_topi (b := 0) (lcm_self _) ?_
  refine g_if_eq (tgt := 664) q_L_law_659 (by decide) ⟨by omega, by omega⟩ (fun b7 => ?_) (fun b7 => ?_)
  case refine_2 => exact absurd rfl b7
  refine g_goto (tgt := 3063) q_L_law_664 (by decide) ?_
  exact g_fl (kk _ _ _ hLI) ⟨rfl, rfl, rfl, rfl, rfl, trivial⟩
theorem la_8 (hΓ : Gd Γ) (hro : RO Γ b Ln f) (hfr : ∀ j, rg (f j)) (hi : i + 6 ≤ Ln) (hLn : Ln ≤ 3072) (hN : N < 600) (hI : LI σ x N R s) (kk : ∀ σ' R' s', LI σ' x (N + 1) R' s' → G Γ miL_law code Q noX (C + dC R' RM) (E + dS R' RM) 3063 [some (.ref b), some (.ref x), some (.ref (x + 54)), some (.ref (x + 88)), some (.int (ii (i : Int))), none, none] [] σ') : G Γ miL_law code Q noX (C + 8 + dC R RM) (E + 48 + dS R RM) 667 [some (.ref b), some (.ref x), some (.ref (x + 54)), some (.ref (x + 88)), some (.int (ii (i : Int))), none, none] [] σ := by
  obtain ⟨len, tx, fa, z, l, wl, wr⟩ := s
  obtain ⟨hX, ⟨e0, hM⟩, g, ho⟩ := hI
  have hX : CX σ x (x + 89) N R len tx fa z l wl wr := hX
  have hM : MX σ (x + 54) e0 len tx fa z l wl wr := hM
  obtain ⟨av, ve, hx, -, -⟩ := hX.ob
  obtain ⟨hl1, hl2, h302⟩ := hX.low
  refine g_aload_n q_L_law_667 rfl ?_
  refine g_aload_n q_L_law_668 rfl ?_
  refine g_iload q_L_law_669 rfl ?_
  refine g_iconst q_L_law_671 ?_
  refine g_iadd q_L_law_672 ?_
  refine g_topi (b := ((i + 1 : Nat) : Int)) (by omega) ?_
  refine g_iaload_ro q_L_law_673 hro (by omega) (by omega) (by omega) ?_
  refine g_topi (b := f (i + 1)) (by rw [Int.toNat_natCast]) ?_
  refine g_aload_n q_L_law_674 rfl ?_
  refine g_iload q_L_law_675 rfl ?_
  refine g_iconst q_L_law_677 ?_
  refine g_iadd q_L_law_678 ?_
  refine g_topi (b := ((i + 2 : Nat) : Int)) (by omega) ?_
  refine g_iaload_ro q_L_law_679 hro (by omega) (by omega) (by omega) ?_
  refine g_topi (b := f (i + 2)) (by rw [Int.toNat_natCast]) ?_
  refine g_aload_n q_L_law_680 rfl ?_
  refine g_iload q_L_law_681 rfl ?_
  refine g_iconst q_L_law_683 ?_
  refine g_iadd q_L_law_684 ?_
  refine g_topi (b := ((i + 3 : Nat) : Int)) (by omega) ?_
  refine g_iaload_ro q_L_law_685 hro (by omega) (by omega) (by omega) ?_
  refine g_topi (b := f (i + 3)) (by rw [Int.toNat_natCast]) ?_
  refine g_aload_n q_L_law_686 rfl ?_
  refine g_callSW (rc' := (C + dC R RM)) (rs' := (E + dS R RM)) (As := [_, _, _, _, _]) cs_L_174 q_L_law_687 (sp_L_goal hΓ hx (Sp_w (sp_goal hΓ (by omega) hX (f (i + 1)) (f (i + 2)) (f (i + 3)) (hfr _) (hfr _) (hfr _))) (fun v σ' h => (h.2.2.2.2 (x + 88) (by omega) (by unfold fX inb; omega)).trans ho)) rfl rfl rfl (Nat.le_of_ble_eq_true rfl) (by decide) rmZ rmZ (fun v σ1 hq => ?_)
  obtain ⟨he4, rfl, hM1, ⟨g1, ho1, hg1⟩, hC0, hC1⟩ := lw_A (s := (len, tx, fa, z, l, wl, wr)) (s0 := (len, tx, fa, sZ z (zSO z) (va_up (zGO z) (f (i + 1)).toNat (6 * f (i + 3) + f (i + 2))), kpl l (1, f (i + 1), zGO z (f (i + 1)).toNat), wl, wr)) (s1 := (len, tx, fa, z, l, wl, wr)) hX hM ho (fun σ' h => h) (fun σ' h => h) hq
  have hM1 : MX σ1 (x + 54) e0 len tx fa z l wl wr := hM1
  have hm1 := hM1
  obtain ⟨I8, A8, N8, -, hMC8, -⟩ := hm1
  have m80 := hMC8.1
  refine g_istore (L' := [_, _, _, _, _, _, _]) q_L_law_690 (by decide) rfl ?_
  refine g_aload_n q_L_law_692 rfl ?_
  refine g_aload_n q_L_law_693 rfl ?_
  refine g_iload q_L_law_694 rfl ?_
  refine g_iconst q_L_law_696 ?_
  refine g_iadd q_L_law_697 ?_
  refine g_topi (b := ((i + 1 : Nat) : Int)) (by omega) ?_
  refine g_iaload_ro q_L_law_698 hro (by omega) (by omega) (by omega) ?_
  refine g_topi (b := f (i + 1)) (by rw [Int.toNat_natCast]) ?_
  refine g_aload_n q_L_law_699 rfl ?_
  refine g_iload q_L_law_700 rfl ?_
  refine g_iconst q_L_law_702 ?_
  refine g_iadd q_L_law_703 ?_
  refine g_topi (b := ((i + 2 : Nat) : Int)) (by omega) ?_
  refine g_iaload_ro q_L_law_704 hro (by omega) (by omega) (by omega) ?_
  refine g_topi (b := f (i + 2)) (by rw [Int.toNat_natCast]) ?_
  refine g_aload_n q_L_law_705 rfl ?_
  refine g_iload q_L_law_706 rfl ?_
  refine g_iconst q_L_law_708 ?_
  refine g_iadd q_L_law_709 ?_
  refine g_topi (b := ((i + 3 : Nat) : Int)) (by omega) ?_
  refine g_iaload_ro q_L_law_710 hro (by omega) (by omega) (by omega) ?_
  refine g_topi (b := f (i + 3)) (by rw [Int.toNat_natCast]) ?_
  refine g_callV (rc' := _) (rs' := _) (As := [_, _, _]) cs_L_176 q_L_law_711 (sp_mgoal hΓ hM1 (f (i + 1)) (f (i + 2)) (f (i + 3)) (hfr _) (hfr _) (hfr _)) rfl (by repeat first | with_reducible assumption | with_reducible exact hput_s _ _ _ | refine (hput_n _ _ (by omega)).trans ?_ | exact hput_s _ _ _ | assumption) rfl rfl rfl rfl (Nat.le_of_ble_eq_true rfl) (by decide) (Nat.le_refl _) (Nat.le_refl _) (fun _ _ h => h.elim) (fun v2 σ2 hq2 => ?_)
  obtain ⟨rfl, w1, w2⟩ := hq2
  obtain ⟨e, he⟩ : ∃ e, e = eGoal z (f (i + 1)) (f (i + 2)) (f (i + 3)) := ⟨_, rfl⟩
  rw [← he] at he4 hg1 hC0 hC1 w1 w2 ⊢
  have hfin : ∃ s2, (LI σ2 x (N + 1) R s2 ∧ σ2.2 (x + 88) = some (al 1 g1)) ∧ MXs σ2 (x + 54) (e : Int) s2 := by
    by_cases h : e = 0
    · obtain ⟨hM2, hE2⟩ := w1 h
      exact ⟨_, lw_B (e := 0) (hC0 h) ho1 hM2 hE2, by rw [h]; exact hM2⟩
    · obtain ⟨hM2, hE2⟩ := w2 h
      exact ⟨_, lw_B (hC1 h) ho1 hM2 hE2, hM2⟩
  obtain ⟨s2, ⟨hLI, ho2⟩, hM2⟩ := hfin
  obtain ⟨I9, A9, N9, i90, hMC9, -⟩ := hM2
  have m90 := hMC9.1
  refine g_istore (L' := [_, _, _, _, _, _, _]) q_L_law_714 (by decide) rfl ?_
  refine g_aload_n q_L_law_716 rfl ?_
  refine g_callV (rc' := _) (rs' := _) (As := []) cs_L_153 q_L_law_717 (sp_thrown hΓ m90) rfl (by repeat first | with_reducible assumption | with_reducible exact hput_s _ _ _ | refine (hput_n _ _ (by omega)).trans ?_ | exact hput_s _ _ _ | assumption) rfl rfl rfl rfl (Nat.le_of_ble_eq_true rfl) (by decide) (Nat.le_refl _) (Nat.le_refl _) (fun _ _ h => h.elim) (k_ri ?_)
  rw [i90]
  refine g_iload q_L_law_720 rfl ?_
  refine g_icmp_eqS (tgt := 727) q_L_law_722 (by decide) ?_
  refine g_iload q_L_law_727 rfl ?_
  refine g_if_ne (tgt := 744) q_L_law_729 (by decide) ⟨by omega, by omega⟩ (fun b8 => ?_) (fun b8 => ?_)
  · -- it threw
    refine g_goto (tgt := 3063) q_L_law_744 (by decide) ?_
    exact g_fl (kk _ _ _ hLI) ⟨rfl, rfl, rfl, rfl, rfl, trivial⟩
  refine g_aload_n q_L_law_732 rfl ?_
  refine g_iconst q_L_law_733 ?_
  refine g_laload q_L_law_734 (by repeat first | with_reducible assumption | with_reducible exact hput_s _ _ _ | refine (hput_n _ _ (by omega)).trans ?_ | exact hput_s _ _ _ | assumption) (by omega) (by omega) ?_
  rw [show g1 (0 : Int).toNat = g1 0 from rfl, hg1 (by omega), if_pos (by omega)]
  refine g_iload q_L_law_735 rfl ?_
  refine g_top (v' := .int (ii (cn _))) (congrArg Value.int (ii_cn _).symm) ?_
  refine g_i2l q_L_law_737 (cn_rg _) ?_
  refine g_lcmp q_L_law_738 ?_
  refine g_topi (b := 0) (lcm_self _) ?_
  refine g_if_eq (tgt := 744) q_L_law_739 (by decide) ⟨by omega, by omega⟩ (fun b7 => ?_) (fun b7 => ?_)
  case refine_2 => exact absurd rfl b7
  refine g_goto (tgt := 3063) q_L_law_744 (by decide) ?_
  exact g_fl (kk _ _ _ hLI) ⟨rfl, rfl, rfl, rfl, rfl, trivial⟩
theorem la_9 (hΓ : Gd Γ) (hro : RO Γ b Ln f) (hfr : ∀ j, rg (f j)) (hi : i + 6 ≤ Ln) (hLn : Ln ≤ 3072) (hN : N < 600) (hI : LI σ x N R s) (kk : ∀ σ' R' s', LI σ' x (N + 1) R' s' → G Γ miL_law code Q noX (C + dC R' RM) (E + dS R' RM) 3063 [some (.ref b), some (.ref x), some (.ref (x + 54)), some (.ref (x + 88)), some (.int (ii (i : Int))), none, none] [] σ') : G Γ miL_law code Q noX (C + 8 + dC R RM) (E + 48 + dS R RM) 747 [some (.ref b), some (.ref x), some (.ref (x + 54)), some (.ref (x + 88)), some (.int (ii (i : Int))), none, none] [] σ := by
  obtain ⟨len, tx, fa, z, l, wl, wr⟩ := s
  obtain ⟨hX, ⟨e0, hM⟩, g, ho⟩ := hI
  have hX : CX σ x (x + 89) N R len tx fa z l wl wr := hX
  have hM : MX σ (x + 54) e0 len tx fa z l wl wr := hM
  obtain ⟨av, ve, hx, -, -⟩ := hX.ob
  obtain ⟨hl1, hl2, h302⟩ := hX.low
  refine g_aload_n q_L_law_747 rfl ?_
  refine g_aload_n q_L_law_748 rfl ?_
  refine g_iload q_L_law_749 rfl ?_
  refine g_iconst q_L_law_751 ?_
  refine g_iadd q_L_law_752 ?_
  refine g_topi (b := ((i + 1 : Nat) : Int)) (by omega) ?_
  refine g_iaload_ro q_L_law_753 hro (by omega) (by omega) (by omega) ?_
  refine g_topi (b := f (i + 1)) (by rw [Int.toNat_natCast]) ?_
  refine g_aload_n q_L_law_754 rfl ?_
  refine g_iload q_L_law_755 rfl ?_
  refine g_iconst q_L_law_757 ?_
  refine g_iadd q_L_law_758 ?_
  refine g_topi (b := ((i + 2 : Nat) : Int)) (by omega) ?_
  refine g_iaload_ro q_L_law_759 hro (by omega) (by omega) (by omega) ?_
  refine g_topi (b := f (i + 2)) (by rw [Int.toNat_natCast]) ?_
  refine g_callSW (rc' := (C + dC R RM)) (rs' := (E + dS R RM)) (As := [_, _, _]) cs_L_177 q_L_law_760 (sp_L_change (QV := fun σ' => eChg z (f (i + 1)) (f (i + 2)) = 0 ∧ SX σ x (x + 89) (N + 1) R len tx fa (swG z (f (i + 1)).toNat (f (i + 2)).toNat) (kpl l (2, f (i + 1), f (i + 2))) wl wr σ') (XI := fun k σ' => eChg z (f (i + 1)) (f (i + 2)) = k ∧ SX σ x (x + 89) (N + 1) R len tx fa z l wl wr σ') hΓ hx (Sp_cons (sp_change hΓ (by omega) hX (f (i + 1)) (f (i + 2)) (hfr _) (hfr _)) (by rintro r σ' ⟨q1, q2, q3⟩; exact ⟨q2, q1, q3⟩) (by rintro Ex σ' ⟨q1, q2, q3⟩; exact ⟨_, q2, by omega, q3⟩))) rfl rfl rfl (Nat.le_of_ble_eq_true rfl) (by decide) rmZ rmZ (fun v σ1 hq => ?_)
  obtain ⟨e, he⟩ : ∃ e, e = eChg z (f (i + 1)) (f (i + 2)) := ⟨_, rfl⟩
  rw [← he] at hq
  have hE1 : eqG σ σ1 (fX x (x + 89)) := by rcases hq with ⟨⟨-, h⟩, -⟩ | ⟨k, -, ⟨-, h⟩, -⟩ <;> exact h.2
  have hr : v = some (.int (ii (e : Int))) := by rcases hq with ⟨⟨h, -⟩, rfl⟩ | ⟨k, -, ⟨h, -⟩, rfl⟩ <;> rw [h]
  have hM1 : MX σ1 (x + 54) e0 len tx fa z l wl wr := hM.kp (fun a ha => by unfold inb at ha; exact hE1.2 a (by omega) (by unfold fX inb; omega))
  have ho1 : σ1.2 (x + 88) = some (al 1 g) := (hE1.2 (x + 88) (by omega) (by unfold fX inb; omega)).trans ho
  subst hr
  have hm1 := hM1
  obtain ⟨I8, A8, N8, -, hMC8, -⟩ := hm1
  have m80 := hMC8.1
  refine g_istore (L' := [_, _, _, _, _, _, _]) q_L_law_763 (by decide) rfl ?_
  refine g_aload_n q_L_law_765 rfl ?_
  refine g_aload_n q_L_law_766 rfl ?_
  refine g_iload q_L_law_767 rfl ?_
  refine g_iconst q_L_law_769 ?_
  refine g_iadd q_L_law_770 ?_
  refine g_topi (b := ((i + 1 : Nat) : Int)) (by omega) ?_
  refine g_iaload_ro q_L_law_771 hro (by omega) (by omega) (by omega) ?_
  refine g_topi (b := f (i + 1)) (by rw [Int.toNat_natCast]) ?_
  refine g_aload_n q_L_law_772 rfl ?_
  refine g_iload q_L_law_773 rfl ?_
  refine g_iconst q_L_law_775 ?_
  refine g_iadd q_L_law_776 ?_
  refine g_topi (b := ((i + 2 : Nat) : Int)) (by omega) ?_
  refine g_iaload_ro q_L_law_777 hro (by omega) (by omega) (by omega) ?_
  refine g_topi (b := f (i + 2)) (by rw [Int.toNat_natCast]) ?_
  refine g_callV (rc' := _) (rs' := _) (As := [_, _]) cs_L_180 q_L_law_778 (sp_mchange hΓ hM1 (f (i + 1)) (f (i + 2)) (hfr _) (hfr _)) rfl (by repeat first | with_reducible assumption | with_reducible exact hput_s _ _ _ | refine (hput_n _ _ (by omega)).trans ?_ | exact hput_s _ _ _ | assumption) rfl rfl rfl rfl (Nat.le_of_ble_eq_true rfl) (by decide) (Nat.le_refl _) (Nat.le_refl _) (fun _ _ h => h.elim) (fun v2 σ2 hq2 => ?_)
  obtain ⟨rfl, w1, w2⟩ := hq2
  rw [← he] at w1 w2
  have hfin : ∃ s2, LI σ2 x (N + 1) R s2 ∧ MXs σ2 (x + 54) (e : Int) s2 := by
    rcases hq with ⟨⟨h, hs⟩, -⟩ | ⟨k, hk, ⟨h, hs⟩, -⟩
    · obtain ⟨hM2, hE2⟩ := w1 h
      exact ⟨(len, tx, fa, swG z (f (i + 1)).toNat (f (i + 2)).toNat, kpl l (2, f (i + 1), f (i + 2)), wl, wr), (lw_B (s2 := (len, tx, fa, swG z (f (i + 1)).toNat (f (i + 2)).toNat, kpl l (2, f (i + 1), f (i + 2)), wl, wr)) (e := 0) hs.1 ho1 hM2 hE2).1, by rw [h]; exact hM2⟩
    · obtain ⟨hM2, hE2⟩ := w2 (by omega)
      exact ⟨(len, tx, fa, z, l, wl, wr), (lw_B (s2 := (len, tx, fa, z, l, wl, wr)) hs.1 ho1 hM2 hE2).1, hM2⟩
  obtain ⟨s2, hLI, hM2⟩ := hfin
  obtain ⟨I9, A9, N9, i90, hMC9, -⟩ := hM2
  have m90 := hMC9.1
  refine g_aload_n q_L_law_781 rfl ?_
  refine g_callV (rc' := _) (rs' := _) (As := []) cs_L_153 q_L_law_782 (sp_thrown hΓ m90) rfl (by repeat first | with_reducible assumption | with_reducible exact hput_s _ _ _ | refine (hput_n _ _ (by omega)).trans ?_ | exact hput_s _ _ _ | assumption) rfl rfl rfl rfl (Nat.le_of_ble_eq_true rfl) (by decide) (Nat.le_refl _) (Nat.le_refl _) (fun _ _ h => h.elim) (k_ri ?_)
  rw [i90]
  refine g_iload q_L_law_785 rfl ?_
  refine g_icmp_eqS (tgt := 792) q_L_law_787 (by decide) ?_
  refine g_goto (tgt := 3063) q_L_law_792 (by decide) ?_
  exact g_fl (kk _ _ _ hLI) ⟨rfl, rfl, rfl, rfl, rfl, trivial⟩
theorem la_10 (hΓ : Gd Γ) (hro : RO Γ b Ln f) (hfr : ∀ j, rg (f j)) (hi : i + 6 ≤ Ln) (hLn : Ln ≤ 3072) (hN : N < 600) (hI : LI σ x N R s) (kk : ∀ σ' R' s', LI σ' x (N + 1) R' s' → G Γ miL_law code Q noX (C + dC R' RM) (E + dS R' RM) 3063 [some (.ref b), some (.ref x), some (.ref (x + 54)), some (.ref (x + 88)), some (.int (ii (i : Int))), none, none] [] σ') : G Γ miL_law code Q noX (C + 8 + dC R RM) (E + 48 + dS R RM) 795 [some (.ref b), some (.ref x), some (.ref (x + 54)), some (.ref (x + 88)), some (.int (ii (i : Int))), none, none] [] σ := by
  obtain ⟨len, tx, fa, z, l, wl, wr⟩ := s
  obtain ⟨hX, ⟨e0, hM⟩, g, ho⟩ := hI
  have hX : CX σ x (x + 89) N R len tx fa z l wl wr := hX
  have hM : MX σ (x + 54) e0 len tx fa z l wl wr := hM
  obtain ⟨av, ve, hx, -, -⟩ := hX.ob
  obtain ⟨hl1, hl2, h302⟩ := hX.low
  rcases List.eq_nil_or_concat l with hl9 | ⟨l9, q9, hl9⟩ <;> rw [hl9] at hX hM
  · skip
    refine g_aload_n q_L_law_795 rfl ?_
    refine g_callV (rc' := (C + dC R RM)) (rs' := (E + dS R RM)) (As := []) cs_L_181 q_L_law_796 (sp_undo0 (N := N) hΓ (by omega) hX) rfl (by repeat first | with_reducible assumption | with_reducible exact hput_s _ _ _ | refine (hput_n _ _ (by omega)).trans ?_ | exact hput_s _ _ _ | assumption) rfl rfl rfl rfl (Nat.le_of_ble_eq_true rfl) (by decide) rmZ rmZ (fun _ _ h => h.elim) (fun v σ1 hq => ?_)
    obtain ⟨-, rfl, hC1, hE1⟩ := hq
    have hM1 := hM.kp (σ' := σ1) (fun a ha => by unfold inb at ha; exact hE1.2 a (by omega) (by unfold fX inb; omega))
    have ho1 : σ1.2 (x + 88) = some (al 1 g) := (hE1.2 (x + 88) (by omega) (by unfold fX inb; omega)).trans ho
    have hm1 := hM1
    obtain ⟨I8, A8, N8, -, hMC8, -⟩ := hm1
    have m80 := hMC8.1
    refine g_aload_n q_L_law_799 rfl ?_
    refine g_callV (rc' := _) (rs' := _) (As := []) cs_L_184 q_L_law_800 (sp_mundo0 hΓ hM1) rfl (by repeat first | with_reducible assumption | with_reducible exact hput_s _ _ _ | refine (hput_n _ _ (by omega)).trans ?_ | exact hput_s _ _ _ | assumption) rfl rfl rfl rfl (Nat.le_of_ble_eq_true rfl) (by decide) (Nat.le_refl _) (Nat.le_refl _) (fun _ _ h => h.elim) (fun v2 σ2 hq2 => ?_)
    obtain ⟨rfl, hM2, hE2⟩ := hq2
    obtain ⟨hLI, -⟩ := lw_B (s2 := (len, tx, fa, z, [], wl, wr)) (e := 0) hC1 ho1 hM2 hE2
    rw [if_pos rfl]
    refine g_icmp_eqS (tgt := 3063) q_L_law_803 (by decide) ?_
    exact g_fl (kk _ _ _ hLI) ⟨rfl, rfl, rfl, rfl, rfl, trivial⟩
  · rw [List.concat_eq_append] at hX hM
    refine g_aload_n q_L_law_795 rfl ?_
    refine g_callV (rc' := (C + dC R RM)) (rs' := (E + dS R RM)) (As := []) cs_L_181 q_L_law_796 (sp_undo1 (N := N) hΓ (by omega) hX) rfl (by repeat first | with_reducible assumption | with_reducible exact hput_s _ _ _ | refine (hput_n _ _ (by omega)).trans ?_ | exact hput_s _ _ _ | assumption) rfl rfl rfl rfl (Nat.le_of_ble_eq_true rfl) (by decide) rmZ rmZ (fun _ _ h => h.elim) (fun v σ1 hq => ?_)
    obtain ⟨-, rfl, hC1, hE1⟩ := hq
    have hM1 := hM.kp (σ' := σ1) (fun a ha => by unfold inb at ha; exact hE1.2 a (by omega) (by unfold fX inb; omega))
    have ho1 : σ1.2 (x + 88) = some (al 1 g) := (hE1.2 (x + 88) (by omega) (by unfold fX inb; omega)).trans ho
    have hm1 := hM1
    obtain ⟨I8, A8, N8, -, hMC8, -⟩ := hm1
    have m80 := hMC8.1
    refine g_aload_n q_L_law_799 rfl ?_
    refine g_callV (rc' := _) (rs' := _) (As := []) cs_L_184 q_L_law_800 (sp_mundo1 hΓ hM1) rfl (by repeat first | with_reducible assumption | with_reducible exact hput_s _ _ _ | refine (hput_n _ _ (by omega)).trans ?_ | exact hput_s _ _ _ | assumption) rfl rfl rfl rfl (Nat.le_of_ble_eq_true rfl) (by decide) (Nat.le_refl _) (Nat.le_refl _) (fun _ _ h => h.elim) (fun v2 σ2 hq2 => ?_)
    obtain ⟨rfl, hM2, hE2⟩ := hq2
    obtain ⟨hLI, -⟩ := lw_B (s2 := (len, tx, fa, udo z q9, l9, wl, wr)) (e := 0) hC1 ho1 hM2 hE2
    rw [if_pos rfl]
    refine g_icmp_eqS (tgt := 3063) q_L_law_803 (by decide) ?_
    exact g_fl (kk _ _ _ hLI) ⟨rfl, rfl, rfl, rfl, rfl, trivial⟩
end LC

