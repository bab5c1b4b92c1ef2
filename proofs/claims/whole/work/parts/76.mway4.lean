/-! the reference: laysWay whole -/
section LY
variable {Γ : GT} {σ : AH} {m : Nat} {I : Nat → Int} {cols rows : Nat} {so SO : Nat → Int} {bc bm : Nat → Int} {mv ce : Nat → BitVec 64} {PLm GOm : Nat → Int} {Q : Option Value → AH → Prop} {QX : String → AH → Prop}
theorem eS_0 (w : WH SO so cols rows bc bm mv ce) {pl g le : Nat} (hp : gIn cols rows pl) (hp1 : SO pl ≠ 1) (hg : g < 36) (hle : le < 41) (hce : (ce le).getLsbD g = false) (hhs : (hsN (lvF SO cols rows) mv ce pl le).getLsbD g = true) : eS (lvF SO cols rows) mv ce pl g le 0 pl = true := by
  have r6 := w.1.2
  have key : ∀ d, d ≤ le → ∃ c, c < 36 ∧ eS (lvF SO cols rows) mv ce pl g le (le - d) c = true := by
    intro d
    induction d with
    | zero =>
      intro _
      refine ⟨g, hg, ?_⟩
      unfold eS
      rw [Nat.sub_zero, Nat.sub_self, hhs]
      show (true && (bt1 g).getLsbD g) = true
      rw [bt1_b (by omega), decide_eq_true rfl]
      rfl
    | succ d ih =>
      intro hd
      obtain ⟨c, hc, h⟩ := ih (by omega)
      have h2 : (hsN (lvF SO cols rows) mv ce pl (le - d)).getLsbD c = true := by unfold eS at h; rw [Bool.and_eq_true] at h; exact h.1
      rw [show le - d = le - (d + 1) + 1 by omega] at h h2
      obtain ⟨c', k, q1, q2, q3, q4, q5⟩ := (hs_step w hp hp1 (by omega) hc).mp h2
      exact ⟨c', q1, (eS_step w hp hp1 hg hle hce (by omega) q1).mpr ⟨q3, k, q2, q4, by rw [q5, Int.toNat_natCast]; exact h⟩⟩
  obtain ⟨c, hc, h⟩ := key le (Nat.le_refl _)
  rw [Nat.sub_self] at h
  have h2 : ((bt1 pl) &&& (ce 0 ^^^ FF)).getLsbD c = true := by unfold eS at h; rw [Bool.and_eq_true] at h; exact h.1
  rw [BitVec.getLsbD_and, Bool.and_eq_true, bt1_b (by have := gIn_36 r6 hp; omega)] at h2
  rw [of_decide_eq_true h2.1] at h
  exact h
theorem eS_pth (w : WH SO so cols rows bc bm mv ce) {pl g le : Nat} (hp : gIn cols rows pl) (hp1 : SO pl ≠ 1) (hg : g < 36) (hle : le < 41) (hce : (ce le).getLsbD g = false) (hhs : (hsN (lvF SO cols rows) mv ce pl le).getLsbD g = true) : ∀ t, t ≤ le → eS (lvF SO cols rows) mv ce pl g le t (pth (lvF SO cols rows) mv (fun u => bkD (lvF SO cols rows) mv ce g le (le - u)) pl t) = true
  | 0, _ => eS_0 w hp hp1 hg hle hce hhs
  | t + 1, ht => by
    have ih := eS_pth w hp hp1 hg hle hce hhs t (by omega)
    obtain ⟨k, -, -, q, e⟩ := lst_step w hp hp1 hg hle hce (show t < le by omega) ih
    rw [e, Int.toNat_natCast] at q
    exact q.2
theorem pth_end (w : WH SO so cols rows bc bm mv ce) {pl g le : Nat} (hp : gIn cols rows pl) (hp1 : SO pl ≠ 1) (hg : g < 36) (hle : le < 41) (hce : (ce le).getLsbD g = false) (hhs : (hsN (lvF SO cols rows) mv ce pl le).getLsbD g = true) : pth (lvF SO cols rows) mv (fun u => bkD (lvF SO cols rows) mv ce g le (le - u)) pl le = g := by
  have h := eS_pth w hp hp1 hg hle hce hhs le (Nat.le_refl _)
  unfold eS at h
  rw [Nat.sub_self, Bool.and_eq_true] at h
  have h2 : (bt1 g).getLsbD _ = true := h.2
  rw [bt1_b (by omega)] at h2
  exact of_decide_eq_true h2
/-- the way is laid -/
theorem lw_lay (hΓ : Gd Γ) (hH : LWh σ m I cols rows so SO bc bm mv ce PLm GOm) {c0 pl g le : Nat} (hc0 : c0 < 5) (hpl : PLm c0 = pl) (hg36 : g < 36) (hp : gIn cols rows pl) (hp1 : SO pl ≠ 1) (hle : le < 41) (hlc : lcs (lvF SO cols rows) mv ce pl g = le) (hce : (ce le).getLsbD g = false) (hhs : (hsN (lvF SO cols rows) mv ce pl le).getLsbD g = true) {en : Nat → Int} (h2 : σ.2 (m + 14) = some (az 1476 en)) (z1 : z01 en) (he : ∀ u c, u ≤ le → c < 36 → en (36 * u + c) = bi (eS (lvF SO cols rows) mv ce pl g le u c)) {wy : Nat → Int} (h3 : σ.2 (m + 15) = some (ai 41 wy)) (kk : ∀ τ wy', eqOff σ τ (inb (m + 15) 1) → τ.2 (m + 15) = some (ai 41 wy') → (∀ t, t < 41 → wy' t = wyt (lvF SO cols rows) mv ce pl g t) → G Γ miX10_laysWay cX10_laysWay Q QX 0 0 471 [some (.ref m), some (.int (ii c0)), some (.int (ii le)), none, none, none] [] τ) : G Γ miX10_laysWay cX10_laysWay Q QX 0 0 352 [some (.ref m), some (.int (ii c0)), some (.int (ii le)), none, none, none] [] σ := by
  have hW := hH.2.2.2.2.2.2.2
  have c6 := hW.1.1
  have r6 := hW.1.2
  have hHs := hH
  obtain ⟨hG, h8, h9, -⟩ := hHs
  have h0 := hG.1
  have hpl36 := gIn_36 r6 hp
  obtain ⟨pt, hpt⟩ : ∃ p, p = pth (lvF SO cols rows) mv (fun u => bkD (lvF SO cols rows) mv ce g le (le - u)) pl := ⟨_, rfl⟩
  have hwy : ∀ t, wyt (lvF SO cols rows) mv ce pl g t = if t ≤ le then (pt t : Int) else (g : Int) := fun t => by
    unfold wyt
    rw [hlc, Int.toNat_natCast, ← hpt]
  have hend := pth_end hW hp hp1 hg36 hle hce hhs
  rw [← hpt] at hend
  have hpe := eS_pth hW hp hp1 hg36 hle hce hhs
  rw [← hpt] at hpe
  have hp0 : pt 0 = pl := by rw [hpt]; rfl
  have hps : ∀ t, pt (t + 1) = lst (lvF SO cols rows) mv (fun u => bkD (lvF SO cols rows) mv ce g le (le - u)) (pt t) (t + 1) := fun t => by rw [hpt]; rfl
  have hp36 : ∀ t, t ≤ le → pt t < 36 := fun t ht => by
    have h := hpe t ht
    unfold eS at h
    rw [Bool.and_eq_true] at h
    exact gIn_36 r6 (hs_in c6 r6 hW.2.1 hp hp1 t _ h.1).1
  have hw36 : ∀ t, 0 ≤ wyt (lvF SO cols rows) mv ce pl g t ∧ wyt (lvF SO cols rows) mv ce pl g t < 36 := fun t => by
    rw [hwy t]
    split
    · have := hp36 t (by omega); omega
    · omega
  clear hpt
  refine g_aload_n q_X10_laysWay_352 rfl ?_
  refine g_get fl_X10_58 q_X10_laysWay_353 (by repeat first | with_reducible assumption | with_reducible exact hput_s _ _ _ | refine (hput_n _ _ (by omega)).trans ?_ | exact hput_s _ _ _ | assumption) rfl ?_
  refine g_iconst q_X10_laysWay_356 ?_
  refine g_aload_n q_X10_laysWay_357 rfl ?_
  refine g_get fl_X10_36 q_X10_laysWay_358 (by repeat first | with_reducible assumption | with_reducible exact hput_s _ _ _ | refine (hput_n _ _ (by omega)).trans ?_ | exact hput_s _ _ _ | assumption) rfl ?_
  refine g_iload_n q_X10_laysWay_361 rfl ?_
  refine g_iaload q_X10_laysWay_362 (by repeat first | with_reducible assumption | with_reducible exact hput_s _ _ _ | refine (hput_n _ _ (by omega)).trans ?_ | exact hput_s _ _ _ | assumption) (by omega) (by omega) ?_
  refine g_topi (b := (pl : Int)) (by exact hpl) ?_
  refine g_iastore q_X10_laysWay_363 (by repeat first | with_reducible assumption | with_reducible exact hput_s _ _ _ | refine (hput_n _ _ (by omega)).trans ?_ | exact hput_s _ _ _ | assumption) (by omega) (by omega) ?_
  refine g_iconst q_X10_laysWay_364 ?_
  refine g_istore_n (L' := [_, _, _, _, _, _]) q_X10_laysWay_365 (by decide) rfl ?_
  refine g_loop2 (fun (t : Nat) (τ : AH) => t ≤ 40 ∧ eqOff σ τ (inb (m + 15) 1) ∧ ∃ wy, τ.2 (m + 15) = some (ai 41 wy) ∧ ∀ u, u ≤ t → wy u = wyt (lvF SO cols rows) mv ce pl g u) (fun t τ => G Γ _ cX10_laysWay _ _ 0 0 366 [some (.ref m), some (.int (ii c0)), some (.int (ii le)), some (.int (ii t)), none, none] [] τ) (fun t τ => 40 - t) ?_ 0 (hput σ (m + 15) (ai 41 (va_up wy 0 pl))) ⟨Nat.zero_le _, eqOff.rfl'.put ⟨by omega, by omega⟩ _, _, hput_s _ _ _, fun u hu => by
    have : u = 0 := by omega
    subst this
    rw [va_eq, hwy 0, if_pos (Nat.zero_le _), hp0]⟩
  rintro t τ ⟨ht, hE, w, t1, hw⟩ ih
  have hHt := hH.kp (σ' := τ) (eqOff.rfl'.trans hE (fun a i => by unfold inb at *; omega))
  obtain ⟨hGt, -, -, g11, g12, zb, zm, -⟩ := hHt
  have t0 := hGt.1
  have t14 := (hE.2 (m + 14) (by unfold inb; omega)).trans h2
  have hwt := hw t (Nat.le_refl _)
  refine g_iload_n q_X10_laysWay_366 rfl ?_
  refine g_bipush q_X10_laysWay_367 bp_40 ?_
  refine g_icmp_ge (tgt := 471) q_X10_laysWay_369 (by decide) ⟨by omega, by omega⟩ ⟨by omega, by omega⟩ (fun b1 => ?_) (fun b1 => ?_)
  · have e : t = 40 := by omega
    subst e
    exact g_fl (kk τ w hE t1 (fun t ht => hw t (by omega))) ⟨rfl, rfl, rfl, trivial⟩
  /- the next cell is put -/
  have put : ∀ (z : Int) (l4 : Option Value), z = wyt (lvF SO cols rows) mv ce pl g (t + 1) → G Γ miX10_laysWay cX10_laysWay Q QX 0 0 464 [some (.ref m), some (.int (ii c0)), some (.int (ii le)), some (.int (ii t)), l4, none] [.int (ii z), .int (ii ((t : Int) + 1)), .ref (m + 15)] τ := by
    intro z l4 hz
    refine g_iastore q_X10_laysWay_464 (by repeat first | with_reducible assumption | with_reducible exact hput_s _ _ _ | refine (hput_n _ _ (by omega)).trans ?_ | exact hput_s _ _ _ | assumption) (by omega) (by omega) ?_
    have hnx := ih (t + 1) (hput τ (m + 15) (ai 41 (va_up w (t + 1) z))) ⟨by omega, hE.put ⟨by omega, by omega⟩ _, _, hput_s _ _ _, fun u hu => by
      by_cases e : u = t + 1
      · rw [e, va_eq, hz]
      · rw [va_ne e]; exact hw u (by omega)⟩ (by omega)
    refine g_eq (σ2 := hput τ (m + 15) (ai 41 (va_up w (t + 1) z))) rfl rfl (by congr 3) ?_
    refine g_iinc (L' := [_, _, _, _, _, _]) q_X10_laysWay_465 rfl rfl ?_
    refine g_goto (tgt := 366) q_X10_laysWay_468 (by decide) ?_
    exact g_fl hnx ⟨rfl, rfl, rfl, rfl, trivial⟩
  refine g_iconst q_X10_laysWay_372 ?_
  refine g_istore (L' := [_, _, _, _, _, _]) q_X10_laysWay_373 (by decide) rfl ?_
  by_cases hlt : t < le
  · obtain ⟨K, hK5, hKn, hKy, hKe⟩ := lst_step hW hp hp1 hg36 hle hce hlt (hpe t (by omega))
    rw [← hps t] at hKe
    have ew : wyt (lvF SO cols rows) mv ce pl g t = (pt t : Int) := by rw [hwy t, if_pos (by omega)]
    have ew1 : wyt (lvF SO cols rows) mv ce pl g (t + 1) = (pt (t + 1) : Int) := by rw [hwy (t + 1), if_pos (by omega)]
    have hpt36 := hp36 t (by omega)
    refine g_loop (fun k => k ≤ K) (fun k : Nat => G Γ _ cX10_laysWay _ _ 0 0 375 [some (.ref m), some (.int (ii c0)), some (.int (ii le)), some (.int (ii t)), some (.int (ii k)), none] [] τ) (fun k => K - k) ?_ 0 (Nat.zero_le _)
    intro k hk ih2
    have found : k = K → G Γ miX10_laysWay cX10_laysWay Q QX 0 0 431 [some (.ref m), some (.int (ii c0)), some (.int (ii le)), some (.int (ii t)), some (.int (ii k)), none] [] τ := by
      intro ek
      subst ek
      refine g_aload_n q_X10_laysWay_431 rfl ?_
      refine g_get fl_X10_58 q_X10_laysWay_432 (by repeat first | with_reducible assumption | with_reducible exact hput_s _ _ _ | refine (hput_n _ _ (by omega)).trans ?_ | exact hput_s _ _ _ | assumption) rfl ?_
      refine g_iload_n q_X10_laysWay_435 rfl ?_
      refine g_iconst q_X10_laysWay_436 ?_
      refine g_iadd q_X10_laysWay_437 ?_
      refine g_iload_n q_X10_laysWay_438 rfl ?_
      refine g_iload_n q_X10_laysWay_439 rfl ?_
      refine g_icmp_ge (tgt := 458) q_X10_laysWay_440 (by decide) ⟨by omega, by omega⟩ ⟨by omega, by omega⟩ (fun b9 => ?_) (fun b9 => ?_)
      · omega
      refine g_aload_n q_X10_laysWay_443 rfl ?_
      refine g_aload_n q_X10_laysWay_444 rfl ?_
      refine g_get fl_X10_58 q_X10_laysWay_445 (by repeat first | with_reducible assumption | with_reducible exact hput_s _ _ _ | refine (hput_n _ _ (by omega)).trans ?_ | exact hput_s _ _ _ | assumption) rfl ?_
      refine g_iload_n q_X10_laysWay_448 rfl ?_
      refine g_iaload q_X10_laysWay_449 (by repeat first | with_reducible assumption | with_reducible exact hput_s _ _ _ | refine (hput_n _ _ (by omega)).trans ?_ | exact hput_s _ _ _ | assumption) (by omega) (by omega) ?_
      refine g_topi (b := (pt t : Int)) (by (rw [Int.toNat_natCast, hwt, ew])) ?_
      refine g_iload q_X10_laysWay_450 rfl ?_
      refine g_callV (rc' := 0) (rs' := 0) (As := [_, _]) cs_X10_250 q_X10_laysWay_452 (sp_next hΓ hGt (pt t) k hpt36 (by omega)) rfl (by repeat first | with_reducible assumption | with_reducible exact hput_s _ _ _ | refine (hput_n _ _ (by omega)).trans ?_ | exact hput_s _ _ _ | assumption) rfl rfl rfl rfl (Nat.le_of_ble_eq_true rfl) (by decide) (by decide) (by decide) (fun _ _ h => h.elim) (k_ri ?_)
      refine g_goto (tgt := 464) q_X10_laysWay_455 (by decide) ?_
      exact put _ _ (by rw [hKe, ew1])
    have more : k ≠ K → G Γ miX10_laysWay cX10_laysWay Q QX 0 0 425 [some (.ref m), some (.int (ii c0)), some (.int (ii le)), some (.int (ii t)), some (.int (ii k)), none] [] τ := by
      intro ek
      have hnx := ih2 (k + 1) (by omega) (by omega)
      refine g_iinc (L' := [_, _, _, _, _, _]) q_X10_laysWay_425 rfl rfl ?_
      refine g_goto (tgt := 375) q_X10_laysWay_428 (by decide) ?_
      exact hnx
    refine g_iload_n q_X10_laysWay_375 rfl ?_
    refine g_iload_n q_X10_laysWay_376 rfl ?_
    refine g_icmp_ge (tgt := 431) q_X10_laysWay_377 (by decide) ⟨by omega, by omega⟩ ⟨by omega, by omega⟩ (fun b2 => ?_) (fun b2 => ?_)
    · omega
    refine g_aload_n q_X10_laysWay_380 rfl ?_
    refine g_aload_n q_X10_laysWay_381 rfl ?_
    refine g_get fl_X10_58 q_X10_laysWay_382 (by repeat first | with_reducible assumption | with_reducible exact hput_s _ _ _ | refine (hput_n _ _ (by omega)).trans ?_ | exact hput_s _ _ _ | assumption) rfl ?_
    refine g_iload_n q_X10_laysWay_385 rfl ?_
    refine g_iaload q_X10_laysWay_386 (by repeat first | with_reducible assumption | with_reducible exact hput_s _ _ _ | refine (hput_n _ _ (by omega)).trans ?_ | exact hput_s _ _ _ | assumption) (by omega) (by omega) ?_
    refine g_topi (b := (pt t : Int)) (by (rw [Int.toNat_natCast, hwt, ew])) ?_
    refine g_iload q_X10_laysWay_387 rfl ?_
    refine g_iload_n q_X10_laysWay_389 rfl ?_
    refine g_iconst q_X10_laysWay_390 ?_
    refine g_iadd q_X10_laysWay_391 ?_
    refine g_topi (b := ((t + 1 : Nat) : Int)) rfl ?_
    refine g_callV (rc' := 0) (rs' := 0) (As := [_, _, _]) cs_X10_254 q_X10_laysWay_392 (sp_mayGo hΓ hGt g11 g12 zb zm (pt t) k (t + 1) hpt36 (by omega) (by omega)) rfl (by repeat first | with_reducible assumption | with_reducible exact hput_s _ _ _ | refine (hput_n _ _ (by omega)).trans ?_ | exact hput_s _ _ _ | assumption) rfl rfl rfl rfl (Nat.le_of_ble_eq_true rfl) (by decide) (by decide) (by decide) (fun _ _ h => h.elim) (k_rb ?_)
    refine g_if_eq (tgt := 425) q_X10_laysWay_395 (by decide) (bi_rg _) (fun b3 => ?_) (fun b3 => ?_)
    · exact more (fun ek => by rw [ek] at b3; rw [hKy.1] at b3; exact absurd b3 (by decide))
    have hmg := bi_t b3
    obtain ⟨n, hn⟩ : ∃ n : Nat, nxt so cols rows (pt t) k = n := ⟨(nxt so cols rows (pt t) k).toNat, by
      have h9 := (of_decide_eq_true (show decide (_ ∧ _ ∧ _) = true from hmg)).1
      have := nxt_rg (so := so) (m := k) c6 r6 hpt36
      omega⟩
    have hn36 : n < 36 := by
      have := nxt_rg (so := so) (m := k) c6 r6 hpt36
      omega
    have een : en (36 * (t + 1) + n) = bi (eS (lvF SO cols rows) mv ce pl g le (t + 1) n) := he (t + 1) n (by omega) hn36
    refine g_aload_n q_X10_laysWay_398 rfl ?_
    refine g_get fl_X10_55 q_X10_laysWay_399 (by repeat first | with_reducible assumption | with_reducible exact hput_s _ _ _ | refine (hput_n _ _ (by omega)).trans ?_ | exact hput_s _ _ _ | assumption) rfl ?_
    refine g_bipush q_X10_laysWay_402 bp_36 ?_
    refine g_iload_n q_X10_laysWay_404 rfl ?_
    refine g_iconst q_X10_laysWay_405 ?_
    refine g_iadd q_X10_laysWay_406 ?_
    refine g_imul q_X10_laysWay_407 ?_
    refine g_aload_n q_X10_laysWay_408 rfl ?_
    refine g_aload_n q_X10_laysWay_409 rfl ?_
    refine g_get fl_X10_58 q_X10_laysWay_410 (by repeat first | with_reducible assumption | with_reducible exact hput_s _ _ _ | refine (hput_n _ _ (by omega)).trans ?_ | exact hput_s _ _ _ | assumption) rfl ?_
    refine g_iload_n q_X10_laysWay_413 rfl ?_
    refine g_iaload q_X10_laysWay_414 (by repeat first | with_reducible assumption | with_reducible exact hput_s _ _ _ | refine (hput_n _ _ (by omega)).trans ?_ | exact hput_s _ _ _ | assumption) (by omega) (by omega) ?_
    refine g_topi (b := (pt t : Int)) (by (rw [Int.toNat_natCast, hwt, ew])) ?_
    refine g_iload q_X10_laysWay_415 rfl ?_
    refine g_callV (rc' := 0) (rs' := 0) (As := [_, _]) cs_X10_250 q_X10_laysWay_417 (sp_next hΓ hGt (pt t) k hpt36 (by omega)) rfl (by repeat first | with_reducible assumption | with_reducible exact hput_s _ _ _ | refine (hput_n _ _ (by omega)).trans ?_ | exact hput_s _ _ _ | assumption) rfl rfl rfl rfl (Nat.le_of_ble_eq_true rfl) (by decide) (by decide) (by decide) (fun _ _ h => h.elim) (k_ri ?_)
    rw [hn]
    refine g_iadd q_X10_laysWay_420 ?_
    refine g_zaload q_X10_laysWay_421 (by repeat first | with_reducible assumption | with_reducible exact hput_s _ _ _ | refine (hput_n _ _ (by omega)).trans ?_ | exact hput_s _ _ _ | assumption) (by omega) (by omega) ?_
    refine g_topi (b := bi (eS (lvF SO cols rows) mv ce pl g le (t + 1) n)) (by rw [← een]; congr 1) ?_
    refine g_if_ne (tgt := 431) q_X10_laysWay_422 (by decide) (bi_rg _) (fun b4 => ?_) (fun b4 => ?_)
    · refine found (Classical.byContradiction fun ek => hKn k (by omega) ⟨hmg, ?_⟩)
      rw [hn, Int.toNat_natCast]
      exact bi_t b4
    · refine more (fun ek => ?_)
      have h9 := hKy.2
      rw [← ek, hn, Int.toNat_natCast] at h9
      rw [h9] at b4
      exact absurd b4 (by decide)
  · have ew1 : wyt (lvF SO cols rows) mv ce pl g (t + 1) = wyt (lvF SO cols rows) mv ce pl g t := by
      rw [hwy, hwy, if_neg (by omega)]
      by_cases e : t ≤ le
      · have : t = le := by omega
        rw [if_pos e, this, hend]
      · rw [if_neg e]
    refine g_iload_n q_X10_laysWay_375 rfl ?_
    refine g_iload_n q_X10_laysWay_376 rfl ?_
    refine g_icmp_ge (tgt := 431) q_X10_laysWay_377 (by decide) ⟨by omega, by omega⟩ ⟨by omega, by omega⟩ (fun b2 => ?_) (fun b2 => ?_)
    · refine g_aload_n q_X10_laysWay_431 rfl ?_
      refine g_get fl_X10_58 q_X10_laysWay_432 (by repeat first | with_reducible assumption | with_reducible exact hput_s _ _ _ | refine (hput_n _ _ (by omega)).trans ?_ | exact hput_s _ _ _ | assumption) rfl ?_
      refine g_iload_n q_X10_laysWay_435 rfl ?_
      refine g_iconst q_X10_laysWay_436 ?_
      refine g_iadd q_X10_laysWay_437 ?_
      refine g_iload_n q_X10_laysWay_438 rfl ?_
      refine g_iload_n q_X10_laysWay_439 rfl ?_
      refine g_icmp_ge (tgt := 458) q_X10_laysWay_440 (by decide) ⟨by omega, by omega⟩ ⟨by omega, by omega⟩ (fun b9 => ?_) (fun b9 => ?_)
      · refine g_aload_n q_X10_laysWay_458 rfl ?_
        refine g_get fl_X10_58 q_X10_laysWay_459 (by repeat first | with_reducible assumption | with_reducible exact hput_s _ _ _ | refine (hput_n _ _ (by omega)).trans ?_ | exact hput_s _ _ _ | assumption) rfl ?_
        refine g_iload_n q_X10_laysWay_462 rfl ?_
        refine g_iaload q_X10_laysWay_463 (by repeat first | with_reducible assumption | with_reducible exact hput_s _ _ _ | refine (hput_n _ _ (by omega)).trans ?_ | exact hput_s _ _ _ | assumption) (by omega) (by omega) ?_
        refine g_topi (b := wyt (lvF SO cols rows) mv ce pl g t) (by (rw [Int.toNat_natCast, hwt])) ?_
        exact put _ _ ew1.symm
      · omega
    · omega
def lwQ (σ : AH) (m : Nat) (lv mv ce : Nat → BitVec 64) (pl g : Nat) : Option Value → AH → Prop := fun r σ' => r = some (.int (ii (lcs lv mv ce pl g))) ∧ eqOff σ σ' (inb (m + 13) 3) ∧ (∃ cm, σ'.2 (m + 13) = some (az 1476 cm)) ∧ (∃ en, σ'.2 (m + 14) = some (az 1476 en)) ∧ ∃ wy, σ'.2 (m + 15) = some (ai 41 wy) ∧ (lcs lv mv ce pl g ≠ -1 → ∀ t, t < 41 → wy t = wyt lv mv ce pl g t)
theorem sp_laysWay (hΓ : Gd Γ) (hH : LWh σ m I cols rows so SO bc bm mv ce PLm GOm) {c0 pl g : Nat} (hc0 : c0 < 5) (hpl : PLm c0 = pl) (hg : GOm c0 = g) (hg36 : g < 36) (hp : gIn cols rows pl) (hp1 : SO pl ≠ 1) (h13 : ∃ cm, σ.2 (m + 13) = some (az 1476 cm)) (h14 : ∃ en, σ.2 (m + 14) = some (az 1476 en)) (h15 : ∃ wy, σ.2 (m + 15) = some (ai 41 wy)) : Sp Γ miX10_laysWay 0 0 [.ref m, .int (ii c0)] σ (lwQ σ m (lvF SO cols rows) mv ce pl g) noX := by
  have hW := hH.2.2.2.2.2.2.2
  have r6 := hW.1.2
  have hpl36 := gIn_36 r6 hp
  have hHs := hH
  obtain ⟨hG, h8, h9, h11, h12, zb, zm, -⟩ := hHs
  have h0 := hG.1
  obtain ⟨cm, h13⟩ := h13
  obtain ⟨en, h14⟩ := h14
  obtain ⟨wy, h15⟩ := h15
  have hb0 : bc pl = bi ((ce 0).getLsbD pl) := by
    have := hW.2.2.2.1 0 pl (by decide) hpl36
    rw [show 36 * 0 + pl = pl by omega] at this
    exact this
  refine Sp_of (L := [_, _, _, _, _, _]) hΓ (by decide +kernel) rfl (Nat.le_of_ble_eq_true rfl) rfl ?_
  refine lw_clear hΓ h0 h13 h14 (fun τ hE2 t13 t14 => ?_)
  have t15 := (hE2.2 (m + 15) (by unfold inb; omega)).trans h15
  have hE : eqOff σ τ (inb (m + 13) 3) := eqOff.rfl'.trans hE2 (fun a i => by unfold inb at *; omega)
  clear hE2
  have hHt := hH.kp hE
  have hHt' := hHt
  obtain ⟨hGt, g8, g9, g11, g12, -⟩ := hHt'
  have t0 := hGt.1
  have fwd : ∀ (τ1 : AH) (b : Bool), b = (!(ce 0).getLsbD pl) → τ1 = hput τ (m + 13) (az 1476 (va_up (fun _ => 0) pl (bi b))) → eqOff τ τ1 (inb (m + 13) 1) → G Γ miX10_laysWay cX10_laysWay (lwQ σ m (lvF SO cols rows) mv ce pl g) noX 0 0 59 [some (.ref m), some (.int (ii c0)), none, none, none, none] [] τ1 := by
    intro τ1 b hb9 hτ1 hE1
    have s13 : τ1.2 (m + 13) = some (az 1476 (va_up (fun _ => 0) pl (bi b))) := by rw [hτ1]; exact hput_s _ _ _
    have s14 := (hE1.2 (m + 14) (by unfold inb; omega)).trans t14
    have hH1 := hHt.kp (eqOff.rfl'.trans hE1 (fun a i => by unfold inb at *; omega))
    clear hτ1
    have hci : cmI (lvF SO cols rows) mv ce pl 1 (va_up (fun _ => 0) pl (bi b)) := by
      refine ⟨z01_up (fun _ => Or.inl rfl) _ (bi_01 b), fun u c hu hc => ?_, fun i h1 h2 => va_ne (by omega)⟩
      have eu : u = 0 := by omega
      subst eu
      rw [show 36 * 0 + c = c by omega]
      show _ = bi (((bt1 pl) &&& (ce 0 ^^^ FF)).getLsbD c)
      rw [BitVec.getLsbD_and, bt1_b (by omega), nb (by omega)]
      by_cases ec : c = pl
      · rw [ec, va_eq, decide_eq_true rfl, Bool.true_and, hb9]
      · rw [va_ne ec, decide_eq_false ec]; rfl
    refine lw_fwd hΓ hH1 hp hp1 s13 hci (fun τ2 cm2 hE2 u13 hci2 => ?_)
    have hE02 : eqOff σ τ2 (inb (m + 13) 3) := (hE.trans hE1 (fun a i => by unfold inb at *; omega)).trans hE2 (fun a i => by unfold inb at *; omega)
    have hH2 := hH.kp hE02
    have u14 := (hE2.2 (m + 14) (by unfold inb; omega)).trans s14
    refine lw_from hΓ hH2 hc0 hg hg36 u13 hci2 (fun le hle hlc hce hhs => ?_) (fun hlc => ?_)
    · refine lw_back hΓ hH2 hc0 hg hg36 hp hp1 u13 hci2 u14 hle hce hhs (fun τ3 en3 hE3 v14 z3 he3 => ?_)
      have hE03 : eqOff σ τ3 (inb (m + 13) 3) := hE02.trans hE3 (fun a i => by unfold inb at *; omega)
      have hH3 := hH.kp hE03
      have v15 : ∃ wy, τ3.2 (m + 15) = some (ai 41 wy) := ⟨wy, by
        rw [hE3.2 (m + 15) (by unfold inb; omega), hE2.2 (m + 15) (by unfold inb; omega), hE1.2 (m + 15) (by unfold inb; omega)]
        exact t15⟩
      obtain ⟨wy3, v15⟩ := v15
      refine lw_lay hΓ hH3 hc0 hpl hg36 hp hp1 hle hlc hce hhs v14 z3 he3 v15 (fun τ4 wy4 hE4 x15 hwy4 => ?_)
      refine g_iload_n q_X10_laysWay_471 rfl ?_
      refine g_ireturn q_X10_laysWay_472.1 rfl ?_
      refine ⟨by rw [hlc], hE03.trans hE4 (fun a i => by unfold inb at *; omega), ⟨cm2, ?_⟩, ⟨en3, (hE4.2 (m + 14) (by unfold inb; omega)).trans v14⟩, wy4, x15, fun _ => hwy4⟩
      rw [hE4.2 (m + 13) (by unfold inb; omega), hE3.2 (m + 13) (by unfold inb; omega)]
      exact u13
    · refine g_iconst q_X10_laysWay_223 ?_
      refine g_ireturn q_X10_laysWay_224.1 rfl ?_
      refine ⟨by rw [hlc], hE02, ⟨cm2, u13⟩, ⟨_, u14⟩, wy, ?_, fun q => absurd hlc q⟩
      rw [hE2.2 (m + 15) (by unfold inb; omega), hE1.2 (m + 15) (by unfold inb; omega)]
      exact t15
  refine g_aload_n q_X10_laysWay_29 rfl ?_
  refine g_get fl_X10_52 q_X10_laysWay_30 (by repeat first | with_reducible assumption | with_reducible exact hput_s _ _ _ | refine (hput_n _ _ (by omega)).trans ?_ | exact hput_s _ _ _ | assumption) rfl ?_
  refine g_aload_n q_X10_laysWay_33 rfl ?_
  refine g_get fl_X10_36 q_X10_laysWay_34 (by repeat first | with_reducible assumption | with_reducible exact hput_s _ _ _ | refine (hput_n _ _ (by omega)).trans ?_ | exact hput_s _ _ _ | assumption) rfl ?_
  refine g_iload_n q_X10_laysWay_37 rfl ?_
  refine g_iaload q_X10_laysWay_38 (by repeat first | with_reducible assumption | with_reducible exact hput_s _ _ _ | refine (hput_n _ _ (by omega)).trans ?_ | exact hput_s _ _ _ | assumption) (by omega) (by omega) ?_
  refine g_topi (b := (pl : Int)) (by exact hpl) ?_
  refine g_aload_n q_X10_laysWay_39 rfl ?_
  refine g_get fl_X10_45 q_X10_laysWay_40 (by repeat first | with_reducible assumption | with_reducible exact hput_s _ _ _ | refine (hput_n _ _ (by omega)).trans ?_ | exact hput_s _ _ _ | assumption) rfl ?_
  refine g_aload_n q_X10_laysWay_43 rfl ?_
  refine g_get fl_X10_36 q_X10_laysWay_44 (by repeat first | with_reducible assumption | with_reducible exact hput_s _ _ _ | refine (hput_n _ _ (by omega)).trans ?_ | exact hput_s _ _ _ | assumption) rfl ?_
  refine g_iload_n q_X10_laysWay_47 rfl ?_
  refine g_iaload q_X10_laysWay_48 (by repeat first | with_reducible assumption | with_reducible exact hput_s _ _ _ | refine (hput_n _ _ (by omega)).trans ?_ | exact hput_s _ _ _ | assumption) (by omega) (by omega) ?_
  refine g_topi (b := (pl : Int)) (by exact hpl) ?_
  refine g_zaload q_X10_laysWay_49 (by repeat first | with_reducible assumption | with_reducible exact hput_s _ _ _ | refine (hput_n _ _ (by omega)).trans ?_ | exact hput_s _ _ _ | assumption) (by omega) (by omega) ?_
  refine g_topi (b := bi ((ce 0).getLsbD pl)) (by rw [← hb0]; congr 1) ?_
  refine g_if_ne (tgt := 57) q_X10_laysWay_50 (by decide) (bi_rg _) (fun b1 => ?_) (fun b1 => ?_)
  · refine g_iconst q_X10_laysWay_57 ?_
    refine g_zastore q_X10_laysWay_58 (by repeat first | with_reducible assumption | with_reducible exact hput_s _ _ _ | refine (hput_n _ _ (by omega)).trans ?_ | exact hput_s _ _ _ | assumption) (by omega) (by omega) (by first | exact Or.inl rfl | exact Or.inr rfl | omega) ?_
    exact fwd _ false (by rw [bi_t b1]; rfl) (by congr 3) (eqOff.rfl'.put ⟨by omega, by omega⟩ _)
  · refine g_iconst q_X10_laysWay_53 ?_
    refine g_goto (tgt := 58) q_X10_laysWay_54 (by decide) ?_
    refine g_zastore q_X10_laysWay_58 (by repeat first | with_reducible assumption | with_reducible exact hput_s _ _ _ | refine (hput_n _ _ (by omega)).trans ?_ | exact hput_s _ _ _ | assumption) (by omega) (by omega) (by first | exact Or.inl rfl | exact Or.inr rfl | omega) ?_
    have hb9 := bi_f (show bi ((ce 0).getLsbD pl) = 0 by omega)
    exact fwd _ true (by rw [hb9]; rfl) (by congr 3) (eqOff.rfl'.put ⟨by omega, by omega⟩ _)
end LY

