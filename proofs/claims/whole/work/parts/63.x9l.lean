/-! CartPaths: stops (written by gen9.py) -/
section X9L
variable {Γ : GT} {σ : AH} {x lo N : Nat} {R : Nat → Nat} {len : Nat} {tx : Nat → Int} {fa : Int} {z : PS} {l : List (Int × Int × Int)} {wl : Nat} {wr : Nat → Int} {D E : Nat}
theorem CX.ob {σ : AH} (h : CX σ x lo N R len tx fa z l wl wr) : ∃ av ve, σ.2 x = some (cpo x av wl ve) ∧ SCz σ (x + 10) z (lvZ z) ∧ x + 54 ≤ lo := by
  obtain ⟨ve, av, hh⟩ := h
  exact ⟨av, ve, hh.2.2.2.2.2.2.1, hh.2.2.2.2.2.2.2.2.1, hh.1.1⟩
theorem CX.st {σ : AH} (h : CX σ x lo N R len tx fa z l wl wr) : ∃ cm lf, STo σ (x + 50) cm lf := by
  obtain ⟨ve, av, hh⟩ := h
  exact hh.2.2.2.2.2.2.2.2.2.2.2.2.2.2.2.1
theorem sp_late (hΓ : Gd Γ) (hN : N < 1000) (hX : CX σ x lo N R len tx fa z l wl wr) (bd c s t m9 : Int) (hbd : rg bd) (hc : rg c) (hs : rg s) (ht : rg t) (hm9 : rg m9) (hD : dC R (rG ((cOK z c && cOK z s) && ((tOK t && nOK m9) && bOK bd)) R z bd) ≤ D) (hE : dS R (rG ((cOK z c && cOK z s) && ((tOK t && nOK m9) && bOK bd)) R z bd) ≤ E) : Sp Γ miX9_late (8 + D) (48 + E) [.ref x, .int (ii bd), .int (ii c), .int (ii s), .int (ii t), .int (ii m9)] σ (oQ (eQ ((cOK z c && cOK z s)) ((tOK t && nOK m9)) bd z) (aLate (pPZ z bd) (pCZ z bd) (zCa z) c.toNat s.toNat t.toNat m9.toNat) (SX σ x lo (N + 1) (rG ((cOK z c && cOK z s) && ((tOK t && nOK m9) && bOK bd)) R z bd) len tx fa z l wl wr)) (oX [xIOB, xIAE, xISE] (eQ ((cOK z c && cOK z s)) ((tOK t && nOK m9)) bd z) (SX σ x lo (N + 1) (rG ((cOK z c && cOK z s) && ((tOK t && nOK m9) && bOK bd)) R z bd) len tx fa z l wl wr)) := by
  have hX' := hX
  obtain ⟨ve, av, h1, h2, h3, h4, h5, q1, q2, -⟩ := hX'
  have hn := h4.1.1
  refine Sp_of (L := [_, _, _, _, _, _, _]) hΓ (by decide +kernel) rfl (Nat.le_of_ble_eq_true rfl) rfl ?_
  refine g_aload_n q_X9_late_0 rfl ?_
  refine g_iload_n q_X9_late_1 rfl ?_
  refine g_callV (rc' := 7 + D) (rs' := 42 + E) (As := [_]) cs_X9_133 q_X9_late_2 (sp_needCart hΓ hX c hc) rfl (by repeat first | with_reducible assumption | with_reducible exact hput_s _ _ _ | refine (hput_n _ _ (by omega)).trans ?_ | exact hput_s _ _ _ | assumption) rfl rfl rfl rfl (Nat.le_of_ble_eq_true rfl) (by decide) (by omega) (by omega) (fun E σ' h => by have hf : ((cOK z c && cOK z s)) = false := (by rw [show cOK z c = false from decide_eq_false h.2.1]; try simp only [Bool.false_and, Bool.and_false]); rw [hf, eQ_1 rfl, Bool.false_and, rG_f rfl]; exact ⟨by decide, by rw [h.1]; rfl, SX.gr hX hN h.2.2⟩) (fun v σ' hq => ?_)
  obtain ⟨rfl, e1, hσ⟩ := hq
  rw [hσ]
  clear hσ
  have c1 : cOK z c = true := decide_eq_true e1
  refine g_aload_n q_X9_late_5 rfl ?_
  refine g_iload_n q_X9_late_6 rfl ?_
  refine g_callV (rc' := 6 + D) (rs' := 36 + E) (As := [_]) cs_X9_133 q_X9_late_7 (sp_needCart hΓ hX s hs) rfl (by repeat first | with_reducible assumption | with_reducible exact hput_s _ _ _ | refine (hput_n _ _ (by omega)).trans ?_ | exact hput_s _ _ _ | assumption) rfl rfl rfl rfl (Nat.le_of_ble_eq_true rfl) (by decide) (by omega) (by omega) (fun E σ' h => by have hf : ((cOK z c && cOK z s)) = false := (by rw [show cOK z s = false from decide_eq_false h.2.1]; try simp only [Bool.false_and, Bool.and_false]); rw [hf, eQ_1 rfl, Bool.false_and, rG_f rfl]; exact ⟨by decide, by rw [h.1]; rfl, SX.gr hX hN h.2.2⟩) (fun v σ' hq => ?_)
  obtain ⟨rfl, e2, hσ⟩ := hq
  rw [hσ]
  clear hσ
  have c2 : cOK z s = true := decide_eq_true e2
  have cQ : ((cOK z c && cOK z s)) = true := by rw [c1, c2]; rfl
  rw [cQ, Bool.true_and] at hD hE ⊢
  rw [eQ_t rfl]
  refine g_iload q_X9_late_10 rfl ?_
  refine g_callS (rc' := 5 + D) (rs' := 30 + E) (As := [_]) cs_X9_190 q_X9_late_12 (sp_needTime hΓ t ht) rfl rfl rfl (Nat.le_of_ble_eq_true rfl) (by decide) (by omega) (by omega) (fun E σ' h => by have hf : ((tOK t && nOK m9)) = false := (by rw [show tOK t = false from decide_eq_false h.2.1]; try simp only [Bool.false_and, Bool.and_false]); rw [hf, eP_1 rfl, Bool.false_and, rG_f rfl]; exact ⟨by decide, by rw [h.1]; rfl, SX.gr hX hN h.2.2⟩) (fun v σ' hq => ?_)
  obtain ⟨rfl, e3, hσ⟩ := hq
  rw [hσ]
  clear hσ
  have c3 : tOK t = true := decide_eq_true e3
  refine g_iload q_X9_late_15 rfl ?_
  refine g_callS (rc' := 4 + D) (rs' := 24 + E) (As := [_]) cs_X9_314 q_X9_late_17 (sp_needStop hΓ m9 hm9) rfl rfl rfl (Nat.le_of_ble_eq_true rfl) (by decide) (by omega) (by omega) (fun E σ' h => by have hf : ((tOK t && nOK m9)) = false := (by rw [show nOK m9 = false from decide_eq_false h.2.1]; try simp only [Bool.false_and, Bool.and_false]); rw [hf, eP_1 rfl, Bool.false_and, rG_f rfl]; exact ⟨by decide, by rw [h.1]; rfl, SX.gr hX hN h.2.2⟩) (fun v σ' hq => ?_)
  obtain ⟨rfl, e4, hσ⟩ := hq
  rw [hσ]
  clear hσ
  have c4 : nOK m9 = true := decide_eq_true e4
  have cP : ((tOK t && nOK m9)) = true := by rw [c3, c4]; rfl
  have hD' := hD
  have hE' := hE
  rw [cP, Bool.true_and] at hD' hE'
  refine g_aload_n q_X9_late_20 rfl ?_
  refine g_iload_n q_X9_late_21 rfl ?_
  refine g_callV (rc' := 2) (rs' := 12) (As := [_]) cs_X9_296 q_X9_late_22 (sp_planned hΓ hX bd hbd hD' hE') rfl (by repeat first | with_reducible assumption | with_reducible exact hput_s _ _ _ | refine (hput_n _ _ (by omega)).trans ?_ | exact hput_s _ _ _ | assumption) rfl rfl rfl rfl (Nat.le_of_ble_eq_true rfl) (by decide) (by omega) (by omega) (fun E σ' h => plK h hN cP ⟨by decide, rfl⟩ ⟨by decide, rfl⟩) (fun v σ1 hq => ?_)
  obtain ⟨⟨w1, w2⟩, T, rfl, m1, m2, m3, m4, ct, cs, cl, co, P, C, k0, k1, k2, o1, o2, o3, o4⟩ := hq
  obtain ⟨i, rfl⟩ : ∃ k : Nat, c = k := ⟨c.toNat, by omega⟩
  obtain ⟨j, rfl⟩ : ∃ k : Nat, s = k := ⟨s.toNat, by omega⟩
  obtain ⟨u, rfl⟩ : ∃ k : Nat, t = k := ⟨t.toNat, by omega⟩
  obtain ⟨m, rfl⟩ : ∃ k : Nat, m9 = k := ⟨m9.toNat, by omega⟩
  rw [Int.toNat_natCast, Int.toNat_natCast, Int.toNat_natCast, Int.toNat_natCast, ← aLate_cg o4 o3 (by omega) (by omega)]
  obtain ⟨av1, ve1, kx, -, hlo⟩ := m1.ob
  obtain ⟨cm, lf, kS0, kS⟩ := m1.st
  refine g_astore (L' := [_, _, _, _, _, _, _]) q_X9_late_25 (by decide) rfl ?_
  refine g_aload_n q_X9_late_27 rfl ?_
  refine g_get fl_X9_72 q_X9_late_28 (by repeat first | with_reducible assumption | with_reducible exact hput_s _ _ _ | refine (hput_n _ _ (by omega)).trans ?_ | exact hput_s _ _ _ | assumption) rfl ?_
  refine g_aload q_X9_late_31 rfl ?_
  refine g_iload_n q_X9_late_33 rfl ?_
  refine g_iload q_X9_late_34 rfl ?_
  refine g_iload q_X9_late_36 rfl ?_
  refine g_callVN (rc' := 2) (rs' := 12) (As := [_, _, _, _]) cs_X9_317 q_X9_late_38 (sp_run9 hΓ m1 m3 k0 k1 k2 o1 j u m (by omega) (by omega) (by omega)) rfl (by repeat first | with_reducible assumption | with_reducible exact hput_s _ _ _ | refine (hput_n _ _ (by omega)).trans ?_ | exact hput_s _ _ _ | assumption) rfl rfl rfl rfl (Nat.le_of_ble_eq_true rfl) (by decide) (by decide) (by decide) (fun _ _ h => h.elim) (fun v σ2 hq => ?_)
  obtain ⟨rfl, n1, n2, ⟨lf2, n3⟩, n4, n5, n6⟩ := hq
  obtain ⟨av2, ve2, kx2, -⟩ := n1.ob
  have n30 := n3.1
  refine g_aload_n q_X9_late_41 rfl ?_
  refine g_get fl_X9_72 q_X9_late_42 (by repeat first | with_reducible assumption | with_reducible exact hput_s _ _ _ | refine (hput_n _ _ (by omega)).trans ?_ | exact hput_s _ _ _ | assumption) rfl ?_
  refine g_aload q_X9_late_45 rfl ?_
  refine g_iload_n q_X9_late_47 rfl ?_
  refine g_callVN (rc' := 2) (rs' := 12) (As := [_, _]) cs_X9_321 q_X9_late_48 (sp_delay hΓ n3 ⟨⟨ct, cs, cl, co, n4⟩, n5, n6⟩ i (by omega)) rfl (by repeat first | with_reducible assumption | with_reducible exact hput_s _ _ _ | refine (hput_n _ _ (by omega)).trans ?_ | exact hput_s _ _ _ | assumption) rfl rfl rfl rfl (Nat.le_of_ble_eq_true rfl) (by decide) (by decide) (by decide) (fun _ _ h => h.elim) (k_ri ?_)
  refine g_ireturn q_X9_late_51.1 rfl ?_
  exact ⟨eP_0 cP w1 w2, rfl, by rw [cP]; exact SX.tr (m2.trans (eqG_fX n2 (fun a i => by unfold inb at *; omega)) (fun _ _ h => h)) (SX.of n1 hN)⟩
theorem sp_slack (hΓ : Gd Γ) (hN : N < 1000) (hX : CX σ x lo N R len tx fa z l wl wr) (bd c t : Int) (hbd : rg bd) (hc : rg c) (ht : rg t) (hD : dC R (rG (cOK z c && (tOK t && bOK bd)) R z bd) ≤ D) (hE : dS R (rG (cOK z c && (tOK t && bOK bd)) R z bd) ≤ E) : Sp Γ miX9_slack (8 + D) (48 + E) [.ref x, .int (ii bd), .int (ii c), .int (ii t)] σ (oQ (eQ (cOK z c) (tOK t) bd z) (slN (pPZ z bd) (pCZ z bd) (zCa z) c.toNat t.toNat 20) (SX σ x lo (N + 1) (rG (cOK z c && (tOK t && bOK bd)) R z bd) len tx fa z l wl wr)) (oX [xIOB, xIAE, xISE] (eQ (cOK z c) (tOK t) bd z) (SX σ x lo (N + 1) (rG (cOK z c && (tOK t && bOK bd)) R z bd) len tx fa z l wl wr)) := by
  have hX' := hX
  obtain ⟨ve, av, h1, h2, h3, h4, h5, q1, q2, -⟩ := hX'
  have hn := h4.1.1
  refine Sp_of (L := [_, _, _, _, _, _]) hΓ (by decide +kernel) rfl (Nat.le_of_ble_eq_true rfl) rfl ?_
  refine g_aload_n q_X9_slack_0 rfl ?_
  refine g_iload_n q_X9_slack_1 rfl ?_
  refine g_callV (rc' := 7 + D) (rs' := 42 + E) (As := [_]) cs_X9_133 q_X9_slack_2 (sp_needCart hΓ hX c hc) rfl (by repeat first | with_reducible assumption | with_reducible exact hput_s _ _ _ | refine (hput_n _ _ (by omega)).trans ?_ | exact hput_s _ _ _ | assumption) rfl rfl rfl rfl (Nat.le_of_ble_eq_true rfl) (by decide) (by omega) (by omega) (fun E σ' h => by have hf : (cOK z c) = false := (by rw [show cOK z c = false from decide_eq_false h.2.1]; try simp only [Bool.false_and, Bool.and_false]); rw [hf, eQ_1 rfl, Bool.false_and, rG_f rfl]; exact ⟨by decide, by rw [h.1]; rfl, SX.gr hX hN h.2.2⟩) (fun v σ' hq => ?_)
  obtain ⟨rfl, e1, hσ⟩ := hq
  rw [hσ]
  clear hσ
  have c1 : cOK z c = true := decide_eq_true e1
  have cQ : (cOK z c) = true := by rw [c1]
  rw [cQ, Bool.true_and] at hD hE ⊢
  rw [eQ_t rfl]
  refine g_iload_n q_X9_slack_5 rfl ?_
  refine g_callS (rc' := 6 + D) (rs' := 36 + E) (As := [_]) cs_X9_190 q_X9_slack_6 (sp_needTime hΓ t ht) rfl rfl rfl (Nat.le_of_ble_eq_true rfl) (by decide) (by omega) (by omega) (fun E σ' h => by have hf : (tOK t) = false := (by rw [show tOK t = false from decide_eq_false h.2.1]; try simp only [Bool.false_and, Bool.and_false]); rw [hf, eP_1 rfl, Bool.false_and, rG_f rfl]; exact ⟨by decide, by rw [h.1]; rfl, SX.gr hX hN h.2.2⟩) (fun v σ' hq => ?_)
  obtain ⟨rfl, e2, hσ⟩ := hq
  rw [hσ]
  clear hσ
  have c2 : tOK t = true := decide_eq_true e2
  have cP : (tOK t) = true := by rw [c2]
  have hD' := hD
  have hE' := hE
  rw [cP, Bool.true_and] at hD' hE'
  refine g_aload_n q_X9_slack_9 rfl ?_
  refine g_iload_n q_X9_slack_10 rfl ?_
  refine g_callV (rc' := 4) (rs' := 24) (As := [_]) cs_X9_296 q_X9_slack_11 (sp_planned hΓ hX bd hbd hD' hE') rfl (by repeat first | with_reducible assumption | with_reducible exact hput_s _ _ _ | refine (hput_n _ _ (by omega)).trans ?_ | exact hput_s _ _ _ | assumption) rfl rfl rfl rfl (Nat.le_of_ble_eq_true rfl) (by decide) (by omega) (by omega) (fun E σ' h => plK h hN cP ⟨by decide, rfl⟩ ⟨by decide, rfl⟩) (fun v σ1 hq => ?_)
  obtain ⟨⟨w1, w2⟩, T, rfl, m1, m2, m3, m4, ct, cs, cl, co, P, C, k0, k1, k2, o1, o2, o3, o4⟩ := hq
  obtain ⟨i, rfl⟩ : ∃ k : Nat, c = k := ⟨c.toNat, by omega⟩
  obtain ⟨u, rfl⟩ : ∃ k : Nat, t = k := ⟨t.toNat, by omega⟩
  rw [Int.toNat_natCast, Int.toNat_natCast, ← slN_cg o4 o3 (by omega)]
  obtain ⟨-, -, -, -, hlo⟩ := m1.ob
  refine g_astore (L' := [_, _, _, _, _, _]) q_X9_slack_14 (by decide) rfl ?_
  refine g_bipush q_X9_slack_16 bp_20 ?_
  refine g_istore (L' := [_, _, _, _, _, _]) q_X9_slack_18 (by decide) rfl ?_
  refine g_loop2 (fun (m : Nat) (τ : AH) => m ≤ 20 ∧ slN P C (zCa z) i u m = slN P C (zCa z) i u 20 ∧ CX τ x lo N (rG (bOK bd) R z bd) len tx fa z l wl wr ∧ eqOff σ1 τ (inb (x + 50) 3) ∧ τ.2 (T + 5) = some (wyo (T + 5) (zCa z) ct cs cl co) ∧ τ.2 (T + 5 + 1) = some (ai 205 P) ∧ τ.2 (T + 5 + 2) = some (ai 5 C)) (fun m τ => G Γ _ cX9_slack _ _ 4 24 20 [some (.ref x), some (.int (ii bd)), some (.int (ii i)), some (.int (ii u)), some (.ref (T + 5)), some (.int (ii m))] [] τ) (fun m τ => m) ?_ 20 σ1 ⟨Nat.le_refl _, rfl, m1, eqOff.rfl', k0, k1, k2⟩
  intro m τ ⟨hm, hsl, g1, g2, g3, g4, g5⟩ ih
  obtain ⟨av1, ve1, kx, -⟩ := g1.ob
  obtain ⟨cm, lf, kS0, kS⟩ := g1.st
  refine g_iload q_X9_slack_20 rfl ?_
  refine g_iconst q_X9_slack_22 ?_
  refine g_icmp_lt (tgt := 70) q_X9_slack_23 (by decide) ⟨by omega, by omega⟩ ⟨by omega, by omega⟩ (fun b1 => ?_) (fun b1 => ?_)
  · have e : m = 0 := by omega
    subst e
    refine g_iconst q_X9_slack_70 ?_
    refine g_ireturn q_X9_slack_71.1 rfl ?_
    have n1 := g1
    have n2 := g2
    exact ⟨eP_0 cP w1 w2, by rw [← hsl]; rfl, by rw [cP]; exact SX.tr (m2.trans (eqG_fX n2 (fun a i => by unfold inb at *; omega)) (fun _ _ h => h)) (SX.of n1 hN)⟩
  obtain ⟨q, hq9⟩ : ∃ q, m = q + 1 := ⟨m - 1, by omega⟩
  refine g_aload_n q_X9_slack_26 rfl ?_
  refine g_get fl_X9_72 q_X9_slack_27 (by repeat first | with_reducible assumption | with_reducible exact hput_s _ _ _ | refine (hput_n _ _ (by omega)).trans ?_ | exact hput_s _ _ _ | assumption) rfl ?_
  refine g_aload q_X9_slack_30 rfl ?_
  refine g_iload_n q_X9_slack_32 rfl ?_
  refine g_iload_n q_X9_slack_33 rfl ?_
  refine g_iload q_X9_slack_34 rfl ?_
  refine g_callVN (rc' := 4) (rs' := 24) (As := [_, _, _, _]) cs_X9_317 q_X9_slack_36 (sp_run9 hΓ g1 m3 g3 g4 g5 o1 i u m (by omega) (by omega) (by omega)) rfl (by repeat first | with_reducible assumption | with_reducible exact hput_s _ _ _ | refine (hput_n _ _ (by omega)).trans ?_ | exact hput_s _ _ _ | assumption) rfl rfl rfl rfl (Nat.le_of_ble_eq_true rfl) (by decide) (by decide) (by decide) (fun _ _ h => h.elim) (fun v σ2 hq => ?_)
  obtain ⟨rfl, n1, n2', ⟨lf2, n3⟩, n4, n5, n6⟩ := hq
  have n2 : eqOff σ1 σ2 (inb (x + 50) 3) := g2.trans n2' (fun _ h => h)
  obtain ⟨av2, ve2, kx2, -⟩ := n1.ob
  have n30 := n3.1
  refine g_aload_n q_X9_slack_39 rfl ?_
  refine g_get fl_X9_72 q_X9_slack_40 (by repeat first | with_reducible assumption | with_reducible exact hput_s _ _ _ | refine (hput_n _ _ (by omega)).trans ?_ | exact hput_s _ _ _ | assumption) rfl ?_
  refine g_aload q_X9_slack_43 rfl ?_
  refine g_callVN (rc' := 4) (rs' := 24) (As := [_]) cs_X9_346 q_X9_slack_45 (sp_sumDelays hΓ hn.2.2 n3 ⟨⟨ct, cs, cl, co, n4⟩, n5, n6⟩) rfl (by repeat first | with_reducible assumption | with_reducible exact hput_s _ _ _ | refine (hput_n _ _ (by omega)).trans ?_ | exact hput_s _ _ _ | assumption) rfl rfl rfl rfl (Nat.le_of_ble_eq_true rfl) (by decide) (by decide) (by decide) (fun _ _ h => h.elim) (k_ri ?_)
  refine g_aload_n q_X9_slack_48 rfl ?_
  refine g_get fl_X9_72 q_X9_slack_49 (by repeat first | with_reducible assumption | with_reducible exact hput_s _ _ _ | refine (hput_n _ _ (by omega)).trans ?_ | exact hput_s _ _ _ | assumption) rfl ?_
  refine g_aload q_X9_slack_52 rfl ?_
  refine g_iload_n q_X9_slack_54 rfl ?_
  refine g_callVN (rc' := 4) (rs' := 24) (As := [_, _]) cs_X9_321 q_X9_slack_55 (sp_delay hΓ n3 ⟨⟨ct, cs, cl, co, n4⟩, n5, n6⟩ i (by omega)) rfl (by repeat first | with_reducible assumption | with_reducible exact hput_s _ _ _ | refine (hput_n _ _ (by omega)).trans ?_ | exact hput_s _ _ _ | assumption) rfl rfl rfl rfl (Nat.le_of_ble_eq_true rfl) (by decide) (by decide) (by decide) (fun _ _ h => h.elim) (k_ri ?_)
  have r1 := aLsum_rg (P := P) (C := C) (n := zCa z) (sd := i) (ti := u) (nn := m) o2 (by omega) (by omega) hn.2.2
  have r2 := aLate_rg (P := P) (C := C) (n := zCa z) (c := i) (sd := i) (ti := u) (nn := m) o2 (by omega) (by omega)
  rw [show sumN (fun c => (so6 P (zCa z) i u m 40).2.1 c - C c) (zCa z) = aLsum P C (zCa z) i u m from rfl, show (so6 P (zCa z) i u m 40).2.1 i - C i = aLate P C (zCa z) i i u m from rfl]
  refine g_icmp_ne (tgt := 64) q_X9_slack_58 (by decide) ⟨by omega, by omega⟩ ⟨by omega, by omega⟩ (fun b2 => ?_) (fun b2 => ?_)
  · have hnx := ih q σ2 ⟨by omega, by rw [← hsl, hq9]; exact (if_neg (by rw [← hq9]; exact b2)).symm, n1, n2, n4, n5, n6⟩ (by omega)
    refine g_iinc (L' := [_, _, _, _, _, _]) q_X9_slack_64 rfl rfl ?_
    refine g_fl (L2 := [some (.ref x), some (.int (ii bd)), some (.int (ii i)), some (.int (ii u)), some (.ref (T + 5)), some (.int (ii (m + -1)))]) ?_ ⟨rfl, rfl, rfl, rfl, rfl, rfl, trivial⟩
    refine g_goto (tgt := 20) q_X9_slack_67 (by decide) ?_
    rw [show (m : Int) + -1 = q by omega]
    exact hnx
  · refine g_iload q_X9_slack_61 rfl ?_
    refine g_ireturn q_X9_slack_63.1 rfl ?_
    exact ⟨eP_0 cP w1 w2, by rw [← hsl, hq9]; exact congrArg (fun w => some (Value.int (ii w))) (if_pos (by rw [← hq9]; omega)).symm, by rw [cP]; exact SX.tr (m2.trans (eqG_fX n2 (fun a i => by unfold inb at *; omega)) (fun _ _ h => h)) (SX.of n1 hN)⟩
theorem sp_critical (hΓ : Gd Γ) (hN : N < 1000) (hX : CX σ x lo N R len tx fa z l wl wr) (bd m9 : Int) (al : Bool) (hbd : rg bd) (hm9 : rg m9) (hD : dC R (rG (nOK m9 && bOK bd) R z bd) ≤ D) (hE : dS R (rG (nOK m9 && bOK bd) R z bd) ≤ E) : Sp Γ miX9_critical (8 + D) (48 + E) [.ref x, .int (ii bd), .int (ii m9), .int (ii (bi al))] σ (oQ (eP (nOK m9) bd z 1 2) (if al = true then (crN (pPZ z bd) (pCZ z bd) (zCa z) m9.toNat (zCa z)).2 else (crN (pPZ z bd) (pCZ z bd) (zCa z) m9.toNat (zCa z)).1) (SX σ x lo (N + 1) (rG (nOK m9 && bOK bd) R z bd) len tx fa z l wl wr)) (oX [xIAE, xISE] (eP (nOK m9) bd z 1 2) (SX σ x lo (N + 1) (rG (nOK m9 && bOK bd) R z bd) len tx fa z l wl wr)) := by
  have hX' := hX
  obtain ⟨ve, av, h1, h2, h3, h4, h5, q1, q2, -⟩ := hX'
  have hn := h4.1.1
  refine Sp_of (L := [_, _, _, _, _, _, _, _, _]) hΓ (by decide +kernel) rfl (Nat.le_of_ble_eq_true rfl) rfl ?_
  refine g_iload_n q_X9_critical_0 rfl ?_
  refine g_callS (rc' := 7 + D) (rs' := 42 + E) (As := [_]) cs_X9_314 q_X9_critical_1 (sp_needStop hΓ m9 hm9) rfl rfl rfl (Nat.le_of_ble_eq_true rfl) (by decide) (by omega) (by omega) (fun E σ' h => by have hf : (nOK m9) = false := (by rw [show nOK m9 = false from decide_eq_false h.2.1]; try simp only [Bool.false_and, Bool.and_false]); rw [hf, eP_1 rfl, Bool.false_and, rG_f rfl]; exact ⟨by decide, by rw [h.1]; rfl, SX.gr hX hN h.2.2⟩) (fun v σ' hq => ?_)
  obtain ⟨rfl, e1, hσ⟩ := hq
  rw [hσ]
  clear hσ
  have c1 : nOK m9 = true := decide_eq_true e1
  have cP : (nOK m9) = true := by rw [c1]
  have hD' := hD
  have hE' := hE
  rw [cP, Bool.true_and] at hD' hE'
  refine g_aload_n q_X9_critical_4 rfl ?_
  refine g_iload_n q_X9_critical_5 rfl ?_
  refine g_callV (rc' := 5) (rs' := 30) (As := [_]) cs_X9_296 q_X9_critical_6 (sp_planned hΓ hX bd hbd hD' hE') rfl (by repeat first | with_reducible assumption | with_reducible exact hput_s _ _ _ | refine (hput_n _ _ (by omega)).trans ?_ | exact hput_s _ _ _ | assumption) rfl rfl rfl rfl (Nat.le_of_ble_eq_true rfl) (by decide) (by omega) (by omega) (fun E σ' h => plK h hN cP ⟨by decide, rfl⟩ ⟨by decide, rfl⟩) (fun v σ1 hq => ?_)
  obtain ⟨⟨w1, w2⟩, T, rfl, m1, m2, m3, m4, ct, cs, cl, co, P, C, k0, k1, k2, o1, o2, o3, o4⟩ := hq
  obtain ⟨m, rfl⟩ : ∃ k : Nat, m9 = k := ⟨m9.toNat, by omega⟩
  rw [Int.toNat_natCast, ← crN_cg o4 o3 (zCa z) (Nat.le_refl _)]
  obtain ⟨-, -, -, -, hlo⟩ := m1.ob
  refine g_astore (L' := [_, _, _, _, _, _, _, _, _]) q_X9_critical_9 (by decide) rfl ?_
  refine g_iconst q_X9_critical_11 ?_
  refine g_istore (L' := [_, _, _, _, _, _, _, _, _]) q_X9_critical_12 (by decide) rfl ?_
  refine g_iconst q_X9_critical_14 ?_
  refine g_istore (L' := [_, _, _, _, _, _, _, _, _]) q_X9_critical_15 (by decide) rfl ?_
  refine g_iconst q_X9_critical_17 ?_
  refine g_istore (L' := [_, _, _, _, _, _, _, _, _]) q_X9_critical_18 (by decide) rfl ?_
  refine g_loop2 (fun (k : Nat) (τ : AH) => k ≤ zCa z ∧ CX τ x lo N (rG (bOK bd) R z bd) len tx fa z l wl wr ∧ eqOff σ1 τ (inb (x + 50) 3) ∧ τ.2 (T + 5) = some (wyo (T + 5) (zCa z) ct cs cl co) ∧ τ.2 (T + 5 + 1) = some (ai 205 P) ∧ τ.2 (T + 5 + 2) = some (ai 5 C)) (fun k τ => G Γ _ cX9_critical _ _ 5 30 20 [some (.ref x), some (.int (ii bd)), some (.int (ii m)), some (.int (ii (bi al))), some (.ref (T + 5)), some (.int (ii (crN P C (zCa z) m k).1)), some (.int (ii (crN P C (zCa z) m k).2)), some (.int (ii k)), none] [] τ) (fun k τ => zCa z - k) ?_ 0 σ1 ⟨Nat.zero_le _, m1, eqOff.rfl', k0, k1, k2⟩
  intro k τ ⟨hk, g1, g2, g3, g4, g5⟩ ih
  obtain ⟨av1, ve1, kx, -⟩ := g1.ob
  obtain ⟨cm, lf, kS0, kS⟩ := g1.st
  have hcr := crN_rg (P := P) (C := C) (n := zCa z) (nn := m) o2 (by omega) hn.2.2 k
  refine g_iload q_X9_critical_20 rfl ?_
  refine g_aload q_X9_critical_22 rfl ?_
  refine g_get fl_X9_310 q_X9_critical_24 (by repeat first | with_reducible assumption | with_reducible exact hput_s _ _ _ | refine (hput_n _ _ (by omega)).trans ?_ | exact hput_s _ _ _ | assumption) rfl ?_
  refine g_icmp_ge (tgt := 75) q_X9_critical_27 (by decide) ⟨by omega, by omega⟩ ⟨by omega, by omega⟩ (fun b1 => ?_) (fun b1 => ?_)
  · have e : k = zCa z := by omega
    subst e
    have n1 := g1
    have n2 := g2
    refine g_iload_n q_X9_critical_75 rfl ?_
    refine g_if_eq (tgt := 84) q_X9_critical_76 (by decide) (bi_rg _) (fun b2 => ?_) (fun b2 => ?_)
    · refine g_iload q_X9_critical_84 rfl ?_
      refine g_ireturn q_X9_critical_86.1 rfl ?_
      exact ⟨eP_0 cP w1 w2, by rw [if_neg (by rw [bi_f b2]; decide)], by rw [cP]; exact SX.tr (m2.trans (eqG_fX n2 (fun a i => by unfold inb at *; omega)) (fun _ _ h => h)) (SX.of n1 hN)⟩
    · refine g_iload q_X9_critical_79 rfl ?_
      refine g_goto (tgt := 86) q_X9_critical_81 (by decide) ?_
      refine g_ireturn q_X9_critical_86.1 rfl ?_
      exact ⟨eP_0 cP w1 w2, by rw [if_pos (bi_t b2)], by rw [cP]; exact SX.tr (m2.trans (eqG_fX n2 (fun a i => by unfold inb at *; omega)) (fun _ _ h => h)) (SX.of n1 hN)⟩
  refine g_aload_n q_X9_critical_30 rfl ?_
  refine g_get fl_X9_72 q_X9_critical_31 (by repeat first | with_reducible assumption | with_reducible exact hput_s _ _ _ | refine (hput_n _ _ (by omega)).trans ?_ | exact hput_s _ _ _ | assumption) rfl ?_
  refine g_aload q_X9_critical_34 rfl ?_
  refine g_iload q_X9_critical_36 rfl ?_
  refine g_iconst q_X9_critical_38 ?_
  refine g_iload_n q_X9_critical_39 rfl ?_
  refine g_callVN (rc' := 5) (rs' := 30) (As := [_, _, _, _]) cs_X9_317 q_X9_critical_40 (sp_run9 hΓ g1 m3 g3 g4 g5 o1 k 0 m (by omega) (by omega) (by omega)) rfl (by repeat first | with_reducible assumption | with_reducible exact hput_s _ _ _ | refine (hput_n _ _ (by omega)).trans ?_ | exact hput_s _ _ _ | assumption) rfl rfl rfl rfl (Nat.le_of_ble_eq_true rfl) (by decide) (by decide) (by decide) (fun _ _ h => h.elim) (fun v σ2 hq => ?_)
  obtain ⟨rfl, n1, n2', ⟨lf2, n3⟩, n4, n5, n6⟩ := hq
  have n2 : eqOff σ1 σ2 (inb (x + 50) 3) := g2.trans n2' (fun _ h => h)
  obtain ⟨av2, ve2, kx2, -⟩ := n1.ob
  have n30 := n3.1
  refine g_aload_n q_X9_critical_43 rfl ?_
  refine g_get fl_X9_72 q_X9_critical_44 (by repeat first | with_reducible assumption | with_reducible exact hput_s _ _ _ | refine (hput_n _ _ (by omega)).trans ?_ | exact hput_s _ _ _ | assumption) rfl ?_
  refine g_aload q_X9_critical_47 rfl ?_
  refine g_callVN (rc' := 5) (rs' := 30) (As := [_]) cs_X9_346 q_X9_critical_49 (sp_sumDelays hΓ hn.2.2 n3 ⟨⟨ct, cs, cl, co, n4⟩, n5, n6⟩) rfl (by repeat first | with_reducible assumption | with_reducible exact hput_s _ _ _ | refine (hput_n _ _ (by omega)).trans ?_ | exact hput_s _ _ _ | assumption) rfl rfl rfl rfl (Nat.le_of_ble_eq_true rfl) (by decide) (by decide) (by decide) (fun _ _ h => h.elim) (k_ri ?_)
  have r1 := aLsum_rg (P := P) (C := C) (n := zCa z) (sd := k) (ti := 0) (nn := m) o2 (by omega) (by omega) hn.2.2
  rw [show sumN (fun c => (so6 P (zCa z) k 0 m 40).2.1 c - C c) (zCa z) = aLsum P C (zCa z) k 0 m from rfl]
  have hnx := ih (k + 1) σ2 ⟨by omega, n1, n2, n4, n5, n6⟩ (by omega)
  refine g_istore (L' := [_, _, _, _, _, _, _, _, _]) q_X9_critical_52 (by decide) rfl ?_
  refine g_iload q_X9_critical_54 rfl ?_
  refine g_iload q_X9_critical_56 rfl ?_
  refine g_icmp_le (tgt := 69) q_X9_critical_58 (by decide) ⟨by omega, by omega⟩ ⟨by omega, by omega⟩ (fun b2 => ?_) (fun b2 => ?_)
  · rw [show crN P C (zCa z) m (k + 1) = crN P C (zCa z) m k from if_neg (by omega)] at hnx
    refine g_iinc (L' := [_, _, _, _, _, _, _, _, _]) q_X9_critical_69 rfl rfl ?_
    refine g_goto (tgt := 20) q_X9_critical_72 (by decide) ?_
    exact g_fl hnx ⟨rfl, rfl, rfl, rfl, rfl, rfl, rfl, rfl, trivial⟩
  · rw [show crN P C (zCa z) m (k + 1) = ((k : Int), aLsum P C (zCa z) k 0 m) from if_pos (by omega)] at hnx
    refine g_iload q_X9_critical_61 rfl ?_
    refine g_istore (L' := [_, _, _, _, _, _, _, _, _]) q_X9_critical_63 (by decide) rfl ?_
    refine g_iload q_X9_critical_65 rfl ?_
    refine g_istore (L' := [_, _, _, _, _, _, _, _, _]) q_X9_critical_67 (by decide) rfl ?_
    refine g_iinc (L' := [_, _, _, _, _, _, _, _, _]) q_X9_critical_69 rfl rfl ?_
    refine g_goto (tgt := 20) q_X9_critical_72 (by decide) ?_
    exact g_fl hnx ⟨rfl, rfl, rfl, rfl, rfl, rfl, rfl, rfl, trivial⟩
end X9L

