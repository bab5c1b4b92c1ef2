/-! CartPaths: what is asked of a plan (written by gen9.py) -/
section X9J
variable {Γ : GT} {σ : AH} {x lo N : Nat} {R : Nat → Nat} {len : Nat} {tx : Nat → Int} {fa : Int} {z : PS} {l : List (Int × Int × Int)} {wl : Nat} {wr : Nat → Int} {D E : Nat}
def nOK (n : Int) : Bool := decide (1 ≤ n ∧ n ≤ 20)
def neOK (c d : Int) : Bool := decide (c ≠ d)
def t9OK (t : Int) : Bool := decide (0 ≤ t ∧ t < 40)
theorem sp_move (hΓ : Gd Γ) (hN : N < 1000) (hX : CX σ x lo N R len tx fa z l wl wr) (bd c t : Int) (hbd : rg bd) (hc : rg c) (ht : rg t) (hD : dC R (rG (cOK z c && (t9OK t && bOK bd)) R z bd) ≤ D) (hE : dS R (rG (cOK z c && (t9OK t && bOK bd)) R z bd) ≤ E) : Sp Γ miX9_move (8 + D) (48 + E) [.ref x, .int (ii bd), .int (ii c), .int (ii t)] σ (oQ (eQ (cOK z c) (t9OK t) bd z) (mvs (pPZ z bd (41 * c + t + 1).toNat - pPZ z bd (41 * c + t).toNat)) (SX σ x lo (N + 1) (rG (cOK z c && (t9OK t && bOK bd)) R z bd) len tx fa z l wl wr)) (oX [xIOB, xIAE, xISE] (eQ (cOK z c) (t9OK t) bd z) (SX σ x lo (N + 1) (rG (cOK z c && (t9OK t && bOK bd)) R z bd) len tx fa z l wl wr)) := by
  have hX' := hX
  obtain ⟨ve, av, h1, h2, h3, h4, h5, q1, q2, -⟩ := hX'
  have hn := h4.1.1
  refine Sp_of (L := [_, _, _, _]) hΓ (by decide +kernel) rfl (Nat.le_of_ble_eq_true rfl) rfl ?_
  refine g_aload_n q_X9_move_0 rfl ?_
  refine g_iload_n q_X9_move_1 rfl ?_
  refine g_callV (rc' := 7 + D) (rs' := 42 + E) (As := [_]) cs_X9_133 q_X9_move_2 (sp_needCart hΓ hX c hc) rfl (by repeat first | with_reducible assumption | with_reducible exact hput_s _ _ _ | refine (hput_n _ _ (by omega)).trans ?_ | exact hput_s _ _ _ | assumption) rfl rfl rfl rfl (Nat.le_of_ble_eq_true rfl) (by decide) (by omega) (by omega) (fun E σ' h => by have hf : (cOK z c) = false := (by rw [show cOK z c = false from decide_eq_false h.2.1]; try simp only [Bool.false_and, Bool.and_false]); rw [hf, eQ_1 rfl, Bool.false_and, rG_f rfl]; exact ⟨by decide, by rw [h.1]; rfl, SX.gr hX hN h.2.2⟩) (fun v σ' hq => ?_)
  obtain ⟨rfl, e1, hσ⟩ := hq
  rw [hσ]
  clear hσ
  have c1 : cOK z c = true := decide_eq_true e1
  have cQ : (cOK z c) = true := by rw [c1]
  rw [cQ, Bool.true_and] at hD hE ⊢
  rw [eQ_t rfl]
  refine g_iload_n q_X9_move_5 rfl ?_
  refine g_if_lt (tgt := 15) q_X9_move_6 (by decide) ht (fun f2 => ?_) (fun f2 => ?_)
  · refine g_throw th_IAE q_X9_move_15.1 q_X9_move_18.1 q_X9_move_19.1 q_X9_move_22.1 rfl (by decide) (Nat.le_of_ble_eq_true rfl) (by omega) (by omega) (fun z hz => ?_)
    have hf : (t9OK t) = false := (by rw [show t9OK t = false from decide_eq_false (by omega)]; try simp only [Bool.false_and, Bool.and_false])
    rw [hf, eP_1 rfl, Bool.false_and, rG_f rfl]
    exact ⟨by decide, rfl, SX.gr hX hN ⟨_, hz, rfl⟩⟩
  refine g_iload_n q_X9_move_9 rfl ?_
  refine g_bipush q_X9_move_10 bp_40 ?_
  refine g_icmp_lt (tgt := 23) q_X9_move_12 (by decide) ht ⟨by omega, by omega⟩ (fun g2 => ?_) (fun g2 => ?_)
  case refine_2 =>
    refine g_throw th_IAE q_X9_move_15.1 q_X9_move_18.1 q_X9_move_19.1 q_X9_move_22.1 rfl (by decide) (Nat.le_of_ble_eq_true rfl) (by omega) (by omega) (fun z hz => ?_)
    have hf : (t9OK t) = false := (by rw [show t9OK t = false from decide_eq_false (by omega)]; try simp only [Bool.false_and, Bool.and_false])
    rw [hf, eP_1 rfl, Bool.false_and, rG_f rfl]
    exact ⟨by decide, rfl, SX.gr hX hN ⟨_, hz, rfl⟩⟩
  have e2 : 0 ≤ t ∧ t < 40 := by omega
  have c2 : t9OK t = true := decide_eq_true e2
  have cP : (t9OK t) = true := by rw [c2]
  have hD' := hD
  have hE' := hE
  rw [cP, Bool.true_and] at hD' hE'
  refine g_aload_n q_X9_move_23 rfl ?_
  refine g_iload_n q_X9_move_24 rfl ?_
  refine g_callV (rc' := 5) (rs' := 30) (As := [_]) cs_X9_296 q_X9_move_25 (sp_planned hΓ hX bd hbd hD' hE') rfl (by repeat first | with_reducible assumption | with_reducible exact hput_s _ _ _ | refine (hput_n _ _ (by omega)).trans ?_ | exact hput_s _ _ _ | assumption) rfl rfl rfl rfl (Nat.le_of_ble_eq_true rfl) (by decide) (by omega) (by omega) (fun E σ' h => plK h hN cP ⟨by decide, rfl⟩ ⟨by decide, rfl⟩) (fun v σ1 hq => ?_)
  obtain ⟨⟨w1, w2⟩, T, rfl, m1, m2, m3, m4, ct, cs, cl, co, P, C, k0, k1, k2, o1, o2, o3, o4⟩ := hq
  obtain ⟨i, rfl⟩ : ∃ k : Nat, c = k := ⟨c.toNat, by omega⟩
  obtain ⟨u, rfl⟩ : ∃ k : Nat, t = k := ⟨t.toNat, by omega⟩
  refine g_iload_n q_X9_move_28 rfl ?_
  refine g_iload_n q_X9_move_29 rfl ?_
  refine g_callVN (rc' := 5) (rs' := 30) (As := [_, _]) cs_X9_300 q_X9_move_30 (sp_moveOf hΓ o1 k0 k1 i u (by omega) (by omega)) rfl (by repeat first | with_reducible assumption | with_reducible exact hput_s _ _ _ | refine (hput_n _ _ (by omega)).trans ?_ | exact hput_s _ _ _ | assumption) rfl rfl rfl rfl (Nat.le_of_ble_eq_true rfl) (by decide) (by decide) (by decide) (fun _ _ h => h.elim) (k_ri ?_)
  refine g_ireturn q_X9_move_33.1 rfl ?_
  refine ⟨eP_0 cP w1 w2, ?_, by rw [cP]; exact SX.tr m2 (SX.of m1 hN)⟩
  rw [o4 _ (by omega), o4 _ (by omega), show (41 * (i : Int) + u + 1).toNat = 41 * i + (u + 1) by omega, show (41 * (i : Int) + u).toNat = 41 * i + u by omega]
theorem sp_used (hΓ : Gd Γ) (hN : N < 1000) (hX : CX σ x lo N R len tx fa z l wl wr) (bd a b : Int) (nx : Bool) (hbd : rg bd) (ha : rg a) (hb : rg b) (hD : dC R (rG (xyOK z a b && (true && bOK bd)) R z bd) ≤ D) (hE : dS R (rG (xyOK z a b && (true && bOK bd)) R z bd) ≤ E) : Sp Γ miX9_used (8 + D) (48 + E) [.ref x, .int (ii bd), .int (ii a), .int (ii b), .int (ii (bi nx))] σ (oQ (eQ (xyOK z a b) (true) bd z) (if nx = true then aLeav (pPZ z bd) (zCa z) (6 * b + a) else aUsed (pPZ z bd) (zCa z) (6 * b + a)) (SX σ x lo (N + 1) (rG (xyOK z a b && (true && bOK bd)) R z bd) len tx fa z l wl wr)) (oX [xIOB, xIAE, xISE] (eQ (xyOK z a b) (true) bd z) (SX σ x lo (N + 1) (rG (xyOK z a b && (true && bOK bd)) R z bd) len tx fa z l wl wr)) := by
  have hX' := hX
  obtain ⟨ve, av, h1, h2, h3, h4, h5, q1, q2, -⟩ := hX'
  have hn := h4.1.1
  refine Sp_of (L := [_, _, _, _, _, _, _]) hΓ (by decide +kernel) rfl (Nat.le_of_ble_eq_true rfl) rfl ?_
  refine g_aload_n q_X9_used_0 rfl ?_
  refine g_iload_n q_X9_used_1 rfl ?_
  refine g_iload_n q_X9_used_2 rfl ?_
  refine g_callV (rc' := 7 + D) (rs' := 42 + E) (As := [_, _]) cs_X9_129 q_X9_used_3 (sp_needCell hΓ hX a b ha hb) rfl (by repeat first | with_reducible assumption | with_reducible exact hput_s _ _ _ | refine (hput_n _ _ (by omega)).trans ?_ | exact hput_s _ _ _ | assumption) rfl rfl rfl rfl (Nat.le_of_ble_eq_true rfl) (by decide) (by omega) (by omega) (fun E σ' h => by have hf : (xyOK z a b) = false := (by rw [show xyOK z a b = false from decide_eq_false h.2.1]; try simp only [Bool.false_and, Bool.and_false]); rw [hf, eQ_1 rfl, Bool.false_and, rG_f rfl]; exact ⟨by decide, by rw [h.1]; rfl, SX.gr hX hN h.2.2⟩) (fun v σ' hq => ?_)
  obtain ⟨e1, rfl, hσ⟩ := hq
  rw [hσ]
  clear hσ
  have c1 : xyOK z a b = true := decide_eq_true e1
  have cQ : (xyOK z a b) = true := by rw [c1]
  rw [cQ, Bool.true_and] at hD hE ⊢
  rw [eQ_t rfl]
  have cP : true = true := rfl
  have hD' : dC R (rG (bOK bd) R z bd) ≤ D := hD
  have hE' : dS R (rG (bOK bd) R z bd) ≤ E := hE
  refine g_istore (L' := [_, _, _, _, _, _, _]) q_X9_used_6 (by decide) rfl ?_
  refine g_aload_n q_X9_used_8 rfl ?_
  refine g_iload_n q_X9_used_9 rfl ?_
  refine g_callV (rc' := 5) (rs' := 30) (As := [_]) cs_X9_296 q_X9_used_10 (sp_planned hΓ hX bd hbd hD' hE') rfl (by repeat first | with_reducible assumption | with_reducible exact hput_s _ _ _ | refine (hput_n _ _ (by omega)).trans ?_ | exact hput_s _ _ _ | assumption) rfl rfl rfl rfl (Nat.le_of_ble_eq_true rfl) (by decide) (by omega) (by omega) (fun E σ' h => plK h hN cP ⟨by decide, rfl⟩ ⟨by decide, rfl⟩) (fun v σ1 hq => ?_)
  obtain ⟨⟨w1, w2⟩, T, rfl, m1, m2, m3, m4, ct, cs, cl, co, P, C, k0, k1, k2, o1, o2, o3, o4⟩ := hq
  unfold inXY at e1
  obtain ⟨g, hg⟩ : ∃ k : Nat, 6 * b + a = k := ⟨(6 * b + a).toNat, by omega⟩
  rw [hg]
  refine g_astore (L' := [_, _, _, _, _, _, _]) q_X9_used_13 (by decide) rfl ?_
  refine g_iload q_X9_used_15 rfl ?_
  refine g_if_eq (tgt := 30) q_X9_used_17 (by decide) (bi_rg _) (fun b1 => ?_) (fun b1 => ?_)
  · refine g_aload q_X9_used_30 rfl ?_
    refine g_iload q_X9_used_32 rfl ?_
    refine g_callVN (rc' := 5) (rs' := 30) (As := [_]) cs_X9_307 q_X9_used_34 (sp_countVisitors hΓ hn.2.2 o1 k0 k1 g ⟨by omega, by omega⟩) rfl (by repeat first | with_reducible assumption | with_reducible exact hput_s _ _ _ | refine (hput_n _ _ (by omega)).trans ?_ | exact hput_s _ _ _ | assumption) rfl rfl rfl rfl (Nat.le_of_ble_eq_true rfl) (by decide) (by decide) (by decide) (fun _ _ h => h.elim) (k_ri ?_)
    refine g_ireturn q_X9_used_37.1 rfl ?_
    refine ⟨eP_0 cP w1 w2, ?_, SX.tr m2 (SX.of m1 hN)⟩
    rw [if_neg (by rw [bi_f b1]; decide), ← aUsed_cg o4]
    rfl
  · refine g_aload q_X9_used_20 rfl ?_
    refine g_iload q_X9_used_22 rfl ?_
    refine g_callVN (rc' := 5) (rs' := 30) (As := [_]) cs_X9_303 q_X9_used_24 (sp_countLeaving hΓ hn.2.2 o1 k0 k1 g ⟨by omega, by omega⟩) rfl (by repeat first | with_reducible assumption | with_reducible exact hput_s _ _ _ | refine (hput_n _ _ (by omega)).trans ?_ | exact hput_s _ _ _ | assumption) rfl rfl rfl rfl (Nat.le_of_ble_eq_true rfl) (by decide) (by decide) (by decide) (fun _ _ h => h.elim) (k_ri ?_)
    refine g_goto (tgt := 37) q_X9_used_27 (by decide) ?_
    refine g_ireturn q_X9_used_37.1 rfl ?_
    refine ⟨eP_0 cP w1 w2, ?_, SX.tr m2 (SX.of m1 hN)⟩
    rw [if_pos (bi_t b1), ← aLeav_cg o4]
    rfl
theorem sp_busiest (hΓ : Gd Γ) (hN : N < 1000) (hX : CX σ x lo N R len tx fa z l wl wr) (bd : Int) (hbd : rg bd) (hD : dC R (rG (true && bOK bd) R z bd) ≤ D) (hE : dS R (rG (true && bOK bd) R z bd) ≤ E) : Sp Γ miX9_busiest (8 + D) (48 + E) [.ref x, .int (ii bd)] σ (oQ (eP (true) bd z 1 2) ((bzN (pPZ z bd) (zCa z) 36).1) (SX σ x lo (N + 1) (rG (true && bOK bd) R z bd) len tx fa z l wl wr)) (oX [xIAE, xISE] (eP (true) bd z 1 2) (SX σ x lo (N + 1) (rG (true && bOK bd) R z bd) len tx fa z l wl wr)) := by
  have hX' := hX
  obtain ⟨ve, av, h1, h2, h3, h4, h5, q1, q2, -⟩ := hX'
  have hn := h4.1.1
  refine Sp_of (L := [_, _, _, _, _, _, _]) hΓ (by decide +kernel) rfl (Nat.le_of_ble_eq_true rfl) rfl ?_
  have cP : true = true := rfl
  have hD' : dC R (rG (bOK bd) R z bd) ≤ D := hD
  have hE' : dS R (rG (bOK bd) R z bd) ≤ E := hE
  refine g_aload_n q_X9_busiest_0 rfl ?_
  refine g_iload_n q_X9_busiest_1 rfl ?_
  refine g_callV (rc' := 6) (rs' := 36) (As := [_]) cs_X9_296 q_X9_busiest_2 (sp_planned hΓ hX bd hbd hD' hE') rfl (by repeat first | with_reducible assumption | with_reducible exact hput_s _ _ _ | refine (hput_n _ _ (by omega)).trans ?_ | exact hput_s _ _ _ | assumption) rfl rfl rfl rfl (Nat.le_of_ble_eq_true rfl) (by decide) (by omega) (by omega) (fun E σ' h => plK h hN cP ⟨by decide, rfl⟩ ⟨by decide, rfl⟩) (fun v σ1 hq => ?_)
  obtain ⟨⟨w1, w2⟩, T, rfl, m1, m2, m3, m4, ct, cs, cl, co, P, C, k0, k1, k2, o1, o2, o3, o4⟩ := hq
  rw [← bzN_cg o4]
  refine g_astore_n (L' := [_, _, _, _, _, _, _]) q_X9_busiest_5 (by decide) rfl ?_
  refine g_iconst q_X9_busiest_6 ?_
  refine g_istore_n (L' := [_, _, _, _, _, _, _]) q_X9_busiest_7 (by decide) rfl ?_
  refine g_iconst q_X9_busiest_8 ?_
  refine g_istore (L' := [_, _, _, _, _, _, _]) q_X9_busiest_9 (by decide) rfl ?_
  refine g_iconst q_X9_busiest_11 ?_
  refine g_istore (L' := [_, _, _, _, _, _, _]) q_X9_busiest_12 (by decide) rfl ?_
  refine g_loop (fun k => k ≤ 36) (fun k : Nat => G Γ _ cX9_busiest _ _ 6 36 14 [some (.ref x), some (.int (ii bd)), some (.ref (T + 5)), some (.int (ii (bzN P (zCa z) k).1)), some (.int (ii (bzN P (zCa z) k).2)), some (.int (ii k)), none] [] σ1) (fun k => 36 - k) ?_ 0 (Nat.zero_le _)
  intro k hk ih
  have hbr := bzN_rg P (zCa z) k
  have hur := aUsed_rg P (n := zCa z) k
  refine g_fl (L2 := [some (.ref x), some (.int (ii bd)), some (.ref (T + 5)), some (.int (ii (bzN P (zCa z) k).1)), some (.int (ii (bzN P (zCa z) k).2)), some (.int (ii k)), none]) ?_ ⟨rfl, rfl, rfl, rfl, rfl, rfl, trivial⟩
  refine g_iload q_X9_busiest_14 rfl ?_
  refine g_bipush q_X9_busiest_16 bp_36 ?_
  refine g_icmp_ge (tgt := 49) q_X9_busiest_18 (by decide) ⟨by omega, by omega⟩ ⟨by omega, by omega⟩ (fun b1 => ?_) (fun b1 => ?_)
  · have e : k = 36 := by omega
    subst e
    refine g_iload_n q_X9_busiest_49 rfl ?_
    refine g_ireturn q_X9_busiest_50.1 rfl ?_
    exact ⟨eP_0 cP w1 w2, rfl, SX.tr m2 (SX.of m1 hN)⟩
  refine g_aload_n q_X9_busiest_21 rfl ?_
  refine g_iload q_X9_busiest_22 rfl ?_
  refine g_callVN (rc' := 6) (rs' := 36) (As := [_]) cs_X9_307 q_X9_busiest_24 (sp_countVisitors hΓ hn.2.2 o1 k0 k1 k ⟨by omega, by omega⟩) rfl (by repeat first | with_reducible assumption | with_reducible exact hput_s _ _ _ | refine (hput_n _ _ (by omega)).trans ?_ | exact hput_s _ _ _ | assumption) rfl rfl rfl rfl (Nat.le_of_ble_eq_true rfl) (by decide) (by decide) (by decide) (fun _ _ h => h.elim) (k_ri ?_)
  rw [show cntN (fun c => decide (fstN (fun t => decide (P (41 * c + t) = (k : Int))) 41 ≠ -1)) (zCa z) = aUsed P (zCa z) k from rfl]
  refine g_istore (L' := [_, _, _, _, _, _, _]) q_X9_busiest_27 (by decide) rfl ?_
  refine g_iload q_X9_busiest_29 rfl ?_
  refine g_iload q_X9_busiest_31 rfl ?_
  refine g_icmp_le (tgt := 43) q_X9_busiest_33 (by decide) ⟨by omega, by omega⟩ ⟨by omega, by omega⟩ (fun b2 => ?_) (fun b2 => ?_)
  · have hnx := ih (k + 1) (by omega) (by omega)
    rw [show bzN P (zCa z) (k + 1) = bzN P (zCa z) k from if_neg (by omega)] at hnx
    refine g_iinc (L' := [_, _, _, _, _, _, _]) q_X9_busiest_43 rfl rfl ?_
    refine g_goto (tgt := 14) q_X9_busiest_46 (by decide) ?_
    exact g_fl hnx ⟨rfl, rfl, rfl, rfl, rfl, rfl, trivial⟩
  · have hnx := ih (k + 1) (by omega) (by omega)
    rw [show bzN P (zCa z) (k + 1) = ((k : Int), aUsed P (zCa z) k) from if_pos (by omega)] at hnx
    refine g_iload q_X9_busiest_36 rfl ?_
    refine g_istore (L' := [_, _, _, _, _, _, _]) q_X9_busiest_38 (by decide) rfl ?_
    refine g_iload q_X9_busiest_40 rfl ?_
    refine g_istore_n (L' := [_, _, _, _, _, _, _]) q_X9_busiest_42 (by decide) rfl ?_
    refine g_iinc (L' := [_, _, _, _, _, _, _]) q_X9_busiest_43 rfl rfl ?_
    refine g_goto (tgt := 14) q_X9_busiest_46 (by decide) ?_
    exact g_fl hnx ⟨rfl, rfl, rfl, rfl, rfl, rfl, trivial⟩
theorem sp_waits (hΓ : Gd Γ) (hN : N < 1000) (hX : CX σ x lo N R len tx fa z l wl wr) (bd : Int) (hbd : rg bd) (hD : dC R (rG (true && bOK bd) R z bd) ≤ D) (hE : dS R (rG (true && bOK bd) R z bd) ≤ E) : Sp Γ miX9_waits (8 + D) (48 + E) [.ref x, .int (ii bd)] σ (oQ (eP (true) bd z 1 2) (aWait (pPZ z bd) (pCZ z bd) (zCa z)) (SX σ x lo (N + 1) (rG (true && bOK bd) R z bd) len tx fa z l wl wr)) (oX [xIAE, xISE] (eP (true) bd z 1 2) (SX σ x lo (N + 1) (rG (true && bOK bd) R z bd) len tx fa z l wl wr)) := by
  have hX' := hX
  obtain ⟨ve, av, h1, h2, h3, h4, h5, q1, q2, -⟩ := hX'
  have hn := h4.1.1
  refine Sp_of (L := [_, _, _, _, _]) hΓ (by decide +kernel) rfl (Nat.le_of_ble_eq_true rfl) rfl ?_
  have cP : true = true := rfl
  have hD' : dC R (rG (bOK bd) R z bd) ≤ D := hD
  have hE' : dS R (rG (bOK bd) R z bd) ≤ E := hE
  refine g_aload_n q_X9_waits_0 rfl ?_
  refine g_iload_n q_X9_waits_1 rfl ?_
  refine g_callV (rc' := 6) (rs' := 36) (As := [_]) cs_X9_296 q_X9_waits_2 (sp_planned hΓ hX bd hbd hD' hE') rfl (by repeat first | with_reducible assumption | with_reducible exact hput_s _ _ _ | refine (hput_n _ _ (by omega)).trans ?_ | exact hput_s _ _ _ | assumption) rfl rfl rfl rfl (Nat.le_of_ble_eq_true rfl) (by decide) (by omega) (by omega) (fun E σ' h => plK h hN cP ⟨by decide, rfl⟩ ⟨by decide, rfl⟩) (fun v σ1 hq => ?_)
  obtain ⟨⟨w1, w2⟩, T, rfl, m1, m2, m3, m4, ct, cs, cl, co, P, C, k0, k1, k2, o1, o2, o3, o4⟩ := hq
  rw [← aWait_cg o4 o3]
  refine g_astore_n (L' := [_, _, _, _, _]) q_X9_waits_5 (by decide) rfl ?_
  refine g_iconst q_X9_waits_6 ?_
  refine g_istore_n (L' := [_, _, _, _, _]) q_X9_waits_7 (by decide) rfl ?_
  refine g_iconst q_X9_waits_8 ?_
  refine g_istore (L' := [_, _, _, _, _]) q_X9_waits_9 (by decide) rfl ?_
  refine g_loop (fun k => k ≤ zCa z) (fun k : Nat => G Γ _ cX9_waits _ _ 6 36 11 [some (.ref x), some (.int (ii bd)), some (.ref (T + 5)), some (.int (ii (aWait P C k))), some (.int (ii k))] [] σ1) (fun k => zCa z - k) ?_ 0 (Nat.zero_le _)
  intro k hk ih
  refine g_iload q_X9_waits_11 rfl ?_
  refine g_aload_n q_X9_waits_13 rfl ?_
  refine g_get fl_X9_310 q_X9_waits_14 (by repeat first | with_reducible assumption | with_reducible exact hput_s _ _ _ | refine (hput_n _ _ (by omega)).trans ?_ | exact hput_s _ _ _ | assumption) rfl ?_
  refine g_icmp_ge (tgt := 43) q_X9_waits_17 (by decide) ⟨by omega, by omega⟩ ⟨by omega, by omega⟩ (fun b1 => ?_) (fun b1 => ?_)
  · have e : k = zCa z := by omega
    subst e
    refine g_iload_n q_X9_waits_43 rfl ?_
    refine g_ireturn q_X9_waits_44.1 rfl ?_
    exact ⟨eP_0 cP w1 w2, rfl, SX.tr m2 (SX.of m1 hN)⟩
  refine g_iload_n q_X9_waits_20 rfl ?_
  refine g_aload_n q_X9_waits_21 rfl ?_
  refine g_get fl_X9_187 q_X9_waits_22 (by repeat first | with_reducible assumption | with_reducible exact hput_s _ _ _ | refine (hput_n _ _ (by omega)).trans ?_ | exact hput_s _ _ _ | assumption) rfl ?_
  refine g_iload q_X9_waits_25 rfl ?_
  refine g_iaload q_X9_waits_27 (by repeat first | with_reducible assumption | with_reducible exact hput_s _ _ _ | refine (hput_n _ _ (by omega)).trans ?_ | exact hput_s _ _ _ | assumption) (by omega) (by omega) ?_
  refine g_aload_n q_X9_waits_28 rfl ?_
  refine g_iload q_X9_waits_29 rfl ?_
  refine g_callVN (rc' := 6) (rs' := 36) (As := [_]) cs_X9_311 q_X9_waits_31 (sp_countSteps hΓ o1 k0 k1 k (by omega)) rfl (by repeat first | with_reducible assumption | with_reducible exact hput_s _ _ _ | refine (hput_n _ _ (by omega)).trans ?_ | exact hput_s _ _ _ | assumption) rfl rfl rfl rfl (Nat.le_of_ble_eq_true rfl) (by decide) (by decide) (by decide) (fun _ _ h => h.elim) (k_ri ?_)
  rw [show cntN (fun t => decide (P (41 * k + (t + 1)) ≠ P (41 * k + t))) 40 = aStep P k from rfl]
  have hnx := ih (k + 1) (by omega) (by omega)
  refine g_isub q_X9_waits_34 ?_
  refine g_iadd q_X9_waits_35 ?_
  refine g_istore_n (L' := [_, _, _, _, _]) q_X9_waits_36 (by decide) rfl ?_
  refine g_iinc (L' := [_, _, _, _, _]) q_X9_waits_37 rfl rfl ?_
  refine g_goto (tgt := 11) q_X9_waits_40 (by decide) ?_
  exact hnx
theorem sp_who (hΓ : Gd Γ) (hN : N < 1000) (hX : CX σ x lo N R len tx fa z l wl wr) (bd a b t : Int) (hbd : rg bd) (ha : rg a) (hb : rg b) (ht : rg t) (hD : dC R (rG (xyOK z a b && (tOK t && bOK bd)) R z bd) ≤ D) (hE : dS R (rG (xyOK z a b && (tOK t && bOK bd)) R z bd) ≤ E) : Sp Γ miX9_who (8 + D) (48 + E) [.ref x, .int (ii bd), .int (ii a), .int (ii b), .int (ii t)] σ (oQ (eQ (xyOK z a b) (tOK t) bd z) (aWho (pPZ z bd) (zCa z) (6 * b + a) t.toNat) (SX σ x lo (N + 1) (rG (xyOK z a b && (tOK t && bOK bd)) R z bd) len tx fa z l wl wr)) (oX [xIOB, xIAE, xISE] (eQ (xyOK z a b) (tOK t) bd z) (SX σ x lo (N + 1) (rG (xyOK z a b && (tOK t && bOK bd)) R z bd) len tx fa z l wl wr)) := by
  have hX' := hX
  obtain ⟨ve, av, h1, h2, h3, h4, h5, q1, q2, -⟩ := hX'
  have hn := h4.1.1
  refine Sp_of (L := [_, _, _, _, _, _]) hΓ (by decide +kernel) rfl (Nat.le_of_ble_eq_true rfl) rfl ?_
  refine g_aload_n q_X9_who_0 rfl ?_
  refine g_iload_n q_X9_who_1 rfl ?_
  refine g_iload_n q_X9_who_2 rfl ?_
  refine g_callV (rc' := 7 + D) (rs' := 42 + E) (As := [_, _]) cs_X9_129 q_X9_who_3 (sp_needCell hΓ hX a b ha hb) rfl (by repeat first | with_reducible assumption | with_reducible exact hput_s _ _ _ | refine (hput_n _ _ (by omega)).trans ?_ | exact hput_s _ _ _ | assumption) rfl rfl rfl rfl (Nat.le_of_ble_eq_true rfl) (by decide) (by omega) (by omega) (fun E σ' h => by have hf : (xyOK z a b) = false := (by rw [show xyOK z a b = false from decide_eq_false h.2.1]; try simp only [Bool.false_and, Bool.and_false]); rw [hf, eQ_1 rfl, Bool.false_and, rG_f rfl]; exact ⟨by decide, by rw [h.1]; rfl, SX.gr hX hN h.2.2⟩) (fun v σ' hq => ?_)
  obtain ⟨e1, rfl, hσ⟩ := hq
  rw [hσ]
  clear hσ
  have c1 : xyOK z a b = true := decide_eq_true e1
  have cQ : (xyOK z a b) = true := by rw [c1]
  rw [cQ, Bool.true_and] at hD hE ⊢
  rw [eQ_t rfl]
  refine g_istore (L' := [_, _, _, _, _, _]) q_X9_who_6 (by decide) rfl ?_
  refine g_iload q_X9_who_8 rfl ?_
  refine g_callS (rc' := 6 + D) (rs' := 36 + E) (As := [_]) cs_X9_190 q_X9_who_10 (sp_needTime hΓ t ht) rfl rfl rfl (Nat.le_of_ble_eq_true rfl) (by decide) (by omega) (by omega) (fun E σ' h => by have hf : (tOK t) = false := (by rw [show tOK t = false from decide_eq_false h.2.1]; try simp only [Bool.false_and, Bool.and_false]); rw [hf, eP_1 rfl, Bool.false_and, rG_f rfl]; exact ⟨by decide, by rw [h.1]; rfl, SX.gr hX hN h.2.2⟩) (fun v σ' hq => ?_)
  obtain ⟨rfl, e2, hσ⟩ := hq
  rw [hσ]
  clear hσ
  have c2 : tOK t = true := decide_eq_true e2
  have cP : (tOK t) = true := by rw [c2]
  have hD' := hD
  have hE' := hE
  rw [cP, Bool.true_and] at hD' hE'
  refine g_aload_n q_X9_who_13 rfl ?_
  refine g_iload_n q_X9_who_14 rfl ?_
  refine g_callV (rc' := 4) (rs' := 24) (As := [_]) cs_X9_296 q_X9_who_15 (sp_planned hΓ hX bd hbd hD' hE') rfl (by repeat first | with_reducible assumption | with_reducible exact hput_s _ _ _ | refine (hput_n _ _ (by omega)).trans ?_ | exact hput_s _ _ _ | assumption) rfl rfl rfl rfl (Nat.le_of_ble_eq_true rfl) (by decide) (by omega) (by omega) (fun E σ' h => plK h hN cP ⟨by decide, rfl⟩ ⟨by decide, rfl⟩) (fun v σ1 hq => ?_)
  obtain ⟨⟨w1, w2⟩, T, rfl, m1, m2, m3, m4, ct, cs, cl, co, P, C, k0, k1, k2, o1, o2, o3, o4⟩ := hq
  unfold inXY at e1
  obtain ⟨g, hg⟩ : ∃ k : Nat, 6 * b + a = k := ⟨(6 * b + a).toNat, by omega⟩
  rw [hg]
  obtain ⟨u, rfl⟩ : ∃ k : Nat, t = k := ⟨t.toNat, by omega⟩
  rw [Int.toNat_natCast]
  refine g_iload q_X9_who_18 rfl ?_
  refine g_iload q_X9_who_20 rfl ?_
  refine g_callVN (rc' := 4) (rs' := 24) (As := [_, _]) cs_X9_333 q_X9_who_22 (sp_cartIn hΓ hn.2.2 o1 k0 k1 g ⟨by omega, by omega⟩ u (by omega)) rfl (by repeat first | with_reducible assumption | with_reducible exact hput_s _ _ _ | refine (hput_n _ _ (by omega)).trans ?_ | exact hput_s _ _ _ | assumption) rfl rfl rfl rfl (Nat.le_of_ble_eq_true rfl) (by decide) (by decide) (by decide) (fun _ _ h => h.elim) (k_ri ?_)
  refine g_ireturn q_X9_who_25.1 rfl ?_
  refine ⟨eP_0 cP w1 w2, ?_, by rw [cP]; exact SX.tr m2 (SX.of m1 hN)⟩
  rw [← aWho_cg o4 _ (by omega)]
  rfl
theorem sp_near (hΓ : Gd Γ) (hN : N < 1000) (hX : CX σ x lo N R len tx fa z l wl wr) (bd c d : Int) (wh : Bool) (hbd : rg bd) (hc : rg c) (hd : rg d) (hD : dC R (rG ((cOK z c && cOK z d) && (neOK c d && bOK bd)) R z bd) ≤ D) (hE : dS R (rG ((cOK z c && cOK z d) && (neOK c d && bOK bd)) R z bd) ≤ E) : Sp Γ miX9_near (8 + D) (48 + E) [.ref x, .int (ii bd), .int (ii c), .int (ii d), .int (ii (bi wh))] σ (oQ (eQ ((cOK z c && cOK z d)) (neOK c d) bd z) (if wh = true then (nrN (pPZ z bd) c.toNat d.toNat 40).2 else (nrN (pPZ z bd) c.toNat d.toNat 40).1) (SX σ x lo (N + 1) (rG ((cOK z c && cOK z d) && (neOK c d && bOK bd)) R z bd) len tx fa z l wl wr)) (oX [xIOB, xIAE, xISE] (eQ ((cOK z c && cOK z d)) (neOK c d) bd z) (SX σ x lo (N + 1) (rG ((cOK z c && cOK z d) && (neOK c d && bOK bd)) R z bd) len tx fa z l wl wr)) := by
  have hX' := hX
  obtain ⟨ve, av, h1, h2, h3, h4, h5, q1, q2, -⟩ := hX'
  have hn := h4.1.1
  refine Sp_of (L := [_, _, _, _, _, _, _, _, _, _]) hΓ (by decide +kernel) rfl (Nat.le_of_ble_eq_true rfl) rfl ?_
  refine g_aload_n q_X9_near_0 rfl ?_
  refine g_iload_n q_X9_near_1 rfl ?_
  refine g_callV (rc' := 7 + D) (rs' := 42 + E) (As := [_]) cs_X9_133 q_X9_near_2 (sp_needCart hΓ hX c hc) rfl (by repeat first | with_reducible assumption | with_reducible exact hput_s _ _ _ | refine (hput_n _ _ (by omega)).trans ?_ | exact hput_s _ _ _ | assumption) rfl rfl rfl rfl (Nat.le_of_ble_eq_true rfl) (by decide) (by omega) (by omega) (fun E σ' h => by have hf : ((cOK z c && cOK z d)) = false := (by rw [show cOK z c = false from decide_eq_false h.2.1]; try simp only [Bool.false_and, Bool.and_false]); rw [hf, eQ_1 rfl, Bool.false_and, rG_f rfl]; exact ⟨by decide, by rw [h.1]; rfl, SX.gr hX hN h.2.2⟩) (fun v σ' hq => ?_)
  obtain ⟨rfl, e1, hσ⟩ := hq
  rw [hσ]
  clear hσ
  have c1 : cOK z c = true := decide_eq_true e1
  refine g_aload_n q_X9_near_5 rfl ?_
  refine g_iload_n q_X9_near_6 rfl ?_
  refine g_callV (rc' := 6 + D) (rs' := 36 + E) (As := [_]) cs_X9_133 q_X9_near_7 (sp_needCart hΓ hX d hd) rfl (by repeat first | with_reducible assumption | with_reducible exact hput_s _ _ _ | refine (hput_n _ _ (by omega)).trans ?_ | exact hput_s _ _ _ | assumption) rfl rfl rfl rfl (Nat.le_of_ble_eq_true rfl) (by decide) (by omega) (by omega) (fun E σ' h => by have hf : ((cOK z c && cOK z d)) = false := (by rw [show cOK z d = false from decide_eq_false h.2.1]; try simp only [Bool.false_and, Bool.and_false]); rw [hf, eQ_1 rfl, Bool.false_and, rG_f rfl]; exact ⟨by decide, by rw [h.1]; rfl, SX.gr hX hN h.2.2⟩) (fun v σ' hq => ?_)
  obtain ⟨rfl, e2, hσ⟩ := hq
  rw [hσ]
  clear hσ
  have c2 : cOK z d = true := decide_eq_true e2
  have cQ : ((cOK z c && cOK z d)) = true := by rw [c1, c2]; rfl
  rw [cQ, Bool.true_and] at hD hE ⊢
  rw [eQ_t rfl]
  refine g_iload_n q_X9_near_10 rfl ?_
  refine g_iload_n q_X9_near_11 rfl ?_
  refine g_callS (rc' := 5 + D) (rs' := 30 + E) (As := [_, _]) cs_X9_166 q_X9_near_12 (sp_needTwo hΓ c d hc hd) rfl rfl rfl (Nat.le_of_ble_eq_true rfl) (by decide) (by omega) (by omega) (fun E σ' h => by have hf : (neOK c d) = false := (by rw [show neOK c d = false from decide_eq_false h.2.1]; try simp only [Bool.false_and, Bool.and_false]); rw [hf, eP_1 rfl, Bool.false_and, rG_f rfl]; exact ⟨by decide, by rw [h.1]; rfl, SX.gr hX hN h.2.2⟩) (fun v σ' hq => ?_)
  obtain ⟨rfl, e3, hσ⟩ := hq
  rw [hσ]
  clear hσ
  have c3 : neOK c d = true := decide_eq_true e3
  have cP : (neOK c d) = true := by rw [c3]
  have hD' := hD
  have hE' := hE
  rw [cP, Bool.true_and] at hD' hE'
  refine g_aload_n q_X9_near_15 rfl ?_
  refine g_iload_n q_X9_near_16 rfl ?_
  refine g_callV (rc' := 3) (rs' := 18) (As := [_]) cs_X9_296 q_X9_near_17 (sp_planned hΓ hX bd hbd hD' hE') rfl (by repeat first | with_reducible assumption | with_reducible exact hput_s _ _ _ | refine (hput_n _ _ (by omega)).trans ?_ | exact hput_s _ _ _ | assumption) rfl rfl rfl rfl (Nat.le_of_ble_eq_true rfl) (by decide) (by omega) (by omega) (fun E σ' h => plK h hN cP ⟨by decide, rfl⟩ ⟨by decide, rfl⟩) (fun v σ1 hq => ?_)
  obtain ⟨⟨w1, w2⟩, T, rfl, m1, m2, m3, m4, ct, cs, cl, co, P, C, k0, k1, k2, o1, o2, o3, o4⟩ := hq
  obtain ⟨i, rfl⟩ : ∃ k : Nat, c = k := ⟨c.toNat, by omega⟩
  obtain ⟨j, rfl⟩ : ∃ k : Nat, d = k := ⟨d.toNat, by omega⟩
  rw [Int.toNat_natCast, Int.toNat_natCast, ← nrN_cg o4 (by omega) (by omega) 40 (by decide)]
  refine g_astore (L' := [_, _, _, _, _, _, _, _, _, _]) q_X9_near_20 (by decide) rfl ?_
  refine g_aload q_X9_near_22 rfl ?_
  refine g_iload_n q_X9_near_24 rfl ?_
  refine g_iload_n q_X9_near_25 rfl ?_
  refine g_iconst q_X9_near_26 ?_
  refine g_callVN (rc' := 3) (rs' := 18) (As := [_, _, _]) cs_X9_336 q_X9_near_27 (sp_apart hΓ o1 k0 k1 i j 0 (by omega) (by omega) (by decide)) rfl (by repeat first | with_reducible assumption | with_reducible exact hput_s _ _ _ | refine (hput_n _ _ (by omega)).trans ?_ | exact hput_s _ _ _ | assumption) rfl rfl rfl rfl (Nat.le_of_ble_eq_true rfl) (by decide) (by decide) (by decide) (fun _ _ h => h.elim) (k_ri ?_)
  rw [show aprt (P (41 * i + 0)) (P (41 * j + 0)) = (nrN P i j 0).1 from rfl]
  refine g_istore (L' := [_, _, _, _, _, _, _, _, _, _]) q_X9_near_30 (by decide) rfl ?_
  refine g_iconst q_X9_near_32 ?_
  refine g_istore (L' := [_, _, _, _, _, _, _, _, _, _]) q_X9_near_33 (by decide) rfl ?_
  refine g_iconst q_X9_near_35 ?_
  refine g_istore (L' := [_, _, _, _, _, _, _, _, _, _]) q_X9_near_36 (by decide) rfl ?_
  refine g_loop (fun k => k ≤ 40) (fun k : Nat => G Γ _ cX9_near _ _ 3 18 38 [some (.ref x), some (.int (ii bd)), some (.int (ii i)), some (.int (ii j)), some (.int (ii (bi wh))), some (.ref (T + 5)), some (.int (ii (nrN P i j k).1)), some (.int (ii (nrN P i j k).2)), some (.int (ii ((k + 1 : Nat) : Int))), none] [] σ1) (fun k => 40 - k) ?_ 0 (Nat.zero_le _)
  intro k hk ih
  have hr1 := nrN_rg o1 i j k
  refine g_iload q_X9_near_38 rfl ?_
  refine g_bipush q_X9_near_40 bp_40 ?_
  refine g_icmp_gt (tgt := 77) q_X9_near_42 (by decide) ⟨by omega, by omega⟩ ⟨by omega, by omega⟩ (fun b1 => ?_) (fun b1 => ?_)
  · have e : k = 40 := by omega
    subst e
    refine g_iload q_X9_near_77 rfl ?_
    refine g_if_eq (tgt := 87) q_X9_near_79 (by decide) (bi_rg _) (fun b2 => ?_) (fun b2 => ?_)
    · refine g_iload q_X9_near_87 rfl ?_
      refine g_ireturn q_X9_near_89.1 rfl ?_
      exact ⟨eP_0 cP w1 w2, by rw [if_neg (by rw [bi_f b2]; decide)], by rw [cP]; exact SX.tr m2 (SX.of m1 hN)⟩
    · refine g_iload q_X9_near_82 rfl ?_
      refine g_goto (tgt := 89) q_X9_near_84 (by decide) ?_
      refine g_ireturn q_X9_near_89.1 rfl ?_
      exact ⟨eP_0 cP w1 w2, by rw [if_pos (bi_t b2)], by rw [cP]; exact SX.tr m2 (SX.of m1 hN)⟩
  refine g_aload q_X9_near_45 rfl ?_
  refine g_iload_n q_X9_near_47 rfl ?_
  refine g_iload_n q_X9_near_48 rfl ?_
  refine g_iload q_X9_near_49 rfl ?_
  refine g_callVN (rc' := 3) (rs' := 18) (As := [_, _, _]) cs_X9_336 q_X9_near_51 (sp_apart hΓ o1 k0 k1 i j (k + 1) (by omega) (by omega) (by omega)) rfl (by repeat first | with_reducible assumption | with_reducible exact hput_s _ _ _ | refine (hput_n _ _ (by omega)).trans ?_ | exact hput_s _ _ _ | assumption) rfl rfl rfl rfl (Nat.le_of_ble_eq_true rfl) (by decide) (by decide) (by decide) (fun _ _ h => h.elim) (k_ri ?_)
  have hr2 := aprt_rg (o1 (41 * i + (k + 1))) (o1 (41 * j + (k + 1)))
  have hnx := ih (k + 1) (by omega) (by omega)
  refine g_istore (L' := [_, _, _, _, _, _, _, _, _, _]) q_X9_near_54 (by decide) rfl ?_
  refine g_iload q_X9_near_56 rfl ?_
  refine g_iload q_X9_near_58 rfl ?_
  refine g_icmp_ge (tgt := 71) q_X9_near_60 (by decide) ⟨by omega, by omega⟩ ⟨by omega, by omega⟩ (fun b2 => ?_) (fun b2 => ?_)
  · rw [show nrN P i j (k + 1) = nrN P i j k from if_neg (by omega)] at hnx
    refine g_iinc (L' := [_, _, _, _, _, _, _, _, _, _]) q_X9_near_71 rfl rfl ?_
    refine g_goto (tgt := 38) q_X9_near_74 (by decide) ?_
    exact g_fl hnx ⟨rfl, rfl, rfl, rfl, rfl, rfl, rfl, rfl, rfl, trivial⟩
  · rw [show nrN P i j (k + 1) = (aprt (P (41 * i + (k + 1))) (P (41 * j + (k + 1))), ((k + 1 : Nat) : Int)) from if_pos (by omega)] at hnx
    refine g_iload q_X9_near_63 rfl ?_
    refine g_istore (L' := [_, _, _, _, _, _, _, _, _, _]) q_X9_near_65 (by decide) rfl ?_
    refine g_iload q_X9_near_67 rfl ?_
    refine g_istore (L' := [_, _, _, _, _, _, _, _, _, _]) q_X9_near_69 (by decide) rfl ?_
    refine g_iinc (L' := [_, _, _, _, _, _, _, _, _, _]) q_X9_near_71 rfl rfl ?_
    refine g_goto (tgt := 38) q_X9_near_74 (by decide) ?_
    exact g_fl hnx ⟨rfl, rfl, rfl, rfl, rfl, rfl, rfl, rfl, rfl, trivial⟩
theorem sp_follows (hΓ : Gd Γ) (hN : N < 1000) (hX : CX σ x lo N R len tx fa z l wl wr) (bd c d : Int) (hbd : rg bd) (hc : rg c) (hd : rg d) (hD : dC R (rG ((cOK z c && cOK z d) && (neOK c d && bOK bd)) R z bd) ≤ D) (hE : dS R (rG ((cOK z c && cOK z d) && (neOK c d && bOK bd)) R z bd) ≤ E) : Sp Γ miX9_follows (8 + D) (48 + E) [.ref x, .int (ii bd), .int (ii c), .int (ii d)] σ (oQ (eQ ((cOK z c && cOK z d)) (neOK c d) bd z) (aFoll (pPZ z bd) c.toNat d.toNat) (SX σ x lo (N + 1) (rG ((cOK z c && cOK z d) && (neOK c d && bOK bd)) R z bd) len tx fa z l wl wr)) (oX [xIOB, xIAE, xISE] (eQ ((cOK z c && cOK z d)) (neOK c d) bd z) (SX σ x lo (N + 1) (rG ((cOK z c && cOK z d) && (neOK c d && bOK bd)) R z bd) len tx fa z l wl wr)) := by
  have hX' := hX
  obtain ⟨ve, av, h1, h2, h3, h4, h5, q1, q2, -⟩ := hX'
  have hn := h4.1.1
  refine Sp_of (L := [_, _, _, _, _, _, _, _]) hΓ (by decide +kernel) rfl (Nat.le_of_ble_eq_true rfl) rfl ?_
  refine g_aload_n q_X9_follows_0 rfl ?_
  refine g_iload_n q_X9_follows_1 rfl ?_
  refine g_callV (rc' := 7 + D) (rs' := 42 + E) (As := [_]) cs_X9_133 q_X9_follows_2 (sp_needCart hΓ hX c hc) rfl (by repeat first | with_reducible assumption | with_reducible exact hput_s _ _ _ | refine (hput_n _ _ (by omega)).trans ?_ | exact hput_s _ _ _ | assumption) rfl rfl rfl rfl (Nat.le_of_ble_eq_true rfl) (by decide) (by omega) (by omega) (fun E σ' h => by have hf : ((cOK z c && cOK z d)) = false := (by rw [show cOK z c = false from decide_eq_false h.2.1]; try simp only [Bool.false_and, Bool.and_false]); rw [hf, eQ_1 rfl, Bool.false_and, rG_f rfl]; exact ⟨by decide, by rw [h.1]; rfl, SX.gr hX hN h.2.2⟩) (fun v σ' hq => ?_)
  obtain ⟨rfl, e1, hσ⟩ := hq
  rw [hσ]
  clear hσ
  have c1 : cOK z c = true := decide_eq_true e1
  refine g_aload_n q_X9_follows_5 rfl ?_
  refine g_iload_n q_X9_follows_6 rfl ?_
  refine g_callV (rc' := 6 + D) (rs' := 36 + E) (As := [_]) cs_X9_133 q_X9_follows_7 (sp_needCart hΓ hX d hd) rfl (by repeat first | with_reducible assumption | with_reducible exact hput_s _ _ _ | refine (hput_n _ _ (by omega)).trans ?_ | exact hput_s _ _ _ | assumption) rfl rfl rfl rfl (Nat.le_of_ble_eq_true rfl) (by decide) (by omega) (by omega) (fun E σ' h => by have hf : ((cOK z c && cOK z d)) = false := (by rw [show cOK z d = false from decide_eq_false h.2.1]; try simp only [Bool.false_and, Bool.and_false]); rw [hf, eQ_1 rfl, Bool.false_and, rG_f rfl]; exact ⟨by decide, by rw [h.1]; rfl, SX.gr hX hN h.2.2⟩) (fun v σ' hq => ?_)
  obtain ⟨rfl, e2, hσ⟩ := hq
  rw [hσ]
  clear hσ
  have c2 : cOK z d = true := decide_eq_true e2
  have cQ : ((cOK z c && cOK z d)) = true := by rw [c1, c2]; rfl
  rw [cQ, Bool.true_and] at hD hE ⊢
  rw [eQ_t rfl]
  refine g_iload_n q_X9_follows_10 rfl ?_
  refine g_iload_n q_X9_follows_11 rfl ?_
  refine g_callS (rc' := 5 + D) (rs' := 30 + E) (As := [_, _]) cs_X9_166 q_X9_follows_12 (sp_needTwo hΓ c d hc hd) rfl rfl rfl (Nat.le_of_ble_eq_true rfl) (by decide) (by omega) (by omega) (fun E σ' h => by have hf : (neOK c d) = false := (by rw [show neOK c d = false from decide_eq_false h.2.1]; try simp only [Bool.false_and, Bool.and_false]); rw [hf, eP_1 rfl, Bool.false_and, rG_f rfl]; exact ⟨by decide, by rw [h.1]; rfl, SX.gr hX hN h.2.2⟩) (fun v σ' hq => ?_)
  obtain ⟨rfl, e3, hσ⟩ := hq
  rw [hσ]
  clear hσ
  have c3 : neOK c d = true := decide_eq_true e3
  have cP : (neOK c d) = true := by rw [c3]
  have hD' := hD
  have hE' := hE
  rw [cP, Bool.true_and] at hD' hE'
  refine g_aload_n q_X9_follows_15 rfl ?_
  refine g_iload_n q_X9_follows_16 rfl ?_
  refine g_callV (rc' := 3) (rs' := 18) (As := [_]) cs_X9_296 q_X9_follows_17 (sp_planned hΓ hX bd hbd hD' hE') rfl (by repeat first | with_reducible assumption | with_reducible exact hput_s _ _ _ | refine (hput_n _ _ (by omega)).trans ?_ | exact hput_s _ _ _ | assumption) rfl rfl rfl rfl (Nat.le_of_ble_eq_true rfl) (by decide) (by omega) (by omega) (fun E σ' h => plK h hN cP ⟨by decide, rfl⟩ ⟨by decide, rfl⟩) (fun v σ1 hq => ?_)
  obtain ⟨⟨w1, w2⟩, T, rfl, m1, m2, m3, m4, ct, cs, cl, co, P, C, k0, k1, k2, o1, o2, o3, o4⟩ := hq
  obtain ⟨i, rfl⟩ : ∃ k : Nat, c = k := ⟨c.toNat, by omega⟩
  obtain ⟨j, rfl⟩ : ∃ k : Nat, d = k := ⟨d.toNat, by omega⟩
  rw [Int.toNat_natCast, Int.toNat_natCast, ← aFoll_cg o4 (by omega) (by omega)]
  refine g_astore (L' := [_, _, _, _, _, _, _, _]) q_X9_follows_20 (by decide) rfl ?_
  refine g_iconst q_X9_follows_22 ?_
  refine g_istore (L' := [_, _, _, _, _, _, _, _]) q_X9_follows_23 (by decide) rfl ?_
  refine g_iconst q_X9_follows_25 ?_
  refine g_istore (L' := [_, _, _, _, _, _, _, _]) q_X9_follows_26 (by decide) rfl ?_
  refine g_loop (fun k => k ≤ 40) (fun k : Nat => G Γ _ cX9_follows _ _ 3 18 28 [some (.ref x), some (.int (ii bd)), some (.int (ii i)), some (.int (ii j)), some (.ref (T + 5)), some (.int (ii (cntN (flw P i j) k))), some (.int (ii ((k + 1 : Nat) : Int))), none] [] σ1) (fun k => 40 - k) ?_ 0 (Nat.zero_le _)
  intro k hk ih
  refine g_iload q_X9_follows_28 rfl ?_
  refine g_bipush q_X9_follows_30 bp_40 ?_
  refine g_icmp_gt (tgt := 99) q_X9_follows_32 (by decide) ⟨by omega, by omega⟩ ⟨by omega, by omega⟩ (fun b1 => ?_) (fun b1 => ?_)
  · have e : k = 40 := by omega
    subst e
    refine g_iload q_X9_follows_99 rfl ?_
    refine g_ireturn q_X9_follows_101.1 rfl ?_
    exact ⟨eP_0 cP w1 w2, rfl, by rw [cP]; exact SX.tr m2 (SX.of m1 hN)⟩
  have hnx := ih (k + 1) (by omega) (by omega)
  have no : flw P i j k = false → G Γ miX9_follows cX9_follows (oQ (eP (neOK i j) bd z 2 3) (aFoll P i j) (SX σ x lo (N + 1) (rG (neOK i j && bOK bd) R z bd) len tx fa z l wl wr)) (oX [xIOB, xIAE, xISE] (eP (neOK i j) bd z 2 3) (SX σ x lo (N + 1) (rG (neOK i j && bOK bd) R z bd) len tx fa z l wl wr)) 3 18 93 [some (.ref x), some (.int (ii bd)), some (.int (ii i)), some (.int (ii j)), some (.ref (T + 5)), some (.int (ii (cntN (flw P i j) k))), some (.int (ii ((k + 1 : Nat) : Int))), none] [] σ1 := by
    intro hf
    rw [cntN_succ, hf, show bi false = 0 from rfl, Int.add_zero] at hnx
    refine g_iinc (L' := [_, _, _, _, _, _, _, _]) q_X9_follows_93 rfl rfl ?_
    refine g_goto (tgt := 28) q_X9_follows_96 (by decide) ?_
    exact hnx
  have at64 : ∀ q : Bool, q = (decide (P (41 * i + (k + 1)) ≠ P (41 * i + k)) && decide (P (41 * j + (k + 1)) ≠ P (41 * j + k))) → G Γ miX9_follows cX9_follows (oQ (eP (neOK i j) bd z 2 3) (aFoll P i j) (SX σ x lo (N + 1) (rG (neOK i j && bOK bd) R z bd) len tx fa z l wl wr)) (oX [xIOB, xIAE, xISE] (eP (neOK i j) bd z 2 3) (SX σ x lo (N + 1) (rG (neOK i j && bOK bd) R z bd) len tx fa z l wl wr)) 3 18 62 [some (.ref x), some (.int (ii bd)), some (.int (ii i)), some (.int (ii j)), some (.ref (T + 5)), some (.int (ii (cntN (flw P i j) k))), some (.int (ii ((k + 1 : Nat) : Int))), none] [.int (ii (bi q))] σ1 := by
    intro q hq
    refine g_istore (L' := [_, _, _, _, _, _, _, _]) q_X9_follows_62 (by decide) rfl ?_
    refine g_iload q_X9_follows_64 rfl ?_
    refine g_if_eq (tgt := 93) q_X9_follows_66 (by decide) (bi_rg _) (fun b2 => ?_) (fun b2 => ?_)
    · refine g_fl (no (by unfold flw; rw [← hq, bi_f b2]; rfl)) ⟨rfl, rfl, rfl, rfl, rfl, rfl, rfl, trivial⟩
    · refine g_aload q_X9_follows_69 rfl ?_
      refine g_iload_n q_X9_follows_71 rfl ?_
      refine g_iload q_X9_follows_72 rfl ?_
      refine g_callVN (rc' := 3) (rs' := 18) (As := [_, _]) cs_X9_193 q_X9_follows_74 (sp_cellOf hΓ k0 k1 i (k + 1) (by omega) (by omega)) rfl (by repeat first | with_reducible assumption | with_reducible exact hput_s _ _ _ | refine (hput_n _ _ (by omega)).trans ?_ | exact hput_s _ _ _ | assumption) rfl rfl rfl rfl (Nat.le_of_ble_eq_true rfl) (by decide) (by decide) (by decide) (fun _ _ h => h.elim) (k_ri ?_)
      refine g_aload q_X9_follows_77 rfl ?_
      refine g_iload_n q_X9_follows_79 rfl ?_
      refine g_iload q_X9_follows_80 rfl ?_
      refine g_iconst q_X9_follows_82 ?_
      refine g_isub q_X9_follows_83 ?_
      refine g_topi (b := (k : Int)) (by omega) ?_
      refine g_callVN (rc' := 3) (rs' := 18) (As := [_, _]) cs_X9_193 q_X9_follows_84 (sp_cellOf hΓ k0 k1 j k (by omega) (by omega)) rfl (by repeat first | with_reducible assumption | with_reducible exact hput_s _ _ _ | refine (hput_n _ _ (by omega)).trans ?_ | exact hput_s _ _ _ | assumption) rfl rfl rfl rfl (Nat.le_of_ble_eq_true rfl) (by decide) (by decide) (by decide) (fun _ _ h => h.elim) (k_ri ?_)
      have r1 := o1 (41 * i + (k + 1))
      have r2 := o1 (41 * j + k)
      refine g_icmp_ne (tgt := 93) q_X9_follows_87 (by decide) ⟨by omega, by omega⟩ ⟨by omega, by omega⟩ (fun b3 => ?_) (fun b3 => ?_)
      · exact g_fl (no (by unfold flw; rw [decide_eq_false (p := P (41 * i + (k + 1)) = P (41 * j + k)) b3, Bool.and_false])) ⟨rfl, rfl, rfl, rfl, rfl, rfl, rfl, trivial⟩
      · have hf : flw P i j k = true := by unfold flw; rw [← hq, bi_t b2, decide_eq_true (p := P (41 * i + (k + 1)) = P (41 * j + k)) (by omega)]; rfl
        rw [cntN_succ, hf, show bi true = 1 from rfl] at hnx
        refine g_iinc (L' := [_, _, _, _, _, _, _, _]) q_X9_follows_90 rfl rfl ?_
        refine g_iinc (L' := [_, _, _, _, _, _, _, _]) q_X9_follows_93 rfl rfl ?_
        refine g_goto (tgt := 28) q_X9_follows_96 (by decide) ?_
        exact g_fl hnx ⟨rfl, rfl, rfl, rfl, rfl, rfl, rfl, trivial⟩
  refine g_aload q_X9_follows_35 rfl ?_
  refine g_iload_n q_X9_follows_37 rfl ?_
  refine g_iload q_X9_follows_38 rfl ?_
  refine g_callVN (rc' := 3) (rs' := 18) (As := [_, _]) cs_X9_343 q_X9_follows_40 (sp_comes hΓ o1 k0 k1 i k (by omega) (by omega)) rfl (by repeat first | with_reducible assumption | with_reducible exact hput_s _ _ _ | refine (hput_n _ _ (by omega)).trans ?_ | exact hput_s _ _ _ | assumption) rfl rfl rfl rfl (Nat.le_of_ble_eq_true rfl) (by decide) (by decide) (by decide) (fun _ _ h => h.elim) (k_rb ?_)
  refine g_if_eq (tgt := 61) q_X9_follows_43 (by decide) (bi_rg _) (fun b2 => ?_) (fun b2 => ?_)
  · refine g_iconst q_X9_follows_61 ?_
    exact at64 false (by rw [bi_f b2]; rfl)
  refine g_aload q_X9_follows_46 rfl ?_
  refine g_iload_n q_X9_follows_48 rfl ?_
  refine g_iload q_X9_follows_49 rfl ?_
  refine g_callVN (rc' := 3) (rs' := 18) (As := [_, _]) cs_X9_343 q_X9_follows_51 (sp_comes hΓ o1 k0 k1 j k (by omega) (by omega)) rfl (by repeat first | with_reducible assumption | with_reducible exact hput_s _ _ _ | refine (hput_n _ _ (by omega)).trans ?_ | exact hput_s _ _ _ | assumption) rfl rfl rfl rfl (Nat.le_of_ble_eq_true rfl) (by decide) (by decide) (by decide) (fun _ _ h => h.elim) (k_rb ?_)
  refine g_if_eq (tgt := 61) q_X9_follows_54 (by decide) (bi_rg _) (fun b3 => ?_) (fun b3 => ?_)
  · refine g_iconst q_X9_follows_61 ?_
    exact at64 false (by rw [bi_f b3, Bool.and_false])
  · refine g_iconst q_X9_follows_57 ?_
    refine g_goto (tgt := 62) q_X9_follows_58 (by decide) ?_
    exact at64 true (by rw [bi_t b2, bi_t b3]; rfl)
theorem sp_shared (hΓ : Gd Γ) (hN : N < 1000) (hX : CX σ x lo N R len tx fa z l wl wr) (bd k : Int) (hbd : rg bd) (hk : rg k) (hD : dC R (rG (true && bOK bd) R z bd) ≤ D) (hE : dS R (rG (true && bOK bd) R z bd) ≤ E) : Sp Γ miX9_shared (8 + D) (48 + E) [.ref x, .int (ii bd), .int (ii k)] σ (oQ (eP (true) bd z 1 2) (aShar (pPZ z bd) (zCa z) k) (SX σ x lo (N + 1) (rG (true && bOK bd) R z bd) len tx fa z l wl wr)) (oX [xIAE, xISE] (eP (true) bd z 1 2) (SX σ x lo (N + 1) (rG (true && bOK bd) R z bd) len tx fa z l wl wr)) := by
  have hX' := hX
  obtain ⟨ve, av, h1, h2, h3, h4, h5, q1, q2, -⟩ := hX'
  have hn := h4.1.1
  refine Sp_of (L := [_, _, _, _, _, _]) hΓ (by decide +kernel) rfl (Nat.le_of_ble_eq_true rfl) rfl ?_
  have cP : true = true := rfl
  have hD' : dC R (rG (bOK bd) R z bd) ≤ D := hD
  have hE' : dS R (rG (bOK bd) R z bd) ≤ E := hE
  refine g_aload_n q_X9_shared_0 rfl ?_
  refine g_iload_n q_X9_shared_1 rfl ?_
  refine g_callV (rc' := 6) (rs' := 36) (As := [_]) cs_X9_296 q_X9_shared_2 (sp_planned hΓ hX bd hbd hD' hE') rfl (by repeat first | with_reducible assumption | with_reducible exact hput_s _ _ _ | refine (hput_n _ _ (by omega)).trans ?_ | exact hput_s _ _ _ | assumption) rfl rfl rfl rfl (Nat.le_of_ble_eq_true rfl) (by decide) (by omega) (by omega) (fun E σ' h => plK h hN cP ⟨by decide, rfl⟩ ⟨by decide, rfl⟩) (fun v σ1 hq => ?_)
  obtain ⟨⟨w1, w2⟩, T, rfl, m1, m2, m3, m4, ct, cs, cl, co, P, C, k0, k1, k2, o1, o2, o3, o4⟩ := hq
  rw [← aShar_cg o4]
  refine g_astore_n (L' := [_, _, _, _, _, _]) q_X9_shared_5 (by decide) rfl ?_
  refine g_iconst q_X9_shared_6 ?_
  refine g_istore (L' := [_, _, _, _, _, _]) q_X9_shared_7 (by decide) rfl ?_
  refine g_iconst q_X9_shared_9 ?_
  refine g_istore (L' := [_, _, _, _, _, _]) q_X9_shared_10 (by decide) rfl ?_
  refine g_loop (fun c => c ≤ 36 ∧ ∀ j, j < c → (shP P (zCa z) j && decide (cntN (shP P (zCa z)) j = k)) = false) (fun c : Nat => G Γ _ cX9_shared _ _ 6 36 12 [some (.ref x), some (.int (ii bd)), some (.int (ii k)), some (.ref (T + 5)), some (.int (ii (cntN (shP P (zCa z)) c))), some (.int (ii c))] [] σ1) (fun c => 36 - c) ?_ 0 ⟨Nat.zero_le _, fun j hj => absurd hj (Nat.not_lt_zero j)⟩
  intro c ⟨hc, hno⟩ ih
  have hcr := cntN_rg (shP P (zCa z)) c
  have hur := aUsed_rg P (n := zCa z) c
  refine g_iload q_X9_shared_12 rfl ?_
  refine g_bipush q_X9_shared_14 bp_36 ?_
  refine g_icmp_ge (tgt := 47) q_X9_shared_16 (by decide) ⟨by omega, by omega⟩ ⟨by omega, by omega⟩ (fun b1 => ?_) (fun b1 => ?_)
  · have e : c = 36 := by omega
    subst e
    have hf := fstN_none hno
    refine g_iload_n q_X9_shared_47 rfl ?_
    refine g_iconst q_X9_shared_48 ?_
    refine g_icmp_ne (tgt := 57) q_X9_shared_49 (by decide) hk ⟨by omega, by omega⟩ (fun b2 => ?_) (fun b2 => ?_)
    · refine g_iconst q_X9_shared_57 ?_
      refine g_ireturn q_X9_shared_58.1 rfl ?_
      exact ⟨eP_0 cP w1 w2, by unfold aShar; rw [hf, if_neg (by decide), if_neg b2], SX.tr m2 (SX.of m1 hN)⟩
    · refine g_iload q_X9_shared_52 rfl ?_
      refine g_goto (tgt := 58) q_X9_shared_54 (by decide) ?_
      refine g_ireturn q_X9_shared_58.1 rfl ?_
      exact ⟨eP_0 cP w1 w2, by unfold aShar; rw [hf, if_neg (by decide), if_pos (by omega)], SX.tr m2 (SX.of m1 hN)⟩
  refine g_aload_n q_X9_shared_19 rfl ?_
  refine g_iload q_X9_shared_20 rfl ?_
  refine g_callVN (rc' := 6) (rs' := 36) (As := [_]) cs_X9_307 q_X9_shared_22 (sp_countVisitors hΓ hn.2.2 o1 k0 k1 c ⟨by omega, by omega⟩) rfl (by repeat first | with_reducible assumption | with_reducible exact hput_s _ _ _ | refine (hput_n _ _ (by omega)).trans ?_ | exact hput_s _ _ _ | assumption) rfl rfl rfl rfl (Nat.le_of_ble_eq_true rfl) (by decide) (by decide) (by decide) (fun _ _ h => h.elim) (k_ri ?_)
  rw [show cntN (fun k => decide (fstN (fun t => decide (P (41 * k + t) = (c : Int))) 41 ≠ -1)) (zCa z) = aUsed P (zCa z) c from rfl]
  refine g_iconst q_X9_shared_25 ?_
  refine g_icmp_lt (tgt := 41) q_X9_shared_26 (by decide) ⟨by omega, by omega⟩ ⟨by omega, by omega⟩ (fun b2 => ?_) (fun b2 => ?_)
  · have hs : shP P (zCa z) c = false := decide_eq_false (by omega)
    have hnx := ih (c + 1) ⟨by omega, fun j hj => by
      by_cases e : j = c
      · rw [e, hs]; rfl
      · exact hno j (by omega)⟩ (by omega)
    rw [cntN_succ, hs, show bi false = 0 from rfl, Int.add_zero] at hnx
    refine g_iinc (L' := [_, _, _, _, _, _]) q_X9_shared_41 rfl rfl ?_
    refine g_goto (tgt := 12) q_X9_shared_44 (by decide) ?_
    exact hnx
  · have hs : shP P (zCa z) c = true := decide_eq_true (by omega)
    refine g_iload q_X9_shared_29 rfl ?_
    refine g_iload_n q_X9_shared_31 rfl ?_
    refine g_icmp_ne (tgt := 38) q_X9_shared_32 (by decide) ⟨by omega, by omega⟩ hk (fun b3 => ?_) (fun b3 => ?_)
    · have hnx := ih (c + 1) ⟨by omega, fun j hj => by
        by_cases e : j = c
        · rw [e, decide_eq_false b3, Bool.and_false]
        · exact hno j (by omega)⟩ (by omega)
      rw [cntN_succ, hs, show bi true = 1 from rfl] at hnx
      refine g_iinc (L' := [_, _, _, _, _, _]) q_X9_shared_38 rfl rfl ?_
      refine g_iinc (L' := [_, _, _, _, _, _]) q_X9_shared_41 rfl rfl ?_
      refine g_goto (tgt := 12) q_X9_shared_44 (by decide) ?_
      exact hnx
    · have hf : fstN (fun c => shP P (zCa z) c && decide (cntN (shP P (zCa z)) c = k)) 36 = c := fstN_some (by omega) (by rw [hs, decide_eq_true (by omega)]; rfl) hno
      refine g_iload q_X9_shared_35 rfl ?_
      refine g_ireturn q_X9_shared_37.1 rfl ?_
      exact ⟨eP_0 cP w1 w2, by unfold aShar; rw [hf, if_pos (by omega)], SX.tr m2 (SX.of m1 hN)⟩
theorem sp_ended (hΓ : Gd Γ) (hN : N < 1000) (hX : CX σ x lo N R len tx fa z l wl wr) (bd t : Int) (hbd : rg bd) (ht : rg t) (hD : dC R (rG (tOK t && bOK bd) R z bd) ≤ D) (hE : dS R (rG (tOK t && bOK bd) R z bd) ≤ E) : Sp Γ miX9_ended (8 + D) (48 + E) [.ref x, .int (ii bd), .int (ii t)] σ (oQ (eP (tOK t) bd z 1 2) ((endW (pCZ z bd) t (zCa z) : Int)) (SX σ x lo (N + 1) (rG (tOK t && bOK bd) R z bd) len tx fa z l wl wr)) (oX [xIAE, xISE] (eP (tOK t) bd z 1 2) (SX σ x lo (N + 1) (rG (tOK t && bOK bd) R z bd) len tx fa z l wl wr)) := by
  have hX' := hX
  obtain ⟨ve, av, h1, h2, h3, h4, h5, q1, q2, -⟩ := hX'
  have hn := h4.1.1
  refine Sp_of (L := [_, _, _, _, _, _]) hΓ (by decide +kernel) rfl (Nat.le_of_ble_eq_true rfl) rfl ?_
  refine g_iload_n q_X9_ended_0 rfl ?_
  refine g_callS (rc' := 7 + D) (rs' := 42 + E) (As := [_]) cs_X9_190 q_X9_ended_1 (sp_needTime hΓ t ht) rfl rfl rfl (Nat.le_of_ble_eq_true rfl) (by decide) (by omega) (by omega) (fun E σ' h => by have hf : (tOK t) = false := (by rw [show tOK t = false from decide_eq_false h.2.1]; try simp only [Bool.false_and, Bool.and_false]); rw [hf, eP_1 rfl, Bool.false_and, rG_f rfl]; exact ⟨by decide, by rw [h.1]; rfl, SX.gr hX hN h.2.2⟩) (fun v σ' hq => ?_)
  obtain ⟨rfl, e1, hσ⟩ := hq
  rw [hσ]
  clear hσ
  have c1 : tOK t = true := decide_eq_true e1
  have cP : (tOK t) = true := by rw [c1]
  have hD' := hD
  have hE' := hE
  rw [cP, Bool.true_and] at hD' hE'
  refine g_aload_n q_X9_ended_4 rfl ?_
  refine g_iload_n q_X9_ended_5 rfl ?_
  refine g_callV (rc' := 5) (rs' := 30) (As := [_]) cs_X9_296 q_X9_ended_6 (sp_planned hΓ hX bd hbd hD' hE') rfl (by repeat first | with_reducible assumption | with_reducible exact hput_s _ _ _ | refine (hput_n _ _ (by omega)).trans ?_ | exact hput_s _ _ _ | assumption) rfl rfl rfl rfl (Nat.le_of_ble_eq_true rfl) (by decide) (by omega) (by omega) (fun E σ' h => plK h hN cP ⟨by decide, rfl⟩ ⟨by decide, rfl⟩) (fun v σ1 hq => ?_)
  obtain ⟨⟨w1, w2⟩, T, rfl, m1, m2, m3, m4, ct, cs, cl, co, P, C, k0, k1, k2, o1, o2, o3, o4⟩ := hq
  rw [← endW_cg o3 t (zCa z) (Nat.le_refl _)]
  refine g_astore_n (L' := [_, _, _, _, _, _]) q_X9_ended_9 (by decide) rfl ?_
  refine g_iconst q_X9_ended_10 ?_
  refine g_istore (L' := [_, _, _, _, _, _]) q_X9_ended_11 (by decide) rfl ?_
  refine g_iconst q_X9_ended_13 ?_
  refine g_istore (L' := [_, _, _, _, _, _]) q_X9_ended_14 (by decide) rfl ?_
  refine g_loop (fun k => k ≤ zCa z) (fun k : Nat => G Γ _ cX9_ended _ _ 5 30 16 [some (.ref x), some (.int (ii bd)), some (.int (ii t)), some (.ref (T + 5)), some (.int (ii (endW C t k : Int))), some (.int (ii k))] [] σ1) (fun k => zCa z - k) ?_ 0 (Nat.zero_le _)
  intro k hk ih
  refine g_iload q_X9_ended_16 rfl ?_
  refine g_aload_n q_X9_ended_18 rfl ?_
  refine g_get fl_X9_310 q_X9_ended_19 (by repeat first | with_reducible assumption | with_reducible exact hput_s _ _ _ | refine (hput_n _ _ (by omega)).trans ?_ | exact hput_s _ _ _ | assumption) rfl ?_
  refine g_icmp_ge (tgt := 51) q_X9_ended_22 (by decide) ⟨by omega, by omega⟩ ⟨by omega, by omega⟩ (fun b1 => ?_) (fun b1 => ?_)
  · have e : k = zCa z := by omega
    subst e
    refine g_iload q_X9_ended_51 rfl ?_
    refine g_ireturn q_X9_ended_53.1 rfl ?_
    exact ⟨eP_0 cP w1 w2, rfl, by rw [cP]; exact SX.tr m2 (SX.of m1 hN)⟩
  have hCk := o2 k
  have hnx := ih (k + 1) (by omega) (by omega)
  refine g_aload_n q_X9_ended_25 rfl ?_
  refine g_get fl_X9_187 q_X9_ended_26 (by repeat first | with_reducible assumption | with_reducible exact hput_s _ _ _ | refine (hput_n _ _ (by omega)).trans ?_ | exact hput_s _ _ _ | assumption) rfl ?_
  refine g_iload q_X9_ended_29 rfl ?_
  refine g_iaload q_X9_ended_31 (by repeat first | with_reducible assumption | with_reducible exact hput_s _ _ _ | refine (hput_n _ _ (by omega)).trans ?_ | exact hput_s _ _ _ | assumption) (by omega) (by omega) ?_
  refine g_topi (b := C k) rfl ?_
  refine g_iload_n q_X9_ended_32 rfl ?_
  refine g_icmp_gt (tgt := 45) q_X9_ended_33 (by decide) ⟨by omega, by omega⟩ ⟨by omega, by omega⟩ (fun b2 => ?_) (fun b2 => ?_)
  · rw [show endW C t (k + 1) = endW C t k from if_neg (by omega)] at hnx
    refine g_iinc (L' := [_, _, _, _, _, _]) q_X9_ended_45 rfl rfl ?_
    refine g_goto (tgt := 16) q_X9_ended_48 (by decide) ?_
    exact hnx
  · rw [show endW C t (k + 1) = endW C t k ||| 2 ^ k from if_pos (by omega)] at hnx
    have hlt := endW_lt C t k (by omega)
    refine g_iload q_X9_ended_36 rfl ?_
    refine g_iconst q_X9_ended_38 ?_
    refine g_iload q_X9_ended_39 rfl ?_
    refine g_ishl q_X9_ended_41 ?_
    refine g_ior q_X9_ended_42 ?_
    rw [bt_or ⟨endW C t k, hlt⟩ ⟨k, by omega⟩]
    refine g_istore (L' := [_, _, _, _, _, _]) q_X9_ended_43 (by decide) rfl ?_
    refine g_iinc (L' := [_, _, _, _, _, _]) q_X9_ended_45 rfl rfl ?_
    refine g_goto (tgt := 16) q_X9_ended_48 (by decide) ?_
    exact hnx
end X9J

