/-! CartPaths: what would be -/
section X9M
variable {Γ : GT} {σ : AH} {x lo N : Nat} {R : Nat → Nat} {len : Nat} {tx : Nat → Int} {fa : Int} {z : PS} {l : List (Int × Int × Int)} {wl : Nat} {wr : Nat → Int} {D E : Nat}
/-- the rooms behind a supposed build of the scene y -/
noncomputable def sR (R : Nat → Nat) (y : PS) (bd : Int) : Nat → Nat := va_up R 21 (1 + max (R 21 - 1) (tT (bZ y bd)))
noncomputable def aSup (y : PS) (bd : Int) : Int := if tP (bZ y bd) = -1 then -1 else sumN (pCZ y bd) (zCa y)
/-- the draft has changed -/
theorem CXh.dch {σ σ' : AH} {ve : Nat} {av : Int} (h : CXh σ x lo N R len tx fa z l wl wr ve av) (hE : eqOff σ σ' (inb (x + 17) 7)) (hk : K3 σ' x) : CXh σ' x lo N R len tx fa z l wl wr ve av := by
  obtain ⟨h1, h2, h3, h4, h5, q1, q2, q3, q4, q5, q6, q7, q8, ⟨TA, q9⟩, q10, q11, q12⟩ := h
  have hlo := h1.1
  have hlo2 := h1.2.1
  have e := hE.2
  exact ⟨⟨h1.1, by rw [hE.1]; exact h1.2.1, h1.2.2⟩, h2, h3, h4, h5, q1, (e _ (by unfold inb; omega)).trans q2, q3.kp (fun a i => e a (by unfold inb at i ⊢; omega)), q4.keep (fun a i => e a (by unfold inb at i ⊢; omega)), hk, q6.keep (fun a i => e a (by unfold inb at i ⊢; omega)), q7.keep (fun a i => e a (by unfold inb at i ⊢; omega)), q8.kp (fun a i => e a (by unfold inb at i ⊢; omega)), ⟨TA, q9.kp (by rw [hE.1]; exact Nat.le_refl _) (fun a ha i => e a (by unfold inb at i ⊢; omega)) (by omega)⟩, q10.kp (fun a i => e a (by unfold inb at i ⊢; omega)), q11.kp (fun a i => e a (by unfold inb at i ⊢; omega)), (e _ (by unfold inb; omega)).trans q12⟩
theorem sp_supposedSum (hΓ : Gd Γ) (hX : CX σ x lo N R len tx fa z l wl wr) {y : PS} {lv : Nat → BitVec 64} (hy : SCz σ (x + 17) y lv) (hg : gZ y) (bd : Int) (hbd : 10 ≤ bd ∧ bd ≤ 30) (hD : dC R (sR R y bd) ≤ D) (hE : dS R (sR R y bd) ≤ E) : Sp Γ miX9_supposedSum D E [.ref x, .int (ii bd)] σ (fun v σ' => v = some (.int (ii (aSup y bd))) ∧ CX σ' x lo N (sR R y bd) len tx fa z l wl wr ∧ eqG σ σ' (fX x lo)) noX := by
  obtain ⟨ve, av, hh⟩ := hX
  have hh' := hh
  obtain ⟨h1, h2, h3, h4, h5, q1, q2, q3, q4, q5, q6, q7, q8, ⟨TA, q9⟩, -⟩ := hh'
  have hlo := h1.1
  have hlo2 := h1.2.1
  have y0 := hy.1
  have q9' := q9
  obtain ⟨t1, t2, t3, t4, t5, t6, t7⟩ := q9'
  obtain ⟨M, hM⟩ : ∃ M, R 21 = M + 1 := ⟨R 21 - 1, by omega⟩
  obtain ⟨n1, tv, n2, n3, -⟩ := t6 21 (by decide) t3
  rw [hM, show M + 1 - 1 = M by omega] at n1 n3
  rw [t4] at n3
  have n3' := n3
  obtain ⟨nc, spl, lo', pl, cu, m1, P1, C1, m2, P2, C2, w0, w1, w2, w3, w4, o1, o2, w5, o3, o4, w6⟩ := n3'
  have eR : sR R y bd = va_up R 21 (1 + max M (tT (bZ y bd))) := by unfold sR; rw [hM]; rfl
  rw [eR] at hD hE ⊢
  rw [dC_up R _ (by decide), hM] at hD
  rw [dS_up R _ (by decide), hM] at hE
  unfold cel at hD
  unfold slo at hE
  rw [if_neg (by omega), if_neg (by omega)] at hD hE
  have eTA : TA 21 = (x + 36, (TA 21).2) := Prod.ext t4 rfl
  refine Sp_of (L := [_, _]) hΓ (by decide +kernel) rfl (Nat.le_of_ble_eq_true rfl) rfl ?_
  refine g_aload_n q_X9_supposedSum_0 rfl ?_
  refine g_get fl_X9_23 q_X9_supposedSum_1 (by repeat first | with_reducible assumption | with_reducible exact hput_s _ _ _ | refine (hput_n _ _ (by omega)).trans ?_ | exact hput_s _ _ _ | assumption) rfl ?_
  refine g_callVN (rc' := D) (rs' := E) (As := []) cs_X9_116 q_X9_supposedSum_4 (sp_refresh hΓ hy hg.1.1 hg.1.2.1 hg.2.1) rfl (by repeat first | with_reducible assumption | with_reducible exact hput_s _ _ _ | refine (hput_n _ _ (by omega)).trans ?_ | exact hput_s _ _ _ | assumption) rfl rfl rfl rfl (Nat.le_of_ble_eq_true rfl) (by decide) (Nat.le_refl _) (Nat.le_refl _) (fun _ _ h => h.elim) (k_rv ?_)
  obtain ⟨τ, hτ⟩ : ∃ τ, τ = hput σ (x + 17 + 6) (al 4 (lvF (zSO y) (zCo y) (zRo y))) := ⟨_, rfl⟩
  refine g_eq (σ2 := τ) rfl rfl hτ.symm ?_
  have hE1 : eqOff σ τ (inb (x + 17) 7) := by rw [hτ]; exact eqOff.rfl'.put ⟨by omega, by omega⟩ _
  have hy1 : SCz τ (x + 17) y (lvZ y) := by
    rw [hτ]
    obtain ⟨g0, g1, g2, g3, g4, g5, g6⟩ := hy
    exact ⟨(by repeat first | with_reducible assumption | with_reducible exact hput_s _ _ _ | refine (hput_n _ _ (by omega)).trans ?_ | exact hput_s _ _ _ | assumption), (by repeat first | with_reducible assumption | with_reducible exact hput_s _ _ _ | refine (hput_n _ _ (by omega)).trans ?_ | exact hput_s _ _ _ | assumption), (by repeat first | with_reducible assumption | with_reducible exact hput_s _ _ _ | refine (hput_n _ _ (by omega)).trans ?_ | exact hput_s _ _ _ | assumption), (by repeat first | with_reducible assumption | with_reducible exact hput_s _ _ _ | refine (hput_n _ _ (by omega)).trans ?_ | exact hput_s _ _ _ | assumption), (by repeat first | with_reducible assumption | with_reducible exact hput_s _ _ _ | refine (hput_n _ _ (by omega)).trans ?_ | exact hput_s _ _ _ | assumption), (by repeat first | with_reducible assumption | with_reducible exact hput_s _ _ _ | refine (hput_n _ _ (by omega)).trans ?_ | exact hput_s _ _ _ | assumption), (by repeat first | with_reducible assumption | with_reducible exact hput_s _ _ _ | refine (hput_n _ _ (by omega)).trans ?_ | exact hput_s _ _ _ | assumption)⟩
  clear hτ
  have hh1 := hh.dch hE1 ⟨y, _, hg, hy1⟩
  have e := hE1.2
  have kx := (e x (by unfold inb; omega)).trans q2
  have q9a := q9.kp (σ' := τ) (by rw [hE1.1]; exact Nat.le_refl _) (fun a ha i => e a (by unfold inb at i ⊢; omega)) (by omega)
  have n3a := n3.kp (σ' := τ) (by rw [hE1.1]; exact Nat.le_refl _) (fun a i => e a (by
    rcases i with i | ⟨k, hk, hq⟩
    · unfold inb at *; omega
    · have := n1 k hk
      unfold inb; omega))
  obtain ⟨nc, spl, lo', pl, cu, m1, P1, C1, m2, P2, C2, w0, w1, w2, w3, w4, o1, o2, w5, o3, o4, w6⟩ := n3a
  have kSr := hh1.2.2.2.2.2.2.2.2.2.2.2.1
  refine g_aload_n q_X9_supposedSum_7 rfl ?_
  refine g_get fl_X9_58 q_X9_supposedSum_8 (by repeat first | with_reducible assumption | with_reducible exact hput_s _ _ _ | refine (hput_n _ _ (by omega)).trans ?_ | exact hput_s _ _ _ | assumption) rfl ?_
  refine g_aload_n q_X9_supposedSum_11 rfl ?_
  refine g_get fl_X9_23 q_X9_supposedSum_12 (by repeat first | with_reducible assumption | with_reducible exact hput_s _ _ _ | refine (hput_n _ _ (by omega)).trans ?_ | exact hput_s _ _ _ | assumption) rfl ?_
  refine g_aload_n q_X9_supposedSum_15 rfl ?_
  refine g_get fl_X9_36 q_X9_supposedSum_16 (by repeat first | with_reducible assumption | with_reducible exact hput_s _ _ _ | refine (hput_n _ _ (by omega)).trans ?_ | exact hput_s _ _ _ | assumption) rfl ?_
  refine g_iload_n q_X9_supposedSum_19 rfl ?_
  refine g_callVN (rc' := 0) (rs' := 0) (As := [_, _, _]) cs_X9_235 q_X9_supposedSum_20 (sp_build (T := x + 36) hΓ (by omega) (by omega) (by rw [hE1.1]; omega) w0 w1 w2 w3 w4 o1 o2 w5 o3 o4 w6 kSr hy1.g (okL_z hg) hg.2.2.1 hg.2.2.2.1 hg.1.2.2 bd hbd) rfl (by repeat first | with_reducible assumption | with_reducible exact hput_s _ _ _ | refine (hput_n _ _ (by omega)).trans ?_ | exact hput_s _ _ _ | assumption) rfl rfl rfl rfl (Nat.le_of_ble_eq_true rfl) (by decide) (by show 0 + 2 * (max M (tT (bZ y bd)) - M) ≤ D; omega) (by show 0 + 53 * (max M (tT (bZ y bd)) - M) ≤ E; omega) (fun _ _ h => h.elim) (fun v σ2 hq => ?_)
  obtain ⟨rfl, hBI, hBW⟩ := hq
  obtain ⟨ad', a1, a2, a3, a4, a5, a6, a7⟩ := built (bd := bd) (z := y) hBI hBW
  have hown : ∀ a, ownF (TA 21).2 M a → lo ≤ a := fun a ⟨k, hk, hq⟩ => by have := n1 k hk; omega
  have kx2 : σ2.2 x = some (cpo x av wl ve) := (a6.2 x (by rw [hE1.1]; omega) (by
    rintro (i | i | i)
    · unfold inb at i; omega
    · unfold inb at i; omega
    · have := hown _ i; omega)).trans kx
  have hT0 := a5.1
  have hT2 := q9a.bld (tv := tv) (b := 21) (M := M) hlo (by rw [hE1.1]; exact hlo2) (by decide) hM (Nat.le_max_left _ _) a3 (by rw [t4]; exact a6) a1 a2 n2 (by rw [t4]; exact a4) (fun h => absurd h (by decide))
  have hE3 : eqG τ σ2 (fun a => inb (x + 28) 4 a ∨ inb (x + 35) 10 a ∨ lo ≤ a) := ⟨a6.1, fun a ha hf => a6.2 a ha (by
    rintro (i | i | i)
    · exact hf (Or.inr (Or.inl (by unfold inb at *; omega)))
    · exact hf (Or.inl i)
    · exact hf (Or.inr (Or.inr (hown a i))))⟩
  have hX2 : CX σ2 x lo N (va_up R 21 (1 + max M (tT (bZ y bd)))) len tx fa z l wl wr := ⟨ve, av, hh1.tch hE3 a7 hT2⟩
  have hG2 : eqG σ σ2 (fX x lo) := (eqG_fX (lo := lo) hE1 (fun a i => by unfold inb at *; omega)).trans hE3 (fun a _ i => by rcases i with i | i | i <;> first | exact Or.inl (by unfold inb at *; omega) | exact Or.inr i)
  obtain ⟨n2', P, C, ⟨⟨ct, cs, cl, co, k0⟩, k1, k2⟩, p1, p2, p3⟩ := hBW
  have hTP : rg (tP (bZ y bd)) := by
    have hb := bld_rg (bd := bd) (okL_z hg) hg.2.2.1 hg.2.2.2.1 hg.1.2.2
    unfold bZ
    rcases hb with ⟨h9 | ⟨k, h8, h9⟩, h7, -⟩
    · rw [h9]; exact ⟨by decide, by decide⟩
    · rw [h9]; exact ⟨by omega, by omega⟩
  refine g_aload_n q_X9_supposedSum_23 rfl ?_
  refine g_get fl_X9_58 q_X9_supposedSum_24 (by repeat first | with_reducible assumption | with_reducible exact hput_s _ _ _ | refine (hput_n _ _ (by omega)).trans ?_ | exact hput_s _ _ _ | assumption) rfl ?_
  refine g_get fl_X9_243 q_X9_supposedSum_27 (by repeat first | with_reducible assumption | with_reducible exact hput_s _ _ _ | refine (hput_n _ _ (by omega)).trans ?_ | exact hput_s _ _ _ | assumption) rfl ?_
  refine g_iconst q_X9_supposedSum_30 ?_
  refine g_icmp_ne (tgt := 38) q_X9_supposedSum_31 (by decide) hTP ⟨by omega, by omega⟩ (fun b1 => ?_) (fun b1 => ?_)
  · obtain ⟨rfl, p4, p5⟩ := p3 b1
    refine g_aload_n q_X9_supposedSum_38 rfl ?_
    refine g_get fl_X9_58 q_X9_supposedSum_39 (by repeat first | with_reducible assumption | with_reducible exact hput_s _ _ _ | refine (hput_n _ _ (by omega)).trans ?_ | exact hput_s _ _ _ | assumption) rfl ?_
    refine g_get fl_X9_246 q_X9_supposedSum_42 (by repeat first | with_reducible assumption | with_reducible exact hput_s _ _ _ | refine (hput_n _ _ (by omega)).trans ?_ | exact hput_s _ _ _ | assumption) rfl ?_
    refine g_callVN (rc' := 0) (rs' := 0) (As := []) cs_X9_249 q_X9_supposedSum_45 (sp_sumCosts hΓ hg.1.2.2 k0 k2) rfl (by repeat first | with_reducible assumption | with_reducible exact hput_s _ _ _ | refine (hput_n _ _ (by omega)).trans ?_ | exact hput_s _ _ _ | assumption) rfl rfl rfl rfl (Nat.le_of_ble_eq_true rfl) (by decide) (by decide) (by decide) (fun _ _ h => h.elim) (k_ri ?_)
    refine g_ireturn q_X9_supposedSum_48.1 rfl ?_
    refine ⟨?_, hX2, hG2⟩
    unfold aSup
    rw [if_neg b1, sumN_cong p4]
    rfl
  · refine g_iconst q_X9_supposedSum_34 ?_
    refine g_goto (tgt := 48) q_X9_supposedSum_35 (by decide) ?_
    refine g_ireturn q_X9_supposedSum_48.1 rfl ?_
    refine ⟨?_, hX2, hG2⟩
    unfold aSup
    rw [if_pos (by omega)]
theorem cel_mono {a b : Nat} (h : a ≤ b) : cel a ≤ cel b := by
  unfold cel
  split <;> split <;> omega
theorem slo_mono {a b : Nat} (h : a ≤ b) : slo a ≤ slo b := by
  unfold slo
  split <;> split <;> omega
theorem sumT_tr {f g h : Nat → Nat} : ∀ n, (∀ k, k < n → h k = f k + g k) → sumT h n = sumT f n + sumT g n
  | 0, _ => rfl
  | n + 1, w => by rw [sumT, sumT, sumT, sumT_tr n (fun k hk => w k (by omega)), w n (by omega)]; omega
theorem dC_tr {R R1 R2 : Nat → Nat} (h1 : ∀ b, R b ≤ R1 b) (h2 : ∀ b, R1 b ≤ R2 b) : dC R R2 = dC R R1 + dC R1 R2 := sumT_tr 22 (fun k _ => by have := cel_mono (h1 k); have := cel_mono (h2 k); omega)
theorem dS_tr {R R1 R2 : Nat → Nat} (h1 : ∀ b, R b ≤ R1 b) (h2 : ∀ b, R1 b ≤ R2 b) : dS R R2 = dS R R1 + dS R1 R2 := sumT_tr 22 (fun k _ => by have := slo_mono (h1 k); have := slo_mono (h2 k); omega)
theorem rG_le (g : Bool) (R : Nat → Nat) (z : PS) (bd : Int) (b : Nat) : R b ≤ rG g R z bd b := by
  unfold rG
  split
  · unfold upR va_up
    split
    · rename_i e; rw [e]; omega
    · exact Nat.le_refl _
  · exact Nat.le_refl _
theorem sR_le (R : Nat → Nat) (y : PS) (bd : Int) (b : Nat) : R b ≤ sR R y bd b := by
  unfold sR va_up
  split
  · rename_i e; rw [e]; omega
  · exact Nat.le_refl _
def wlZ (z : PS) (c : Nat) : PS := sZ z (va_up (zSO z) c 1) (zGO z)
def wlB (z : PS) (c : Int) : Bool := decide (zSO z c.toNat = 1) || tkn (zCa z) (zPL z) (zGO z) c
noncomputable def eWo (z : PS) (bd a b : Int) : Nat := if xyOK z a b = false then 1 else if bOK bd = false then 2 else if tP (bZ z bd) = -1 then 3 else if wlB z (6 * b + a) = true then 3 else 0
noncomputable def woR (R : Nat → Nat) (z : PS) (bd a b : Int) : Nat → Nat := if eWo z bd a b = 0 then sR (rG (xyOK z a b && bOK bd) R z bd) (wlZ z (6 * b + a).toNat) bd else rG (xyOK z a b && bOK bd) R z bd
noncomputable def aWo (z : PS) (bd : Int) (c : Nat) : Int := if aSup (wlZ z c) bd = -1 then -1 else aSup (wlZ z c) bd - sumN (pCZ z bd) (zCa z)
theorem aSup_rg {y : PS} (hg : gZ y) (bd : Int) : -1 ≤ aSup y bd ∧ aSup y bd ≤ 200 := by
  unfold aSup
  split
  · omega
  · rename_i h
    rcases bld_inv (bd := bd) (okL_z hg) hg.2.2.1 hg.2.2.2.1 hg.1.2.2 with ⟨h9, -⟩ | ⟨-, g1, -, -, g4, -⟩
    · exact absurd (show tP (bZ y bd) = -1 by unfold bZ; rw [h9]; rfl) h
    · rcases g4 with g4 | ⟨k, g5, g6, -⟩
      · exact absurd g4 h
      · have w := (g1.2.2.2.2.2 k g5).2.2
        have hs := sumN_rg (C := pCZ y bd) (a := 0) (b := 40) (n := zCa y) (fun c hc => by
          unfold pCZ bZ
          rw [g6, Int.toNat_natCast]
          exact w c hc)
        have := hg.1.2.2
        omega
theorem sp_without (hΓ : Gd Γ) (hN : N < 1000) (hX : CX σ x lo N R len tx fa z l wl wr) (bd a b : Int) (hbd : rg bd) (ha : rg a) (hb : rg b) (hD : dC R (woR R z bd a b) ≤ D) (hE : dS R (woR R z bd a b) ≤ E) : Sp Γ miX9_without (8 + D) (48 + E) [.ref x, .int (ii bd), .int (ii a), .int (ii b)] σ (oQ (eWo z bd a b) (aWo z bd (6 * b + a).toNat) (SX σ x lo (N + 1) (woR R z bd a b) len tx fa z l wl wr)) (oX [xIOB, xIAE, xISE] (eWo z bd a b) (SX σ x lo (N + 1) (woR R z bd a b) len tx fa z l wl wr)) := by
  have hX' := hX
  obtain ⟨ve, av, h1, h2, h3, h4, h5, q1, q2, -⟩ := hX'
  have hn := h4.1.1
  refine Sp_of (L := [_, _, _, _, _, _, _]) hΓ (by decide +kernel) rfl (Nat.le_of_ble_eq_true rfl) rfl ?_
  refine g_aload_n q_X9_without_0 rfl ?_
  refine g_iload_n q_X9_without_1 rfl ?_
  refine g_iload_n q_X9_without_2 rfl ?_
  refine g_callV (rc' := 7 + D) (rs' := 42 + E) (As := [_, _]) cs_X9_129 q_X9_without_3 (sp_needCell hΓ hX a b ha hb) rfl (by repeat first | with_reducible assumption | with_reducible exact hput_s _ _ _ | refine (hput_n _ _ (by omega)).trans ?_ | exact hput_s _ _ _ | assumption) rfl rfl rfl rfl (Nat.le_of_ble_eq_true rfl) (by decide) (by omega) (by omega) (fun E σ' h => by have hf : xyOK z a b = false := decide_eq_false h.2.1; have he : eWo z bd a b = 1 := if_pos hf; unfold woR; rw [he, if_neg (by decide), hf, Bool.false_and, rG_f rfl]; exact ⟨by decide, by rw [h.1]; rfl, SX.gr hX hN h.2.2⟩) (fun v σ' hq => ?_)
  obtain ⟨e1, rfl, hσ⟩ := hq
  rw [hσ]
  clear hσ
  have c1 : xyOK z a b = true := decide_eq_true e1
  have hR1 : rG (xyOK z a b && bOK bd) R z bd = rG (bOK bd) R z bd := by rw [c1, Bool.true_and]
  have eE : eWo z bd a b = if bOK bd = false then 2 else if tP (bZ z bd) = -1 then 3 else if wlB z (6 * b + a) = true then 3 else 0 := by unfold eWo; rw [if_neg (by rw [c1]; decide)]
  have eW : woR R z bd a b = if eWo z bd a b = 0 then sR (rG (bOK bd) R z bd) (wlZ z (6 * b + a).toNat) bd else rG (bOK bd) R z bd := by unfold woR; rw [hR1]
  obtain ⟨R1, hR1e⟩ : ∃ R1, R1 = rG (bOK bd) R z bd := ⟨_, rfl⟩
  have hle : ∀ b, R b ≤ R1 b := fun b => by rw [hR1e]; exact rG_le _ _ _ _ _
  have hD1 : dC R R1 ≤ D := by
    rw [eW, ← hR1e] at hD
    split at hD
    · rw [dC_tr hle (sR_le _ _ _)] at hD; omega
    · exact hD
  have hE1 : dS R R1 ≤ E := by
    rw [eW, ← hR1e] at hE
    split at hE
    · rw [dS_tr hle (sR_le _ _ _)] at hE; omega
    · exact hE
  obtain ⟨D2, hD2⟩ : ∃ D2, D = dC R R1 + D2 := ⟨D - dC R R1, by omega⟩
  obtain ⟨E2, hE2⟩ : ∃ E2, E = dS R R1 + E2 := ⟨E - dS R R1, by omega⟩
  have kxp : ∀ Ex σ', plX σ x lo N R len tx fa z l wl wr bd Ex σ' → oX [xIOB, xIAE, xISE] (eWo z bd a b) (SX σ x lo (N + 1) (woR R z bd a b) len tx fa z l wl wr) Ex σ' := by
    intro Ex σ' h
    obtain ⟨g1, g2, g3⟩ := h
    have he : eWo z bd a b ≠ 0 ∧ [xIOB, xIAE, xISE][eWo z bd a b - 1]? = some Ex := by
      rw [eE]
      rcases g1 with ⟨u1, u2⟩ | ⟨u1, u2, u3⟩
      · rw [if_pos u1, u2]; exact ⟨by decide, rfl⟩
      · rw [if_neg (by rw [u1]; decide), if_pos u2, u3]; exact ⟨by decide, rfl⟩
    rw [eW, if_neg he.1]
    exact ⟨he.1, he.2, g2.up (Nat.le_succ N) hN, g3⟩
  refine g_istore (L' := [_, _, _, _, _, _, _]) q_X9_without_6 (by decide) rfl ?_
  refine g_aload_n q_X9_without_8 rfl ?_
  refine g_iload_n q_X9_without_9 rfl ?_
  refine g_callV (rc' := 5 + D2) (rs' := 30 + E2) (As := [_]) cs_X9_296 q_X9_without_10 (sp_planned (D := dC R R1) (E := dS R R1) hΓ hX bd hbd (by rw [hR1e]; exact Nat.le_refl _) (by rw [hR1e]; exact Nat.le_refl _)) rfl (by repeat first | with_reducible assumption | with_reducible exact hput_s _ _ _ | refine (hput_n _ _ (by omega)).trans ?_ | exact hput_s _ _ _ | assumption) rfl rfl rfl rfl (Nat.le_of_ble_eq_true rfl) (by decide) (by omega) (by omega) kxp (fun v σ1 hq => ?_)
  obtain ⟨⟨w1, w2⟩, T, rfl, m1, m2, m3, m4, ct, cs, cl, co, P, C, k0, k1, k2, o1, o2, o3, o4⟩ := hq
  rw [← hR1e] at m1
  have eE2 : eWo z bd a b = if wlB z (6 * b + a) = true then 3 else 0 := by rw [eE, if_neg (by rw [w1]; decide), if_neg w2]
  unfold inXY at e1
  obtain ⟨g, hg⟩ : ∃ k : Nat, 6 * b + a = k := ⟨(6 * b + a).toNat, by omega⟩
  rw [hg] at eE2 eW ⊢
  rw [Int.toNat_natCast] at eW ⊢
  have hb9 : 10 ≤ bd ∧ bd ≤ 30 := of_decide_eq_true w1
  refine g_callVN (rc' := 5 + D2) (rs' := 30 + E2) (As := []) cs_X9_249 q_X9_without_13 (sp_sumCosts hΓ hn.2.2 k0 k2) rfl (by repeat first | with_reducible assumption | with_reducible exact hput_s _ _ _ | refine (hput_n _ _ (by omega)).trans ?_ | exact hput_s _ _ _ | assumption) rfl rfl rfl rfl (Nat.le_of_ble_eq_true rfl) (by decide) (Nat.le_refl _) (Nat.le_refl _) (fun _ _ h => h.elim) (k_ri ?_)
  have hsC := sumN_cong o3
  rw [hsC]
  obtain ⟨ve1, av1, hh1⟩ := m1
  have hh1' := hh1
  obtain ⟨-, -, -, -, -, -, kx, -, kS, kD, -⟩ := hh1'
  have kS' := kS
  obtain ⟨g0, g1, g2, g3, g4, g5, g6⟩ := kS'
  have hSr := h4.1.2.1 g
  have bad : wlB z g = true → G Γ miX9_without cX9_without (oQ (eWo z bd a b) (aWo z bd g) (SX σ x lo (N + 1) (woR R z bd a b) len tx fa z l wl wr)) (oX [xIOB, xIAE, xISE] (eWo z bd a b) (SX σ x lo (N + 1) (woR R z bd a b) len tx fa z l wl wr)) (5 + D2) (30 + E2) 44 [some (.ref x), some (.int (ii bd)), some (.int (ii a)), some (.int (ii b)), some (.int (ii g)), some (.int (ii (sumN (pCZ z bd) (zCa z)))), none] [] σ1 := by
    intro hw
    rw [if_pos hw] at eE2
    refine g_throw th_ISE q_X9_without_44.1 q_X9_without_47.1 q_X9_without_48.1 q_X9_without_51.1 rfl (by decide) (Nat.le_of_ble_eq_true rfl) (by omega) (by omega) (fun z hz => ?_)
    rw [eW, eE2, if_neg (by decide), ← hR1e]
    exact ⟨by decide, rfl, SX.tr m2 (SX.gr ⟨ve1, av1, hh1⟩ hN ⟨_, hz, rfl⟩)⟩
  refine g_istore (L' := [_, _, _, _, _, _, _]) q_X9_without_16 (by decide) rfl ?_
  refine g_aload_n q_X9_without_18 rfl ?_
  refine g_get fl_X9_19 q_X9_without_19 (by repeat first | with_reducible assumption | with_reducible exact hput_s _ _ _ | refine (hput_n _ _ (by omega)).trans ?_ | exact hput_s _ _ _ | assumption) rfl ?_
  refine g_get fl_X9_126 q_X9_without_22 (by repeat first | with_reducible assumption | with_reducible exact hput_s _ _ _ | refine (hput_n _ _ (by omega)).trans ?_ | exact hput_s _ _ _ | assumption) rfl ?_
  refine g_iload q_X9_without_25 rfl ?_
  refine g_iaload q_X9_without_27 (by repeat first | with_reducible assumption | with_reducible exact hput_s _ _ _ | refine (hput_n _ _ (by omega)).trans ?_ | exact hput_s _ _ _ | assumption) (by omega) (by omega) ?_
  refine g_topi (b := zSO z g) rfl ?_
  refine g_iconst q_X9_without_28 ?_
  refine g_icmp_eq (tgt := 44) q_X9_without_29 (by decide) ⟨by omega, by omega⟩ ⟨by omega, by omega⟩ (fun b1 => ?_) (fun b1 => ?_)
  · exact bad (by unfold wlB; rw [Int.toNat_natCast, decide_eq_true b1]; rfl)
  refine g_aload_n q_X9_without_32 rfl ?_
  refine g_get fl_X9_19 q_X9_without_33 (by repeat first | with_reducible assumption | with_reducible exact hput_s _ _ _ | refine (hput_n _ _ (by omega)).trans ?_ | exact hput_s _ _ _ | assumption) rfl ?_
  refine g_iload q_X9_without_36 rfl ?_
  refine g_callVN (rc' := 5 + D2) (rs' := 30 + E2) (As := [_]) cs_X9_151 q_X9_without_38 (sp_isTaken hΓ kS hn.2.2 h4.1.2.2.1 h4.1.2.2.2.1 g ⟨by omega, by omega⟩) rfl (by repeat first | with_reducible assumption | with_reducible exact hput_s _ _ _ | refine (hput_n _ _ (by omega)).trans ?_ | exact hput_s _ _ _ | assumption) rfl rfl rfl rfl (Nat.le_of_ble_eq_true rfl) (by decide) (Nat.le_refl _) (Nat.le_refl _) (fun _ _ h => h.elim) (k_rb ?_)
  refine g_if_eq (tgt := 52) q_X9_without_41 (by decide) (bi_rg _) (fun b2 => ?_) (fun b2 => ?_)
  case refine_2 => exact bad (by unfold wlB; rw [bi_t b2, Bool.or_true])
  have hw : wlB z g = false := by unfold wlB; rw [Int.toNat_natCast, decide_eq_false b1, bi_f b2]; rfl
  rw [if_neg (by rw [hw]; decide)] at eE2
  rw [eE2, if_pos rfl, ← hR1e] at eW
  rw [eW, eE2]
  rw [eW, dC_tr hle (sR_le _ _ _)] at hD
  rw [eW, dS_tr hle (sR_le _ _ _)] at hE
  obtain ⟨y, lv, gy, kY⟩ := kD
  have kY0 := kY.1
  refine g_aload_n q_X9_without_52 rfl ?_
  refine g_get fl_X9_23 q_X9_without_53 (by repeat first | with_reducible assumption | with_reducible exact hput_s _ _ _ | refine (hput_n _ _ (by omega)).trans ?_ | exact hput_s _ _ _ | assumption) rfl ?_
  refine g_aload_n q_X9_without_56 rfl ?_
  refine g_get fl_X9_19 q_X9_without_57 (by repeat first | with_reducible assumption | with_reducible exact hput_s _ _ _ | refine (hput_n _ _ (by omega)).trans ?_ | exact hput_s _ _ _ | assumption) rfl ?_
  refine g_callVN (rc' := 5 + D2) (rs' := 30 + E2) (As := [_]) cs_X9_103 q_X9_without_60 (sp_copyFrom hΓ kY kS (Or.inl (by omega))) rfl (by repeat first | with_reducible assumption | with_reducible exact hput_s _ _ _ | refine (hput_n _ _ (by omega)).trans ?_ | exact hput_s _ _ _ | assumption) rfl rfl rfl rfl (Nat.le_of_ble_eq_true rfl) (by decide) (Nat.le_refl _) (Nat.le_refl _) (fun _ _ h => h.elim) (fun v σ2 hq => ?_)
  obtain ⟨rfl, n1, n2⟩ := hq
  have kx2 := (n2.2 x (by unfold inb; omega)).trans kx
  obtain ⟨g0, g1, g2, g3, g4, g5, g6⟩ := n1
  refine g_aload_n q_X9_without_63 rfl ?_
  refine g_get fl_X9_23 q_X9_without_64 (by repeat first | with_reducible assumption | with_reducible exact hput_s _ _ _ | refine (hput_n _ _ (by omega)).trans ?_ | exact hput_s _ _ _ | assumption) rfl ?_
  refine g_get fl_X9_126 q_X9_without_67 (by repeat first | with_reducible assumption | with_reducible exact hput_s _ _ _ | refine (hput_n _ _ (by omega)).trans ?_ | exact hput_s _ _ _ | assumption) rfl ?_
  refine g_iload q_X9_without_70 rfl ?_
  refine g_iconst q_X9_without_72 ?_
  refine g_iastore q_X9_without_73 (by repeat first | with_reducible assumption | with_reducible exact hput_s _ _ _ | refine (hput_n _ _ (by omega)).trans ?_ | exact hput_s _ _ _ | assumption) (by omega) (by omega) ?_
  obtain ⟨τ, hτ⟩ : ∃ τ, τ = hput σ2 (x + 17 + 1) (ai 36 (va_up (zSO z) g 1)) := ⟨_, rfl⟩
  refine g_eq (σ2 := τ) rfl rfl hτ.symm ?_
  have kY2 : SCz τ (x + 17) (wlZ z g) lv := by rw [hτ]; exact ⟨(by repeat first | with_reducible assumption | with_reducible exact hput_s _ _ _ | refine (hput_n _ _ (by omega)).trans ?_ | exact hput_s _ _ _ | assumption), (by repeat first | with_reducible assumption | with_reducible exact hput_s _ _ _ | refine (hput_n _ _ (by omega)).trans ?_ | exact hput_s _ _ _ | assumption), (by repeat first | with_reducible assumption | with_reducible exact hput_s _ _ _ | refine (hput_n _ _ (by omega)).trans ?_ | exact hput_s _ _ _ | assumption), (by repeat first | with_reducible assumption | with_reducible exact hput_s _ _ _ | refine (hput_n _ _ (by omega)).trans ?_ | exact hput_s _ _ _ | assumption), (by repeat first | with_reducible assumption | with_reducible exact hput_s _ _ _ | refine (hput_n _ _ (by omega)).trans ?_ | exact hput_s _ _ _ | assumption), (by repeat first | with_reducible assumption | with_reducible exact hput_s _ _ _ | refine (hput_n _ _ (by omega)).trans ?_ | exact hput_s _ _ _ | assumption), (by repeat first | with_reducible assumption | with_reducible exact hput_s _ _ _ | refine (hput_n _ _ (by omega)).trans ?_ | exact hput_s _ _ _ | assumption)⟩
  have hE3 : eqOff σ1 τ (inb (x + 17) 7) := by rw [hτ]; exact n2.put ⟨by omega, by omega⟩ _
  have kx3 : τ.2 x = some (cpo x av1 wl ve1) := by rw [hτ]; exact (by repeat first | with_reducible assumption | with_reducible exact hput_s _ _ _ | refine (hput_n _ _ (by omega)).trans ?_ | exact hput_s _ _ _ | assumption)
  clear hτ
  have hgw : gZ (wlZ z g) := by
    obtain ⟨u1, u2, u3⟩ := h4.1
    refine ⟨u1, fun k => ?_, u3⟩
    show 0 ≤ va_up (zSO z) g 1 k ∧ va_up (zSO z) g 1 k < 6
    unfold va_up
    split
    · decide
    · exact u2 k
  have hX3 : CX τ x lo N R1 len tx fa z l wl wr := ⟨ve1, av1, hh1.dch hE3 ⟨_, _, hgw, kY2⟩⟩
  have hsr := aSup_rg hgw bd
  refine g_aload_n q_X9_without_74 rfl ?_
  refine g_iload_n q_X9_without_75 rfl ?_
  refine g_callV (rc' := 5) (rs' := 30) (As := [_]) cs_X9_340 q_X9_without_76 (sp_supposedSum (D := D2) (E := E2) hΓ hX3 kY2 hgw bd hb9 (by omega) (by omega)) rfl (by repeat first | with_reducible assumption | with_reducible exact hput_s _ _ _ | refine (hput_n _ _ (by omega)).trans ?_ | exact hput_s _ _ _ | assumption) rfl rfl rfl rfl (Nat.le_of_ble_eq_true rfl) (by decide) (by omega) (by omega) (fun _ _ h => h.elim) (fun v σ4 hq => ?_)
  obtain ⟨rfl, s1, s2⟩ := hq
  have hSX := SX.tr ((m2.trans (eqG_fX (lo := lo) hE3 (fun a i => by unfold inb at *; omega)) (fun _ _ h => h)).trans s2 (fun _ _ h => h)) (SX.of s1 hN)
  refine g_istore (L' := [_, _, _, _, _, _, _]) q_X9_without_79 (by decide) rfl ?_
  refine g_iload q_X9_without_81 rfl ?_
  refine g_iconst q_X9_without_83 ?_
  refine g_icmp_ne (tgt := 91) q_X9_without_84 (by decide) ⟨by omega, by omega⟩ ⟨by omega, by omega⟩ (fun b3 => ?_) (fun b3 => ?_)
  · refine g_iload q_X9_without_91 rfl ?_
    refine g_iload q_X9_without_93 rfl ?_
    refine g_isub q_X9_without_95 ?_
    refine g_ireturn q_X9_without_96.1 rfl ?_
    exact ⟨rfl, by unfold aWo; rw [if_neg b3], hSX⟩
  · refine g_iconst q_X9_without_87 ?_
    refine g_goto (tgt := 96) q_X9_without_88 (by decide) ?_
    refine g_ireturn q_X9_without_96.1 rfl ?_
    exact ⟨rfl, by unfold aWo; rw [if_pos (by omega)], hSX⟩
/-- the scene with the places at a time of the plan -/
noncomputable def agZ (z : PS) (bd : Int) (t : Nat) : PS := (zPo z, zCo z, zRo z, zCa z, zSO z, (fun k => if k < zCa z then pPZ z bd (41 * k + t) else zPL z k), zGO z, zLE z, zNL z)
noncomputable def eAg (z : PS) (bd t : Int) : Nat := eP (tOK t) bd z 1 2
noncomputable def agR (R : Nat → Nat) (z : PS) (bd t : Int) : Nat → Nat := if eAg z bd t = 0 then sR (rG (tOK t && bOK bd) R z bd) (agZ z bd t.toNat) bd else rG (tOK t && bOK bd) R z bd
theorem sp_again (hΓ : Gd Γ) (hN : N < 1000) (hX : CX σ x lo N R len tx fa z l wl wr) (bd t : Int) (hbd : rg bd) (ht : rg t) (hD : dC R (agR R z bd t) ≤ D) (hE : dS R (agR R z bd t) ≤ E) : Sp Γ miX9_again (8 + D) (48 + E) [.ref x, .int (ii bd), .int (ii t)] σ (oQ (eAg z bd t) (aSup (agZ z bd t.toNat) bd) (SX σ x lo (N + 1) (agR R z bd t) len tx fa z l wl wr)) (oX [xIAE, xISE] (eAg z bd t) (SX σ x lo (N + 1) (agR R z bd t) len tx fa z l wl wr)) := by
  have hX' := hX
  obtain ⟨ve, av, h1, h2, h3, h4, h5, q1, q2, -⟩ := hX'
  have hn := h4.1.1
  refine Sp_of (L := [_, _, _, _, _]) hΓ (by decide +kernel) rfl (Nat.le_of_ble_eq_true rfl) rfl ?_
  refine g_iload_n q_X9_again_0 rfl ?_
  refine g_callS (rc' := 7 + D) (rs' := 42 + E) (As := [_]) cs_X9_190 q_X9_again_1 (sp_needTime hΓ t ht) rfl rfl rfl (Nat.le_of_ble_eq_true rfl) (by decide) (by omega) (by omega) (fun E σ' h => by have hf : tOK t = false := decide_eq_false h.2.1; have he : eAg z bd t = 1 := eP_1 hf; unfold agR; rw [he, if_neg (by decide), hf, Bool.false_and, rG_f rfl]; exact ⟨by decide, by rw [h.1]; rfl, SX.gr hX hN h.2.2⟩) (fun v σ' hq => ?_)
  obtain ⟨rfl, e1, hσ⟩ := hq
  rw [hσ]
  clear hσ
  have c1 : tOK t = true := decide_eq_true e1
  have hR1 : rG (tOK t && bOK bd) R z bd = rG (bOK bd) R z bd := by rw [c1, Bool.true_and]
  have eW : agR R z bd t = if eAg z bd t = 0 then sR (rG (bOK bd) R z bd) (agZ z bd t.toNat) bd else rG (bOK bd) R z bd := by unfold agR; rw [hR1]
  obtain ⟨R1, hR1e⟩ : ∃ R1, R1 = rG (bOK bd) R z bd := ⟨_, rfl⟩
  have hle : ∀ b, R b ≤ R1 b := fun b => by rw [hR1e]; exact rG_le _ _ _ _ _
  have hD1 : dC R R1 ≤ D := by
    rw [eW, ← hR1e] at hD
    split at hD
    · rw [dC_tr hle (sR_le _ _ _)] at hD; omega
    · exact hD
  have hE1 : dS R R1 ≤ E := by
    rw [eW, ← hR1e] at hE
    split at hE
    · rw [dS_tr hle (sR_le _ _ _)] at hE; omega
    · exact hE
  obtain ⟨D2, hD2⟩ : ∃ D2, D = dC R R1 + D2 := ⟨D - dC R R1, by omega⟩
  obtain ⟨E2, hE2⟩ : ∃ E2, E = dS R R1 + E2 := ⟨E - dS R R1, by omega⟩
  have kxp : ∀ Ex σ', plX σ x lo N R len tx fa z l wl wr bd Ex σ' → oX [xIAE, xISE] (eAg z bd t) (SX σ x lo (N + 1) (agR R z bd t) len tx fa z l wl wr) Ex σ' := by
    intro Ex σ' h
    have hk : oX [xIAE, xISE] (eAg z bd t) (SX σ x lo (N + 1) (rG (tOK t && bOK bd) R z bd) len tx fa z l wl wr) Ex σ' := plK (pre := tOK t) (n1 := 1) (n2 := 2) (xs := [xIAE, xISE]) h hN c1 ⟨by decide, rfl⟩ ⟨by decide, rfl⟩
    rw [hR1] at hk
    rw [eW, if_neg hk.1]
    exact hk
  refine g_aload_n q_X9_again_4 rfl ?_
  refine g_iload_n q_X9_again_5 rfl ?_
  refine g_callV (rc' := 5 + D2) (rs' := 30 + E2) (As := [_]) cs_X9_296 q_X9_again_6 (sp_planned (D := dC R R1) (E := dS R R1) hΓ hX bd hbd (by rw [hR1e]; exact Nat.le_refl _) (by rw [hR1e]; exact Nat.le_refl _)) rfl (by repeat first | with_reducible assumption | with_reducible exact hput_s _ _ _ | refine (hput_n _ _ (by omega)).trans ?_ | exact hput_s _ _ _ | assumption) rfl rfl rfl rfl (Nat.le_of_ble_eq_true rfl) (by decide) (by omega) (by omega) kxp (fun v σ1 hq => ?_)
  obtain ⟨⟨w1, w2⟩, T, rfl, m1, m2, m3, m4, ct, cs, cl, co, P, C, k0, k1, k2, o1, o2, o3, o4⟩ := hq
  rw [← hR1e] at m1
  have eE2 : eAg z bd t = 0 := eP_0 c1 w1 w2
  have hb9 : 10 ≤ bd ∧ bd ≤ 30 := of_decide_eq_true w1
  rw [eE2, if_pos rfl, ← hR1e] at eW
  rw [eW, eE2]
  rw [eW, dC_tr hle (sR_le _ _ _)] at hD
  rw [eW, dS_tr hle (sR_le _ _ _)] at hE
  obtain ⟨u, rfl⟩ : ∃ k : Nat, t = k := ⟨t.toNat, by omega⟩
  rw [Int.toNat_natCast] at hD hE ⊢
  obtain ⟨ve1, av1, hh1⟩ := m1
  have hh1' := hh1
  obtain ⟨hlo9, -, -, -, -, -, kx, -, kS, kD, -⟩ := hh1'
  have hlo := hlo9.1
  obtain ⟨y, lv, gy, kY⟩ := kD
  have kY0 := kY.1
  have kS0 := kS.1
  refine g_astore_n (L' := [_, _, _, _, _]) q_X9_again_9 (by decide) rfl ?_
  refine g_aload_n q_X9_again_10 rfl ?_
  refine g_get fl_X9_23 q_X9_again_11 (by repeat first | with_reducible assumption | with_reducible exact hput_s _ _ _ | refine (hput_n _ _ (by omega)).trans ?_ | exact hput_s _ _ _ | assumption) rfl ?_
  refine g_aload_n q_X9_again_14 rfl ?_
  refine g_get fl_X9_19 q_X9_again_15 (by repeat first | with_reducible assumption | with_reducible exact hput_s _ _ _ | refine (hput_n _ _ (by omega)).trans ?_ | exact hput_s _ _ _ | assumption) rfl ?_
  refine g_callVN (rc' := 5 + D2) (rs' := 30 + E2) (As := [_]) cs_X9_103 q_X9_again_18 (sp_copyFrom hΓ kY kS (Or.inl (by omega))) rfl (by repeat first | with_reducible assumption | with_reducible exact hput_s _ _ _ | refine (hput_n _ _ (by omega)).trans ?_ | exact hput_s _ _ _ | assumption) rfl rfl rfl rfl (Nat.le_of_ble_eq_true rfl) (by decide) (Nat.le_refl _) (Nat.le_refl _) (fun _ _ h => h.elim) (fun v σ2 hq => ?_)
  obtain ⟨rfl, n1, n2⟩ := hq
  refine g_iconst q_X9_again_21 ?_
  refine g_istore (L' := [_, _, _, _, _]) q_X9_again_22 (by decide) rfl ?_
  refine g_loop2 (fun (k : Nat) (τ : AH) => k ≤ zCa z ∧ eqOff σ1 τ (inb (x + 17) 7) ∧ SCo τ (x + 17) (zCo z) (zRo z) (zCa z) (zSO z) (fun j => if j < k then pPZ z bd (41 * j + u) else zPL z j) (zGO z) (zLE z) (zNL z) lv) (fun k τ => G Γ _ cX9_again _ _ (5 + D2) (30 + E2) 24 [some (.ref x), some (.int (ii bd)), some (.int (ii u)), some (.ref (T + 5)), some (.int (ii k))] [] τ) (fun k τ => zCa z - k) ?_ 0 σ2 ⟨Nat.zero_le _, n2, ?_⟩
  rotate_left
  · rw [show (fun j => if j < 0 then pPZ z bd (41 * j + u) else zPL z j) = zPL z from funext (fun j => if_neg (Nat.not_lt_zero j))]
    exact n1
  intro k τ ⟨hk, hE3, kY2⟩ ih
  have e := hE3.2
  have kx2 := (e x (by unfold inb; omega)).trans kx
  have t0 := (e (T + 5) (by unfold inb; omega)).trans k0
  have t1 := (e (T + 5 + 1) (by unfold inb; omega)).trans k1
  have kY20 := kY2.1
  refine g_iload q_X9_again_24 rfl ?_
  refine g_aload_n q_X9_again_26 rfl ?_
  refine g_get fl_X9_310 q_X9_again_27 (by repeat first | with_reducible assumption | with_reducible exact hput_s _ _ _ | refine (hput_n _ _ (by omega)).trans ?_ | exact hput_s _ _ _ | assumption) rfl ?_
  refine g_icmp_ge (tgt := 56) q_X9_again_30 (by decide) ⟨by omega, by omega⟩ ⟨by omega, by omega⟩ (fun b1 => ?_) (fun b1 => ?_)
  · have ek : k = zCa z := by omega
    subst ek
    have hgw : gZ (agZ z bd u) := by
      obtain ⟨u1, u2, u3, u4⟩ := h4.1
      refine ⟨u1, u2, fun k => ?_, u4⟩
      show (-1 ≤ (if k < zCa z then pPZ z bd (41 * k + u) else zPL z k) ∧ (if k < zCa z then pPZ z bd (41 * k + u) else zPL z k) < 36) ∧ (k < zCa z → 0 ≤ (if k < zCa z then pPZ z bd (41 * k + u) else zPL z k))
      by_cases hkn : k < zCa z
      · rw [if_pos hkn, ← o4 _ (by omega)]
        have := o1 (41 * k + u)
        exact ⟨⟨by omega, this.2⟩, fun _ => this.1⟩
      · rw [if_neg hkn]
        exact ⟨(u3 k).1, fun q => absurd q hkn⟩
    have kY3 : SCz τ (x + 17) (agZ z bd u) lv := kY2
    have hX3 : CX τ x lo N R1 len tx fa z l wl wr := ⟨ve1, av1, hh1.dch hE3 ⟨_, _, hgw, kY3⟩⟩
    refine g_aload_n q_X9_again_56 rfl ?_
    refine g_iload_n q_X9_again_57 rfl ?_
    refine g_callV (rc' := 5) (rs' := 30) (As := [_]) cs_X9_340 q_X9_again_58 (sp_supposedSum (D := D2) (E := E2) hΓ hX3 kY3 hgw bd hb9 (by omega) (by omega)) rfl (by repeat first | with_reducible assumption | with_reducible exact hput_s _ _ _ | refine (hput_n _ _ (by omega)).trans ?_ | exact hput_s _ _ _ | assumption) rfl rfl rfl rfl (Nat.le_of_ble_eq_true rfl) (by decide) (by omega) (by omega) (fun _ _ h => h.elim) (fun v σ4 hq => ?_)
    obtain ⟨rfl, s1, s2⟩ := hq
    refine g_ireturn q_X9_again_61.1 rfl ?_
    exact ⟨rfl, rfl, SX.tr ((m2.trans (eqG_fX (lo := lo) hE3 (fun a i => by unfold inb at *; omega)) (fun _ _ h => h)).trans s2 (fun _ _ h => h)) (SX.of s1 hN)⟩
  · obtain ⟨g0, g1, g2, g3, g4, g5, g6⟩ := kY2
    refine g_aload_n q_X9_again_33 rfl ?_
    refine g_get fl_X9_23 q_X9_again_34 (by repeat first | with_reducible assumption | with_reducible exact hput_s _ _ _ | refine (hput_n _ _ (by omega)).trans ?_ | exact hput_s _ _ _ | assumption) rfl ?_
    refine g_get fl_X9_136 q_X9_again_37 (by repeat first | with_reducible assumption | with_reducible exact hput_s _ _ _ | refine (hput_n _ _ (by omega)).trans ?_ | exact hput_s _ _ _ | assumption) rfl ?_
    refine g_iload q_X9_again_40 rfl ?_
    refine g_aload_n q_X9_again_42 rfl ?_
    refine g_iload q_X9_again_43 rfl ?_
    refine g_iload_n q_X9_again_45 rfl ?_
    refine g_callVN (rc' := 5 + D2) (rs' := 30 + E2) (As := [_, _]) cs_X9_193 q_X9_again_46 (sp_cellOf hΓ t0 t1 k u (by omega) (by omega)) rfl (by repeat first | with_reducible assumption | with_reducible exact hput_s _ _ _ | refine (hput_n _ _ (by omega)).trans ?_ | exact hput_s _ _ _ | assumption) rfl rfl rfl rfl (Nat.le_of_ble_eq_true rfl) (by decide) (Nat.le_refl _) (Nat.le_refl _) (fun _ _ h => h.elim) (k_ri ?_)
    refine g_iastore q_X9_again_49 (by repeat first | with_reducible assumption | with_reducible exact hput_s _ _ _ | refine (hput_n _ _ (by omega)).trans ?_ | exact hput_s _ _ _ | assumption) (by omega) (by omega) ?_
    have ef : va_up (fun j => if j < k then pPZ z bd (41 * j + u) else zPL z j) k (P (41 * k + u)) = fun j => if j < k + 1 then pPZ z bd (41 * j + u) else zPL z j := by
      funext j
      unfold va_up
      by_cases hj : j = k
      · rw [if_pos hj, if_pos (by omega), hj, o4 _ (by omega)]
      · rw [if_neg hj]
        show (if j < k then pPZ z bd (41 * j + u) else zPL z j) = if j < k + 1 then pPZ z bd (41 * j + u) else zPL z j
        by_cases hj2 : j < k
        · rw [if_pos hj2, if_pos (by omega)]
        · rw [if_neg hj2, if_neg (by omega)]
    have hnx := ih (k + 1) (hput τ (x + 17 + 2) (ai 5 (va_up (fun j => if j < k then pPZ z bd (41 * j + u) else zPL z j) k (P (41 * k + u))))) ⟨by omega, hE3.put ⟨by omega, by omega⟩ _, by rw [ef]; exact ⟨(by repeat first | with_reducible assumption | with_reducible exact hput_s _ _ _ | refine (hput_n _ _ (by omega)).trans ?_ | exact hput_s _ _ _ | assumption), (by repeat first | with_reducible assumption | with_reducible exact hput_s _ _ _ | refine (hput_n _ _ (by omega)).trans ?_ | exact hput_s _ _ _ | assumption), (by repeat first | with_reducible assumption | with_reducible exact hput_s _ _ _ | refine (hput_n _ _ (by omega)).trans ?_ | exact hput_s _ _ _ | assumption), (by repeat first | with_reducible assumption | with_reducible exact hput_s _ _ _ | refine (hput_n _ _ (by omega)).trans ?_ | exact hput_s _ _ _ | assumption), (by repeat first | with_reducible assumption | with_reducible exact hput_s _ _ _ | refine (hput_n _ _ (by omega)).trans ?_ | exact hput_s _ _ _ | assumption), (by repeat first | with_reducible assumption | with_reducible exact hput_s _ _ _ | refine (hput_n _ _ (by omega)).trans ?_ | exact hput_s _ _ _ | assumption), (by repeat first | with_reducible assumption | with_reducible exact hput_s _ _ _ | refine (hput_n _ _ (by omega)).trans ?_ | exact hput_s _ _ _ | assumption)⟩⟩ (by omega)
    refine g_iinc (L' := [_, _, _, _, _]) q_X9_again_50 rfl rfl ?_
    refine g_goto (tgt := 24) q_X9_again_53 (by decide) ?_
    exact hnx
end X9M

