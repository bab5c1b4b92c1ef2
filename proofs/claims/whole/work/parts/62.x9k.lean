/-! CartPaths: plan, node, stops -/
theorem Sp_cons {Γ : GT} {mi : MI} {mc ms : Nat} {vs : List Value} {σ : AH} {Q Q2 : Option Value → AH → Prop} {QX QX2 : String → AH → Prop} (h : Sp Γ mi mc ms vs σ Q QX) (h1 : ∀ r σ', Q r σ' → Q2 r σ') (h2 : ∀ E σ', QX E σ' → QX2 E σ') : Sp Γ mi mc ms vs σ Q2 QX2 := by
  refine MetFree.mono h (fun _ _ h => h) (fun _ _ _ _ _ h => h) (fun a st o t _ hq => ?_)
  rcases hq with ⟨⟨r, σ', w1, w2, w3, w4⟩, w5⟩ | ⟨q, w1, Ex, ce, L, ⟨σ', v1, v2⟩, w3⟩
  · exact Or.inl ⟨⟨r, σ', w1, h1 r σ' w2, w3, w4⟩, w5⟩
  · exact Or.inr ⟨q, w1, Ex, ce, L, ⟨σ', h2 Ex σ' v1, v2⟩, w3⟩
theorem cmz_cg {P P' : Nat → Int} {n k t : Nat} (h : ∀ i, i < 41 * n → P i = P' i) (hk : k < n) (ht : t < 40) : cmz P k t = cmz P' k t := by unfold cmz; rw [h _ (by omega), h _ (by omega)]
theorem so2_cg {P P' lf cm : Nat → Int} {n k t : Nat} (h : ∀ i, i < 41 * n → P i = P' i) (hk : k < n) (ht : t < 40) : so2 P n t lf cm k = so2 P' n t lf cm k := by
  unfold so2
  rw [cmz_cg h hk ht, h (41 * k + (t + 1)) (by omega), fstN_cong (q := fun c => decide (P' (41 * c + t) = P' (41 * k + (t + 1)))) (fun c hc => by rw [h _ (by omega)])]
theorem so3_cg {P P' lf cm : Nat → Int} {n t : Nat} (h : ∀ i, i < 41 * n → P i = P' i) (ht : t < 40) : ∀ k, k ≤ n → so3 P n t lf cm k = so3 P' n t lf cm k
  | 0, _ => rfl
  | k + 1, hk => by unfold so3; rw [so3_cg h ht k (by omega), so2_cg h (by omega) ht]
theorem so4_cg {P P' lf cm : Nat → Int} {n t : Nat} (h : ∀ i, i < 41 * n → P i = P' i) (ht : t < 40) : ∀ r, so4 P n t lf cm r = so4 P' n t lf cm r
  | 0 => rfl
  | r + 1 => by unfold so4; rw [so4_cg h ht r, so3_cg h ht n (Nat.le_refl n)]
theorem so5_cg {P P' lf cm : Nat → Int} {n t : Nat} (h : ∀ i, i < 41 * n → P i = P' i) (ht : t < 40) : ∀ k, k ≤ n → so5 P t lf cm k = so5 P' t lf cm k
  | 0, _ => rfl
  | k + 1, hk => by unfold so5; rw [so5_cg h ht k (by omega), cmz_cg h (by omega) ht, h (41 * k + t) (by omega)]
theorem so1_cg {P P' cm : Nat → Int} {n t : Nat} (h : ∀ i, i < 41 * n → P i = P' i) (ht : t < 40) : so1 P t cm n = so1 P' t cm n := by
  funext k
  unfold so1
  by_cases hk : k < n
  · rw [cmz_cg h hk ht]
  · rw [if_neg (fun q => hk q.1), if_neg (fun q => hk q.1)]
theorem so6_cg {P P' : Nat → Int} {n sd ti nn : Nat} (h : ∀ i, i < 41 * n → P i = P' i) (hs : sd < n) : ∀ t, t ≤ 40 → so6 P n sd ti nn t = so6 P' n sd ti nn t
  | 0, _ => rfl
  | t + 1, ht => by
    unfold so6
    simp only
    rw [so6_cg h hs t (by omega), so1_cg h (by omega), cmz_cg h hs (by omega), so4_cg h (by omega), so5_cg h (by omega) n (Nat.le_refl n)]
def aLate (P C : Nat → Int) (n c sd ti nn : Nat) : Int := (so6 P n sd ti nn 40).2.1 c - C c
def aLsum (P C : Nat → Int) (n sd ti nn : Nat) : Int := sumN (fun c => aLate P C n c sd ti nn) n
theorem aLate_cg {P P' C C' : Nat → Int} {n c sd ti nn : Nat} (h : ∀ i, i < 41 * n → P i = P' i) (hC : ∀ c, c < n → C c = C' c) (hs : sd < n) (hc : c < n) : aLate P C n c sd ti nn = aLate P' C' n c sd ti nn := by unfold aLate; rw [so6_cg h hs 40 (Nat.le_refl 40), hC c hc]
theorem aLsum_cg {P P' C C' : Nat → Int} {n sd ti nn : Nat} (h : ∀ i, i < 41 * n → P i = P' i) (hC : ∀ c, c < n → C c = C' c) (hs : sd < n) : aLsum P C n sd ti nn = aLsum P' C' n sd ti nn := sumN_cong fun c hc => aLate_cg h hC hs hc
theorem aLate_rg {P C : Nat → Int} {n c sd ti nn : Nat} (hC : okC C) (h1 : ti ≤ 40) (h2 : nn ≤ 20) : -40 ≤ aLate P C n c sd ti nn ∧ aLate P C n c sd ti nn ≤ 102 := by
  have := (bdT_so6 (P := P) (n := n) (sd := sd) h1 h2 40).1 c
  have := hC c
  unfold aLate
  omega
theorem aLsum_rg {P C : Nat → Int} {n sd ti nn : Nat} (hC : okC C) (h1 : ti ≤ 40) (h2 : nn ≤ 20) (hn : n ≤ 5) : -200 ≤ aLsum P C n sd ti nn ∧ aLsum P C n sd ti nn ≤ 510 := by
  have := sumN_rg (C := fun c => aLate P C n c sd ti nn) (a := -40) (b := 102) (n := n) (fun c _ => aLate_rg hC h1 h2)
  unfold aLsum
  omega
/-- the greatest n up to m that makes no other late -/
def slN (P C : Nat → Int) (n c ti : Nat) : Nat → Int
  | 0 => 0
  | m + 1 => if aLsum P C n c ti (m + 1) = aLate P C n c c ti (m + 1) then ((m + 1 : Nat) : Int) else slN P C n c ti m
/-- worst and by how much of the first carts -/
def crN (P C : Nat → Int) (n nn : Nat) : Nat → Int × Int
  | 0 => (-1, -1)
  | k + 1 => if (crN P C n nn k).2 < aLsum P C n k 0 nn then ((k : Int), aLsum P C n k 0 nn) else crN P C n nn k
theorem slN_cg {P P' C C' : Nat → Int} {n c ti : Nat} (h : ∀ i, i < 41 * n → P i = P' i) (hC : ∀ c, c < n → C c = C' c) (hc : c < n) : ∀ m, slN P C n c ti m = slN P' C' n c ti m
  | 0 => rfl
  | m + 1 => by unfold slN; rw [slN_cg h hC hc m, aLsum_cg h hC hc, aLate_cg h hC hc hc]
theorem crN_cg {P P' C C' : Nat → Int} {n nn : Nat} (h : ∀ i, i < 41 * n → P i = P' i) (hC : ∀ c, c < n → C c = C' c) : ∀ k, k ≤ n → crN P C n nn k = crN P' C' n nn k
  | 0, _ => rfl
  | k + 1, hk => by unfold crN; rw [crN_cg h hC k (by omega), aLsum_cg h hC (by omega)]
theorem crN_rg {P C : Nat → Int} {n nn : Nat} (hC : okC C) (h2 : nn ≤ 20) (hn : n ≤ 5) : ∀ k, -200 ≤ (crN P C n nn k).2 ∧ (crN P C n nn k).2 ≤ 510
  | 0 => ⟨by show (-200 : Int) ≤ -1; decide, by show (-1 : Int) ≤ 510; decide⟩
  | k + 1 => by
    unfold crN
    split
    · exact aLsum_rg hC (by omega) h2 hn
    · exact crN_rg hC h2 hn k
section X9K
variable {Γ : GT} {σ : AH} {x lo N : Nat} {R : Nat → Nat} {len : Nat} {tx : Nat → Int} {fa : Int} {z : PS} {l : List (Int × Int × Int)} {wl : Nat} {wr : Nat → Int} {D E : Nat}
/-- the stop alone has changed -/
theorem CXh.pch {σ σ' : AH} {ve : Nat} {av : Int} (h : CXh σ x lo N R len tx fa z l wl wr ve av) (hE : eqOff σ σ' (inb (x + 50) 3)) (hk : K9 σ' x) : CXh σ' x lo N R len tx fa z l wl wr ve av := by
  obtain ⟨h1, h2, h3, h4, h5, q1, q2, q3, q4, q5, q6, q7, q8, ⟨TA, q9⟩, q10, q11, q12⟩ := h
  have hlo := h1.1
  have hlo2 := h1.2.1
  have e := hE.2
  exact ⟨⟨h1.1, by rw [hE.1]; exact h1.2.1, h1.2.2⟩, h2, h3, h4, h5, q1, (e _ (by unfold inb; omega)).trans q2, q3.kp (fun a i => e a (by unfold inb at i ⊢; omega)), q4.keep (fun a i => e a (by unfold inb at i ⊢; omega)), q5.kp (fun a i => e a (by unfold inb at i ⊢; omega)), q6.keep (fun a i => e a (by unfold inb at i ⊢; omega)), q7.keep (fun a i => e a (by unfold inb at i ⊢; omega)), q8.kp (fun a i => e a (by unfold inb at i ⊢; omega)), ⟨TA, q9.kp (by rw [hE.1]; exact Nat.le_refl _) (fun a ha i => e a (by unfold inb at i ⊢; omega)) (by omega)⟩, q10.kp (fun a i => e a (by unfold inb at i ⊢; omega)), hk, (e _ (by unfold inb; omega)).trans q12⟩
/-- one run of the stop over ways that lie behind lo -/
theorem sp_run9 (hΓ : Gd Γ) {T : Nat} {P C : Nat → Int} {ct cs cl co : Int} (hX : CX σ x lo N R len tx fa z l wl wr) (hT : lo ≤ T) (k0 : σ.2 (T + 5) = some (wyo (T + 5) (zCa z) ct cs cl co)) (k1 : σ.2 (T + 5 + 1) = some (ai 205 P)) (k2 : σ.2 (T + 5 + 2) = some (ai 5 C)) (o1 : okP P) (sd ti nn : Nat) (hsd : sd < 5) (hti : ti ≤ 40) (hnn : nn ≤ 20) : Sp Γ miX4_run 0 0 [.ref (x + 50), .ref (T + 5), .int (ii sd), .int (ii ti), .int (ii nn)] σ (fun r σ' => r = none ∧ CX σ' x lo N R len tx fa z l wl wr ∧ eqOff σ σ' (inb (x + 50) 3) ∧ (∃ lf, STo σ' (x + 50) (so6 P (zCa z) sd ti nn 40).2.1 lf) ∧ σ'.2 (T + 5) = some (wyo (T + 5) (zCa z) ct cs cl co) ∧ σ'.2 (T + 5 + 1) = some (ai 205 P) ∧ σ'.2 (T + 5 + 2) = some (ai 5 C)) noX := by
  obtain ⟨ve, av, hh⟩ := hX
  have hlo := hh.1.1
  obtain ⟨cm, lf, hS⟩ := hh.2.2.2.2.2.2.2.2.2.2.2.2.2.2.2.1
  have h4 := hh.2.2.2.1
  refine Sp_cons (sp_run hΓ h4.1.1.2.2 o1 hS ⟨⟨ct, cs, cl, co, k0⟩, k1, k2⟩ (Or.inl (by omega)) sd ti nn hsd hti hnn) (fun r σ' hq => ?_) (fun _ _ h => h)
  obtain ⟨e1, e2, e3⟩ := hq
  exact ⟨e1, ⟨ve, av, hh.pch e3 ⟨_, _, e2⟩⟩, e3, ⟨_, e2⟩, (e3.2 _ (by unfold inb; omega)).trans k0, (e3.2 _ (by unfold inb; omega)).trans k1, (e3.2 _ (by unfold inb; omega)).trans k2⟩
noncomputable def ePlan (bd w : Int) : Nat := if bOK bd = false then 1 else if 0 ≤ w ∧ w ≤ 5 then 0 else 2
noncomputable def aPlan (z : PS) (bd w : Int) : Int := if w = 0 then (if tP (bZ z bd) ≠ -1 then sumN (pCZ z bd) (zCa z) else if tC (bZ z bd) = true then -2 else -1) else if w = 1 then tN (bZ z bd) else if w = 2 then tS (bZ z bd) else if w = 3 then (if tP (bZ z bd) ≠ -1 ∧ 0 < zCa z then mxN (pCZ z bd) (zCa z) else -1) else if w = 4 then tL (bZ z bd) else tP (bZ z bd)
theorem sp_plan (hΓ : Gd Γ) (hN : N < 1000) (hX : CX σ x lo N R len tx fa z l wl wr) (bd w : Int) (hbd : rg bd) (hw : rg w) (hD : dC R (rG (bOK bd) R z bd) ≤ D) (hE : dS R (rG (bOK bd) R z bd) ≤ E) : Sp Γ miX9_plan (8 + D) (48 + E) [.ref x, .int (ii bd), .int (ii w)] σ (oQ (ePlan bd w) (aPlan z bd w) (SX σ x lo (N + 1) (rG (bOK bd) R z bd) len tx fa z l wl wr)) (oX [xIAE, xNSE] (ePlan bd w) (SX σ x lo (N + 1) (rG (bOK bd) R z bd) len tx fa z l wl wr)) := by
  have hX' := hX
  obtain ⟨ve, av, h1, h2, h3, h4, h5, q1, q2, -⟩ := hX'
  have hn := h4.1.1
  refine Sp_of (L := [_, _, _, _, _]) hΓ (by decide +kernel) rfl (Nat.le_of_ble_eq_true rfl) rfl ?_
  refine g_aload_n q_X9_plan_0 rfl ?_
  refine g_iload_n q_X9_plan_1 rfl ?_
  refine g_callV (rc' := 4) (rs' := 24) (As := [_]) cs_X9_239 q_X9_plan_2 (sp_treeOf hΓ hX bd hbd) rfl (by repeat first | with_reducible assumption | with_reducible exact hput_s _ _ _ | refine (hput_n _ _ (by omega)).trans ?_ | exact hput_s _ _ _ | assumption) rfl rfl rfl rfl (Nat.le_of_ble_eq_true rfl) (by decide) (by omega) (by omega) (fun E σ' h => by have hf : bOK bd = false := decide_eq_false h.2.1; unfold ePlan; rw [hf, if_pos rfl, rG_f rfl]; exact ⟨by decide, by rw [h.1]; rfl, SX.gr hX hN h.2.2⟩) (fun v σ1 hq => ?_)
  obtain ⟨e1, T, M, ad, tv, rfl, m1, m2, m3, m4, m5⟩ := hq
  obtain ⟨u0, u1, u2, u3⟩ := m5
  have hb : bOK bd = true := decide_eq_true e1
  have eP9 : ePlan bd w = if 0 ≤ w ∧ w ≤ 5 then 0 else 2 := by unfold ePlan; rw [hb, if_neg (by decide)]
  rw [eP9]
  have hSX := SX.tr m2 (SX.of m1 hN)
  have hTP : rg (tP (bZ z bd)) := by
    have hb := bld_rg (bd := bd) (okL_z h4.1) h4.1.2.2.1 h4.1.2.2.2.1 h4.1.1.2.2
    unfold bZ
    rcases hb with ⟨h9 | ⟨k, h8, h9⟩, h7, -⟩
    · rw [h9]; exact ⟨by decide, by decide⟩
    · rw [h9]; exact ⟨by omega, by omega⟩
  obtain ⟨n2, P, C, ⟨⟨ct, cs, cl, co, k0⟩, k1, k2⟩, o1, o2, o3⟩ := u3
  obtain ⟨ve1, av1, hh1⟩ := m1
  have kx1 := hh1.2.2.2.2.2.2.1
  have kS1 := hh1.2.2.2.2.2.2.2.2.1
  have g0 := kS1.1
  have go : ∀ q : Bool, q = decide (tP (bZ z bd) ≠ -1) → G Γ miX9_plan cX9_plan (oQ (if 0 ≤ w ∧ w ≤ 5 then 0 else 2) (aPlan z bd w) (SX σ x lo (N + 1) (rG (bOK bd) R z bd) len tx fa z l wl wr)) (oX [xIAE, xNSE] (if 0 ≤ w ∧ w ≤ 5 then 0 else 2) (SX σ x lo (N + 1) (rG (bOK bd) R z bd) len tx fa z l wl wr)) 4 24 19 [some (.ref x), some (.int (ii bd)), some (.int (ii w)), some (.ref T), none] [.int (ii (bi q))] σ1 := by
    intro q hq
    refine g_istore (L' := [_, _, _, _, _]) q_X9_plan_19 (by decide) rfl ?_
    refine g_iload_n q_X9_plan_21 rfl ?_
    by_cases hr : 0 ≤ w ∧ w ≤ 5
    · rw [if_pos hr]
      have hc : w = 0 ∨ w = 1 ∨ w = 2 ∨ w = 3 ∨ w = 4 ∨ w = 5 := by omega
      rcases hc with rfl | rfl | rfl | rfl | rfl | rfl
      · refine g_tswIn (off := 38) (tgt := 60) q_X9_plan_22 ⟨by decide, by decide⟩ (by decide) (by decide) rfl (by decide) ?_
        refine g_iload q_X9_plan_60 rfl ?_
        refine g_if_eq (tgt := 75) q_X9_plan_62 (by decide) (bi_rg _) (fun b1 => ?_) (fun b1 => ?_)
        · have hf := bi_f b1
          rw [hq] at hf
          have hf' := of_decide_eq_false hf
          refine g_aload_n q_X9_plan_75 rfl ?_
          refine g_get fl_X9_252 q_X9_plan_76 (by repeat first | with_reducible assumption | with_reducible exact hput_s _ _ _ | refine (hput_n _ _ (by omega)).trans ?_ | exact hput_s _ _ _ | assumption) rfl ?_
          refine g_if_eq (tgt := 87) q_X9_plan_79 (by decide) (bi_rg _) (fun b2 => ?_) (fun b2 => ?_)
          · refine g_iconst q_X9_plan_87 ?_
            refine g_ireturn q_X9_plan_88.1 rfl ?_
            refine ⟨rfl, ?_, hSX⟩
            show _ = some (Value.int (ii (if tP (bZ z bd) ≠ -1 then _ else if tC (bZ z bd) = true then -2 else -1)))
            rw [if_neg hf', if_neg (by rw [bi_f b2]; decide)]
          · refine g_bipush q_X9_plan_82 bp_m2 ?_
            refine g_goto (tgt := 88) q_X9_plan_84 (by decide) ?_
            refine g_ireturn q_X9_plan_88.1 rfl ?_
            refine ⟨rfl, ?_, hSX⟩
            show _ = some (Value.int (ii (if tP (bZ z bd) ≠ -1 then _ else if tC (bZ z bd) = true then -2 else -1)))
            rw [if_neg hf', if_pos (bi_t b2)]
        · have hf := bi_t b1
          rw [hq] at hf
          have hf' := of_decide_eq_true hf
          obtain ⟨rfl, o4, o5⟩ := o3 hf'
          refine g_aload_n q_X9_plan_65 rfl ?_
          refine g_get fl_X9_246 q_X9_plan_66 (by repeat first | with_reducible assumption | with_reducible exact hput_s _ _ _ | refine (hput_n _ _ (by omega)).trans ?_ | exact hput_s _ _ _ | assumption) rfl ?_
          refine g_callVN (rc' := 4) (rs' := 24) (As := []) cs_X9_249 q_X9_plan_69 (sp_sumCosts hΓ hn.2.2 k0 k2) rfl (by repeat first | with_reducible assumption | with_reducible exact hput_s _ _ _ | refine (hput_n _ _ (by omega)).trans ?_ | exact hput_s _ _ _ | assumption) rfl rfl rfl rfl (Nat.le_of_ble_eq_true rfl) (by decide) (by decide) (by decide) (fun _ _ h => h.elim) (k_ri ?_)
          refine g_goto (tgt := 88) q_X9_plan_72 (by decide) ?_
          refine g_ireturn q_X9_plan_88.1 rfl ?_
          refine ⟨rfl, ?_, hSX⟩
          show _ = some (Value.int (ii (if tP (bZ z bd) ≠ -1 then sumN (pCZ z bd) (zCa z) else if tC (bZ z bd) = true then -2 else -1)))
          rw [if_pos hf', sumN_cong o4]
          rfl
      · refine g_tswIn (off := 67) (tgt := 89) q_X9_plan_22 ⟨by decide, by decide⟩ (by decide) (by decide) rfl (by decide) ?_
        refine g_aload_n q_X9_plan_89 rfl ?_
        refine g_get fl_X9_256 q_X9_plan_90 (by repeat first | with_reducible assumption | with_reducible exact hput_s _ _ _ | refine (hput_n _ _ (by omega)).trans ?_ | exact hput_s _ _ _ | assumption) rfl ?_
        refine g_ireturn q_X9_plan_93.1 rfl ?_
        exact ⟨rfl, rfl, hSX⟩
      · refine g_tswIn (off := 72) (tgt := 94) q_X9_plan_22 ⟨by decide, by decide⟩ (by decide) (by decide) rfl (by decide) ?_
        refine g_aload_n q_X9_plan_94 rfl ?_
        refine g_get fl_X9_259 q_X9_plan_95 (by repeat first | with_reducible assumption | with_reducible exact hput_s _ _ _ | refine (hput_n _ _ (by omega)).trans ?_ | exact hput_s _ _ _ | assumption) rfl ?_
        refine g_ireturn q_X9_plan_98.1 rfl ?_
        exact ⟨rfl, rfl, hSX⟩
      · refine g_tswIn (off := 77) (tgt := 99) q_X9_plan_22 ⟨by decide, by decide⟩ (by decide) (by decide) rfl (by decide) ?_
        refine g_iload q_X9_plan_99 rfl ?_
        refine g_if_eq (tgt := 124) q_X9_plan_101 (by decide) (bi_rg _) (fun b1 => ?_) (fun b1 => ?_)
        · have hf := bi_f b1
          rw [hq] at hf
          have hf' := of_decide_eq_false hf
          refine g_iconst q_X9_plan_124 ?_
          refine g_ireturn q_X9_plan_125.1 rfl ?_
          refine ⟨rfl, ?_, hSX⟩
          show _ = some (Value.int (ii (if tP (bZ z bd) ≠ -1 ∧ 0 < zCa z then _ else -1)))
          rw [if_neg (fun q => hf' q.1)]
        · have hf := bi_t b1
          rw [hq] at hf
          have hf' := of_decide_eq_true hf
          obtain ⟨rfl, o4, o5⟩ := o3 hf'
          refine g_aload_n q_X9_plan_104 rfl ?_
          refine g_get fl_X9_19 q_X9_plan_105 (by repeat first | with_reducible assumption | with_reducible exact hput_s _ _ _ | refine (hput_n _ _ (by omega)).trans ?_ | exact hput_s _ _ _ | assumption) rfl ?_
          refine g_get fl_X9_113 q_X9_plan_108 (by repeat first | with_reducible assumption | with_reducible exact hput_s _ _ _ | refine (hput_n _ _ (by omega)).trans ?_ | exact hput_s _ _ _ | assumption) rfl ?_
          refine g_if_le (tgt := 124) q_X9_plan_111 (by decide) ⟨by omega, by omega⟩ (fun b2 => ?_) (fun b2 => ?_)
          · refine g_iconst q_X9_plan_124 ?_
            refine g_ireturn q_X9_plan_125.1 rfl ?_
            refine ⟨rfl, ?_, hSX⟩
            show _ = some (Value.int (ii (if tP (bZ z bd) ≠ -1 ∧ 0 < zCa z then _ else -1)))
            rw [if_neg (fun q => by omega)]
          · refine g_aload_n q_X9_plan_114 rfl ?_
            refine g_get fl_X9_246 q_X9_plan_115 (by repeat first | with_reducible assumption | with_reducible exact hput_s _ _ _ | refine (hput_n _ _ (by omega)).trans ?_ | exact hput_s _ _ _ | assumption) rfl ?_
            refine g_callVN (rc' := 4) (rs' := 24) (As := []) cs_X9_262 q_X9_plan_118 (sp_lastEnd hΓ hn.2.2 k0 k2 o2) rfl (by repeat first | with_reducible assumption | with_reducible exact hput_s _ _ _ | refine (hput_n _ _ (by omega)).trans ?_ | exact hput_s _ _ _ | assumption) rfl rfl rfl rfl (Nat.le_of_ble_eq_true rfl) (by decide) (by decide) (by decide) (fun _ _ h => h.elim) (k_ri ?_)
            refine g_goto (tgt := 125) q_X9_plan_121 (by decide) ?_
            refine g_ireturn q_X9_plan_125.1 rfl ?_
            refine ⟨rfl, ?_, hSX⟩
            show _ = some (Value.int (ii (if tP (bZ z bd) ≠ -1 ∧ 0 < zCa z then mxN (pCZ z bd) (zCa z) else -1)))
            rw [if_pos ⟨hf', by omega⟩, mxN_cong o4]
            rfl
      · refine g_tswIn (off := 104) (tgt := 126) q_X9_plan_22 ⟨by decide, by decide⟩ (by decide) (by decide) rfl (by decide) ?_
        refine g_aload_n q_X9_plan_126 rfl ?_
        refine g_get fl_X9_265 q_X9_plan_127 (by repeat first | with_reducible assumption | with_reducible exact hput_s _ _ _ | refine (hput_n _ _ (by omega)).trans ?_ | exact hput_s _ _ _ | assumption) rfl ?_
        refine g_ireturn q_X9_plan_130.1 rfl ?_
        exact ⟨rfl, rfl, hSX⟩
      · refine g_tswIn (off := 109) (tgt := 131) q_X9_plan_22 ⟨by decide, by decide⟩ (by decide) (by decide) rfl (by decide) ?_
        refine g_aload_n q_X9_plan_131 rfl ?_
        refine g_get fl_X9_243 q_X9_plan_132 (by repeat first | with_reducible assumption | with_reducible exact hput_s _ _ _ | refine (hput_n _ _ (by omega)).trans ?_ | exact hput_s _ _ _ | assumption) rfl ?_
        refine g_ireturn q_X9_plan_135.1 rfl ?_
        exact ⟨rfl, rfl, hSX⟩
    · rw [if_neg hr]
      refine g_tswOut (tgt := 136) q_X9_plan_22 hw (by omega) (by decide) ?_
      refine g_throw th_NSE q_X9_plan_136.1 q_X9_plan_139.1 q_X9_plan_140.1 q_X9_plan_143.1 rfl (by decide) (Nat.le_of_ble_eq_true rfl) (by decide) (by decide) (fun z hz => ?_)
      exact ⟨by decide, rfl, SX.tr m2 (SX.gr ⟨ve1, av1, hh1⟩ hN ⟨_, hz, rfl⟩)⟩
  refine g_astore_n (L' := [_, _, _, _, _]) q_X9_plan_5 (by decide) rfl ?_
  refine g_aload_n q_X9_plan_6 rfl ?_
  refine g_get fl_X9_243 q_X9_plan_7 (by repeat first | with_reducible assumption | with_reducible exact hput_s _ _ _ | refine (hput_n _ _ (by omega)).trans ?_ | exact hput_s _ _ _ | assumption) rfl ?_
  refine g_iconst q_X9_plan_10 ?_
  refine g_icmp_eq (tgt := 18) q_X9_plan_11 (by decide) hTP ⟨by omega, by omega⟩ (fun b0 => ?_) (fun b0 => ?_)
  · refine g_iconst q_X9_plan_18 ?_
    exact go false (decide_eq_false (fun q => q b0)).symm
  · refine g_iconst q_X9_plan_14 ?_
    refine g_goto (tgt := 19) q_X9_plan_15 (by decide) ?_
    exact go true (decide_eq_true b0).symm
noncomputable def eNode (z : PS) (bd k w : Int) : Nat := if bOK bd = false then 1 else if (0 ≤ k ∧ k < tN (bZ z bd)) ∧ (0 ≤ w ∧ w ≤ 5) then 0 else 2
noncomputable def aNode (z : PS) (bd : Int) (k : Nat) (w : Int) : Int := if w = 0 then (if k = 0 then -1 else (pPi (tQ (bZ z bd) k) : Int)) else if w = 1 then pSu (tQ (bZ z bd) k) else if w = 2 then pCl (tQ (bZ z bd) k) else if w = 3 then pCa (tQ (bZ z bd) k) else if w = 4 then pFo (tQ (bZ z bd) k) else bi (pSp (tQ (bZ z bd) k))
theorem sp_node (hΓ : Gd Γ) (hN : N < 1000) (hX : CX σ x lo N R len tx fa z l wl wr) (bd k w : Int) (hbd : rg bd) (hk : rg k) (hw : rg w) (hD : dC R (rG (bOK bd) R z bd) ≤ D) (hE : dS R (rG (bOK bd) R z bd) ≤ E) : Sp Γ miX9_node (8 + D) (48 + E) [.ref x, .int (ii bd), .int (ii k), .int (ii w)] σ (oQ (eNode z bd k w) (aNode z bd k.toNat w) (SX σ x lo (N + 1) (rG (bOK bd) R z bd) len tx fa z l wl wr)) (oX [xIAE, xNSE] (eNode z bd k w) (SX σ x lo (N + 1) (rG (bOK bd) R z bd) len tx fa z l wl wr)) := by
  have hX' := hX
  obtain ⟨ve, av, h1, h2, h3, h4, h5, q1, q2, -⟩ := hX'
  have hn := h4.1.1
  have hbr := bld_rg (bd := bd) (okL_z h4.1) h4.1.2.2.1 h4.1.2.2.2.1 h4.1.1.2.2
  have hN3 : tN (bZ z bd) ≤ 301 := hbr.2.1
  refine Sp_of (L := [_, _, _, _, _, _]) hΓ (by decide +kernel) rfl (Nat.le_of_ble_eq_true rfl) rfl ?_
  refine g_aload_n q_X9_node_0 rfl ?_
  refine g_iload_n q_X9_node_1 rfl ?_
  refine g_callV (rc' := 4) (rs' := 24) (As := [_]) cs_X9_239 q_X9_node_2 (sp_treeOf hΓ hX bd hbd) rfl (by repeat first | with_reducible assumption | with_reducible exact hput_s _ _ _ | refine (hput_n _ _ (by omega)).trans ?_ | exact hput_s _ _ _ | assumption) rfl rfl rfl rfl (Nat.le_of_ble_eq_true rfl) (by decide) (by omega) (by omega) (fun E σ' h => by have hf : bOK bd = false := decide_eq_false h.2.1; unfold eNode; rw [hf, if_pos rfl, rG_f rfl]; exact ⟨by decide, by rw [h.1]; rfl, SX.gr hX hN h.2.2⟩) (fun v σ1 hq => ?_)
  obtain ⟨e1, T, M, ad, tv, rfl, m1, m2, m3, m4, m5⟩ := hq
  obtain ⟨u0, ⟨d1, d2, d3, d4, d5⟩, u2, u3⟩ := m5
  have hb : bOK bd = true := decide_eq_true e1
  have eP9 : eNode z bd k w = if (0 ≤ k ∧ k < tN (bZ z bd)) ∧ (0 ≤ w ∧ w ≤ 5) then 0 else 2 := by unfold eNode; rw [hb, if_neg (by decide)]
  rw [eP9]
  have hSX := SX.tr m2 (SX.of m1 hN)
  have bad : ¬ ((0 ≤ k ∧ k < tN (bZ z bd)) ∧ (0 ≤ w ∧ w ≤ 5)) → ∀ s, σ1.1 ≤ s → oX [xIAE, xNSE] (if (0 ≤ k ∧ k < tN (bZ z bd)) ∧ (0 ≤ w ∧ w ≤ 5) then 0 else 2) (SX σ x lo (N + 1) (rG (bOK bd) R z bd) len tx fa z l wl wr) xNSE (s, σ1.2) := by
    intro h s hs
    rw [if_neg h]
    exact ⟨by decide, rfl, SX.tr m2 (SX.gr m1 hN ⟨s, hs, rfl⟩)⟩
  refine g_astore (L' := [_, _, _, _, _, _]) q_X9_node_5 (by decide) rfl ?_
  refine g_iload_n q_X9_node_7 rfl ?_
  refine g_if_lt (tgt := 20) q_X9_node_8 (by decide) hk (fun b1 => ?_) (fun b1 => ?_)
  · refine g_throw th_NSE q_X9_node_20.1 q_X9_node_23.1 q_X9_node_24.1 q_X9_node_27.1 rfl (by decide) (Nat.le_of_ble_eq_true rfl) (by decide) (by decide) (fun z hz => ?_)
    exact bad (fun q => by omega) z hz
  refine g_iload_n q_X9_node_11 rfl ?_
  refine g_aload q_X9_node_12 rfl ?_
  refine g_get fl_X9_256 q_X9_node_14 (by repeat first | with_reducible assumption | with_reducible exact hput_s _ _ _ | refine (hput_n _ _ (by omega)).trans ?_ | exact hput_s _ _ _ | assumption) rfl ?_
  refine g_icmp_lt (tgt := 28) q_X9_node_17 (by decide) hk ⟨by omega, by omega⟩ (fun b2 => ?_) (fun b2 => ?_)
  case refine_2 =>
    refine g_throw th_NSE q_X9_node_20.1 q_X9_node_23.1 q_X9_node_24.1 q_X9_node_27.1 rfl (by decide) (Nat.le_of_ble_eq_true rfl) (by decide) (by decide) (fun z hz => ?_)
    exact bad (fun q => by omega) z hz
  obtain ⟨j, rfl⟩ : ∃ j : Nat, k = j := ⟨k.toNat, by omega⟩
  rw [Int.toNat_natCast]
  have hj : j < tN (bZ z bd) := by omega
  obtain ⟨n0, n1⟩ := d5 j hj
  have hnad : nadF ad M j = some (ad j) := if_pos (by omega)
  refine g_aload q_X9_node_28 rfl ?_
  refine g_get fl_X9_268 q_X9_node_30 (by repeat first | with_reducible assumption | with_reducible exact hput_s _ _ _ | refine (hput_n _ _ (by omega)).trans ?_ | exact hput_s _ _ _ | assumption) rfl ?_
  refine g_iload_n q_X9_node_33 rfl ?_
  refine g_aaload q_X9_node_34 rfl d1.1 (by omega) (by omega) ?_
  rw [Int.toNat_natCast, hnad]
  refine g_astore (L' := [_, _, _, _, _, _]) q_X9_node_35 (by decide) rfl ?_
  refine g_iload_n q_X9_node_37 rfl ?_
  by_cases hr : 0 ≤ w ∧ w ≤ 5
  · rw [if_pos ⟨⟨by omega, by omega⟩, hr⟩]
    have hc : w = 0 ∨ w = 1 ∨ w = 2 ∨ w = 3 ∨ w = 4 ∨ w = 5 := by omega
    rcases hc with rfl | rfl | rfl | rfl | rfl | rfl
    · refine g_tswIn (off := 38) (tgt := 76) q_X9_node_38 ⟨by decide, by decide⟩ (by decide) (by decide) rfl (by decide) ?_
      by_cases j0 : j = 0
      · rw [if_pos j0] at n0
        refine g_aload q_X9_node_76 rfl ?_
        refine g_get fl_X9_272 q_X9_node_78 (by repeat first | with_reducible assumption | with_reducible exact hput_s _ _ _ | refine (hput_n _ _ (by omega)).trans ?_ | exact hput_s _ _ _ | assumption) rfl ?_
        refine g_ifnonnullN q_X9_node_81 ?_
        refine g_iconst q_X9_node_84 ?_
        refine g_goto (tgt := 96) q_X9_node_85 (by decide) ?_
        refine g_ireturn q_X9_node_96.1 rfl ?_
        refine ⟨rfl, ?_, hSX⟩
        show _ = some (Value.int (ii (if j = 0 then -1 else (pPi (tQ (bZ z bd) j) : Int))))
        rw [if_pos j0]
      · rw [if_neg j0] at n0
        have hpp : pPi (tQ (bZ z bd) j) < j := by
          rcases bld_inv (bd := bd) (okL_z h4.1) h4.1.2.2.1 h4.1.2.2.2.1 h4.1.1.2.2 with ⟨h9, -⟩ | ⟨-, h9, -⟩
          · have : tN (bZ z bd) = 0 := by unfold bZ; rw [h9]; rfl
            omega
          · exact (h9.2.2.1 j (by omega) hj).1
        obtain ⟨p0, -⟩ := d5 (pPi (tQ (bZ z bd) j)) (by omega)
        refine g_aload q_X9_node_76 rfl ?_
        refine g_get fl_X9_272 q_X9_node_78 (by repeat first | with_reducible assumption | with_reducible exact hput_s _ _ _ | refine (hput_n _ _ (by omega)).trans ?_ | exact hput_s _ _ _ | assumption) rfl ?_
        refine g_ifnonnull (tgt := 88) q_X9_node_81 (by decide) ?_
        refine g_aload q_X9_node_88 rfl ?_
        refine g_get fl_X9_272 q_X9_node_90 (by repeat first | with_reducible assumption | with_reducible exact hput_s _ _ _ | refine (hput_n _ _ (by omega)).trans ?_ | exact hput_s _ _ _ | assumption) rfl ?_
        refine g_get fl_X9_278 q_X9_node_93 (by repeat first | with_reducible assumption | with_reducible exact hput_s _ _ _ | refine (hput_n _ _ (by omega)).trans ?_ | exact hput_s _ _ _ | assumption) rfl ?_
        refine g_ireturn q_X9_node_96.1 rfl ?_
        refine ⟨rfl, ?_, hSX⟩
        show _ = some (Value.int (ii (if j = 0 then -1 else (pPi (tQ (bZ z bd) j) : Int))))
        rw [if_neg j0]
    · refine g_tswIn (off := 59) (tgt := 97) q_X9_node_38 ⟨by decide, by decide⟩ (by decide) (by decide) rfl (by decide) ?_
      refine g_aload q_X9_node_97 rfl ?_
      refine g_get fl_X9_281 q_X9_node_99 (by repeat first | with_reducible assumption | with_reducible exact hput_s _ _ _ | refine (hput_n _ _ (by omega)).trans ?_ | exact hput_s _ _ _ | assumption) rfl ?_
      refine g_ireturn q_X9_node_102.1 rfl ?_
      exact ⟨rfl, rfl, hSX⟩
    · refine g_tswIn (off := 65) (tgt := 103) q_X9_node_38 ⟨by decide, by decide⟩ (by decide) (by decide) rfl (by decide) ?_
      refine g_aload q_X9_node_103 rfl ?_
      refine g_get fl_X9_284 q_X9_node_105 (by repeat first | with_reducible assumption | with_reducible exact hput_s _ _ _ | refine (hput_n _ _ (by omega)).trans ?_ | exact hput_s _ _ _ | assumption) rfl ?_
      refine g_ireturn q_X9_node_108.1 rfl ?_
      exact ⟨rfl, rfl, hSX⟩
    · refine g_tswIn (off := 71) (tgt := 109) q_X9_node_38 ⟨by decide, by decide⟩ (by decide) (by decide) rfl (by decide) ?_
      refine g_aload q_X9_node_109 rfl ?_
      refine g_get fl_X9_287 q_X9_node_111 (by repeat first | with_reducible assumption | with_reducible exact hput_s _ _ _ | refine (hput_n _ _ (by omega)).trans ?_ | exact hput_s _ _ _ | assumption) rfl ?_
      refine g_ireturn q_X9_node_114.1 rfl ?_
      exact ⟨rfl, rfl, hSX⟩
    · refine g_tswIn (off := 77) (tgt := 115) q_X9_node_38 ⟨by decide, by decide⟩ (by decide) (by decide) rfl (by decide) ?_
      refine g_aload q_X9_node_115 rfl ?_
      refine g_get fl_X9_290 q_X9_node_117 (by repeat first | with_reducible assumption | with_reducible exact hput_s _ _ _ | refine (hput_n _ _ (by omega)).trans ?_ | exact hput_s _ _ _ | assumption) rfl ?_
      refine g_ireturn q_X9_node_120.1 rfl ?_
      exact ⟨rfl, rfl, hSX⟩
    · refine g_tswIn (off := 83) (tgt := 121) q_X9_node_38 ⟨by decide, by decide⟩ (by decide) (by decide) rfl (by decide) ?_
      refine g_aload q_X9_node_121 rfl ?_
      refine g_get fl_X9_293 q_X9_node_123 (by repeat first | with_reducible assumption | with_reducible exact hput_s _ _ _ | refine (hput_n _ _ (by omega)).trans ?_ | exact hput_s _ _ _ | assumption) rfl ?_
      refine g_if_eq (tgt := 133) q_X9_node_126 (by decide) (bi_rg _) (fun b3 => ?_) (fun b3 => ?_)
      · refine g_iconst q_X9_node_133 ?_
        refine g_ireturn q_X9_node_134.1 rfl ?_
        refine ⟨rfl, ?_, hSX⟩
        show _ = some (Value.int (ii (bi (pSp (tQ (bZ z bd) j)))))
        rw [bi_f b3]
        rfl
      · refine g_iconst q_X9_node_129 ?_
        refine g_goto (tgt := 134) q_X9_node_130 (by decide) ?_
        refine g_ireturn q_X9_node_134.1 rfl ?_
        refine ⟨rfl, ?_, hSX⟩
        show _ = some (Value.int (ii (bi (pSp (tQ (bZ z bd) j)))))
        rw [bi_t b3]
        rfl
  · refine g_tswOut (tgt := 135) q_X9_node_38 hw (by omega) (by decide) ?_
    refine g_throw th_NSE q_X9_node_135.1 q_X9_node_138.1 q_X9_node_139.1 q_X9_node_142.1 rfl (by decide) (Nat.le_of_ble_eq_true rfl) (by decide) (by decide) (fun z hz => ?_)
    exact bad (fun q => hr q.2) z hz
end X9K

