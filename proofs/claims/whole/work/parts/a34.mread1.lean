/-! the reference reads: a line -/
def lnM (tx : Nat → Int) (len : Nat) (x : PS) (p1 p2 : Nat) : Int × PS := if isW tx p1 p2 3 k_row = true then rwR tx len (p1, x.2) else if isW tx p1 p2 4 k_cart = true then ctR tx len (p1, x.2) else ((p1 : Int), x)
theorem ln_res {tx : Nat → Int} {len : Nat} {x : PS} {p1 p2 : Nat} (hz : okZ len x) (hp1 : p1 = avn pBl tx len (zPo x)) (hp2 : p2 = avn pLe tx len p1) (hl : p1 < len) : ((lnM tx len x p1 p2).1 ≠ -1 → (lnS tx len x).1 = 2 ∧ (lnS tx len x).2.1 = (lnM tx len x p1 p2).1) ∧ ((lnM tx len x p1 p2).1 = -1 → zPo (lnM tx len x p1 p2).2 ≤ len ∧ lnS tx len x = lnE tx len (zPo (lnM tx len x p1 p2).2) (fun p => (p, (lnM tx len x p1 p2).2.2))) := by
  have hr2 := avn_rg (p := pLe) (tx := tx) (len := len) (i := p1) (by omega)
  rw [← hp2] at hr2
  have eS : lnS tx len x = lnS1 tx len x p1 p2 := by unfold lnS; rw [← hp1, ← hp2]
  rw [eS]
  unfold lnS1
  rw [if_neg (show ¬ ¬ p1 < len from fun q => q hl)]
  obtain ⟨W, hW⟩ : ∃ W, W = (if isW tx p1 p2 3 k_row = true ∧ zRo x < 6 ∧ zCa x = 0 then lnR tx len x p2 else if isW tx p1 p2 4 k_cart = true ∧ 0 < zRo x ∧ zCa x < 5 then lnC tx len x p2 else (2, (p1 : Int), x)) := ⟨_, rfl⟩
  rw [← hW]
  obtain ⟨y, hy⟩ : ∃ y, y = lnM tx len x p1 p2 := ⟨_, rfl⟩
  rw [← hy]
  unfold lnM at hy
  have two : ∀ F : Int, F ≠ -1 → ∀ v w : PS, W = (2, F, v) → y = (F, w) → ((y.1 ≠ -1 → W.1 = 2 ∧ W.2.1 = y.1) ∧ (y.1 = -1 → zPo y.2 ≤ len ∧ W = lnE tx len (zPo y.2) (fun p => (p, y.2.2)))) := by
    intro F hF v w e1 e2
    rw [e1, e2]
    exact ⟨fun _ => ⟨rfl, rfl⟩, fun q => absurd q hF⟩
  by_cases hr : isW tx p1 p2 3 k_row = true
  · rw [if_pos hr] at hy
    have e3 := (of_decide_eq_true hr).1
    have e2 : p2 = p1 + 3 := by omega
    have hr3 := avn_rg (p := pBl) (tx := tx) hr2.2
    have hr4 := avn_rg (p := pSg) (tx := tx) hr3.2
    unfold rwR at hy
    by_cases c : zRo x < 6 ∧ zCa x = 0
    · rw [if_pos (show isW tx p1 p2 3 k_row = true ∧ zRo x < 6 ∧ zCa x = 0 from ⟨hr, c⟩)] at hW
      rw [if_neg (show ¬ ¬ (zRo (p1, x.2) < 6 ∧ zCa (p1, x.2) = 0) from fun q => q c), show zPo (p1, x.2) = p1 from rfl, ← e2] at hy
      unfold lnR lnR1 at hW
      unfold rwR1 at hy
      by_cases ok : okRw (zCo x) (zRo x) (avn pSg tx len (avn pBl tx len p2) - avn pBl tx len p2) = false
      · rw [if_pos ok] at hW
        rw [if_pos (show okRw (zCo (p1, x.2)) (zRo (p1, x.2)) (avn pSg tx len (avn pBl tx len p2) - avn pBl tx len p2) = false from ok)] at hy
        exact two _ (by omega) _ _ hW hy
      · rw [if_neg ok] at hW
        rw [if_neg (show ¬ okRw (zCo (p1, x.2)) (zRo (p1, x.2)) (avn pSg tx len (avn pBl tx len p2) - avn pBl tx len p2) = false from ok)] at hy
        rw [hW, hy]
        exact ⟨fun q => absurd rfl q, fun _ => ⟨hr4.2, rfl⟩⟩
    · have hc : ¬ (isW tx p1 p2 4 k_cart = true ∧ 0 < zRo x ∧ zCa x < 5) := fun q => by
        have := (of_decide_eq_true q.1).1
        omega
      rw [if_neg (show ¬ (isW tx p1 p2 3 k_row = true ∧ zRo x < 6 ∧ zCa x = 0) from fun q => c q.2), if_neg hc] at hW
      rw [if_pos (show ¬ (zRo (p1, x.2) < 6 ∧ zCa (p1, x.2) = 0) from c)] at hy
      exact two _ (by omega) _ _ hW hy
  · rw [if_neg hr] at hy
    rw [if_neg (show ¬ (isW tx p1 p2 3 k_row = true ∧ zRo x < 6 ∧ zCa x = 0) from fun q => hr q.1)] at hW
    by_cases hc : isW tx p1 p2 4 k_cart = true
    · rw [if_pos hc] at hy
      have e3 := (of_decide_eq_true hc).1
      have e2 : p2 = p1 + 4 := by omega
      unfold ctR at hy
      by_cases c : 0 < zRo x ∧ zCa x < 5
      · rw [if_pos (show isW tx p1 p2 4 k_cart = true ∧ 0 < zRo x ∧ zCa x < 5 from ⟨hc, c⟩)] at hW
        rw [if_neg (show ¬ ¬ (0 < zRo (p1, x.2) ∧ zCa (p1, x.2) < 5) from fun q => q c), show zPo (p1, x.2) = p1 from rfl, ← e2] at hy
        unfold lnC at hW
        obtain ⟨u, hu⟩ : ∃ u, u = cuR tx len (zCo x) (zRo x) (zCa x) (zSO x) (zPL x) (zGO x) (zLE x) (zNL x) p2 := ⟨_, rfl⟩
        have hu2 : cuR tx len (zCo (p1, x.2)) (zRo (p1, x.2)) (zCa (p1, x.2)) (zSO (p1, x.2)) (zPL (p1, x.2)) (zGO (p1, x.2)) (zLE (p1, x.2)) (zNL (p1, x.2)) p2 = u := hu.symm
        rw [hu2] at hy
        rw [← hu] at hW
        unfold lnC1 at hW
        unfold ctR1 at hy
        by_cases e : u.1 = -1
        · rw [if_pos e] at hW hy
          have hb : u.2.1 ≤ len := by
            rw [hu] at e ⊢
            exact (cu_rg hz.2.1.1 hz.2.1.2.1 hr2.2 e).2.2.1
          rw [hW, hy]
          exact ⟨fun q => absurd rfl q, fun _ => ⟨hb, rfl⟩⟩
        · rw [if_neg e] at hW hy
          exact two _ e _ _ hW hy
      · rw [if_neg (show ¬ (isW tx p1 p2 4 k_cart = true ∧ 0 < zRo x ∧ zCa x < 5) from fun q => c q.2)] at hW
        rw [if_pos (show ¬ (0 < zRo (p1, x.2) ∧ zCa (p1, x.2) < 5) from c)] at hy
        exact two _ (by omega) _ _ hW hy
    · rw [if_neg hc] at hy
      rw [if_neg (show ¬ (isW tx p1 p2 4 k_cart = true ∧ 0 < zRo x ∧ zCa x < 5) from fun q => hc q.1)] at hW
      exact two _ (by omega) _ _ hW hy
section MRd
variable {Γ : GT} {σ τ : AH} {m : Nat} {J J0 : Nat → Int} {A A0 : Nat → Nat → Int} {N N0 : Nat → Nat → BitVec 64} {tx : Nat → Int} {len : Nat} {x : PS} {Q : Option Value → AH → Prop}
/-- behind must -/
def lnM2 (tx : Nat → Int) (len : Nat) (y : Int × PS) : Int × PS := if y.1 ≠ -1 then y else if avn pBl tx len (zPo y.2) < len ∧ tx (avn pBl tx len (zPo y.2)) = 59 then (-1, (avn pBl tx len (zPo y.2) + 1, y.2.2)) else ((avn pBl tx len (zPo y.2) : Nat), y.2)
/-- where reading stands: what it has changed, the fault, what is read -/
def RS (σ : AH) (m : Nat) (J0 : Nat → Int) (A0 : Nat → Nat → Int) (N0 : Nat → Nat → BitVec 64) (tx : Nat → Int) (len : Nat) (τ : AH) (y : Int × PS) : Prop := eqOff σ τ (inb m 34) ∧ ∃ J A N, MC τ m J A N ∧ lnF J0 J A0 A N0 N ∧ lnO J A N tx len y
/-- a line's end -/
theorem rd_90 (hΓ : Gd Γ) (oX : okX tx) (hl : len ≤ 400) {y : Int × PS} (hy : y.1 = -1 → zPo y.2 ≤ len) (h : RS σ m J0 A0 N0 tx len τ y) (kk : ∀ τ', RS σ m J0 A0 N0 tx len τ' (lnM2 tx len y) → G Γ miX10_read cX10_read Q noX 0 0 38 [some (.ref m), none] [] τ') : G Γ miX10_read cX10_read Q noX 0 0 90 [some (.ref m), none] [] τ := by
  obtain ⟨hE, J, A, N, hM, hF, o1, o2, o3, o4, o5, o6⟩ := h
  have t0 := hM.1
  have t1 : τ.2 (m + 1) = some (ai 400 tx) := by rw [← o2]; exact hM.a1
  by_cases hy1 : y.1 = -1
  · have hp := hy hy1
    have hR := o6 hy1
    have j4 := hR.1.2.1
    have hpI : pI J (zPo y.2) (-1) = J := pI_s j4 (o4.trans hy1)
    have t00 : τ.2 m = some (mdo m (pI J (zPo y.2) (-1))) := by rw [hpI]; exact t0
    have hr1 := avn_rg (p := pBl) (tx := tx) hp
    refine g_aload_n q_X10_read_90 rfl ?_
    refine g_bipush q_X10_read_91 bp_59 ?_
    refine g_callV (rc' := 0) (rs' := 0) (As := [_]) cs_X10_210 q_X10_read_93 (sp_must hΓ t00 t1 oX o3 hl hp ⟨by decide, by decide⟩) rfl (by repeat first | with_reducible assumption | with_reducible exact hput_s _ _ _ | refine (hput_n _ _ (by omega)).trans ?_ | exact hput_s _ _ _ | assumption) rfl rfl rfl rfl (Nat.le_of_ble_eq_true rfl) (by decide) (by decide) (by decide) (fun _ _ h => h.elim) (fun v τ' hq => ?_)
    obtain ⟨rfl, hq⟩ := hq
    rcases hq with ⟨q, -⟩ | ⟨-, rfl⟩
    · exact absurd rfl q
    unfold lnM2 at kk
    rw [if_neg (fun q => q hy1)] at kk
    obtain ⟨p, hpe⟩ : ∃ p, p = avn pBl tx len (zPo y.2) := ⟨_, rfl⟩
    rw [← hpe] at kk hr1 ⊢
    by_cases hc : p < len ∧ tx p = 59
    · rw [if_pos hc] at kk ⊢
      refine g_goto (tgt := 38) q_X10_read_96 (by decide) ?_
      refine kk _ ⟨hE.put ⟨by omega, by omega⟩ _, _, A, N, hM.putI _, hF.trans (lnF.pp _ _), o1, o2, o3, rfl, (show rg (-1) from ⟨by decide, by decide⟩), fun _ => ⟨⟨o3, rfl, hR.1.2.2.1, hR.1.2.2.2.1, hR.1.2.2.2.2⟩, hR.2.1, hR.2.2⟩⟩
    · rw [if_neg hc] at kk ⊢
      refine g_goto (tgt := 38) q_X10_read_96 (by decide) ?_
      refine kk _ ⟨hE.put ⟨by omega, by omega⟩ _, _, A, N, hM.putI _, hF.trans (lnF.pp _ _), o1, o2, o3, rfl, (show rg (p : Int) from ⟨by omega, by omega⟩), fun e => ?_⟩
      have e : ((p : Nat) : Int) = -1 := e
      omega
  · have hpos : ∃ q : Int, J 4 = q := ⟨_, rfl⟩
    obtain ⟨q4, hq4⟩ := hpos
    refine g_aload_n q_X10_read_90 rfl ?_
    refine g_bipush q_X10_read_91 bp_59 ?_
    unfold lnM2 at kk
    rw [if_pos hy1] at kk
    have spm : Sp Γ miX10_must 0 0 [.ref m, .int (ii 59)] τ (fun r σ' => r = none ∧ σ' = τ) noX := by
      refine Sp_of (L := [_, _]) hΓ (by decide +kernel) rfl (Nat.le_of_ble_eq_true rfl) rfl ?_
      refine g_aload_n q_X10_must_0 rfl ?_
      refine g_get fl_X10_13 q_X10_must_1 (by repeat first | with_reducible assumption | with_reducible exact hput_s _ _ _ | refine (hput_n _ _ (by omega)).trans ?_ | exact hput_s _ _ _ | assumption) rfl ?_
      refine g_topi (b := y.1) (by exact o4) ?_
      refine g_iconst q_X10_must_4 ?_
      refine g_icmp_eq (tgt := 9) q_X10_must_5 (by decide) o5 ⟨by omega, by omega⟩ (fun b1 => ?_) (fun b1 => ?_)
      · exact absurd b1 hy1
      · refine g_return q_X10_must_8.1 rfl ?_
        exact ⟨rfl, rfl⟩
    refine g_callV (rc' := 0) (rs' := 0) (As := [_]) cs_X10_210 q_X10_read_93 (spm) rfl (by repeat first | with_reducible assumption | with_reducible exact hput_s _ _ _ | refine (hput_n _ _ (by omega)).trans ?_ | exact hput_s _ _ _ | assumption) rfl rfl rfl rfl (Nat.le_of_ble_eq_true rfl) (by decide) (by decide) (by decide) (fun _ _ h => h.elim) (fun v τ' hq => ?_)
    obtain ⟨rfl, hq⟩ := hq
    rw [hq]
    refine g_goto (tgt := 38) q_X10_read_96 (by decide) ?_
    exact kk τ ⟨hE, J, A, N, hM, hF, o1, o2, o3, o4, o5, o6⟩
/-- lnM2 is what a line comes to -/
theorem lnM2_s {p1 p2 : Nat} (hz : okZ len x) (hp1 : p1 = avn pBl tx len (zPo x)) (hp2 : p2 = avn pLe tx len p1) (hl : p1 < len) : ((lnM2 tx len (lnM tx len x p1 p2)).1 = -1 ∧ (lnS tx len x).1 = 0 ∧ (lnM2 tx len (lnM tx len x p1 p2)).2 = (lnS tx len x).2.2) ∨ ((lnM2 tx len (lnM tx len x p1 p2)).1 ≠ -1 ∧ (lnS tx len x).1 = 2 ∧ (lnM2 tx len (lnM tx len x p1 p2)).1 = (lnS tx len x).2.1) := by
  obtain ⟨h1, h2⟩ := ln_res hz hp1 hp2 hl
  obtain ⟨y, hy⟩ : ∃ y, y = lnM tx len x p1 p2 := ⟨_, rfl⟩
  rw [← hy] at h1 h2 ⊢
  unfold lnM2
  by_cases e : y.1 = -1
  · rw [if_neg (fun q => q e)]
    obtain ⟨h3, h4⟩ := h2 e
    rw [h4]
    unfold lnE
    by_cases hc : avn pBl tx len (zPo y.2) < len ∧ tx (avn pBl tx len (zPo y.2)) = 59
    · rw [if_pos hc, if_pos hc]
      exact Or.inl ⟨rfl, rfl, rfl⟩
    · rw [if_neg hc, if_neg hc]
      refine Or.inr ⟨fun q => ?_, rfl, rfl⟩
      have q : ((avn pBl tx len (zPo y.2) : Nat) : Int) = -1 := q
      omega
  · rw [if_pos e]
    obtain ⟨h3, h4⟩ := h1 e
    exact Or.inr ⟨e, h3, h4.symm⟩
/-- all lines; then 99 with what is read, or with the fault -/
theorem rd_38 (hΓ : Gd Γ) (oX : okX tx) (hl : len ≤ 400) {R : Int × PS} (k1 : ∀ τ' p', RS σ m J0 A0 N0 tx len τ' (-1, (p', R.2.2)) → p' = len → R.1 = -1 → WFz R.2 → G Γ miX10_read cX10_read Q noX 0 0 99 [some (.ref m), none] [] τ') (k2 : ∀ τ', R.1 ≠ -1 → (∃ y : PS, RS σ m J0 A0 N0 tx len τ' (R.1, y)) → G Γ miX10_read cX10_read Q noX 0 0 99 [some (.ref m), none] [] τ') : ∀ (f : Nat) (x : PS) (τ : AH), RS σ m J0 A0 N0 tx len τ (-1, x) → WFz x → zPo x ≤ len → len - zPo x < f → psN tx len f x = R → G Γ miX10_read cX10_read Q noX 0 0 38 [some (.ref m), none] [] τ
  | 0, x, τ, _, _, _, hf, _ => absurd hf (Nat.not_lt_zero _)
  | f + 1, x, τ, h, wf, hpz, hf, hps => by
    obtain ⟨hE, J, A, N, hM, hF, o1, o2, o3, o4, o5, o6⟩ := h
    have hR := o6 rfl
    have hz : okZ len x := ⟨hpz, wf.1⟩
    have t1 : τ.2 (m + 1) = some (ai 400 tx) := by rw [← o2]; exact hM.a1
    have hpI : pI J (zPo x) (-1) = J := pI_s hR.1.2.1 o4
    have t0 : τ.2 m = some (mdo m (pI J (zPo x) (-1))) := by rw [hpI]; exact hM.1
    have hr1 := avn_rg (p := pBl) (tx := tx) hpz
    have hr2 := avn_rg (p := pLe) (tx := tx) hr1.2
    refine g_aload_n q_X10_read_38 rfl ?_
    refine g_get fl_X10_13 q_X10_read_39 (by repeat first | with_reducible assumption | with_reducible exact hput_s _ _ _ | refine (hput_n _ _ (by omega)).trans ?_ | exact hput_s _ _ _ | assumption) rfl ?_
    refine g_topi (b := (-1 : Int)) (by rfl) ?_
    refine g_iconst q_X10_read_42 ?_
    refine g_icmp_ne (tgt := 99) q_X10_read_43 (by decide) ⟨by omega, by omega⟩ ⟨by omega, by omega⟩ (fun b1 => ?_) (fun b1 => ?_)
    · exact absurd rfl b1
    refine g_aload_n q_X10_read_46 rfl ?_
    refine g_callV (rc' := 0) (rs' := 0) (As := []) cs_X10_131 q_X10_read_47 (sp_here hΓ t0 t1 oX o3 hl hpz) rfl (by repeat first | with_reducible assumption | with_reducible exact hput_s _ _ _ | refine (hput_n _ _ (by omega)).trans ?_ | exact hput_s _ _ _ | assumption) rfl rfl rfl rfl (Nat.le_of_ble_eq_true rfl) (by decide) (by decide) (by decide) (fun _ _ h => h.elim) (k_ri ?_)
    obtain ⟨p1, hp1⟩ : ∃ z, z = avn pBl tx len (zPo x) := ⟨_, rfl⟩
    have hid : avn pBl tx len p1 = p1 := by rw [hp1]; exact avn_idem
    rw [← hp1] at hr1 hr2 ⊢
    obtain ⟨p2, hp2⟩ : ∃ z, z = avn pLe tx len p1 := ⟨_, rfl⟩
    rw [← hp2] at hr2
    have hcr := chA_rg oX len p1
    have hM1 := hM.putI (pI J (p1 : Int) (-1))
    have hE1 := hE.put (a := m) ⟨by omega, by omega⟩ (mdo m (pI J (p1 : Int) (-1)))
    obtain ⟨ρ, hρ⟩ : ∃ ρ, ρ = hput τ m (mdo m (pI J (p1 : Int) (-1))) := ⟨_, rfl⟩
    rw [← hρ] at hM1 hE1 ⊢
    have hF1 := hF.trans (lnF.pp (J := J) (A := A) (N := N) (p1 : Int) (-1))
    have hR1 : PR (pI J (p1 : Int) (-1)) A N tx len (p1, x.2) := ⟨⟨o3, rfl, hR.1.2.2.1, hR.1.2.2.2.1, hR.1.2.2.2.2⟩, hR.2.1, hR.2.2⟩
    have u0 := hM1.1
    have u1 : ρ.2 (m + 1) = some (ai 400 tx) := by rw [← o2]; exact hM1.a1
    refine g_iconst q_X10_read_50 ?_
    refine g_icmp_eq (tgt := 99) q_X10_read_51 (by decide) ⟨by omega, by omega⟩ ⟨by omega, by omega⟩ (fun b2 => ?_) (fun b2 => ?_)
    · have hnl : ¬ p1 < len := (chA_n oX).mp b2
      have e1 : (lnS tx len x).1 = 1 := by
        unfold lnS lnS1
        rw [← hp1, if_pos hnl]
      have eR : R = (-1, x) := by rw [← hps]; unfold psN; rw [if_neg (by rw [e1]; decide), if_pos e1]
      refine k1 ρ p1 ⟨hE1, _, A, N, hM1, hF1, o1, o2, o3, rfl, (show rg (-1) from ⟨by decide, by decide⟩), fun _ => ?_⟩ (by omega) (by rw [eR]) (by rw [eR]; exact wf)
      rw [eR]
      exact hR1
    have hlt : p1 < len := Classical.byContradiction fun q => b2 ((chA_n oX).mpr q)
    -- behind a line's body
    have nx : ∀ τ', RS σ m J0 A0 N0 tx len τ' (lnM tx len x p1 p2) → G Γ miX10_read cX10_read Q noX 0 0 90 [some (.ref m), none] [] τ' := by
      intro τ' hRS
      refine rd_90 hΓ oX hl (fun e => ((ln_res hz hp1 hp2 hlt).2 e).1) hRS (fun τ2 hRS2 => ?_)
      rcases lnM2_s hz hp1 hp2 hlt with ⟨q1, q2, q3⟩ | ⟨q1, q2, q3⟩
      · obtain ⟨s1, s2⟩ := lnS_ok oX hz q2
        have ey : lnM2 tx len (lnM tx len x p1 p2) = (-1, (lnS tx len x).2.2) := by rw [← q1, ← q3]
        rw [ey] at hRS2
        refine rd_38 hΓ oX hl k1 k2 f _ τ2 hRS2 (lnS_wf oX hpz wf q2) s1.1 (by omega) ?_
        rw [← hps]
        show _ = psN tx len (f + 1) x
        unfold psN
        rw [if_pos q2]
        cases f <;> rfl
      · have eR : R.1 = (lnS tx len x).2.1 := by
          rw [← hps]
          unfold psN
          rw [if_neg (by rw [q2]; decide), if_neg (by rw [q2]; decide)]
        have ey : lnM2 tx len (lnM tx len x p1 p2) = (R.1, (lnM2 tx len (lnM tx len x p1 p2)).2) := by rw [eR, ← q3]
        rw [ey] at hRS2
        have hne : R.1 ≠ -1 := by rw [eR, ← q3]; exact q1
        obtain ⟨hE2, J2, A2, N2, hM2, hF2, w1, w2, w3, w4, w5, w6⟩ := hRS2
        have v0 := hM2.1
        refine g_aload_n q_X10_read_38 rfl ?_
        refine g_get fl_X10_13 q_X10_read_39 (by repeat first | with_reducible assumption | with_reducible exact hput_s _ _ _ | refine (hput_n _ _ (by omega)).trans ?_ | exact hput_s _ _ _ | assumption) rfl ?_
        refine g_topi (b := R.1) (by exact w4) ?_
        refine g_iconst q_X10_read_42 ?_
        refine g_icmp_ne (tgt := 99) q_X10_read_43 (by decide) w5 ⟨by omega, by omega⟩ (fun b3 => ?_) (fun b3 => ?_)
        · exact k2 τ2 hne ⟨_, hE2, J2, A2, N2, hM2, hF2, w1, w2, w3, w4, w5, w6⟩
        · exact absurd b3 hne
    have fx : ∀ {y : Int × PS} (r : Option Value) (τ' : AH), lnW ρ m (pI J (p1 : Int) (-1)) A N tx len y r τ' → r = none ∧ RS σ m J0 A0 N0 tx len τ' y := by
      rintro y r τ' ⟨w1, w2, J2, A2, N2, w3, w4, w5⟩
      exact ⟨w1, hE1.trans w2 (fun a i => i), J2, A2, N2, w3, hF1.trans w4, w5⟩
    obtain ⟨s1, n1, kr, sr⟩ := str_X10_154 hΓ
    obtain ⟨s2, n2, kc, sc⟩ := str_X10_156 hΓ
    have isp : ∀ {a v n : Nat} {fs : Nat → Int}, ST Γ a v n fs → (∀ j, j < n → 0 ≤ fs j ∧ fs j < 128) → n < 8 → Sp Γ miX10_is 0 0 [.ref m, .ref a] ρ (rb (isW tx p1 p2 n fs) ρ) noX := by
      intro a v n fs hs hff hn
      have := sp_mis hΓ u0 u1 oX o3 hl hr1.2 hs hff hn
      rw [hid, ← hp2, hput_id u0] at this
      exact this
    unfold lnM at nx
    refine g_aload_n q_X10_read_54 rfl ?_
    refine g_ldcS rfl kr q_X10_read_55 ?_
    refine g_callV (rc' := 0) (rs' := 0) (As := [_]) cs_X10_147 q_X10_read_57 (isp sr kr_row (by decide)) rfl (by repeat first | with_reducible assumption | with_reducible exact hput_s _ _ _ | refine (hput_n _ _ (by omega)).trans ?_ | exact hput_s _ _ _ | assumption) rfl rfl rfl rfl (Nat.le_of_ble_eq_true rfl) (by decide) (by decide) (by decide) (fun _ _ h => h.elim) (k_rb ?_)
    cases hr : isW tx p1 p2 3 k_row with
    | true =>
      rw [hr, if_pos rfl] at nx
      have e3 := (of_decide_eq_true hr).1
      refine g_if_eq (tgt := 70) q_X10_read_60 (by decide) (bi_rg _) (fun b3 => ?_) (fun b3 => ?_)
      · exact absurd b3 (by decide)
      refine g_aload_n q_X10_read_63 rfl ?_
      refine g_callV (rc' := 0) (rs' := 0) (As := []) cs_X10_204 q_X10_read_64 (sp_rowLine hΓ hM1 hR1 rfl o1 oX hl (x := (p1, x.2)) ⟨hr1.2, wf.1⟩ (by show p1 + 3 ≤ len; omega)) rfl (by repeat first | with_reducible assumption | with_reducible exact hput_s _ _ _ | refine (hput_n _ _ (by omega)).trans ?_ | exact hput_s _ _ _ | assumption) rfl rfl rfl rfl (Nat.le_of_ble_eq_true rfl) (by decide) (by decide) (by decide) (fun _ _ h => h.elim) (fun v τ' hq => ?_)
      obtain ⟨rfl, hq2⟩ := fx _ _ hq
      refine g_goto (tgt := 90) q_X10_read_67 (by decide) ?_
      exact nx _ hq2
    | false =>
      rw [hr, if_neg Bool.false_ne_true] at nx
      refine g_if_eq (tgt := 70) q_X10_read_60 (by decide) (bi_rg _) (fun b3 => ?_) (fun b3 => ?_)
      case refine_2 => exact absurd b3 (by decide)
      refine g_aload_n q_X10_read_70 rfl ?_
      refine g_ldcS rfl kc q_X10_read_71 ?_
      refine g_callV (rc' := 0) (rs' := 0) (As := [_]) cs_X10_147 q_X10_read_73 (isp sc kr_cart (by decide)) rfl (by repeat first | with_reducible assumption | with_reducible exact hput_s _ _ _ | refine (hput_n _ _ (by omega)).trans ?_ | exact hput_s _ _ _ | assumption) rfl rfl rfl rfl (Nat.le_of_ble_eq_true rfl) (by decide) (by decide) (by decide) (fun _ _ h => h.elim) (k_rb ?_)
      cases hc : isW tx p1 p2 4 k_cart with
      | true =>
        rw [hc, if_pos rfl] at nx
        have e3 := (of_decide_eq_true hc).1
        refine g_if_eq (tgt := 86) q_X10_read_76 (by decide) (bi_rg _) (fun b4 => ?_) (fun b4 => ?_)
        · exact absurd b4 (by decide)
        refine g_aload_n q_X10_read_79 rfl ?_
        refine g_callV (rc' := 0) (rs' := 0) (As := []) cs_X10_207 q_X10_read_80 (sp_cartLine hΓ hM1 hR1 rfl o1 oX hl (x := (p1, x.2)) ⟨hr1.2, wf.1⟩ wf (by show p1 + 4 ≤ len; omega)) rfl (by repeat first | with_reducible assumption | with_reducible exact hput_s _ _ _ | refine (hput_n _ _ (by omega)).trans ?_ | exact hput_s _ _ _ | assumption) rfl rfl rfl rfl (Nat.le_of_ble_eq_true rfl) (by decide) (by decide) (by decide) (fun _ _ h => h.elim) (fun v τ' hq => ?_)
        obtain ⟨rfl, hq2⟩ := fx _ _ hq
        refine g_goto (tgt := 90) q_X10_read_83 (by decide) ?_
        exact nx _ hq2
      | false =>
        rw [hc, if_neg Bool.false_ne_true] at nx
        refine g_if_eq (tgt := 86) q_X10_read_76 (by decide) (bi_rg _) (fun b4 => ?_) (fun b4 => ?_)
        case refine_2 => exact absurd b4 (by decide)
        refine g_aload_n q_X10_read_86 rfl ?_
        refine g_callV (rc' := 0) (rs' := 0) (As := []) cs_X10_151 q_X10_read_87 (sp_mwrong hΓ u0 ⟨by decide, by decide⟩) rfl (by repeat first | with_reducible assumption | with_reducible exact hput_s _ _ _ | refine (hput_n _ _ (by omega)).trans ?_ | exact hput_s _ _ _ | assumption) rfl rfl rfl rfl (Nat.le_of_ble_eq_true rfl) (by decide) (by decide) (by decide) (fun _ _ h => h.elim) (k_rv ?_)
        rw [if_pos rfl]
        refine nx _ ⟨hE1.put ⟨by omega, by omega⟩ _, _, A, N, hM1.putI _, hF1.trans ?_, o1, o2, o3, rfl, (show rg (p1 : Int) from ⟨by omega, by omega⟩), fun e => ?_⟩
        · rw [show pI J (p1 : Int) (p1 : Int) = pI (pI J (p1 : Int) (-1)) (p1 : Int) (p1 : Int) by unfold pI; funext k; unfold va_up; by_cases h5 : k = 5 <;> by_cases h4 : k = 4 <;> simp [h5, h4]]
          exact lnF.pp _ _
        · have e : ((p1 : Nat) : Int) = -1 := e
          omega
end MRd

