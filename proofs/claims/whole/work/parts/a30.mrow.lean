/-! the reference reads: rowLine -/
/-- what is read so far is x -/
def PR (J : Nat → Int) (A : Nat → Nat → Int) (N : Nat → Nat → BitVec 64) (tx : Nat → Int) (len : Nat) (x : PS) : Prop := (J 3 = len ∧ J 4 = zPo x ∧ J 6 = zCo x ∧ J 7 = zRo x ∧ J 8 = zCa x) ∧ (A 1 = tx ∧ ∀ c, gIn (zCo x) (zRo x) c → A 2 c = zSO x c) ∧ ∀ k, k < zCa x → A 4 k = zPL x k ∧ A 5 k = zGO x k ∧ N 3 k = BitVec.ofInt 64 (nmV (zLE x) (6 * k) (zNL x k).toNat)
/-- what reading may change -/
def lnF (J J' : Nat → Int) (A A' : Nat → Nat → Int) (N N' : Nat → Nat → BitVec 64) : Prop := (∀ k, k < 4 ∨ 8 < k → J' k = J k) ∧ (∀ k, k ≠ 2 → k ≠ 4 → k ≠ 5 → A' k = A k) ∧ ∀ k, k ≠ 3 → N' k = N k
theorem lnF.rfl' {J : Nat → Int} {A : Nat → Nat → Int} {N : Nat → Nat → BitVec 64} : lnF J J A A N N := ⟨fun _ _ => rfl, fun _ _ _ _ => rfl, fun _ _ => rfl⟩
theorem lnF.trans {J J' J2 : Nat → Int} {A A' A2 : Nat → Nat → Int} {N N' N2 : Nat → Nat → BitVec 64} (h : lnF J J' A A' N N') (h2 : lnF J' J2 A' A2 N' N2) : lnF J J2 A A2 N N2 := ⟨fun k hk => (h2.1 k hk).trans (h.1 k hk), fun k a b c => (h2.2.1 k a b c).trans (h.2.1 k a b c), fun k a => (h2.2.2 k a).trans (h.2.2 k a)⟩
theorem lnF.pp {J : Nat → Int} {A : Nat → Nat → Int} {N : Nat → Nat → BitVec 64} (p f : Int) : lnF J (pI J p f) A A N N := ⟨fun k hk => by unfold pI; rw [va_ne (by omega), va_ne (by omega)], fun _ _ _ _ => rfl, fun _ _ => rfl⟩
/-- behind a line or a piece of it: the fault, what there is then -/
def lnO (J : Nat → Int) (A : Nat → Nat → Int) (N : Nat → Nat → BitVec 64) (tx : Nat → Int) (len : Nat) (y : Int × PS) : Prop := okS (A 2) ∧ A 1 = tx ∧ J 3 = len ∧ J 5 = y.1 ∧ rg y.1 ∧ (y.1 = -1 → PR J A N tx len y.2)
def lnW (σ : AH) (m : Nat) (J : Nat → Int) (A : Nat → Nat → Int) (N : Nat → Nat → BitVec 64) (tx : Nat → Int) (len : Nat) (y : Int × PS) : Option Value → AH → Prop := fun r σ' => r = none ∧ eqOff σ σ' (inb m 34) ∧ ∃ J' A' N', MC σ' m J' A' N' ∧ lnF J J' A A' N N' ∧ lnO J' A' N' tx len y
def rwR1 (tx : Nat → Int) (len : Nat) (x : PS) (q1 q2 : Nat) : Int × PS := if okRw (zCo x) (zRo x) (q2 - q1) = false then ((q1 : Int), x) else (-1, (q2, q2 - q1, zRo x + 1, zCa x, va_cpy (fun i => sgn (tx i)) (zSO x) q1 (6 * zRo x) (q2 - q1), zPL x, zGO x, zLE x, zNL x))
/-- a row's line, up to its end -/
def rwR (tx : Nat → Int) (len : Nat) (x : PS) : Int × PS := if ¬ (zRo x < 6 ∧ zCa x = 0) then ((zPo x : Int), x) else rwR1 tx len x (avn pBl tx len (zPo x + 3)) (avn pSg tx len (avn pBl tx len (zPo x + 3)))
theorem sgn_rg (c : Int) : -1 ≤ sgn c ∧ sgn c < 6 := by
  have := fstN_rg (fun k => decide (k_sgn k = c)) 6
  unfold sgn
  omega
section MRw
variable {Γ : GT} {σ : AH} {m : Nat} {J : Nat → Int} {A : Nat → Nat → Int} {N : Nat → Nat → BitVec 64} {tx : Nat → Int} {len : Nat} {x : PS}
/-- a fault is laid -/
theorem lnW.f (h : MC σ m J A N) (oS : okS (A 2)) (h1 : A 1 = tx) (h3 : J 3 = len) {p q : Int} {y : PS} (hq : rg q) (h5 : q ≠ -1) : lnW σ m J A N tx len (q, y) none (hput σ m (mdo m (pI J p q))) := ⟨rfl, eqOff.rfl'.put ⟨by omega, by omega⟩ _, _, A, N, h.putI _, lnF.pp p q, oS, h1, h3, rfl, hq, fun e => absurd e h5⟩
theorem sp_rowLine (hΓ : Gd Γ) (h : MC σ m J A N) (hR : PR J A N tx len x) (j5 : J 5 = -1) (oS : okS (A 2)) (oX : okX tx) (hl : len ≤ 400) (hz : okZ len x) (hp3 : zPo x + 3 ≤ len) : Sp Γ miX10_rowLine 0 0 [.ref m] σ (lnW σ m J A N tx len (rwR tx len x)) noX := by
  obtain ⟨⟨j3, j4, j6, j7, j8⟩, ⟨hA1, hA2⟩, hA4⟩ := hR
  obtain ⟨hpl, ⟨c6, r6, n5⟩, -⟩ := hz
  have hpI : pI J (zPo x) (-1) = J := pI_s j4 j5
  have h0 : σ.2 m = some (mdo m (pI J (zPo x) (-1))) := by rw [hpI]; exact h.1
  have h1 : σ.2 (m + 1) = some (ai 400 tx) := by rw [← hA1]; exact h.a1
  have h2 := h.a2
  unfold rwR
  have bad : ¬ (zRo x < 6 ∧ zCa x = 0) → G Γ miX10_rowLine cX10_rowLine (lnW σ m J A N tx len (if ¬ (zRo x < 6 ∧ zCa x = 0) then ((zPo x : Int), x) else rwR1 tx len x (avn pBl tx len (zPo x + 3)) (avn pSg tx len (avn pBl tx len (zPo x + 3))))) noX 0 0 16 [some (.ref m), none, none, none] [] σ := by
    intro hn
    rw [if_pos hn]
    refine g_aload_n q_X10_rowLine_16 rfl ?_
    refine g_callV (rc' := 0) (rs' := 0) (As := []) cs_X10_151 q_X10_rowLine_17 (sp_mwrong hΓ h0 ⟨by decide, by decide⟩) rfl (by repeat first | with_reducible assumption | with_reducible exact hput_s _ _ _ | refine (hput_n _ _ (by omega)).trans ?_ | exact hput_s _ _ _ | assumption) rfl rfl rfl rfl (Nat.le_of_ble_eq_true rfl) (by decide) (by decide) (by decide) (fun _ _ h => h.elim) (k_rv ?_)
    rw [if_pos rfl]
    refine g_aload_n q_X10_rowLine_20 rfl ?_
    refine g_get fl_X10_13 q_X10_rowLine_21 (by repeat first | with_reducible assumption | with_reducible exact hput_s _ _ _ | refine (hput_n _ _ (by omega)).trans ?_ | exact hput_s _ _ _ | assumption) rfl ?_
    refine g_topi (b := (zPo x : Int)) (by rfl) ?_
    refine g_iconst q_X10_rowLine_24 ?_
    refine g_icmp_eq (tgt := 29) q_X10_rowLine_25 (by decide) ⟨by omega, by omega⟩ ⟨by omega, by omega⟩ (fun b1 => ?_) (fun b1 => ?_)
    · omega
    · refine g_return q_X10_rowLine_28.1 rfl ?_
      exact lnW.f h oS hA1 j3 ⟨by omega, by omega⟩ (by omega)
  refine Sp_of (L := [_, _, _, _]) hΓ (by decide +kernel) rfl (Nat.le_of_ble_eq_true rfl) rfl ?_
  refine g_aload_n q_X10_rowLine_0 rfl ?_
  refine g_get fl_X10_173 q_X10_rowLine_1 (by repeat first | with_reducible assumption | with_reducible exact hput_s _ _ _ | refine (hput_n _ _ (by omega)).trans ?_ | exact hput_s _ _ _ | assumption) rfl ?_
  refine g_topi (b := (zRo x : Int)) (by exact j7) ?_
  refine g_bipush q_X10_rowLine_4 bp_6 ?_
  refine g_icmp_eq (tgt := 16) q_X10_rowLine_6 (by decide) ⟨by omega, by omega⟩ ⟨by omega, by omega⟩ (fun b1 => ?_) (fun b1 => ?_)
  · exact bad (by omega)
  refine g_aload_n q_X10_rowLine_9 rfl ?_
  refine g_get fl_X10_176 q_X10_rowLine_10 (by repeat first | with_reducible assumption | with_reducible exact hput_s _ _ _ | refine (hput_n _ _ (by omega)).trans ?_ | exact hput_s _ _ _ | assumption) rfl ?_
  refine g_topi (b := (zCa x : Int)) (by exact j8) ?_
  refine g_if_le (tgt := 20) q_X10_rowLine_13 (by decide) ⟨by omega, by omega⟩ (fun b2 => ?_) (fun b2 => ?_)
  case refine_2 => exact bad (by omega)
  rw [if_neg (by omega)]
  clear bad
  refine g_aload_n q_X10_rowLine_20 rfl ?_
  refine g_get fl_X10_13 q_X10_rowLine_21 (by repeat first | with_reducible assumption | with_reducible exact hput_s _ _ _ | refine (hput_n _ _ (by omega)).trans ?_ | exact hput_s _ _ _ | assumption) rfl ?_
  refine g_topi (b := (-1 : Int)) (by rfl) ?_
  refine g_iconst q_X10_rowLine_24 ?_
  refine g_icmp_eq (tgt := 29) q_X10_rowLine_25 (by decide) ⟨by omega, by omega⟩ ⟨by omega, by omega⟩ (fun b3 => ?_) (fun b3 => ?_)
  case refine_2 => exact absurd rfl b3
  refine g_aload_n q_X10_rowLine_29 rfl ?_
  refine g_dup q_X10_rowLine_30 rfl ?_
  refine g_get fl_X10_125 q_X10_rowLine_31 (by repeat first | with_reducible assumption | with_reducible exact hput_s _ _ _ | refine (hput_n _ _ (by omega)).trans ?_ | exact hput_s _ _ _ | assumption) rfl ?_
  refine g_topi (b := (zPo x : Int)) (by rfl) ?_
  refine g_iconst q_X10_rowLine_34 ?_
  refine g_iadd q_X10_rowLine_35 ?_
  refine g_topi (b := ((zPo x + 3 : Nat) : Int)) (by omega) ?_
  refine g_putM fp_X10_125 q_X10_rowLine_36 (by repeat first | with_reducible assumption | with_reducible exact hput_s _ _ _ | refine (hput_n _ _ (by omega)).trans ?_ | exact hput_s _ _ _ | assumption) rfl rfl mset_4 ?_
  rw [pI_4]
  obtain ⟨τ, hτ⟩ : ∃ τ, τ = hput σ m (mdo m (pI J ((zPo x + 3 : Nat) : Int) (-1))) := ⟨_, rfl⟩
  have t0 : τ.2 m = some (mdo m (pI J ((zPo x + 3 : Nat) : Int) (-1))) := by rw [hτ]; exact hput_s _ _ _
  have t1 : τ.2 (m + 1) = some (ai 400 tx) := by rw [hτ]; exact (hput_n _ _ (by omega)).trans h1
  have tp : ∀ e, hput τ m e = hput σ m e := fun e => by rw [hτ, hput_hput]
  refine g_eq (σ2 := τ) rfl rfl hτ.symm ?_
  refine g_aload_n q_X10_rowLine_39 rfl ?_
  refine g_callV (rc' := 0) (rs' := 0) (As := []) cs_X10_131 q_X10_rowLine_40 (sp_here hΓ t0 t1 oX j3 hl hp3) rfl (by repeat first | with_reducible assumption | with_reducible exact hput_s _ _ _ | refine (hput_n _ _ (by omega)).trans ?_ | exact hput_s _ _ _ | assumption) rfl rfl rfl rfl (Nat.le_of_ble_eq_true rfl) (by decide) (by decide) (by decide) (fun _ _ h => h.elim) (k_ri ?_)
  rw [tp]
  clear t0 t1 tp hτ
  have hr1 := avn_rg (p := pBl) (tx := tx) hp3
  have hr2 := avn_rg (p := pSg) (tx := tx) hr1.2
  obtain ⟨q1, hq1⟩ : ∃ z, z = avn pBl tx len (zPo x + 3) := ⟨_, rfl⟩
  rw [← hq1] at hr1 hr2 ⊢
  obtain ⟨q2, hq2⟩ : ∃ z, z = avn pSg tx len q1 := ⟨_, rfl⟩
  rw [← hq2] at hr2 ⊢
  obtain ⟨τ, hτ⟩ : ∃ τ, τ = hput σ m (mdo m (pI J (q1 : Int) (-1))) := ⟨_, rfl⟩
  have t0 : τ.2 m = some (mdo m (pI J (q1 : Int) (-1))) := by rw [hτ]; exact hput_s _ _ _
  have t1 : τ.2 (m + 1) = some (ai 400 tx) := by rw [hτ]; exact (hput_n _ _ (by omega)).trans h1
  have t2 : τ.2 (m + 2) = some (ai 36 (A 2)) := by rw [hτ]; exact (hput_n _ _ (by omega)).trans h2
  have tp : ∀ e, hput τ m e = hput σ m e := fun e => by rw [hτ, hput_hput]
  rw [← hτ]
  have hcr := chA_rg oX len q1
  refine g_istore_n (L' := [_, _, _, _]) q_X10_rowLine_43 (by decide) rfl ?_
  refine g_iconst q_X10_rowLine_44 ?_
  refine g_istore_n (L' := [_, _, _, _]) q_X10_rowLine_45 (by decide) rfl ?_
  have at88 : ∀ k : Nat, k = q2 - q1 → G Γ miX10_rowLine cX10_rowLine (lnW σ m J A N tx len (rwR1 tx len x q1 q2)) noX 0 0 88 [some (.ref m), some (.int (ii (chA tx len q1))), some (.int (ii k)), none] [] τ := by
    intro k hk
    rw [hk]
    unfold rwR1
    have bad : okRw (zCo x) (zRo x) (q2 - q1) = false → G Γ miX10_rowLine cX10_rowLine (lnW σ m J A N tx len (if okRw (zCo x) (zRo x) (q2 - q1) = false then ((q1 : Int), x) else (-1, (q2, q2 - q1, zRo x + 1, zCa x, va_cpy (fun i => sgn (tx i)) (zSO x) q1 (6 * zRo x) (q2 - q1), zPL x, zGO x, zLE x, zNL x)))) noX 0 0 113 [some (.ref m), some (.int (ii (chA tx len q1))), some (.int (ii ((q2 - q1 : Nat) : Int))), none] [] τ := by
      intro hn
      rw [if_pos hn]
      refine g_aload_n q_X10_rowLine_113 rfl ?_
      refine g_callV (rc' := 0) (rs' := 0) (As := []) cs_X10_151 q_X10_rowLine_114 (sp_mwrong hΓ t0 ⟨by decide, by decide⟩) rfl (by repeat first | with_reducible assumption | with_reducible exact hput_s _ _ _ | refine (hput_n _ _ (by omega)).trans ?_ | exact hput_s _ _ _ | assumption) rfl rfl rfl rfl (Nat.le_of_ble_eq_true rfl) (by decide) (by decide) (by decide) (fun _ _ h => h.elim) (k_rv ?_)
      rw [if_pos rfl, tp]
      refine g_aload_n q_X10_rowLine_117 rfl ?_
      refine g_get fl_X10_13 q_X10_rowLine_118 (by repeat first | with_reducible assumption | with_reducible exact hput_s _ _ _ | refine (hput_n _ _ (by omega)).trans ?_ | exact hput_s _ _ _ | assumption) rfl ?_
      refine g_topi (b := (q1 : Int)) (by rfl) ?_
      refine g_iconst q_X10_rowLine_121 ?_
      refine g_icmp_eq (tgt := 126) q_X10_rowLine_122 (by decide) ⟨by omega, by omega⟩ ⟨by omega, by omega⟩ (fun b4 => ?_) (fun b4 => ?_)
      · omega
      · refine g_return q_X10_rowLine_125.1 rfl ?_
        exact lnW.f h oS hA1 j3 ⟨by omega, by omega⟩ (by omega)
    have good : okRw (zCo x) (zRo x) (q2 - q1) = true → G Γ miX10_rowLine cX10_rowLine (lnW σ m J A N tx len (if okRw (zCo x) (zRo x) (q2 - q1) = false then ((q1 : Int), x) else (-1, (q2, q2 - q1, zRo x + 1, zCa x, va_cpy (fun i => sgn (tx i)) (zSO x) q1 (6 * zRo x) (q2 - q1), zPL x, zGO x, zLE x, zNL x)))) noX 0 0 117 [some (.ref m), some (.int (ii (chA tx len q1))), some (.int (ii ((q2 - q1 : Nat) : Int))), none] [] τ := by
      intro hok
      rw [if_neg (by rw [hok]; decide)]
      have ho := of_decide_eq_true hok
      refine g_aload_n q_X10_rowLine_117 rfl ?_
      refine g_get fl_X10_13 q_X10_rowLine_118 (by repeat first | with_reducible assumption | with_reducible exact hput_s _ _ _ | refine (hput_n _ _ (by omega)).trans ?_ | exact hput_s _ _ _ | assumption) rfl ?_
      refine g_topi (b := (-1 : Int)) (by rfl) ?_
      refine g_iconst q_X10_rowLine_121 ?_
      refine g_icmp_eq (tgt := 126) q_X10_rowLine_122 (by decide) ⟨by omega, by omega⟩ ⟨by omega, by omega⟩ (fun b4 => ?_) (fun b4 => ?_)
      case refine_2 => exact absurd rfl b4
      refine g_aload_n q_X10_rowLine_126 rfl ?_
      refine g_iload_n q_X10_rowLine_127 rfl ?_
      refine g_putM fp_X10_183 q_X10_rowLine_128 (by repeat first | with_reducible assumption | with_reducible exact hput_s _ _ _ | refine (hput_n _ _ (by omega)).trans ?_ | exact hput_s _ _ _ | assumption) rfl rfl mset_6 ?_
      obtain ⟨J2, hJ2⟩ : ∃ J2, J2 = va_up (pI J (q1 : Int) (-1)) 6 ((q2 - q1 : Nat) : Int) := ⟨_, rfl⟩
      rw [← hJ2]
      obtain ⟨ρ, hρ⟩ : ∃ ρ, ρ = hput τ m (mdo m J2) := ⟨_, rfl⟩
      have u0 : ρ.2 m = some (mdo m J2) := by rw [hρ]; exact hput_s _ _ _
      have u1 : ρ.2 (m + 1) = some (ai 400 tx) := by rw [hρ]; exact (hput_n _ _ (by omega)).trans t1
      have u2 : ρ.2 (m + 2) = some (ai 36 (A 2)) := by rw [hρ]; exact (hput_n _ _ (by omega)).trans t2
      rw [← hρ]
      have e7 : J2 7 = zRo x := by rw [hJ2]; exact j7
      have e4 : J2 4 = q1 := by rw [hJ2]; rfl
      refine g_iconst q_X10_rowLine_131 ?_
      refine g_istore_n (L' := [_, _, _, _]) q_X10_rowLine_132 (by decide) rfl ?_
      refine g_eq (σ2 := hput ρ (m + 2) (ai 36 (va_cpy (fun i => sgn (tx i)) (A 2) q1 (6 * zRo x) 0))) rfl rfl (by rw [cpy_G0]; exact (hput_id u2).symm) ?_
      refine g_loop (fun k => k ≤ q2 - q1) (fun k : Nat => G Γ _ cX10_rowLine _ _ 0 0 133 [some (.ref m), some (.int (ii (chA tx len q1))), some (.int (ii ((q2 - q1 : Nat) : Int))), some (.int (ii k))] [] (hput ρ (m + 2) (ai 36 (va_cpy (fun i => sgn (tx i)) (A 2) q1 (6 * zRo x) k)))) (fun k => q2 - q1 - k) ?_ 0 (Nat.zero_le _)
      intro k hk ih
      have v0 : (hput ρ (m + 2) (ai 36 (va_cpy (fun i => sgn (tx i)) (A 2) q1 (6 * zRo x) k))).2 m = some (mdo m J2) := (hput_n _ _ (by omega)).trans u0
      have v1 : (hput ρ (m + 2) (ai 36 (va_cpy (fun i => sgn (tx i)) (A 2) q1 (6 * zRo x) k))).2 (m + 1) = some (ai 400 tx) := (hput_n _ _ (by omega)).trans u1
      refine g_iload_n q_X10_rowLine_133 rfl ?_
      refine g_iload_n q_X10_rowLine_134 rfl ?_
      refine g_icmp_ge (tgt := 172) q_X10_rowLine_135 (by decide) ⟨by omega, by omega⟩ ⟨by omega, by omega⟩ (fun b5 => ?_) (fun b5 => ?_)
      · have e : k = q2 - q1 := by omega
        rw [← e]
        refine g_aload_n q_X10_rowLine_172 rfl ?_
        refine g_dup q_X10_rowLine_173 rfl ?_
        refine g_get fl_X10_125 q_X10_rowLine_174 (by repeat first | with_reducible assumption | with_reducible exact hput_s _ _ _ | refine (hput_n _ _ (by omega)).trans ?_ | exact hput_s _ _ _ | assumption) rfl ?_
        refine g_topi (b := (q1 : Int)) (by exact e4) ?_
        refine g_iload_n q_X10_rowLine_177 rfl ?_
        refine g_iadd q_X10_rowLine_178 ?_
        refine g_topi (b := (q2 : Int)) (by omega) ?_
        refine g_putM fp_X10_125 q_X10_rowLine_179 (by repeat first | with_reducible assumption | with_reducible exact hput_s _ _ _ | refine (hput_n _ _ (by omega)).trans ?_ | exact hput_s _ _ _ | assumption) rfl rfl mset_4 ?_
        refine g_aload_n q_X10_rowLine_182 rfl ?_
        refine g_dup q_X10_rowLine_183 rfl ?_
        refine g_get fl_X10_173 q_X10_rowLine_184 (by repeat first | with_reducible assumption | with_reducible exact hput_s _ _ _ | refine (hput_n _ _ (by omega)).trans ?_ | exact hput_s _ _ _ | assumption) rfl ?_
        refine g_topi (b := (zRo x : Int)) (by exact e7) ?_
        refine g_iconst q_X10_rowLine_187 ?_
        refine g_iadd q_X10_rowLine_188 ?_
        refine g_topi (b := ((zRo x + 1 : Nat) : Int)) (by omega) ?_
        refine g_putM fp_X10_173 q_X10_rowLine_189 (by repeat first | with_reducible assumption | with_reducible exact hput_s _ _ _ | refine (hput_n _ _ (by omega)).trans ?_ | exact hput_s _ _ _ | assumption) rfl rfl mset_7 ?_
        refine g_return q_X10_rowLine_192.1 rfl ?_
        rw [hput_hput]
        obtain ⟨J3, hJ3⟩ : ∃ J3, J3 = va_up (va_up J2 4 (q2 : Int)) 7 ((zRo x + 1 : Nat) : Int) := ⟨_, rfl⟩
        rw [← hJ3]
        have hM := ((h.putI J2).putA 2 (by omega) (va_cpy (fun i => sgn (tx i)) (A 2) q1 (6 * zRo x) k)).putI J3
        have eH : hput (hput ρ (m + 2) (ai 36 (va_cpy (fun i => sgn (tx i)) (A 2) q1 (6 * zRo x) k))) m (mdo m J3) = hput (hput (hput σ m (mdo m J2)) (m + 2) (mar 2 (va_cpy (fun i => sgn (tx i)) (A 2) q1 (6 * zRo x) k) (N 2))) m (mdo m J3) := by
          rw [hρ, tp]
          rfl
        rw [eH]
        refine ⟨rfl, ((eqOff.rfl'.put (a := m) ⟨by omega, by omega⟩ _).put (a := m + 2) ⟨by omega, by omega⟩ _).put (a := m) ⟨by omega, by omega⟩ _, J3, _, N, hM, ⟨fun i hi => ?_, fun i i2 _ _ => va_ne i2, fun _ _ => rfl⟩, ?_, ?_, ?_, ?_, (show rg (-1) from ⟨by decide, by decide⟩), fun _ => ⟨⟨?_, ?_, ?_, ?_, ?_⟩, ⟨?_, ?_⟩, ?_⟩⟩
        · rw [hJ3, va_ne (by omega), va_ne (by omega), hJ2, va_ne (by omega)]
          unfold pI
          rw [va_ne (by omega), va_ne (by omega)]
        · rw [va_eq]
          have := okS_cpy (tx := tx) (len := len) (q1 := q1) (q2 := q2) (b := 6 * zRo x) oS hq2
          rw [← e] at this
          exact this
        · rw [va_ne (by omega)]; exact hA1
        · rw [hJ3, hJ2]; exact j3
        · rw [hJ3, hJ2]; rfl
        · rw [hJ3, hJ2]; exact j3
        · rw [hJ3]; rfl
        · rw [hJ3, hJ2]
          show ((q2 - q1 : Nat) : Int) = _
          rw [← e]
          rfl
        · rw [hJ3]; rfl
        · rw [hJ3, hJ2]; exact j8
        · rw [va_ne (by omega)]; exact hA1
        · intro c hc
          rw [va_eq]
          have hc1 : c % 6 < k := hc.1
          have hc2 : c / 6 < zRo x + 1 := hc.2
          show va_cpy (fun i => sgn (tx i)) (A 2) q1 (6 * zRo x) k c = va_cpy (fun i => sgn (tx i)) (zSO x) q1 (6 * zRo x) k c
          by_cases hrow : c / 6 = zRo x
          · obtain ⟨j, hj⟩ : ∃ j, c = 6 * zRo x + j := ⟨c % 6, by omega⟩
            unfold va_cpy
            rw [if_pos (by omega), if_pos (by omega)]
          · rw [cpy_out _ _ (by omega), cpy_out _ _ (by omega)]
            refine hA2 c ⟨?_, by omega⟩
            rcases ho.2.2 with q | q
            · omega
            · omega
        · intro i hi
          have hi : i < zCa x := hi
          omega
      · have hx := oX (q1 + k)
        have hnx := ih (k + 1) (by omega) (by omega)
        refine g_aload_n q_X10_rowLine_138 rfl ?_
        refine g_get fl_X10_17 q_X10_rowLine_139 (by repeat first | with_reducible assumption | with_reducible exact hput_s _ _ _ | refine (hput_n _ _ (by omega)).trans ?_ | exact hput_s _ _ _ | assumption) rfl ?_
        refine g_bipush q_X10_rowLine_142 bp_6 ?_
        refine g_aload_n q_X10_rowLine_144 rfl ?_
        refine g_get fl_X10_173 q_X10_rowLine_145 (by repeat first | with_reducible assumption | with_reducible exact hput_s _ _ _ | refine (hput_n _ _ (by omega)).trans ?_ | exact hput_s _ _ _ | assumption) rfl ?_
        refine g_topi (b := (zRo x : Int)) (by exact e7) ?_
        refine g_imul q_X10_rowLine_148 ?_
        refine g_iload_n q_X10_rowLine_149 rfl ?_
        refine g_iadd q_X10_rowLine_150 ?_
        refine g_topi (b := ((6 * zRo x + k : Nat) : Int)) (by omega) ?_
        refine g_aload_n q_X10_rowLine_151 rfl ?_
        refine g_get fl_X10_7 q_X10_rowLine_152 (by repeat first | with_reducible assumption | with_reducible exact hput_s _ _ _ | refine (hput_n _ _ (by omega)).trans ?_ | exact hput_s _ _ _ | assumption) rfl ?_
        refine g_aload_n q_X10_rowLine_155 rfl ?_
        refine g_get fl_X10_125 q_X10_rowLine_156 (by repeat first | with_reducible assumption | with_reducible exact hput_s _ _ _ | refine (hput_n _ _ (by omega)).trans ?_ | exact hput_s _ _ _ | assumption) rfl ?_
        refine g_topi (b := (q1 : Int)) (by exact e4) ?_
        refine g_iload_n q_X10_rowLine_159 rfl ?_
        refine g_iadd q_X10_rowLine_160 ?_
        refine g_topi (b := ((q1 + k : Nat) : Int)) (by omega) ?_
        refine g_iaload q_X10_rowLine_161 (by repeat first | with_reducible assumption | with_reducible exact hput_s _ _ _ | refine (hput_n _ _ (by omega)).trans ?_ | exact hput_s _ _ _ | assumption) (by omega) (by omega) ?_
        refine g_topi (b := tx (q1 + k)) (by rfl) ?_
        refine g_callS (rc' := 0) (rs' := 0) (As := [_]) cs_X10_179 q_X10_rowLine_162 (sp_sortOf hΓ (tx (q1 + k)) ⟨by omega, by omega⟩) rfl rfl rfl (Nat.le_of_ble_eq_true rfl) (by decide) (by decide) (by decide) (fun _ _ h => h.elim) (k_ri ?_)
        rw [soM_sgn]
        refine g_iastore q_X10_rowLine_165 (by repeat first | with_reducible assumption | with_reducible exact hput_s _ _ _ | refine (hput_n _ _ (by omega)).trans ?_ | exact hput_s _ _ _ | assumption) (by omega) (by omega) ?_
        rw [hput_hput, Int.toNat_natCast, cpy_upG (fun i => sgn (tx i)) (A 2) q1 (6 * zRo x) k]
        refine g_iinc (L' := [_, _, _, _]) q_X10_rowLine_166 rfl rfl ?_
        refine g_goto (tgt := 133) q_X10_rowLine_169 (by decide) ?_
        exact hnx
    refine g_iload_n q_X10_rowLine_88 rfl ?_
    refine g_if_eq (tgt := 113) q_X10_rowLine_89 (by decide) ⟨by omega, by omega⟩ (fun b4 => ?_) (fun b4 => ?_)
    · exact bad (decide_eq_false (by omega))
    refine g_iload_n q_X10_rowLine_92 rfl ?_
    refine g_bipush q_X10_rowLine_93 bp_6 ?_
    refine g_icmp_gt (tgt := 113) q_X10_rowLine_95 (by decide) ⟨by omega, by omega⟩ ⟨by omega, by omega⟩ (fun b5 => ?_) (fun b5 => ?_)
    · exact bad (decide_eq_false (by omega))
    refine g_aload_n q_X10_rowLine_98 rfl ?_
    refine g_get fl_X10_173 q_X10_rowLine_99 (by repeat first | with_reducible assumption | with_reducible exact hput_s _ _ _ | refine (hput_n _ _ (by omega)).trans ?_ | exact hput_s _ _ _ | assumption) rfl ?_
    refine g_topi (b := (zRo x : Int)) (by exact j7) ?_
    refine g_if_le (tgt := 117) q_X10_rowLine_102 (by decide) ⟨by omega, by omega⟩ (fun b6 => ?_) (fun b6 => ?_)
    · exact good (decide_eq_true (by omega))
    refine g_iload_n q_X10_rowLine_105 rfl ?_
    refine g_aload_n q_X10_rowLine_106 rfl ?_
    refine g_get fl_X10_183 q_X10_rowLine_107 (by repeat first | with_reducible assumption | with_reducible exact hput_s _ _ _ | refine (hput_n _ _ (by omega)).trans ?_ | exact hput_s _ _ _ | assumption) rfl ?_
    refine g_topi (b := (zCo x : Int)) (by exact j6) ?_
    refine g_icmp_eq (tgt := 117) q_X10_rowLine_110 (by decide) ⟨by omega, by omega⟩ ⟨by omega, by omega⟩ (fun b7 => ?_) (fun b7 => ?_)
    · exact good (decide_eq_true (by omega))
    · exact bad (decide_eq_false (by omega))
  refine g_loop (fun k : Nat => q1 + k ≤ q2 ∧ avn pSg tx len (q1 + k) = q2) (fun k : Nat => G Γ miX10_rowLine cX10_rowLine (lnW σ m J A N tx len (rwR1 tx len x q1 q2)) noX 0 0 46 [some (.ref m), some (.int (ii (chA tx len q1))), some (.int (ii k)), none] [] τ) (fun k => q2 - q1 - k) ?_ 0 ⟨by omega, hq2.symm⟩
  rintro k ⟨hk, hak⟩ ih
  have hx := oX (q1 + k)
  have hsr := sgn_rg (tx (q1 + k))
  have out : ¬ (q1 + k < len ∧ pSg (tx (q1 + k)) = true) → k = q2 - q1 := fun q => by
    rw [avn_no q] at hak
    omega
  refine g_iload_n q_X10_rowLine_46 rfl ?_
  refine g_iconst q_X10_rowLine_47 ?_
  refine g_icmp_eq (tgt := 88) q_X10_rowLine_48 (by decide) ⟨by omega, by omega⟩ ⟨by omega, by omega⟩ (fun b4 => ?_) (fun b4 => ?_)
  · exact at88 k (out (fun q => (chA_n oX).mp b4 (by omega)))
  refine g_aload_n q_X10_rowLine_51 rfl ?_
  refine g_get fl_X10_125 q_X10_rowLine_52 (by repeat first | with_reducible assumption | with_reducible exact hput_s _ _ _ | refine (hput_n _ _ (by omega)).trans ?_ | exact hput_s _ _ _ | assumption) rfl ?_
  refine g_topi (b := (q1 : Int)) (by rfl) ?_
  refine g_iload_n q_X10_rowLine_55 rfl ?_
  refine g_iadd q_X10_rowLine_56 ?_
  refine g_topi (b := ((q1 + k : Nat) : Int)) (by omega) ?_
  refine g_aload_n q_X10_rowLine_57 rfl ?_
  refine g_get fl_X10_128 q_X10_rowLine_58 (by repeat first | with_reducible assumption | with_reducible exact hput_s _ _ _ | refine (hput_n _ _ (by omega)).trans ?_ | exact hput_s _ _ _ | assumption) rfl ?_
  refine g_topi (b := (len : Int)) (by exact j3) ?_
  refine g_icmp_ge (tgt := 88) q_X10_rowLine_61 (by decide) ⟨by omega, by omega⟩ ⟨by omega, by omega⟩ (fun b5 => ?_) (fun b5 => ?_)
  · exact at88 k (out (fun q => by omega))
  refine g_aload_n q_X10_rowLine_64 rfl ?_
  refine g_get fl_X10_7 q_X10_rowLine_65 (by repeat first | with_reducible assumption | with_reducible exact hput_s _ _ _ | refine (hput_n _ _ (by omega)).trans ?_ | exact hput_s _ _ _ | assumption) rfl ?_
  refine g_aload_n q_X10_rowLine_68 rfl ?_
  refine g_get fl_X10_125 q_X10_rowLine_69 (by repeat first | with_reducible assumption | with_reducible exact hput_s _ _ _ | refine (hput_n _ _ (by omega)).trans ?_ | exact hput_s _ _ _ | assumption) rfl ?_
  refine g_topi (b := (q1 : Int)) (by rfl) ?_
  refine g_iload_n q_X10_rowLine_72 rfl ?_
  refine g_iadd q_X10_rowLine_73 ?_
  refine g_topi (b := ((q1 + k : Nat) : Int)) (by omega) ?_
  refine g_iaload q_X10_rowLine_74 (by repeat first | with_reducible assumption | with_reducible exact hput_s _ _ _ | refine (hput_n _ _ (by omega)).trans ?_ | exact hput_s _ _ _ | assumption) (by omega) (by omega) ?_
  refine g_topi (b := tx (q1 + k)) (by rfl) ?_
  refine g_callS (rc' := 0) (rs' := 0) (As := [_]) cs_X10_179 q_X10_rowLine_75 (sp_sortOf hΓ (tx (q1 + k)) ⟨by omega, by omega⟩) rfl rfl rfl (Nat.le_of_ble_eq_true rfl) (by decide) (by decide) (by decide) (fun _ _ h => h.elim) (k_ri ?_)
  rw [soM_sgn]
  refine g_iconst q_X10_rowLine_78 ?_
  refine g_icmp_eq (tgt := 88) q_X10_rowLine_79 (by decide) ⟨by omega, by omega⟩ ⟨by omega, by omega⟩ (fun b6 => ?_) (fun b6 => ?_)
  · exact at88 k (out (fun q => by have := of_decide_eq_true q.2; omega))
  have hg : pSg (tx (q1 + k)) = true := decide_eq_true (by omega)
  have hgo := avn_go (p := pSg) (tx := tx) (len := len) (i := q1 + k) (by omega) hg
  have hlt : q1 + (k + 1) ≤ q2 := by
    have := (avn_rg (p := pSg) (tx := tx) (len := len) (i := q1 + k + 1) (by omega)).1
    omega
  have hnx := ih (k + 1) ⟨hlt, by rw [← hak, hgo]; rfl⟩ (by omega)
  refine g_iinc (L' := [_, _, _, _]) q_X10_rowLine_82 rfl rfl ?_
  refine g_goto (tgt := 46) q_X10_rowLine_85 (by decide) ?_
  exact hnx
end MRw

