/-! the reference: all carts by themselves -/
section MB
variable {Γ : GT} {σ : AH} {m : Nat} {I : Nat → Int} {A : Nat → Nat → Int} {N : Nat → Nat → BitVec 64} {z : PS}
theorem sp_laysWayM (hΓ : Gd Γ) (h : MC σ m I A N) (hz : MZ I A z) (w : WFz z) (hb : A 11 = fun _ => 0) (hm : A 12 = fun _ => 0) {c : Nat} (hc : c < zCa z) : Sp Γ miX10_laysWay 0 0 [.ref m, .int (ii c)] σ (fun r σ' => r = some (.int (ii (alcZ z c))) ∧ eqOff σ σ' (inb (m + 13) 3) ∧ ∃ A', MC σ' m I A' N ∧ (∀ k, k < 13 ∨ 16 ≤ k → A' k = A k) ∧ (alcZ z c ≠ -1 → ∀ t, t < 41 → A' 15 t = alw (lvZ z) (zPL z) (zGO z) c t)) noX := by
  obtain ⟨c5, e8, e9, g1, g2, g3, -⟩ := hz.pg w hc
  refine Sp_cons (sp_laysWay hΓ (hz.lw h w hb hm) c5 e8 e9 g3 g1 g2 ⟨_, h.a13⟩ ⟨_, h.a14⟩ ⟨_, h.a15⟩) ?_ (fun _ _ q => q)
  rintro r σ' ⟨q1, q2, ⟨cm, q3⟩, ⟨en, q4⟩, wy, q5, q6⟩
  refine ⟨q1, q2, va_up (va_up (va_up A 13 cm) 14 en) 15 wy, h.frame q2 (by omega) (fun k hk => ?_) (fun k h1 h2 _ => ?_), fun k hk => ?_, fun h9 => q6 h9⟩
  · rw [va_ne (by omega), va_ne (by omega), va_ne (by omega)]
  · have : k = 13 ∨ k = 14 ∨ k = 15 := by omega
    rcases this with e | e | e <;> subst e
    · exact q3
    · exact q4
    · exact q5
  · rw [va_ne (by omega), va_ne (by omega), va_ne (by omega)]
theorem alw_rg (w : WFz z) {c : Nat} (hc : c < zCa z) (t : Nat) : 0 ≤ alw (lvZ z) (zPL z) (zGO z) c t ∧ alw (lvZ z) (zPL z) (zGO z) c t < 36 := by
  obtain ⟨q1, q2, q3, q4⟩ := w.2.1 c hc
  have r6 := w.1.1.2.1
  exact wyt_rg (okL_z w.1) (gIn_36 r6 (gIn_z q1)) (gIn_36 r6 (gIn_z q3)) t
/-- what the first carts' ways alone laid into row k leave behind -/
def laI (z : PS) (A A' : Nat → Nat → Int) (k n : Nat) : Prop := (∀ j, j < 11 ∨ 16 < j → A' j = A j) ∧ (A' 11 = fun _ => 0) ∧ (A' 12 = fun _ => 0) ∧ (∀ i, i < 205 * k ∨ 205 * k + 205 ≤ i → A' 16 i = A 16 i) ∧ (∀ c, c < n → alcZ z c ≠ -1 ∧ ∀ t, t < 41 → A' 16 (205 * k + (41 * c + t)) = alw (lvZ z) (zPL z) (zGO z) c t) ∧ ((∀ i, rg (A 16 i)) → ∀ i, rg (A' 16 i))
def laQ (σ : AH) (m : Nat) (I : Nat → Int) (A : Nat → Nat → Int) (N : Nat → Nat → BitVec 64) (z : PS) (k : Nat) : Option Value → AH → Prop := fun r σ' => r = some (.int (ii (bi (allZ z)))) ∧ eqOff σ σ' (inb (m + 11) 6) ∧ ∃ A' n, MC σ' m I A' N ∧ laI z A A' k n ∧ (allZ z = true → n = zCa z)
theorem sp_laysAlone (hΓ : Gd Γ) (h : MC σ m I A N) (hz : MZ I A z) (w : WFz z) (k : Nat) (hk : k < 303) : Sp Γ miX10_laysAlone 0 0 [.ref m, .int (ii k)] σ (laQ σ m I A N z k) noX := by
  have n5 := w.1.1.2.2
  have h0 := h.1
  have hn := hz.1.2.2
  refine Sp_of (L := [_, _, _]) hΓ (by decide +kernel) rfl (Nat.le_of_ble_eq_true rfl) rfl ?_
  refine g_aload_n q_X10_laysAlone_0 rfl ?_
  refine g_callV (rc' := 0) (rs' := 0) (As := []) cs_X10_257 q_X10_laysAlone_1 (sp_freesM hΓ h) rfl (by repeat first | with_reducible assumption | with_reducible exact hput_s _ _ _ | refine (hput_n _ _ (by omega)).trans ?_ | exact hput_s _ _ _ | assumption) rfl rfl rfl rfl (Nat.le_of_ble_eq_true rfl) (by decide) (by decide) (by decide) (fun _ _ h => h.elim) (fun v τ hq => ?_)
  obtain ⟨rfl, hE, hM⟩ := hq
  refine g_iconst q_X10_laysAlone_4 ?_
  refine g_istore_n (L' := [_, _, _]) q_X10_laysAlone_5 (by decide) rfl ?_
  refine g_loop3 (fun (c : Nat) (τ : AH) (B : Nat → Nat → Int) => c ≤ zCa z ∧ eqOff σ τ (inb (m + 11) 6) ∧ MC τ m I B N ∧ laI z A B k c) (fun c τ B => G Γ _ cX10_laysAlone _ _ 0 0 6 [some (.ref m), some (.int (ii k)), some (.int (ii c))] [] τ) (fun c τ B => zCa z - c) ?_ 0 τ _ ⟨Nat.zero_le _, eqOff.rfl'.trans hE (fun a i => by unfold inb at *; omega), hM, fun j hj => by rw [va_ne (by omega), va_ne (by omega)], rfl, rfl, fun i _ => rfl, fun c hc => absurd hc (Nat.not_lt_zero c), fun q => q⟩
  clear hM hE τ
  rintro c τ B ⟨hc, hE, hM, hI⟩ ih
  have h0 := hM.1
  have hzB : MZ I B z := hz.cg ⟨rfl, rfl, rfl⟩ (hI.1 6 (by omega)) (hI.1 8 (by omega)) (hI.1 9 (by omega))
  refine g_iload_n q_X10_laysAlone_6 rfl ?_
  refine g_aload_n q_X10_laysAlone_7 rfl ?_
  refine g_get fl_X10_220 q_X10_laysAlone_8 (by repeat first | with_reducible assumption | with_reducible exact hput_s _ _ _ | refine (hput_n _ _ (by omega)).trans ?_ | exact hput_s _ _ _ | assumption) rfl ?_
  refine g_topi (b := (zCa z : Int)) (by exact hn) ?_
  refine g_icmp_ge (tgt := 37) q_X10_laysAlone_11 (by decide) ⟨by omega, by omega⟩ ⟨by omega, by omega⟩ (fun b1 => ?_) (fun b1 => ?_)
  · have e : c = zCa z := by omega
    have hall : allZ z = true := decide_eq_true (fun c' hc' => (hI.2.2.2.2.1 c' (by omega)).1)
    refine g_iconst q_X10_laysAlone_37 ?_
    refine g_zreturn q_X10_laysAlone_38.1 rfl (by first | exact Or.inl rfl | exact Or.inr rfl | omega) ?_
    exact ⟨by rw [hall]; rfl, hE, B, c, hM, hI, fun _ => e⟩
  have hcl : c < zCa z := by omega
  refine g_aload_n q_X10_laysAlone_14 rfl ?_
  refine g_iload_n q_X10_laysAlone_15 rfl ?_
  refine g_callV (rc' := 0) (rs' := 0) (As := [_]) cs_X10_260 q_X10_laysAlone_16 (sp_laysWayM hΓ hM hzB w hI.2.1 hI.2.2.1 hcl) rfl (by repeat first | with_reducible assumption | with_reducible exact hput_s _ _ _ | refine (hput_n _ _ (by omega)).trans ?_ | exact hput_s _ _ _ | assumption) rfl rfl rfl rfl (Nat.le_of_ble_eq_true rfl) (by decide) (by decide) (by decide) (fun _ _ h => h.elim) (fun v τ1 hq => ?_)
  obtain ⟨rfl, hE1, B1, hM1, hB1, hw⟩ := hq
  have h01 := hM1.1
  have hE2 : eqOff σ τ1 (inb (m + 11) 6) := hE.trans hE1 (fun a i => by unfold inb at *; omega)
  have hI1 : laI z A B1 k c := ⟨fun j hj => (hB1 j (by omega)).trans (hI.1 j hj), (hB1 11 (by omega)).trans hI.2.1, (hB1 12 (by omega)).trans hI.2.2.1, by rw [hB1 16 (by omega)]; exact hI.2.2.2.1, by rw [hB1 16 (by omega)]; exact hI.2.2.2.2.1, by rw [hB1 16 (by omega)]; exact hI.2.2.2.2.2⟩
  have hlr : rg (alcZ z c) := by
    have := lcs_rg (lvZ z) (fun _ => 0) (fun _ => 0) (zPL z c).toNat (zGO z c).toNat
    have e9 : alcZ z c = lcs (lvZ z) (fun _ => 0) (fun _ => 0) (zPL z c).toNat (zGO z c).toNat := rfl
    rw [e9]
    unfold rg
    omega
  refine g_iconst q_X10_laysAlone_19 ?_
  refine g_icmp_ne (tgt := 25) q_X10_laysAlone_20 (by decide) hlr ⟨by omega, by omega⟩ (fun b2 => ?_) (fun b2 => ?_)
  case refine_2 =>
    have hal : allZ z = false := decide_eq_false (fun q => q c hcl (by omega))
    refine g_iconst q_X10_laysAlone_23 ?_
    refine g_zreturn q_X10_laysAlone_24.1 rfl (by first | exact Or.inl rfl | exact Or.inr rfl | omega) ?_
    exact ⟨by rw [hal]; rfl, hE2, B1, c, hM1, hI1, fun q => by rw [hal] at q; cases q⟩
  have hw := hw b2
  refine g_aload_n q_X10_laysAlone_25 rfl ?_
  refine g_iload_n q_X10_laysAlone_26 rfl ?_
  refine g_iload_n q_X10_laysAlone_27 rfl ?_
  refine g_callV (rc' := 0) (rs' := 0) (As := [_, _]) cs_X10_283 q_X10_laysAlone_28 (sp_keepsWay hΓ h01 hM1.a16 hM1.a15 k c hk (by omega)) rfl (by repeat first | with_reducible assumption | with_reducible exact hput_s _ _ _ | refine (hput_n _ _ (by omega)).trans ?_ | exact hput_s _ _ _ | assumption) rfl rfl rfl rfl (Nat.le_of_ble_eq_true rfl) (by decide) (by decide) (by decide) (fun _ _ h => h.elim) (k_rv ?_)
  have hM2 : MC (hput τ1 (m + 16) (ai 62115 (va_cpy (B1 15) (B1 16) 0 (205 * k + 41 * c) 41))) m I (va_up B1 16 (va_cpy (B1 15) (B1 16) 0 (205 * k + 41 * c) 41)) N := hM1.frame (a := 16) (n := 1) (eqOff.rfl'.put ⟨by omega, by omega⟩ _) (by omega) (fun j hj => va_ne (by omega)) (fun j h1 h2 _ => by
    have : j = 16 := by omega
    subst this
    exact hput_s _ _ _)
  have hcp : ∀ i, va_cpy (B1 15) (B1 16) 0 (205 * k + 41 * c) 41 i = if 205 * k + 41 * c ≤ i ∧ i < 205 * k + 41 * c + 41 then B1 15 (0 + (i - (205 * k + 41 * c))) else B1 16 i := fun i => rfl
  have hnx := ih (c + 1) _ _ ⟨by omega, hE2.put (a := m + 16) ⟨by omega, by omega⟩ (ai 62115 (va_cpy (B1 15) (B1 16) 0 (205 * k + 41 * c) 41)), hM2, fun j hj => (va_ne (by omega)).trans (hI1.1 j hj), (va_ne (by omega)).trans hI1.2.1, (va_ne (by omega)).trans hI1.2.2.1, fun i hi => by rw [va_eq, hcp, if_neg (by omega)]; exact hI1.2.2.2.1 i hi, fun c' hc' => ?_, fun q i => ?_⟩ (by omega)
  · refine g_iinc (L' := [_, _, _]) q_X10_laysAlone_31 rfl rfl ?_
    refine g_goto (tgt := 6) q_X10_laysAlone_34 (by decide) ?_
    exact hnx
  · rw [va_eq]
    by_cases e : c' = c
    · subst e
      exact ⟨b2, fun t ht => by rw [hcp, if_pos (by omega), show 0 + (205 * k + (41 * c' + t) - (205 * k + 41 * c')) = t by omega]; exact hw t ht⟩
    · obtain ⟨q1, q2⟩ := hI1.2.2.2.2.1 c' (by omega)
      exact ⟨q1, fun t ht => by rw [hcp, if_neg (by omega)]; exact q2 t ht⟩
  · rw [va_eq, hcp]
    by_cases e : 205 * k + 41 * c ≤ i ∧ i < 205 * k + 41 * c + 41
    · rw [if_pos e, hw _ (by omega)]
      have := alw_rg w hcl (0 + (i - (205 * k + 41 * c)))
      unfold rg
      omega
    · rw [if_neg e]
      exact hI1.2.2.2.2.2 q i
theorem sp_sumAt (hΓ : Gd Γ) (h0 : σ.2 m = some (mdo m I)) {W : Nat → Int} (h16 : σ.2 (m + 16) = some (ai 62115 W)) (hW : ∀ i, rg (W i)) (k n : Nat) (hk : k < 303) (hn : n ≤ 5) (h15 : I 15 = n) : Sp Γ miX10_sumAt 0 0 [.ref m, .int (ii k)] σ (ri (sumN (fun c => (ctN (fun t => W (205 * k + (41 * c + t))) 40 : Int)) n) σ) noX := by
  obtain ⟨C, hC⟩ : ∃ C : Nat → Int, C = fun c => (ctN (fun t => W (205 * k + (41 * c + t))) 40 : Int) := ⟨_, rfl⟩
  have hCe : ∀ c, (ctN (fun t => W (205 * k + (41 * c + t))) 40 : Int) = C c := fun c => by rw [hC]
  have hCr : ∀ c, 0 ≤ C c ∧ C c ≤ 40 := fun c => by rw [← hCe c]; have := ctN_le (fun t => W (205 * k + (41 * c + t))) 40; omega
  rw [← hC]
  refine Sp_of (L := [_, _, _, _]) hΓ (by decide +kernel) rfl (Nat.le_of_ble_eq_true rfl) rfl ?_
  refine g_iconst q_X10_sumAt_0 ?_
  refine g_istore_n (L' := [_, _, _, _]) q_X10_sumAt_1 (by decide) rfl ?_
  refine g_iconst q_X10_sumAt_2 ?_
  refine g_istore_n (L' := [_, _, _, _]) q_X10_sumAt_3 (by decide) rfl ?_
  refine g_loop (fun c => c ≤ n) (fun c : Nat => G Γ _ cX10_sumAt _ _ 0 0 4 [some (.ref m), some (.int (ii k)), some (.int (ii (sumN C c))), some (.int (ii c))] [] σ) (fun c => n - c) ?_ 0 (Nat.zero_le _)
  intro c hc ih
  have hs := sumN_rg (C := C) (a := 0) (b := 40) (n := c) (fun k _ => hCr k)
  have hcc := hCr c
  refine g_iload_n q_X10_sumAt_4 rfl ?_
  refine g_aload_n q_X10_sumAt_5 rfl ?_
  refine g_get fl_X10_220 q_X10_sumAt_6 (by repeat first | with_reducible assumption | with_reducible exact hput_s _ _ _ | refine (hput_n _ _ (by omega)).trans ?_ | exact hput_s _ _ _ | assumption) rfl ?_
  refine g_topi (b := (n : Int)) (by exact h15) ?_
  refine g_icmp_ge (tgt := 27) q_X10_sumAt_9 (by decide) ⟨by omega, by omega⟩ ⟨by omega, by omega⟩ (fun b1 => ?_) (fun b1 => ?_)
  · have e : c = n := by omega
    subst e
    refine g_iload_n q_X10_sumAt_27 rfl ?_
    refine g_ireturn q_X10_sumAt_28.1 rfl ?_
    exact ⟨rfl, rfl⟩
  · have hnx := ih (c + 1) (by omega) (by omega)
    refine g_iload_n q_X10_sumAt_12 rfl ?_
    refine g_aload_n q_X10_sumAt_13 rfl ?_
    refine g_iload_n q_X10_sumAt_14 rfl ?_
    refine g_iload_n q_X10_sumAt_15 rfl ?_
    refine g_callV (rc' := 0) (rs' := 0) (As := [_, _]) cs_X10_287 q_X10_sumAt_16 (sp_costAt hΓ h0 h16 hW k c hk (by omega)) rfl (by repeat first | with_reducible assumption | with_reducible exact hput_s _ _ _ | refine (hput_n _ _ (by omega)).trans ?_ | exact hput_s _ _ _ | assumption) rfl rfl rfl rfl (Nat.le_of_ble_eq_true rfl) (by decide) (by decide) (by decide) (fun _ _ h => h.elim) (k_ri ?_)
    rw [hCe]
    refine g_iadd q_X10_sumAt_19 ?_
    refine g_istore_n (L' := [_, _, _, _]) q_X10_sumAt_20 (by decide) rfl ?_
    refine g_iinc (L' := [_, _, _, _]) q_X10_sumAt_21 rfl rfl ?_
    refine g_goto (tgt := 4) q_X10_sumAt_24 (by decide) ?_
    exact hnx
end MB

