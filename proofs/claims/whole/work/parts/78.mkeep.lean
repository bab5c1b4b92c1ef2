/-! the reference: ways that are kept, their costs -/
section MC
variable {Γ : GT} {σ : AH} {m : Nat} {I : Nat → Int} {W : Nat → Int}
theorem sp_wayAt (hΓ : Gd Γ) (h0 : σ.2 m = some (mdo m I)) (h16 : σ.2 (m + 16) = some (ai 62115 W)) (k c t : Nat) (hk : k < 303) (hc : c < 5) (ht : t < 41) : Sp Γ miX10_wayAt 0 0 [.ref m, .int (ii k), .int (ii c), .int (ii t)] σ (ri (W (205 * k + (41 * c + t))) σ) noX := by
  refine Sp_of (L := [_, _, _, _]) hΓ (by decide +kernel) rfl (Nat.le_of_ble_eq_true rfl) rfl ?_
  refine g_aload_n q_X10_wayAt_0 rfl ?_
  refine g_get fl_X10_62 q_X10_wayAt_1 (by repeat first | with_reducible assumption | with_reducible exact hput_s _ _ _ | refine (hput_n _ _ (by omega)).trans ?_ | exact hput_s _ _ _ | assumption) rfl ?_
  refine g_sipush q_X10_wayAt_4 sp_205 ?_
  refine g_iload_n q_X10_wayAt_7 rfl ?_
  refine g_imul q_X10_wayAt_8 ?_
  refine g_bipush q_X10_wayAt_9 bp_41 ?_
  refine g_iload_n q_X10_wayAt_11 rfl ?_
  refine g_imul q_X10_wayAt_12 ?_
  refine g_iadd q_X10_wayAt_13 ?_
  refine g_iload_n q_X10_wayAt_14 rfl ?_
  refine g_iadd q_X10_wayAt_15 ?_
  refine g_iaload q_X10_wayAt_16 (by repeat first | with_reducible assumption | with_reducible exact hput_s _ _ _ | refine (hput_n _ _ (by omega)).trans ?_ | exact hput_s _ _ _ | assumption) (by omega) (by omega) ?_
  refine g_topi (b := W (205 * k + (41 * c + t))) (by congr 1; omega) ?_
  refine g_ireturn q_X10_wayAt_17.1 rfl ?_
  exact ⟨rfl, rfl⟩
theorem sp_keepsWay (hΓ : Gd Γ) (h0 : σ.2 m = some (mdo m I)) (h16 : σ.2 (m + 16) = some (ai 62115 W)) {wy : Nat → Int} (h15 : σ.2 (m + 15) = some (ai 41 wy)) (k c : Nat) (hk : k < 303) (hc : c < 5) : Sp Γ miX10_keepsWay 0 0 [.ref m, .int (ii k), .int (ii c)] σ (rv (hput σ (m + 16) (ai 62115 (va_cpy wy W 0 (205 * k + 41 * c) 41)))) noX := by
  refine Sp_of (L := [_, _, _, _]) hΓ (by decide +kernel) rfl (Nat.le_of_ble_eq_true rfl) rfl ?_
  refine g_iconst q_X10_keepsWay_0 ?_
  refine g_istore_n (L' := [_, _, _, _]) q_X10_keepsWay_1 (by decide) rfl ?_
  refine g_eq (σ2 := hput σ (m + 16) (ai 62115 (va_cpy wy W 0 (205 * k + 41 * c) 0))) rfl rfl (by rw [cpy_0]; exact (hput_id h16).symm) ?_
  refine g_loop (fun t => t ≤ 41) (fun t : Nat => G Γ _ cX10_keepsWay _ _ 0 0 2 [some (.ref m), some (.int (ii k)), some (.int (ii c)), some (.int (ii t))] [] (hput σ (m + 16) (ai 62115 (va_cpy wy W 0 (205 * k + 41 * c) t)))) (fun t => 41 - t) ?_ 0 (Nat.zero_le _)
  intro t ht ih
  refine g_iload_n q_X10_keepsWay_2 rfl ?_
  refine g_bipush q_X10_keepsWay_3 bp_41 ?_
  refine g_icmp_ge (tgt := 37) q_X10_keepsWay_5 (by decide) ⟨by omega, by omega⟩ ⟨by omega, by omega⟩ (fun b1 => ?_) (fun b1 => ?_)
  · have e : t = 41 := by omega
    subst e
    refine g_return q_X10_keepsWay_37.1 rfl ?_
    exact ⟨rfl, rfl⟩
  · have hnx := ih (t + 1) (by omega) (by omega)
    refine g_aload_n q_X10_keepsWay_8 rfl ?_
    refine g_get fl_X10_62 q_X10_keepsWay_9 (by repeat first | with_reducible assumption | with_reducible exact hput_s _ _ _ | refine (hput_n _ _ (by omega)).trans ?_ | exact hput_s _ _ _ | assumption) rfl ?_
    refine g_sipush q_X10_keepsWay_12 sp_205 ?_
    refine g_iload_n q_X10_keepsWay_15 rfl ?_
    refine g_imul q_X10_keepsWay_16 ?_
    refine g_bipush q_X10_keepsWay_17 bp_41 ?_
    refine g_iload_n q_X10_keepsWay_19 rfl ?_
    refine g_imul q_X10_keepsWay_20 ?_
    refine g_iadd q_X10_keepsWay_21 ?_
    refine g_iload_n q_X10_keepsWay_22 rfl ?_
    refine g_iadd q_X10_keepsWay_23 ?_
    refine g_aload_n q_X10_keepsWay_24 rfl ?_
    refine g_get fl_X10_58 q_X10_keepsWay_25 (by repeat first | with_reducible assumption | with_reducible exact hput_s _ _ _ | refine (hput_n _ _ (by omega)).trans ?_ | exact hput_s _ _ _ | assumption) rfl ?_
    refine g_iload_n q_X10_keepsWay_28 rfl ?_
    refine g_iaload q_X10_keepsWay_29 (by repeat first | with_reducible assumption | with_reducible exact hput_s _ _ _ | refine (hput_n _ _ (by omega)).trans ?_ | exact hput_s _ _ _ | assumption) (by omega) (by omega) ?_
    refine g_iastore q_X10_keepsWay_30 (by repeat first | with_reducible assumption | with_reducible exact hput_s _ _ _ | refine (hput_n _ _ (by omega)).trans ?_ | exact hput_s _ _ _ | assumption) (by omega) (by omega) ?_
    rw [hput_hput]
    refine g_eq (σ2 := hput σ (m + 16) (ai 62115 (va_cpy wy W 0 (205 * k + 41 * c) (t + 1)))) rfl rfl (by rw [← cpy_up]; congr 4) ?_
    refine g_iinc (L' := [_, _, _, _]) q_X10_keepsWay_31 rfl rfl ?_
    refine g_goto (tgt := 2) q_X10_keepsWay_34 (by decide) ?_
    exact hnx
theorem sp_costAt (hΓ : Gd Γ) (h0 : σ.2 m = some (mdo m I)) (h16 : σ.2 (m + 16) = some (ai 62115 W)) (hW : ∀ i, rg (W i)) (k c : Nat) (hk : k < 303) (hc : c < 5) : Sp Γ miX10_costAt 0 0 [.ref m, .int (ii k), .int (ii c)] σ (ri (ctN (fun t => W (205 * k + (41 * c + t))) 40) σ) noX := by
  obtain ⟨f, hf⟩ : ∃ f : Nat → Int, f = fun t => W (205 * k + (41 * c + t)) := ⟨_, rfl⟩
  have hfr : ∀ t, rg (f t) := fun t => by rw [hf]; exact hW _
  have hfe : ∀ t, W (205 * k + (41 * c + t)) = f t := fun t => by rw [hf]
  rw [← hf]
  refine Sp_of (L := [_, _, _, _]) hΓ (by decide +kernel) rfl (Nat.le_of_ble_eq_true rfl) rfl ?_
  refine g_bipush q_X10_costAt_0 bp_40 ?_
  refine g_istore_n (L' := [_, _, _, _]) q_X10_costAt_2 (by decide) rfl ?_
  refine g_loop (fun t => t ≤ 40 ∧ ctN f t = ctN f 40) (fun t : Nat => G Γ _ cX10_costAt _ _ 0 0 3 [some (.ref m), some (.int (ii k)), some (.int (ii c)), some (.int (ii t))] [] σ) (fun t => t) ?_ 40 ⟨Nat.le_refl _, rfl⟩
  rintro t ⟨ht, hct⟩ ih
  have fin : ctN f 40 = t → G Γ miX10_costAt cX10_costAt (ri (ctN f 40) σ) noX 0 0 33 [some (.ref m), some (.int (ii k)), some (.int (ii c)), some (.int (ii t))] [] σ := by
    intro h
    rw [h]
    refine g_iload_n q_X10_costAt_33 rfl ?_
    refine g_ireturn q_X10_costAt_34.1 rfl ?_
    exact ⟨rfl, rfl⟩
  refine g_iload_n q_X10_costAt_3 rfl ?_
  refine g_if_le (tgt := 33) q_X10_costAt_4 (by decide) ⟨by omega, by omega⟩ (fun b1 => ?_) (fun b1 => ?_)
  · have e : t = 0 := by omega
    subst e
    exact fin hct.symm
  obtain ⟨u, hu⟩ : ∃ u, t = u + 1 := ⟨t - 1, by omega⟩
  subst hu
  refine g_aload_n q_X10_costAt_7 rfl ?_
  refine g_iload_n q_X10_costAt_8 rfl ?_
  refine g_iload_n q_X10_costAt_9 rfl ?_
  refine g_iload_n q_X10_costAt_10 rfl ?_
  refine g_iconst q_X10_costAt_11 ?_
  refine g_isub q_X10_costAt_12 ?_
  refine g_topi (b := (u : Int)) (by omega) ?_
  refine g_callV (rc' := 0) (rs' := 0) (As := [_, _, _]) cs_X10_263 q_X10_costAt_13 (sp_wayAt hΓ h0 h16 k c u hk hc (by omega)) rfl (by repeat first | with_reducible assumption | with_reducible exact hput_s _ _ _ | refine (hput_n _ _ (by omega)).trans ?_ | exact hput_s _ _ _ | assumption) rfl rfl rfl rfl (Nat.le_of_ble_eq_true rfl) (by decide) (by decide) (by decide) (fun _ _ h => h.elim) (k_ri ?_)
  rw [hfe]
  refine g_aload_n q_X10_costAt_16 rfl ?_
  refine g_iload_n q_X10_costAt_17 rfl ?_
  refine g_iload_n q_X10_costAt_18 rfl ?_
  refine g_bipush q_X10_costAt_19 bp_40 ?_
  refine g_callV (rc' := 0) (rs' := 0) (As := [_, _, _]) cs_X10_263 q_X10_costAt_21 (sp_wayAt hΓ h0 h16 k c 40 hk hc (by omega)) rfl (by repeat first | with_reducible assumption | with_reducible exact hput_s _ _ _ | refine (hput_n _ _ (by omega)).trans ?_ | exact hput_s _ _ _ | assumption) rfl rfl rfl rfl (Nat.le_of_ble_eq_true rfl) (by decide) (by decide) (by decide) (fun _ _ h => h.elim) (k_ri ?_)
  rw [hfe]
  have hct' : (if f u = f 40 then ctN f u else u + 1) = ctN f 40 := hct
  refine g_icmp_ne (tgt := 33) q_X10_costAt_24 (by decide) (hfr _) (hfr _) (fun b2 => ?_) (fun b2 => ?_)
  · rw [if_neg b2] at hct'
    exact fin hct'.symm
  · rw [if_pos (by omega)] at hct'
    have hnx := ih u ⟨by omega, hct'⟩ (by omega)
    refine g_iinc (L' := [_, _, _, _]) q_X10_costAt_27 rfl rfl ?_
    refine g_fl (L2 := [some (.ref m), some (.int (ii k)), some (.int (ii c)), some (.int (ii (((u + 1 : Nat) : Int) + -1)))]) ?_ ⟨rfl, rfl, rfl, rfl, trivial⟩
    refine g_goto (tgt := 3) q_X10_costAt_30 (by decide) ?_
    rw [show ((u + 1 : Nat) : Int) + -1 = (u : Int) by omega]
    exact hnx
end MC

