/-! the reference: undo -/
section MN
variable {Γ : GT} {σ σ' : AH} {m : Nat} {len : Nat} {tx : Nat → Int} {fa e0 : Int} {z : PS} {l : List (Int × Int × Int)} {wl : Nat} {wr : Nat → Int}
theorem sp_mundo0 (hΓ : Gd Γ) (hX : MX σ m e0 len tx fa z [] wl wr) : Sp Γ miX10_undo 0 0 [.ref m] σ (mQ 0 (-1) (SM σ m 0 len tx fa z [] wl wr)) noX := by
  obtain ⟨I, A, N, -, h, hW⟩ := hX
  have h0 := h.1
  have hac : I 20 = 0 := hW.2.2.2.2.1.1
  refine Sp_of (L := [_, _]) hΓ (by decide +kernel) rfl (Nat.le_of_ble_eq_true rfl) rfl ?_
  refine g_aload_n q_X10_undo_0 rfl ?_
  refine g_iconst q_X10_undo_1 ?_
  refine g_putM fp_X10_122 q_X10_undo_2 (by repeat first | with_reducible assumption | with_reducible exact hput_s _ _ _ | refine (hput_n _ _ (by omega)).trans ?_ | exact hput_s _ _ _ | assumption) rfl rfl mset_0 ?_
  refine g_aload_n q_X10_undo_5 rfl ?_
  refine g_get fl_X10_223 q_X10_undo_6 (by repeat first | with_reducible assumption | with_reducible exact hput_s _ _ _ | refine (hput_n _ _ (by omega)).trans ?_ | exact hput_s _ _ _ | assumption) rfl ?_
  refine g_topi (b := (0 : Int)) (by exact hac) ?_
  refine g_if_ne (tgt := 14) q_X10_undo_9 (by decide) ⟨by omega, by omega⟩ (fun b1 => ?_) (fun b1 => ?_)
  · exact absurd rfl b1
  refine g_iconst q_X10_undo_12 ?_
  refine g_ireturn q_X10_undo_13.1 rfl ?_
  exact ⟨rfl, SM.t h hW 0⟩
theorem sp_mundo1 (hΓ : Gd Γ) {q : Int × Int × Int} (hX : MX σ m e0 len tx fa z (l ++ [q]) wl wr) : Sp Γ miX10_undo 0 0 [.ref m] σ (mQ 0 l.length (SM σ m 0 len tx fa (udo z q) l wl wr)) noX := by
  obtain ⟨I, A, N, -, h, hW⟩ := hX
  have h0 := h.1
  have h6 := h.a6
  have h9 := h.a9
  have h10 := h.a10
  obtain ⟨a1, a2, ⟨a3, a3w⟩, a4, ⟨b1, b2, b3, b4⟩, a6, a7, a8⟩ := hW
  have r6 := a3w.1.1.2.1
  have n5 := a3w.1.1.2.2
  obtain ⟨n, hn⟩ : ∃ n, n = l.length := ⟨_, rfl⟩
  have hac : I 20 = ((n + 1 : Nat) : Int) := by rw [b1, List.length_append, hn]; rfl
  rw [List.length_append] at b2
  have n15 : n ≤ 15 := by rw [hn]; have : [q].length = 1 := rfl; omega
  rw [List.reverse_append] at b3 b4
  obtain ⟨c1, c2, c3⟩ : okq q ∧ WFz (udo z q) ∧ okA (udo z q) l.reverse := b3
  obtain ⟨d1, d2, d3, d4⟩ : (∀ c, c < 36 → 0 ≤ A 10 (41 * l.reverse.length + c) ∧ A 10 (41 * l.reverse.length + c) < 6) ∧ (∀ c, gIn (zCo z) (zRo z) c → A 10 (41 * l.reverse.length + c) = zSO (udo z q) c) ∧ (∀ k, k < zCa z → A 10 (41 * l.reverse.length + 36 + k) = zGO (udo z q) k) ∧ mPa (A 10) (udo z q) l.reverse := b4
  rw [List.length_reverse, ← hn] at d1 d2 d3
  obtain ⟨J, hJ⟩ : ∃ J, J = va_up (va_up I 0 0) 20 (n : Int) := ⟨_, rfl⟩
  have hJ20 : J 20 = (n : Int) := by rw [hJ]; rfl
  have hM1 := h.putI J
  have h01 := hM1.1
  have hM2 := hM1.putA 6 (by omega) (va_cpy (fun i => A 10 (41 * n + i)) (A 6) 0 0 36)
  have hM3 := (hM2.putA 9 (by omega) (va_cpy (fun i => A 10 (41 * n + 36 + i)) (A 9) 0 0 5)).putI (va_up J 33 (-1))
  obtain ⟨τ, hτ⟩ : ∃ τ, τ = hput σ m (mdo m J) := ⟨_, rfl⟩
  have t0 : τ.2 m = some (mdo m J) := by rw [hτ]; exact hM1.1
  have t6 : τ.2 (m + 6) = some (ai 36 (A 6)) := by rw [hτ]; exact hM1.a6
  have t9 : τ.2 (m + 9) = some (ai 5 (A 9)) := by rw [hτ]; exact hM1.a9
  have t10 : τ.2 (m + 10) = some (ai 656 (A 10)) := by rw [hτ]; exact hM1.a10
  rw [← hτ] at hM3
  refine Sp_of (L := [_, _]) hΓ (by decide +kernel) rfl (Nat.le_of_ble_eq_true rfl) rfl ?_
  refine g_aload_n q_X10_undo_0 rfl ?_
  refine g_iconst q_X10_undo_1 ?_
  refine g_putM fp_X10_122 q_X10_undo_2 (by repeat first | with_reducible assumption | with_reducible exact hput_s _ _ _ | refine (hput_n _ _ (by omega)).trans ?_ | exact hput_s _ _ _ | assumption) rfl rfl mset_0 ?_
  refine g_aload_n q_X10_undo_5 rfl ?_
  refine g_get fl_X10_223 q_X10_undo_6 (by repeat first | with_reducible assumption | with_reducible exact hput_s _ _ _ | refine (hput_n _ _ (by omega)).trans ?_ | exact hput_s _ _ _ | assumption) rfl ?_
  refine g_topi (b := ((n + 1 : Nat) : Int)) (by exact hac) ?_
  refine g_if_ne (tgt := 14) q_X10_undo_9 (by decide) ⟨by omega, by omega⟩ (fun e1 => ?_) (fun e1 => ?_)
  case refine_2 => exact absurd e1 (by omega)
  refine g_aload_n q_X10_undo_14 rfl ?_
  refine g_dup q_X10_undo_15 rfl ?_
  refine g_get fl_X10_223 q_X10_undo_16 (by repeat first | with_reducible assumption | with_reducible exact hput_s _ _ _ | refine (hput_n _ _ (by omega)).trans ?_ | exact hput_s _ _ _ | assumption) rfl ?_
  refine g_topi (b := ((n + 1 : Nat) : Int)) (by exact hac) ?_
  refine g_iconst q_X10_undo_19 ?_
  refine g_isub q_X10_undo_20 ?_
  refine g_topi (b := (n : Int)) (by omega) ?_
  refine g_putM fp_X10_223 q_X10_undo_21 (by repeat first | with_reducible assumption | with_reducible exact hput_s _ _ _ | refine (hput_n _ _ (by omega)).trans ?_ | exact hput_s _ _ _ | assumption) rfl rfl mset_20 ?_
  refine g_iconst q_X10_undo_24 ?_
  refine g_istore_n (L' := [_, _]) q_X10_undo_25 (by decide) rfl ?_
  rw [hput_hput, ← hJ, ← hτ]
  refine g_eq (σ2 := hput τ (m + 6) (ai 36 (va_cpy (fun i => A 10 (41 * n + i)) (A 6) 0 0 0))) rfl rfl (by rw [cpy_0]; exact (hput_id t6).symm) ?_
  refine g_loop (fun k => k ≤ 36) (fun k : Nat => G Γ _ cX10_undo _ _ 0 0 26 [some (.ref m), some (.int (ii k))] [] (hput τ (m + 6) (ai 36 (va_cpy (fun i => A 10 (41 * n + i)) (A 6) 0 0 k)))) (fun k => 36 - k) ?_ 0 (Nat.zero_le _)
  intro k hk ih
  refine g_iload_n q_X10_undo_26 rfl ?_
  refine g_bipush q_X10_undo_27 bp_36 ?_
  refine g_icmp_ge (tgt := 58) q_X10_undo_29 (by decide) ⟨by omega, by omega⟩ ⟨by omega, by omega⟩ (fun e2 => ?_) (fun e2 => ?_)
  case refine_2 =>
    have hnx := ih (k + 1) (by omega) (by omega)
    refine g_aload_n q_X10_undo_32 rfl ?_
    refine g_get fl_X10_30 q_X10_undo_33 (by repeat first | with_reducible assumption | with_reducible exact hput_s _ _ _ | refine (hput_n _ _ (by omega)).trans ?_ | exact hput_s _ _ _ | assumption) rfl ?_
    refine g_iload_n q_X10_undo_36 rfl ?_
    refine g_aload_n q_X10_undo_37 rfl ?_
    refine g_get fl_X10_42 q_X10_undo_38 (by repeat first | with_reducible assumption | with_reducible exact hput_s _ _ _ | refine (hput_n _ _ (by omega)).trans ?_ | exact hput_s _ _ _ | assumption) rfl ?_
    refine g_bipush q_X10_undo_41 bp_41 ?_
    refine g_aload_n q_X10_undo_43 rfl ?_
    refine g_get fl_X10_223 q_X10_undo_44 (by repeat first | with_reducible assumption | with_reducible exact hput_s _ _ _ | refine (hput_n _ _ (by omega)).trans ?_ | exact hput_s _ _ _ | assumption) rfl ?_
    refine g_topi (b := (n : Int)) (by exact hJ20) ?_
    refine g_imul q_X10_undo_47 ?_
    refine g_iload_n q_X10_undo_48 rfl ?_
    refine g_iadd q_X10_undo_49 ?_
    refine g_iaload q_X10_undo_50 (by repeat first | with_reducible assumption | with_reducible exact hput_s _ _ _ | refine (hput_n _ _ (by omega)).trans ?_ | exact hput_s _ _ _ | assumption) (by omega) (by omega) ?_
    refine g_iastore q_X10_undo_51 (by repeat first | with_reducible assumption | with_reducible exact hput_s _ _ _ | refine (hput_n _ _ (by omega)).trans ?_ | exact hput_s _ _ _ | assumption) (by omega) (by omega) ?_
    rw [hput_hput]
    refine g_eq (σ2 := hput τ (m + 6) (ai 36 (va_cpy (fun i => A 10 (41 * n + i)) (A 6) 0 0 (k + 1)))) rfl rfl (by rw [← cpy_up _ _ 0 k, Nat.zero_add]; rfl) ?_
    refine g_iinc (L' := [_, _]) q_X10_undo_52 rfl rfl ?_
    refine g_goto (tgt := 26) q_X10_undo_55 (by decide) ?_
    exact hnx
  have e : k = 36 := by omega
  subst e
  clear ih
  obtain ⟨τ1, hτ1⟩ : ∃ τ1, τ1 = hput τ (m + 6) (ai 36 (va_cpy (fun i => A 10 (41 * n + i)) (A 6) 0 0 36)) := ⟨_, rfl⟩
  have u0 : τ1.2 m = some (mdo m J) := by rw [hτ1]; exact (hput_n _ _ (by omega)).trans t0
  have u9 : τ1.2 (m + 9) = some (ai 5 (A 9)) := by rw [hτ1]; exact (hput_n _ _ (by omega)).trans t9
  have u10 : τ1.2 (m + 10) = some (ai 656 (A 10)) := by rw [hτ1]; exact (hput_n _ _ (by omega)).trans t10
  refine g_eq (σ2 := τ1) rfl rfl hτ1.symm ?_
  refine g_iconst q_X10_undo_58 ?_
  refine g_istore_n (L' := [_, _]) q_X10_undo_59 (by decide) rfl ?_
  refine g_eq (σ2 := hput τ1 (m + 9) (ai 5 (va_cpy (fun i => A 10 (41 * n + 36 + i)) (A 9) 0 0 0))) rfl rfl (by rw [cpy_0]; exact (hput_id u9).symm) ?_
  refine g_loop (fun k => k ≤ 5) (fun k : Nat => G Γ _ cX10_undo _ _ 0 0 60 [some (.ref m), some (.int (ii k))] [] (hput τ1 (m + 9) (ai 5 (va_cpy (fun i => A 10 (41 * n + 36 + i)) (A 9) 0 0 k)))) (fun k => 5 - k) ?_ 0 (Nat.zero_le _)
  intro k hk ih
  refine g_iload_n q_X10_undo_60 rfl ?_
  refine g_iconst q_X10_undo_61 ?_
  refine g_icmp_ge (tgt := 94) q_X10_undo_62 (by decide) ⟨by omega, by omega⟩ ⟨by omega, by omega⟩ (fun e3 => ?_) (fun e3 => ?_)
  case refine_2 =>
    have hnx := ih (k + 1) (by omega) (by omega)
    refine g_aload_n q_X10_undo_65 rfl ?_
    refine g_get fl_X10_39 q_X10_undo_66 (by repeat first | with_reducible assumption | with_reducible exact hput_s _ _ _ | refine (hput_n _ _ (by omega)).trans ?_ | exact hput_s _ _ _ | assumption) rfl ?_
    refine g_iload_n q_X10_undo_69 rfl ?_
    refine g_aload_n q_X10_undo_70 rfl ?_
    refine g_get fl_X10_42 q_X10_undo_71 (by repeat first | with_reducible assumption | with_reducible exact hput_s _ _ _ | refine (hput_n _ _ (by omega)).trans ?_ | exact hput_s _ _ _ | assumption) rfl ?_
    refine g_bipush q_X10_undo_74 bp_41 ?_
    refine g_aload_n q_X10_undo_76 rfl ?_
    refine g_get fl_X10_223 q_X10_undo_77 (by repeat first | with_reducible assumption | with_reducible exact hput_s _ _ _ | refine (hput_n _ _ (by omega)).trans ?_ | exact hput_s _ _ _ | assumption) rfl ?_
    refine g_topi (b := (n : Int)) (by exact hJ20) ?_
    refine g_imul q_X10_undo_80 ?_
    refine g_bipush q_X10_undo_81 bp_36 ?_
    refine g_iadd q_X10_undo_83 ?_
    refine g_iload_n q_X10_undo_84 rfl ?_
    refine g_iadd q_X10_undo_85 ?_
    refine g_iaload q_X10_undo_86 (by repeat first | with_reducible assumption | with_reducible exact hput_s _ _ _ | refine (hput_n _ _ (by omega)).trans ?_ | exact hput_s _ _ _ | assumption) (by omega) (by omega) ?_
    refine g_iastore q_X10_undo_87 (by repeat first | with_reducible assumption | with_reducible exact hput_s _ _ _ | refine (hput_n _ _ (by omega)).trans ?_ | exact hput_s _ _ _ | assumption) (by omega) (by omega) ?_
    rw [hput_hput]
    refine g_eq (σ2 := hput τ1 (m + 9) (ai 5 (va_cpy (fun i => A 10 (41 * n + 36 + i)) (A 9) 0 0 (k + 1)))) rfl rfl (by rw [← cpy_up _ _ 0 k, Nat.zero_add]; rfl) ?_
    refine g_iinc (L' := [_, _]) q_X10_undo_88 rfl rfl ?_
    refine g_goto (tgt := 60) q_X10_undo_91 (by decide) ?_
    exact hnx
  have e : k = 5 := by omega
  subst e
  clear ih
  have hu0 : (hput τ1 (m + 9) (ai 5 (va_cpy (fun i => A 10 (41 * n + 36 + i)) (A 9) 0 0 5))).2 m = some (mdo m J) := (hput_n _ _ (by omega)).trans u0
  refine g_aload_n q_X10_undo_94 rfl ?_
  refine g_callV (rc' := 0) (rs' := 0) (As := []) cs_X10_226 q_X10_undo_95 (sp_changes hΓ hu0) rfl (by repeat first | with_reducible assumption | with_reducible exact hput_s _ _ _ | refine (hput_n _ _ (by omega)).trans ?_ | exact hput_s _ _ _ | assumption) rfl rfl rfl rfl (Nat.le_of_ble_eq_true rfl) (by decide) (by decide) (by decide) (fun _ _ h => h.elim) (k_rv ?_)
  refine g_aload_n q_X10_undo_98 rfl ?_
  refine g_get fl_X10_223 q_X10_undo_99 (by repeat first | with_reducible assumption | with_reducible exact hput_s _ _ _ | refine (hput_n _ _ (by omega)).trans ?_ | exact hput_s _ _ _ | assumption) rfl ?_
  refine g_topi (b := (n : Int)) (by exact hJ20) ?_
  refine g_ireturn q_X10_undo_102.1 rfl ?_
  rw [hτ1, ← hn]
  have hq6 : ∀ i, va_cpy (fun i => A 10 (41 * n + i)) (A 6) 0 0 36 i = if 0 ≤ i ∧ i < 0 + 36 then A 10 (41 * n + (0 + (i - 0))) else A 6 i := fun i => rfl
  have hq9 : ∀ i, va_cpy (fun i => A 10 (41 * n + 36 + i)) (A 9) 0 0 5 i = if 0 ≤ i ∧ i < 0 + 5 then A 10 (41 * n + 36 + (0 + (i - 0))) else A 9 i := fun i => rfl
  have hJk : ∀ k, k ≠ 0 → k ≠ 20 → k ≠ 33 → va_up J 33 (-1) k = I k := fun k q1 q2 q3 => by rw [va_ne q3, hJ, va_ne q2, va_ne q1]
  refine ⟨rfl, ⟨va_up J 33 (-1), _, N, by rw [hJ]; rfl, hM3, ?_⟩, ?_⟩
  · refine ⟨?_, ?_, ⟨⟨⟨?_, ?_, ?_⟩, fun i => ?_, fun c hc => ?_, fun k hk => ⟨(a3.2.2.2 k hk).1, ?_⟩⟩, c2⟩, a4, ⟨?_, by omega, c3, d4⟩, Or.inl rfl, ?_, a8⟩
    · rw [hJk 2 (by omega) (by omega) (by omega)]; exact a1
    · rw [hJk 5 (by omega) (by omega) (by omega)]; exact a2
    · rw [hJk 13 (by omega) (by omega) (by omega)]; exact a3.1.1
    · rw [hJk 14 (by omega) (by omega) (by omega)]; exact a3.1.2.1
    · rw [hJk 15 (by omega) (by omega) (by omega)]; exact a3.1.2.2
    · show 0 ≤ va_cpy (fun i => A 10 (41 * n + i)) (A 6) 0 0 36 i ∧ va_cpy (fun i => A 10 (41 * n + i)) (A 6) 0 0 36 i < 6
      rw [hq6]
      by_cases e : i < 36
      · rw [if_pos (by omega)]
        exact d1 _ (by omega)
      · rw [if_neg (by omega)]
        exact a3.2.1 i
    · show va_cpy (fun i => A 10 (41 * n + i)) (A 6) 0 0 36 c = _
      have hc' : gIn (zCo z) (zRo z) c := hc
      have := gIn_36 r6 hc'
      rw [hq6, if_pos (by omega), show 41 * n + (0 + (c - 0)) = 41 * n + c by omega]
      exact d2 c hc'
    · show va_cpy (fun i => A 10 (41 * n + 36 + i)) (A 9) 0 0 5 k = _
      have hk' : k < zCa z := hk
      rw [hq9, if_pos (by omega), show 41 * n + 36 + (0 + (k - 0)) = 41 * n + 36 + k by omega]
      exact d3 k hk'
    · rw [va_ne (by omega), hJ20, hn]
    · rw [hJk 55 (by omega) (by omega) (by omega)]; exact a7
  · rw [hτ]
    exact (((eqOff.rfl'.put (a := m) ⟨by omega, by omega⟩ _).put (a := m + 6) ⟨by omega, by omega⟩ _).put (a := m + 9) ⟨by omega, by omega⟩ _).put (a := m) ⟨by omega, by omega⟩ _
end MN

