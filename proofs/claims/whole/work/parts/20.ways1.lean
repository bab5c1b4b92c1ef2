/-! the ways: sums and reads -/
theorem g_loop {β : Type} (P J : β → Prop) (μ : β → Nat) (h : ∀ b, P b → (∀ b', P b' → μ b' < μ b → J b') → J b) : ∀ b, P b → J b := by
  have key : ∀ n b, μ b = n → P b → J b := by
    intro n
    induction n using Nat.strongRecOn with
    | ind n ih =>
      intro b hb hP
      exact h b hP fun b' h1 h2 => ih (μ b') (by omega) b' rfl h1
  exact fun b hP => key _ b rfl hP
def sumN (C : Nat → Int) : Nat → Int
  | 0 => 0
  | n + 1 => sumN C n + C n
abbrev wyo (w n : Nat) (ct cs cl co : Int) : AE := ob 8 [.ref (w + 1), .ref (w + 2), .int (ii n), .int (ii ct), .int (ii cs), .int (ii cl), .int (ii co)]
theorem sp_sumCosts {Γ : GT} (hΓ : Gd Γ) {σ : AH} (w n : Nat) (C : Nat → Int) (ct cs cl co : Int) (hn : n ≤ 5) (h0 : σ.2 w = some (wyo w n ct cs cl co)) (h2 : σ.2 (w + 2) = some (ai 5 C)) : Sp Γ miX8_sumCosts 0 0 [.ref w] σ (fun r σ' => r = some (.int (ii (sumN C n))) ∧ σ' = σ) noX := by
  refine Sp_of (L := [_, _, _]) hΓ (by decide +kernel) rfl (by decide) rfl ?_
  refine g_iconst q_X8_sumCosts_0 ?_
  refine g_istore_n (L' := [_, _, _]) q_X8_sumCosts_1 (by decide) rfl ?_
  refine g_iconst q_X8_sumCosts_2 ?_
  refine g_istore_n (L' := [_, _, _]) q_X8_sumCosts_3 (by decide) rfl ?_
  refine g_loop (fun k => k ≤ n) (fun k : Nat => G Γ _ cX8_sumCosts _ _ 0 0 4 [some (.ref w), some (.int (ii (sumN C k))), some (.int (ii k))] [] σ) (fun k => n - k) ?_ 0 (Nat.zero_le _)
  intro k hk ih
  refine g_iload_n q_X8_sumCosts_4 rfl ?_
  refine g_aload_n q_X8_sumCosts_5 rfl ?_
  refine g_get fl_X8_18 q_X8_sumCosts_6 (by repeat first | assumption | exact hput_s _ _ _ | refine (hput_n _ _ (by omega)).trans ?_) rfl ?_
  refine g_icmp_ge (tgt := 27) q_X8_sumCosts_9 (by decide) ⟨by omega, by omega⟩ ⟨by omega, by omega⟩ (fun hc => ?_) (fun hc => ?_)
  · have e : k = n := by omega
    subst e
    refine g_iload_n q_X8_sumCosts_27 rfl ?_
    refine g_ireturn q_X8_sumCosts_28.1 rfl ?_
    exact ⟨rfl, rfl⟩
  · refine g_iload_n q_X8_sumCosts_12 rfl ?_
    refine g_aload_n q_X8_sumCosts_13 rfl ?_
    refine g_get fl_X8_15 q_X8_sumCosts_14 (by repeat first | assumption | exact hput_s _ _ _ | refine (hput_n _ _ (by omega)).trans ?_) rfl ?_
    refine g_iload_n q_X8_sumCosts_17 rfl ?_
    refine g_iaload q_X8_sumCosts_18 (by repeat first | assumption | exact hput_s _ _ _ | refine (hput_n _ _ (by omega)).trans ?_) (by omega) (by omega) ?_
    refine g_iadd q_X8_sumCosts_19 ?_
    refine g_istore_n (L' := [_, _, _]) q_X8_sumCosts_20 (by decide) rfl ?_
    refine g_iinc (L' := [_, _, _]) q_X8_sumCosts_21 rfl rfl ?_
    refine g_goto (tgt := 4) q_X8_sumCosts_24 (by decide) ?_
    exact ih (k + 1) (by omega) (by omega)

