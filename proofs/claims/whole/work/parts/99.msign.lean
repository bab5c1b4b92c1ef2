/-! the reference: signs of sorts are the class's -/
theorem soM_sgn (c : Int) : soM c = sgn c := by
  unfold soM sgn
  have no : ∀ (n : Nat), (∀ j, j < n → k_sgn j ≠ c) → ∀ j, j < n → decide (k_sgn j = c) = false := fun n h j hj => decide_eq_false (h j hj)
  by_cases h0 : c = 46
  · rw [if_pos h0, fstN_some (k := 0) (by decide) (decide_eq_true h0.symm) (fun j hj => absurd hj (Nat.not_lt_zero j))]; rfl
  rw [if_neg h0]
  have n1 : ∀ j, j < 1 → k_sgn j ≠ c := fun j hj q => by
    have : j = 0 := by omega
    subst this; exact h0 q.symm
  by_cases h1 : c = 35
  · rw [if_pos h1, fstN_some (k := 1) (by decide) (decide_eq_true h1.symm) (no 1 n1)]; rfl
  rw [if_neg h1]
  have n2 : ∀ j, j < 2 → k_sgn j ≠ c := fun j hj q => by
    by_cases e : j = 1
    · subst e; exact h1 q.symm
    · exact n1 j (by omega) q
  by_cases h2 : c = 94
  · rw [if_pos h2, fstN_some (k := 2) (by decide) (decide_eq_true h2.symm) (no 2 n2)]; rfl
  rw [if_neg h2]
  have n3 : ∀ j, j < 3 → k_sgn j ≠ c := fun j hj q => by
    by_cases e : j = 2
    · subst e; exact h2 q.symm
    · exact n2 j (by omega) q
  by_cases h3 : c = 62
  · rw [if_pos h3, fstN_some (k := 3) (by decide) (decide_eq_true h3.symm) (no 3 n3)]; rfl
  rw [if_neg h3]
  have n4 : ∀ j, j < 4 → k_sgn j ≠ c := fun j hj q => by
    by_cases e : j = 3
    · subst e; exact h3 q.symm
    · exact n3 j (by omega) q
  by_cases h4 : c = 118
  · rw [if_pos h4, fstN_some (k := 4) (by decide) (decide_eq_true h4.symm) (no 4 n4)]; rfl
  rw [if_neg h4]
  have n5 : ∀ j, j < 5 → k_sgn j ≠ c := fun j hj q => by
    by_cases e : j = 4
    · subst e; exact h4 q.symm
    · exact n4 j (by omega) q
  by_cases h5 : c = 60
  · rw [if_pos h5, fstN_some (k := 5) (by decide) (decide_eq_true h5.symm) (no 5 n5)]; rfl
  rw [if_neg h5]
  have n6 : ∀ j, j < 6 → k_sgn j ≠ c := fun j hj q => by
    by_cases e : j = 5
    · subst e; exact h5 q.symm
    · exact n5 j (by omega) q
  rw [fstN_none (no 6 n6)]
section MSg
variable {Γ : GT} {σ : AH}
theorem sp_signOf (hΓ : Gd Γ) (s : Nat) (hs : s < 6) : Sp Γ miX10_signOf 0 0 [.int (ii s)] σ (ri (k_sgn s) σ) noX := by
  refine Sp_of (L := [_]) hΓ (by decide +kernel) rfl (Nat.le_of_ble_eq_true rfl) rfl ?_
  refine g_iload_n q_X10_signOf_0 rfl ?_
  refine g_if_ne (tgt := 9) q_X10_signOf_1 (by decide) ⟨by omega, by omega⟩ (fun b1 => ?_) (fun b1 => ?_)
  case refine_2 =>
    have e : s = 0 := by omega
    subst e
    refine g_bipush q_X10_signOf_4 bp_46 ?_
    refine g_goto (tgt := 51) q_X10_signOf_6 (by decide) ?_
    refine g_ireturn q_X10_signOf_51.1 rfl ?_
    exact ⟨rfl, rfl⟩
  refine g_iload_n q_X10_signOf_9 rfl ?_
  refine g_iconst q_X10_signOf_10 ?_
  refine g_icmp_ne (tgt := 19) q_X10_signOf_11 (by decide) ⟨by omega, by omega⟩ ⟨by omega, by omega⟩ (fun b2 => ?_) (fun b2 => ?_)
  case refine_2 =>
    have e : s = 1 := by omega
    subst e
    refine g_bipush q_X10_signOf_14 bp_35 ?_
    refine g_goto (tgt := 51) q_X10_signOf_16 (by decide) ?_
    refine g_ireturn q_X10_signOf_51.1 rfl ?_
    exact ⟨rfl, rfl⟩
  refine g_iload_n q_X10_signOf_19 rfl ?_
  refine g_iconst q_X10_signOf_20 ?_
  refine g_icmp_ne (tgt := 29) q_X10_signOf_21 (by decide) ⟨by omega, by omega⟩ ⟨by omega, by omega⟩ (fun b3 => ?_) (fun b3 => ?_)
  case refine_2 =>
    have e : s = 2 := by omega
    subst e
    refine g_bipush q_X10_signOf_24 bp_94 ?_
    refine g_goto (tgt := 51) q_X10_signOf_26 (by decide) ?_
    refine g_ireturn q_X10_signOf_51.1 rfl ?_
    exact ⟨rfl, rfl⟩
  refine g_iload_n q_X10_signOf_29 rfl ?_
  refine g_iconst q_X10_signOf_30 ?_
  refine g_icmp_ne (tgt := 39) q_X10_signOf_31 (by decide) ⟨by omega, by omega⟩ ⟨by omega, by omega⟩ (fun b4 => ?_) (fun b4 => ?_)
  case refine_2 =>
    have e : s = 3 := by omega
    subst e
    refine g_bipush q_X10_signOf_34 bp_62 ?_
    refine g_goto (tgt := 51) q_X10_signOf_36 (by decide) ?_
    refine g_ireturn q_X10_signOf_51.1 rfl ?_
    exact ⟨rfl, rfl⟩
  refine g_iload_n q_X10_signOf_39 rfl ?_
  refine g_iconst q_X10_signOf_40 ?_
  refine g_icmp_ne (tgt := 49) q_X10_signOf_41 (by decide) ⟨by omega, by omega⟩ ⟨by omega, by omega⟩ (fun b5 => ?_) (fun b5 => ?_)
  case refine_2 =>
    have e : s = 4 := by omega
    subst e
    refine g_bipush q_X10_signOf_44 bp_118 ?_
    refine g_goto (tgt := 51) q_X10_signOf_46 (by decide) ?_
    refine g_ireturn q_X10_signOf_51.1 rfl ?_
    exact ⟨rfl, rfl⟩
  have e : s = 5 := by omega
  subst e
  refine g_bipush q_X10_signOf_49 bp_60 ?_
  refine g_ireturn q_X10_signOf_51.1 rfl ?_
  exact ⟨rfl, rfl⟩
end MSg

