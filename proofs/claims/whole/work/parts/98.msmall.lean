/-! the reference: bounds, signs of sorts -/
section MSm
variable {Γ : GT} {σ : AH}
theorem sp_isBound (hΓ : Gd Γ) (b : Int) (hb : rg b) : Sp Γ miX10_isBound 0 0 [.int (ii b)] σ (rb (bOK b) σ) noX := by
  refine Sp_of (L := [_]) hΓ (by decide +kernel) rfl (Nat.le_of_ble_eq_true rfl) rfl ?_
  refine g_iload_n q_X10_isBound_0 rfl ?_
  refine g_bipush q_X10_isBound_1 bp_10 ?_
  refine g_bipush q_X10_isBound_3 bp_30 ?_
  refine g_callS (rc' := 0) (rs' := 0) (As := [_, _, _]) cs_X10_229 q_X10_isBound_5 (sp_isIn hΓ b 10 30 hb ⟨by decide, by decide⟩ ⟨by decide, by decide⟩) rfl rfl rfl (Nat.le_of_ble_eq_true rfl) (by decide) (by decide) (by decide) (fun _ _ h => h.elim) (k_rb ?_)
  refine g_zreturn q_X10_isBound_8.1 rfl (by rcases bi_le (decide (10 ≤ b ∧ b ≤ 30)) with ⟨q1, q2⟩; omega) ?_
  exact ⟨rfl, rfl⟩
def soM (c : Int) : Int := if c = 46 then 0 else if c = 35 then 1 else if c = 94 then 2 else if c = 62 then 3 else if c = 118 then 4 else if c = 60 then 5 else -1
theorem sp_sortOf (hΓ : Gd Γ) (c : Int) (hc : rg c) : Sp Γ miX10_sortOf 0 0 [.int (ii c)] σ (ri (soM c) σ) noX := by
  unfold soM
  refine Sp_of (L := [_]) hΓ (by decide +kernel) rfl (Nat.le_of_ble_eq_true rfl) rfl ?_
  refine g_iload_n q_X10_sortOf_0 rfl ?_
  refine g_bipush q_X10_sortOf_1 bp_46 ?_
  refine g_icmp_ne (tgt := 10) q_X10_sortOf_3 (by decide) hc ⟨by omega, by omega⟩ (fun b1 => ?_) (fun b1 => ?_)
  case refine_2 =>
    rw [if_pos (by omega)]
    refine g_iconst q_X10_sortOf_6 ?_
    refine g_goto (tgt := 61) q_X10_sortOf_7 (by decide) ?_
    refine g_ireturn q_X10_sortOf_61.1 rfl ?_
    exact ⟨rfl, rfl⟩
  rw [if_neg b1]
  refine g_iload_n q_X10_sortOf_10 rfl ?_
  refine g_bipush q_X10_sortOf_11 bp_35 ?_
  refine g_icmp_ne (tgt := 20) q_X10_sortOf_13 (by decide) hc ⟨by omega, by omega⟩ (fun b2 => ?_) (fun b2 => ?_)
  case refine_2 =>
    rw [if_pos (by omega)]
    refine g_iconst q_X10_sortOf_16 ?_
    refine g_goto (tgt := 61) q_X10_sortOf_17 (by decide) ?_
    refine g_ireturn q_X10_sortOf_61.1 rfl ?_
    exact ⟨rfl, rfl⟩
  rw [if_neg b2]
  refine g_iload_n q_X10_sortOf_20 rfl ?_
  refine g_bipush q_X10_sortOf_21 bp_94 ?_
  refine g_icmp_ne (tgt := 30) q_X10_sortOf_23 (by decide) hc ⟨by omega, by omega⟩ (fun b3 => ?_) (fun b3 => ?_)
  case refine_2 =>
    rw [if_pos (by omega)]
    refine g_iconst q_X10_sortOf_26 ?_
    refine g_goto (tgt := 61) q_X10_sortOf_27 (by decide) ?_
    refine g_ireturn q_X10_sortOf_61.1 rfl ?_
    exact ⟨rfl, rfl⟩
  rw [if_neg b3]
  refine g_iload_n q_X10_sortOf_30 rfl ?_
  refine g_bipush q_X10_sortOf_31 bp_62 ?_
  refine g_icmp_ne (tgt := 40) q_X10_sortOf_33 (by decide) hc ⟨by omega, by omega⟩ (fun b4 => ?_) (fun b4 => ?_)
  case refine_2 =>
    rw [if_pos (by omega)]
    refine g_iconst q_X10_sortOf_36 ?_
    refine g_goto (tgt := 61) q_X10_sortOf_37 (by decide) ?_
    refine g_ireturn q_X10_sortOf_61.1 rfl ?_
    exact ⟨rfl, rfl⟩
  rw [if_neg b4]
  refine g_iload_n q_X10_sortOf_40 rfl ?_
  refine g_bipush q_X10_sortOf_41 bp_118 ?_
  refine g_icmp_ne (tgt := 50) q_X10_sortOf_43 (by decide) hc ⟨by omega, by omega⟩ (fun b5 => ?_) (fun b5 => ?_)
  case refine_2 =>
    rw [if_pos (by omega)]
    refine g_iconst q_X10_sortOf_46 ?_
    refine g_goto (tgt := 61) q_X10_sortOf_47 (by decide) ?_
    refine g_ireturn q_X10_sortOf_61.1 rfl ?_
    exact ⟨rfl, rfl⟩
  rw [if_neg b5]
  refine g_iload_n q_X10_sortOf_50 rfl ?_
  refine g_bipush q_X10_sortOf_51 bp_60 ?_
  refine g_icmp_ne (tgt := 60) q_X10_sortOf_53 (by decide) hc ⟨by omega, by omega⟩ (fun b6 => ?_) (fun b6 => ?_)
  case refine_2 =>
    rw [if_pos (by omega)]
    refine g_iconst q_X10_sortOf_56 ?_
    refine g_goto (tgt := 61) q_X10_sortOf_57 (by decide) ?_
    refine g_ireturn q_X10_sortOf_61.1 rfl ?_
    exact ⟨rfl, rfl⟩
  rw [if_neg b6]
  refine g_iconst q_X10_sortOf_60 ?_
  refine g_ireturn q_X10_sortOf_61.1 rfl ?_
  exact ⟨rfl, rfl⟩
end MSm

