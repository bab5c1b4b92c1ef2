/-! the reference: which move goes from a cell to a cell -/
section MV
variable {Γ : GT} {σ : AH} {m : Nat} {I : Nat → Int} {cols rows : Nat} {so : Nat → Int}
/-- the first move that goes there; 4 where none does -/
def mvM (so : Nat → Int) (cols rows f : Nat) (t : Int) : Int := if fstN (fun k => decide (nxt so cols rows f k = t)) 4 = -1 then 4 else fstN (fun k => decide (nxt so cols rows f k = t)) 4
theorem sp_mmoveOf (hΓ : Gd Γ) (hG : MG σ m I cols rows so) (f : Nat) (hf : f < 36) (t : Int) (ht : rg t) : Sp Γ miX10_moveOf 0 0 [.ref m, .int (ii f), .int (ii t)] σ (ri (mvM so cols rows f t) σ) noX := by
  have h0 := hG.1
  have hr : ∀ k, rg (nxt so cols rows f k) := fun k => by
    have := nxt_rg (so := so) (m := k) hG.2.2.2.1 hG.2.2.2.2.1 hf
    unfold rg
    omega
  refine Sp_of (L := [_, _, _, _]) hΓ (by decide +kernel) rfl (Nat.le_of_ble_eq_true rfl) rfl ?_
  refine g_iconst q_X10_moveOf_0 ?_
  refine g_istore_n (L' := [_, _, _, _]) q_X10_moveOf_1 (by decide) rfl ?_
  refine g_loop (fun k => k ≤ 4 ∧ ∀ j, j < k → nxt so cols rows f j ≠ t) (fun k : Nat => G Γ _ cX10_moveOf _ _ 0 0 2 [some (.ref m), some (.int (ii f)), some (.int (ii t)), some (.int (ii k))] [] σ) (fun k => 4 - k) ?_ 0 ⟨Nat.zero_le _, fun j hj => absurd hj (Nat.not_lt_zero j)⟩
  rintro k ⟨hk, hn⟩ ih
  have fin : mvM so cols rows f t = k → G Γ miX10_moveOf cX10_moveOf (ri (mvM so cols rows f t) σ) noX 0 0 23 [some (.ref m), some (.int (ii f)), some (.int (ii t)), some (.int (ii k))] [] σ := fun q => by
    rw [q]
    refine g_iload_n q_X10_moveOf_23 rfl ?_
    refine g_ireturn q_X10_moveOf_24.1 rfl ?_
    exact ⟨rfl, rfl⟩
  refine g_iload_n q_X10_moveOf_2 rfl ?_
  refine g_iconst q_X10_moveOf_3 ?_
  refine g_icmp_ge (tgt := 23) q_X10_moveOf_4 (by decide) ⟨by omega, by omega⟩ ⟨by omega, by omega⟩ (fun b1 => ?_) (fun b1 => ?_)
  · have e : k = 4 := by omega
    subst e
    refine fin ?_
    unfold mvM
    rw [fstN_none (fun j hj => decide_eq_false (hn j hj)), if_pos rfl]
    rfl
  refine g_aload_n q_X10_moveOf_7 rfl ?_
  refine g_iload_n q_X10_moveOf_8 rfl ?_
  refine g_iload_n q_X10_moveOf_9 rfl ?_
  refine g_callV (rc' := 0) (rs' := 0) (As := [_, _]) cs_X10_250 q_X10_moveOf_10 (sp_next hΓ hG f k hf (by omega)) rfl (by repeat first | with_reducible assumption | with_reducible exact hput_s _ _ _ | refine (hput_n _ _ (by omega)).trans ?_ | exact hput_s _ _ _ | assumption) rfl rfl rfl rfl (Nat.le_of_ble_eq_true rfl) (by decide) (by decide) (by decide) (fun _ _ h => h.elim) (k_ri ?_)
  refine g_iload_n q_X10_moveOf_13 rfl ?_
  refine g_icmp_eq (tgt := 23) q_X10_moveOf_14 (by decide) (hr k) ht (fun b2 => ?_) (fun b2 => ?_)
  · refine fin ?_
    unfold mvM
    rw [fstN_some (k := k) (by omega) (decide_eq_true b2) (fun j hj => decide_eq_false (hn j hj)), if_neg (by omega)]
  · have hnx := ih (k + 1) ⟨by omega, fun j hj => by
      by_cases e : j = k
      · subst e; exact b2
      · exact hn j (by omega)⟩ (by omega)
    refine g_iinc (L' := [_, _, _, _]) q_X10_moveOf_17 rfl rfl ?_
    refine g_goto (tgt := 2) q_X10_moveOf_20 (by decide) ?_
    exact hnx
end MV

