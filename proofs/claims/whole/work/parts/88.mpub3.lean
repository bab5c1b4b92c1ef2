/-! the reference: octet, end -/
section MR
variable {Γ : GT} {σ σ' : AH} {m : Nat} {len : Nat} {tx : Nat → Int} {fa e0 : Int} {z : PS} {l : List (Int × Int × Int)} {wl : Nat} {wr : Nat → Int}
theorem sp_moctet (hΓ : Gd Γ) (hX : MX σ m e0 len tx fa z l wl wr) (k : Int) (hk : rg k) : Sp Γ miX10_octet 0 0 [.ref m, .int (ii k)] σ (mQ 0 (if 0 ≤ k ∧ k < wl then wr k.toNat else -1) (SM σ m 0 len tx fa z l wl wr)) noX := by
  obtain ⟨I, A, N, -, h, hW⟩ := hX
  have h0 := h.1
  obtain ⟨w1, w2, w3⟩ := hW.2.2.2.2.2.2.1
  have hM1 := h.putI (va_up I 0 ((0 : Nat) : Int))
  have h33 := h.a33
  refine Sp_of (L := [_, _]) hΓ (by decide +kernel) rfl (Nat.le_of_ble_eq_true rfl) rfl ?_
  refine g_aload_n q_X10_octet_0 rfl ?_
  refine g_iconst q_X10_octet_1 ?_
  refine g_putM fp_X10_122 q_X10_octet_2 (by repeat first | with_reducible assumption | with_reducible exact hput_s _ _ _ | refine (hput_n _ _ (by omega)).trans ?_ | exact hput_s _ _ _ | assumption) rfl rfl mset_0 ?_
  refine g_iload_n q_X10_octet_5 rfl ?_
  refine g_iconst q_X10_octet_6 ?_
  refine g_aload_n q_X10_octet_7 rfl ?_
  refine g_get fl_X10_384 q_X10_octet_8 (by repeat first | with_reducible assumption | with_reducible exact hput_s _ _ _ | refine (hput_n _ _ (by omega)).trans ?_ | exact hput_s _ _ _ | assumption) rfl ?_
  refine g_topi (b := (wl : Int)) (by exact w1) ?_
  refine g_iconst q_X10_octet_11 ?_
  refine g_isub q_X10_octet_12 ?_
  refine g_callS (rc' := 0) (rs' := 0) (As := [_, _, _]) cs_X10_229 q_X10_octet_13 (sp_isIn hΓ k 0 ((wl : Int) - 1) hk ⟨by decide, by decide⟩ (by unfold rg; omega)) rfl rfl rfl (Nat.le_of_ble_eq_true rfl) (by decide) (by decide) (by decide) (fun _ _ h => h.elim) (k_rb ?_)
  refine g_if_eq (tgt := 28) q_X10_octet_16 (by decide) (bi_rg _) (fun b1 => ?_) (fun b1 => ?_)
  · have hf := of_decide_eq_false (bi_f b1)
    refine g_iconst q_X10_octet_28 ?_
    refine g_ireturn q_X10_octet_29.1 rfl ?_
    refine ⟨?_, SM.t h hW 0⟩
    rw [if_pos rfl, if_neg (by omega)]
  · have ht := of_decide_eq_true (bi_t (show bi (decide (0 ≤ k ∧ k ≤ (wl : Int) - 1)) ≠ 0 by omega))
    obtain ⟨i, hi⟩ : ∃ i : Nat, k = i := ⟨k.toNat, by omega⟩
    subst hi
    refine g_aload_n q_X10_octet_19 rfl ?_
    refine g_get fl_X10_116 q_X10_octet_20 (by repeat first | with_reducible assumption | with_reducible exact hput_s _ _ _ | refine (hput_n _ _ (by omega)).trans ?_ | exact hput_s _ _ _ | assumption) rfl ?_
    refine g_iload_n q_X10_octet_23 rfl ?_
    refine g_iaload q_X10_octet_24 (by repeat first | with_reducible assumption | with_reducible exact hput_s _ _ _ | refine (hput_n _ _ (by omega)).trans ?_ | exact hput_s _ _ _ | assumption) (by omega) (by omega) ?_
    refine g_topi (b := A 33 i) (by rfl) ?_
    refine g_goto (tgt := 29) q_X10_octet_25 (by decide) ?_
    refine g_ireturn q_X10_octet_29.1 rfl ?_
    refine ⟨?_, SM.t h hW 0⟩
    rw [if_pos rfl, if_pos (by omega), Int.toNat_natCast, w3 i (by omega)]
theorem sp_mend (hΓ : Gd Γ) (hX : MX σ m e0 len tx fa z l wl wr) (n : Int) (hn : rg n) : Sp Γ miX10_end 0 0 [.ref m, .int (ii n)] σ (mQ 0 (bi (decide (0 ≤ n ∧ n ≤ len))) (SM σ m 0 (if 0 ≤ n ∧ n ≤ len then n.toNat else len) tx fa z l wl wr)) noX := by
  obtain ⟨I, A, N, -, h, hW⟩ := hX
  have h0 := h.1
  obtain ⟨t1, t2, t3, t4⟩ := hW.1
  have no : ¬ (0 ≤ n ∧ n ≤ len) → G Γ miX10_end cX10_end (mQ 0 (bi (decide (0 ≤ n ∧ n ≤ len))) (SM σ m 0 (if 0 ≤ n ∧ n ≤ len then n.toNat else len) tx fa z l wl wr)) noX 0 0 17 [some (.ref m), some (.int (ii n))] [] (hput σ m (mdo m (va_up I 0 0))) := fun q => by
    refine g_iconst q_X10_end_17 ?_
    refine g_zreturn q_X10_end_18.1 rfl (by first | exact Or.inl rfl | exact Or.inr rfl | omega) ?_
    rw [if_neg q, decide_eq_false q]
    exact ⟨rfl, SM.t h hW 0⟩
  refine Sp_of (L := [_, _]) hΓ (by decide +kernel) rfl (Nat.le_of_ble_eq_true rfl) rfl ?_
  refine g_aload_n q_X10_end_0 rfl ?_
  refine g_iconst q_X10_end_1 ?_
  refine g_putM fp_X10_122 q_X10_end_2 (by repeat first | with_reducible assumption | with_reducible exact hput_s _ _ _ | refine (hput_n _ _ (by omega)).trans ?_ | exact hput_s _ _ _ | assumption) rfl rfl mset_0 ?_
  refine g_iload_n q_X10_end_5 rfl ?_
  refine g_if_lt (tgt := 17) q_X10_end_6 (by decide) hn (fun b1 => ?_) (fun b1 => ?_)
  · exact no (by omega)
  refine g_iload_n q_X10_end_9 rfl ?_
  refine g_aload_n q_X10_end_10 rfl ?_
  refine g_get fl_X10_119 q_X10_end_11 (by repeat first | with_reducible assumption | with_reducible exact hput_s _ _ _ | refine (hput_n _ _ (by omega)).trans ?_ | exact hput_s _ _ _ | assumption) rfl ?_
  refine g_topi (b := (len : Int)) (by exact t1) ?_
  refine g_icmp_le (tgt := 19) q_X10_end_14 (by decide) hn (by unfold rg; omega) (fun b2 => ?_) (fun b2 => ?_)
  case refine_2 => exact no (by omega)
  have hp : 0 ≤ n ∧ n ≤ len := ⟨by omega, b2⟩
  obtain ⟨i, hi⟩ : ∃ i : Nat, n = i := ⟨n.toNat, by omega⟩
  subst hi
  refine g_aload_n q_X10_end_19 rfl ?_
  refine g_iload_n q_X10_end_20 rfl ?_
  refine g_putM fp_X10_119 q_X10_end_21 (by repeat first | with_reducible assumption | with_reducible exact hput_s _ _ _ | refine (hput_n _ _ (by omega)).trans ?_ | exact hput_s _ _ _ | assumption) rfl rfl mset_2 ?_
  refine g_iconst q_X10_end_24 ?_
  refine g_zreturn q_X10_end_25.1 rfl (by first | exact Or.inl rfl | exact Or.inr rfl | omega) ?_
  rw [if_pos hp, decide_eq_true hp, Int.toNat_natCast, hput_hput]
  have hM1 := h.putI (va_up (va_up I 0 ((0 : Nat) : Int)) 2 (i : Int))
  refine ⟨rfl, ⟨⟨va_up (va_up I 0 ((0 : Nat) : Int)) 2 (i : Int), A, N, rfl, hM1, ?_⟩, eqOff.rfl'.put ⟨by omega, by omega⟩ _⟩⟩
  obtain ⟨a1, a2, a3, a4, a5, a6, a7, a8⟩ := hW.I0 ((0 : Nat) : Int)
  exact ⟨⟨va_eq, by omega, t3, t4⟩, a2, ⟨a3.1.cg ⟨rfl, rfl, rfl⟩ rfl rfl rfl, a3.2⟩, a4, a5, a6.cg (fun k hk => va_ne (by omega)) (fun _ _ => rfl) (fun _ _ => rfl) a3.2, a7, a8⟩
end MR

