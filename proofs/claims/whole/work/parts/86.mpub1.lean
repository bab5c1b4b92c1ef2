/-! the reference: cart, cost, alone -/
section MP
variable {Γ : GT} {σ σ' : AH} {m : Nat} {I J : Nat → Int} {A A' : Nat → Nat → Int} {N : Nat → Nat → BitVec 64} {len : Nat} {tx : Nat → Int} {fa e0 : Int} {z : PS} {l : List (Int × Int × Int)} {wl : Nat} {wr : Nat → Int}
theorem sp_mcart (hΓ : Gd Γ) (hX : MX σ m e0 len tx fa z l wl wr) (c w : Int) (hc : rg c) (hw : rg w) : Sp Γ miX10_cart 0 0 [.ref m, .int (ii c), .int (ii w)] σ (mQ (eCart z c w) (if w = 0 then zPL z c.toNat else zGO z c.toNat) (SM σ m (eCart z c w) len tx fa z l wl wr)) noX := by
  obtain ⟨I, A, N, -, h, hW⟩ := hX
  have h0 := h.1
  have hz := hW.2.2.1.1
  have wf := hW.2.2.1.2
  have n5 := wf.1.1.2.2
  have h8 := h.a8
  have h9 := h.a9
  refine Sp_of (L := [_, _, _]) hΓ (by decide +kernel) rfl (Nat.le_of_ble_eq_true rfl) rfl ?_
  refine g_aload_n q_X10_cart_0 rfl ?_
  refine g_aload_n q_X10_cart_1 rfl ?_
  refine g_iload_n q_X10_cart_2 rfl ?_
  refine g_callV (rc' := 0) (rs' := 0) (As := [_]) cs_X10_237 q_X10_cart_3 (sp_isCart hΓ h0 hz.1.2.2 n5 c hc) rfl (by repeat first | with_reducible assumption | with_reducible exact hput_s _ _ _ | refine (hput_n _ _ (by omega)).trans ?_ | exact hput_s _ _ _ | assumption) rfl rfl rfl rfl (Nat.le_of_ble_eq_true rfl) (by decide) (by decide) (by decide) (fun _ _ h => h.elim) (k_rb ?_)
  refine g_if_ne (tgt := 13) q_X10_cart_6 (by decide) (bi_rg _) (fun b1 => ?_) (fun b1 => ?_)
  · have ht := of_decide_eq_true (bi_t b1)
    obtain ⟨k, hk⟩ : ∃ k : Nat, c = k := ⟨c.toNat, by omega⟩
    subst hk
    obtain ⟨p1, p2⟩ := hz.2.2.2 k (by omega)
    refine g_iload_n q_X10_cart_13 rfl ?_
    refine g_iconst q_X10_cart_14 ?_
    refine g_iconst q_X10_cart_15 ?_
    refine g_callS (rc' := 0) (rs' := 0) (As := [_, _, _]) cs_X10_229 q_X10_cart_16 (sp_isIn hΓ w 0 1 hw ⟨by decide, by decide⟩ ⟨by decide, by decide⟩) rfl rfl rfl (Nat.le_of_ble_eq_true rfl) (by decide) (by decide) (by decide) (fun _ _ h => h.elim) (k_rb ?_)
    refine g_if_ne (tgt := 26) q_X10_cart_19 (by decide) (bi_rg _) (fun b2 => ?_) (fun b2 => ?_)
    · have hw1 := of_decide_eq_true (bi_t b2)
      have e1 : eCart z k w = 0 := by unfold eCart; rw [if_neg (by omega), if_pos (by omega)]
      refine g_iconst q_X10_cart_26 ?_
      refine g_putM fp_X10_122 q_X10_cart_27 (by repeat first | with_reducible assumption | with_reducible exact hput_s _ _ _ | refine (hput_n _ _ (by omega)).trans ?_ | exact hput_s _ _ _ | assumption) rfl rfl mset_0 ?_
      refine g_aload_n q_X10_cart_30 rfl ?_
      refine g_get fl_X10_122 q_X10_cart_31 (by repeat first | with_reducible assumption | with_reducible exact hput_s _ _ _ | refine (hput_n _ _ (by omega)).trans ?_ | exact hput_s _ _ _ | assumption) rfl ?_
      refine g_topi (b := (0 : Int)) (by rfl) ?_
      refine g_if_le (tgt := 41) q_X10_cart_34 (by decide) ⟨by omega, by omega⟩ (fun b3 => ?_) (fun b3 => ?_)
      case refine_2 => exact absurd b3 (by decide)
      refine g_iload_n q_X10_cart_41 rfl ?_
      refine g_if_ne (tgt := 54) q_X10_cart_42 (by decide) ⟨by omega, by omega⟩ (fun b4 => ?_) (fun b4 => ?_)
      · refine g_aload_n q_X10_cart_54 rfl ?_
        refine g_get fl_X10_39 q_X10_cart_55 (by repeat first | with_reducible assumption | with_reducible exact hput_s _ _ _ | refine (hput_n _ _ (by omega)).trans ?_ | exact hput_s _ _ _ | assumption) rfl ?_
        refine g_iload_n q_X10_cart_58 rfl ?_
        refine g_iaload q_X10_cart_59 (by repeat first | with_reducible assumption | with_reducible exact hput_s _ _ _ | refine (hput_n _ _ (by omega)).trans ?_ | exact hput_s _ _ _ | assumption) (by omega) (by omega) ?_
        refine g_topi (b := A 9 k) (by rfl) ?_
        refine g_ireturn q_X10_cart_60.1 rfl ?_
        rw [e1]
        refine ⟨?_, SM.t h hW 0⟩
        rw [if_pos rfl, if_neg b4, Int.toNat_natCast, p2]
      · refine g_aload_n q_X10_cart_45 rfl ?_
        refine g_get fl_X10_36 q_X10_cart_46 (by repeat first | with_reducible assumption | with_reducible exact hput_s _ _ _ | refine (hput_n _ _ (by omega)).trans ?_ | exact hput_s _ _ _ | assumption) rfl ?_
        refine g_iload_n q_X10_cart_49 rfl ?_
        refine g_iaload q_X10_cart_50 (by repeat first | with_reducible assumption | with_reducible exact hput_s _ _ _ | refine (hput_n _ _ (by omega)).trans ?_ | exact hput_s _ _ _ | assumption) (by omega) (by omega) ?_
        refine g_topi (b := A 8 k) (by rfl) ?_
        refine g_goto (tgt := 60) q_X10_cart_51 (by decide) ?_
        refine g_ireturn q_X10_cart_60.1 rfl ?_
        rw [e1]
        refine ⟨?_, SM.t h hW 0⟩
        rw [if_pos rfl, if_pos (by omega), Int.toNat_natCast, p1]
    · have hw1 := of_decide_eq_false (bi_f (show bi (decide (0 ≤ w ∧ w ≤ 1)) = 0 by omega))
      have e1 : eCart z k w = 2 := by unfold eCart; rw [if_neg (by omega), if_neg (by omega)]
      refine g_iconst q_X10_cart_22 ?_
      refine g_goto (tgt := 27) q_X10_cart_23 (by decide) ?_
      refine g_putM fp_X10_122 q_X10_cart_27 (by repeat first | with_reducible assumption | with_reducible exact hput_s _ _ _ | refine (hput_n _ _ (by omega)).trans ?_ | exact hput_s _ _ _ | assumption) rfl rfl mset_0 ?_
      refine g_aload_n q_X10_cart_30 rfl ?_
      refine g_get fl_X10_122 q_X10_cart_31 (by repeat first | with_reducible assumption | with_reducible exact hput_s _ _ _ | refine (hput_n _ _ (by omega)).trans ?_ | exact hput_s _ _ _ | assumption) rfl ?_
      refine g_topi (b := (2 : Int)) (by rfl) ?_
      refine g_if_le (tgt := 41) q_X10_cart_34 (by decide) ⟨by omega, by omega⟩ (fun b3 => ?_) (fun b3 => ?_)
      case refine_1 => exact absurd b3 (by decide)
      refine g_iconst q_X10_cart_37 ?_
      refine g_goto (tgt := 60) q_X10_cart_38 (by decide) ?_
      refine g_ireturn q_X10_cart_60.1 rfl ?_
      rw [e1]
      exact ⟨rfl, SM.t h hW 2⟩
  · have hf := of_decide_eq_false (bi_f (show bi (decide (0 ≤ c ∧ c < zCa z)) = 0 by omega))
    have e1 : eCart z c w = 1 := if_pos hf
    refine g_iconst q_X10_cart_9 ?_
    refine g_goto (tgt := 27) q_X10_cart_10 (by decide) ?_
    refine g_putM fp_X10_122 q_X10_cart_27 (by repeat first | with_reducible assumption | with_reducible exact hput_s _ _ _ | refine (hput_n _ _ (by omega)).trans ?_ | exact hput_s _ _ _ | assumption) rfl rfl mset_0 ?_
    refine g_aload_n q_X10_cart_30 rfl ?_
    refine g_get fl_X10_122 q_X10_cart_31 (by repeat first | with_reducible assumption | with_reducible exact hput_s _ _ _ | refine (hput_n _ _ (by omega)).trans ?_ | exact hput_s _ _ _ | assumption) rfl ?_
    refine g_topi (b := (1 : Int)) (by rfl) ?_
    refine g_if_le (tgt := 41) q_X10_cart_34 (by decide) ⟨by omega, by omega⟩ (fun b3 => ?_) (fun b3 => ?_)
    case refine_1 => exact absurd b3 (by decide)
    refine g_iconst q_X10_cart_37 ?_
    refine g_goto (tgt := 60) q_X10_cart_38 (by decide) ?_
    refine g_ireturn q_X10_cart_60.1 rfl ?_
    rw [e1]
    exact ⟨rfl, SM.t h hW 1⟩
/-- behind frees and laysWay all that has a meaning is as it was -/
theorem MW.lw (hW : MW I A N len tx fa z l wl wr) {B : Nat → Nat → Int} (hB : ∀ k, k < 13 ∨ 16 ≤ k → B k = va_up (va_up A 11 fun _ => 0) 12 (fun _ => 0) k) : MW I B N len tx fa z l wl wr := by
  have h1 : ∀ k, k ≤ 10 ∨ 16 ≤ k → B k = A k := fun k hk => by rw [hB k (by omega), va_ne (by omega), va_ne (by omega)]
  exact hW.cg (fun _ _ _ => rfl) (fun k hk => h1 k (by omega)) (fun i _ => by rw [h1 16 (by omega)]) (by rw [h1 16 (by omega)]; exact hW.2.2.2.2.2.2.2)
theorem MZ.fr (hz : MZ I A z) : MZ I (va_up (va_up A 11 fun _ => 0) 12 fun _ => 0) z := hz.cg ⟨rfl, rfl, rfl⟩ rfl rfl rfl
theorem SM.lw {τ τ1 : AH} (hW : MW I A N len tx fa z l wl wr) {e : Nat} (hE : eqOff (hput σ m (mdo m (va_up I 0 e))) τ (inb (m + 11) 2)) (hE1 : eqOff τ τ1 (inb (m + 13) 3)) {B : Nat → Nat → Int} (hM : MC τ1 m (va_up I 0 e) B N) (hB : ∀ k, k < 13 ∨ 16 ≤ k → B k = va_up (va_up A 11 fun _ => 0) 12 (fun _ => 0) k) : SM σ m e len tx fa z l wl wr τ1 := ⟨⟨_, B, N, va_eq, hM, (hW.I0 e).lw hB⟩, ((eqOff.rfl'.put (a := m) ⟨by omega, by omega⟩ _).trans hE (fun a i => by unfold inb at *; omega)).trans hE1 (fun a i => by unfold inb at *; omega)⟩
theorem sp_mcost (hΓ : Gd Γ) (hX : MX σ m e0 len tx fa z l wl wr) (c : Int) (hc : rg c) : Sp Γ miX10_cost 0 0 [.ref m, .int (ii c)] σ (mQ (e1C z c) (alcZ z c.toNat) (SM σ m (e1C z c) len tx fa z l wl wr)) noX := by
  obtain ⟨I, A, N, -, h, hW⟩ := hX
  have h0 := h.1
  have hz := hW.2.2.1.1
  have wf := hW.2.2.1.2
  have n5 := wf.1.1.2.2
  refine Sp_of (L := [_, _]) hΓ (by decide +kernel) rfl (Nat.le_of_ble_eq_true rfl) rfl ?_
  refine g_aload_n q_X10_cost_0 rfl ?_
  refine g_aload_n q_X10_cost_1 rfl ?_
  refine g_iload_n q_X10_cost_2 rfl ?_
  refine g_callV (rc' := 0) (rs' := 0) (As := [_]) cs_X10_237 q_X10_cost_3 (sp_isCart hΓ h0 hz.1.2.2 n5 c hc) rfl (by repeat first | with_reducible assumption | with_reducible exact hput_s _ _ _ | refine (hput_n _ _ (by omega)).trans ?_ | exact hput_s _ _ _ | assumption) rfl rfl rfl rfl (Nat.le_of_ble_eq_true rfl) (by decide) (by decide) (by decide) (fun _ _ h => h.elim) (k_rb ?_)
  refine g_if_eq (tgt := 13) q_X10_cost_6 (by decide) (bi_rg _) (fun b1 => ?_) (fun b1 => ?_)
  · have hf := of_decide_eq_false (bi_f b1)
    have e1 : e1C z c = 1 := if_neg hf
    refine g_iconst q_X10_cost_13 ?_
    refine g_putM fp_X10_122 q_X10_cost_14 (by repeat first | with_reducible assumption | with_reducible exact hput_s _ _ _ | refine (hput_n _ _ (by omega)).trans ?_ | exact hput_s _ _ _ | assumption) rfl rfl mset_0 ?_
    refine g_aload_n q_X10_cost_17 rfl ?_
    refine g_get fl_X10_122 q_X10_cost_18 (by repeat first | with_reducible assumption | with_reducible exact hput_s _ _ _ | refine (hput_n _ _ (by omega)).trans ?_ | exact hput_s _ _ _ | assumption) rfl ?_
    refine g_topi (b := (1 : Int)) (by rfl) ?_
    refine g_if_le (tgt := 26) q_X10_cost_21 (by decide) ⟨by omega, by omega⟩ (fun b2 => ?_) (fun b2 => ?_)
    case refine_1 => exact absurd b2 (by decide)
    refine g_iconst q_X10_cost_24 ?_
    refine g_ireturn q_X10_cost_25.1 rfl ?_
    rw [e1]
    exact ⟨rfl, SM.t h hW 1⟩
  · have ht := of_decide_eq_true (bi_t (show bi (decide (0 ≤ c ∧ c < zCa z)) ≠ 0 by omega))
    obtain ⟨k, hk⟩ : ∃ k : Nat, c = k := ⟨c.toNat, by omega⟩
    subst hk
    have e1 : e1C z k = 0 := if_pos ht
    have hM1 := h.putI (va_up I 0 ((0 : Nat) : Int))
    refine g_iconst q_X10_cost_9 ?_
    refine g_goto (tgt := 14) q_X10_cost_10 (by decide) ?_
    refine g_putM fp_X10_122 q_X10_cost_14 (by repeat first | with_reducible assumption | with_reducible exact hput_s _ _ _ | refine (hput_n _ _ (by omega)).trans ?_ | exact hput_s _ _ _ | assumption) rfl rfl mset_0 ?_
    refine g_aload_n q_X10_cost_17 rfl ?_
    refine g_get fl_X10_122 q_X10_cost_18 (by repeat first | with_reducible assumption | with_reducible exact hput_s _ _ _ | refine (hput_n _ _ (by omega)).trans ?_ | exact hput_s _ _ _ | assumption) rfl ?_
    refine g_topi (b := (0 : Int)) (by rfl) ?_
    refine g_if_le (tgt := 26) q_X10_cost_21 (by decide) ⟨by omega, by omega⟩ (fun b2 => ?_) (fun b2 => ?_)
    case refine_2 => exact absurd b2 (by decide)
    refine g_aload_n q_X10_cost_26 rfl ?_
    refine g_callV (rc' := 0) (rs' := 0) (As := []) cs_X10_257 q_X10_cost_27 (sp_freesM hΓ hM1) rfl (by repeat first | with_reducible assumption | with_reducible exact hput_s _ _ _ | refine (hput_n _ _ (by omega)).trans ?_ | exact hput_s _ _ _ | assumption) rfl rfl rfl rfl (Nat.le_of_ble_eq_true rfl) (by decide) (by decide) (by decide) (fun _ _ h => h.elim) (fun v τ hq => ?_)
    obtain ⟨rfl, hE, hM2⟩ := hq
    have h02 := hM2.1
    refine g_aload_n q_X10_cost_30 rfl ?_
    refine g_iload_n q_X10_cost_31 rfl ?_
    refine g_callV (rc' := 0) (rs' := 0) (As := [_]) cs_X10_260 q_X10_cost_32 (sp_laysWayM hΓ hM2 (hW.I0 _).2.2.1.1.fr wf rfl rfl (by omega)) rfl (by repeat first | with_reducible assumption | with_reducible exact hput_s _ _ _ | refine (hput_n _ _ (by omega)).trans ?_ | exact hput_s _ _ _ | assumption) rfl rfl rfl rfl (Nat.le_of_ble_eq_true rfl) (by decide) (by decide) (by decide) (fun _ _ h => h.elim) (fun v τ1 hq => ?_)
    obtain ⟨rfl, hE1, B, hM3, hB, -⟩ := hq
    refine g_ireturn q_X10_cost_35.1 rfl ?_
    rw [e1]
    exact ⟨rfl, SM.lw hW hE hE1 hM3 hB⟩
theorem sp_malone (hΓ : Gd Γ) (hX : MX σ m e0 len tx fa z l wl wr) (c t : Int) (hc : rg c) (ht : rg t) : Sp Γ miX10_alone 0 0 [.ref m, .int (ii c), .int (ii t)] σ (mQ (eAlone z c t) (if alcZ z c.toNat = -1 then -1 else alPZ z (41 * c + t).toNat) (SM σ m (eAlone z c t) len tx fa z l wl wr)) noX := by
  obtain ⟨I, A, N, -, h, hW⟩ := hX
  have h0 := h.1
  have hz := hW.2.2.1.1
  have wf := hW.2.2.1.2
  have n5 := wf.1.1.2.2
  refine Sp_of (L := [_, _, _]) hΓ (by decide +kernel) rfl (Nat.le_of_ble_eq_true rfl) rfl ?_
  refine g_aload_n q_X10_alone_0 rfl ?_
  refine g_aload_n q_X10_alone_1 rfl ?_
  refine g_iload_n q_X10_alone_2 rfl ?_
  refine g_callV (rc' := 0) (rs' := 0) (As := [_]) cs_X10_237 q_X10_alone_3 (sp_isCart hΓ h0 hz.1.2.2 n5 c hc) rfl (by repeat first | with_reducible assumption | with_reducible exact hput_s _ _ _ | refine (hput_n _ _ (by omega)).trans ?_ | exact hput_s _ _ _ | assumption) rfl rfl rfl rfl (Nat.le_of_ble_eq_true rfl) (by decide) (by decide) (by decide) (fun _ _ h => h.elim) (k_rb ?_)
  refine g_if_ne (tgt := 13) q_X10_alone_6 (by decide) (bi_rg _) (fun b1 => ?_) (fun b1 => ?_)
  case refine_2 =>
    have hf := of_decide_eq_false (bi_f (show bi (decide (0 ≤ c ∧ c < zCa z)) = 0 by omega))
    have e1 : eAlone z c t = 1 := if_pos hf
    refine g_iconst q_X10_alone_9 ?_
    refine g_goto (tgt := 28) q_X10_alone_10 (by decide) ?_
    refine g_putM fp_X10_122 q_X10_alone_28 (by repeat first | with_reducible assumption | with_reducible exact hput_s _ _ _ | refine (hput_n _ _ (by omega)).trans ?_ | exact hput_s _ _ _ | assumption) rfl rfl mset_0 ?_
    refine g_aload_n q_X10_alone_31 rfl ?_
    refine g_get fl_X10_122 q_X10_alone_32 (by repeat first | with_reducible assumption | with_reducible exact hput_s _ _ _ | refine (hput_n _ _ (by omega)).trans ?_ | exact hput_s _ _ _ | assumption) rfl ?_
    refine g_topi (b := (1 : Int)) (by rfl) ?_
    refine g_if_le (tgt := 40) q_X10_alone_35 (by decide) ⟨by omega, by omega⟩ (fun b2 => ?_) (fun b2 => ?_)
    case refine_1 => exact absurd b2 (by decide)
    refine g_iconst q_X10_alone_38 ?_
    refine g_ireturn q_X10_alone_39.1 rfl ?_
    rw [e1]
    exact ⟨rfl, SM.t h hW 1⟩
  have hc1 := of_decide_eq_true (bi_t b1)
  obtain ⟨k, hk⟩ : ∃ k : Nat, c = k := ⟨c.toNat, by omega⟩
  subst hk
  refine g_iload_n q_X10_alone_13 rfl ?_
  refine g_iconst q_X10_alone_14 ?_
  refine g_bipush q_X10_alone_15 bp_40 ?_
  refine g_callS (rc' := 0) (rs' := 0) (As := [_, _, _]) cs_X10_229 q_X10_alone_17 (sp_isIn hΓ t 0 40 ht ⟨by decide, by decide⟩ ⟨by decide, by decide⟩) rfl rfl rfl (Nat.le_of_ble_eq_true rfl) (by decide) (by decide) (by decide) (fun _ _ h => h.elim) (k_rb ?_)
  refine g_if_ne (tgt := 27) q_X10_alone_20 (by decide) (bi_rg _) (fun b2 => ?_) (fun b2 => ?_)
  case refine_2 =>
    have hf := of_decide_eq_false (bi_f (show bi (decide (0 ≤ t ∧ t ≤ 40)) = 0 by omega))
    have e1 : eAlone z k t = 2 := by unfold eAlone; rw [if_neg (by omega), if_pos hf]
    refine g_iconst q_X10_alone_23 ?_
    refine g_goto (tgt := 28) q_X10_alone_24 (by decide) ?_
    refine g_putM fp_X10_122 q_X10_alone_28 (by repeat first | with_reducible assumption | with_reducible exact hput_s _ _ _ | refine (hput_n _ _ (by omega)).trans ?_ | exact hput_s _ _ _ | assumption) rfl rfl mset_0 ?_
    refine g_aload_n q_X10_alone_31 rfl ?_
    refine g_get fl_X10_122 q_X10_alone_32 (by repeat first | with_reducible assumption | with_reducible exact hput_s _ _ _ | refine (hput_n _ _ (by omega)).trans ?_ | exact hput_s _ _ _ | assumption) rfl ?_
    refine g_topi (b := (2 : Int)) (by rfl) ?_
    refine g_if_le (tgt := 40) q_X10_alone_35 (by decide) ⟨by omega, by omega⟩ (fun b3 => ?_) (fun b3 => ?_)
    case refine_1 => exact absurd b3 (by decide)
    refine g_iconst q_X10_alone_38 ?_
    refine g_ireturn q_X10_alone_39.1 rfl ?_
    rw [e1]
    exact ⟨rfl, SM.t h hW 2⟩
  have ht1 := of_decide_eq_true (bi_t b2)
  obtain ⟨u, hu⟩ : ∃ u : Nat, t = u := ⟨t.toNat, by omega⟩
  subst hu
  have e1 : eAlone z k u = 0 := by unfold eAlone; rw [if_neg (by omega), if_neg (by omega)]
  have hM1 := h.putI (va_up I 0 ((0 : Nat) : Int))
  refine g_iconst q_X10_alone_27 ?_
  refine g_putM fp_X10_122 q_X10_alone_28 (by repeat first | with_reducible assumption | with_reducible exact hput_s _ _ _ | refine (hput_n _ _ (by omega)).trans ?_ | exact hput_s _ _ _ | assumption) rfl rfl mset_0 ?_
  refine g_aload_n q_X10_alone_31 rfl ?_
  refine g_get fl_X10_122 q_X10_alone_32 (by repeat first | with_reducible assumption | with_reducible exact hput_s _ _ _ | refine (hput_n _ _ (by omega)).trans ?_ | exact hput_s _ _ _ | assumption) rfl ?_
  refine g_topi (b := (0 : Int)) (by rfl) ?_
  refine g_if_le (tgt := 40) q_X10_alone_35 (by decide) ⟨by omega, by omega⟩ (fun b3 => ?_) (fun b3 => ?_)
  case refine_2 => exact absurd b3 (by decide)
  refine g_aload_n q_X10_alone_40 rfl ?_
  refine g_callV (rc' := 0) (rs' := 0) (As := []) cs_X10_257 q_X10_alone_41 (sp_freesM hΓ hM1) rfl (by repeat first | with_reducible assumption | with_reducible exact hput_s _ _ _ | refine (hput_n _ _ (by omega)).trans ?_ | exact hput_s _ _ _ | assumption) rfl rfl rfl rfl (Nat.le_of_ble_eq_true rfl) (by decide) (by decide) (by decide) (fun _ _ h => h.elim) (fun v τ hq => ?_)
  obtain ⟨rfl, hE, hM2⟩ := hq
  have h02 := hM2.1
  refine g_aload_n q_X10_alone_44 rfl ?_
  refine g_iload_n q_X10_alone_45 rfl ?_
  refine g_callV (rc' := 0) (rs' := 0) (As := [_]) cs_X10_260 q_X10_alone_46 (sp_laysWayM hΓ hM2 (hW.I0 _).2.2.1.1.fr wf rfl rfl (by omega)) rfl (by repeat first | with_reducible assumption | with_reducible exact hput_s _ _ _ | refine (hput_n _ _ (by omega)).trans ?_ | exact hput_s _ _ _ | assumption) rfl rfl rfl rfl (Nat.le_of_ble_eq_true rfl) (by decide) (by decide) (by decide) (fun _ _ h => h.elim) (fun v τ1 hq => ?_)
  obtain ⟨rfl, hE1, B, hM3, hB, hw⟩ := hq
  have h03 := hM3.1
  have h15 := hM3.a15
  have hS : SM σ m 0 len tx fa z l wl wr τ1 := SM.lw hW hE hE1 hM3 hB
  have hlr : rg (alcZ z k) := by
    have e9 : -1 ≤ alcZ z k ∧ alcZ z k ≤ 40 := lcs_rg (lvZ z) (fun _ => 0) (fun _ => 0) (zPL z k).toNat (zGO z k).toNat
    unfold rg
    omega
  refine g_iconst q_X10_alone_49 ?_
  refine g_icmp_ne (tgt := 57) q_X10_alone_50 (by decide) hlr ⟨by omega, by omega⟩ (fun b4 => ?_) (fun b4 => ?_)
  · have hw2 := hw b4 u (by omega)
    refine g_aload_n q_X10_alone_57 rfl ?_
    refine g_get fl_X10_58 q_X10_alone_58 (by repeat first | with_reducible assumption | with_reducible exact hput_s _ _ _ | refine (hput_n _ _ (by omega)).trans ?_ | exact hput_s _ _ _ | assumption) rfl ?_
    refine g_iload_n q_X10_alone_61 rfl ?_
    refine g_iaload q_X10_alone_62 (by repeat first | with_reducible assumption | with_reducible exact hput_s _ _ _ | refine (hput_n _ _ (by omega)).trans ?_ | exact hput_s _ _ _ | assumption) (by omega) (by omega) ?_
    refine g_topi (b := B 15 u) (by rfl) ?_
    refine g_ireturn q_X10_alone_63.1 rfl ?_
    rw [e1]
    refine ⟨?_, hS⟩
    rw [if_pos rfl, Int.toNat_natCast, if_neg b4, hw2, show (41 * (k : Int) + u).toNat = 41 * k + u by omega]
    show _ = some (Value.int (ii (alw (lvZ z) (zPL z) (zGO z) ((41 * k + u) / 41) ((41 * k + u) % 41))))
    rw [show (41 * k + u) / 41 = k by omega, show (41 * k + u) % 41 = u by omega]
  · refine g_iconst q_X10_alone_53 ?_
    refine g_goto (tgt := 63) q_X10_alone_54 (by decide) ?_
    refine g_ireturn q_X10_alone_63.1 rfl ?_
    rw [e1]
    refine ⟨?_, hS⟩
    rw [if_pos rfl, Int.toNat_natCast, if_pos (by omega)]
end MP

