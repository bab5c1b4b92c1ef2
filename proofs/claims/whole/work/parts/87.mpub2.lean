/-! the reference: clash -/
section MQ
variable {Γ : GT} {σ σ' : AH} {m : Nat} {I J : Nat → Int} {A A' : Nat → Nat → Int} {N : Nat → Nat → BitVec 64} {len : Nat} {tx : Nat → Int} {fa e0 : Int} {z : PS} {l : List (Int × Int × Int)} {wl : Nat} {wr : Nat → Int}
theorem MW.la (hW : MW I A N len tx fa z l wl wr) {n : Nat} (h : laI z A A' 302 n) : MW I A' N len tx fa z l wl wr := hW.cg (fun _ _ _ => rfl) (fun k hk => h.1 k (by omega)) (fun i hi => h.2.2.2.1 i (by omega)) (h.2.2.2.2.2 hW.2.2.2.2.2.2.2)
/-- other scalars of no meaning -/
theorem MW.upC (hW : MW I A N len tx fa z l wl wr) (t s a b : Nat) : MW (up4 I t s a b) A N len tx fa z l wl wr := hW.cg (fun k _ hk => by unfold up4; rw [va_ne (by omega), va_ne (by omega), va_ne (by omega), va_ne (by omega)]) (fun _ _ => rfl) (fun _ _ => rfl) hW.2.2.2.2.2.2.2
theorem sp_mclash (hΓ : Gd Γ) (hX : MX σ m e0 len tx fa z l wl wr) (w : Int) (hw : rg w) : Sp Γ miX10_clash 0 0 [.ref m, .int (ii w)] σ (mQ (eClash z w) (aClash z w) (SM σ m (eClash z w) len tx fa z l wl wr)) noX := by
  obtain ⟨I, A, N, -, h, hW⟩ := hX
  have h0 := h.1
  have hz := hW.2.2.1.1
  have wf := hW.2.2.1.2
  have n5 := wf.1.1.2.2
  refine Sp_of (L := [_, _, _]) hΓ (by decide +kernel) rfl (Nat.le_of_ble_eq_true rfl) rfl ?_
  refine g_aload_n q_X10_clash_0 rfl ?_
  refine g_iload_n q_X10_clash_1 rfl ?_
  refine g_iconst q_X10_clash_2 ?_
  refine g_iconst q_X10_clash_3 ?_
  refine g_callS (rc' := 0) (rs' := 0) (As := [_, _, _]) cs_X10_229 q_X10_clash_4 (sp_isIn hΓ w 0 4 hw ⟨by decide, by decide⟩ ⟨by decide, by decide⟩) rfl rfl rfl (Nat.le_of_ble_eq_true rfl) (by decide) (by decide) (by decide) (fun _ _ h => h.elim) (k_rb ?_)
  refine g_if_ne (tgt := 14) q_X10_clash_7 (by decide) (bi_rg _) (fun b1 => ?_) (fun b1 => ?_)
  case refine_2 =>
    have hf := of_decide_eq_false (bi_f (show bi (decide (0 ≤ w ∧ w ≤ 4)) = 0 by omega))
    have e1 : eClash z w = 1 := if_pos hf
    refine g_iconst q_X10_clash_10 ?_
    refine g_goto (tgt := 29) q_X10_clash_11 (by decide) ?_
    refine g_putM fp_X10_122 q_X10_clash_29 (by repeat first | with_reducible assumption | with_reducible exact hput_s _ _ _ | refine (hput_n _ _ (by omega)).trans ?_ | exact hput_s _ _ _ | assumption) rfl rfl mset_0 ?_
    refine g_aload_n q_X10_clash_32 rfl ?_
    refine g_get fl_X10_122 q_X10_clash_33 (by repeat first | with_reducible assumption | with_reducible exact hput_s _ _ _ | refine (hput_n _ _ (by omega)).trans ?_ | exact hput_s _ _ _ | assumption) rfl ?_
    refine g_topi (b := (1 : Int)) (by rfl) ?_
    refine g_if_le (tgt := 41) q_X10_clash_36 (by decide) ⟨by omega, by omega⟩ (fun b2 => ?_) (fun b2 => ?_)
    case refine_1 => exact absurd b2 (by decide)
    refine g_iconst q_X10_clash_39 ?_
    refine g_ireturn q_X10_clash_40.1 rfl ?_
    rw [e1]
    exact ⟨rfl, SM.t h hW 1⟩
  have hw4 := of_decide_eq_true (bi_t b1)
  refine g_aload_n q_X10_clash_14 rfl ?_
  refine g_sipush q_X10_clash_15 sp_302 ?_
  refine g_callV (rc' := 0) (rs' := 0) (As := [_]) cs_X10_290 q_X10_clash_18 (sp_laysAlone hΓ h hz wf 302 (by omega)) rfl (by repeat first | with_reducible assumption | with_reducible exact hput_s _ _ _ | refine (hput_n _ _ (by omega)).trans ?_ | exact hput_s _ _ _ | assumption) rfl rfl rfl rfl (Nat.le_of_ble_eq_true rfl) (by decide) (by decide) (by decide) (fun _ _ h => h.elim) (fun v τ hq => ?_)
  obtain ⟨rfl, hE, B, n, hM, hI, hn⟩ := hq
  have h02 := hM.1
  have hWB := hW.la hI
  have hS : ∀ (e : Nat) {τ' : AH}, SM τ m e len tx fa z l wl wr τ' → SM σ m e len tx fa z l wl wr τ' := fun e τ' q => ⟨q.1, (eqOff.rfl'.trans hE (fun a i => by unfold inb at *; omega)).trans q.2 (fun a i => i)⟩
  refine g_if_ne (tgt := 28) q_X10_clash_21 (by decide) (bi_rg _) (fun b2 => ?_) (fun b2 => ?_)
  case refine_2 =>
    have hf := bi_f (show bi (allZ z) = 0 by omega)
    have e1 : eClash z w = 2 := by unfold eClash; rw [if_neg (by omega), if_pos hf]
    refine g_iconst q_X10_clash_24 ?_
    refine g_goto (tgt := 29) q_X10_clash_25 (by decide) ?_
    refine g_putM fp_X10_122 q_X10_clash_29 (by repeat first | with_reducible assumption | with_reducible exact hput_s _ _ _ | refine (hput_n _ _ (by omega)).trans ?_ | exact hput_s _ _ _ | assumption) rfl rfl mset_0 ?_
    refine g_aload_n q_X10_clash_32 rfl ?_
    refine g_get fl_X10_122 q_X10_clash_33 (by repeat first | with_reducible assumption | with_reducible exact hput_s _ _ _ | refine (hput_n _ _ (by omega)).trans ?_ | exact hput_s _ _ _ | assumption) rfl ?_
    refine g_topi (b := (2 : Int)) (by rfl) ?_
    refine g_if_le (tgt := 41) q_X10_clash_36 (by decide) ⟨by omega, by omega⟩ (fun b3 => ?_) (fun b3 => ?_)
    case refine_1 => exact absurd b3 (by decide)
    refine g_iconst q_X10_clash_39 ?_
    refine g_ireturn q_X10_clash_40.1 rfl ?_
    rw [e1]
    exact ⟨rfl, hS 2 (SM.t hM hWB 2)⟩
  have hall := bi_t b2
  have e1 : eClash z w = 0 := by unfold eClash; rw [if_neg (by omega), if_neg (by rw [hall]; decide)]
  have hn' := hn hall
  subst hn'
  have hM1 := hM.putI (va_up I 0 ((0 : Nat) : Int))
  have h03 := hM1.1
  refine g_iconst q_X10_clash_28 ?_
  refine g_putM fp_X10_122 q_X10_clash_29 (by repeat first | with_reducible assumption | with_reducible exact hput_s _ _ _ | refine (hput_n _ _ (by omega)).trans ?_ | exact hput_s _ _ _ | assumption) rfl rfl mset_0 ?_
  refine g_aload_n q_X10_clash_32 rfl ?_
  refine g_get fl_X10_122 q_X10_clash_33 (by repeat first | with_reducible assumption | with_reducible exact hput_s _ _ _ | refine (hput_n _ _ (by omega)).trans ?_ | exact hput_s _ _ _ | assumption) rfl ?_
  refine g_topi (b := (0 : Int)) (by rfl) ?_
  refine g_if_le (tgt := 41) q_X10_clash_36 (by decide) ⟨by omega, by omega⟩ (fun b3 => ?_) (fun b3 => ?_)
  case refine_2 => exact absurd b3 (by decide)
  refine g_aload_n q_X10_clash_41 rfl ?_
  refine g_sipush q_X10_clash_42 sp_302 ?_
  refine g_callV (rc' := 0) (rs' := 0) (As := [_]) cs_X10_293 q_X10_clash_45 (sp_laysClashes hΓ h03 hM1.a16 (hI.2.2.2.2.2 hW.2.2.2.2.2.2.2) 302 (zCa z) (by omega) n5 hz.1.2.2) rfl (by repeat first | with_reducible assumption | with_reducible exact hput_s _ _ _ | refine (hput_n _ _ (by omega)).trans ?_ | exact hput_s _ _ _ | assumption) rfl rfl rfl rfl (Nat.le_of_ble_eq_true rfl) (by decide) (by decide) (by decide) (fun _ _ h => h.elim) (fun v τ1 hq => ?_)
  obtain ⟨rfl, I', rfl, hcl⟩ := hq
  obtain ⟨P, hP⟩ : ∃ P : Nat → Int, P = fun i => B 16 (205 * 302 + i) := ⟨_, rfl⟩
  rw [← hP] at hcl ⊢
  have hPa : ∀ i, i < 41 * zCa z → P i = alPZ z i := fun i hi => by
    rw [hP]
    have := (hI.2.2.2.2.1 (i / 41) (by omega)).2 (i % 41) (by omega)
    show B 16 (205 * 302 + i) = alw (lvZ z) (zPL z) (zGO z) (i / 41) (i % 41)
    rw [← this, show 41 * (i / 41) + i % 41 = i by omega]
  obtain ⟨hcc, hfc⟩ := cl_al wf hall hPa
  rw [hcc] at hcl ⊢
  have hcr : 0 ≤ ccZ z ∧ ccZ z ≤ 1000 := ccN_rg _ n5 (by have := (okW_al wf hall).last.1; exact this)
  have hWI : MW I' B N len tx fa z l wl wr ∧ I' 0 = ((0 : Nat) : Int) := by
    rcases hcl.2 with ⟨-, q, -⟩ | ⟨-, t0, s0, a0, b0, -, q⟩
    · rw [q]; exact ⟨hWB.I0 _, va_eq⟩
    · rw [q]; exact ⟨(hWB.I0 _).upC _ _ _ _, rfl⟩
  have hfin : SM σ m 0 len tx fa z l wl wr (hput (hput τ m (mdo m (va_up I 0 ((0 : Nat) : Int)))) m (mdo m I')) := hS 0 ⟨⟨I', B, N, hWI.2, hM1.putI I', hWI.1⟩, (eqOff.rfl'.put ⟨by omega, by omega⟩ _).put ⟨by omega, by omega⟩ _⟩
  have hI1 : ccZ z ≠ 0 → I' 28 = (((fcl (alPZ z) (zCa z) (mxZ z)).1 + 1 : Nat) : Int) ∧ I' 29 = (fcl (alPZ z) (zCa z) (mxZ z)).2.1 ∧ I' 30 = ((fcl (alPZ z) (zCa z) (mxZ z)).2.2.1 : Int) ∧ I' 31 = ((fcl (alPZ z) (zCa z) (mxZ z)).2.2.2 : Int) := fun q0 => by
    rcases hcl.2 with ⟨q, -, -⟩ | ⟨-, t0, s0, a0, b0, q1, q2⟩
    · exact absurd q q0
    · obtain ⟨q3, q4⟩ := hfc t0 s0 a0 b0 q1
      rw [q3, q2]
      refine ⟨?_, rfl, rfl, rfl⟩
      show (t0 : Int) = ((t0 - 1 + 1 : Nat) : Int)
      omega
  clear hcl
  rw [e1]
  unfold mQ
  rw [if_pos rfl]
  refine g_istore_n (L' := [_, _, _]) q_X10_clash_48 (by decide) rfl ?_
  refine g_iload_n q_X10_clash_49 rfl ?_
  refine g_if_ne (tgt := 55) q_X10_clash_50 (by decide) ⟨by omega, by omega⟩ (fun b4 => ?_) (fun b4 => ?_)
  case refine_2 =>
    refine g_iload_n q_X10_clash_53 rfl ?_
    refine g_ireturn q_X10_clash_54.1 rfl ?_
    refine ⟨?_, hfin⟩
    unfold aClash
    rw [if_pos (by omega)]
  refine g_iload_n q_X10_clash_55 rfl ?_
  refine g_if_ne (tgt := 63) q_X10_clash_56 (by decide) (by unfold rg; omega) (fun b5 => ?_) (fun b5 => ?_)
  case refine_2 =>
    refine g_iconst q_X10_clash_59 ?_
    refine g_goto (tgt := 103) q_X10_clash_60 (by decide) ?_
    refine g_ireturn q_X10_clash_103.1 rfl ?_
    refine ⟨?_, hfin⟩
    unfold aClash
    rw [if_neg b4, if_pos (by omega)]
  obtain ⟨i1, i2, i3, i4⟩ := hI1 b5
  have eA : aClash z w = if w = 1 then I' 28 else if w = 2 then I' 29 else if w = 3 then I' 30 else I' 31 := by
    unfold aClash
    rw [if_neg b4, if_neg b5, i1, i2, i3, i4]
  rw [eA]
  refine g_iload_n q_X10_clash_63 rfl ?_
  refine g_iconst q_X10_clash_64 ?_
  refine g_icmp_ne (tgt := 75) q_X10_clash_65 (by decide) ⟨by omega, by omega⟩ ⟨by omega, by omega⟩ (fun b6 => ?_) (fun b6 => ?_)
  case refine_2 =>
    refine g_aload_n q_X10_clash_68 rfl ?_
    refine g_get fl_X10_271 q_X10_clash_69 (by repeat first | with_reducible assumption | with_reducible exact hput_s _ _ _ | refine (hput_n _ _ (by omega)).trans ?_ | exact hput_s _ _ _ | assumption) rfl ?_
    refine g_goto (tgt := 103) q_X10_clash_72 (by decide) ?_
    refine g_ireturn q_X10_clash_103.1 rfl ?_
    exact ⟨by rw [if_pos (by omega)], hfin⟩
  rw [if_neg b6]
  refine g_iload_n q_X10_clash_75 rfl ?_
  refine g_iconst q_X10_clash_76 ?_
  refine g_icmp_ne (tgt := 87) q_X10_clash_77 (by decide) ⟨by omega, by omega⟩ ⟨by omega, by omega⟩ (fun b7 => ?_) (fun b7 => ?_)
  case refine_2 =>
    refine g_aload_n q_X10_clash_80 rfl ?_
    refine g_get fl_X10_274 q_X10_clash_81 (by repeat first | with_reducible assumption | with_reducible exact hput_s _ _ _ | refine (hput_n _ _ (by omega)).trans ?_ | exact hput_s _ _ _ | assumption) rfl ?_
    refine g_goto (tgt := 103) q_X10_clash_84 (by decide) ?_
    refine g_ireturn q_X10_clash_103.1 rfl ?_
    exact ⟨by rw [if_pos (by omega)], hfin⟩
  rw [if_neg b7]
  refine g_iload_n q_X10_clash_87 rfl ?_
  refine g_iconst q_X10_clash_88 ?_
  refine g_icmp_ne (tgt := 99) q_X10_clash_89 (by decide) ⟨by omega, by omega⟩ ⟨by omega, by omega⟩ (fun b8 => ?_) (fun b8 => ?_)
  case refine_2 =>
    refine g_aload_n q_X10_clash_92 rfl ?_
    refine g_get fl_X10_277 q_X10_clash_93 (by repeat first | with_reducible assumption | with_reducible exact hput_s _ _ _ | refine (hput_n _ _ (by omega)).trans ?_ | exact hput_s _ _ _ | assumption) rfl ?_
    refine g_goto (tgt := 103) q_X10_clash_96 (by decide) ?_
    refine g_ireturn q_X10_clash_103.1 rfl ?_
    exact ⟨by rw [if_pos (by omega)], hfin⟩
  rw [if_neg b8]
  refine g_aload_n q_X10_clash_99 rfl ?_
  refine g_get fl_X10_280 q_X10_clash_100 (by repeat first | with_reducible assumption | with_reducible exact hput_s _ _ _ | refine (hput_n _ _ (by omega)).trans ?_ | exact hput_s _ _ _ | assumption) rfl ?_
  refine g_ireturn q_X10_clash_103.1 rfl ?_
  exact ⟨rfl, hfin⟩
end MQ

