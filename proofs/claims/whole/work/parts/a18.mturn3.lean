/-! the reference: turned, bestOrder -/
section MTX
variable {Γ : GT} {σ : AH} {m : Nat} {len : Nat} {tx : Nat → Int} {fa e0 : Int} {z : PS} {l : List (Int × Int × Int)} {wl : Nat} {wr : Nat → Int}
theorem tuB_all {k : Nat} (h : tuB z k = true) : ∀ i, i < zCa z → tuK z k i ≠ -1 := fun i hi q => by
  have st : (tuS (lvZ z) (zPL z) (zGO z) (tuO z k) i).1 = true := by
    cases hh : (tuS (lvZ z) (zPL z) (zGO z) (tuO z k) i).1 with
    | true => rfl
    | false =>
      have := tuS_fl hh (zCa z - i)
      rw [show i + (zCa z - i) = zCa z by omega] at this
      rw [show tuB z k = false from this] at h
      cases h
  have := tuS_fl (tuS_n st q) (zCa z - (i + 1))
  rw [show i + 1 + (zCa z - (i + 1)) = zCa z by omega] at this
  rw [show tuB z k = false from this] at h
  cases h
theorem tuZ_all (n5 : zCa z ≤ 5) (k : Nat) : (tuB z k = true → 0 ≤ tuZ z k) ∧ (tuB z k = false → tuZ z k = -1) ∧ -1 ≤ tuZ z k ∧ tuZ z k ≤ 200 := by
  have kr : ∀ i, -1 ≤ tuK z k i ∧ tuK z k i ≤ 40 := fun i => lcs_rg _ _ _ _ _
  cases hb : tuB z k with
  | true =>
    have ha := tuB_all hb
    have e : tuZ z k = sumN (tuK z k) (zCa z) := if_pos hb
    have h1 : 0 ≤ sumN (tuK z k) (zCa z) := sumN_n0 (fun i hi => by
      have q1 := ha i hi
      have q2 := kr i
      omega)
    have h2 := sumN_rg (C := tuK z k) (a := -1) (b := 40) (n := zCa z) (fun i _ => kr i)
    rw [e]
    exact ⟨fun _ => h1, fun q => (by cases q), by omega, by omega⟩
  | false =>
    have e : tuZ z k = -1 := if_neg (by rw [hb]; decide)
    rw [e]
    exact ⟨fun q => (by cases q), fun _ => rfl, by decide, by decide⟩
theorem sp_mturned (hΓ : Gd Γ) (hX : MX σ m e0 len tx fa z l wl wr) (o c t : Int) (ho : rg o) (hc : rg c) (ht : rg t) : Sp Γ miX10_turned 0 0 [.ref m, .int (ii o), .int (ii c), .int (ii t)] σ (mQ (eTurned z o c t) (tuC z o.toNat c.toNat t.toNat) (SM σ m (eTurned z o c t) len tx fa z l wl wr)) noX := by
  obtain ⟨I, A, N, -, h, hW⟩ := hX
  have h0 := h.1
  have hz := hW.2.2.1.1
  have wf := hW.2.2.1.2
  have n5 := wf.1.1.2.2
  have j15 := hz.1.2.2
  have bad : ∀ (e : Nat) (τ : AH) (B : Nat → Nat → Int), e ≠ 0 → e < 5 → eTurned z o c t = e → eqOff σ τ (inb m 34) → MC τ m I B N → MW I B N len tx fa z l wl wr → G Γ miX10_turned cX10_turned (mQ (eTurned z o c t) (tuC z o.toNat c.toNat t.toNat) (SM σ m (eTurned z o c t) len tx fa z l wl wr)) noX 0 0 53 [some (.ref m), some (.int (ii o)), some (.int (ii c)), some (.int (ii t))] [.int (ii (e : Int)), .ref m] τ := by
    intro e τ B he he4 hE hEq hM hWB
    have t0 := hM.1
    refine g_putM fp_X10_122 q_X10_turned_53 (by repeat first | with_reducible assumption | with_reducible exact hput_s _ _ _ | refine (hput_n _ _ (by omega)).trans ?_ | exact hput_s _ _ _ | assumption) rfl rfl mset_0 ?_
    refine g_aload_n q_X10_turned_56 rfl ?_
    refine g_get fl_X10_122 q_X10_turned_57 (by repeat first | with_reducible assumption | with_reducible exact hput_s _ _ _ | refine (hput_n _ _ (by omega)).trans ?_ | exact hput_s _ _ _ | assumption) rfl ?_
    refine g_topi (b := (e : Int)) (by rfl) ?_
    refine g_if_le (tgt := 67) q_X10_turned_60 (by decide) ⟨by omega, by omega⟩ (fun b9 => ?_) (fun b9 => ?_)
    case refine_1 => exact absurd b9 (by omega)
    refine g_iconst q_X10_turned_63 ?_
    refine g_goto (tgt := 76) q_X10_turned_64 (by decide) ?_
    refine g_ireturn q_X10_turned_76.1 rfl ?_
    rw [hE]
    exact ⟨by rw [if_neg he], SM.w hEq hM hWB e⟩
  refine Sp_of (L := [_, _, _, _]) hΓ (by decide +kernel) rfl (Nat.le_of_ble_eq_true rfl) rfl ?_
  refine g_aload_n q_X10_turned_0 rfl ?_
  refine g_aload_n q_X10_turned_1 rfl ?_
  refine g_iload_n q_X10_turned_2 rfl ?_
  refine g_callV (rc' := 0) (rs' := 0) (As := [_]) cs_X10_237 q_X10_turned_3 (sp_isCart hΓ h0 j15 n5 c hc) rfl (by repeat first | with_reducible assumption | with_reducible exact hput_s _ _ _ | refine (hput_n _ _ (by omega)).trans ?_ | exact hput_s _ _ _ | assumption) rfl rfl rfl rfl (Nat.le_of_ble_eq_true rfl) (by decide) (by decide) (by decide) (fun _ _ h => h.elim) (k_rb ?_)
  refine g_if_ne (tgt := 13) q_X10_turned_6 (by decide) (bi_rg _) (fun b1 => ?_) (fun b1 => ?_)
  case refine_2 =>
    have q : cOK z c = false := bi_f (show bi (decide (0 ≤ c ∧ c < (zCa z : Int))) = 0 by omega)
    refine g_iconst q_X10_turned_9 ?_
    refine g_goto (tgt := 53) q_X10_turned_10 (by decide) ?_
    exact bad 1 σ A (by decide) (by decide) (by unfold eTurned; rw [if_pos q]) eqOff.rfl' h hW
  have c1 : cOK z c = true := bi_t b1
  refine g_aload_n q_X10_turned_13 rfl ?_
  refine g_iload_n q_X10_turned_14 rfl ?_
  refine g_callV (rc' := 0) (rs' := 0) (As := [_]) cs_X10_378 q_X10_turned_15 (sp_misOrder hΓ h0 n5 j15 o ho) rfl (by repeat first | with_reducible assumption | with_reducible exact hput_s _ _ _ | refine (hput_n _ _ (by omega)).trans ?_ | exact hput_s _ _ _ | assumption) rfl rfl rfl rfl (Nat.le_of_ble_eq_true rfl) (by decide) (by decide) (by decide) (fun _ _ h => h.elim) (k_rb ?_)
  refine g_if_ne (tgt := 25) q_X10_turned_18 (by decide) (bi_rg _) (fun b2 => ?_) (fun b2 => ?_)
  case refine_2 =>
    have q := bi_f (show bi (ordOK z o) = 0 by omega)
    refine g_iconst q_X10_turned_21 ?_
    refine g_goto (tgt := 53) q_X10_turned_22 (by decide) ?_
    exact bad 2 σ A (by decide) (by decide) (by unfold eTurned; rw [if_neg (by rw [c1]; decide), if_pos q]) eqOff.rfl' h hW
  have c2 := bi_t b2
  refine g_iload_n q_X10_turned_25 rfl ?_
  refine g_iconst q_X10_turned_26 ?_
  refine g_bipush q_X10_turned_27 bp_40 ?_
  refine g_callS (rc' := 0) (rs' := 0) (As := [_, _, _]) cs_X10_229 q_X10_turned_29 (sp_isIn hΓ t 0 40 ht ⟨by decide, by decide⟩ ⟨by decide, by decide⟩) rfl rfl rfl (Nat.le_of_ble_eq_true rfl) (by decide) (by decide) (by decide) (fun _ _ h => h.elim) (k_rb ?_)
  refine g_if_ne (tgt := 39) q_X10_turned_32 (by decide) (bi_rg _) (fun b3 => ?_) (fun b3 => ?_)
  case refine_2 =>
    have q : tOK t = false := bi_f (show bi (decide (0 ≤ t ∧ t ≤ 40)) = 0 by omega)
    refine g_iconst q_X10_turned_35 ?_
    refine g_goto (tgt := 53) q_X10_turned_36 (by decide) ?_
    exact bad 3 σ A (by decide) (by decide) (by unfold eTurned; rw [if_neg (by rw [c1]; decide), if_neg (by rw [c2]; decide), if_pos q]) eqOff.rfl' h hW
  have c3 : tOK t = true := bi_t b3
  have hc1 := of_decide_eq_true c1
  have ho1 := of_decide_eq_true c2
  have ht1 := of_decide_eq_true c3
  have eT : eTurned z o c t = if tuB z o.toNat = false then 4 else 0 := by unfold eTurned; rw [if_neg (by rw [c1]; decide), if_neg (by rw [c2]; decide), if_neg (by rw [c3]; decide)]
  obtain ⟨j, hj⟩ : ∃ j : Nat, o = j := ⟨o.toNat, by omega⟩
  subst hj
  rw [Int.toNat_natCast] at eT
  obtain ⟨z1, z2, z3, z4⟩ := tuZ_all n5 j
  refine g_aload_n q_X10_turned_39 rfl ?_
  refine g_iload_n q_X10_turned_40 rfl ?_
  refine g_callV (rc' := 0) (rs' := 0) (As := [_]) cs_X10_381 q_X10_turned_41 (sp_laysTurns hΓ h hz wf hW.2.2.2.2.2.2.2 j (by omega)) rfl (by repeat first | with_reducible assumption | with_reducible exact hput_s _ _ _ | refine (hput_n _ _ (by omega)).trans ?_ | exact hput_s _ _ _ | assumption) rfl rfl rfl rfl (Nat.le_of_ble_eq_true rfl) (by decide) (by decide) (by decide) (fun _ _ h => h.elim) (fun v τ hq => ?_)
  obtain ⟨rfl, hE, D, B, hM, hA, h16, hr, hrow⟩ := hq
  have hWB := hW.tu hA h16 hr
  refine g_iconst q_X10_turned_44 ?_
  refine g_icmp_ne (tgt := 52) q_X10_turned_45 (by decide) ⟨by omega, by omega⟩ ⟨by omega, by omega⟩ (fun b4 => ?_) (fun b4 => ?_)
  case refine_2 =>
    have q : tuB z j = false := by
      cases hh : tuB z j with
      | false => rfl
      | true => have := z1 hh; omega
    refine g_iconst q_X10_turned_48 ?_
    refine g_goto (tgt := 53) q_X10_turned_49 (by decide) ?_
    exact bad 4 τ B (by decide) (by decide) (by rw [eT, if_pos q]) hE hM hWB
  have q : tuB z j = true := by
    cases hh : tuB z j with
    | true => rfl
    | false => exact absurd (z2 hh) b4
  rw [if_neg (by rw [q]; decide)] at eT
  obtain ⟨i, hi⟩ : ∃ i : Nat, c = i := ⟨c.toNat, by omega⟩
  subst hi
  obtain ⟨u, hu⟩ : ∃ u : Nat, t = u := ⟨t.toNat, by omega⟩
  subst hu
  rw [eT, Int.toNat_natCast, Int.toNat_natCast, Int.toNat_natCast]
  clear bad
  have t0 := hM.1
  have t16 := hM.a16
  refine g_iconst q_X10_turned_52 ?_
  refine g_putM fp_X10_122 q_X10_turned_53 (by repeat first | with_reducible assumption | with_reducible exact hput_s _ _ _ | refine (hput_n _ _ (by omega)).trans ?_ | exact hput_s _ _ _ | assumption) rfl rfl mset_0 ?_
  refine g_aload_n q_X10_turned_56 rfl ?_
  refine g_get fl_X10_122 q_X10_turned_57 (by repeat first | with_reducible assumption | with_reducible exact hput_s _ _ _ | refine (hput_n _ _ (by omega)).trans ?_ | exact hput_s _ _ _ | assumption) rfl ?_
  refine g_topi (b := (0 : Int)) (by rfl) ?_
  refine g_if_le (tgt := 67) q_X10_turned_60 (by decide) ⟨by omega, by omega⟩ (fun b5 => ?_) (fun b5 => ?_)
  case refine_2 => exact absurd b5 (by decide)
  have hS := SM.w hE hM hWB 0
  have hM1 := hM.putI (va_up I 0 ((0 : Nat) : Int))
  obtain ⟨τ1, hτ1⟩ : ∃ τ1, τ1 = hput τ m (mdo m (va_up I 0 ((0 : Nat) : Int))) := ⟨_, rfl⟩
  refine g_eq (σ2 := τ1) rfl rfl hτ1.symm ?_
  rw [← hτ1] at hS hM1
  clear hτ1
  have v0 := hM1.1
  have v16 := hM1.a16
  refine g_aload_n q_X10_turned_67 rfl ?_
  refine g_sipush q_X10_turned_68 sp_302 ?_
  refine g_iload_n q_X10_turned_71 rfl ?_
  refine g_iload_n q_X10_turned_72 rfl ?_
  refine g_callV (rc' := 0) (rs' := 0) (As := [_, _, _]) cs_X10_263 q_X10_turned_73 (sp_wayAt hΓ v0 v16 302 i u (by omega) (by omega) (by omega)) rfl (by repeat first | with_reducible assumption | with_reducible exact hput_s _ _ _ | refine (hput_n _ _ (by omega)).trans ?_ | exact hput_s _ _ _ | assumption) rfl rfl rfl rfl (Nat.le_of_ble_eq_true rfl) (by decide) (by decide) (by decide) (fun _ _ h => h.elim) (k_ri ?_)
  refine g_ireturn q_X10_turned_76.1 rfl ?_
  refine ⟨?_, hS⟩
  rw [if_pos rfl]
  unfold tuC
  obtain ⟨a, ha1, ha2⟩ := ord_sur n5 (show j < facN (zCa z) by omega) (show i < zCa z by omega)
  rcases fstN_cases (fun k => decide (tuO z j k = i)) (zCa z) with ⟨-, hn⟩ | ⟨b, hb, eb, hpb, -⟩
  · exact absurd ha2 (of_decide_eq_false (hn a ha1))
  · rw [eb, Int.toNat_natCast]
    have hob := of_decide_eq_true hpb
    have := hrow q b hb u (by omega)
    rw [hob] at this
    rw [this]
theorem boN_i (n5 : zCa z ≤ 5) : ∀ k, (((boN z k).1 = -1 ∧ (boN z k).2 = -1) ∨ (0 ≤ (boN z k).1 ∧ 0 ≤ (boN z k).2)) ∧ (boN z k).1 ≤ k ∧ (boN z k).2 ≤ 200
  | 0 => ⟨Or.inl ⟨rfl, rfl⟩, by show (-1 : Int) ≤ ((0 : Nat) : Int); decide, by show (-1 : Int) ≤ 200; decide⟩
  | k + 1 => by
    have ih := boN_i n5 k
    obtain ⟨z1, z2, z3, z4⟩ := tuZ_all n5 k
    unfold boN
    split
    · rename_i q
      refine ⟨Or.inr ⟨by show (0 : Int) ≤ (k : Int); omega, ?_⟩, by show (k : Int) ≤ ((k + 1 : Nat) : Int); omega, z4⟩
      show 0 ≤ tuZ z k
      have := q.1
      omega
    · exact ⟨ih.1, by omega, ih.2.2⟩
theorem sp_mbestOrder (hΓ : Gd Γ) (hX : MX σ m e0 len tx fa z l wl wr) (su : Bool) : Sp Γ miX10_bestOrder 0 0 [.ref m, .int (ii (bi su))] σ (mQ 0 (if su = true then (boN z (facN (zCa z))).2 else (boN z (facN (zCa z))).1) (SM σ m 0 len tx fa z l wl wr)) noX := by
  obtain ⟨I, A, N, -, h, hW⟩ := hX
  have h0 := h.1
  have wf := hW.2.2.1.2
  have n5 := wf.1.1.2.2
  have hfn := facN_pos (zCa z)
  have hM1 := h.putI (va_up I 0 ((0 : Nat) : Int))
  have hW1 := hW.I0 ((0 : Nat) : Int)
  have j0 : va_up I 0 ((0 : Nat) : Int) 0 = ((0 : Nat) : Int) := rfl
  obtain ⟨J, hJ⟩ : ∃ J, J = va_up I 0 ((0 : Nat) : Int) := ⟨_, rfl⟩
  rw [← hJ] at hM1 hW1 j0
  refine Sp_of (L := [_, _, _, _, _, _]) hΓ (by decide +kernel) rfl (Nat.le_of_ble_eq_true rfl) rfl ?_
  refine g_aload_n q_X10_bestOrder_0 rfl ?_
  refine g_iconst q_X10_bestOrder_1 ?_
  refine g_putM fp_X10_122 q_X10_bestOrder_2 (by repeat first | with_reducible assumption | with_reducible exact hput_s _ _ _ | refine (hput_n _ _ (by omega)).trans ?_ | exact hput_s _ _ _ | assumption) rfl rfl mset_0 ?_
  refine g_eq (σ2 := hput σ m (mdo m J)) rfl rfl (by rw [hJ]; rfl) ?_
  clear hJ
  have hE1 : eqOff σ (hput σ m (mdo m J)) (inb m 34) := eqOff.rfl'.put ⟨by omega, by omega⟩ _
  refine g_iconst q_X10_bestOrder_5 ?_
  refine g_istore_n (L' := [_, _, _, _, _, _]) q_X10_bestOrder_6 (by decide) rfl ?_
  refine g_iconst q_X10_bestOrder_7 ?_
  refine g_istore_n (L' := [_, _, _, _, _, _]) q_X10_bestOrder_8 (by decide) rfl ?_
  refine g_iconst q_X10_bestOrder_9 ?_
  refine g_istore (L' := [_, _, _, _, _, _]) q_X10_bestOrder_10 (by decide) rfl ?_
  refine g_loop3 (fun (k : Nat) (τ : AH) (B : Nat → Nat → Int) => k ≤ facN (zCa z) ∧ eqOff σ τ (inb m 34) ∧ MC τ m J B N ∧ MW J B N len tx fa z l wl wr) (fun k τ B => G Γ _ cX10_bestOrder _ _ 0 0 12 [some (.ref m), some (.int (ii (bi su))), some (.int (ii (boN z k).1)), some (.int (ii (boN z k).2)), some (.int (ii k)), none] [] τ) (fun k τ B => facN (zCa z) - k) ?_ 0 _ A ⟨Nat.zero_le _, hE1, hM1, hW1⟩
  clear hM1 hW1 hE1 h0
  rintro k τ B ⟨hk, hE, hM, hWB⟩ ih
  have t0 := hM.1
  have j15 := hWB.2.2.1.1.1.2.2
  obtain ⟨b1, b2, b3⟩ := boN_i n5 k
  refine g_iload q_X10_bestOrder_12 rfl ?_
  refine g_aload_n q_X10_bestOrder_14 rfl ?_
  refine g_callV (rc' := 0) (rs' := 0) (As := []) cs_X10_369 q_X10_bestOrder_15 (sp_orders hΓ t0 n5 j15) rfl (by repeat first | with_reducible assumption | with_reducible exact hput_s _ _ _ | refine (hput_n _ _ (by omega)).trans ?_ | exact hput_s _ _ _ | assumption) rfl rfl rfl rfl (Nat.le_of_ble_eq_true rfl) (by decide) (by decide) (by decide) (fun _ _ h => h.elim) (k_ri ?_)
  refine g_icmp_ge (tgt := 61) q_X10_bestOrder_18 (by decide) ⟨by omega, by omega⟩ ⟨by omega, by omega⟩ (fun c1 => ?_) (fun c1 => ?_)
  · have e : k = facN (zCa z) := by omega
    subst e
    have hS : SM σ m 0 len tx fa z l wl wr τ := ⟨⟨J, B, N, j0, hM, hWB⟩, hE⟩
    unfold mQ
    rw [if_pos rfl]
    refine g_iload_n q_X10_bestOrder_61 rfl ?_
    refine g_if_eq (tgt := 69) q_X10_bestOrder_62 (by decide) (bi_rg _) (fun c2 => ?_) (fun c2 => ?_)
    · rw [if_neg (by rw [bi_f c2]; decide)]
      refine g_iload_n q_X10_bestOrder_69 rfl ?_
      refine g_ireturn q_X10_bestOrder_70.1 rfl ?_
      exact ⟨rfl, hS⟩
    · rw [if_pos (bi_t c2)]
      refine g_iload_n q_X10_bestOrder_65 rfl ?_
      refine g_goto (tgt := 70) q_X10_bestOrder_66 (by decide) ?_
      refine g_ireturn q_X10_bestOrder_70.1 rfl ?_
      exact ⟨rfl, hS⟩
  obtain ⟨z1, z2, z3, z4⟩ := tuZ_all n5 k
  refine g_aload_n q_X10_bestOrder_21 rfl ?_
  refine g_iload q_X10_bestOrder_22 rfl ?_
  refine g_callV (rc' := 0) (rs' := 0) (As := [_]) cs_X10_381 q_X10_bestOrder_24 (sp_laysTurns hΓ hM hWB.2.2.1.1 wf hWB.2.2.2.2.2.2.2 k (by omega)) rfl (by repeat first | with_reducible assumption | with_reducible exact hput_s _ _ _ | refine (hput_n _ _ (by omega)).trans ?_ | exact hput_s _ _ _ | assumption) rfl rfl rfl rfl (Nat.le_of_ble_eq_true rfl) (by decide) (by decide) (by decide) (fun _ _ h => h.elim) (fun v τ' hq => ?_)
  obtain ⟨rfl, hE', D, B', hM', hA, h16, hr, -⟩ := hq
  have hnx := ih (k + 1) τ' B' ⟨by omega, hE.trans hE' (fun _ i => i), hM', hWB.tu hA h16 hr⟩ (by omega)
  have no : ¬ (tuZ z k ≠ -1 ∧ ((boN z k).2 = -1 ∨ tuZ z k < (boN z k).2)) → G Γ miX10_bestOrder cX10_bestOrder (mQ 0 (if su = true then (boN z (facN (zCa z))).2 else (boN z (facN (zCa z))).1) (SM σ m 0 len tx fa z l wl wr)) noX 0 0 55 [some (.ref m), some (.int (ii (bi su))), some (.int (ii (boN z k).1)), some (.int (ii (boN z k).2)), some (.int (ii k)), some (.int (ii (tuZ z k)))] [] τ' := fun q => by
    rw [show boN z (k + 1) = boN z k from if_neg q] at hnx
    refine g_iinc (L' := [_, _, _, _, _, _]) q_X10_bestOrder_55 rfl rfl ?_
    refine g_goto (tgt := 12) q_X10_bestOrder_58 (by decide) ?_
    exact g_fl hnx ⟨rfl, rfl, rfl, rfl, rfl, trivial⟩
  have yes : (tuZ z k ≠ -1 ∧ ((boN z k).2 = -1 ∨ tuZ z k < (boN z k).2)) → G Γ miX10_bestOrder cX10_bestOrder (mQ 0 (if su = true then (boN z (facN (zCa z))).2 else (boN z (facN (zCa z))).1) (SM σ m 0 len tx fa z l wl wr)) noX 0 0 49 [some (.ref m), some (.int (ii (bi su))), some (.int (ii (boN z k).1)), some (.int (ii (boN z k).2)), some (.int (ii k)), some (.int (ii (tuZ z k)))] [] τ' := fun q => by
    rw [show boN z (k + 1) = ((k : Int), tuZ z k) from if_pos q] at hnx
    refine g_iload q_X10_bestOrder_49 rfl ?_
    refine g_istore_n (L' := [_, _, _, _, _, _]) q_X10_bestOrder_51 (by decide) rfl ?_
    refine g_iload q_X10_bestOrder_52 rfl ?_
    refine g_istore_n (L' := [_, _, _, _, _, _]) q_X10_bestOrder_54 (by decide) rfl ?_
    refine g_iinc (L' := [_, _, _, _, _, _]) q_X10_bestOrder_55 rfl rfl ?_
    refine g_goto (tgt := 12) q_X10_bestOrder_58 (by decide) ?_
    exact g_fl hnx ⟨rfl, rfl, rfl, rfl, rfl, trivial⟩
  clear hnx ih
  refine g_istore (L' := [_, _, _, _, _, _]) q_X10_bestOrder_27 (by decide) rfl ?_
  refine g_iload q_X10_bestOrder_29 rfl ?_
  refine g_iconst q_X10_bestOrder_31 ?_
  refine g_icmp_eq (tgt := 55) q_X10_bestOrder_32 (by decide) ⟨by omega, by omega⟩ ⟨by omega, by omega⟩ (fun c2 => ?_) (fun c2 => ?_)
  · exact no (fun q => q.1 c2)
  refine g_iload_n q_X10_bestOrder_35 rfl ?_
  refine g_iconst q_X10_bestOrder_36 ?_
  refine g_icmp_eq (tgt := 49) q_X10_bestOrder_37 (by decide) ⟨by omega, by omega⟩ ⟨by omega, by omega⟩ (fun c3 => ?_) (fun c3 => ?_)
  · exact yes ⟨c2, Or.inl (by omega)⟩
  refine g_iload q_X10_bestOrder_40 rfl ?_
  refine g_iload_n q_X10_bestOrder_42 rfl ?_
  refine g_icmp_lt (tgt := 49) q_X10_bestOrder_43 (by decide) ⟨by omega, by omega⟩ ⟨by omega, by omega⟩ (fun c4 => ?_) (fun c4 => ?_)
  · exact yes ⟨c2, Or.inr c4⟩
  · refine g_goto (tgt := 55) q_X10_bestOrder_46 (by decide) ?_
    exact no (fun q => by omega)
end MTX

