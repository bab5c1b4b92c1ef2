/-! reach, far of the reference -/
theorem cntN_cut {p : Nat → Bool} {a : Nat} (h : ∀ c, a ≤ c → p c = false) : ∀ n, cntN p (a + n) = cntN p a
  | 0 => rfl
  | n + 1 => by
    show cntN p (a + n) + bi (p (a + n)) = _
    rw [cntN_cut h n, h (a + n) (by omega)]
    show cntN p a + 0 = _
    omega
theorem hH_up {z : PS} {I : Nat → Int} {A : Nat → Nat → Int} {pl : Nat} (w : WFz z) (hz : MZ I A z) (hp : gIn (zCo z) (zRo z) pl) (hp1 : zSO z pl ≠ 1) {c s : Nat} (hc : c < 36) (h : hH z pl s c = true) : ∀ d, s + d ≤ 40 → hH z pl (s + d) c = true
  | 0, _ => h
  | d + 1, hd => (hH_s w hz hp hp1 (t := s + d) (by omega) hc).mpr (Or.inl (hH_up w hz hp hp1 hc h d (by omega)))
theorem reach_cnt {z : PS} {I : Nat → Int} {A : Nat → Nat → Int} {pl : Nat} (w : WFz z) (hz : MZ I A z) (hp : gIn (zCo z) (zRo z) pl) (hp1 : zSO z pl ≠ 1) : bcn (rcN (lvZ z) pl 36) = cntN (fun c => decide (fstN (fun t => hH z pl t c) 37 ≠ -1)) 36 := by
  unfold bcn
  have hin : ∀ c, (rcN (lvZ z) pl 36).getLsbD c = hH z pl 36 c := fun c => by rw [rc_hs]; rfl
  have hcut := cntN_cut (p := fun c => (rcN (lvZ z) pl 36).getLsbD c) (a := 36) (fun c hc => by
    show (rcN (lvZ z) pl 36).getLsbD c = false
    rw [hin]
    cases e : hH z pl 36 c with
    | false => rfl
    | true =>
      have := gIn_36 w.1.1.2.1 (hs_in w.1.1.1 w.1.1.2.1 w.1.2.1 hp hp1 36 c e).1
      omega) 28
  refine hcut.trans ?_
  refine cntN_cong fun c hc => ?_
  show (rcN (lvZ z) pl 36).getLsbD c = _
  rw [hin]
  rcases fstN_cases (fun t => hH z pl t c) 37 with ⟨e, hn⟩ | ⟨k, hk, e, hb, hn⟩
  · rw [e, decide_eq_false (fun q => q rfl)]
    exact hn 36 (by omega)
  · rw [e, decide_eq_true (by omega)]
    have := hH_up w hz hp hp1 hc hb (36 - k) (by omega)
    rw [show k + (36 - k) = 36 by omega] at this
    exact this
section MFa
variable {Γ : GT} {σ σ' : AH} {m : Nat} {I J : Nat → Int} {A A' : Nat → Nat → Int} {N : Nat → Nat → BitVec 64} {len : Nat} {tx : Nat → Int} {fa e0 : Int} {z : PS} {l : List (Int × Int × Int)} {wl : Nat} {wr : Nat → Int}
theorem SM.far {τ : AH} (hW : MW I A N len tx fa z l wl wr) {e : Nat} {f : Nat → Int} (hE : eqOff (hput σ m (mdo m (va_up I 0 e))) τ (inb (m + 17) 1)) (hM : MC τ m (va_up I 0 e) (va_up A 17 f) N) : SM σ m e len tx fa z l wl wr τ := ⟨⟨_, _, N, va_eq, hM, (hW.I0 e).cg (fun _ _ _ => rfl) (fun k hk => va_ne (by omega)) (fun i _ => by rw [va_ne (by omega)]) (by rw [va_ne (by omega)]; exact hW.2.2.2.2.2.2.2)⟩, (eqOff.rfl'.put (a := m) ⟨by omega, by omega⟩ _).trans hE (fun a i => by unfold inb at *; omega)⟩
theorem sp_mreach (hΓ : Gd Γ) (hX : MX σ m e0 len tx fa z l wl wr) (c : Int) (hc : rg c) : Sp Γ miX10_reach 0 0 [.ref m, .int (ii c)] σ (mQ (e1C z c) (bcn (rcN (lvZ z) (zPL z c.toNat).toNat 36)) (SM σ m (e1C z c) len tx fa z l wl wr)) noX := by
  obtain ⟨I, A, N, -, h, hW⟩ := hX
  have h0 := h.1
  have hz := hW.2.2.1.1
  have wf := hW.2.2.1.2
  have n5 := wf.1.1.2.2
  have h8 := h.a8
  refine Sp_of (L := [_, _, _, _]) hΓ (by decide +kernel) rfl (Nat.le_of_ble_eq_true rfl) rfl ?_
  refine g_aload_n q_X10_reach_0 rfl ?_
  refine g_aload_n q_X10_reach_1 rfl ?_
  refine g_iload_n q_X10_reach_2 rfl ?_
  refine g_callV (rc' := 0) (rs' := 0) (As := [_]) cs_X10_237 q_X10_reach_3 (sp_isCart hΓ h0 hz.1.2.2 n5 c hc) rfl (by repeat first | with_reducible assumption | with_reducible exact hput_s _ _ _ | refine (hput_n _ _ (by omega)).trans ?_ | exact hput_s _ _ _ | assumption) rfl rfl rfl rfl (Nat.le_of_ble_eq_true rfl) (by decide) (by decide) (by decide) (fun _ _ h => h.elim) (k_rb ?_)
  refine g_if_eq (tgt := 13) q_X10_reach_6 (by decide) (bi_rg _) (fun b1 => ?_) (fun b1 => ?_)
  · have hf := of_decide_eq_false (bi_f b1)
    have e1 : e1C z c = 1 := if_neg hf
    refine g_iconst q_X10_reach_13 ?_
    refine g_putM fp_X10_122 q_X10_reach_14 (by repeat first | with_reducible assumption | with_reducible exact hput_s _ _ _ | refine (hput_n _ _ (by omega)).trans ?_ | exact hput_s _ _ _ | assumption) rfl rfl mset_0 ?_
    refine g_aload_n q_X10_reach_17 rfl ?_
    refine g_get fl_X10_122 q_X10_reach_18 (by repeat first | with_reducible assumption | with_reducible exact hput_s _ _ _ | refine (hput_n _ _ (by omega)).trans ?_ | exact hput_s _ _ _ | assumption) rfl ?_
    refine g_topi (b := (1 : Int)) (by rfl) ?_
    refine g_if_le (tgt := 26) q_X10_reach_21 (by decide) ⟨by omega, by omega⟩ (fun b2 => ?_) (fun b2 => ?_)
    case refine_1 => exact absurd b2 (by decide)
    refine g_iconst q_X10_reach_24 ?_
    refine g_ireturn q_X10_reach_25.1 rfl ?_
    rw [e1]
    exact ⟨rfl, SM.t h hW 1⟩
  · have ht := of_decide_eq_true (bi_t (show bi (decide (0 ≤ c ∧ c < zCa z)) ≠ 0 by omega))
    obtain ⟨k, hk⟩ : ∃ k : Nat, c = k := ⟨c.toNat, by omega⟩
    subst hk
    have e1 : e1C z k = 0 := if_pos ht
    have hM1 := h.putI (va_up I 0 ((0 : Nat) : Int))
    obtain ⟨k5, p8, -, pg, pw, -, -⟩ := hz.pg wf (c := k) (by omega)
    rw [Int.toNat_natCast, reach_cnt wf hz pg pw]
    refine g_iconst q_X10_reach_9 ?_
    refine g_goto (tgt := 14) q_X10_reach_10 (by decide) ?_
    refine g_putM fp_X10_122 q_X10_reach_14 (by repeat first | with_reducible assumption | with_reducible exact hput_s _ _ _ | refine (hput_n _ _ (by omega)).trans ?_ | exact hput_s _ _ _ | assumption) rfl rfl mset_0 ?_
    refine g_aload_n q_X10_reach_17 rfl ?_
    refine g_get fl_X10_122 q_X10_reach_18 (by repeat first | with_reducible assumption | with_reducible exact hput_s _ _ _ | refine (hput_n _ _ (by omega)).trans ?_ | exact hput_s _ _ _ | assumption) rfl ?_
    refine g_topi (b := (0 : Int)) (by rfl) ?_
    refine g_if_le (tgt := 26) q_X10_reach_21 (by decide) ⟨by omega, by omega⟩ (fun b2 => ?_) (fun b2 => ?_)
    case refine_2 => exact absurd b2 (by decide)
    refine g_aload_n q_X10_reach_26 rfl ?_
    refine g_aload_n q_X10_reach_27 rfl ?_
    refine g_get fl_X10_36 q_X10_reach_28 (by repeat first | with_reducible assumption | with_reducible exact hput_s _ _ _ | refine (hput_n _ _ (by omega)).trans ?_ | exact hput_s _ _ _ | assumption) rfl ?_
    refine g_iload_n q_X10_reach_31 rfl ?_
    refine g_iaload q_X10_reach_32 (by repeat first | with_reducible assumption | with_reducible exact hput_s _ _ _ | refine (hput_n _ _ (by omega)).trans ?_ | exact hput_s _ _ _ | assumption) (by omega) (by omega) ?_
    refine g_topi (b := ((zPL z k).toNat : Int)) (by exact p8) ?_
    refine g_callV (rc' := 0) (rs' := 0) (As := [_]) cs_X10_296 q_X10_reach_33 (sp_laysFar hΓ hM1 (hW.I0 _).2.2.1.1 wf pg pw) rfl (by repeat first | with_reducible assumption | with_reducible exact hput_s _ _ _ | refine (hput_n _ _ (by omega)).trans ?_ | exact hput_s _ _ _ | assumption) rfl rfl rfl rfl (Nat.le_of_ble_eq_true rfl) (by decide) (by decide) (by decide) (fun _ _ h => h.elim) (fun v τ hq => ?_)
    obtain ⟨rfl, hE, f, hM2, hf⟩ := hq
    have h02 := hM2.1
    have h17 : τ.2 (m + 17) = some (ai 36 f) := hM2.a17
    have hS := SM.far (σ := σ) hW hE hM2
    refine g_iconst q_X10_reach_36 ?_
    refine g_istore_n (L' := [_, _, _, _]) q_X10_reach_37 (by decide) rfl ?_
    refine g_iconst q_X10_reach_38 ?_
    refine g_istore_n (L' := [_, _, _, _]) q_X10_reach_39 (by decide) rfl ?_
    refine g_loop (fun k => k ≤ 36) (fun j : Nat => G Γ _ cX10_reach _ _ 0 0 40 [some (.ref m), some (.int (ii k)), some (.int (ii (cntN (fun c => decide (fstN (fun t => hH z (zPL z k).toNat t c) 37 ≠ -1)) j))), some (.int (ii j))] [] τ) (fun k => 36 - k) ?_ 0 (Nat.zero_le _)
    intro j hj ih
    refine g_iload_n q_X10_reach_40 rfl ?_
    refine g_bipush q_X10_reach_41 bp_36 ?_
    refine g_icmp_ge (tgt := 70) q_X10_reach_43 (by decide) ⟨by omega, by omega⟩ ⟨by omega, by omega⟩ (fun b3 => ?_) (fun b3 => ?_)
    · have e : j = 36 := by omega
      subst e
      refine g_iload_n q_X10_reach_70 rfl ?_
      refine g_ireturn q_X10_reach_71.1 rfl ?_
      rw [e1]
      exact ⟨rfl, hS⟩
    have efj := hf j (by omega)
    have hfr : rg (f j) := by
      have := fstN_rg (fun t => hH z (zPL z k).toNat t j) 37
      rw [efj]
      unfold rg
      omega
    have hnx := ih (j + 1) (by omega) (by omega)
    rw [show cntN (fun c => decide (fstN (fun t => hH z (zPL z k).toNat t c) 37 ≠ -1)) (j + 1) = cntN (fun c => decide (fstN (fun t => hH z (zPL z k).toNat t c) 37 ≠ -1)) j + bi (decide (f j ≠ -1)) by rw [cntN_succ, efj]] at hnx
    refine g_iload_n q_X10_reach_46 rfl ?_
    refine g_aload_n q_X10_reach_47 rfl ?_
    refine g_get fl_X10_65 q_X10_reach_48 (by repeat first | with_reducible assumption | with_reducible exact hput_s _ _ _ | refine (hput_n _ _ (by omega)).trans ?_ | exact hput_s _ _ _ | assumption) rfl ?_
    refine g_iload_n q_X10_reach_51 rfl ?_
    refine g_iaload q_X10_reach_52 (by repeat first | with_reducible assumption | with_reducible exact hput_s _ _ _ | refine (hput_n _ _ (by omega)).trans ?_ | exact hput_s _ _ _ | assumption) (by omega) (by omega) ?_
    refine g_topi (b := f j) (by rfl) ?_
    refine g_iconst q_X10_reach_53 ?_
    refine g_icmp_ne (tgt := 61) q_X10_reach_54 (by decide) hfr ⟨by omega, by omega⟩ (fun b4 => ?_) (fun b4 => ?_)
    · rw [decide_eq_true b4] at hnx
      refine g_iconst q_X10_reach_61 ?_
      refine g_iadd q_X10_reach_62 ?_
      refine g_istore_n (L' := [_, _, _, _]) q_X10_reach_63 (by decide) rfl ?_
      refine g_iinc (L' := [_, _, _, _]) q_X10_reach_64 rfl rfl ?_
      refine g_goto (tgt := 40) q_X10_reach_67 (by decide) ?_
      exact hnx
    · rw [decide_eq_false (fun q => q b4)] at hnx
      refine g_iconst q_X10_reach_57 ?_
      refine g_goto (tgt := 62) q_X10_reach_58 (by decide) ?_
      refine g_iadd q_X10_reach_62 ?_
      refine g_istore_n (L' := [_, _, _, _]) q_X10_reach_63 (by decide) rfl ?_
      refine g_iinc (L' := [_, _, _, _]) q_X10_reach_64 rfl rfl ?_
      refine g_goto (tgt := 40) q_X10_reach_67 (by decide) ?_
      exact hnx
theorem sp_mfar (hΓ : Gd Γ) (hX : MX σ m e0 len tx fa z l wl wr) (a b c d : Int) (ha : rg a) (hb : rg b) (hc : rg c) (hd : rg d) : Sp Γ miX10_far 0 0 [.ref m, .int (ii a), .int (ii b), .int (ii c), .int (ii d)] σ (mQ (eFar z a b c d) (aFar z a b c d) (SM σ m (eFar z a b c d) len tx fa z l wl wr)) noX := by
  obtain ⟨I, A, N, -, h, hW⟩ := hX
  have h0 := h.1
  have hz := hW.2.2.1.1
  have wf := hW.2.2.1.2
  have c6 := wf.1.1.1
  have r6 := wf.1.1.2.1
  have h6 := h.a6
  have out : eFar z a b c d = 1 → G Γ miX10_far cX10_far (mQ (eFar z a b c d) (aFar z a b c d) (SM σ m (eFar z a b c d) len tx fa z l wl wr)) noX 0 0 24 [some (.ref m), some (.int (ii a)), some (.int (ii b)), some (.int (ii c)), some (.int (ii d))] [.ref m] σ := by
    intro e1
    refine g_iconst q_X10_far_24 ?_
    refine g_putM fp_X10_122 q_X10_far_25 (by repeat first | with_reducible assumption | with_reducible exact hput_s _ _ _ | refine (hput_n _ _ (by omega)).trans ?_ | exact hput_s _ _ _ | assumption) rfl rfl mset_0 ?_
    refine g_aload_n q_X10_far_28 rfl ?_
    refine g_get fl_X10_122 q_X10_far_29 (by repeat first | with_reducible assumption | with_reducible exact hput_s _ _ _ | refine (hput_n _ _ (by omega)).trans ?_ | exact hput_s _ _ _ | assumption) rfl ?_
    refine g_topi (b := (1 : Int)) (by rfl) ?_
    refine g_if_gt (tgt := 50) q_X10_far_32 (by decide) ⟨by omega, by omega⟩ (fun b2 => ?_) (fun b2 => ?_)
    case refine_2 => exact absurd b2 (by decide)
    refine g_aload_n q_X10_far_50 rfl ?_
    refine g_get fl_X10_122 q_X10_far_51 (by repeat first | with_reducible assumption | with_reducible exact hput_s _ _ _ | refine (hput_n _ _ (by omega)).trans ?_ | exact hput_s _ _ _ | assumption) rfl ?_
    refine g_topi (b := (1 : Int)) (by rfl) ?_
    refine g_if_le (tgt := 61) q_X10_far_54 (by decide) ⟨by omega, by omega⟩ (fun b3 => ?_) (fun b3 => ?_)
    case refine_1 => exact absurd b3 (by decide)
    refine g_iconst q_X10_far_57 ?_
    refine g_goto (tgt := 62) q_X10_far_58 (by decide) ?_
    refine g_ireturn q_X10_far_62.1 rfl ?_
    rw [e1]
    exact ⟨rfl, SM.t h hW 1⟩
  refine Sp_of (L := [_, _, _, _, _]) hΓ (by decide +kernel) rfl (Nat.le_of_ble_eq_true rfl) rfl ?_
  refine g_aload_n q_X10_far_0 rfl ?_
  refine g_aload_n q_X10_far_1 rfl ?_
  refine g_iload_n q_X10_far_2 rfl ?_
  refine g_iload_n q_X10_far_3 rfl ?_
  refine g_callV (rc' := 0) (rs' := 0) (As := [_, _]) cs_X10_233 q_X10_far_4 (sp_isCell hΓ h0 hz.1.1 hz.1.2.1 c6 r6 a b ha hb) rfl (by repeat first | with_reducible assumption | with_reducible exact hput_s _ _ _ | refine (hput_n _ _ (by omega)).trans ?_ | exact hput_s _ _ _ | assumption) rfl rfl rfl rfl (Nat.le_of_ble_eq_true rfl) (by decide) (by decide) (by decide) (fun _ _ h => h.elim) (k_rb ?_)
  refine g_if_eq (tgt := 24) q_X10_far_7 (by decide) (bi_rg _) (fun b1 => ?_) (fun b1 => ?_)
  · have hf := of_decide_eq_false (bi_f b1)
    exact out (if_neg (fun q => hf q.1))
  have g1 := of_decide_eq_true (bi_t b1)
  refine g_aload_n q_X10_far_10 rfl ?_
  refine g_iload_n q_X10_far_11 rfl ?_
  refine g_iload q_X10_far_12 rfl ?_
  refine g_callV (rc' := 0) (rs' := 0) (As := [_, _]) cs_X10_233 q_X10_far_14 (sp_isCell hΓ h0 hz.1.1 hz.1.2.1 c6 r6 c d hc hd) rfl (by repeat first | with_reducible assumption | with_reducible exact hput_s _ _ _ | refine (hput_n _ _ (by omega)).trans ?_ | exact hput_s _ _ _ | assumption) rfl rfl rfl rfl (Nat.le_of_ble_eq_true rfl) (by decide) (by decide) (by decide) (fun _ _ h => h.elim) (k_rb ?_)
  refine g_if_eq (tgt := 24) q_X10_far_17 (by decide) (bi_rg _) (fun b2 => ?_) (fun b2 => ?_)
  · have hf := of_decide_eq_false (bi_f b2)
    exact out (if_neg (fun q => hf q.2))
  have g2 := of_decide_eq_true (bi_t b2)
  have e1 : eFar z a b c d = 0 := if_pos ⟨g1, g2⟩
  obtain ⟨k, hk⟩ : ∃ k : Nat, 6 * b + a = k := ⟨(6 * b + a).toNat, by omega⟩
  obtain ⟨j, hj⟩ : ∃ j : Nat, 6 * d + c = j := ⟨(6 * d + c).toNat, by omega⟩
  have gk : gIn (zCo z) (zRo z) k := ⟨by omega, by omega⟩
  have hso : A 6 k = zSO z k := hz.2.2.1 k gk
  have hsr : rg (zSO z k) := by
    have := wf.1.2.1 k
    unfold rg
    omega
  refine g_iconst q_X10_far_20 ?_
  refine g_goto (tgt := 25) q_X10_far_21 (by decide) ?_
  refine g_putM fp_X10_122 q_X10_far_25 (by repeat first | with_reducible assumption | with_reducible exact hput_s _ _ _ | refine (hput_n _ _ (by omega)).trans ?_ | exact hput_s _ _ _ | assumption) rfl rfl mset_0 ?_
  refine g_aload_n q_X10_far_28 rfl ?_
  refine g_get fl_X10_122 q_X10_far_29 (by repeat first | with_reducible assumption | with_reducible exact hput_s _ _ _ | refine (hput_n _ _ (by omega)).trans ?_ | exact hput_s _ _ _ | assumption) rfl ?_
  refine g_topi (b := (0 : Int)) (by rfl) ?_
  refine g_if_gt (tgt := 50) q_X10_far_32 (by decide) ⟨by omega, by omega⟩ (fun b3 => ?_) (fun b3 => ?_)
  · exact absurd b3 (by decide)
  refine g_aload_n q_X10_far_35 rfl ?_
  refine g_get fl_X10_30 q_X10_far_36 (by repeat first | with_reducible assumption | with_reducible exact hput_s _ _ _ | refine (hput_n _ _ (by omega)).trans ?_ | exact hput_s _ _ _ | assumption) rfl ?_
  refine g_bipush q_X10_far_39 bp_6 ?_
  refine g_iload_n q_X10_far_41 rfl ?_
  refine g_imul q_X10_far_42 ?_
  refine g_iload_n q_X10_far_43 rfl ?_
  refine g_iadd q_X10_far_44 ?_
  refine g_topi (b := (k : Int)) (by exact hk) ?_
  refine g_iaload q_X10_far_45 (by repeat first | with_reducible assumption | with_reducible exact hput_s _ _ _ | refine (hput_n _ _ (by omega)).trans ?_ | exact hput_s _ _ _ | assumption) (by omega) (by omega) ?_
  refine g_topi (b := zSO z k) (by rw [← hso]; rfl) ?_
  refine g_iconst q_X10_far_46 ?_
  refine g_icmp_ne (tgt := 63) q_X10_far_47 (by decide) hsr ⟨by omega, by omega⟩ (fun b4 => ?_) (fun b4 => ?_)
  case refine_2 =>
    refine g_aload_n q_X10_far_50 rfl ?_
    refine g_get fl_X10_122 q_X10_far_51 (by repeat first | with_reducible assumption | with_reducible exact hput_s _ _ _ | refine (hput_n _ _ (by omega)).trans ?_ | exact hput_s _ _ _ | assumption) rfl ?_
    refine g_topi (b := (0 : Int)) (by rfl) ?_
    refine g_if_le (tgt := 61) q_X10_far_54 (by decide) ⟨by omega, by omega⟩ (fun b5 => ?_) (fun b5 => ?_)
    case refine_2 => exact absurd b5 (by decide)
    refine g_iconst q_X10_far_61 ?_
    refine g_ireturn q_X10_far_62.1 rfl ?_
    rw [e1]
    refine ⟨?_, SM.t h hW 0⟩
    unfold aFar
    rw [if_pos rfl, hk, Int.toNat_natCast, if_pos b4]
  have hM1 := h.putI (va_up I 0 ((0 : Nat) : Int))
  refine g_aload_n q_X10_far_63 rfl ?_
  refine g_bipush q_X10_far_64 bp_6 ?_
  refine g_iload_n q_X10_far_66 rfl ?_
  refine g_imul q_X10_far_67 ?_
  refine g_iload_n q_X10_far_68 rfl ?_
  refine g_iadd q_X10_far_69 ?_
  refine g_topi (b := (k : Int)) (by exact hk) ?_
  refine g_callV (rc' := 0) (rs' := 0) (As := [_]) cs_X10_296 q_X10_far_70 (sp_laysFar hΓ hM1 (hW.I0 _).2.2.1.1 wf gk b4) rfl (by repeat first | with_reducible assumption | with_reducible exact hput_s _ _ _ | refine (hput_n _ _ (by omega)).trans ?_ | exact hput_s _ _ _ | assumption) rfl rfl rfl rfl (Nat.le_of_ble_eq_true rfl) (by decide) (by decide) (by decide) (fun _ _ h => h.elim) (fun v τ hq => ?_)
  obtain ⟨rfl, hE, f, hM2, hf⟩ := hq
  have h02 := hM2.1
  have h17 : τ.2 (m + 17) = some (ai 36 f) := hM2.a17
  refine g_aload_n q_X10_far_73 rfl ?_
  refine g_get fl_X10_65 q_X10_far_74 (by repeat first | with_reducible assumption | with_reducible exact hput_s _ _ _ | refine (hput_n _ _ (by omega)).trans ?_ | exact hput_s _ _ _ | assumption) rfl ?_
  refine g_bipush q_X10_far_77 bp_6 ?_
  refine g_iload q_X10_far_79 rfl ?_
  refine g_imul q_X10_far_81 ?_
  refine g_iload_n q_X10_far_82 rfl ?_
  refine g_iadd q_X10_far_83 ?_
  refine g_topi (b := (j : Int)) (by exact hj) ?_
  refine g_iaload q_X10_far_84 (by repeat first | with_reducible assumption | with_reducible exact hput_s _ _ _ | refine (hput_n _ _ (by omega)).trans ?_ | exact hput_s _ _ _ | assumption) (by omega) (by omega) ?_
  refine g_topi (b := f j) (by rfl) ?_
  refine g_ireturn q_X10_far_85.1 rfl ?_
  rw [e1]
  refine ⟨?_, SM.far hW hE hM2⟩
  unfold aFar
  rw [if_pos rfl, hk, hj, Int.toNat_natCast, Int.toNat_natCast, if_neg b4, lcs_37 wf hz gk b4 (by omega), hf j (by omega)]
end MFa

