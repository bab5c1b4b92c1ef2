/-! the reference: what is asked of a plan (written by gena1.py) -/
theorem eP_le (g : Bool) (bd : Int) (z : PS) {n1 n2 : Nat} (h1 : n1 ≤ 4) (h2 : n2 ≤ 4) : eP g bd z n1 n2 ≤ 4 := by
  unfold eP
  split
  · exact h1
  · split
    · exact h2
    · exact Nat.zero_le _
theorem eQ_le (q g : Bool) (bd : Int) (z : PS) : eQ q g bd z ≤ 4 := by
  unfold eQ
  split
  · decide
  · exact eP_le g bd z (by decide) (by decide)
theorem eP_z {g : Bool} {bd : Int} {z : PS} {n1 n2 : Nat} (h1 : n1 ≠ 0 ∧ n2 ≠ 0) (h : eP g bd z n1 n2 = 0) : g = true ∧ bOK bd = true ∧ tP (bZ z bd) ≠ -1 := by
  unfold eP at h
  split at h
  · exact absurd h h1.1
  · rename_i q
    split at h
    · exact absurd h h1.2
    · rename_i q2
      have q3 : (g && bOK bd) = true := by
        cases hh : (g && bOK bd) with
        | true => rfl
        | false => exact absurd hh q
      rw [Bool.and_eq_true] at q3
      exact ⟨q3.1, q3.2, q2⟩
theorem eQ_z {q g : Bool} {bd : Int} {z : PS} (h : eQ q g bd z = 0) : q = true ∧ g = true ∧ bOK bd = true ∧ tP (bZ z bd) ≠ -1 := by
  unfold eQ at h
  split at h
  · exact absurd h (by decide)
  · rename_i q1
    refine ⟨?_, eP_z (by decide) h⟩
    cases q with
    | true => rfl
    | false => exact absurd rfl q1
theorem eQ_f {q g : Bool} {bd : Int} {z : PS} (h : q = false) : eQ q g bd z = 1 := by
  unfold eQ
  rw [if_pos h]
section MPL1
variable {Γ : GT} {σ : AH} {m : Nat} {len : Nat} {tx : Nat → Int} {fa e0 : Int} {z : PS} {l : List (Int × Int × Int)} {wl : Nat} {wr : Nat → Int}
theorem sp_mat (hΓ : Gd Γ) (hX : MX σ m e0 len tx fa z l wl wr) (bd : Int) (c : Int) (t : Int) (hbd : rg bd) (hc : rg c) (ht : rg t) : Sp Γ miX10_at 0 0 [.ref m, .int (ii bd), .int (ii c), .int (ii t)] σ (mQ (eQ (cOK z c) (tOK t) bd z) (pPZ z bd (41 * c + t).toNat) (SM σ m (eQ (cOK z c) (tOK t) bd z) len tx fa z l wl wr)) noX := by
  obtain ⟨I, A, N, -, h, hW⟩ := hX
  have h0 := h.1
  have hz := hW.2.2.1.1
  have wf := hW.2.2.1.2
  have n5 := wf.1.1.2.2
  obtain ⟨e, hEe⟩ : ∃ e, e = eQ (cOK z c) (tOK t) bd z := ⟨_, rfl⟩
  have he4 : e ≤ 4 := by rw [hEe]; exact eQ_le _ _ _ _
  rw [← hEe]
  have fin : ∀ τ J B, eqOff σ τ (inb m 34) → MC τ m J B N → MW J B N len tx fa z l wl wr → (e = 0 → PLd J B z bd) → G Γ miX10_at cX10_at (mQ e (pPZ z bd (41 * c + t).toNat) (SM σ m e len tx fa z l wl wr)) noX 0 0 27 [some (.ref m), some (.int (ii bd)), some (.int (ii c)), some (.int (ii t))] [.int (ii (e : Int)), .ref m] τ := by
    intro τ J B hE hM hWB hP
    have t0 := hM.1
    refine g_putM fp_X10_122 q_X10_at_27 (by repeat first | with_reducible assumption | with_reducible exact hput_s _ _ _ | refine (hput_n _ _ (by omega)).trans ?_ | exact hput_s _ _ _ | assumption) rfl rfl mset_0 ?_
    refine g_aload_n q_X10_at_30 rfl ?_
    refine g_get fl_X10_122 q_X10_at_31 (by repeat first | with_reducible assumption | with_reducible exact hput_s _ _ _ | refine (hput_n _ _ (by omega)).trans ?_ | exact hput_s _ _ _ | assumption) rfl ?_
    refine g_topi (b := (e : Int)) (by rfl) ?_
    refine g_if_le (tgt := 41) q_X10_at_34 (by decide) ⟨by omega, by omega⟩ (fun b9 => ?_) (fun b9 => ?_)
    case refine_2 =>
      refine g_iconst q_X10_at_37 ?_
      refine g_goto (tgt := 51) q_X10_at_38 (by decide) ?_
      refine g_ireturn q_X10_at_51.1 rfl ?_
      exact ⟨by rw [if_neg (by omega)], SM.w hE hM hWB e⟩
    have ee : e = 0 := by omega
    subst ee
    obtain ⟨kp, hkp, j35, ha, hrow, hgo, hsum, hsum0, hrow0, hcc⟩ := hP rfl
    have hS := SM.w hE hM hWB 0
    have hM1 := hM.putI (va_up J 0 ((0 : Nat) : Int))
    obtain ⟨τ1, hτ1⟩ : ∃ τ1, τ1 = hput τ m (mdo m (va_up J 0 ((0 : Nat) : Int))) := ⟨_, rfl⟩
    rw [← hτ1] at hS hM1 ⊢
    clear hτ1 hE t0 hP
    have hrB := hWB.2.2.2.2.2.2.2
    have hzB := hWB.2.2.1.1
    have j35 : va_up J 0 ((0 : Nat) : Int) 35 = kp := j35
    have j15 : va_up J 0 ((0 : Nat) : Int) 15 = zCa z := hzB.1.2.2
    obtain ⟨J1, hJ1⟩ : ∃ J1, J1 = va_up J 0 ((0 : Nat) : Int) := ⟨_, rfl⟩
    rw [← hJ1] at j35 j15 hM1
    have hzJ : MZ J1 B z := by rw [hJ1]; exact hzB.cg ⟨rfl, rfl, rfl⟩ rfl rfl rfl
    clear hJ1
    have u0 := hM1.1
    have u16 := hM1.a16
    obtain ⟨eq1, eq2⟩ := eQ_z hEe.symm
    unfold mQ
    rw [if_pos rfl]
    have hc1 := of_decide_eq_true eq1
    obtain ⟨i, hi⟩ : ∃ i : Nat, c = i := ⟨c.toNat, by omega⟩
    subst hi
    have ht1 := of_decide_eq_true eq2.1
    obtain ⟨u, hu⟩ : ∃ u : Nat, t = u := ⟨t.toNat, by omega⟩
    subst hu
    refine g_aload_n q_X10_at_41 rfl ?_
    refine g_aload_n q_X10_at_42 rfl ?_
    refine g_get fl_X10_314 q_X10_at_43 (by repeat first | with_reducible assumption | with_reducible exact hput_s _ _ _ | refine (hput_n _ _ (by omega)).trans ?_ | exact hput_s _ _ _ | assumption) rfl ?_
    refine g_topi (b := (kp : Int)) (by exact j35) ?_
    refine g_iload_n q_X10_at_46 rfl ?_
    refine g_iload_n q_X10_at_47 rfl ?_
    refine g_callV (rc' := 0) (rs' := 0) (As := [_, _, _]) cs_X10_263 q_X10_at_48 (sp_wayAt hΓ u0 u16 kp i u (by omega) (by omega) (by omega)) rfl (by repeat first | with_reducible assumption | with_reducible exact hput_s _ _ _ | refine (hput_n _ _ (by omega)).trans ?_ | exact hput_s _ _ _ | assumption) rfl rfl rfl rfl (Nat.le_of_ble_eq_true rfl) (by decide) (by decide) (by decide) (fun _ _ h => h.elim) (k_ri ?_)
    refine g_ireturn q_X10_at_51.1 rfl ?_
    rw [hrow _ (by omega), show (41 * (i : Int) + u).toNat = 41 * i + u by omega]
    exact ⟨rfl, hS⟩
  refine Sp_of (L := [_, _, _, _]) hΓ (by decide +kernel) rfl (Nat.le_of_ble_eq_true rfl) rfl ?_
  refine g_aload_n q_X10_at_0 rfl ?_
  refine g_aload_n q_X10_at_1 rfl ?_
  refine g_iload_n q_X10_at_2 rfl ?_
  refine g_callV (rc' := 0) (rs' := 0) (As := [_]) cs_X10_237 q_X10_at_3 (sp_isCart hΓ h0 hz.1.2.2 n5 c hc) rfl (by repeat first | with_reducible assumption | with_reducible exact hput_s _ _ _ | refine (hput_n _ _ (by omega)).trans ?_ | exact hput_s _ _ _ | assumption) rfl rfl rfl rfl (Nat.le_of_ble_eq_true rfl) (by decide) (by decide) (by decide) (fun _ _ h => h.elim) (k_rb ?_)
  refine g_if_ne (tgt := 13) q_X10_at_6 (by decide) (bi_rg _) (fun b1 => ?_) (fun b1 => ?_)
  case refine_2 =>
    have e1 : e = 1 := by rw [hEe]; exact eQ_f (decide_eq_false (of_decide_eq_false (bi_f (show bi (decide (0 ≤ c ∧ c < (zCa z : Int))) = 0 by omega))))
    refine g_iconst q_X10_at_9 ?_
    refine g_goto (tgt := 27) q_X10_at_10 (by decide) ?_
    refine g_topi (b := (e : Int)) (by rw [e1]; rfl) ?_
    exact fin σ I A eqOff.rfl' h hW (fun q => by omega)
  have c1 : cOK z c = true := decide_eq_true (of_decide_eq_true (bi_t b1))
  refine g_aload_n q_X10_at_13 rfl ?_
  refine g_iload_n q_X10_at_14 rfl ?_
  refine g_iconst q_X10_at_15 ?_
  refine g_bipush q_X10_at_16 bp_40 ?_
  refine g_callS (rc' := 0) (rs' := 0) (As := [_, _, _]) cs_X10_229 q_X10_at_18 (sp_isIn hΓ t 0 40 ht ⟨by decide, by decide⟩ ⟨by decide, by decide⟩) rfl rfl rfl (Nat.le_of_ble_eq_true rfl) (by decide) (by decide) (by decide) (fun _ _ h => h.elim) (k_rb ?_)
  refine g_iload_n q_X10_at_21 rfl ?_
  refine g_iconst q_X10_at_22 ?_
  refine g_iconst q_X10_at_23 ?_
  refine g_callV (rc' := 0) (rs' := 0) (As := [_, _, _, _]) cs_X10_337 q_X10_at_24 (sp_wrongPlan hΓ h hW (tOK t) bd hbd 2 3 (by decide) (by decide)) rfl (by repeat first | with_reducible assumption | with_reducible exact hput_s _ _ _ | refine (hput_n _ _ (by omega)).trans ?_ | exact hput_s _ _ _ | assumption) rfl rfl rfl rfl (Nat.le_of_ble_eq_true rfl) (by decide) (by decide) (by decide) (fun _ _ h => h.elim) (fun v τ hq => ?_)
  rw [← show e = _ from hEe.trans (eQ_t c1)] at hq
  obtain ⟨rfl, hE, J, B, hM, hWB, hP⟩ := hq
  exact fin τ J B hE hM hWB hP

theorem mvs_ahd : ∀ k, k < 4 → mvs (t_ahd k) = (k : Int) := by decide

theorem sp_mmove (hΓ : Gd Γ) (hX : MX σ m e0 len tx fa z l wl wr) (bd : Int) (c : Int) (t : Int) (hbd : rg bd) (hc : rg c) (ht : rg t) : Sp Γ miX10_move 0 0 [.ref m, .int (ii bd), .int (ii c), .int (ii t)] σ (mQ (eQ (cOK z c) (t9OK t) bd z) (mvs (pPZ z bd (41 * c + t + 1).toNat - pPZ z bd (41 * c + t).toNat)) (SM σ m (eQ (cOK z c) (t9OK t) bd z) len tx fa z l wl wr)) noX := by
  obtain ⟨I, A, N, -, h, hW⟩ := hX
  have h0 := h.1
  have hz := hW.2.2.1.1
  have wf := hW.2.2.1.2
  have n5 := wf.1.1.2.2
  obtain ⟨e, hEe⟩ : ∃ e, e = eQ (cOK z c) (t9OK t) bd z := ⟨_, rfl⟩
  have he4 : e ≤ 4 := by rw [hEe]; exact eQ_le _ _ _ _
  rw [← hEe]
  have fin : ∀ τ J B, eqOff σ τ (inb m 34) → MC τ m J B N → MW J B N len tx fa z l wl wr → (e = 0 → PLd J B z bd) → G Γ miX10_move cX10_move (mQ e (mvs (pPZ z bd (41 * c + t + 1).toNat - pPZ z bd (41 * c + t).toNat)) (SM σ m e len tx fa z l wl wr)) noX 0 0 27 [some (.ref m), some (.int (ii bd)), some (.int (ii c)), some (.int (ii t)), none, none] [.int (ii (e : Int)), .ref m] τ := by
    intro τ J B hE hM hWB hP
    have t0 := hM.1
    refine g_putM fp_X10_122 q_X10_move_27 (by repeat first | with_reducible assumption | with_reducible exact hput_s _ _ _ | refine (hput_n _ _ (by omega)).trans ?_ | exact hput_s _ _ _ | assumption) rfl rfl mset_0 ?_
    refine g_aload_n q_X10_move_30 rfl ?_
    refine g_get fl_X10_122 q_X10_move_31 (by repeat first | with_reducible assumption | with_reducible exact hput_s _ _ _ | refine (hput_n _ _ (by omega)).trans ?_ | exact hput_s _ _ _ | assumption) rfl ?_
    refine g_topi (b := (e : Int)) (by rfl) ?_
    refine g_if_le (tgt := 39) q_X10_move_34 (by decide) ⟨by omega, by omega⟩ (fun b9 => ?_) (fun b9 => ?_)
    case refine_2 =>
      refine g_iconst q_X10_move_37 ?_
      refine g_ireturn q_X10_move_38.1 rfl ?_
      exact ⟨by rw [if_neg (by omega)], SM.w hE hM hWB e⟩
    have ee : e = 0 := by omega
    subst ee
    obtain ⟨kp, hkp, j35, ha, hrow, hgo, hsum, hsum0, hrow0, hcc⟩ := hP rfl
    have hS := SM.w hE hM hWB 0
    have hM1 := hM.putI (va_up J 0 ((0 : Nat) : Int))
    obtain ⟨τ1, hτ1⟩ : ∃ τ1, τ1 = hput τ m (mdo m (va_up J 0 ((0 : Nat) : Int))) := ⟨_, rfl⟩
    rw [← hτ1] at hS hM1 ⊢
    clear hτ1 hE t0 hP
    have hrB := hWB.2.2.2.2.2.2.2
    have hzB := hWB.2.2.1.1
    have j35 : va_up J 0 ((0 : Nat) : Int) 35 = kp := j35
    have j15 : va_up J 0 ((0 : Nat) : Int) 15 = zCa z := hzB.1.2.2
    obtain ⟨J1, hJ1⟩ : ∃ J1, J1 = va_up J 0 ((0 : Nat) : Int) := ⟨_, rfl⟩
    rw [← hJ1] at j35 j15 hM1
    have hzJ : MZ J1 B z := by rw [hJ1]; exact hzB.cg ⟨rfl, rfl, rfl⟩ rfl rfl rfl
    clear hJ1
    have u0 := hM1.1
    have u16 := hM1.a16
    obtain ⟨eq1, eq2⟩ := eQ_z hEe.symm
    unfold mQ
    rw [if_pos rfl]
    have hc1 := of_decide_eq_true eq1
    obtain ⟨i, hi⟩ : ∃ i : Nat, c = i := ⟨c.toNat, by omega⟩
    subst hi
    have ht1 := of_decide_eq_true eq2.1
    obtain ⟨u, hu⟩ : ∃ u : Nat, t = u := ⟨t.toNat, by omega⟩
    subst hu
    rw [show (41 * (i : Int) + u + 1).toNat = 41 * i + (u + 1) by omega, show (41 * (i : Int) + u).toNat = 41 * i + u by omega]
    obtain ⟨P, hP⟩ : ∃ P, P = pPZ z bd := ⟨_, rfl⟩
    rw [← hP] at hrow hgo ⊢
    have hg := hgo i (by omega)
    have hgu : (0 ≤ P (41 * i + u) ∧ P (41 * i + u) < 36) ∧ gIn (zCo z) (zRo z) (P (41 * i + u)).toNat ∧ zSO z (P (41 * i + u)).toNat ≠ 1 := hg.gin wf (by omega) u (by omega)
    have hgv : (0 ≤ P (41 * i + (u + 1)) ∧ P (41 * i + (u + 1)) < 36) ∧ gIn (zCo z) (zRo z) (P (41 * i + (u + 1))).toNat ∧ zSO z (P (41 * i + (u + 1))).toNat ≠ 1 := hg.gin wf (by omega) (u + 1) (by omega)
    have hlg : lgS z (P (41 * i + u)) (P (41 * i + (u + 1))) := hg.2.2.2.2.2 u (by omega)
    obtain ⟨f, hf⟩ : ∃ f : Nat, P (41 * i + u) = f := ⟨(P (41 * i + u)).toNat, by omega⟩
    obtain ⟨v, hv⟩ : ∃ v : Int, P (41 * i + (u + 1)) = v := ⟨_, rfl⟩
    rw [hf, hv] at hlg ⊢
    rw [hf] at hgu
    rw [hv] at hgv
    refine g_aload_n q_X10_move_39 rfl ?_
    refine g_aload_n q_X10_move_40 rfl ?_
    refine g_get fl_X10_314 q_X10_move_41 (by repeat first | with_reducible assumption | with_reducible exact hput_s _ _ _ | refine (hput_n _ _ (by omega)).trans ?_ | exact hput_s _ _ _ | assumption) rfl ?_
    refine g_topi (b := (kp : Int)) (by exact j35) ?_
    refine g_iload_n q_X10_move_44 rfl ?_
    refine g_iload_n q_X10_move_45 rfl ?_
    refine g_callV (rc' := 0) (rs' := 0) (As := [_, _, _]) cs_X10_263 q_X10_move_46 (sp_wayAt hΓ u0 u16 kp i u (by omega) (by omega) (by omega)) rfl (by repeat first | with_reducible assumption | with_reducible exact hput_s _ _ _ | refine (hput_n _ _ (by omega)).trans ?_ | exact hput_s _ _ _ | assumption) rfl rfl rfl rfl (Nat.le_of_ble_eq_true rfl) (by decide) (by decide) (by decide) (fun _ _ h => h.elim) (k_ri ?_)
    refine g_topi (b := (f : Int)) ((hrow _ (by omega)).trans hf) ?_
    refine g_istore (L' := [_, _, _, _, _, _]) q_X10_move_49 (by decide) rfl ?_
    refine g_aload_n q_X10_move_51 rfl ?_
    refine g_aload_n q_X10_move_52 rfl ?_
    refine g_get fl_X10_314 q_X10_move_53 (by repeat first | with_reducible assumption | with_reducible exact hput_s _ _ _ | refine (hput_n _ _ (by omega)).trans ?_ | exact hput_s _ _ _ | assumption) rfl ?_
    refine g_topi (b := (kp : Int)) (by exact j35) ?_
    refine g_iload_n q_X10_move_56 rfl ?_
    refine g_iload_n q_X10_move_57 rfl ?_
    refine g_iconst q_X10_move_58 ?_
    refine g_iadd q_X10_move_59 ?_
    refine g_topi (b := ((u + 1 : Nat) : Int)) (by omega) ?_
    refine g_callV (rc' := 0) (rs' := 0) (As := [_, _, _]) cs_X10_263 q_X10_move_60 (sp_wayAt hΓ u0 u16 kp i (u + 1) (by omega) (by omega) (by omega)) rfl (by repeat first | with_reducible assumption | with_reducible exact hput_s _ _ _ | refine (hput_n _ _ (by omega)).trans ?_ | exact hput_s _ _ _ | assumption) rfl rfl rfl rfl (Nat.le_of_ble_eq_true rfl) (by decide) (by decide) (by decide) (fun _ _ h => h.elim) (k_ri ?_)
    refine g_topi (b := v) ((hrow _ (by omega)).trans hv) ?_
    refine g_istore (L' := [_, _, _, _, _, _]) q_X10_move_63 (by decide) rfl ?_
    refine g_iload q_X10_move_65 rfl ?_
    refine g_iload q_X10_move_67 rfl ?_
    refine g_icmp_ne (tgt := 76) q_X10_move_69 (by decide) ⟨by omega, by omega⟩ ⟨by omega, by omega⟩ (fun b1 => ?_) (fun b1 => ?_)
    case refine_2 =>
      refine g_iconst q_X10_move_72 ?_
      refine g_goto (tgt := 84) q_X10_move_73 (by decide) ?_
      refine g_ireturn q_X10_move_84.1 rfl ?_
      rw [show v - (f : Int) = 0 by omega]
      exact ⟨rfl, hS⟩
    refine g_aload_n q_X10_move_76 rfl ?_
    refine g_iload q_X10_move_77 rfl ?_
    refine g_iload q_X10_move_79 rfl ?_
    refine g_callV (rc' := 0) (rs' := 0) (As := [_, _]) cs_X10_299 q_X10_move_81 (sp_mmoveOf hΓ (hzJ.g hM1 wf) f (by omega) v ⟨by omega, by omega⟩) rfl (by repeat first | with_reducible assumption | with_reducible exact hput_s _ _ _ | refine (hput_n _ _ (by omega)).trans ?_ | exact hput_s _ _ _ | assumption) rfl rfl rfl rfl (Nat.le_of_ble_eq_true rfl) (by decide) (by decide) (by decide) (fun _ _ h => h.elim) (k_ri ?_)
    obtain ⟨k, hk4, hl, hvk⟩ := hlg.resolve_left (fun q => b1 q.symm)
    rw [Int.toNat_natCast] at hgu hl
    rw [hvk, mvM_lg wf hzJ.2.2.1 hgu.2.1 hgu.2.2 hk4 hl, show (f : Int) + t_ahd k - f = t_ahd k by omega, mvs_ahd k hk4]
    refine g_ireturn q_X10_move_84.1 rfl ?_
    exact ⟨rfl, hS⟩
  refine Sp_of (L := [_, _, _, _, _, _]) hΓ (by decide +kernel) rfl (Nat.le_of_ble_eq_true rfl) rfl ?_
  refine g_aload_n q_X10_move_0 rfl ?_
  refine g_aload_n q_X10_move_1 rfl ?_
  refine g_iload_n q_X10_move_2 rfl ?_
  refine g_callV (rc' := 0) (rs' := 0) (As := [_]) cs_X10_237 q_X10_move_3 (sp_isCart hΓ h0 hz.1.2.2 n5 c hc) rfl (by repeat first | with_reducible assumption | with_reducible exact hput_s _ _ _ | refine (hput_n _ _ (by omega)).trans ?_ | exact hput_s _ _ _ | assumption) rfl rfl rfl rfl (Nat.le_of_ble_eq_true rfl) (by decide) (by decide) (by decide) (fun _ _ h => h.elim) (k_rb ?_)
  refine g_if_ne (tgt := 13) q_X10_move_6 (by decide) (bi_rg _) (fun b1 => ?_) (fun b1 => ?_)
  case refine_2 =>
    have e1 : e = 1 := by rw [hEe]; exact eQ_f (decide_eq_false (of_decide_eq_false (bi_f (show bi (decide (0 ≤ c ∧ c < (zCa z : Int))) = 0 by omega))))
    refine g_iconst q_X10_move_9 ?_
    refine g_goto (tgt := 27) q_X10_move_10 (by decide) ?_
    refine g_topi (b := (e : Int)) (by rw [e1]; rfl) ?_
    exact fin σ I A eqOff.rfl' h hW (fun q => by omega)
  have c1 : cOK z c = true := decide_eq_true (of_decide_eq_true (bi_t b1))
  refine g_aload_n q_X10_move_13 rfl ?_
  refine g_iload_n q_X10_move_14 rfl ?_
  refine g_iconst q_X10_move_15 ?_
  refine g_bipush q_X10_move_16 bp_39 ?_
  refine g_callS (rc' := 0) (rs' := 0) (As := [_, _, _]) cs_X10_229 q_X10_move_18 (sp_isIn hΓ t 0 39 ht ⟨by decide, by decide⟩ ⟨by decide, by decide⟩) rfl rfl rfl (Nat.le_of_ble_eq_true rfl) (by decide) (by decide) (by decide) (fun _ _ h => h.elim) (k_rb ?_)
  rw [decide_eq_decide.mpr (show (0 ≤ t ∧ t ≤ 39) ↔ (0 ≤ t ∧ t < 40) from ⟨fun h => by omega, fun h => by omega⟩)]
  refine g_iload_n q_X10_move_21 rfl ?_
  refine g_iconst q_X10_move_22 ?_
  refine g_iconst q_X10_move_23 ?_
  refine g_callV (rc' := 0) (rs' := 0) (As := [_, _, _, _]) cs_X10_337 q_X10_move_24 (sp_wrongPlan hΓ h hW (t9OK t) bd hbd 2 3 (by decide) (by decide)) rfl (by repeat first | with_reducible assumption | with_reducible exact hput_s _ _ _ | refine (hput_n _ _ (by omega)).trans ?_ | exact hput_s _ _ _ | assumption) rfl rfl rfl rfl (Nat.le_of_ble_eq_true rfl) (by decide) (by decide) (by decide) (fun _ _ h => h.elim) (fun v τ hq => ?_)
  rw [← show e = _ from hEe.trans (eQ_t c1)] at hq
  obtain ⟨rfl, hE, J, B, hM, hWB, hP⟩ := hq
  exact fin τ J B hE hM hWB hP

theorem sp_mwho (hΓ : Gd Γ) (hX : MX σ m e0 len tx fa z l wl wr) (bd : Int) (a : Int) (b : Int) (t : Int) (hbd : rg bd) (ha : rg a) (hb : rg b) (ht : rg t) : Sp Γ miX10_who 0 0 [.ref m, .int (ii bd), .int (ii a), .int (ii b), .int (ii t)] σ (mQ (eQ (xyOK z a b) (tOK t) bd z) (aWho (pPZ z bd) (zCa z) (6 * b + a) t.toNat) (SM σ m (eQ (xyOK z a b) (tOK t) bd z) len tx fa z l wl wr)) noX := by
  obtain ⟨I, A, N, -, h, hW⟩ := hX
  have h0 := h.1
  have hz := hW.2.2.1.1
  have wf := hW.2.2.1.2
  have n5 := wf.1.1.2.2
  obtain ⟨e, hEe⟩ : ∃ e, e = eQ (xyOK z a b) (tOK t) bd z := ⟨_, rfl⟩
  have he4 : e ≤ 4 := by rw [hEe]; exact eQ_le _ _ _ _
  rw [← hEe]
  have fin : ∀ τ J B, eqOff σ τ (inb m 34) → MC τ m J B N → MW J B N len tx fa z l wl wr → (e = 0 → PLd J B z bd) → G Γ miX10_who cX10_who (mQ e (aWho (pPZ z bd) (zCa z) (6 * b + a) t.toNat) (SM σ m e len tx fa z l wl wr)) noX 0 0 29 [some (.ref m), some (.int (ii bd)), some (.int (ii a)), some (.int (ii b)), some (.int (ii t)), none] [.int (ii (e : Int)), .ref m] τ := by
    intro τ J B hE hM hWB hP
    have t0 := hM.1
    refine g_putM fp_X10_122 q_X10_who_29 (by repeat first | with_reducible assumption | with_reducible exact hput_s _ _ _ | refine (hput_n _ _ (by omega)).trans ?_ | exact hput_s _ _ _ | assumption) rfl rfl mset_0 ?_
    refine g_aload_n q_X10_who_32 rfl ?_
    refine g_get fl_X10_122 q_X10_who_33 (by repeat first | with_reducible assumption | with_reducible exact hput_s _ _ _ | refine (hput_n _ _ (by omega)).trans ?_ | exact hput_s _ _ _ | assumption) rfl ?_
    refine g_topi (b := (e : Int)) (by rfl) ?_
    refine g_if_le (tgt := 41) q_X10_who_36 (by decide) ⟨by omega, by omega⟩ (fun b9 => ?_) (fun b9 => ?_)
    case refine_2 =>
      refine g_iconst q_X10_who_39 ?_
      refine g_ireturn q_X10_who_40.1 rfl ?_
      exact ⟨by rw [if_neg (by omega)], SM.w hE hM hWB e⟩
    have ee : e = 0 := by omega
    subst ee
    obtain ⟨kp, hkp, j35, ha, hrow, hgo, hsum, hsum0, hrow0, hcc⟩ := hP rfl
    have hS := SM.w hE hM hWB 0
    have hM1 := hM.putI (va_up J 0 ((0 : Nat) : Int))
    obtain ⟨τ1, hτ1⟩ : ∃ τ1, τ1 = hput τ m (mdo m (va_up J 0 ((0 : Nat) : Int))) := ⟨_, rfl⟩
    rw [← hτ1] at hS hM1 ⊢
    clear hτ1 hE t0 hP
    have hrB := hWB.2.2.2.2.2.2.2
    have hzB := hWB.2.2.1.1
    have j35 : va_up J 0 ((0 : Nat) : Int) 35 = kp := j35
    have j15 : va_up J 0 ((0 : Nat) : Int) 15 = zCa z := hzB.1.2.2
    obtain ⟨J1, hJ1⟩ : ∃ J1, J1 = va_up J 0 ((0 : Nat) : Int) := ⟨_, rfl⟩
    rw [← hJ1] at j35 j15 hM1
    have hzJ : MZ J1 B z := by rw [hJ1]; exact hzB.cg ⟨rfl, rfl, rfl⟩ rfl rfl rfl
    clear hJ1
    have u0 := hM1.1
    have u16 := hM1.a16
    obtain ⟨eq1, eq2⟩ := eQ_z hEe.symm
    unfold mQ
    rw [if_pos rfl]
    have hc1 := of_decide_eq_true eq1
    have c6 := wf.1.1.1
    have r6 := wf.1.1.2.1
    have ht1 := of_decide_eq_true eq2.1
    obtain ⟨u, hu⟩ : ∃ u : Nat, t = u := ⟨t.toNat, by omega⟩
    subst hu
    rw [Int.toNat_natCast]
    obtain ⟨P, hP⟩ : ∃ P, P = pPZ z bd := ⟨_, rfl⟩
    rw [← hP] at hrow hgo ⊢
    refine g_iconst q_X10_who_41 ?_
    refine g_istore (L' := [_, _, _, _, _, _]) q_X10_who_42 (by decide) rfl ?_
    refine g_loop (fun k => k ≤ zCa z ∧ ∀ j, j < k → P (41 * j + u) ≠ 6 * b + a) (fun k : Nat => G Γ _ cX10_who _ _ 0 0 44 [some (.ref m), some (.int (ii bd)), some (.int (ii a)), some (.int (ii b)), some (.int (ii (u : Int))), some (.int (ii k))] [] τ1) (fun k => zCa z - k) ?_ 0 ⟨Nat.zero_le _, fun j hj => absurd hj (Nat.not_lt_zero j)⟩
    rintro k ⟨hk1, hn⟩ ih
    refine g_iload q_X10_who_44 rfl ?_
    refine g_aload_n q_X10_who_46 rfl ?_
    refine g_get fl_X10_220 q_X10_who_47 (by repeat first | with_reducible assumption | with_reducible exact hput_s _ _ _ | refine (hput_n _ _ (by omega)).trans ?_ | exact hput_s _ _ _ | assumption) rfl ?_
    refine g_topi (b := (zCa z : Int)) (by exact j15) ?_
    refine g_icmp_ge (tgt := 83) q_X10_who_50 (by decide) ⟨by omega, by omega⟩ ⟨by omega, by omega⟩ (fun b1 => ?_) (fun b1 => ?_)
    · refine g_iconst q_X10_who_83 ?_
      refine g_ireturn q_X10_who_84.1 rfl ?_
      have e : aWho P (zCa z) (6 * b + a) u = -1 := fstN_none (fun j hj => decide_eq_false (hn j (by omega)))
      rw [e]
      exact ⟨rfl, hS⟩
    have hr9 := hrB (205 * kp + (41 * k + u))
    have hgk : (0 ≤ P (41 * k + u) ∧ P (41 * k + u) < 36) ∧ _ := (hgo k (by omega)).gin wf (by omega) u (by omega)
    refine g_aload_n q_X10_who_53 rfl ?_
    refine g_aload_n q_X10_who_54 rfl ?_
    refine g_get fl_X10_314 q_X10_who_55 (by repeat first | with_reducible assumption | with_reducible exact hput_s _ _ _ | refine (hput_n _ _ (by omega)).trans ?_ | exact hput_s _ _ _ | assumption) rfl ?_
    refine g_topi (b := (kp : Int)) (by exact j35) ?_
    refine g_iload q_X10_who_58 rfl ?_
    refine g_iload q_X10_who_60 rfl ?_
    refine g_callV (rc' := 0) (rs' := 0) (As := [_, _, _]) cs_X10_263 q_X10_who_62 (sp_wayAt hΓ u0 u16 kp k u (by omega) (by omega) (by omega)) rfl (by repeat first | with_reducible assumption | with_reducible exact hput_s _ _ _ | refine (hput_n _ _ (by omega)).trans ?_ | exact hput_s _ _ _ | assumption) rfl rfl rfl rfl (Nat.le_of_ble_eq_true rfl) (by decide) (by decide) (by decide) (fun _ _ h => h.elim) (k_ri ?_)
    refine g_topi (b := P (41 * k + u)) (hrow _ (by omega)) ?_
    refine g_bipush q_X10_who_65 bp_6 ?_
    refine g_iload_n q_X10_who_67 rfl ?_
    refine g_imul q_X10_who_68 ?_
    refine g_iload_n q_X10_who_69 rfl ?_
    refine g_iadd q_X10_who_70 ?_
    refine g_icmp_ne (tgt := 77) q_X10_who_71 (by decide) ⟨by omega, by omega⟩ ⟨by omega, by omega⟩ (fun b2 => ?_) (fun b2 => ?_)
    · have hnx := ih (k + 1) ⟨by omega, fun j hj => by
        by_cases e : j = k
        · subst e; exact b2
        · exact hn j (by omega)⟩ (by omega)
      refine g_iinc (L' := [_, _, _, _, _, _]) q_X10_who_77 rfl rfl ?_
      refine g_goto (tgt := 44) q_X10_who_80 (by decide) ?_
      exact hnx
    · refine g_iload q_X10_who_74 rfl ?_
      refine g_ireturn q_X10_who_76.1 rfl ?_
      have e : aWho P (zCa z) (6 * b + a) u = k := fstN_some (by omega) (decide_eq_true (by omega)) (fun j hj => decide_eq_false (hn j hj))
      rw [e]
      exact ⟨rfl, hS⟩
  refine Sp_of (L := [_, _, _, _, _, _]) hΓ (by decide +kernel) rfl (Nat.le_of_ble_eq_true rfl) rfl ?_
  refine g_aload_n q_X10_who_0 rfl ?_
  refine g_aload_n q_X10_who_1 rfl ?_
  refine g_iload_n q_X10_who_2 rfl ?_
  refine g_iload_n q_X10_who_3 rfl ?_
  refine g_callV (rc' := 0) (rs' := 0) (As := [_, _]) cs_X10_233 q_X10_who_4 (sp_isCell hΓ h0 hz.1.1 hz.1.2.1 wf.1.1.1 wf.1.1.2.1 a b ha hb) rfl (by repeat first | with_reducible assumption | with_reducible exact hput_s _ _ _ | refine (hput_n _ _ (by omega)).trans ?_ | exact hput_s _ _ _ | assumption) rfl rfl rfl rfl (Nat.le_of_ble_eq_true rfl) (by decide) (by decide) (by decide) (fun _ _ h => h.elim) (k_rb ?_)
  refine g_if_ne (tgt := 14) q_X10_who_7 (by decide) (bi_rg _) (fun b1 => ?_) (fun b1 => ?_)
  case refine_2 =>
    have e1 : e = 1 := by rw [hEe]; exact eQ_f (decide_eq_false (of_decide_eq_false (bi_f (show bi (decide (0 ≤ a ∧ a < (zCo z : Int) ∧ 0 ≤ b ∧ b < (zRo z : Int))) = 0 by omega))))
    refine g_iconst q_X10_who_10 ?_
    refine g_goto (tgt := 29) q_X10_who_11 (by decide) ?_
    refine g_topi (b := (e : Int)) (by rw [e1]; rfl) ?_
    exact fin σ I A eqOff.rfl' h hW (fun q => by omega)
  have c1 : xyOK z a b = true := decide_eq_true (of_decide_eq_true (bi_t b1))
  refine g_aload_n q_X10_who_14 rfl ?_
  refine g_iload q_X10_who_15 rfl ?_
  refine g_iconst q_X10_who_17 ?_
  refine g_bipush q_X10_who_18 bp_40 ?_
  refine g_callS (rc' := 0) (rs' := 0) (As := [_, _, _]) cs_X10_229 q_X10_who_20 (sp_isIn hΓ t 0 40 ht ⟨by decide, by decide⟩ ⟨by decide, by decide⟩) rfl rfl rfl (Nat.le_of_ble_eq_true rfl) (by decide) (by decide) (by decide) (fun _ _ h => h.elim) (k_rb ?_)
  refine g_iload_n q_X10_who_23 rfl ?_
  refine g_iconst q_X10_who_24 ?_
  refine g_iconst q_X10_who_25 ?_
  refine g_callV (rc' := 0) (rs' := 0) (As := [_, _, _, _]) cs_X10_337 q_X10_who_26 (sp_wrongPlan hΓ h hW (tOK t) bd hbd 2 3 (by decide) (by decide)) rfl (by repeat first | with_reducible assumption | with_reducible exact hput_s _ _ _ | refine (hput_n _ _ (by omega)).trans ?_ | exact hput_s _ _ _ | assumption) rfl rfl rfl rfl (Nat.le_of_ble_eq_true rfl) (by decide) (by decide) (by decide) (fun _ _ h => h.elim) (fun v τ hq => ?_)
  rw [← show e = _ from hEe.trans (eQ_t c1)] at hq
  obtain ⟨rfl, hE, J, B, hM, hWB, hP⟩ := hq
  exact fin τ J B hE hM hWB hP

end MPL1

