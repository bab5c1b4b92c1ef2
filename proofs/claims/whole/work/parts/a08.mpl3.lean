/-! the reference: waits, follows, near, ended (written by gena3.py) -/
section MPL3
variable {Γ : GT} {σ : AH} {m : Nat} {len : Nat} {tx : Nat → Int} {fa e0 : Int} {z : PS} {l : List (Int × Int × Int)} {wl : Nat} {wr : Nat → Int}
theorem sp_mwaits (hΓ : Gd Γ) (hX : MX σ m e0 len tx fa z l wl wr) (bd : Int) (hbd : rg bd) : Sp Γ miX10_waits 0 0 [.ref m, .int (ii bd)] σ (mQ (eP (true) bd z 1 2) (aWait (pPZ z bd) (pCZ z bd) (zCa z)) (SM σ m (eP (true) bd z 1 2) len tx fa z l wl wr)) noX := by
  obtain ⟨I, A, N, -, h, hW⟩ := hX
  have h0 := h.1
  have hz := hW.2.2.1.1
  have wf := hW.2.2.1.2
  have n5 := wf.1.1.2.2
  obtain ⟨e, hEe⟩ : ∃ e, e = eP (true) bd z 1 2 := ⟨_, rfl⟩
  have he4 : e ≤ 4 := by rw [hEe]; exact eP_le _ _ _ (by decide) (by decide)
  rw [← hEe]
  have fin : ∀ τ J B, eqOff σ τ (inb m 34) → MC τ m J B N → MW J B N len tx fa z l wl wr → (e = 0 → PLd J B z bd) → G Γ miX10_waits cX10_waits (mQ e (aWait (pPZ z bd) (pCZ z bd) (zCa z)) (SM σ m e len tx fa z l wl wr)) noX 0 0 9 [some (.ref m), some (.int (ii bd)), none, none, none] [.int (ii (e : Int)), .ref m] τ := by
    intro τ J B hE hM hWB hP
    have t0 := hM.1
    refine g_putM fp_X10_122 q_X10_waits_9 (by repeat first | with_reducible assumption | with_reducible exact hput_s _ _ _ | refine (hput_n _ _ (by omega)).trans ?_ | exact hput_s _ _ _ | assumption) rfl rfl mset_0 ?_
    refine g_aload_n q_X10_waits_12 rfl ?_
    refine g_get fl_X10_122 q_X10_waits_13 (by repeat first | with_reducible assumption | with_reducible exact hput_s _ _ _ | refine (hput_n _ _ (by omega)).trans ?_ | exact hput_s _ _ _ | assumption) rfl ?_
    refine g_topi (b := (e : Int)) (by rfl) ?_
    refine g_if_le (tgt := 21) q_X10_waits_16 (by decide) ⟨by omega, by omega⟩ (fun b9 => ?_) (fun b9 => ?_)
    case refine_2 =>
      refine g_iconst q_X10_waits_19 ?_
      refine g_ireturn q_X10_waits_20.1 rfl ?_
      exact ⟨by rw [if_neg (by omega)], SM.w hE hM hWB e⟩
    have ee : e = 0 := by omega
    subst ee
    obtain ⟨kp, hkp, j35, ha, hrow, hgo, hsum, hsum0, hrow0, hcc⟩ := hP rfl
    have hS := SM.w hE hM hWB 0
    have hM1 := hM.putI (va_up J 0 ((0 : Nat) : Int))
    obtain ⟨τ1, hτ1⟩ : ∃ τ1, τ1 = hput τ m (mdo m (va_up J 0 ((0 : Nat) : Int))) := ⟨_, rfl⟩
    rw [← hτ1] at hS hM1 ⊢
    clear hτ1 hE t0 hP
    have hrB := hWB.2.2.2.2.2.2.2
    have hzB := hWB.2.2.1.1
    have j35 : va_up J 0 ((0 : Nat) : Int) 35 = kp := j35
    have j15 : va_up J 0 ((0 : Nat) : Int) 15 = zCa z := hzB.1.2.2
    obtain ⟨J1, hJ1⟩ : ∃ J1, J1 = va_up J 0 ((0 : Nat) : Int) := ⟨_, rfl⟩
    rw [← hJ1] at j35 j15 hM1
    have hzJ : MZ J1 B z := by rw [hJ1]; exact hzB.cg ⟨rfl, rfl, rfl⟩ rfl rfl rfl
    clear hJ1
    have u0 := hM1.1
    have u16 := hM1.a16
    have eq2 := eP_z (by decide) hEe.symm
    unfold mQ
    rw [if_pos rfl]
    obtain ⟨P, hP⟩ : ∃ P, P = pPZ z bd := ⟨_, rfl⟩
    obtain ⟨C, hC⟩ : ∃ C, C = pCZ z bd := ⟨_, rfl⟩
    rw [← hP] at hrow
    rw [← hP, ← hC] at hgo
    have hct : ∀ c, c < zCa z → (ctN (fun t => B 16 (205 * kp + (41 * c + t))) 40 : Int) = C c := fun c hc => by
      rw [ctN_cg (g := fun t => P (41 * c + t)) (fun t ht => hrow _ (by omega)) 40 (Nat.le_refl _)]
      exact (hgo c hc).2.2.2.2.1
    rw [← hP, ← hC]
    refine g_iconst q_X10_waits_21 ?_
    refine g_istore_n (L' := [_, _, _, _, _]) q_X10_waits_22 (by decide) rfl ?_
    refine g_iconst q_X10_waits_23 ?_
    refine g_istore_n (L' := [_, _, _, _, _]) q_X10_waits_24 (by decide) rfl ?_
    refine g_loop (fun k => k ≤ zCa z) (fun k : Nat => G Γ _ cX10_waits _ _ 0 0 25 [some (.ref m), some (.int (ii bd)), some (.int (ii (sumN (fun c => C c - aStep P c) k))), some (.int (ii k)), none] [] τ1) (fun k => zCa z - k) ?_ 0 (Nat.zero_le _)
    intro k hk1 ih
    refine g_iload_n q_X10_waits_25 rfl ?_
    refine g_aload_n q_X10_waits_26 rfl ?_
    refine g_get fl_X10_220 q_X10_waits_27 (by repeat first | with_reducible assumption | with_reducible exact hput_s _ _ _ | refine (hput_n _ _ (by omega)).trans ?_ | exact hput_s _ _ _ | assumption) rfl ?_
    refine g_topi (b := (zCa z : Int)) (by exact j15) ?_
    refine g_icmp_ge (tgt := 97) q_X10_waits_30 (by decide) ⟨by omega, by omega⟩ ⟨by omega, by omega⟩ (fun b1 => ?_) (fun b1 => ?_)
    · have e : k = zCa z := by omega
      subst e
      refine g_iload_n q_X10_waits_97 rfl ?_
      refine g_ireturn q_X10_waits_98.1 rfl ?_
      exact ⟨rfl, hS⟩
    have hnx := ih (k + 1) (by omega) (by omega)
    obtain ⟨S, hSs⟩ : ∃ S, S = sumN (fun c => C c - aStep P c) k := ⟨_, rfl⟩
    rw [show sumN (fun c => C c - aStep P c) (k + 1) = S + (C k - aStep P k) by rw [hSs]; rfl] at hnx
    rw [← hSs]
    have hgk := hgo k (by omega)
    have hCk : 0 ≤ C k ∧ C k ≤ 40 := ⟨hgk.2.1, hgk.2.2.1⟩
    obtain ⟨mv, hmv⟩ : ∃ mv : Nat → Bool, mv = fun t => decide (P (41 * k + (t + 1)) ≠ P (41 * k + t)) := ⟨_, rfl⟩
    have eA : aStep P k = cntN mv (C k).toNat := by
      rw [hmv]
      refine sN_cut _ 40 (by omega) (fun t h1 h2 => ?_)
      have q1 : P (41 * k + t) = zGO z k := hgk.2.2.2.1 t (by omega) (by omega)
      have q2 : P (41 * k + (t + 1)) = zGO z k := hgk.2.2.2.1 (t + 1) (by omega) (by omega)
      show bi (decide (P (41 * k + (t + 1)) ≠ P (41 * k + t))) = 0
      rw [q1, q2, decide_eq_false (fun q => q rfl)]
      rfl
    rw [eA] at hnx
    refine g_iconst q_X10_waits_33 ?_
    refine g_istore (L' := [_, _, _, _, _]) q_X10_waits_34 (by decide) rfl ?_
    refine g_eq (L2 := [some (.ref m), some (.int (ii bd)), some (.int (ii (S + (((0 : Nat) : Int) - cntN mv 0)))), some (.int (ii k)), some (.int (ii ((0 : Nat) : Int)))]) (by rw [show S + (((0 : Nat) : Int) - cntN mv 0) = S by show S + ((0 : Int) - 0) = S; omega]; rfl) rfl rfl ?_
    refine g_loop (fun t : Nat => (t : Int) ≤ C k) (fun t : Nat => G Γ _ cX10_waits _ _ 0 0 36 [some (.ref m), some (.int (ii bd)), some (.int (ii (S + ((t : Int) - cntN mv t)))), some (.int (ii k)), some (.int (ii t))] [] τ1) (fun t => 40 - t) ?_ 0 (by omega)
    intro t ht ih2
    refine g_iload q_X10_waits_36 rfl ?_
    refine g_aload_n q_X10_waits_38 rfl ?_
    refine g_aload_n q_X10_waits_39 rfl ?_
    refine g_get fl_X10_314 q_X10_waits_40 (by repeat first | with_reducible assumption | with_reducible exact hput_s _ _ _ | refine (hput_n _ _ (by omega)).trans ?_ | exact hput_s _ _ _ | assumption) rfl ?_
    refine g_topi (b := (kp : Int)) (by exact j35) ?_
    refine g_iload_n q_X10_waits_43 rfl ?_
    refine g_callV (rc' := 0) (rs' := 0) (As := [_, _]) cs_X10_287 q_X10_waits_44 (sp_costAt hΓ u0 u16 hrB kp k (by omega) (by omega)) rfl (by repeat first | with_reducible assumption | with_reducible exact hput_s _ _ _ | refine (hput_n _ _ (by omega)).trans ?_ | exact hput_s _ _ _ | assumption) rfl rfl rfl rfl (Nat.le_of_ble_eq_true rfl) (by decide) (by decide) (by decide) (fun _ _ h => h.elim) (k_ri ?_)
    refine g_topi (b := C k) (hct k (by omega)) ?_
    refine g_icmp_ge (tgt := 91) q_X10_waits_47 (by decide) ⟨by omega, by omega⟩ ⟨by omega, by omega⟩ (fun b2 => ?_) (fun b2 => ?_)
    · have e : t = (C k).toNat := by omega
      rw [← e, show C k = (t : Int) by omega] at hnx
      refine g_iinc (L' := [_, _, _, _, _]) q_X10_waits_91 rfl rfl ?_
      refine g_goto (tgt := 25) q_X10_waits_94 (by decide) ?_
      exact g_fl hnx ⟨rfl, rfl, rfl, rfl, trivial⟩
    have hnx2 := ih2 (t + 1) (by omega) (by omega)
    have eL : cntN mv (t + 1) = cntN mv t + bi (mv t) := rfl
    rw [eL] at hnx2
    have hg1 : (0 ≤ P (41 * k + t) ∧ P (41 * k + t) < 36) ∧ _ := hgk.gin wf (by omega) t (by omega)
    have hg2 : (0 ≤ P (41 * k + (t + 1)) ∧ P (41 * k + (t + 1)) < 36) ∧ _ := hgk.gin wf (by omega) (t + 1) (by omega)
    refine g_iload_n q_X10_waits_50 rfl ?_
    refine g_aload_n q_X10_waits_51 rfl ?_
    refine g_aload_n q_X10_waits_52 rfl ?_
    refine g_get fl_X10_314 q_X10_waits_53 (by repeat first | with_reducible assumption | with_reducible exact hput_s _ _ _ | refine (hput_n _ _ (by omega)).trans ?_ | exact hput_s _ _ _ | assumption) rfl ?_
    refine g_topi (b := (kp : Int)) (by exact j35) ?_
    refine g_iload_n q_X10_waits_56 rfl ?_
    refine g_iload q_X10_waits_57 rfl ?_
    refine g_callV (rc' := 0) (rs' := 0) (As := [_, _, _]) cs_X10_263 q_X10_waits_59 (sp_wayAt hΓ u0 u16 kp k t (by omega) (by omega) (by omega)) rfl (by repeat first | with_reducible assumption | with_reducible exact hput_s _ _ _ | refine (hput_n _ _ (by omega)).trans ?_ | exact hput_s _ _ _ | assumption) rfl rfl rfl rfl (Nat.le_of_ble_eq_true rfl) (by decide) (by decide) (by decide) (fun _ _ h => h.elim) (k_ri ?_)
    refine g_topi (b := P (41 * k + t)) (hrow _ (by omega)) ?_
    refine g_aload_n q_X10_waits_62 rfl ?_
    refine g_aload_n q_X10_waits_63 rfl ?_
    refine g_get fl_X10_314 q_X10_waits_64 (by repeat first | with_reducible assumption | with_reducible exact hput_s _ _ _ | refine (hput_n _ _ (by omega)).trans ?_ | exact hput_s _ _ _ | assumption) rfl ?_
    refine g_topi (b := (kp : Int)) (by exact j35) ?_
    refine g_iload_n q_X10_waits_67 rfl ?_
    refine g_iload q_X10_waits_68 rfl ?_
    refine g_iconst q_X10_waits_70 ?_
    refine g_iadd q_X10_waits_71 ?_
    refine g_topi (b := ((t + 1 : Nat) : Int)) (by omega) ?_
    refine g_callV (rc' := 0) (rs' := 0) (As := [_, _, _]) cs_X10_263 q_X10_waits_72 (sp_wayAt hΓ u0 u16 kp k (t + 1) (by omega) (by omega) (by omega)) rfl (by repeat first | with_reducible assumption | with_reducible exact hput_s _ _ _ | refine (hput_n _ _ (by omega)).trans ?_ | exact hput_s _ _ _ | assumption) rfl rfl rfl rfl (Nat.le_of_ble_eq_true rfl) (by decide) (by decide) (by decide) (fun _ _ h => h.elim) (k_ri ?_)
    refine g_topi (b := P (41 * k + (t + 1))) (hrow _ (by omega)) ?_
    refine g_icmp_ne (tgt := 82) q_X10_waits_75 (by decide) ⟨by omega, by omega⟩ ⟨by omega, by omega⟩ (fun b3 => ?_) (fun b3 => ?_)
    · rw [show mv t = true by rw [hmv]; exact decide_eq_true (by omega)] at hnx2
      refine g_iconst q_X10_waits_82 ?_
      refine g_iadd q_X10_waits_83 ?_
      refine g_topi (b := (S + (((t + 1 : Nat) : Int) - (cntN mv t + bi true)))) (by show S + ((t : Int) - cntN mv t) + 0 = S + (((t + 1 : Nat) : Int) - (cntN mv t + 1)); omega) ?_
      refine g_istore_n (L' := [_, _, _, _, _]) q_X10_waits_84 (by decide) rfl ?_
      refine g_iinc (L' := [_, _, _, _, _]) q_X10_waits_85 rfl rfl ?_
      refine g_goto (tgt := 36) q_X10_waits_88 (by decide) ?_
      exact hnx2
    · rw [show mv t = false by rw [hmv]; exact decide_eq_false (by omega)] at hnx2
      refine g_iconst q_X10_waits_78 ?_
      refine g_goto (tgt := 83) q_X10_waits_79 (by decide) ?_
      refine g_iadd q_X10_waits_83 ?_
      refine g_topi (b := (S + (((t + 1 : Nat) : Int) - (cntN mv t + bi false)))) (by show S + ((t : Int) - cntN mv t) + 1 = S + (((t + 1 : Nat) : Int) - (cntN mv t + 0)); omega) ?_
      refine g_istore_n (L' := [_, _, _, _, _]) q_X10_waits_84 (by decide) rfl ?_
      refine g_iinc (L' := [_, _, _, _, _]) q_X10_waits_85 rfl rfl ?_
      refine g_goto (tgt := 36) q_X10_waits_88 (by decide) ?_
      exact hnx2
  refine Sp_of (L := [_, _, _, _, _]) hΓ (by decide +kernel) rfl (Nat.le_of_ble_eq_true rfl) rfl ?_
  refine g_aload_n q_X10_waits_0 rfl ?_
  refine g_aload_n q_X10_waits_1 rfl ?_
  refine g_iconst q_X10_waits_2 ?_
  refine g_iload_n q_X10_waits_3 rfl ?_
  refine g_iconst q_X10_waits_4 ?_
  refine g_iconst q_X10_waits_5 ?_
  refine g_callV (rc' := 0) (rs' := 0) (As := [_, _, _, _]) cs_X10_337 q_X10_waits_6 (sp_wrongPlan hΓ h hW true bd hbd 1 2 (by decide) (by decide)) rfl (by repeat first | with_reducible assumption | with_reducible exact hput_s _ _ _ | refine (hput_n _ _ (by omega)).trans ?_ | exact hput_s _ _ _ | assumption) rfl rfl rfl rfl (Nat.le_of_ble_eq_true rfl) (by decide) (by decide) (by decide) (fun _ _ h => h.elim) (fun v τ hq => ?_)
  rw [← hEe] at hq
  obtain ⟨rfl, hE, J, B, hM, hWB, hP⟩ := hq
  exact fin τ J B hE hM hWB hP

theorem sp_mfollows (hΓ : Gd Γ) (hX : MX σ m e0 len tx fa z l wl wr) (bd : Int) (c : Int) (d : Int) (hbd : rg bd) (hc : rg c) (hd : rg d) : Sp Γ miX10_follows 0 0 [.ref m, .int (ii bd), .int (ii c), .int (ii d)] σ (mQ (eQ (cOK z c && cOK z d) (neOK c d) bd z) (aFoll (pPZ z bd) c.toNat d.toNat) (SM σ m (eQ (cOK z c && cOK z d) (neOK c d) bd z) len tx fa z l wl wr)) noX := by
  obtain ⟨I, A, N, -, h, hW⟩ := hX
  have h0 := h.1
  have hz := hW.2.2.1.1
  have wf := hW.2.2.1.2
  have n5 := wf.1.1.2.2
  obtain ⟨e, hEe⟩ : ∃ e, e = eQ (cOK z c && cOK z d) (neOK c d) bd z := ⟨_, rfl⟩
  have he4 : e ≤ 4 := by rw [hEe]; exact eQ_le _ _ _ _
  rw [← hEe]
  have fin : ∀ τ J B, eqOff σ τ (inb m 34) → MC τ m J B N → MW J B N len tx fa z l wl wr → (e = 0 → PLd J B z bd) → G Γ miX10_follows cX10_follows (mQ e (aFoll (pPZ z bd) c.toNat d.toNat) (SM σ m e len tx fa z l wl wr)) noX 0 0 38 [some (.ref m), some (.int (ii bd)), some (.int (ii c)), some (.int (ii d)), none, none, none] [.int (ii (e : Int)), .ref m] τ := by
    intro τ J B hE hM hWB hP
    have t0 := hM.1
    refine g_putM fp_X10_122 q_X10_follows_38 (by repeat first | with_reducible assumption | with_reducible exact hput_s _ _ _ | refine (hput_n _ _ (by omega)).trans ?_ | exact hput_s _ _ _ | assumption) rfl rfl mset_0 ?_
    refine g_aload_n q_X10_follows_41 rfl ?_
    refine g_get fl_X10_122 q_X10_follows_42 (by repeat first | with_reducible assumption | with_reducible exact hput_s _ _ _ | refine (hput_n _ _ (by omega)).trans ?_ | exact hput_s _ _ _ | assumption) rfl ?_
    refine g_topi (b := (e : Int)) (by rfl) ?_
    refine g_if_le (tgt := 50) q_X10_follows_45 (by decide) ⟨by omega, by omega⟩ (fun b9 => ?_) (fun b9 => ?_)
    case refine_2 =>
      refine g_iconst q_X10_follows_48 ?_
      refine g_ireturn q_X10_follows_49.1 rfl ?_
      exact ⟨by rw [if_neg (by omega)], SM.w hE hM hWB e⟩
    have ee : e = 0 := by omega
    subst ee
    obtain ⟨kp, hkp, j35, ha, hrow, hgo, hsum, hsum0, hrow0, hcc⟩ := hP rfl
    have hS := SM.w hE hM hWB 0
    have hM1 := hM.putI (va_up J 0 ((0 : Nat) : Int))
    obtain ⟨τ1, hτ1⟩ : ∃ τ1, τ1 = hput τ m (mdo m (va_up J 0 ((0 : Nat) : Int))) := ⟨_, rfl⟩
    rw [← hτ1] at hS hM1 ⊢
    clear hτ1 hE t0 hP
    have hrB := hWB.2.2.2.2.2.2.2
    have hzB := hWB.2.2.1.1
    have j35 : va_up J 0 ((0 : Nat) : Int) 35 = kp := j35
    have j15 : va_up J 0 ((0 : Nat) : Int) 15 = zCa z := hzB.1.2.2
    obtain ⟨J1, hJ1⟩ : ∃ J1, J1 = va_up J 0 ((0 : Nat) : Int) := ⟨_, rfl⟩
    rw [← hJ1] at j35 j15 hM1
    have hzJ : MZ J1 B z := by rw [hJ1]; exact hzB.cg ⟨rfl, rfl, rfl⟩ rfl rfl rfl
    clear hJ1
    have u0 := hM1.1
    have u16 := hM1.a16
    obtain ⟨eq1, eq2⟩ := eQ_z hEe.symm
    unfold mQ
    rw [if_pos rfl]
    rw [Bool.and_eq_true] at eq1
    have hc1 := of_decide_eq_true eq1.1
    have hd1 := of_decide_eq_true eq1.2
    obtain ⟨i, hi⟩ : ∃ i : Nat, c = i := ⟨c.toNat, by omega⟩
    subst hi
    obtain ⟨j, hj⟩ : ∃ j : Nat, d = j := ⟨d.toNat, by omega⟩
    subst hj
    rw [Int.toNat_natCast, Int.toNat_natCast]
    obtain ⟨P, hP⟩ : ∃ P, P = pPZ z bd := ⟨_, rfl⟩
    obtain ⟨C, hC⟩ : ∃ C, C = pCZ z bd := ⟨_, rfl⟩
    rw [← hP] at hrow
    rw [← hP, ← hC] at hgo
    rw [← hP]
    have gi : ∀ a t, a < zCa z → t < 41 → 0 ≤ P (41 * a + t) ∧ P (41 * a + t) < 36 := fun a t q1 q2 => ((hgo a q1).gin wf q1 t q2).1
    unfold aFoll
    obtain ⟨p, hp⟩ : ∃ p, p = flw P i j := ⟨_, rfl⟩
    rw [← hp]
    refine g_iconst q_X10_follows_50 ?_
    refine g_istore (L' := [_, _, _, _, _, _, _]) q_X10_follows_51 (by decide) rfl ?_
    refine g_iconst q_X10_follows_53 ?_
    refine g_istore (L' := [_, _, _, _, _, _, _]) q_X10_follows_54 (by decide) rfl ?_
    refine g_loop (fun u => u ≤ 40) (fun u : Nat => G Γ _ cX10_follows _ _ 0 0 56 [some (.ref m), some (.int (ii bd)), some (.int (ii (i : Int))), some (.int (ii (j : Int))), some (.int (ii (cntN p u))), some (.int (ii ((u + 1 : Nat) : Int))), none] [] τ1) (fun u => 40 - u) ?_ 0 (Nat.zero_le _)
    intro u hu ih
    refine g_iload q_X10_follows_56 rfl ?_
    refine g_bipush q_X10_follows_58 bp_41 ?_
    refine g_icmp_ge (tgt := 144) q_X10_follows_60 (by decide) ⟨by omega, by omega⟩ ⟨by omega, by omega⟩ (fun b1 => ?_) (fun b1 => ?_)
    · have e : u = 40 := by omega
      subst e
      refine g_iload q_X10_follows_144 rfl ?_
      refine g_ireturn q_X10_follows_146.1 rfl ?_
      exact ⟨rfl, hS⟩
    have hnx := ih (u + 1) (by omega) (by omega)
    have eL : cntN p (u + 1) = cntN p u + bi (p u) := rfl
    rw [eL] at hnx
    have g1 := gi i (u + 1) (by omega) (by omega)
    have g2 := gi i u (by omega) (by omega)
    have g3 := gi j (u + 1) (by omega) (by omega)
    have g4 := gi j u (by omega) (by omega)
    have ep : p u = ((decide (P (41 * i + (u + 1)) ≠ P (41 * i + u)) && decide (P (41 * j + (u + 1)) ≠ P (41 * j + u))) && decide (P (41 * i + (u + 1)) = P (41 * j + u))) := by rw [hp]; rfl
    have no : p u = false → G Γ miX10_follows cX10_follows (fun r σ' => r = some (.int (ii (cntN p 40))) ∧ SM σ m 0 len tx fa z l wl wr σ') noX 0 0 134 [some (.ref m), some (.int (ii bd)), some (.int (ii (i : Int))), some (.int (ii (j : Int))), some (.int (ii (cntN p u))), some (.int (ii ((u + 1 : Nat) : Int))), some (.int (ii (P (41 * i + (u + 1)))))] [.int (ii (cntN p u))] τ1 := fun q => by
      rw [q] at hnx
      refine g_iconst q_X10_follows_134 ?_
      refine g_iadd q_X10_follows_135 ?_
      refine g_istore (L' := [_, _, _, _, _, _, _]) q_X10_follows_136 (by decide) rfl ?_
      refine g_iinc (L' := [_, _, _, _, _, _, _]) q_X10_follows_138 rfl rfl ?_
      refine g_goto (tgt := 56) q_X10_follows_141 (by decide) ?_
      exact g_fl hnx ⟨rfl, rfl, rfl, rfl, rfl, rfl, trivial⟩
    refine g_aload_n q_X10_follows_63 rfl ?_
    refine g_aload_n q_X10_follows_64 rfl ?_
    refine g_get fl_X10_314 q_X10_follows_65 (by repeat first | with_reducible assumption | with_reducible exact hput_s _ _ _ | refine (hput_n _ _ (by omega)).trans ?_ | exact hput_s _ _ _ | assumption) rfl ?_
    refine g_topi (b := (kp : Int)) (by exact j35) ?_
    refine g_iload_n q_X10_follows_68 rfl ?_
    refine g_iload q_X10_follows_69 rfl ?_
    refine g_callV (rc' := 0) (rs' := 0) (As := [_, _, _]) cs_X10_263 q_X10_follows_71 (sp_wayAt hΓ u0 u16 kp i (u + 1) (by omega) (by omega) (by omega)) rfl (by repeat first | with_reducible assumption | with_reducible exact hput_s _ _ _ | refine (hput_n _ _ (by omega)).trans ?_ | exact hput_s _ _ _ | assumption) rfl rfl rfl rfl (Nat.le_of_ble_eq_true rfl) (by decide) (by decide) (by decide) (fun _ _ h => h.elim) (k_ri ?_)
    refine g_topi (b := P (41 * i + (u + 1))) (hrow _ (by omega)) ?_
    refine g_istore (L' := [_, _, _, _, _, _, _]) q_X10_follows_74 (by decide) rfl ?_
    refine g_iload q_X10_follows_76 rfl ?_
    refine g_iload q_X10_follows_78 rfl ?_
    refine g_aload_n q_X10_follows_80 rfl ?_
    refine g_aload_n q_X10_follows_81 rfl ?_
    refine g_get fl_X10_314 q_X10_follows_82 (by repeat first | with_reducible assumption | with_reducible exact hput_s _ _ _ | refine (hput_n _ _ (by omega)).trans ?_ | exact hput_s _ _ _ | assumption) rfl ?_
    refine g_topi (b := (kp : Int)) (by exact j35) ?_
    refine g_iload_n q_X10_follows_85 rfl ?_
    refine g_iload q_X10_follows_86 rfl ?_
    refine g_iconst q_X10_follows_88 ?_
    refine g_isub q_X10_follows_89 ?_
    refine g_topi (b := (u : Int)) (by omega) ?_
    refine g_callV (rc' := 0) (rs' := 0) (As := [_, _, _]) cs_X10_263 q_X10_follows_90 (sp_wayAt hΓ u0 u16 kp i u (by omega) (by omega) (by omega)) rfl (by repeat first | with_reducible assumption | with_reducible exact hput_s _ _ _ | refine (hput_n _ _ (by omega)).trans ?_ | exact hput_s _ _ _ | assumption) rfl rfl rfl rfl (Nat.le_of_ble_eq_true rfl) (by decide) (by decide) (by decide) (fun _ _ h => h.elim) (k_ri ?_)
    refine g_topi (b := P (41 * i + u)) (hrow _ (by omega)) ?_
    refine g_icmp_eq (tgt := 134) q_X10_follows_93 (by decide) ⟨by omega, by omega⟩ ⟨by omega, by omega⟩ (fun b2 => ?_) (fun b2 => ?_)
    · exact no (by rw [ep, decide_eq_false (fun q => q b2)]; rfl)
    refine g_iload q_X10_follows_96 rfl ?_
    refine g_aload_n q_X10_follows_98 rfl ?_
    refine g_aload_n q_X10_follows_99 rfl ?_
    refine g_get fl_X10_314 q_X10_follows_100 (by repeat first | with_reducible assumption | with_reducible exact hput_s _ _ _ | refine (hput_n _ _ (by omega)).trans ?_ | exact hput_s _ _ _ | assumption) rfl ?_
    refine g_topi (b := (kp : Int)) (by exact j35) ?_
    refine g_iload_n q_X10_follows_103 rfl ?_
    refine g_iload q_X10_follows_104 rfl ?_
    refine g_iconst q_X10_follows_106 ?_
    refine g_isub q_X10_follows_107 ?_
    refine g_topi (b := (u : Int)) (by omega) ?_
    refine g_callV (rc' := 0) (rs' := 0) (As := [_, _, _]) cs_X10_263 q_X10_follows_108 (sp_wayAt hΓ u0 u16 kp j u (by omega) (by omega) (by omega)) rfl (by repeat first | with_reducible assumption | with_reducible exact hput_s _ _ _ | refine (hput_n _ _ (by omega)).trans ?_ | exact hput_s _ _ _ | assumption) rfl rfl rfl rfl (Nat.le_of_ble_eq_true rfl) (by decide) (by decide) (by decide) (fun _ _ h => h.elim) (k_ri ?_)
    refine g_topi (b := P (41 * j + u)) (hrow _ (by omega)) ?_
    refine g_icmp_ne (tgt := 134) q_X10_follows_111 (by decide) ⟨by omega, by omega⟩ ⟨by omega, by omega⟩ (fun b3 => ?_) (fun b3 => ?_)
    · exact no (by rw [ep, decide_eq_false b3, Bool.and_false])
    refine g_iload q_X10_follows_114 rfl ?_
    refine g_aload_n q_X10_follows_116 rfl ?_
    refine g_aload_n q_X10_follows_117 rfl ?_
    refine g_get fl_X10_314 q_X10_follows_118 (by repeat first | with_reducible assumption | with_reducible exact hput_s _ _ _ | refine (hput_n _ _ (by omega)).trans ?_ | exact hput_s _ _ _ | assumption) rfl ?_
    refine g_topi (b := (kp : Int)) (by exact j35) ?_
    refine g_iload_n q_X10_follows_121 rfl ?_
    refine g_iload q_X10_follows_122 rfl ?_
    refine g_callV (rc' := 0) (rs' := 0) (As := [_, _, _]) cs_X10_263 q_X10_follows_124 (sp_wayAt hΓ u0 u16 kp j (u + 1) (by omega) (by omega) (by omega)) rfl (by repeat first | with_reducible assumption | with_reducible exact hput_s _ _ _ | refine (hput_n _ _ (by omega)).trans ?_ | exact hput_s _ _ _ | assumption) rfl rfl rfl rfl (Nat.le_of_ble_eq_true rfl) (by decide) (by decide) (by decide) (fun _ _ h => h.elim) (k_ri ?_)
    refine g_topi (b := P (41 * j + (u + 1))) (hrow _ (by omega)) ?_
    refine g_icmp_eq (tgt := 134) q_X10_follows_127 (by decide) ⟨by omega, by omega⟩ ⟨by omega, by omega⟩ (fun b4 => ?_) (fun b4 => ?_)
    · exact no (by rw [ep, decide_eq_false (show ¬ P (41 * j + (u + 1)) ≠ P (41 * j + u) by omega), Bool.and_false]; rfl)
    rw [show p u = true by rw [ep, decide_eq_true b2, decide_eq_true (show P (41 * j + (u + 1)) ≠ P (41 * j + u) by omega), decide_eq_true (show P (41 * i + (u + 1)) = P (41 * j + u) by omega)]; rfl] at hnx
    refine g_iconst q_X10_follows_130 ?_
    refine g_goto (tgt := 135) q_X10_follows_131 (by decide) ?_
    refine g_iadd q_X10_follows_135 ?_
    refine g_istore (L' := [_, _, _, _, _, _, _]) q_X10_follows_136 (by decide) rfl ?_
    refine g_iinc (L' := [_, _, _, _, _, _, _]) q_X10_follows_138 rfl rfl ?_
    refine g_goto (tgt := 56) q_X10_follows_141 (by decide) ?_
    exact g_fl hnx ⟨rfl, rfl, rfl, rfl, rfl, rfl, trivial⟩
  refine Sp_of (L := [_, _, _, _, _, _, _]) hΓ (by decide +kernel) rfl (Nat.le_of_ble_eq_true rfl) rfl ?_
  have bad : (cOK z c && cOK z d) = false → G Γ miX10_follows cX10_follows (mQ e (aFoll (pPZ z bd) c.toNat d.toNat) (SM σ m e len tx fa z l wl wr)) noX 0 0 17 [some (.ref m), some (.int (ii bd)), some (.int (ii c)), some (.int (ii d)), none, none, none] [.ref m] σ := fun q => by
    have e1 : e = 1 := by rw [hEe]; exact eQ_f q
    refine g_iconst q_X10_follows_17 ?_
    refine g_goto (tgt := 38) q_X10_follows_18 (by decide) ?_
    refine g_topi (b := (e : Int)) (by rw [e1]; rfl) ?_
    exact fin σ I A eqOff.rfl' h hW (fun q => by omega)
  refine g_aload_n q_X10_follows_0 rfl ?_
  refine g_aload_n q_X10_follows_1 rfl ?_
  refine g_iload_n q_X10_follows_2 rfl ?_
  refine g_callV (rc' := 0) (rs' := 0) (As := [_]) cs_X10_237 q_X10_follows_3 (sp_isCart hΓ h0 hz.1.2.2 n5 c hc) rfl (by repeat first | with_reducible assumption | with_reducible exact hput_s _ _ _ | refine (hput_n _ _ (by omega)).trans ?_ | exact hput_s _ _ _ | assumption) rfl rfl rfl rfl (Nat.le_of_ble_eq_true rfl) (by decide) (by decide) (by decide) (fun _ _ h => h.elim) (k_rb ?_)
  refine g_if_eq (tgt := 17) q_X10_follows_6 (by decide) (bi_rg _) (fun b1 => ?_) (fun b1 => ?_)
  · exact bad (by rw [show cOK z c = false from bi_f b1]; rfl)
  have c1 : cOK z c = true := bi_t b1
  refine g_aload_n q_X10_follows_9 rfl ?_
  refine g_iload_n q_X10_follows_10 rfl ?_
  refine g_callV (rc' := 0) (rs' := 0) (As := [_]) cs_X10_237 q_X10_follows_11 (sp_isCart hΓ h0 hz.1.2.2 n5 d hd) rfl (by repeat first | with_reducible assumption | with_reducible exact hput_s _ _ _ | refine (hput_n _ _ (by omega)).trans ?_ | exact hput_s _ _ _ | assumption) rfl rfl rfl rfl (Nat.le_of_ble_eq_true rfl) (by decide) (by decide) (by decide) (fun _ _ h => h.elim) (k_rb ?_)
  refine g_if_ne (tgt := 21) q_X10_follows_14 (by decide) (bi_rg _) (fun b2 => ?_) (fun b2 => ?_)
  case refine_2 => exact bad (by rw [show cOK z d = false from bi_f (show bi (decide (0 ≤ d ∧ d < (zCa z : Int))) = 0 by omega), Bool.and_false])
  have c2 : cOK z d = true := bi_t b2
  have c3 : (cOK z c && cOK z d) = true := by rw [c1, c2]; rfl
  have go : G Γ miX10_follows cX10_follows (mQ e (aFoll (pPZ z bd) c.toNat d.toNat) (SM σ m e len tx fa z l wl wr)) noX 0 0 32 [some (.ref m), some (.int (ii bd)), some (.int (ii c)), some (.int (ii d)), none, none, none] [.int (ii (bi (neOK c d))), .ref m, .ref m] σ := by
    refine g_iload_n q_X10_follows_32 rfl ?_
    refine g_iconst q_X10_follows_33 ?_
    refine g_iconst q_X10_follows_34 ?_
    refine g_callV (rc' := 0) (rs' := 0) (As := [_, _, _, _]) cs_X10_337 q_X10_follows_35 (sp_wrongPlan hΓ h hW (neOK c d) bd hbd 2 3 (by decide) (by decide)) rfl (by repeat first | with_reducible assumption | with_reducible exact hput_s _ _ _ | refine (hput_n _ _ (by omega)).trans ?_ | exact hput_s _ _ _ | assumption) rfl rfl rfl rfl (Nat.le_of_ble_eq_true rfl) (by decide) (by decide) (by decide) (fun _ _ h => h.elim) (fun v τ hq => ?_)
    rw [← show e = _ from hEe.trans (eQ_t c3)] at hq
    obtain ⟨rfl, hE, J, B, hM, hWB, hP⟩ := hq
    exact fin τ J B hE hM hWB hP
  refine g_aload_n q_X10_follows_21 rfl ?_
  refine g_iload_n q_X10_follows_22 rfl ?_
  refine g_iload_n q_X10_follows_23 rfl ?_
  refine g_icmp_eq (tgt := 31) q_X10_follows_24 (by decide) hc hd (fun b3 => ?_) (fun b3 => ?_)
  · have q : neOK c d = false := decide_eq_false (fun q => q b3)
    refine g_iconst q_X10_follows_31 ?_
    rw [q] at go
    exact go
  · have q : neOK c d = true := decide_eq_true b3
    refine g_iconst q_X10_follows_27 ?_
    refine g_goto (tgt := 32) q_X10_follows_28 (by decide) ?_
    rw [q] at go
    exact go

theorem sp_mapart (hΓ : Gd Γ) (a b : Int) (ha : rg a) (hb : rg b) : Sp Γ miX10_apart 0 0 [.int (ii a), .int (ii b)] σ (ri (adf a b) σ) noX := by
  refine Sp_of (L := [_, _]) hΓ (by decide +kernel) rfl (Nat.le_of_ble_eq_true rfl) rfl ?_
  refine g_iload_n q_X10_apart_0 rfl ?_
  refine g_iload_n q_X10_apart_1 rfl ?_
  refine g_icmp_le (tgt := 11) q_X10_apart_2 (by decide) ha hb (fun b1 => ?_) (fun b1 => ?_)
  · refine g_iload_n q_X10_apart_11 rfl ?_
    refine g_iload_n q_X10_apart_12 rfl ?_
    refine g_isub q_X10_apart_13 ?_
    refine g_ireturn q_X10_apart_14.1 rfl ?_
    refine ⟨?_, rfl⟩
    unfold adf
    by_cases e : b ≤ a
    · rw [if_pos e, show b - a = a - b by omega]
    · rw [if_neg e]
  · refine g_iload_n q_X10_apart_5 rfl ?_
    refine g_iload_n q_X10_apart_6 rfl ?_
    refine g_isub q_X10_apart_7 ?_
    refine g_goto (tgt := 14) q_X10_apart_8 (by decide) ?_
    refine g_ireturn q_X10_apart_14.1 rfl ?_
    refine ⟨?_, rfl⟩
    unfold adf
    rw [if_pos (by omega)]
/-- the nearest so far -/
def nrM (P : Nat → Int) (c d : Nat) : Nat → Int × Int
  | 0 => (100, 0)
  | t + 1 => nrN P c d t
theorem nrM_s {P : Nat → Int} {c d t : Nat} (h : aprt (P (41 * c + t)) (P (41 * d + t)) < 100) : nrM P c d (t + 1) = if aprt (P (41 * c + t)) (P (41 * d + t)) < (nrM P c d t).1 then (aprt (P (41 * c + t)) (P (41 * d + t)), (t : Int)) else nrM P c d t := by
  cases t with
  | zero =>
    show (aprt (P (41 * c)) (P (41 * d)), (0 : Int)) = _
    rw [if_pos (show aprt (P (41 * c + 0)) (P (41 * d + 0)) < (nrM P c d 0).1 from h)]
    rfl
  | succ t => rfl

theorem sp_mnear (hΓ : Gd Γ) (hX : MX σ m e0 len tx fa z l wl wr) (bd : Int) (c : Int) (d : Int) (wh : Bool) (hbd : rg bd) (hc : rg c) (hd : rg d) : Sp Γ miX10_near 0 0 [.ref m, .int (ii bd), .int (ii c), .int (ii d), .int (ii (bi wh))] σ (mQ (eQ (cOK z c && cOK z d) (neOK c d) bd z) (if wh = true then (nrN (pPZ z bd) c.toNat d.toNat 40).2 else (nrN (pPZ z bd) c.toNat d.toNat 40).1) (SM σ m (eQ (cOK z c && cOK z d) (neOK c d) bd z) len tx fa z l wl wr)) noX := by
  obtain ⟨I, A, N, -, h, hW⟩ := hX
  have h0 := h.1
  have hz := hW.2.2.1.1
  have wf := hW.2.2.1.2
  have n5 := wf.1.1.2.2
  obtain ⟨e, hEe⟩ : ∃ e, e = eQ (cOK z c && cOK z d) (neOK c d) bd z := ⟨_, rfl⟩
  have he4 : e ≤ 4 := by rw [hEe]; exact eQ_le _ _ _ _
  rw [← hEe]
  have fin : ∀ τ J B, eqOff σ τ (inb m 34) → MC τ m J B N → MW J B N len tx fa z l wl wr → (e = 0 → PLd J B z bd) → G Γ miX10_near cX10_near (mQ e (if wh = true then (nrN (pPZ z bd) c.toNat d.toNat 40).2 else (nrN (pPZ z bd) c.toNat d.toNat 40).1) (SM σ m e len tx fa z l wl wr)) noX 0 0 38 [some (.ref m), some (.int (ii bd)), some (.int (ii c)), some (.int (ii d)), some (.int (ii (bi wh))), none, none, none, none, none, none] [.int (ii (e : Int)), .ref m] τ := by
    intro τ J B hE hM hWB hP
    have t0 := hM.1
    refine g_putM fp_X10_122 q_X10_near_38 (by repeat first | with_reducible assumption | with_reducible exact hput_s _ _ _ | refine (hput_n _ _ (by omega)).trans ?_ | exact hput_s _ _ _ | assumption) rfl rfl mset_0 ?_
    refine g_aload_n q_X10_near_41 rfl ?_
    refine g_get fl_X10_122 q_X10_near_42 (by repeat first | with_reducible assumption | with_reducible exact hput_s _ _ _ | refine (hput_n _ _ (by omega)).trans ?_ | exact hput_s _ _ _ | assumption) rfl ?_
    refine g_topi (b := (e : Int)) (by rfl) ?_
    refine g_if_le (tgt := 50) q_X10_near_45 (by decide) ⟨by omega, by omega⟩ (fun b9 => ?_) (fun b9 => ?_)
    case refine_2 =>
      refine g_iconst q_X10_near_48 ?_
      refine g_ireturn q_X10_near_49.1 rfl ?_
      exact ⟨by rw [if_neg (by omega)], SM.w hE hM hWB e⟩
    have ee : e = 0 := by omega
    subst ee
    obtain ⟨kp, hkp, j35, ha, hrow, hgo, hsum, hsum0, hrow0, hcc⟩ := hP rfl
    have hS := SM.w hE hM hWB 0
    have hM1 := hM.putI (va_up J 0 ((0 : Nat) : Int))
    obtain ⟨τ1, hτ1⟩ : ∃ τ1, τ1 = hput τ m (mdo m (va_up J 0 ((0 : Nat) : Int))) := ⟨_, rfl⟩
    rw [← hτ1] at hS hM1 ⊢
    clear hτ1 hE t0 hP
    have hrB := hWB.2.2.2.2.2.2.2
    have hzB := hWB.2.2.1.1
    have j35 : va_up J 0 ((0 : Nat) : Int) 35 = kp := j35
    have j15 : va_up J 0 ((0 : Nat) : Int) 15 = zCa z := hzB.1.2.2
    obtain ⟨J1, hJ1⟩ : ∃ J1, J1 = va_up J 0 ((0 : Nat) : Int) := ⟨_, rfl⟩
    rw [← hJ1] at j35 j15 hM1
    have hzJ : MZ J1 B z := by rw [hJ1]; exact hzB.cg ⟨rfl, rfl, rfl⟩ rfl rfl rfl
    clear hJ1
    have u0 := hM1.1
    have u16 := hM1.a16
    obtain ⟨eq1, eq2⟩ := eQ_z hEe.symm
    unfold mQ
    rw [if_pos rfl]
    rw [Bool.and_eq_true] at eq1
    have hc1 := of_decide_eq_true eq1.1
    have hd1 := of_decide_eq_true eq1.2
    obtain ⟨i, hi⟩ : ∃ i : Nat, c = i := ⟨c.toNat, by omega⟩
    subst hi
    obtain ⟨j, hj⟩ : ∃ j : Nat, d = j := ⟨d.toNat, by omega⟩
    subst hj
    rw [Int.toNat_natCast, Int.toNat_natCast]
    obtain ⟨P, hP⟩ : ∃ P, P = pPZ z bd := ⟨_, rfl⟩
    obtain ⟨C, hC⟩ : ∃ C, C = pCZ z bd := ⟨_, rfl⟩
    rw [← hP] at hrow
    rw [← hP, ← hC] at hgo
    rw [← hP]
    have gi : ∀ a t, a < zCa z → t < 41 → 0 ≤ P (41 * a + t) ∧ P (41 * a + t) < 36 := fun a t q1 q2 => ((hgo a q1).gin wf q1 t q2).1
    have ap : ∀ t, t < 41 → 0 ≤ aprt (P (41 * i + t)) (P (41 * j + t)) ∧ aprt (P (41 * i + t)) (P (41 * j + t)) ≤ 10 := fun t q => aprt_rg (gi i t (by omega) q) (gi j t (by omega) q)
    have nr : ∀ t, t ≤ 41 → 0 ≤ (nrM P i j t).1 ∧ (nrM P i j t).1 ≤ 100 := by
      intro t
      induction t with
      | zero => intro _; exact ⟨by show (0 : Int) ≤ 100; decide, by show (100 : Int) ≤ 100; decide⟩
      | succ t ih2 =>
        intro ht
        have q1 := ap t (by omega)
        have q2 := ih2 (by omega)
        rw [nrM_s (by omega)]
        split
        · exact ⟨q1.1, by show aprt (P (41 * i + t)) (P (41 * j + t)) ≤ 100; omega⟩
        · exact q2
    refine g_bipush q_X10_near_50 bp_100 ?_
    refine g_istore (L' := [_, _, _, _, _, _, _, _, _, _, _]) q_X10_near_52 (by decide) rfl ?_
    refine g_iconst q_X10_near_54 ?_
    refine g_istore (L' := [_, _, _, _, _, _, _, _, _, _, _]) q_X10_near_55 (by decide) rfl ?_
    refine g_iconst q_X10_near_57 ?_
    refine g_istore (L' := [_, _, _, _, _, _, _, _, _, _, _]) q_X10_near_58 (by decide) rfl ?_
    refine g_loop (fun t => t ≤ 41) (fun t : Nat => G Γ _ cX10_near _ _ 0 0 60 [some (.ref m), some (.int (ii bd)), some (.int (ii (i : Int))), some (.int (ii (j : Int))), some (.int (ii (bi wh))), some (.int (ii (nrM P i j t).1)), some (.int (ii (nrM P i j t).2)), some (.int (ii t)), none, none, none] [] τ1) (fun t => 41 - t) ?_ 0 (Nat.zero_le _)
    intro t ht ih
    refine g_iload q_X10_near_60 rfl ?_
    refine g_bipush q_X10_near_62 bp_41 ?_
    refine g_icmp_ge (tgt := 146) q_X10_near_64 (by decide) ⟨by omega, by omega⟩ ⟨by omega, by omega⟩ (fun b1 => ?_) (fun b1 => ?_)
    · have e : t = 41 := by omega
      subst e
      show G Γ miX10_near cX10_near _ noX 0 0 146 [some (.ref m), some (.int (ii bd)), some (.int (ii (i : Int))), some (.int (ii (j : Int))), some (.int (ii (bi wh))), some (.int (ii (nrN P i j 40).1)), some (.int (ii (nrN P i j 40).2)), some (.int (ii ((41 : Nat) : Int))), none, none, none] [] τ1
      refine g_iload q_X10_near_146 rfl ?_
      refine g_if_eq (tgt := 156) q_X10_near_148 (by decide) (bi_rg _) (fun b2 => ?_) (fun b2 => ?_)
      · rw [if_neg (by rw [bi_f b2]; decide)]
        refine g_iload q_X10_near_156 rfl ?_
        refine g_ireturn q_X10_near_158.1 rfl ?_
        exact ⟨rfl, hS⟩
      · rw [if_pos (bi_t b2)]
        refine g_iload q_X10_near_151 rfl ?_
        refine g_goto (tgt := 158) q_X10_near_153 (by decide) ?_
        refine g_ireturn q_X10_near_158.1 rfl ?_
        exact ⟨rfl, hS⟩
    have hnx := ih (t + 1) (by omega) (by omega)
    have g1 := gi i t (by omega) (by omega)
    have g2 := gi j t (by omega) (by omega)
    have g3 := ap t (by omega)
    have g4 := nr t (by omega)
    rw [nrM_s (by omega)] at hnx
    obtain ⟨a, haa⟩ : ∃ a, a = P (41 * i + t) := ⟨_, rfl⟩
    obtain ⟨b, hbb⟩ : ∃ b, b = P (41 * j + t) := ⟨_, rfl⟩
    rw [← haa, ← hbb] at hnx g3
    rw [← haa] at g1
    rw [← hbb] at g2
    obtain ⟨x, hx⟩ : ∃ x, x = nrM P i j t := ⟨_, rfl⟩
    rw [← hx] at hnx g4 ⊢
    refine g_aload_n q_X10_near_67 rfl ?_
    refine g_aload_n q_X10_near_68 rfl ?_
    refine g_get fl_X10_314 q_X10_near_69 (by repeat first | with_reducible assumption | with_reducible exact hput_s _ _ _ | refine (hput_n _ _ (by omega)).trans ?_ | exact hput_s _ _ _ | assumption) rfl ?_
    refine g_topi (b := (kp : Int)) (by exact j35) ?_
    refine g_iload_n q_X10_near_72 rfl ?_
    refine g_iload q_X10_near_73 rfl ?_
    refine g_callV (rc' := 0) (rs' := 0) (As := [_, _, _]) cs_X10_263 q_X10_near_75 (sp_wayAt hΓ u0 u16 kp i t (by omega) (by omega) (by omega)) rfl (by repeat first | with_reducible assumption | with_reducible exact hput_s _ _ _ | refine (hput_n _ _ (by omega)).trans ?_ | exact hput_s _ _ _ | assumption) rfl rfl rfl rfl (Nat.le_of_ble_eq_true rfl) (by decide) (by decide) (by decide) (fun _ _ h => h.elim) (k_ri ?_)
    refine g_topi (b := a) ((hrow _ (by omega)).trans haa.symm) ?_
    refine g_istore (L' := [_, _, _, _, _, _, _, _, _, _, _]) q_X10_near_78 (by decide) rfl ?_
    refine g_aload_n q_X10_near_80 rfl ?_
    refine g_aload_n q_X10_near_81 rfl ?_
    refine g_get fl_X10_314 q_X10_near_82 (by repeat first | with_reducible assumption | with_reducible exact hput_s _ _ _ | refine (hput_n _ _ (by omega)).trans ?_ | exact hput_s _ _ _ | assumption) rfl ?_
    refine g_topi (b := (kp : Int)) (by exact j35) ?_
    refine g_iload_n q_X10_near_85 rfl ?_
    refine g_iload q_X10_near_86 rfl ?_
    refine g_callV (rc' := 0) (rs' := 0) (As := [_, _, _]) cs_X10_263 q_X10_near_88 (sp_wayAt hΓ u0 u16 kp j t (by omega) (by omega) (by omega)) rfl (by repeat first | with_reducible assumption | with_reducible exact hput_s _ _ _ | refine (hput_n _ _ (by omega)).trans ?_ | exact hput_s _ _ _ | assumption) rfl rfl rfl rfl (Nat.le_of_ble_eq_true rfl) (by decide) (by decide) (by decide) (fun _ _ h => h.elim) (k_ri ?_)
    refine g_topi (b := b) ((hrow _ (by omega)).trans hbb.symm) ?_
    refine g_istore (L' := [_, _, _, _, _, _, _, _, _, _, _]) q_X10_near_91 (by decide) rfl ?_
    refine g_iload q_X10_near_93 rfl ?_
    refine g_bipush q_X10_near_95 bp_6 ?_
    refine g_irem q_X10_near_97 ⟨by omega, by omega⟩ ⟨by omega, by omega⟩ (by omega) ?_
    refine g_topi (b := (a % 6)) (by exact Int.tmod_eq_emod_of_nonneg (by omega)) ?_
    refine g_iload q_X10_near_98 rfl ?_
    refine g_bipush q_X10_near_100 bp_6 ?_
    refine g_irem q_X10_near_102 ⟨by omega, by omega⟩ ⟨by omega, by omega⟩ (by omega) ?_
    refine g_topi (b := (b % 6)) (by exact Int.tmod_eq_emod_of_nonneg (by omega)) ?_
    refine g_callS (rc' := 0) (rs' := 0) (As := [_, _]) cs_X10_366 q_X10_near_103 (sp_mapart hΓ (a % 6) (b % 6) ⟨by omega, by omega⟩ ⟨by omega, by omega⟩) rfl rfl rfl (Nat.le_of_ble_eq_true rfl) (by decide) (by decide) (by decide) (fun _ _ h => h.elim) (k_ri ?_)
    refine g_iload q_X10_near_106 rfl ?_
    refine g_bipush q_X10_near_108 bp_6 ?_
    refine g_idiv q_X10_near_110 ⟨by omega, by omega⟩ ⟨by omega, by omega⟩ (by omega) ?_
    refine g_topi (b := (a / 6)) (by exact Int.tdiv_eq_ediv_of_nonneg (by omega)) ?_
    refine g_iload q_X10_near_111 rfl ?_
    refine g_bipush q_X10_near_113 bp_6 ?_
    refine g_idiv q_X10_near_115 ⟨by omega, by omega⟩ ⟨by omega, by omega⟩ (by omega) ?_
    refine g_topi (b := (b / 6)) (by exact Int.tdiv_eq_ediv_of_nonneg (by omega)) ?_
    refine g_callS (rc' := 0) (rs' := 0) (As := [_, _]) cs_X10_366 q_X10_near_116 (sp_mapart hΓ (a / 6) (b / 6) ⟨by omega, by omega⟩ ⟨by omega, by omega⟩) rfl rfl rfl (Nat.le_of_ble_eq_true rfl) (by decide) (by decide) (by decide) (fun _ _ h => h.elim) (k_ri ?_)
    refine g_iadd q_X10_near_119 ?_
    refine g_topi (b := aprt a b) (by rfl) ?_
    refine g_istore (L' := [_, _, _, _, _, _, _, _, _, _, _]) q_X10_near_120 (by decide) rfl ?_
    refine g_iload q_X10_near_122 rfl ?_
    refine g_iload q_X10_near_124 rfl ?_
    refine g_icmp_lt (tgt := 132) q_X10_near_126 (by decide) ⟨by omega, by omega⟩ ⟨by omega, by omega⟩ (fun b2 => ?_) (fun b2 => ?_)
    · rw [if_pos b2] at hnx
      refine g_iload q_X10_near_132 rfl ?_
      refine g_istore (L' := [_, _, _, _, _, _, _, _, _, _, _]) q_X10_near_134 (by decide) rfl ?_
      refine g_iload q_X10_near_136 rfl ?_
      refine g_istore (L' := [_, _, _, _, _, _, _, _, _, _, _]) q_X10_near_138 (by decide) rfl ?_
      refine g_iinc (L' := [_, _, _, _, _, _, _, _, _, _, _]) q_X10_near_140 rfl rfl ?_
      refine g_goto (tgt := 60) q_X10_near_143 (by decide) ?_
      exact g_fl hnx ⟨rfl, rfl, rfl, rfl, rfl, rfl, rfl, rfl, trivial⟩
    · rw [if_neg (show ¬ aprt a b < x.1 by omega)] at hnx
      refine g_goto (tgt := 140) q_X10_near_129 (by decide) ?_
      refine g_iinc (L' := [_, _, _, _, _, _, _, _, _, _, _]) q_X10_near_140 rfl rfl ?_
      refine g_goto (tgt := 60) q_X10_near_143 (by decide) ?_
      exact g_fl hnx ⟨rfl, rfl, rfl, rfl, rfl, rfl, rfl, rfl, trivial⟩
  refine Sp_of (L := [_, _, _, _, _, _, _, _, _, _, _]) hΓ (by decide +kernel) rfl (Nat.le_of_ble_eq_true rfl) rfl ?_
  have bad : (cOK z c && cOK z d) = false → G Γ miX10_near cX10_near (mQ e (if wh = true then (nrN (pPZ z bd) c.toNat d.toNat 40).2 else (nrN (pPZ z bd) c.toNat d.toNat 40).1) (SM σ m e len tx fa z l wl wr)) noX 0 0 17 [some (.ref m), some (.int (ii bd)), some (.int (ii c)), some (.int (ii d)), some (.int (ii (bi wh))), none, none, none, none, none, none] [.ref m] σ := fun q => by
    have e1 : e = 1 := by rw [hEe]; exact eQ_f q
    refine g_iconst q_X10_near_17 ?_
    refine g_goto (tgt := 38) q_X10_near_18 (by decide) ?_
    refine g_topi (b := (e : Int)) (by rw [e1]; rfl) ?_
    exact fin σ I A eqOff.rfl' h hW (fun q => by omega)
  refine g_aload_n q_X10_near_0 rfl ?_
  refine g_aload_n q_X10_near_1 rfl ?_
  refine g_iload_n q_X10_near_2 rfl ?_
  refine g_callV (rc' := 0) (rs' := 0) (As := [_]) cs_X10_237 q_X10_near_3 (sp_isCart hΓ h0 hz.1.2.2 n5 c hc) rfl (by repeat first | with_reducible assumption | with_reducible exact hput_s _ _ _ | refine (hput_n _ _ (by omega)).trans ?_ | exact hput_s _ _ _ | assumption) rfl rfl rfl rfl (Nat.le_of_ble_eq_true rfl) (by decide) (by decide) (by decide) (fun _ _ h => h.elim) (k_rb ?_)
  refine g_if_eq (tgt := 17) q_X10_near_6 (by decide) (bi_rg _) (fun b1 => ?_) (fun b1 => ?_)
  · exact bad (by rw [show cOK z c = false from bi_f b1]; rfl)
  have c1 : cOK z c = true := bi_t b1
  refine g_aload_n q_X10_near_9 rfl ?_
  refine g_iload_n q_X10_near_10 rfl ?_
  refine g_callV (rc' := 0) (rs' := 0) (As := [_]) cs_X10_237 q_X10_near_11 (sp_isCart hΓ h0 hz.1.2.2 n5 d hd) rfl (by repeat first | with_reducible assumption | with_reducible exact hput_s _ _ _ | refine (hput_n _ _ (by omega)).trans ?_ | exact hput_s _ _ _ | assumption) rfl rfl rfl rfl (Nat.le_of_ble_eq_true rfl) (by decide) (by decide) (by decide) (fun _ _ h => h.elim) (k_rb ?_)
  refine g_if_ne (tgt := 21) q_X10_near_14 (by decide) (bi_rg _) (fun b2 => ?_) (fun b2 => ?_)
  case refine_2 => exact bad (by rw [show cOK z d = false from bi_f (show bi (decide (0 ≤ d ∧ d < (zCa z : Int))) = 0 by omega), Bool.and_false])
  have c2 : cOK z d = true := bi_t b2
  have c3 : (cOK z c && cOK z d) = true := by rw [c1, c2]; rfl
  have go : G Γ miX10_near cX10_near (mQ e (if wh = true then (nrN (pPZ z bd) c.toNat d.toNat 40).2 else (nrN (pPZ z bd) c.toNat d.toNat 40).1) (SM σ m e len tx fa z l wl wr)) noX 0 0 32 [some (.ref m), some (.int (ii bd)), some (.int (ii c)), some (.int (ii d)), some (.int (ii (bi wh))), none, none, none, none, none, none] [.int (ii (bi (neOK c d))), .ref m, .ref m] σ := by
    refine g_iload_n q_X10_near_32 rfl ?_
    refine g_iconst q_X10_near_33 ?_
    refine g_iconst q_X10_near_34 ?_
    refine g_callV (rc' := 0) (rs' := 0) (As := [_, _, _, _]) cs_X10_337 q_X10_near_35 (sp_wrongPlan hΓ h hW (neOK c d) bd hbd 2 3 (by decide) (by decide)) rfl (by repeat first | with_reducible assumption | with_reducible exact hput_s _ _ _ | refine (hput_n _ _ (by omega)).trans ?_ | exact hput_s _ _ _ | assumption) rfl rfl rfl rfl (Nat.le_of_ble_eq_true rfl) (by decide) (by decide) (by decide) (fun _ _ h => h.elim) (fun v τ hq => ?_)
    rw [← show e = _ from hEe.trans (eQ_t c3)] at hq
    obtain ⟨rfl, hE, J, B, hM, hWB, hP⟩ := hq
    exact fin τ J B hE hM hWB hP
  refine g_aload_n q_X10_near_21 rfl ?_
  refine g_iload_n q_X10_near_22 rfl ?_
  refine g_iload_n q_X10_near_23 rfl ?_
  refine g_icmp_eq (tgt := 31) q_X10_near_24 (by decide) hc hd (fun b3 => ?_) (fun b3 => ?_)
  · have q : neOK c d = false := decide_eq_false (fun q => q b3)
    refine g_iconst q_X10_near_31 ?_
    rw [q] at go
    exact go
  · have q : neOK c d = true := decide_eq_true b3
    refine g_iconst q_X10_near_27 ?_
    refine g_goto (tgt := 32) q_X10_near_28 (by decide) ?_
    rw [q] at go
    exact go

theorem bt_or0 : ∀ T : Fin 32, ii ((T : Nat) : Int) ||| ii 0 = ii ((T : Nat) : Int) := by decide +kernel
theorem sp_mended (hΓ : Gd Γ) (hX : MX σ m e0 len tx fa z l wl wr) (bd : Int) (t : Int) (hbd : rg bd) (ht : rg t) : Sp Γ miX10_ended 0 0 [.ref m, .int (ii bd), .int (ii t)] σ (mQ (eP (tOK t) bd z 1 2) ((endW (pCZ z bd) t (zCa z) : Int)) (SM σ m (eP (tOK t) bd z 1 2) len tx fa z l wl wr)) noX := by
  obtain ⟨I, A, N, -, h, hW⟩ := hX
  have h0 := h.1
  have hz := hW.2.2.1.1
  have wf := hW.2.2.1.2
  have n5 := wf.1.1.2.2
  obtain ⟨e, hEe⟩ : ∃ e, e = eP (tOK t) bd z 1 2 := ⟨_, rfl⟩
  have he4 : e ≤ 4 := by rw [hEe]; exact eP_le _ _ _ (by decide) (by decide)
  rw [← hEe]
  have fin : ∀ τ J B, eqOff σ τ (inb m 34) → MC τ m J B N → MW J B N len tx fa z l wl wr → (e = 0 → PLd J B z bd) → G Γ miX10_ended cX10_ended (mQ e ((endW (pCZ z bd) t (zCa z) : Int)) (SM σ m e len tx fa z l wl wr)) noX 0 0 15 [some (.ref m), some (.int (ii bd)), some (.int (ii t)), none, none] [.int (ii (e : Int)), .ref m] τ := by
    intro τ J B hE hM hWB hP
    have t0 := hM.1
    refine g_putM fp_X10_122 q_X10_ended_15 (by repeat first | with_reducible assumption | with_reducible exact hput_s _ _ _ | refine (hput_n _ _ (by omega)).trans ?_ | exact hput_s _ _ _ | assumption) rfl rfl mset_0 ?_
    refine g_aload_n q_X10_ended_18 rfl ?_
    refine g_get fl_X10_122 q_X10_ended_19 (by repeat first | with_reducible assumption | with_reducible exact hput_s _ _ _ | refine (hput_n _ _ (by omega)).trans ?_ | exact hput_s _ _ _ | assumption) rfl ?_
    refine g_topi (b := (e : Int)) (by rfl) ?_
    refine g_if_le (tgt := 27) q_X10_ended_22 (by decide) ⟨by omega, by omega⟩ (fun b9 => ?_) (fun b9 => ?_)
    case refine_2 =>
      refine g_iconst q_X10_ended_25 ?_
      refine g_ireturn q_X10_ended_26.1 rfl ?_
      exact ⟨by rw [if_neg (by omega)], SM.w hE hM hWB e⟩
    have ee : e = 0 := by omega
    subst ee
    obtain ⟨kp, hkp, j35, ha, hrow, hgo, hsum, hsum0, hrow0, hcc⟩ := hP rfl
    have hS := SM.w hE hM hWB 0
    have hM1 := hM.putI (va_up J 0 ((0 : Nat) : Int))
    obtain ⟨τ1, hτ1⟩ : ∃ τ1, τ1 = hput τ m (mdo m (va_up J 0 ((0 : Nat) : Int))) := ⟨_, rfl⟩
    rw [← hτ1] at hS hM1 ⊢
    clear hτ1 hE t0 hP
    have hrB := hWB.2.2.2.2.2.2.2
    have hzB := hWB.2.2.1.1
    have j35 : va_up J 0 ((0 : Nat) : Int) 35 = kp := j35
    have j15 : va_up J 0 ((0 : Nat) : Int) 15 = zCa z := hzB.1.2.2
    obtain ⟨J1, hJ1⟩ : ∃ J1, J1 = va_up J 0 ((0 : Nat) : Int) := ⟨_, rfl⟩
    rw [← hJ1] at j35 j15 hM1
    have hzJ : MZ J1 B z := by rw [hJ1]; exact hzB.cg ⟨rfl, rfl, rfl⟩ rfl rfl rfl
    clear hJ1
    have u0 := hM1.1
    have u16 := hM1.a16
    have eq2 := eP_z (by decide) hEe.symm
    unfold mQ
    rw [if_pos rfl]
    have ht1 := of_decide_eq_true eq2.1
    obtain ⟨P, hP⟩ : ∃ P, P = pPZ z bd := ⟨_, rfl⟩
    obtain ⟨C, hC⟩ : ∃ C, C = pCZ z bd := ⟨_, rfl⟩
    rw [← hP] at hrow
    rw [← hP, ← hC] at hgo
    have hct : ∀ c, c < zCa z → (ctN (fun t => B 16 (205 * kp + (41 * c + t))) 40 : Int) = C c := fun c hc => by
      rw [ctN_cg (g := fun t => P (41 * c + t)) (fun t ht => hrow _ (by omega)) 40 (Nat.le_refl _)]
      exact (hgo c hc).2.2.2.2.1
    rw [← hC]
    refine g_iconst q_X10_ended_27 ?_
    refine g_istore_n (L' := [_, _, _, _, _]) q_X10_ended_28 (by decide) rfl ?_
    refine g_iconst q_X10_ended_29 ?_
    refine g_istore (L' := [_, _, _, _, _]) q_X10_ended_30 (by decide) rfl ?_
    refine g_loop (fun k => k ≤ zCa z) (fun k : Nat => G Γ _ cX10_ended _ _ 0 0 32 [some (.ref m), some (.int (ii bd)), some (.int (ii t)), some (.int (ii (endW C t k : Int))), some (.int (ii k))] [] τ1) (fun k => zCa z - k) ?_ 0 (Nat.zero_le _)
    intro k hk1 ih
    refine g_iload q_X10_ended_32 rfl ?_
    refine g_aload_n q_X10_ended_34 rfl ?_
    refine g_get fl_X10_220 q_X10_ended_35 (by repeat first | with_reducible assumption | with_reducible exact hput_s _ _ _ | refine (hput_n _ _ (by omega)).trans ?_ | exact hput_s _ _ _ | assumption) rfl ?_
    refine g_topi (b := (zCa z : Int)) (by exact j15) ?_
    refine g_icmp_ge (tgt := 72) q_X10_ended_38 (by decide) ⟨by omega, by omega⟩ ⟨by omega, by omega⟩ (fun b1 => ?_) (fun b1 => ?_)
    · have e : k = zCa z := by omega
      subst e
      refine g_iload_n q_X10_ended_72 rfl ?_
      refine g_ireturn q_X10_ended_73.1 rfl ?_
      exact ⟨rfl, hS⟩
    have hnx := ih (k + 1) (by omega) (by omega)
    have hgk := hgo k (by omega)
    have hCk : 0 ≤ C k ∧ C k ≤ 40 := ⟨hgk.2.1, hgk.2.2.1⟩
    have hlt := endW_lt C t k (by omega)
    refine g_iload_n q_X10_ended_41 rfl ?_
    refine g_aload_n q_X10_ended_42 rfl ?_
    refine g_aload_n q_X10_ended_43 rfl ?_
    refine g_get fl_X10_314 q_X10_ended_44 (by repeat first | with_reducible assumption | with_reducible exact hput_s _ _ _ | refine (hput_n _ _ (by omega)).trans ?_ | exact hput_s _ _ _ | assumption) rfl ?_
    refine g_topi (b := (kp : Int)) (by exact j35) ?_
    refine g_iload q_X10_ended_47 rfl ?_
    refine g_callV (rc' := 0) (rs' := 0) (As := [_, _]) cs_X10_287 q_X10_ended_49 (sp_costAt hΓ u0 u16 hrB kp k (by omega) (by omega)) rfl (by repeat first | with_reducible assumption | with_reducible exact hput_s _ _ _ | refine (hput_n _ _ (by omega)).trans ?_ | exact hput_s _ _ _ | assumption) rfl rfl rfl rfl (Nat.le_of_ble_eq_true rfl) (by decide) (by decide) (by decide) (fun _ _ h => h.elim) (k_ri ?_)
    refine g_topi (b := C k) (hct k (by omega)) ?_
    refine g_iload_n q_X10_ended_52 rfl ?_
    refine g_icmp_gt (tgt := 63) q_X10_ended_53 (by decide) ⟨by omega, by omega⟩ ⟨by omega, by omega⟩ (fun b2 => ?_) (fun b2 => ?_)
    · rw [show endW C t (k + 1) = endW C t k from if_neg (by omega)] at hnx
      refine g_iconst q_X10_ended_63 ?_
      refine g_ior q_X10_ended_64 ?_
      rw [bt_or0 ⟨endW C t k, hlt⟩]
      refine g_istore_n (L' := [_, _, _, _, _]) q_X10_ended_65 (by decide) rfl ?_
      refine g_iinc (L' := [_, _, _, _, _]) q_X10_ended_66 rfl rfl ?_
      refine g_goto (tgt := 32) q_X10_ended_69 (by decide) ?_
      exact hnx
    · rw [show endW C t (k + 1) = endW C t k ||| 2 ^ k from if_pos (by omega)] at hnx
      refine g_iconst q_X10_ended_56 ?_
      refine g_iload q_X10_ended_57 rfl ?_
      refine g_ishl q_X10_ended_59 ?_
      refine g_goto (tgt := 64) q_X10_ended_60 (by decide) ?_
      refine g_ior q_X10_ended_64 ?_
      rw [bt_or ⟨endW C t k, hlt⟩ ⟨k, by omega⟩]
      refine g_istore_n (L' := [_, _, _, _, _]) q_X10_ended_65 (by decide) rfl ?_
      refine g_iinc (L' := [_, _, _, _, _]) q_X10_ended_66 rfl rfl ?_
      refine g_goto (tgt := 32) q_X10_ended_69 (by decide) ?_
      exact hnx
  refine Sp_of (L := [_, _, _, _, _]) hΓ (by decide +kernel) rfl (Nat.le_of_ble_eq_true rfl) rfl ?_
  refine g_aload_n q_X10_ended_0 rfl ?_
  refine g_aload_n q_X10_ended_1 rfl ?_
  refine g_iload_n q_X10_ended_2 rfl ?_
  refine g_iconst q_X10_ended_3 ?_
  refine g_bipush q_X10_ended_4 bp_40 ?_
  refine g_callS (rc' := 0) (rs' := 0) (As := [_, _, _]) cs_X10_229 q_X10_ended_6 (sp_isIn hΓ t 0 40 ht ⟨by decide, by decide⟩ ⟨by decide, by decide⟩) rfl rfl rfl (Nat.le_of_ble_eq_true rfl) (by decide) (by decide) (by decide) (fun _ _ h => h.elim) (k_rb ?_)
  refine g_iload_n q_X10_ended_9 rfl ?_
  refine g_iconst q_X10_ended_10 ?_
  refine g_iconst q_X10_ended_11 ?_
  refine g_callV (rc' := 0) (rs' := 0) (As := [_, _, _, _]) cs_X10_337 q_X10_ended_12 (sp_wrongPlan hΓ h hW (tOK t) bd hbd 1 2 (by decide) (by decide)) rfl (by repeat first | with_reducible assumption | with_reducible exact hput_s _ _ _ | refine (hput_n _ _ (by omega)).trans ?_ | exact hput_s _ _ _ | assumption) rfl rfl rfl rfl (Nat.le_of_ble_eq_true rfl) (by decide) (by decide) (by decide) (fun _ _ h => h.elim) (fun v τ hq => ?_)
  rw [← hEe] at hq
  obtain ⟨rfl, hE, J, B, hM, hWB, hP⟩ := hq
  exact fin τ J B hE hM hWB hP

end MPL3

