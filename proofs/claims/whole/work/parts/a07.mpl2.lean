/-! the reference: cells that are used (written by gena2.py) -/
theorem fs_s (p : Nat → Bool) (t : Nat) : decide (fstN p (t + 1) ≠ -1) = (decide (fstN p t ≠ -1) || p t) := by
  rcases fstN_cases p t with ⟨e, hn⟩ | ⟨k, hk, e, hp, hn⟩
  · rw [e]
    cases hpt : p t with
    | true =>
      rw [fstN_some (k := t) (by omega) hpt hn]
      exact decide_eq_true (by omega)
    | false =>
      rw [fstN_none (fun j hj => by
        by_cases q : j = t
        · rw [q]; exact hpt
        · exact hn j (by omega))]
      rfl
  · rw [e, fstN_some (k := k) (by omega) hp hn, decide_eq_true (show (k : Int) ≠ -1 by omega)]
    rfl
section MPL2
variable {Γ : GT} {σ : AH} {m : Nat} {len : Nat} {tx : Nat → Int} {fa e0 : Int} {z : PS} {l : List (Int × Int × Int)} {wl : Nat} {wr : Nat → Int}
variable {I : Nat → Int} {W P : Nat → Int}
theorem sp_usedBy (hΓ : Gd Γ) (h0 : σ.2 m = some (mdo m I)) (h16 : σ.2 (m + 16) = some (ai 62115 W)) (hW : ∀ i, rg (W i)) {k n : Nat} (hk : k < 303) (hn : n ≤ 5) (h15 : I 15 = n) (h35 : I 35 = k) (hP : ∀ i, i < 41 * n → W (205 * k + i) = P i) (c : Int) (hc : rg c) : Sp Γ miX10_usedBy 0 0 [.ref m, .int (ii c)] σ (ri (aUsed P n c) σ) noX := by
  refine Sp_of (L := [_, _, _, _, _, _]) hΓ (by decide +kernel) rfl (Nat.le_of_ble_eq_true rfl) rfl ?_
  refine g_iconst q_X10_usedBy_0 ?_
  refine g_istore_n (L' := [_, _, _, _, _, _]) q_X10_usedBy_1 (by decide) rfl ?_
  refine g_iconst q_X10_usedBy_2 ?_
  refine g_istore_n (L' := [_, _, _, _, _, _]) q_X10_usedBy_3 (by decide) rfl ?_
  refine g_loop (fun a => a ≤ n) (fun a : Nat => G Γ _ cX10_usedBy _ _ 0 0 4 [some (.ref m), some (.int (ii c)), some (.int (ii (aUsed P a c))), some (.int (ii a)), none, none] [] σ) (fun a => n - a) ?_ 0 (Nat.zero_le _)
  intro a ha ih
  have hs := aUsed_rg P (n := a) c
  refine g_iload_n q_X10_usedBy_4 rfl ?_
  refine g_aload_n q_X10_usedBy_5 rfl ?_
  refine g_get fl_X10_220 q_X10_usedBy_6 (by repeat first | with_reducible assumption | with_reducible exact hput_s _ _ _ | refine (hput_n _ _ (by omega)).trans ?_ | exact hput_s _ _ _ | assumption) rfl ?_
  refine g_topi (b := (n : Int)) (by exact h15) ?_
  refine g_icmp_ge (tgt := 77) q_X10_usedBy_9 (by decide) ⟨by omega, by omega⟩ ⟨by omega, by omega⟩ (fun b1 => ?_) (fun b1 => ?_)
  · have e : a = n := by omega
    subst e
    refine g_iload_n q_X10_usedBy_77 rfl ?_
    refine g_ireturn q_X10_usedBy_78.1 rfl ?_
    exact ⟨rfl, rfl⟩
  have hnx := ih (a + 1) (by omega) (by omega)
  obtain ⟨p, hp⟩ : ∃ p : Nat → Bool, p = fun t => decide (P (41 * a + t) = c) := ⟨_, rfl⟩
  have eU : aUsed P (a + 1) c = aUsed P a c + bi (decide (fstN p 41 ≠ -1)) := by rw [hp]; rfl
  rw [eU] at hnx
  refine g_iconst q_X10_usedBy_12 ?_
  refine g_istore (L' := [_, _, _, _, _, _]) q_X10_usedBy_13 (by decide) rfl ?_
  refine g_iconst q_X10_usedBy_15 ?_
  refine g_istore (L' := [_, _, _, _, _, _]) q_X10_usedBy_16 (by decide) rfl ?_
  refine g_loop (fun t => t ≤ 41) (fun t : Nat => G Γ _ cX10_usedBy _ _ 0 0 18 [some (.ref m), some (.int (ii c)), some (.int (ii (aUsed P a c))), some (.int (ii a)), some (.int (ii (bi (decide (fstN p t ≠ -1))))), some (.int (ii t))] [] σ) (fun t => 41 - t) ?_ 0 (Nat.zero_le _)
  intro t ht ih2
  refine g_iload q_X10_usedBy_18 rfl ?_
  refine g_bipush q_X10_usedBy_20 bp_41 ?_
  refine g_icmp_ge (tgt := 58) q_X10_usedBy_22 (by decide) ⟨by omega, by omega⟩ ⟨by omega, by omega⟩ (fun b2 => ?_) (fun b2 => ?_)
  · have e : t = 41 := by omega
    subst e
    refine g_iload_n q_X10_usedBy_58 rfl ?_
    refine g_iload q_X10_usedBy_59 rfl ?_
    refine g_if_eq (tgt := 68) q_X10_usedBy_61 (by decide) (bi_rg _) (fun b3 => ?_) (fun b3 => ?_)
    · rw [b3] at hnx
      refine g_iconst q_X10_usedBy_68 ?_
      refine g_iadd q_X10_usedBy_69 ?_
      refine g_istore_n (L' := [_, _, _, _, _, _]) q_X10_usedBy_70 (by decide) rfl ?_
      refine g_iinc (L' := [_, _, _, _, _, _]) q_X10_usedBy_71 rfl rfl ?_
      refine g_goto (tgt := 4) q_X10_usedBy_74 (by decide) ?_
      exact g_fl hnx ⟨rfl, rfl, rfl, rfl, trivial⟩
    · rw [show bi (decide (fstN p 41 ≠ -1)) = 1 by have := bi_le (decide (fstN p 41 ≠ -1)); omega] at hnx
      refine g_iconst q_X10_usedBy_64 ?_
      refine g_goto (tgt := 69) q_X10_usedBy_65 (by decide) ?_
      refine g_iadd q_X10_usedBy_69 ?_
      refine g_istore_n (L' := [_, _, _, _, _, _]) q_X10_usedBy_70 (by decide) rfl ?_
      refine g_iinc (L' := [_, _, _, _, _, _]) q_X10_usedBy_71 rfl rfl ?_
      refine g_goto (tgt := 4) q_X10_usedBy_74 (by decide) ?_
      exact g_fl hnx ⟨rfl, rfl, rfl, rfl, trivial⟩
  have hnx2 := ih2 (t + 1) (by omega) (by omega)
  rw [fs_s] at hnx2
  refine g_iload q_X10_usedBy_25 rfl ?_
  refine g_if_ne (tgt := 45) q_X10_usedBy_27 (by decide) (bi_rg _) (fun b3 => ?_) (fun b3 => ?_)
  · rw [bi_t b3, Bool.true_or] at hnx2
    rw [bi_t b3]
    refine g_iconst q_X10_usedBy_45 ?_
    refine g_goto (tgt := 50) q_X10_usedBy_46 (by decide) ?_
    refine g_istore (L' := [_, _, _, _, _, _]) q_X10_usedBy_50 (by decide) rfl ?_
    refine g_iinc (L' := [_, _, _, _, _, _]) q_X10_usedBy_52 rfl rfl ?_
    refine g_goto (tgt := 18) q_X10_usedBy_55 (by decide) ?_
    exact hnx2
  have e3 := bi_f (show bi (decide (fstN p t ≠ -1)) = 0 by omega)
  rw [e3, Bool.false_or] at hnx2
  rw [e3]
  refine g_aload_n q_X10_usedBy_30 rfl ?_
  refine g_aload_n q_X10_usedBy_31 rfl ?_
  refine g_get fl_X10_314 q_X10_usedBy_32 (by repeat first | with_reducible assumption | with_reducible exact hput_s _ _ _ | refine (hput_n _ _ (by omega)).trans ?_ | exact hput_s _ _ _ | assumption) rfl ?_
  refine g_topi (b := (k : Int)) (by exact h35) ?_
  refine g_iload_n q_X10_usedBy_35 rfl ?_
  refine g_iload q_X10_usedBy_36 rfl ?_
  refine g_callV (rc' := 0) (rs' := 0) (As := [_, _, _]) cs_X10_263 q_X10_usedBy_38 (sp_wayAt hΓ h0 h16 k a t hk (by omega) (by omega)) rfl (by repeat first | with_reducible assumption | with_reducible exact hput_s _ _ _ | refine (hput_n _ _ (by omega)).trans ?_ | exact hput_s _ _ _ | assumption) rfl rfl rfl rfl (Nat.le_of_ble_eq_true rfl) (by decide) (by decide) (by decide) (fun _ _ h => h.elim) (k_ri ?_)
  have hr9 := hW (205 * k + (41 * a + t))
  rw [hP _ (by omega)] at hr9 ⊢
  refine g_iload_n q_X10_usedBy_41 rfl ?_
  refine g_icmp_ne (tgt := 49) q_X10_usedBy_42 (by decide) hr9 hc (fun b4 => ?_) (fun b4 => ?_)
  · rw [show p t = false by rw [hp]; exact decide_eq_false b4] at hnx2
    refine g_iconst q_X10_usedBy_49 ?_
    refine g_istore (L' := [_, _, _, _, _, _]) q_X10_usedBy_50 (by decide) rfl ?_
    refine g_iinc (L' := [_, _, _, _, _, _]) q_X10_usedBy_52 rfl rfl ?_
    refine g_goto (tgt := 18) q_X10_usedBy_55 (by decide) ?_
    exact hnx2
  · rw [show p t = true by rw [hp]; exact decide_eq_true (by omega)] at hnx2
    refine g_iconst q_X10_usedBy_45 ?_
    refine g_goto (tgt := 50) q_X10_usedBy_46 (by decide) ?_
    refine g_istore (L' := [_, _, _, _, _, _]) q_X10_usedBy_50 (by decide) rfl ?_
    refine g_iinc (L' := [_, _, _, _, _, _]) q_X10_usedBy_52 rfl rfl ?_
    refine g_goto (tgt := 18) q_X10_usedBy_55 (by decide) ?_
    exact hnx2

theorem sp_mused (hΓ : Gd Γ) (hX : MX σ m e0 len tx fa z l wl wr) (bd : Int) (a : Int) (b : Int) (nx : Bool) (hbd : rg bd) (ha : rg a) (hb : rg b) : Sp Γ miX10_used 0 0 [.ref m, .int (ii bd), .int (ii a), .int (ii b), .int (ii (bi nx))] σ (mQ (eQ (xyOK z a b) (true) bd z) (if nx = true then aLeav (pPZ z bd) (zCa z) (6 * b + a) else aUsed (pPZ z bd) (zCa z) (6 * b + a)) (SM σ m (eQ (xyOK z a b) (true) bd z) len tx fa z l wl wr)) noX := by
  obtain ⟨I, A, N, -, h, hW⟩ := hX
  have h0 := h.1
  have hz := hW.2.2.1.1
  have wf := hW.2.2.1.2
  have n5 := wf.1.1.2.2
  obtain ⟨e, hEe⟩ : ∃ e, e = eQ (xyOK z a b) (true) bd z := ⟨_, rfl⟩
  have he4 : e ≤ 4 := by rw [hEe]; exact eQ_le _ _ _ _
  rw [← hEe]
  have fin : ∀ τ J B, eqOff σ τ (inb m 34) → MC τ m J B N → MW J B N len tx fa z l wl wr → (e = 0 → PLd J B z bd) → G Γ miX10_used cX10_used (mQ e (if nx = true then aLeav (pPZ z bd) (zCa z) (6 * b + a) else aUsed (pPZ z bd) (zCa z) (6 * b + a)) (SM σ m e len tx fa z l wl wr)) noX 0 0 22 [some (.ref m), some (.int (ii bd)), some (.int (ii a)), some (.int (ii b)), some (.int (ii (bi nx))), none, none, none, none] [.int (ii (e : Int)), .ref m] τ := by
    intro τ J B hE hM hWB hP
    have t0 := hM.1
    refine g_putM fp_X10_122 q_X10_used_22 (by repeat first | with_reducible assumption | with_reducible exact hput_s _ _ _ | refine (hput_n _ _ (by omega)).trans ?_ | exact hput_s _ _ _ | assumption) rfl rfl mset_0 ?_
    refine g_aload_n q_X10_used_25 rfl ?_
    refine g_get fl_X10_122 q_X10_used_26 (by repeat first | with_reducible assumption | with_reducible exact hput_s _ _ _ | refine (hput_n _ _ (by omega)).trans ?_ | exact hput_s _ _ _ | assumption) rfl ?_
    refine g_topi (b := (e : Int)) (by rfl) ?_
    refine g_if_le (tgt := 34) q_X10_used_29 (by decide) ⟨by omega, by omega⟩ (fun b9 => ?_) (fun b9 => ?_)
    case refine_2 =>
      refine g_iconst q_X10_used_32 ?_
      refine g_ireturn q_X10_used_33.1 rfl ?_
      exact ⟨by rw [if_neg (by omega)], SM.w hE hM hWB e⟩
    have ee : e = 0 := by omega
    subst ee
    obtain ⟨kp, hkp, j35, ha, hrow, hgo, hsum, hsum0, hrow0, hcc⟩ := hP rfl
    have hS := SM.w hE hM hWB 0
    have hM1 := hM.putI (va_up J 0 ((0 : Nat) : Int))
    obtain ⟨τ1, hτ1⟩ : ∃ τ1, τ1 = hput τ m (mdo m (va_up J 0 ((0 : Nat) : Int))) := ⟨_, rfl⟩
    rw [← hτ1] at hS hM1 ⊢
    clear hτ1 hE t0 hP
    have hrB := hWB.2.2.2.2.2.2.2
    have hzB := hWB.2.2.1.1
    have j35 : va_up J 0 ((0 : Nat) : Int) 35 = kp := j35
    have j15 : va_up J 0 ((0 : Nat) : Int) 15 = zCa z := hzB.1.2.2
    obtain ⟨J1, hJ1⟩ : ∃ J1, J1 = va_up J 0 ((0 : Nat) : Int) := ⟨_, rfl⟩
    rw [← hJ1] at j35 j15 hM1
    have hzJ : MZ J1 B z := by rw [hJ1]; exact hzB.cg ⟨rfl, rfl, rfl⟩ rfl rfl rfl
    clear hJ1
    have u0 := hM1.1
    have u16 := hM1.a16
    obtain ⟨eq1, eq2⟩ := eQ_z hEe.symm
    unfold mQ
    rw [if_pos rfl]
    have hc1 := of_decide_eq_true eq1
    have c6 := wf.1.1.1
    have r6 := wf.1.1.2.1
    obtain ⟨P, hP⟩ : ∃ P, P = pPZ z bd := ⟨_, rfl⟩
    rw [← hP] at hrow hgo ⊢
    obtain ⟨q, hq⟩ : ∃ q, q = 6 * b + a := ⟨_, rfl⟩
    rw [← hq]
    refine g_bipush q_X10_used_34 bp_6 ?_
    refine g_iload_n q_X10_used_36 rfl ?_
    refine g_imul q_X10_used_37 ?_
    refine g_iload_n q_X10_used_38 rfl ?_
    refine g_iadd q_X10_used_39 ?_
    refine g_topi (b := q) (by exact hq.symm) ?_
    refine g_istore (L' := [_, _, _, _, _, _, _, _, _]) q_X10_used_40 (by decide) rfl ?_
    refine g_iload q_X10_used_42 rfl ?_
    refine g_if_ne (tgt := 54) q_X10_used_44 (by decide) (bi_rg _) (fun b1 => ?_) (fun b1 => ?_)
    case refine_2 =>
      have e1 := bi_f (show bi nx = 0 by omega)
      rw [if_neg (by rw [e1]; decide)]
      refine g_aload_n q_X10_used_47 rfl ?_
      refine g_iload q_X10_used_48 rfl ?_
      refine g_callV (rc' := 0) (rs' := 0) (As := [_]) cs_X10_341 q_X10_used_50 (sp_usedBy hΓ u0 u16 hrB (by omega) n5 j15 j35 hrow q ⟨by omega, by omega⟩) rfl (by repeat first | with_reducible assumption | with_reducible exact hput_s _ _ _ | refine (hput_n _ _ (by omega)).trans ?_ | exact hput_s _ _ _ | assumption) rfl rfl rfl rfl (Nat.le_of_ble_eq_true rfl) (by decide) (by decide) (by decide) (fun _ _ h => h.elim) (k_ri ?_)
      refine g_ireturn q_X10_used_53.1 rfl ?_
      exact ⟨rfl, hS⟩
    rw [if_pos (bi_t b1)]
    have hlr : ∀ k t, 0 ≤ lvN P q k t ∧ lvN P q k t ≤ t := fun k t => cntN_rg _ _
    refine g_iconst q_X10_used_54 ?_
    refine g_istore (L' := [_, _, _, _, _, _, _, _, _]) q_X10_used_55 (by decide) rfl ?_
    refine g_iconst q_X10_used_57 ?_
    refine g_istore (L' := [_, _, _, _, _, _, _, _, _]) q_X10_used_58 (by decide) rfl ?_
    refine g_loop (fun k => k ≤ zCa z) (fun k : Nat => G Γ _ cX10_used _ _ 0 0 60 [some (.ref m), some (.int (ii bd)), some (.int (ii a)), some (.int (ii b)), some (.int (ii (bi nx))), some (.int (ii q)), some (.int (ii (sumN (fun k => lvN P q k 40) k))), some (.int (ii k)), none] [] τ1) (fun k => zCa z - k) ?_ 0 (Nat.zero_le _)
    intro k hk1 ih
    have hs := sumN_rg (C := fun k => lvN P q k 40) (a := 0) (b := 40) (n := k) (fun j _ => hlr j 40)
    refine g_iload q_X10_used_60 rfl ?_
    refine g_aload_n q_X10_used_62 rfl ?_
    refine g_get fl_X10_220 q_X10_used_63 (by repeat first | with_reducible assumption | with_reducible exact hput_s _ _ _ | refine (hput_n _ _ (by omega)).trans ?_ | exact hput_s _ _ _ | assumption) rfl ?_
    refine g_topi (b := (zCa z : Int)) (by exact j15) ?_
    refine g_icmp_ge (tgt := 137) q_X10_used_66 (by decide) ⟨by omega, by omega⟩ ⟨by omega, by omega⟩ (fun b2 => ?_) (fun b2 => ?_)
    · have e : k = zCa z := by omega
      subst e
      refine g_iload q_X10_used_137 rfl ?_
      refine g_ireturn q_X10_used_139.1 rfl ?_
      exact ⟨rfl, hS⟩
    have hnx := ih (k + 1) (by omega) (by omega)
    obtain ⟨S, hSs⟩ : ∃ S, S = sumN (fun k => lvN P q k 40) k := ⟨_, rfl⟩
    rw [show sumN (fun k => lvN P q k 40) (k + 1) = S + lvN P q k 40 by rw [hSs]; rfl] at hnx
    rw [← hSs] at hs ⊢
    refine g_iconst q_X10_used_69 ?_
    refine g_istore (L' := [_, _, _, _, _, _, _, _, _]) q_X10_used_70 (by decide) rfl ?_
    refine g_eq (L2 := [some (.ref m), some (.int (ii bd)), some (.int (ii a)), some (.int (ii b)), some (.int (ii (bi nx))), some (.int (ii q)), some (.int (ii (S + lvN P q k 0))), some (.int (ii k)), some (.int (ii ((0 : Nat) : Int)))]) (by rw [show S + lvN P q k 0 = S from Int.add_zero S]; rfl) rfl rfl ?_
    refine g_loop (fun t => t ≤ 40) (fun t : Nat => G Γ _ cX10_used _ _ 0 0 72 [some (.ref m), some (.int (ii bd)), some (.int (ii a)), some (.int (ii b)), some (.int (ii (bi nx))), some (.int (ii q)), some (.int (ii (S + lvN P q k t))), some (.int (ii k)), some (.int (ii t))] [] τ1) (fun t => 40 - t) ?_ 0 (Nat.zero_le _)
    intro t ht ih2
    refine g_iload q_X10_used_72 rfl ?_
    refine g_bipush q_X10_used_74 bp_40 ?_
    refine g_icmp_ge (tgt := 131) q_X10_used_76 (by decide) ⟨by omega, by omega⟩ ⟨by omega, by omega⟩ (fun b3 => ?_) (fun b3 => ?_)
    · have e : t = 40 := by omega
      subst e
      refine g_iinc (L' := [_, _, _, _, _, _, _, _, _]) q_X10_used_131 rfl rfl ?_
      refine g_goto (tgt := 60) q_X10_used_134 (by decide) ?_
      exact g_fl hnx ⟨rfl, rfl, rfl, rfl, rfl, rfl, rfl, rfl, trivial⟩
    have hnx2 := ih2 (t + 1) (by omega) (by omega)
    have hl := hlr k t
    have eL : lvN P q k (t + 1) = lvN P q k t + bi (decide (P (41 * k + t) = q) && decide (P (41 * k + (t + 1)) ≠ P (41 * k + t))) := rfl
    rw [eL] at hnx2
    have hg1 : (0 ≤ P (41 * k + t) ∧ P (41 * k + t) < 36) ∧ _ := (hgo k (by omega)).gin wf (by omega) t (by omega)
    have hg2 : (0 ≤ P (41 * k + (t + 1)) ∧ P (41 * k + (t + 1)) < 36) ∧ _ := (hgo k (by omega)).gin wf (by omega) (t + 1) (by omega)
    have no : (decide (P (41 * k + t) = q) && decide (P (41 * k + (t + 1)) ≠ P (41 * k + t))) = false → G Γ miX10_used cX10_used (fun r σ' => r = some (.int (ii (aLeav P (zCa z) q))) ∧ SM σ m 0 len tx fa z l wl wr σ') noX 0 0 121 [some (.ref m), some (.int (ii bd)), some (.int (ii a)), some (.int (ii b)), some (.int (ii (bi nx))), some (.int (ii q)), some (.int (ii (S + lvN P q k t))), some (.int (ii k)), some (.int (ii t))] [.int (ii (S + lvN P q k t))] τ1 := fun hq9 => by
      rw [hq9] at hnx2
      refine g_iconst q_X10_used_121 ?_
      refine g_iadd q_X10_used_122 ?_
      refine g_topi (b := (S + (lvN P q k t + bi false))) (by exact Int.add_assoc _ _ _) ?_
      refine g_istore (L' := [_, _, _, _, _, _, _, _, _]) q_X10_used_123 (by decide) rfl ?_
      refine g_iinc (L' := [_, _, _, _, _, _, _, _, _]) q_X10_used_125 rfl rfl ?_
      refine g_goto (tgt := 72) q_X10_used_128 (by decide) ?_
      exact hnx2
    refine g_iload q_X10_used_79 rfl ?_
    refine g_aload_n q_X10_used_81 rfl ?_
    refine g_aload_n q_X10_used_82 rfl ?_
    refine g_get fl_X10_314 q_X10_used_83 (by repeat first | with_reducible assumption | with_reducible exact hput_s _ _ _ | refine (hput_n _ _ (by omega)).trans ?_ | exact hput_s _ _ _ | assumption) rfl ?_
    refine g_topi (b := (kp : Int)) (by exact j35) ?_
    refine g_iload q_X10_used_86 rfl ?_
    refine g_iload q_X10_used_88 rfl ?_
    refine g_callV (rc' := 0) (rs' := 0) (As := [_, _, _]) cs_X10_263 q_X10_used_90 (sp_wayAt hΓ u0 u16 kp k t (by omega) (by omega) (by omega)) rfl (by repeat first | with_reducible assumption | with_reducible exact hput_s _ _ _ | refine (hput_n _ _ (by omega)).trans ?_ | exact hput_s _ _ _ | assumption) rfl rfl rfl rfl (Nat.le_of_ble_eq_true rfl) (by decide) (by decide) (by decide) (fun _ _ h => h.elim) (k_ri ?_)
    refine g_topi (b := P (41 * k + t)) (hrow _ (by omega)) ?_
    refine g_iload q_X10_used_93 rfl ?_
    refine g_icmp_ne (tgt := 121) q_X10_used_95 (by decide) ⟨by omega, by omega⟩ ⟨by omega, by omega⟩ (fun b4 => ?_) (fun b4 => ?_)
    · exact no (by rw [decide_eq_false b4]; rfl)
    refine g_aload_n q_X10_used_98 rfl ?_
    refine g_aload_n q_X10_used_99 rfl ?_
    refine g_get fl_X10_314 q_X10_used_100 (by repeat first | with_reducible assumption | with_reducible exact hput_s _ _ _ | refine (hput_n _ _ (by omega)).trans ?_ | exact hput_s _ _ _ | assumption) rfl ?_
    refine g_topi (b := (kp : Int)) (by exact j35) ?_
    refine g_iload q_X10_used_103 rfl ?_
    refine g_iload q_X10_used_105 rfl ?_
    refine g_iconst q_X10_used_107 ?_
    refine g_iadd q_X10_used_108 ?_
    refine g_topi (b := ((t + 1 : Nat) : Int)) (by omega) ?_
    refine g_callV (rc' := 0) (rs' := 0) (As := [_, _, _]) cs_X10_263 q_X10_used_109 (sp_wayAt hΓ u0 u16 kp k (t + 1) (by omega) (by omega) (by omega)) rfl (by repeat first | with_reducible assumption | with_reducible exact hput_s _ _ _ | refine (hput_n _ _ (by omega)).trans ?_ | exact hput_s _ _ _ | assumption) rfl rfl rfl rfl (Nat.le_of_ble_eq_true rfl) (by decide) (by decide) (by decide) (fun _ _ h => h.elim) (k_ri ?_)
    refine g_topi (b := P (41 * k + (t + 1))) (hrow _ (by omega)) ?_
    refine g_iload q_X10_used_112 rfl ?_
    refine g_icmp_eq (tgt := 121) q_X10_used_114 (by decide) ⟨by omega, by omega⟩ ⟨by omega, by omega⟩ (fun b5 => ?_) (fun b5 => ?_)
    · exact no (by rw [decide_eq_false (show ¬ P (41 * k + (t + 1)) ≠ P (41 * k + t) by omega), Bool.and_false])
    · rw [decide_eq_true (show P (41 * k + t) = q by omega), decide_eq_true (show P (41 * k + (t + 1)) ≠ P (41 * k + t) by omega)] at hnx2
      refine g_iconst q_X10_used_117 ?_
      refine g_goto (tgt := 122) q_X10_used_118 (by decide) ?_
      refine g_iadd q_X10_used_122 ?_
      refine g_topi (b := (S + (lvN P q k t + bi (true && true)))) (by exact Int.add_assoc _ _ _) ?_
      refine g_istore (L' := [_, _, _, _, _, _, _, _, _]) q_X10_used_123 (by decide) rfl ?_
      refine g_iinc (L' := [_, _, _, _, _, _, _, _, _]) q_X10_used_125 rfl rfl ?_
      refine g_goto (tgt := 72) q_X10_used_128 (by decide) ?_
      exact hnx2
  refine Sp_of (L := [_, _, _, _, _, _, _, _, _]) hΓ (by decide +kernel) rfl (Nat.le_of_ble_eq_true rfl) rfl ?_
  refine g_aload_n q_X10_used_0 rfl ?_
  refine g_aload_n q_X10_used_1 rfl ?_
  refine g_iload_n q_X10_used_2 rfl ?_
  refine g_iload_n q_X10_used_3 rfl ?_
  refine g_callV (rc' := 0) (rs' := 0) (As := [_, _]) cs_X10_233 q_X10_used_4 (sp_isCell hΓ h0 hz.1.1 hz.1.2.1 wf.1.1.1 wf.1.1.2.1 a b ha hb) rfl (by repeat first | with_reducible assumption | with_reducible exact hput_s _ _ _ | refine (hput_n _ _ (by omega)).trans ?_ | exact hput_s _ _ _ | assumption) rfl rfl rfl rfl (Nat.le_of_ble_eq_true rfl) (by decide) (by decide) (by decide) (fun _ _ h => h.elim) (k_rb ?_)
  refine g_if_ne (tgt := 14) q_X10_used_7 (by decide) (bi_rg _) (fun b1 => ?_) (fun b1 => ?_)
  case refine_2 =>
    have e1 : e = 1 := by rw [hEe]; exact eQ_f (decide_eq_false (of_decide_eq_false (bi_f (show bi (decide (0 ≤ a ∧ a < (zCo z : Int) ∧ 0 ≤ b ∧ b < (zRo z : Int))) = 0 by omega))))
    refine g_iconst q_X10_used_10 ?_
    refine g_goto (tgt := 22) q_X10_used_11 (by decide) ?_
    refine g_topi (b := (e : Int)) (by rw [e1]; rfl) ?_
    exact fin σ I A eqOff.rfl' h hW (fun q => by omega)
  have c1 : xyOK z a b = true := decide_eq_true (of_decide_eq_true (bi_t b1))
  refine g_aload_n q_X10_used_14 rfl ?_
  refine g_iconst q_X10_used_15 ?_
  refine g_iload_n q_X10_used_16 rfl ?_
  refine g_iconst q_X10_used_17 ?_
  refine g_iconst q_X10_used_18 ?_
  refine g_callV (rc' := 0) (rs' := 0) (As := [_, _, _, _]) cs_X10_337 q_X10_used_19 (sp_wrongPlan hΓ h hW true bd hbd 2 3 (by decide) (by decide)) rfl (by repeat first | with_reducible assumption | with_reducible exact hput_s _ _ _ | refine (hput_n _ _ (by omega)).trans ?_ | exact hput_s _ _ _ | assumption) rfl rfl rfl rfl (Nat.le_of_ble_eq_true rfl) (by decide) (by decide) (by decide) (fun _ _ h => h.elim) (fun v τ hq => ?_)
  rw [← show e = _ from hEe.trans (eQ_t c1)] at hq
  obtain ⟨rfl, hE, J, B, hM, hWB, hP⟩ := hq
  exact fin τ J B hE hM hWB hP

theorem sp_mbusiest (hΓ : Gd Γ) (hX : MX σ m e0 len tx fa z l wl wr) (bd : Int) (hbd : rg bd) : Sp Γ miX10_busiest 0 0 [.ref m, .int (ii bd)] σ (mQ (eP (true) bd z 1 2) ((bzN (pPZ z bd) (zCa z) 36).1) (SM σ m (eP (true) bd z 1 2) len tx fa z l wl wr)) noX := by
  obtain ⟨I, A, N, -, h, hW⟩ := hX
  have h0 := h.1
  have hz := hW.2.2.1.1
  have wf := hW.2.2.1.2
  have n5 := wf.1.1.2.2
  obtain ⟨e, hEe⟩ : ∃ e, e = eP (true) bd z 1 2 := ⟨_, rfl⟩
  have he4 : e ≤ 4 := by rw [hEe]; exact eP_le _ _ _ (by decide) (by decide)
  rw [← hEe]
  have fin : ∀ τ J B, eqOff σ τ (inb m 34) → MC τ m J B N → MW J B N len tx fa z l wl wr → (e = 0 → PLd J B z bd) → G Γ miX10_busiest cX10_busiest (mQ e ((bzN (pPZ z bd) (zCa z) 36).1) (SM σ m e len tx fa z l wl wr)) noX 0 0 9 [some (.ref m), some (.int (ii bd)), none, none, none, none] [.int (ii (e : Int)), .ref m] τ := by
    intro τ J B hE hM hWB hP
    have t0 := hM.1
    refine g_putM fp_X10_122 q_X10_busiest_9 (by repeat first | with_reducible assumption | with_reducible exact hput_s _ _ _ | refine (hput_n _ _ (by omega)).trans ?_ | exact hput_s _ _ _ | assumption) rfl rfl mset_0 ?_
    refine g_aload_n q_X10_busiest_12 rfl ?_
    refine g_get fl_X10_122 q_X10_busiest_13 (by repeat first | with_reducible assumption | with_reducible exact hput_s _ _ _ | refine (hput_n _ _ (by omega)).trans ?_ | exact hput_s _ _ _ | assumption) rfl ?_
    refine g_topi (b := (e : Int)) (by rfl) ?_
    refine g_if_le (tgt := 21) q_X10_busiest_16 (by decide) ⟨by omega, by omega⟩ (fun b9 => ?_) (fun b9 => ?_)
    case refine_2 =>
      refine g_iconst q_X10_busiest_19 ?_
      refine g_ireturn q_X10_busiest_20.1 rfl ?_
      exact ⟨by rw [if_neg (by omega)], SM.w hE hM hWB e⟩
    have ee : e = 0 := by omega
    subst ee
    obtain ⟨kp, hkp, j35, ha, hrow, hgo, hsum, hsum0, hrow0, hcc⟩ := hP rfl
    have hS := SM.w hE hM hWB 0
    have hM1 := hM.putI (va_up J 0 ((0 : Nat) : Int))
    obtain ⟨τ1, hτ1⟩ : ∃ τ1, τ1 = hput τ m (mdo m (va_up J 0 ((0 : Nat) : Int))) := ⟨_, rfl⟩
    rw [← hτ1] at hS hM1 ⊢
    clear hτ1 hE t0 hP
    have hrB := hWB.2.2.2.2.2.2.2
    have hzB := hWB.2.2.1.1
    have j35 : va_up J 0 ((0 : Nat) : Int) 35 = kp := j35
    have j15 : va_up J 0 ((0 : Nat) : Int) 15 = zCa z := hzB.1.2.2
    obtain ⟨J1, hJ1⟩ : ∃ J1, J1 = va_up J 0 ((0 : Nat) : Int) := ⟨_, rfl⟩
    rw [← hJ1] at j35 j15 hM1
    have hzJ : MZ J1 B z := by rw [hJ1]; exact hzB.cg ⟨rfl, rfl, rfl⟩ rfl rfl rfl
    clear hJ1
    have u0 := hM1.1
    have u16 := hM1.a16
    have eq2 := eP_z (by decide) hEe.symm
    unfold mQ
    rw [if_pos rfl]
    obtain ⟨P, hP⟩ : ∃ P, P = pPZ z bd := ⟨_, rfl⟩
    rw [← hP] at hrow hgo ⊢
    refine g_iconst q_X10_busiest_21 ?_
    refine g_istore_n (L' := [_, _, _, _, _, _]) q_X10_busiest_22 (by decide) rfl ?_
    refine g_iconst q_X10_busiest_23 ?_
    refine g_istore_n (L' := [_, _, _, _, _, _]) q_X10_busiest_24 (by decide) rfl ?_
    refine g_iconst q_X10_busiest_25 ?_
    refine g_istore (L' := [_, _, _, _, _, _]) q_X10_busiest_26 (by decide) rfl ?_
    refine g_loop (fun k => k ≤ 36) (fun k : Nat => G Γ _ cX10_busiest _ _ 0 0 28 [some (.ref m), some (.int (ii bd)), some (.int (ii (bzN P (zCa z) k).1)), some (.int (ii (bzN P (zCa z) k).2)), some (.int (ii k)), none] [] τ1) (fun k => 36 - k) ?_ 0 (Nat.zero_le _)
    intro k hk1 ih
    have hb := bzN_rg P (zCa z) k
    have hu := aUsed_rg P (n := zCa z) (k : Int)
    refine g_iload q_X10_busiest_28 rfl ?_
    refine g_bipush q_X10_busiest_30 bp_36 ?_
    refine g_icmp_ge (tgt := 64) q_X10_busiest_32 (by decide) ⟨by omega, by omega⟩ ⟨by omega, by omega⟩ (fun b1 => ?_) (fun b1 => ?_)
    · have e : k = 36 := by omega
      subst e
      refine g_iload_n q_X10_busiest_64 rfl ?_
      refine g_ireturn q_X10_busiest_65.1 rfl ?_
      exact ⟨rfl, hS⟩
    have hnx := ih (k + 1) (by omega) (by omega)
    refine g_aload_n q_X10_busiest_35 rfl ?_
    refine g_iload q_X10_busiest_36 rfl ?_
    refine g_callV (rc' := 0) (rs' := 0) (As := [_]) cs_X10_341 q_X10_busiest_38 (sp_usedBy hΓ u0 u16 hrB (by omega) n5 j15 j35 hrow (k : Int) ⟨by omega, by omega⟩) rfl (by repeat first | with_reducible assumption | with_reducible exact hput_s _ _ _ | refine (hput_n _ _ (by omega)).trans ?_ | exact hput_s _ _ _ | assumption) rfl rfl rfl rfl (Nat.le_of_ble_eq_true rfl) (by decide) (by decide) (by decide) (fun _ _ h => h.elim) (k_ri ?_)
    refine g_istore (L' := [_, _, _, _, _, _]) q_X10_busiest_41 (by decide) rfl ?_
    refine g_iload q_X10_busiest_43 rfl ?_
    refine g_iload_n q_X10_busiest_45 rfl ?_
    refine g_icmp_gt (tgt := 52) q_X10_busiest_46 (by decide) ⟨by omega, by omega⟩ ⟨by omega, by omega⟩ (fun b2 => ?_) (fun b2 => ?_)
    · rw [show bzN P (zCa z) (k + 1) = ((k : Int), aUsed P (zCa z) k) from if_pos (by omega)] at hnx
      refine g_iload q_X10_busiest_52 rfl ?_
      refine g_istore_n (L' := [_, _, _, _, _, _]) q_X10_busiest_54 (by decide) rfl ?_
      refine g_iload q_X10_busiest_55 rfl ?_
      refine g_istore_n (L' := [_, _, _, _, _, _]) q_X10_busiest_57 (by decide) rfl ?_
      refine g_iinc (L' := [_, _, _, _, _, _]) q_X10_busiest_58 rfl rfl ?_
      refine g_goto (tgt := 28) q_X10_busiest_61 (by decide) ?_
      exact g_fl hnx ⟨rfl, rfl, rfl, rfl, rfl, trivial⟩
    · rw [show bzN P (zCa z) (k + 1) = bzN P (zCa z) k from if_neg (by omega)] at hnx
      refine g_goto (tgt := 58) q_X10_busiest_49 (by decide) ?_
      refine g_iinc (L' := [_, _, _, _, _, _]) q_X10_busiest_58 rfl rfl ?_
      refine g_goto (tgt := 28) q_X10_busiest_61 (by decide) ?_
      exact g_fl hnx ⟨rfl, rfl, rfl, rfl, rfl, trivial⟩
  refine Sp_of (L := [_, _, _, _, _, _]) hΓ (by decide +kernel) rfl (Nat.le_of_ble_eq_true rfl) rfl ?_
  refine g_aload_n q_X10_busiest_0 rfl ?_
  refine g_aload_n q_X10_busiest_1 rfl ?_
  refine g_iconst q_X10_busiest_2 ?_
  refine g_iload_n q_X10_busiest_3 rfl ?_
  refine g_iconst q_X10_busiest_4 ?_
  refine g_iconst q_X10_busiest_5 ?_
  refine g_callV (rc' := 0) (rs' := 0) (As := [_, _, _, _]) cs_X10_337 q_X10_busiest_6 (sp_wrongPlan hΓ h hW true bd hbd 1 2 (by decide) (by decide)) rfl (by repeat first | with_reducible assumption | with_reducible exact hput_s _ _ _ | refine (hput_n _ _ (by omega)).trans ?_ | exact hput_s _ _ _ | assumption) rfl rfl rfl rfl (Nat.le_of_ble_eq_true rfl) (by decide) (by decide) (by decide) (fun _ _ h => h.elim) (fun v τ hq => ?_)
  rw [← hEe] at hq
  obtain ⟨rfl, hE, J, B, hM, hWB, hP⟩ := hq
  exact fin τ J B hE hM hWB hP

theorem sp_mshared (hΓ : Gd Γ) (hX : MX σ m e0 len tx fa z l wl wr) (bd : Int) (k : Int) (hbd : rg bd) (hk : rg k) : Sp Γ miX10_shared 0 0 [.ref m, .int (ii bd), .int (ii k)] σ (mQ (eP (true) bd z 1 2) (aShar (pPZ z bd) (zCa z) k) (SM σ m (eP (true) bd z 1 2) len tx fa z l wl wr)) noX := by
  obtain ⟨I, A, N, -, h, hW⟩ := hX
  have h0 := h.1
  have hz := hW.2.2.1.1
  have wf := hW.2.2.1.2
  have n5 := wf.1.1.2.2
  obtain ⟨e, hEe⟩ : ∃ e, e = eP (true) bd z 1 2 := ⟨_, rfl⟩
  have he4 : e ≤ 4 := by rw [hEe]; exact eP_le _ _ _ (by decide) (by decide)
  rw [← hEe]
  have fin : ∀ τ J B, eqOff σ τ (inb m 34) → MC τ m J B N → MW J B N len tx fa z l wl wr → (e = 0 → PLd J B z bd) → G Γ miX10_shared cX10_shared (mQ e (aShar (pPZ z bd) (zCa z) k) (SM σ m e len tx fa z l wl wr)) noX 0 0 9 [some (.ref m), some (.int (ii bd)), some (.int (ii k)), none, none] [.int (ii (e : Int)), .ref m] τ := by
    intro τ J B hE hM hWB hP
    have t0 := hM.1
    refine g_putM fp_X10_122 q_X10_shared_9 (by repeat first | with_reducible assumption | with_reducible exact hput_s _ _ _ | refine (hput_n _ _ (by omega)).trans ?_ | exact hput_s _ _ _ | assumption) rfl rfl mset_0 ?_
    refine g_aload_n q_X10_shared_12 rfl ?_
    refine g_get fl_X10_122 q_X10_shared_13 (by repeat first | with_reducible assumption | with_reducible exact hput_s _ _ _ | refine (hput_n _ _ (by omega)).trans ?_ | exact hput_s _ _ _ | assumption) rfl ?_
    refine g_topi (b := (e : Int)) (by rfl) ?_
    refine g_if_le (tgt := 21) q_X10_shared_16 (by decide) ⟨by omega, by omega⟩ (fun b9 => ?_) (fun b9 => ?_)
    case refine_2 =>
      refine g_iconst q_X10_shared_19 ?_
      refine g_ireturn q_X10_shared_20.1 rfl ?_
      exact ⟨by rw [if_neg (by omega)], SM.w hE hM hWB e⟩
    have ee : e = 0 := by omega
    subst ee
    obtain ⟨kp, hkp, j35, ha, hrow, hgo, hsum, hsum0, hrow0, hcc⟩ := hP rfl
    have hS := SM.w hE hM hWB 0
    have hM1 := hM.putI (va_up J 0 ((0 : Nat) : Int))
    obtain ⟨τ1, hτ1⟩ : ∃ τ1, τ1 = hput τ m (mdo m (va_up J 0 ((0 : Nat) : Int))) := ⟨_, rfl⟩
    rw [← hτ1] at hS hM1 ⊢
    clear hτ1 hE t0 hP
    have hrB := hWB.2.2.2.2.2.2.2
    have hzB := hWB.2.2.1.1
    have j35 : va_up J 0 ((0 : Nat) : Int) 35 = kp := j35
    have j15 : va_up J 0 ((0 : Nat) : Int) 15 = zCa z := hzB.1.2.2
    obtain ⟨J1, hJ1⟩ : ∃ J1, J1 = va_up J 0 ((0 : Nat) : Int) := ⟨_, rfl⟩
    rw [← hJ1] at j35 j15 hM1
    have hzJ : MZ J1 B z := by rw [hJ1]; exact hzB.cg ⟨rfl, rfl, rfl⟩ rfl rfl rfl
    clear hJ1
    have u0 := hM1.1
    have u16 := hM1.a16
    have eq2 := eP_z (by decide) hEe.symm
    unfold mQ
    rw [if_pos rfl]
    obtain ⟨P, hP⟩ : ∃ P, P = pPZ z bd := ⟨_, rfl⟩
    rw [← hP] at hrow hgo ⊢
    obtain ⟨p, hp⟩ : ∃ p, p = shP P (zCa z) := ⟨_, rfl⟩
    unfold aShar
    rw [← hp]
    refine g_iconst q_X10_shared_21 ?_
    refine g_istore_n (L' := [_, _, _, _, _]) q_X10_shared_22 (by decide) rfl ?_
    refine g_iconst q_X10_shared_23 ?_
    refine g_istore (L' := [_, _, _, _, _]) q_X10_shared_24 (by decide) rfl ?_
    refine g_loop (fun c => c ≤ 36 ∧ ∀ j, j < c → (p j && decide (cntN p j = k)) = false) (fun c : Nat => G Γ _ cX10_shared _ _ 0 0 26 [some (.ref m), some (.int (ii bd)), some (.int (ii k)), some (.int (ii (cntN p c))), some (.int (ii c))] [] τ1) (fun c => 36 - c) ?_ 0 ⟨Nat.zero_le _, fun j hj => absurd hj (Nat.not_lt_zero j)⟩
    rintro c ⟨hc1, hno⟩ ih
    have hcr := cntN_rg p c
    have hu := aUsed_rg P (n := zCa z) (c : Int)
    refine g_iload q_X10_shared_26 rfl ?_
    refine g_bipush q_X10_shared_28 bp_36 ?_
    refine g_icmp_ge (tgt := 63) q_X10_shared_30 (by decide) ⟨by omega, by omega⟩ ⟨by omega, by omega⟩ (fun b1 => ?_) (fun b1 => ?_)
    · have e : c = 36 := by omega
      subst e
      rw [fstN_none hno, if_neg (fun q => q rfl)]
      refine g_iload_n q_X10_shared_63 rfl ?_
      refine g_iconst q_X10_shared_64 ?_
      refine g_icmp_ne (tgt := 72) q_X10_shared_65 (by decide) hk ⟨by omega, by omega⟩ (fun b2 => ?_) (fun b2 => ?_)
      · refine g_iconst q_X10_shared_72 ?_
        refine g_ireturn q_X10_shared_73.1 rfl ?_
        rw [if_neg b2]
        exact ⟨rfl, hS⟩
      · refine g_iload_n q_X10_shared_68 rfl ?_
        refine g_goto (tgt := 73) q_X10_shared_69 (by decide) ?_
        refine g_ireturn q_X10_shared_73.1 rfl ?_
        rw [if_pos (by omega)]
        exact ⟨rfl, hS⟩
    have nxt : ∀ x : Int, (p c && decide (cntN p c = k)) = false → x = cntN p (c + 1) → G Γ miX10_shared cX10_shared _ noX 0 0 57 [some (.ref m), some (.int (ii bd)), some (.int (ii k)), some (.int (ii x)), some (.int (ii c))] [] τ1 := fun x q1 q2 => by
      subst q2
      have hnx := ih (c + 1) ⟨by omega, fun j hj => by
        by_cases e : j = c
        · subst e; exact q1
        · exact hno j (by omega)⟩ (by omega)
      refine g_iinc (L' := [_, _, _, _, _]) q_X10_shared_57 rfl rfl ?_
      refine g_goto (tgt := 26) q_X10_shared_60 (by decide) ?_
      exact hnx
    have eC : cntN p (c + 1) = cntN p c + bi (p c) := rfl
    refine g_aload_n q_X10_shared_33 rfl ?_
    refine g_iload q_X10_shared_34 rfl ?_
    refine g_callV (rc' := 0) (rs' := 0) (As := [_]) cs_X10_341 q_X10_shared_36 (sp_usedBy hΓ u0 u16 hrB (by omega) n5 j15 j35 hrow (c : Int) ⟨by omega, by omega⟩) rfl (by repeat first | with_reducible assumption | with_reducible exact hput_s _ _ _ | refine (hput_n _ _ (by omega)).trans ?_ | exact hput_s _ _ _ | assumption) rfl rfl rfl rfl (Nat.le_of_ble_eq_true rfl) (by decide) (by decide) (by decide) (fun _ _ h => h.elim) (k_ri ?_)
    refine g_iconst q_X10_shared_39 ?_
    refine g_icmp_ge (tgt := 46) q_X10_shared_40 (by decide) ⟨by omega, by omega⟩ ⟨by omega, by omega⟩ (fun b2 => ?_) (fun b2 => ?_)
    case refine_2 =>
      have q : p c = false := by rw [hp]; exact decide_eq_false (by omega)
      refine g_goto (tgt := 57) q_X10_shared_43 (by decide) ?_
      exact nxt _ (by rw [q]; rfl) (by rw [eC, q]; exact (Int.add_zero _).symm)
    have q : p c = true := by rw [hp]; exact decide_eq_true (by omega)
    refine g_iload_n q_X10_shared_46 rfl ?_
    refine g_iload_n q_X10_shared_47 rfl ?_
    refine g_icmp_ne (tgt := 54) q_X10_shared_48 (by decide) ⟨by omega, by omega⟩ hk (fun b3 => ?_) (fun b3 => ?_)
    · refine g_iinc (L' := [_, _, _, _, _]) q_X10_shared_54 rfl rfl ?_
      exact nxt _ (by rw [decide_eq_false b3, Bool.and_false]) (by rw [eC, q]; rfl)
    · refine g_iload q_X10_shared_51 rfl ?_
      refine g_ireturn q_X10_shared_53.1 rfl ?_
      have e9 : fstN (fun c => p c && decide (cntN p c = k)) 36 = c := fstN_some (by omega) (by show (p c && decide (cntN p c = k)) = true; rw [q, decide_eq_true (show cntN p c = k by omega)]; rfl) hno
      rw [e9, if_pos (by omega)]
      exact ⟨rfl, hS⟩
  refine Sp_of (L := [_, _, _, _, _]) hΓ (by decide +kernel) rfl (Nat.le_of_ble_eq_true rfl) rfl ?_
  refine g_aload_n q_X10_shared_0 rfl ?_
  refine g_aload_n q_X10_shared_1 rfl ?_
  refine g_iconst q_X10_shared_2 ?_
  refine g_iload_n q_X10_shared_3 rfl ?_
  refine g_iconst q_X10_shared_4 ?_
  refine g_iconst q_X10_shared_5 ?_
  refine g_callV (rc' := 0) (rs' := 0) (As := [_, _, _, _]) cs_X10_337 q_X10_shared_6 (sp_wrongPlan hΓ h hW true bd hbd 1 2 (by decide) (by decide)) rfl (by repeat first | with_reducible assumption | with_reducible exact hput_s _ _ _ | refine (hput_n _ _ (by omega)).trans ?_ | exact hput_s _ _ _ | assumption) rfl rfl rfl rfl (Nat.le_of_ble_eq_true rfl) (by decide) (by decide) (by decide) (fun _ _ h => h.elim) (fun v τ hq => ?_)
  rw [← hEe] at hq
  obtain ⟨rfl, hE, J, B, hM, hWB, hP⟩ := hq
  exact fin τ J B hE hM hWB hP

end MPL2

