/-! the reference: again -/
section MAG
variable {Γ : GT} {σ : AH} {m : Nat} {len : Nat} {tx : Nat → Int} {fa e0 : Int} {z : PS} {l : List (Int × Int × Int)} {wl : Nat} {wr : Nat → Int}
theorem va_cm {B : Nat → Nat → Int} {i j : Nat} {f g : Nat → Int} (h : i ≠ j) : va_up (va_up B i f) j g = va_up (va_up B j g) i f := by
  funext k
  by_cases q1 : k = i
  · rw [q1, va_ne h, va_eq, va_eq]
  · rw [va_ne (f := va_up B j g) q1]
    by_cases q2 : k = j
    · rw [q2, va_eq, va_eq]
    · rw [va_ne q2, va_ne q2, va_ne q1]
theorem va_vv {B : Nat → Nat → Int} {i : Nat} {f g : Nat → Int} : va_up (va_up B i f) i g = va_up B i g := by
  funext k
  unfold va_up
  split <;> rfl
set_option maxHeartbeats 1000000 in
theorem sp_magain (hΓ : Gd Γ) (hX : MX σ m e0 len tx fa z l wl wr) (bd t : Int) (hbd : rg bd) (ht : rg t) : Sp Γ miX10_again 0 0 [.ref m, .int (ii bd), .int (ii t)] σ (mQ (eAg z bd t) (aSup (agZ z bd t.toNat) bd) (SM σ m (eAg z bd t) len tx fa z l wl wr)) noX := by
  obtain ⟨I, A, N, -, h, hW⟩ := hX
  have h0 := h.1
  have wf := hW.2.2.1.2
  have n5 := wf.1.1.2.2
  obtain ⟨e, hEe⟩ : ∃ e, e = eAg z bd t := ⟨_, rfl⟩
  have hEe : e = eP (tOK t) bd z 1 2 := hEe
  have he4 : e ≤ 4 := by rw [hEe]; exact eP_le _ _ _ (by decide) (by decide)
  rw [show eAg z bd t = e from hEe.symm]
  refine Sp_of (L := [_, _, _, _, _]) hΓ (by decide +kernel) rfl (Nat.le_of_ble_eq_true rfl) rfl ?_
  refine g_aload_n q_X10_again_0 rfl ?_
  refine g_aload_n q_X10_again_1 rfl ?_
  refine g_iload_n q_X10_again_2 rfl ?_
  refine g_iconst q_X10_again_3 ?_
  refine g_bipush q_X10_again_4 bp_40 ?_
  refine g_callS (rc' := 0) (rs' := 0) (As := [_, _, _]) cs_X10_229 q_X10_again_6 (sp_isIn hΓ t 0 40 ht ⟨by decide, by decide⟩ ⟨by decide, by decide⟩) rfl rfl rfl (Nat.le_of_ble_eq_true rfl) (by decide) (by decide) (by decide) (fun _ _ h => h.elim) (k_rb ?_)
  refine g_iload_n q_X10_again_9 rfl ?_
  refine g_iconst q_X10_again_10 ?_
  refine g_iconst q_X10_again_11 ?_
  refine g_callV (rc' := 0) (rs' := 0) (As := [_, _, _, _]) cs_X10_337 q_X10_again_12 (sp_wrongPlan hΓ h hW (tOK t) bd hbd 1 2 (by decide) (by decide)) rfl (by repeat first | with_reducible assumption | with_reducible exact hput_s _ _ _ | refine (hput_n _ _ (by omega)).trans ?_ | exact hput_s _ _ _ | assumption) rfl rfl rfl rfl (Nat.le_of_ble_eq_true rfl) (by decide) (by decide) (by decide) (fun _ _ h => h.elim) (fun v τ hq => ?_)
  rw [← hEe] at hq
  obtain ⟨rfl, hE, J, B, hM, hWB, hP⟩ := hq
  have t0 := hM.1
  refine g_putM fp_X10_122 q_X10_again_15 (by repeat first | with_reducible assumption | with_reducible exact hput_s _ _ _ | refine (hput_n _ _ (by omega)).trans ?_ | exact hput_s _ _ _ | assumption) rfl rfl mset_0 ?_
  refine g_aload_n q_X10_again_18 rfl ?_
  refine g_get fl_X10_122 q_X10_again_19 (by repeat first | with_reducible assumption | with_reducible exact hput_s _ _ _ | refine (hput_n _ _ (by omega)).trans ?_ | exact hput_s _ _ _ | assumption) rfl ?_
  refine g_topi (b := (e : Int)) (by rfl) ?_
  refine g_if_le (tgt := 27) q_X10_again_22 (by decide) ⟨by omega, by omega⟩ (fun b9 => ?_) (fun b9 => ?_)
  case refine_2 =>
    refine g_iconst q_X10_again_25 ?_
    refine g_ireturn q_X10_again_26.1 rfl ?_
    exact ⟨by rw [if_neg (by omega)], SM.w hE hM hWB e⟩
  have ee : e = 0 := by omega
  subst ee
  obtain ⟨kp, hkp, j35, ha, hrow, hgo, hsum, hsum0, hrow0, hcc⟩ := hP rfl
  have hM1 := hM.putI (va_up J 0 ((0 : Nat) : Int))
  have hW1 := hWB.I0 ((0 : Nat) : Int)
  have hE1 := hE.put (a := m) ⟨by omega, by omega⟩ (mdo m (va_up J 0 ((0 : Nat) : Int)))
  obtain ⟨τ1, hτ1⟩ : ∃ τ1, τ1 = hput τ m (mdo m (va_up J 0 ((0 : Nat) : Int))) := ⟨_, rfl⟩
  rw [← hτ1] at hM1 hE1 ⊢
  clear hτ1 hE t0 hP hM
  have j35 : va_up J 0 ((0 : Nat) : Int) 35 = kp := j35
  have j0 : va_up J 0 ((0 : Nat) : Int) 0 = ((0 : Nat) : Int) := rfl
  obtain ⟨J1, hJ1⟩ : ∃ J1, J1 = va_up J 0 ((0 : Nat) : Int) := ⟨_, rfl⟩
  rw [← hJ1] at j35 j0 hM1 hW1
  clear hJ1 hWB
  have hz1 := hW1.2.2.1.1
  have hrB := hW1.2.2.2.2.2.2.2
  obtain ⟨j13, j14, j15⟩ := hz1.1
  have eq2 := eP_z (by decide) hEe.symm
  have ht1 := of_decide_eq_true eq2.1
  have hb := eq2.2.1
  obtain ⟨u, hu⟩ : ∃ u : Nat, t = u := ⟨t.toNat, by omega⟩
  subst hu
  rw [Int.toNat_natCast]
  unfold mQ
  rw [if_pos rfl]
  have wfa : WFz (agZ z bd u) := wf_ag wf hgo hcc (by omega)
  obtain ⟨n, hn⟩ : ∃ n, n = zCa z := ⟨_, rfl⟩
  obtain ⟨P, hP⟩ : ∃ P, P = pPZ z bd := ⟨_, rfl⟩
  rw [← hP] at hrow
  obtain ⟨pk, hpk⟩ : ∃ pk : Nat → Nat → Int, pk = fun k j => if j < k then P (41 * j + u) else B 8 j := ⟨_, rfl⟩
  have pkv : ∀ k j, pk k j = if j < k then P (41 * j + u) else B 8 j := fun k j => by rw [hpk]
  have pk0 : pk 0 = B 8 := by funext j; rw [pkv, if_neg (Nat.not_lt_zero j)]
  have pkS : ∀ k, va_up (pk k) k (P (41 * k + u)) = pk (k + 1) := fun k => by
    funext j
    by_cases q : j = k
    · rw [q, va_eq, pkv, if_pos (by omega)]
    · rw [va_ne q, pkv, pkv]
      by_cases q2 : j < k
      · rw [if_pos q2, if_pos (by omega)]
      · rw [if_neg q2, if_neg (by omega)]
  have hMi : MC τ1 m J1 (va_up (va_up B 31 (B 31)) 8 (pk 0)) N := by
    rw [pk0, show va_up (va_up B 31 (B 31)) 8 (B 8) = B from funext fun k => by
      by_cases q : k = 8
      · rw [q, va_eq]
      · rw [va_ne q]
        by_cases q2 : k = 31
        · rw [q2, va_eq]
        · rw [va_ne q2]]
    exact hM1
  clear hM1
  -- behind the first loop
  have mid : ∀ τ D l3, eqOff σ τ (inb m 34) → MC τ m J1 (va_up (va_up B 31 D) 8 (pk n)) N → (∀ j, j < n → D j = B 8 j) → G Γ miX10_again cX10_again (fun r σ' => r = some (.int (ii (aSup (agZ z bd u) bd))) ∧ SM σ m 0 len tx fa z l wl wr σ') noX 0 0 71 [some (.ref m), some (.int (ii bd)), some (.int (ii (u : Int))), l3, none] [] τ := by
    intro τ D l3 hE hM hD
    refine g_fl (L2 := [some (.ref m), some (.int (ii bd)), some (.int (ii (u : Int))), none, none]) ?_ ⟨rfl, rfl, rfl, trivial⟩
    have t0 := hM.1
    refine g_aload_n q_X10_again_71 rfl ?_
    refine g_callV (rc' := 0) (rs' := 0) (As := []) cs_X10_226 q_X10_again_72 (sp_changes hΓ t0) rfl (by repeat first | with_reducible assumption | with_reducible exact hput_s _ _ _ | refine (hput_n _ _ (by omega)).trans ?_ | exact hput_s _ _ _ | assumption) rfl rfl rfl rfl (Nat.le_of_ble_eq_true rfl) (by decide) (by decide) (by decide) (fun _ _ h => h.elim) (k_rv ?_)
    obtain ⟨τ3, hτ3⟩ : ∃ τ3, τ3 = hput τ m (mdo m (va_up J1 33 (-1))) := ⟨_, rfl⟩
    have hM3 := hM.putI (va_up J1 33 (-1))
    have hE3 := hE.put (a := m) ⟨by omega, by omega⟩ (mdo m (va_up J1 33 (-1)))
    rw [← hτ3] at hM3 hE3 ⊢
    clear hτ3 hM hE t0
    have hzw : MZ (va_up J1 33 (-1)) (va_up (va_up B 31 D) 8 (pk n)) (agZ z bd u) := by
      refine ⟨hz1.1, hz1.2.1, hz1.2.2.1, fun k hk => ?_⟩
      have hk : k < zCa z := hk
      refine ⟨?_, (hz1.2.2.2 k hk).2⟩
      show pk n k = (if k < zCa z then pPZ z bd (41 * k + u) else zPL z k)
      rw [pkv, if_pos (by omega), if_pos hk, hP]
    have w0 := hM3.1
    refine g_aload_n q_X10_again_75 rfl ?_
    refine g_iload_n q_X10_again_76 rfl ?_
    refine g_callV (rc' := 0) (rs' := 0) (As := [_]) cs_X10_334 q_X10_again_77 (sp_lays hΓ hM3 hzw wfa hrB (Or.inl rfl) hb) rfl (by repeat first | with_reducible assumption | with_reducible exact hput_s _ _ _ | refine (hput_n _ _ (by omega)).trans ?_ | exact hput_s _ _ _ | assumption) rfl rfl rfl rfl (Nat.le_of_ble_eq_true rfl) (by decide) (by decide) (by decide) (fun _ _ h => h.elim) (fun v τ4 hq => ?_)
    obtain ⟨rfl, hE4, J4, B4, hM4, hF4, hr4, h33, hT4⟩ := hq
    have hE4 : eqOff σ τ4 (inb m 34) := hE3.trans hE4 (fun a i => by unfold inb at *; omega)
    have hpr := tP_rg wfa bd
    have x0 := hM4.1
    have x19 := hM4.a19
    have f4 : ∀ j, j < 11 ∨ j = 17 ∨ 26 < j → j ≠ 8 → j ≠ 31 → B4 j = B j := fun j h1 h2 h3 => (hF4.2 j h1).trans ((va_ne h2).trans (va_ne h3))
    have f8 : B4 8 = pk n := (hF4.2 8 (by omega)).trans va_eq
    have f31 : B4 31 = D := (hF4.2 31 (by omega)).trans ((va_ne (by omega)).trans va_eq)
    have i4 : ∀ j, j < 28 ∨ 38 < j → J4 j = J1 j := fun j hj => by rw [hF4.1 j (by omega), va_ne (by omega)]
    have back : ∀ its : Int, its = aSup (agZ z bd u) bd → G Γ miX10_again cX10_again (fun r σ' => r = some (.int (ii (aSup (agZ z bd u) bd))) ∧ SM σ m 0 len tx fa z l wl wr σ') noX 0 0 101 [some (.ref m), some (.int (ii bd)), some (.int (ii (u : Int))), none, none] [.int (ii its)] τ4 := by
      intro its hits
      obtain ⟨rk, hrk⟩ : ∃ rk : Nat → Nat → Int, rk = fun k j => if j < k then B 8 j else pk n j := ⟨_, rfl⟩
      have rkv : ∀ k j, rk k j = if j < k then B 8 j else pk n j := fun k j => by rw [hrk]
      have hMi2 : MC τ4 m J4 (va_up B4 8 (rk 0)) N := by
        rw [show va_up B4 8 (rk 0) = B4 from funext fun k => by
          by_cases q : k = 8
          · rw [q, va_eq, f8]
            funext j
            rw [rkv, if_neg (Nat.not_lt_zero j)]
          · rw [va_ne q]]
        exact hM4
      refine g_istore_n (L' := [_, _, _, _, _]) q_X10_again_101 (by decide) rfl ?_
      refine g_iconst q_X10_again_102 ?_
      refine g_istore (L' := [_, _, _, _, _]) q_X10_again_103 (by decide) rfl ?_
      refine g_loop2 (fun (k : Nat) (τ : AH) => k ≤ n ∧ eqOff σ τ (inb m 34) ∧ MC τ m J4 (va_up B4 8 (rk k)) N) (fun k τ => G Γ _ cX10_again _ _ 0 0 105 [some (.ref m), some (.int (ii bd)), some (.int (ii (u : Int))), some (.int (ii its)), some (.int (ii k))] [] τ) (fun k τ => n - k) ?_ 0 τ4 ⟨Nat.zero_le _, hE4, hMi2⟩
      rintro k τ ⟨hk, hE, hM⟩ ih
      have y0 := hM.1
      have y8 : τ.2 (m + 8) = some (ai 5 (rk k)) := hM.a8
      have y31 : τ.2 (m + 31) = some (ai 5 D) := by rw [← f31]; exact hM.a31
      refine g_iload q_X10_again_105 rfl ?_
      refine g_aload_n q_X10_again_107 rfl ?_
      refine g_get fl_X10_220 q_X10_again_108 (by repeat first | with_reducible assumption | with_reducible exact hput_s _ _ _ | refine (hput_n _ _ (by omega)).trans ?_ | exact hput_s _ _ _ | assumption) rfl ?_
      refine g_topi (b := (n : Int)) (by rw [hn]; exact (i4 15 (by omega)).trans j15) ?_
      refine g_icmp_ge (tgt := 134) q_X10_again_111 (by decide) ⟨by omega, by omega⟩ ⟨by omega, by omega⟩ (fun b1 => ?_) (fun b1 => ?_)
      · have e : k = n := by omega
        subst e
        have r8 : rk k = B 8 := by
          funext j
          rw [rkv, pkv]
          by_cases q : j < k
          · rw [if_pos q]
          · rw [if_neg q, if_neg q]
        refine g_aload_n q_X10_again_134 rfl ?_
        refine g_callV (rc' := 0) (rs' := 0) (As := []) cs_X10_226 q_X10_again_135 (sp_changes hΓ y0) rfl (by repeat first | with_reducible assumption | with_reducible exact hput_s _ _ _ | refine (hput_n _ _ (by omega)).trans ?_ | exact hput_s _ _ _ | assumption) rfl rfl rfl rfl (Nat.le_of_ble_eq_true rfl) (by decide) (by decide) (by decide) (fun _ _ h => h.elim) (k_rv ?_)
        refine g_iload_n q_X10_again_138 rfl ?_
        refine g_ireturn q_X10_again_139.1 rfl ?_
        rw [hits]
        have i5 : ∀ j, j < 28 ∨ 38 < j → va_up J4 33 (-1) j = J1 j := fun j hj => (va_ne (by omega)).trans (i4 j hj)
        refine ⟨rfl, ⟨va_up J4 33 (-1), va_up B4 8 (rk k), N, (i5 0 (by omega)).trans j0, hM.putI _, hW1.fr ⟨i5 2 (by omega), i5 5 (by omega), i5 20 (by omega), i5 55 (by omega)⟩ ⟨(va_ne (by omega)).trans (f4 1 (by omega) (by omega) (by omega)), (va_ne (by omega)).trans (f4 10 (by omega) (by omega) (by omega)), (va_ne (by omega)).trans (f4 33 (by omega) (by omega) (by omega)), (va_ne (by omega)).trans (f4 2 (by omega) (by omega) (by omega))⟩ (hz1.cg ⟨i5 13 (by omega), i5 14 (by omega), i5 15 (by omega)⟩ ((va_ne (by omega)).trans (f4 6 (by omega) (by omega) (by omega))) (va_eq.trans r8) ((va_ne (by omega)).trans (f4 9 (by omega) (by omega) (by omega)))) (Or.inl va_eq) (by rw [va_ne (by omega)]; exact hr4)⟩, hE.put ⟨by omega, by omega⟩ _⟩
      have hM5 := hM.putA 8 (by omega) (rk (k + 1))
      rw [va_vv] at hM5
      have hnx := ih (k + 1) _ ⟨by omega, hE.put (a := m + 8) ⟨by omega, by omega⟩ _, hM5⟩ (by omega)
      have eR : va_up (rk k) k (D k) = rk (k + 1) := by
        funext j
        by_cases q : j = k
        · rw [q, va_eq, rkv, if_pos (by omega), hD k (by omega)]
        · rw [va_ne q, rkv, rkv]
          by_cases q2 : j < k
          · rw [if_pos q2, if_pos (by omega)]
          · rw [if_neg q2, if_neg (by omega)]
      refine g_aload_n q_X10_again_114 rfl ?_
      refine g_get fl_X10_36 q_X10_again_115 (by repeat first | with_reducible assumption | with_reducible exact hput_s _ _ _ | refine (hput_n _ _ (by omega)).trans ?_ | exact hput_s _ _ _ | assumption) rfl ?_
      refine g_iload q_X10_again_118 rfl ?_
      refine g_aload_n q_X10_again_120 rfl ?_
      refine g_get fl_X10_110 q_X10_again_121 (by repeat first | with_reducible assumption | with_reducible exact hput_s _ _ _ | refine (hput_n _ _ (by omega)).trans ?_ | exact hput_s _ _ _ | assumption) rfl ?_
      refine g_iload q_X10_again_124 rfl ?_
      refine g_iaload q_X10_again_126 (by repeat first | with_reducible assumption | with_reducible exact hput_s _ _ _ | refine (hput_n _ _ (by omega)).trans ?_ | exact hput_s _ _ _ | assumption) (by omega) (by omega) ?_
      refine g_iastore q_X10_again_127 (by repeat first | with_reducible assumption | with_reducible exact hput_s _ _ _ | refine (hput_n _ _ (by omega)).trans ?_ | exact hput_s _ _ _ | assumption) (by omega) (by omega) ?_
      refine g_eq (σ2 := hput τ (m + 8) (ai 5 (rk (k + 1)))) rfl rfl (by rw [← eR]; rfl) ?_
      refine g_iinc (L' := [_, _, _, _, _]) q_X10_again_128 rfl rfl ?_
      refine g_goto (tgt := 105) q_X10_again_131 (by decide) ?_
      exact hnx
    refine g_aload_n q_X10_again_80 rfl ?_
    refine g_get fl_X10_314 q_X10_again_81 (by repeat first | with_reducible assumption | with_reducible exact hput_s _ _ _ | refine (hput_n _ _ (by omega)).trans ?_ | exact hput_s _ _ _ | assumption) rfl ?_
    refine g_topi (b := tP (bZ (agZ z bd u) bd)) (by exact hT4.2.1) ?_
    refine g_iconst q_X10_again_84 ?_
    refine g_icmp_ne (tgt := 92) q_X10_again_85 (by decide) ⟨by omega, by omega⟩ ⟨by omega, by omega⟩ (fun b5 => ?_) (fun b5 => ?_)
    · obtain ⟨kq, hkq, q35, -, -, -, hsum2, -⟩ := hT4.pl wfa b5
      refine g_aload_n q_X10_again_92 rfl ?_
      refine g_get fl_X10_74 q_X10_again_93 (by repeat first | with_reducible assumption | with_reducible exact hput_s _ _ _ | refine (hput_n _ _ (by omega)).trans ?_ | exact hput_s _ _ _ | assumption) rfl ?_
      refine g_aload_n q_X10_again_96 rfl ?_
      refine g_get fl_X10_314 q_X10_again_97 (by repeat first | with_reducible assumption | with_reducible exact hput_s _ _ _ | refine (hput_n _ _ (by omega)).trans ?_ | exact hput_s _ _ _ | assumption) rfl ?_
      refine g_topi (b := (kq : Int)) (by exact q35) ?_
      refine g_iaload q_X10_again_100 (by repeat first | with_reducible assumption | with_reducible exact hput_s _ _ _ | refine (hput_n _ _ (by omega)).trans ?_ | exact hput_s _ _ _ | assumption) (by omega) (by omega) ?_
      refine g_topi (b := sumN (pCZ (agZ z bd u) bd) (zCa (agZ z bd u))) (by exact hsum2) ?_
      refine back _ ?_
      unfold aSup
      rw [if_neg b5]
    · refine g_iconst q_X10_again_88 ?_
      refine g_goto (tgt := 101) q_X10_again_89 (by decide) ?_
      refine back _ ?_
      unfold aSup
      rw [if_pos (by omega)]
  refine g_iconst q_X10_again_27 ?_
  refine g_istore_n (L' := [_, _, _, _, _]) q_X10_again_28 (by decide) rfl ?_
  refine g_loop3 (fun (k : Nat) (τ : AH) (D : Nat → Int) => k ≤ n ∧ eqOff σ τ (inb m 34) ∧ MC τ m J1 (va_up (va_up B 31 D) 8 (pk k)) N ∧ ∀ j, j < k → D j = B 8 j) (fun k τ D => G Γ _ cX10_again _ _ 0 0 29 [some (.ref m), some (.int (ii bd)), some (.int (ii (u : Int))), some (.int (ii k)), none] [] τ) (fun k τ D => n - k) ?_ 0 τ1 (B 31) ⟨Nat.zero_le _, hE1, hMi, fun j hj => absurd hj (Nat.not_lt_zero j)⟩
  clear hMi hE1
  rintro k τ D ⟨hk, hE, hM, hD⟩ ih
  have t0 := hM.1
  have t8 : τ.2 (m + 8) = some (ai 5 (pk k)) := hM.a8
  have t31 : τ.2 (m + 31) = some (ai 5 D) := hM.a31
  refine g_iload_n q_X10_again_29 rfl ?_
  refine g_aload_n q_X10_again_30 rfl ?_
  refine g_get fl_X10_220 q_X10_again_31 (by repeat first | with_reducible assumption | with_reducible exact hput_s _ _ _ | refine (hput_n _ _ (by omega)).trans ?_ | exact hput_s _ _ _ | assumption) rfl ?_
  refine g_topi (b := (n : Int)) (by rw [hn]; exact j15) ?_
  refine g_icmp_ge (tgt := 71) q_X10_again_34 (by decide) ⟨by omega, by omega⟩ ⟨by omega, by omega⟩ (fun b1 => ?_) (fun b1 => ?_)
  · have e : k = n := by omega
    subst e
    exact mid τ D _ hE hM hD
  have hpkk : pk k k = B 8 k := by rw [pkv, if_neg (Nat.lt_irrefl k)]
  refine g_aload_n q_X10_again_37 rfl ?_
  refine g_get fl_X10_110 q_X10_again_38 (by repeat first | with_reducible assumption | with_reducible exact hput_s _ _ _ | refine (hput_n _ _ (by omega)).trans ?_ | exact hput_s _ _ _ | assumption) rfl ?_
  refine g_iload_n q_X10_again_41 rfl ?_
  refine g_aload_n q_X10_again_42 rfl ?_
  refine g_get fl_X10_36 q_X10_again_43 (by repeat first | with_reducible assumption | with_reducible exact hput_s _ _ _ | refine (hput_n _ _ (by omega)).trans ?_ | exact hput_s _ _ _ | assumption) rfl ?_
  refine g_iload_n q_X10_again_46 rfl ?_
  refine g_iaload q_X10_again_47 (by repeat first | with_reducible assumption | with_reducible exact hput_s _ _ _ | refine (hput_n _ _ (by omega)).trans ?_ | exact hput_s _ _ _ | assumption) (by omega) (by omega) ?_
  refine g_topi (b := B 8 k) (by exact hpkk) ?_
  refine g_iastore q_X10_again_48 (by repeat first | with_reducible assumption | with_reducible exact hput_s _ _ _ | refine (hput_n _ _ (by omega)).trans ?_ | exact hput_s _ _ _ | assumption) (by omega) (by omega) ?_
  obtain ⟨τ2, hτ2⟩ : ∃ τ2, τ2 = hput τ (m + 31) (ai 5 (va_up D k (B 8 k))) := ⟨_, rfl⟩
  refine g_eq (σ2 := τ2) rfl rfl hτ2.symm ?_
  have hM2 := hM.putA 31 (by omega) (va_up D k (B 8 k))
  rw [← (show τ2 = hput τ (m + 31) (mar 31 (va_up D k (B 8 k)) (N 31)) from hτ2), va_cm (by omega), va_vv] at hM2
  have hE2 : eqOff σ τ2 (inb m 34) := by rw [hτ2]; exact hE.put ⟨by omega, by omega⟩ _
  clear hτ2 t0 t8 t31 hM hE
  have t0 := hM2.1
  have t8 : τ2.2 (m + 8) = some (ai 5 (pk k)) := hM2.a8
  have t16 : τ2.2 (m + 16) = some (ai 62115 (B 16)) := hM2.a16
  refine g_aload_n q_X10_again_49 rfl ?_
  refine g_get fl_X10_36 q_X10_again_50 (by repeat first | with_reducible assumption | with_reducible exact hput_s _ _ _ | refine (hput_n _ _ (by omega)).trans ?_ | exact hput_s _ _ _ | assumption) rfl ?_
  refine g_iload_n q_X10_again_53 rfl ?_
  refine g_aload_n q_X10_again_54 rfl ?_
  refine g_aload_n q_X10_again_55 rfl ?_
  refine g_get fl_X10_314 q_X10_again_56 (by repeat first | with_reducible assumption | with_reducible exact hput_s _ _ _ | refine (hput_n _ _ (by omega)).trans ?_ | exact hput_s _ _ _ | assumption) rfl ?_
  refine g_topi (b := (kp : Int)) (by exact j35) ?_
  refine g_iload_n q_X10_again_59 rfl ?_
  refine g_iload_n q_X10_again_60 rfl ?_
  refine g_callV (rc' := 0) (rs' := 0) (As := [_, _, _]) cs_X10_263 q_X10_again_61 (sp_wayAt hΓ t0 t16 kp k u (by omega) (by omega) (by omega)) rfl (by repeat first | with_reducible assumption | with_reducible exact hput_s _ _ _ | refine (hput_n _ _ (by omega)).trans ?_ | exact hput_s _ _ _ | assumption) rfl rfl rfl rfl (Nat.le_of_ble_eq_true rfl) (by decide) (by decide) (by decide) (fun _ _ h => h.elim) (k_ri ?_)
  refine g_topi (b := P (41 * k + u)) (hrow _ (by omega)) ?_
  have hM3 := hM2.putA 8 (by omega) (pk (k + 1))
  rw [va_vv] at hM3
  have hnx := ih (k + 1) _ _ ⟨by omega, hE2.put (a := m + 8) ⟨by omega, by omega⟩ _, hM3, fun j hj => by
    by_cases q : j = k
    · rw [q, va_eq]
    · rw [va_ne q]; exact hD j (by omega)⟩ (by omega)
  refine g_iastore q_X10_again_64 (by repeat first | with_reducible assumption | with_reducible exact hput_s _ _ _ | refine (hput_n _ _ (by omega)).trans ?_ | exact hput_s _ _ _ | assumption) (by omega) (by omega) ?_
  refine g_eq (σ2 := hput τ2 (m + 8) (ai 5 (pk (k + 1)))) rfl rfl (by rw [← pkS]; rfl) ?_
  refine g_iinc (L' := [_, _, _, _, _]) q_X10_again_65 rfl rfl ?_
  refine g_goto (tgt := 29) q_X10_again_68 (by decide) ?_
  exact hnx
end MAG

