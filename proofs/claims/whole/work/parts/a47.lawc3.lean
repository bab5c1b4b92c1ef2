/-! the law: cases cost, alone, clash, reach, far, plan, node, at, move, used, busiest, waits, late, worse, who, near (written by lawcase.py) -/
section LC
variable {Γ : GT} {σ : AH} {b x i N Ln C E : Nat} {f : Nat → Int} {R : Nat → Nat} {s : LSt} {Q : Option Value → AH → Prop}
theorem la_11 (hΓ : Gd Γ) (hro : RO Γ b Ln f) (hfr : ∀ j, rg (f j)) (hi : i + 6 ≤ Ln) (hLn : Ln ≤ 3072) (hN : N < 600) (hI : LI σ x N R s) (kk : ∀ σ' R' s', LI σ' x (N + 1) R' s' → G Γ miL_law code Q noX (C + dC R' RM) (E + dS R' RM) 3063 [some (.ref b), some (.ref x), some (.ref (x + 54)), some (.ref (x + 88)), some (.int (ii (i : Int))), none, none] [] σ') : G Γ miL_law code Q noX (C + 8 + dC R RM) (E + 48 + dS R RM) 808 [some (.ref b), some (.ref x), some (.ref (x + 54)), some (.ref (x + 88)), some (.int (ii (i : Int))), none, none] [] σ := by
  obtain ⟨len, tx, fa, z, l, wl, wr⟩ := s
  obtain ⟨hX, ⟨e0, hM⟩, g, ho⟩ := hI
  have hX : CX σ x (x + 89) N R len tx fa z l wl wr := hX
  have hM : MX σ (x + 54) e0 len tx fa z l wl wr := hM
  obtain ⟨av, ve, hx, -, -⟩ := hX.ob
  obtain ⟨hl1, hl2, h302⟩ := hX.low
  refine g_aload_n q_L_law_808 rfl ?_
  refine g_aload_n q_L_law_809 rfl ?_
  refine g_iload q_L_law_810 rfl ?_
  refine g_iconst q_L_law_812 ?_
  refine g_iadd q_L_law_813 ?_
  refine g_topi (b := ((i + 1 : Nat) : Int)) (by omega) ?_
  refine g_iaload_ro q_L_law_814 hro (by omega) (by omega) (by omega) ?_
  refine g_topi (b := f (i + 1)) (by rw [Int.toNat_natCast]) ?_
  refine g_aload_n q_L_law_815 rfl ?_
  refine g_callSW (rc' := (C + dC R RM)) (rs' := (E + dS R RM)) (As := [_, _, _]) cs_L_185 q_L_law_816 (sp_L_cost hΓ hx (Sp_w (sp_cost hΓ (by omega) hX (f (i + 1)) (hfr _))) (fun v σ' h => (h.2.2.2.2 (x + 88) (by omega) (by unfold fX inb; omega)).trans ho)) rfl rfl rfl (Nat.le_of_ble_eq_true rfl) (by decide) rmZ rmZ (fun v σ1 hq => ?_)
  obtain ⟨he4, rfl, hM1, ⟨g1, ho1, hg1⟩, hC0, hC1⟩ := lw_A (s := (len, tx, fa, z, l, wl, wr)) (s0 := (len, tx, fa, z, l, wl, wr)) (s1 := (len, tx, fa, z, l, wl, wr)) hX hM ho (fun σ' h => h) (fun σ' h => h) hq
  have hM1 : MX σ1 (x + 54) e0 len tx fa z l wl wr := hM1
  have hm1 := hM1
  obtain ⟨I8, A8, N8, -, hMC8, -⟩ := hm1
  have m80 := hMC8.1
  refine g_istore (L' := [_, _, _, _, _, _, _]) q_L_law_819 (by decide) rfl ?_
  refine g_aload_n q_L_law_821 rfl ?_
  refine g_aload_n q_L_law_822 rfl ?_
  refine g_iload q_L_law_823 rfl ?_
  refine g_iconst q_L_law_825 ?_
  refine g_iadd q_L_law_826 ?_
  refine g_topi (b := ((i + 1 : Nat) : Int)) (by omega) ?_
  refine g_iaload_ro q_L_law_827 hro (by omega) (by omega) (by omega) ?_
  refine g_topi (b := f (i + 1)) (by rw [Int.toNat_natCast]) ?_
  refine g_callV (rc' := _) (rs' := _) (As := [_]) cs_L_188 q_L_law_828 (sp_mcost hΓ hM1 (f (i + 1)) (hfr _)) rfl (by repeat first | with_reducible assumption | with_reducible exact hput_s _ _ _ | refine (hput_n _ _ (by omega)).trans ?_ | exact hput_s _ _ _ | assumption) rfl rfl rfl rfl (Nat.le_of_ble_eq_true rfl) (by decide) (Nat.le_refl _) (Nat.le_refl _) (fun _ _ h => h.elim) (fun v2 σ2 hq2 => ?_)
  obtain ⟨rfl, hM2, hE2⟩ := hq2
  obtain ⟨hLI, ho2⟩ := lw_B (s2 := (len, tx, fa, z, l, wl, wr)) ((Classical.em _).elim hC0 hC1) ho1 hM2 hE2
  obtain ⟨I9, A9, N9, i90, hMC9, -⟩ := hM2
  have m90 := hMC9.1
  refine g_istore (L' := [_, _, _, _, _, _, _]) q_L_law_831 (by decide) rfl ?_
  refine g_aload_n q_L_law_833 rfl ?_
  refine g_callV (rc' := _) (rs' := _) (As := []) cs_L_153 q_L_law_834 (sp_thrown hΓ m90) rfl (by repeat first | with_reducible assumption | with_reducible exact hput_s _ _ _ | refine (hput_n _ _ (by omega)).trans ?_ | exact hput_s _ _ _ | assumption) rfl rfl rfl rfl (Nat.le_of_ble_eq_true rfl) (by decide) (Nat.le_refl _) (Nat.le_refl _) (fun _ _ h => h.elim) (k_ri ?_)
  rw [i90]
  refine g_iload q_L_law_837 rfl ?_
  refine g_icmp_eqS (tgt := 844) q_L_law_839 (by decide) ?_
  refine g_iload q_L_law_844 rfl ?_
  refine g_if_ne (tgt := 861) q_L_law_846 (by decide) ⟨by omega, by omega⟩ (fun b8 => ?_) (fun b8 => ?_)
  · -- it threw
    refine g_goto (tgt := 3063) q_L_law_861 (by decide) ?_
    exact g_fl (kk _ _ _ hLI) ⟨rfl, rfl, rfl, rfl, rfl, trivial⟩
  refine g_aload_n q_L_law_849 rfl ?_
  refine g_iconst q_L_law_850 ?_
  refine g_laload q_L_law_851 (by repeat first | with_reducible assumption | with_reducible exact hput_s _ _ _ | refine (hput_n _ _ (by omega)).trans ?_ | exact hput_s _ _ _ | assumption) (by omega) (by omega) ?_
  rw [show g1 (0 : Int).toNat = g1 0 from rfl, hg1 (by omega), if_pos (by omega)]
  refine g_iload q_L_law_852 rfl ?_
  refine g_top (v' := .int (ii (cn _))) (congrArg Value.int (ii_cn _).symm) ?_
  refine g_i2l q_L_law_854 (cn_rg _) ?_
  refine g_lcmp q_L_law_855 ?_
  refine g_topi (b := 0) (lcm_self _) ?_
  refine g_if_eq (tgt := 861) q_L_law_856 (by decide) ⟨by omega, by omega⟩ (fun b7 => ?_) (fun b7 => ?_)
  case refine_2 => exact absurd rfl b7
  refine g_goto (tgt := 3063) q_L_law_861 (by decide) ?_
  exact g_fl (kk _ _ _ hLI) ⟨rfl, rfl, rfl, rfl, rfl, trivial⟩
theorem la_12 (hΓ : Gd Γ) (hro : RO Γ b Ln f) (hfr : ∀ j, rg (f j)) (hi : i + 6 ≤ Ln) (hLn : Ln ≤ 3072) (hN : N < 600) (hI : LI σ x N R s) (kk : ∀ σ' R' s', LI σ' x (N + 1) R' s' → G Γ miL_law code Q noX (C + dC R' RM) (E + dS R' RM) 3063 [some (.ref b), some (.ref x), some (.ref (x + 54)), some (.ref (x + 88)), some (.int (ii (i : Int))), none, none] [] σ') : G Γ miL_law code Q noX (C + 8 + dC R RM) (E + 48 + dS R RM) 864 [some (.ref b), some (.ref x), some (.ref (x + 54)), some (.ref (x + 88)), some (.int (ii (i : Int))), none, none] [] σ := by
  obtain ⟨len, tx, fa, z, l, wl, wr⟩ := s
  obtain ⟨hX, ⟨e0, hM⟩, g, ho⟩ := hI
  have hX : CX σ x (x + 89) N R len tx fa z l wl wr := hX
  have hM : MX σ (x + 54) e0 len tx fa z l wl wr := hM
  obtain ⟨av, ve, hx, -, -⟩ := hX.ob
  obtain ⟨hl1, hl2, h302⟩ := hX.low
  refine g_aload_n q_L_law_864 rfl ?_
  refine g_aload_n q_L_law_865 rfl ?_
  refine g_iload q_L_law_866 rfl ?_
  refine g_iconst q_L_law_868 ?_
  refine g_iadd q_L_law_869 ?_
  refine g_topi (b := ((i + 1 : Nat) : Int)) (by omega) ?_
  refine g_iaload_ro q_L_law_870 hro (by omega) (by omega) (by omega) ?_
  refine g_topi (b := f (i + 1)) (by rw [Int.toNat_natCast]) ?_
  refine g_aload_n q_L_law_871 rfl ?_
  refine g_iload q_L_law_872 rfl ?_
  refine g_iconst q_L_law_874 ?_
  refine g_iadd q_L_law_875 ?_
  refine g_topi (b := ((i + 2 : Nat) : Int)) (by omega) ?_
  refine g_iaload_ro q_L_law_876 hro (by omega) (by omega) (by omega) ?_
  refine g_topi (b := f (i + 2)) (by rw [Int.toNat_natCast]) ?_
  refine g_aload_n q_L_law_877 rfl ?_
  refine g_callSW (rc' := (C + dC R RM)) (rs' := (E + dS R RM)) (As := [_, _, _, _]) cs_L_189 q_L_law_878 (sp_L_alone hΓ hx (Sp_w (sp_alone hΓ (by omega) hX (f (i + 1)) (f (i + 2)) (hfr _) (hfr _))) (fun v σ' h => (h.2.2.2.2 (x + 88) (by omega) (by unfold fX inb; omega)).trans ho)) rfl rfl rfl (Nat.le_of_ble_eq_true rfl) (by decide) rmZ rmZ (fun v σ1 hq => ?_)
  obtain ⟨he4, rfl, hM1, ⟨g1, ho1, hg1⟩, hC0, hC1⟩ := lw_A (s := (len, tx, fa, z, l, wl, wr)) (s0 := (len, tx, fa, z, l, wl, wr)) (s1 := (len, tx, fa, z, l, wl, wr)) hX hM ho (fun σ' h => h) (fun σ' h => h) hq
  have hM1 : MX σ1 (x + 54) e0 len tx fa z l wl wr := hM1
  have hm1 := hM1
  obtain ⟨I8, A8, N8, -, hMC8, -⟩ := hm1
  have m80 := hMC8.1
  refine g_istore (L' := [_, _, _, _, _, _, _]) q_L_law_881 (by decide) rfl ?_
  refine g_aload_n q_L_law_883 rfl ?_
  refine g_aload_n q_L_law_884 rfl ?_
  refine g_iload q_L_law_885 rfl ?_
  refine g_iconst q_L_law_887 ?_
  refine g_iadd q_L_law_888 ?_
  refine g_topi (b := ((i + 1 : Nat) : Int)) (by omega) ?_
  refine g_iaload_ro q_L_law_889 hro (by omega) (by omega) (by omega) ?_
  refine g_topi (b := f (i + 1)) (by rw [Int.toNat_natCast]) ?_
  refine g_aload_n q_L_law_890 rfl ?_
  refine g_iload q_L_law_891 rfl ?_
  refine g_iconst q_L_law_893 ?_
  refine g_iadd q_L_law_894 ?_
  refine g_topi (b := ((i + 2 : Nat) : Int)) (by omega) ?_
  refine g_iaload_ro q_L_law_895 hro (by omega) (by omega) (by omega) ?_
  refine g_topi (b := f (i + 2)) (by rw [Int.toNat_natCast]) ?_
  refine g_callV (rc' := _) (rs' := _) (As := [_, _]) cs_L_191 q_L_law_896 (sp_malone hΓ hM1 (f (i + 1)) (f (i + 2)) (hfr _) (hfr _)) rfl (by repeat first | with_reducible assumption | with_reducible exact hput_s _ _ _ | refine (hput_n _ _ (by omega)).trans ?_ | exact hput_s _ _ _ | assumption) rfl rfl rfl rfl (Nat.le_of_ble_eq_true rfl) (by decide) (Nat.le_refl _) (Nat.le_refl _) (fun _ _ h => h.elim) (fun v2 σ2 hq2 => ?_)
  obtain ⟨rfl, hM2, hE2⟩ := hq2
  obtain ⟨hLI, ho2⟩ := lw_B (s2 := (len, tx, fa, z, l, wl, wr)) ((Classical.em _).elim hC0 hC1) ho1 hM2 hE2
  obtain ⟨I9, A9, N9, i90, hMC9, -⟩ := hM2
  have m90 := hMC9.1
  refine g_istore (L' := [_, _, _, _, _, _, _]) q_L_law_899 (by decide) rfl ?_
  refine g_aload_n q_L_law_901 rfl ?_
  refine g_callV (rc' := _) (rs' := _) (As := []) cs_L_153 q_L_law_902 (sp_thrown hΓ m90) rfl (by repeat first | with_reducible assumption | with_reducible exact hput_s _ _ _ | refine (hput_n _ _ (by omega)).trans ?_ | exact hput_s _ _ _ | assumption) rfl rfl rfl rfl (Nat.le_of_ble_eq_true rfl) (by decide) (Nat.le_refl _) (Nat.le_refl _) (fun _ _ h => h.elim) (k_ri ?_)
  rw [i90]
  refine g_iload q_L_law_905 rfl ?_
  refine g_icmp_eqS (tgt := 912) q_L_law_907 (by decide) ?_
  refine g_iload q_L_law_912 rfl ?_
  refine g_if_ne (tgt := 929) q_L_law_914 (by decide) ⟨by omega, by omega⟩ (fun b8 => ?_) (fun b8 => ?_)
  · -- it threw
    refine g_goto (tgt := 3063) q_L_law_929 (by decide) ?_
    exact g_fl (kk _ _ _ hLI) ⟨rfl, rfl, rfl, rfl, rfl, trivial⟩
  refine g_aload_n q_L_law_917 rfl ?_
  refine g_iconst q_L_law_918 ?_
  refine g_laload q_L_law_919 (by repeat first | with_reducible assumption | with_reducible exact hput_s _ _ _ | refine (hput_n _ _ (by omega)).trans ?_ | exact hput_s _ _ _ | assumption) (by omega) (by omega) ?_
  rw [show g1 (0 : Int).toNat = g1 0 from rfl, hg1 (by omega), if_pos (by omega)]
  refine g_iload q_L_law_920 rfl ?_
  refine g_top (v' := .int (ii (cn _))) (congrArg Value.int (ii_cn _).symm) ?_
  refine g_i2l q_L_law_922 (cn_rg _) ?_
  refine g_lcmp q_L_law_923 ?_
  refine g_topi (b := 0) (lcm_self _) ?_
  refine g_if_eq (tgt := 929) q_L_law_924 (by decide) ⟨by omega, by omega⟩ (fun b7 => ?_) (fun b7 => ?_)
  case refine_2 => exact absurd rfl b7
  refine g_goto (tgt := 3063) q_L_law_929 (by decide) ?_
  exact g_fl (kk _ _ _ hLI) ⟨rfl, rfl, rfl, rfl, rfl, trivial⟩
theorem la_13 (hΓ : Gd Γ) (hro : RO Γ b Ln f) (hfr : ∀ j, rg (f j)) (hi : i + 6 ≤ Ln) (hLn : Ln ≤ 3072) (hN : N < 600) (hI : LI σ x N R s) (kk : ∀ σ' R' s', LI σ' x (N + 1) R' s' → G Γ miL_law code Q noX (C + dC R' RM) (E + dS R' RM) 3063 [some (.ref b), some (.ref x), some (.ref (x + 54)), some (.ref (x + 88)), some (.int (ii (i : Int))), none, none] [] σ') : G Γ miL_law code Q noX (C + 8 + dC R RM) (E + 48 + dS R RM) 932 [some (.ref b), some (.ref x), some (.ref (x + 54)), some (.ref (x + 88)), some (.int (ii (i : Int))), none, none] [] σ := by
  obtain ⟨len, tx, fa, z, l, wl, wr⟩ := s
  obtain ⟨hX, ⟨e0, hM⟩, g, ho⟩ := hI
  have hX : CX σ x (x + 89) N R len tx fa z l wl wr := hX
  have hM : MX σ (x + 54) e0 len tx fa z l wl wr := hM
  obtain ⟨av, ve, hx, -, -⟩ := hX.ob
  obtain ⟨hl1, hl2, h302⟩ := hX.low
  refine g_aload_n q_L_law_932 rfl ?_
  refine g_aload_n q_L_law_933 rfl ?_
  refine g_iload q_L_law_934 rfl ?_
  refine g_iconst q_L_law_936 ?_
  refine g_iadd q_L_law_937 ?_
  refine g_topi (b := ((i + 1 : Nat) : Int)) (by omega) ?_
  refine g_iaload_ro q_L_law_938 hro (by omega) (by omega) (by omega) ?_
  refine g_topi (b := f (i + 1)) (by rw [Int.toNat_natCast]) ?_
  refine g_aload_n q_L_law_939 rfl ?_
  refine g_callSW (rc' := (C + dC R RM)) (rs' := (E + dS R RM)) (As := [_, _, _]) cs_L_192 q_L_law_940 (sp_L_clash hΓ hx (Sp_w (sp_clash hΓ (by omega) hX (f (i + 1)) (hfr _))) (fun v σ' h => (h.2.2.2.2 (x + 88) (by omega) (by unfold fX inb; omega)).trans ho)) rfl rfl rfl (Nat.le_of_ble_eq_true rfl) (by decide) rmZ rmZ (fun v σ1 hq => ?_)
  obtain ⟨he4, rfl, hM1, ⟨g1, ho1, hg1⟩, hC0, hC1⟩ := lw_A (s := (len, tx, fa, z, l, wl, wr)) (s0 := (len, tx, fa, z, l, wl, wr)) (s1 := (len, tx, fa, z, l, wl, wr)) hX hM ho (fun σ' h => h) (fun σ' h => h) hq
  have hM1 : MX σ1 (x + 54) e0 len tx fa z l wl wr := hM1
  have hm1 := hM1
  obtain ⟨I8, A8, N8, -, hMC8, -⟩ := hm1
  have m80 := hMC8.1
  refine g_istore (L' := [_, _, _, _, _, _, _]) q_L_law_943 (by decide) rfl ?_
  refine g_aload_n q_L_law_945 rfl ?_
  refine g_aload_n q_L_law_946 rfl ?_
  refine g_iload q_L_law_947 rfl ?_
  refine g_iconst q_L_law_949 ?_
  refine g_iadd q_L_law_950 ?_
  refine g_topi (b := ((i + 1 : Nat) : Int)) (by omega) ?_
  refine g_iaload_ro q_L_law_951 hro (by omega) (by omega) (by omega) ?_
  refine g_topi (b := f (i + 1)) (by rw [Int.toNat_natCast]) ?_
  refine g_callV (rc' := _) (rs' := _) (As := [_]) cs_L_194 q_L_law_952 (sp_mclash hΓ hM1 (f (i + 1)) (hfr _)) rfl (by repeat first | with_reducible assumption | with_reducible exact hput_s _ _ _ | refine (hput_n _ _ (by omega)).trans ?_ | exact hput_s _ _ _ | assumption) rfl rfl rfl rfl (Nat.le_of_ble_eq_true rfl) (by decide) (Nat.le_refl _) (Nat.le_refl _) (fun _ _ h => h.elim) (fun v2 σ2 hq2 => ?_)
  obtain ⟨rfl, hM2, hE2⟩ := hq2
  obtain ⟨hLI, ho2⟩ := lw_B (s2 := (len, tx, fa, z, l, wl, wr)) ((Classical.em _).elim hC0 hC1) ho1 hM2 hE2
  obtain ⟨I9, A9, N9, i90, hMC9, -⟩ := hM2
  have m90 := hMC9.1
  refine g_istore (L' := [_, _, _, _, _, _, _]) q_L_law_955 (by decide) rfl ?_
  refine g_aload_n q_L_law_957 rfl ?_
  refine g_callV (rc' := _) (rs' := _) (As := []) cs_L_153 q_L_law_958 (sp_thrown hΓ m90) rfl (by repeat first | with_reducible assumption | with_reducible exact hput_s _ _ _ | refine (hput_n _ _ (by omega)).trans ?_ | exact hput_s _ _ _ | assumption) rfl rfl rfl rfl (Nat.le_of_ble_eq_true rfl) (by decide) (Nat.le_refl _) (Nat.le_refl _) (fun _ _ h => h.elim) (k_ri ?_)
  rw [i90]
  refine g_iload q_L_law_961 rfl ?_
  refine g_icmp_eqS (tgt := 968) q_L_law_963 (by decide) ?_
  refine g_iload q_L_law_968 rfl ?_
  refine g_if_ne (tgt := 985) q_L_law_970 (by decide) ⟨by omega, by omega⟩ (fun b8 => ?_) (fun b8 => ?_)
  · -- it threw
    refine g_goto (tgt := 3063) q_L_law_985 (by decide) ?_
    exact g_fl (kk _ _ _ hLI) ⟨rfl, rfl, rfl, rfl, rfl, trivial⟩
  refine g_aload_n q_L_law_973 rfl ?_
  refine g_iconst q_L_law_974 ?_
  refine g_laload q_L_law_975 (by repeat first | with_reducible assumption | with_reducible exact hput_s _ _ _ | refine (hput_n _ _ (by omega)).trans ?_ | exact hput_s _ _ _ | assumption) (by omega) (by omega) ?_
  rw [show g1 (0 : Int).toNat = g1 0 from rfl, hg1 (by omega), if_pos (by omega)]
  refine g_iload q_L_law_976 rfl ?_
  refine g_top (v' := .int (ii (cn _))) (congrArg Value.int (ii_cn _).symm) ?_
  refine g_i2l q_L_law_978 (cn_rg _) ?_
  refine g_lcmp q_L_law_979 ?_
  refine g_topi (b := 0) (lcm_self _) ?_
  refine g_if_eq (tgt := 985) q_L_law_980 (by decide) ⟨by omega, by omega⟩ (fun b7 => ?_) (fun b7 => ?_)
  case refine_2 => exact absurd rfl b7
  refine g_goto (tgt := 3063) q_L_law_985 (by decide) ?_
  exact g_fl (kk _ _ _ hLI) ⟨rfl, rfl, rfl, rfl, rfl, trivial⟩
theorem la_14 (hΓ : Gd Γ) (hro : RO Γ b Ln f) (hfr : ∀ j, rg (f j)) (hi : i + 6 ≤ Ln) (hLn : Ln ≤ 3072) (hN : N < 600) (hI : LI σ x N R s) (kk : ∀ σ' R' s', LI σ' x (N + 1) R' s' → G Γ miL_law code Q noX (C + dC R' RM) (E + dS R' RM) 3063 [some (.ref b), some (.ref x), some (.ref (x + 54)), some (.ref (x + 88)), some (.int (ii (i : Int))), none, none] [] σ') : G Γ miL_law code Q noX (C + 8 + dC R RM) (E + 48 + dS R RM) 988 [some (.ref b), some (.ref x), some (.ref (x + 54)), some (.ref (x + 88)), some (.int (ii (i : Int))), none, none] [] σ := by
  obtain ⟨len, tx, fa, z, l, wl, wr⟩ := s
  obtain ⟨hX, ⟨e0, hM⟩, g, ho⟩ := hI
  have hX : CX σ x (x + 89) N R len tx fa z l wl wr := hX
  have hM : MX σ (x + 54) e0 len tx fa z l wl wr := hM
  obtain ⟨av, ve, hx, -, -⟩ := hX.ob
  obtain ⟨hl1, hl2, h302⟩ := hX.low
  refine g_aload_n q_L_law_988 rfl ?_
  refine g_aload_n q_L_law_989 rfl ?_
  refine g_iload q_L_law_990 rfl ?_
  refine g_iconst q_L_law_992 ?_
  refine g_iadd q_L_law_993 ?_
  refine g_topi (b := ((i + 1 : Nat) : Int)) (by omega) ?_
  refine g_iaload_ro q_L_law_994 hro (by omega) (by omega) (by omega) ?_
  refine g_topi (b := f (i + 1)) (by rw [Int.toNat_natCast]) ?_
  refine g_aload_n q_L_law_995 rfl ?_
  refine g_callSW (rc' := (C + dC R RM)) (rs' := (E + dS R RM)) (As := [_, _, _]) cs_L_195 q_L_law_996 (sp_L_reach hΓ hx (Sp_w (sp_reach hΓ (by omega) hX (f (i + 1)) (hfr _))) (fun v σ' h => (h.2.2.2.2 (x + 88) (by omega) (by unfold fX inb; omega)).trans ho)) rfl rfl rfl (Nat.le_of_ble_eq_true rfl) (by decide) rmZ rmZ (fun v σ1 hq => ?_)
  obtain ⟨he4, rfl, hM1, ⟨g1, ho1, hg1⟩, hC0, hC1⟩ := lw_A (s := (len, tx, fa, z, l, wl, wr)) (s0 := (len, tx, fa, z, l, wl, wr)) (s1 := (len, tx, fa, z, l, wl, wr)) hX hM ho (fun σ' h => h) (fun σ' h => h) hq
  have hM1 : MX σ1 (x + 54) e0 len tx fa z l wl wr := hM1
  have hm1 := hM1
  obtain ⟨I8, A8, N8, -, hMC8, -⟩ := hm1
  have m80 := hMC8.1
  refine g_istore (L' := [_, _, _, _, _, _, _]) q_L_law_999 (by decide) rfl ?_
  refine g_aload_n q_L_law_1001 rfl ?_
  refine g_aload_n q_L_law_1002 rfl ?_
  refine g_iload q_L_law_1003 rfl ?_
  refine g_iconst q_L_law_1005 ?_
  refine g_iadd q_L_law_1006 ?_
  refine g_topi (b := ((i + 1 : Nat) : Int)) (by omega) ?_
  refine g_iaload_ro q_L_law_1007 hro (by omega) (by omega) (by omega) ?_
  refine g_topi (b := f (i + 1)) (by rw [Int.toNat_natCast]) ?_
  refine g_callV (rc' := _) (rs' := _) (As := [_]) cs_L_197 q_L_law_1008 (sp_mreach hΓ hM1 (f (i + 1)) (hfr _)) rfl (by repeat first | with_reducible assumption | with_reducible exact hput_s _ _ _ | refine (hput_n _ _ (by omega)).trans ?_ | exact hput_s _ _ _ | assumption) rfl rfl rfl rfl (Nat.le_of_ble_eq_true rfl) (by decide) (Nat.le_refl _) (Nat.le_refl _) (fun _ _ h => h.elim) (fun v2 σ2 hq2 => ?_)
  obtain ⟨rfl, hM2, hE2⟩ := hq2
  obtain ⟨hLI, ho2⟩ := lw_B (s2 := (len, tx, fa, z, l, wl, wr)) ((Classical.em _).elim hC0 hC1) ho1 hM2 hE2
  obtain ⟨I9, A9, N9, i90, hMC9, -⟩ := hM2
  have m90 := hMC9.1
  refine g_istore (L' := [_, _, _, _, _, _, _]) q_L_law_1011 (by decide) rfl ?_
  refine g_aload_n q_L_law_1013 rfl ?_
  refine g_callV (rc' := _) (rs' := _) (As := []) cs_L_153 q_L_law_1014 (sp_thrown hΓ m90) rfl (by repeat first | with_reducible assumption | with_reducible exact hput_s _ _ _ | refine (hput_n _ _ (by omega)).trans ?_ | exact hput_s _ _ _ | assumption) rfl rfl rfl rfl (Nat.le_of_ble_eq_true rfl) (by decide) (Nat.le_refl _) (Nat.le_refl _) (fun _ _ h => h.elim) (k_ri ?_)
  rw [i90]
  refine g_iload q_L_law_1017 rfl ?_
  refine g_icmp_eqS (tgt := 1024) q_L_law_1019 (by decide) ?_
  refine g_iload q_L_law_1024 rfl ?_
  refine g_if_ne (tgt := 1041) q_L_law_1026 (by decide) ⟨by omega, by omega⟩ (fun b8 => ?_) (fun b8 => ?_)
  · -- it threw
    refine g_goto (tgt := 3063) q_L_law_1041 (by decide) ?_
    exact g_fl (kk _ _ _ hLI) ⟨rfl, rfl, rfl, rfl, rfl, trivial⟩
  refine g_aload_n q_L_law_1029 rfl ?_
  refine g_iconst q_L_law_1030 ?_
  refine g_laload q_L_law_1031 (by repeat first | with_reducible assumption | with_reducible exact hput_s _ _ _ | refine (hput_n _ _ (by omega)).trans ?_ | exact hput_s _ _ _ | assumption) (by omega) (by omega) ?_
  rw [show g1 (0 : Int).toNat = g1 0 from rfl, hg1 (by omega), if_pos (by omega)]
  refine g_iload q_L_law_1032 rfl ?_
  refine g_top (v' := .int (ii (cn _))) (congrArg Value.int (ii_cn _).symm) ?_
  refine g_i2l q_L_law_1034 (cn_rg _) ?_
  refine g_lcmp q_L_law_1035 ?_
  refine g_topi (b := 0) (lcm_self _) ?_
  refine g_if_eq (tgt := 1041) q_L_law_1036 (by decide) ⟨by omega, by omega⟩ (fun b7 => ?_) (fun b7 => ?_)
  case refine_2 => exact absurd rfl b7
  refine g_goto (tgt := 3063) q_L_law_1041 (by decide) ?_
  exact g_fl (kk _ _ _ hLI) ⟨rfl, rfl, rfl, rfl, rfl, trivial⟩
theorem la_15 (hΓ : Gd Γ) (hro : RO Γ b Ln f) (hfr : ∀ j, rg (f j)) (hi : i + 6 ≤ Ln) (hLn : Ln ≤ 3072) (hN : N < 600) (hI : LI σ x N R s) (kk : ∀ σ' R' s', LI σ' x (N + 1) R' s' → G Γ miL_law code Q noX (C + dC R' RM) (E + dS R' RM) 3063 [some (.ref b), some (.ref x), some (.ref (x + 54)), some (.ref (x + 88)), some (.int (ii (i : Int))), none, none] [] σ') : G Γ miL_law code Q noX (C + 8 + dC R RM) (E + 48 + dS R RM) 1044 [some (.ref b), some (.ref x), some (.ref (x + 54)), some (.ref (x + 88)), some (.int (ii (i : Int))), none, none] [] σ := by
  obtain ⟨len, tx, fa, z, l, wl, wr⟩ := s
  obtain ⟨hX, ⟨e0, hM⟩, g, ho⟩ := hI
  have hX : CX σ x (x + 89) N R len tx fa z l wl wr := hX
  have hM : MX σ (x + 54) e0 len tx fa z l wl wr := hM
  obtain ⟨av, ve, hx, -, -⟩ := hX.ob
  obtain ⟨hl1, hl2, h302⟩ := hX.low
  refine g_aload_n q_L_law_1044 rfl ?_
  refine g_aload_n q_L_law_1045 rfl ?_
  refine g_iload q_L_law_1046 rfl ?_
  refine g_iconst q_L_law_1048 ?_
  refine g_iadd q_L_law_1049 ?_
  refine g_topi (b := ((i + 1 : Nat) : Int)) (by omega) ?_
  refine g_iaload_ro q_L_law_1050 hro (by omega) (by omega) (by omega) ?_
  refine g_topi (b := f (i + 1)) (by rw [Int.toNat_natCast]) ?_
  refine g_aload_n q_L_law_1051 rfl ?_
  refine g_iload q_L_law_1052 rfl ?_
  refine g_iconst q_L_law_1054 ?_
  refine g_iadd q_L_law_1055 ?_
  refine g_topi (b := ((i + 2 : Nat) : Int)) (by omega) ?_
  refine g_iaload_ro q_L_law_1056 hro (by omega) (by omega) (by omega) ?_
  refine g_topi (b := f (i + 2)) (by rw [Int.toNat_natCast]) ?_
  refine g_aload_n q_L_law_1057 rfl ?_
  refine g_iload q_L_law_1058 rfl ?_
  refine g_iconst q_L_law_1060 ?_
  refine g_iadd q_L_law_1061 ?_
  refine g_topi (b := ((i + 3 : Nat) : Int)) (by omega) ?_
  refine g_iaload_ro q_L_law_1062 hro (by omega) (by omega) (by omega) ?_
  refine g_topi (b := f (i + 3)) (by rw [Int.toNat_natCast]) ?_
  refine g_aload_n q_L_law_1063 rfl ?_
  refine g_iload q_L_law_1064 rfl ?_
  refine g_iconst q_L_law_1066 ?_
  refine g_iadd q_L_law_1067 ?_
  refine g_topi (b := ((i + 4 : Nat) : Int)) (by omega) ?_
  refine g_iaload_ro q_L_law_1068 hro (by omega) (by omega) (by omega) ?_
  refine g_topi (b := f (i + 4)) (by rw [Int.toNat_natCast]) ?_
  refine g_aload_n q_L_law_1069 rfl ?_
  refine g_callSW (rc' := (C + dC R RM)) (rs' := (E + dS R RM)) (As := [_, _, _, _, _, _]) cs_L_198 q_L_law_1070 (sp_L_far hΓ hx (Sp_w (sp_far hΓ (by omega) hX (f (i + 1)) (f (i + 2)) (f (i + 3)) (f (i + 4)) (hfr _) (hfr _) (hfr _) (hfr _))) (fun v σ' h => (h.2.2.2.2 (x + 88) (by omega) (by unfold fX inb; omega)).trans ho)) rfl rfl rfl (Nat.le_of_ble_eq_true rfl) (by decide) rmZ rmZ (fun v σ1 hq => ?_)
  obtain ⟨he4, rfl, hM1, ⟨g1, ho1, hg1⟩, hC0, hC1⟩ := lw_A (s := (len, tx, fa, z, l, wl, wr)) (s0 := (len, tx, fa, z, l, wl, wr)) (s1 := (len, tx, fa, z, l, wl, wr)) hX hM ho (fun σ' h => h) (fun σ' h => h) hq
  have hM1 : MX σ1 (x + 54) e0 len tx fa z l wl wr := hM1
  have hm1 := hM1
  obtain ⟨I8, A8, N8, -, hMC8, -⟩ := hm1
  have m80 := hMC8.1
  refine g_istore (L' := [_, _, _, _, _, _, _]) q_L_law_1073 (by decide) rfl ?_
  refine g_aload_n q_L_law_1075 rfl ?_
  refine g_aload_n q_L_law_1076 rfl ?_
  refine g_iload q_L_law_1077 rfl ?_
  refine g_iconst q_L_law_1079 ?_
  refine g_iadd q_L_law_1080 ?_
  refine g_topi (b := ((i + 1 : Nat) : Int)) (by omega) ?_
  refine g_iaload_ro q_L_law_1081 hro (by omega) (by omega) (by omega) ?_
  refine g_topi (b := f (i + 1)) (by rw [Int.toNat_natCast]) ?_
  refine g_aload_n q_L_law_1082 rfl ?_
  refine g_iload q_L_law_1083 rfl ?_
  refine g_iconst q_L_law_1085 ?_
  refine g_iadd q_L_law_1086 ?_
  refine g_topi (b := ((i + 2 : Nat) : Int)) (by omega) ?_
  refine g_iaload_ro q_L_law_1087 hro (by omega) (by omega) (by omega) ?_
  refine g_topi (b := f (i + 2)) (by rw [Int.toNat_natCast]) ?_
  refine g_aload_n q_L_law_1088 rfl ?_
  refine g_iload q_L_law_1089 rfl ?_
  refine g_iconst q_L_law_1091 ?_
  refine g_iadd q_L_law_1092 ?_
  refine g_topi (b := ((i + 3 : Nat) : Int)) (by omega) ?_
  refine g_iaload_ro q_L_law_1093 hro (by omega) (by omega) (by omega) ?_
  refine g_topi (b := f (i + 3)) (by rw [Int.toNat_natCast]) ?_
  refine g_aload_n q_L_law_1094 rfl ?_
  refine g_iload q_L_law_1095 rfl ?_
  refine g_iconst q_L_law_1097 ?_
  refine g_iadd q_L_law_1098 ?_
  refine g_topi (b := ((i + 4 : Nat) : Int)) (by omega) ?_
  refine g_iaload_ro q_L_law_1099 hro (by omega) (by omega) (by omega) ?_
  refine g_topi (b := f (i + 4)) (by rw [Int.toNat_natCast]) ?_
  refine g_callV (rc' := _) (rs' := _) (As := [_, _, _, _]) cs_L_201 q_L_law_1100 (sp_mfar hΓ hM1 (f (i + 1)) (f (i + 2)) (f (i + 3)) (f (i + 4)) (hfr _) (hfr _) (hfr _) (hfr _)) rfl (by repeat first | with_reducible assumption | with_reducible exact hput_s _ _ _ | refine (hput_n _ _ (by omega)).trans ?_ | exact hput_s _ _ _ | assumption) rfl rfl rfl rfl (Nat.le_of_ble_eq_true rfl) (by decide) (Nat.le_refl _) (Nat.le_refl _) (fun _ _ h => h.elim) (fun v2 σ2 hq2 => ?_)
  obtain ⟨rfl, hM2, hE2⟩ := hq2
  obtain ⟨hLI, ho2⟩ := lw_B (s2 := (len, tx, fa, z, l, wl, wr)) ((Classical.em _).elim hC0 hC1) ho1 hM2 hE2
  obtain ⟨I9, A9, N9, i90, hMC9, -⟩ := hM2
  have m90 := hMC9.1
  refine g_istore (L' := [_, _, _, _, _, _, _]) q_L_law_1103 (by decide) rfl ?_
  refine g_aload_n q_L_law_1105 rfl ?_
  refine g_callV (rc' := _) (rs' := _) (As := []) cs_L_153 q_L_law_1106 (sp_thrown hΓ m90) rfl (by repeat first | with_reducible assumption | with_reducible exact hput_s _ _ _ | refine (hput_n _ _ (by omega)).trans ?_ | exact hput_s _ _ _ | assumption) rfl rfl rfl rfl (Nat.le_of_ble_eq_true rfl) (by decide) (Nat.le_refl _) (Nat.le_refl _) (fun _ _ h => h.elim) (k_ri ?_)
  rw [i90]
  refine g_iload q_L_law_1109 rfl ?_
  refine g_icmp_eqS (tgt := 1116) q_L_law_1111 (by decide) ?_
  refine g_iload q_L_law_1116 rfl ?_
  refine g_if_ne (tgt := 1133) q_L_law_1118 (by decide) ⟨by omega, by omega⟩ (fun b8 => ?_) (fun b8 => ?_)
  · -- it threw
    refine g_goto (tgt := 3063) q_L_law_1133 (by decide) ?_
    exact g_fl (kk _ _ _ hLI) ⟨rfl, rfl, rfl, rfl, rfl, trivial⟩
  refine g_aload_n q_L_law_1121 rfl ?_
  refine g_iconst q_L_law_1122 ?_
  refine g_laload q_L_law_1123 (by repeat first | with_reducible assumption | with_reducible exact hput_s _ _ _ | refine (hput_n _ _ (by omega)).trans ?_ | exact hput_s _ _ _ | assumption) (by omega) (by omega) ?_
  rw [show g1 (0 : Int).toNat = g1 0 from rfl, hg1 (by omega), if_pos (by omega)]
  refine g_iload q_L_law_1124 rfl ?_
  refine g_top (v' := .int (ii (cn _))) (congrArg Value.int (ii_cn _).symm) ?_
  refine g_i2l q_L_law_1126 (cn_rg _) ?_
  refine g_lcmp q_L_law_1127 ?_
  refine g_topi (b := 0) (lcm_self _) ?_
  refine g_if_eq (tgt := 1133) q_L_law_1128 (by decide) ⟨by omega, by omega⟩ (fun b7 => ?_) (fun b7 => ?_)
  case refine_2 => exact absurd rfl b7
  refine g_goto (tgt := 3063) q_L_law_1133 (by decide) ?_
  exact g_fl (kk _ _ _ hLI) ⟨rfl, rfl, rfl, rfl, rfl, trivial⟩
theorem la_16 (hΓ : Gd Γ) (hro : RO Γ b Ln f) (hfr : ∀ j, rg (f j)) (hi : i + 6 ≤ Ln) (hLn : Ln ≤ 3072) (hN : N < 600) (hI : LI σ x N R s) (kk : ∀ σ' R' s', LI σ' x (N + 1) R' s' → G Γ miL_law code Q noX (C + dC R' RM) (E + dS R' RM) 3063 [some (.ref b), some (.ref x), some (.ref (x + 54)), some (.ref (x + 88)), some (.int (ii (i : Int))), none, none] [] σ') : G Γ miL_law code Q noX (C + 8 + dC R RM) (E + 48 + dS R RM) 1136 [some (.ref b), some (.ref x), some (.ref (x + 54)), some (.ref (x + 88)), some (.int (ii (i : Int))), none, none] [] σ := by
  obtain ⟨len, tx, fa, z, l, wl, wr⟩ := s
  obtain ⟨hX, ⟨e0, hM⟩, g, ho⟩ := hI
  have hX : CX σ x (x + 89) N R len tx fa z l wl wr := hX
  have hM : MX σ (x + 54) e0 len tx fa z l wl wr := hM
  obtain ⟨av, ve, hx, -, -⟩ := hX.ob
  obtain ⟨hl1, hl2, h302⟩ := hX.low
  refine g_aload_n q_L_law_1136 rfl ?_
  refine g_aload_n q_L_law_1137 rfl ?_
  refine g_iload q_L_law_1138 rfl ?_
  refine g_iconst q_L_law_1140 ?_
  refine g_iadd q_L_law_1141 ?_
  refine g_topi (b := ((i + 1 : Nat) : Int)) (by omega) ?_
  refine g_iaload_ro q_L_law_1142 hro (by omega) (by omega) (by omega) ?_
  refine g_topi (b := f (i + 1)) (by rw [Int.toNat_natCast]) ?_
  refine g_aload_n q_L_law_1143 rfl ?_
  refine g_iload q_L_law_1144 rfl ?_
  refine g_iconst q_L_law_1146 ?_
  refine g_iadd q_L_law_1147 ?_
  refine g_topi (b := ((i + 2 : Nat) : Int)) (by omega) ?_
  refine g_iaload_ro q_L_law_1148 hro (by omega) (by omega) (by omega) ?_
  refine g_topi (b := f (i + 2)) (by rw [Int.toNat_natCast]) ?_
  refine g_aload_n q_L_law_1149 rfl ?_
  refine g_callSW (rc' := (C + dC _ RM)) (rs' := (E + dS _ RM)) (As := [_, _, _, _]) cs_L_202 q_L_law_1150 (sp_L_plan hΓ hx (Sp_w (sp_plan hΓ (by omega) hX (f (i + 1)) (f (i + 2)) (hfr _) (hfr _) (Nat.le_refl _) (Nat.le_refl _))) (fun v σ' h => (h.2.2.2.2 (x + 88) (by omega) (by unfold fX inb; omega)).trans ho)) rfl rfl rfl (Nat.le_of_ble_eq_true rfl) (by decide) (rmC (rG_le _ _ _ _) (rG_302 h302 _ _ _)) (rmS (rG_le _ _ _ _) (rG_302 h302 _ _ _)) (fun v σ1 hq => ?_)
  obtain ⟨he4, rfl, hM1, ⟨g1, ho1, hg1⟩, hC0, hC1⟩ := lw_A (s := (len, tx, fa, z, l, wl, wr)) (s0 := (len, tx, fa, z, l, wl, wr)) (s1 := (len, tx, fa, z, l, wl, wr)) hX hM ho (fun σ' h => h) (fun σ' h => h) hq
  have hM1 : MX σ1 (x + 54) e0 len tx fa z l wl wr := hM1
  have hm1 := hM1
  obtain ⟨I8, A8, N8, -, hMC8, -⟩ := hm1
  have m80 := hMC8.1
  refine g_istore (L' := [_, _, _, _, _, _, _]) q_L_law_1153 (by decide) rfl ?_
  refine g_aload_n q_L_law_1155 rfl ?_
  refine g_aload_n q_L_law_1156 rfl ?_
  refine g_iload q_L_law_1157 rfl ?_
  refine g_iconst q_L_law_1159 ?_
  refine g_iadd q_L_law_1160 ?_
  refine g_topi (b := ((i + 1 : Nat) : Int)) (by omega) ?_
  refine g_iaload_ro q_L_law_1161 hro (by omega) (by omega) (by omega) ?_
  refine g_topi (b := f (i + 1)) (by rw [Int.toNat_natCast]) ?_
  refine g_aload_n q_L_law_1162 rfl ?_
  refine g_iload q_L_law_1163 rfl ?_
  refine g_iconst q_L_law_1165 ?_
  refine g_iadd q_L_law_1166 ?_
  refine g_topi (b := ((i + 2 : Nat) : Int)) (by omega) ?_
  refine g_iaload_ro q_L_law_1167 hro (by omega) (by omega) (by omega) ?_
  refine g_topi (b := f (i + 2)) (by rw [Int.toNat_natCast]) ?_
  refine g_callV (rc' := _) (rs' := _) (As := [_, _]) cs_L_204 q_L_law_1168 (sp_mplan hΓ hM1 (f (i + 1)) (f (i + 2)) (hfr _) (hfr _)) rfl (by repeat first | with_reducible assumption | with_reducible exact hput_s _ _ _ | refine (hput_n _ _ (by omega)).trans ?_ | exact hput_s _ _ _ | assumption) rfl rfl rfl rfl (Nat.le_of_ble_eq_true rfl) (by decide) (Nat.le_refl _) (Nat.le_refl _) (fun _ _ h => h.elim) (fun v2 σ2 hq2 => ?_)
  obtain ⟨rfl, hM2, hE2⟩ := hq2
  obtain ⟨hLI, ho2⟩ := lw_B (s2 := (len, tx, fa, z, l, wl, wr)) ((Classical.em _).elim hC0 hC1) ho1 hM2 hE2
  obtain ⟨I9, A9, N9, i90, hMC9, -⟩ := hM2
  have m90 := hMC9.1
  refine g_istore (L' := [_, _, _, _, _, _, _]) q_L_law_1171 (by decide) rfl ?_
  refine g_aload_n q_L_law_1173 rfl ?_
  refine g_callV (rc' := _) (rs' := _) (As := []) cs_L_153 q_L_law_1174 (sp_thrown hΓ m90) rfl (by repeat first | with_reducible assumption | with_reducible exact hput_s _ _ _ | refine (hput_n _ _ (by omega)).trans ?_ | exact hput_s _ _ _ | assumption) rfl rfl rfl rfl (Nat.le_of_ble_eq_true rfl) (by decide) (Nat.le_refl _) (Nat.le_refl _) (fun _ _ h => h.elim) (k_ri ?_)
  rw [i90]
  refine g_iload q_L_law_1177 rfl ?_
  refine g_icmp_eqS (tgt := 1184) q_L_law_1179 (by decide) ?_
  refine g_iload q_L_law_1184 rfl ?_
  refine g_if_ne (tgt := 1201) q_L_law_1186 (by decide) ⟨by omega, by omega⟩ (fun b8 => ?_) (fun b8 => ?_)
  · -- it threw
    refine g_goto (tgt := 3063) q_L_law_1201 (by decide) ?_
    exact g_fl (kk _ _ _ hLI) ⟨rfl, rfl, rfl, rfl, rfl, trivial⟩
  refine g_aload_n q_L_law_1189 rfl ?_
  refine g_iconst q_L_law_1190 ?_
  refine g_laload q_L_law_1191 (by repeat first | with_reducible assumption | with_reducible exact hput_s _ _ _ | refine (hput_n _ _ (by omega)).trans ?_ | exact hput_s _ _ _ | assumption) (by omega) (by omega) ?_
  rw [show g1 (0 : Int).toNat = g1 0 from rfl, hg1 (by omega), if_pos (by omega)]
  refine g_iload q_L_law_1192 rfl ?_
  refine g_top (v' := .int (ii (cn _))) (congrArg Value.int (ii_cn _).symm) ?_
  refine g_i2l q_L_law_1194 (cn_rg _) ?_
  refine g_lcmp q_L_law_1195 ?_
  refine g_topi (b := 0) (lcm_self _) ?_
  refine g_if_eq (tgt := 1201) q_L_law_1196 (by decide) ⟨by omega, by omega⟩ (fun b7 => ?_) (fun b7 => ?_)
  case refine_2 => exact absurd rfl b7
  refine g_goto (tgt := 3063) q_L_law_1201 (by decide) ?_
  exact g_fl (kk _ _ _ hLI) ⟨rfl, rfl, rfl, rfl, rfl, trivial⟩
theorem la_17 (hΓ : Gd Γ) (hro : RO Γ b Ln f) (hfr : ∀ j, rg (f j)) (hi : i + 6 ≤ Ln) (hLn : Ln ≤ 3072) (hN : N < 600) (hI : LI σ x N R s) (kk : ∀ σ' R' s', LI σ' x (N + 1) R' s' → G Γ miL_law code Q noX (C + dC R' RM) (E + dS R' RM) 3063 [some (.ref b), some (.ref x), some (.ref (x + 54)), some (.ref (x + 88)), some (.int (ii (i : Int))), none, none] [] σ') : G Γ miL_law code Q noX (C + 8 + dC R RM) (E + 48 + dS R RM) 1204 [some (.ref b), some (.ref x), some (.ref (x + 54)), some (.ref (x + 88)), some (.int (ii (i : Int))), none, none] [] σ := by
  obtain ⟨len, tx, fa, z, l, wl, wr⟩ := s
  obtain ⟨hX, ⟨e0, hM⟩, g, ho⟩ := hI
  have hX : CX σ x (x + 89) N R len tx fa z l wl wr := hX
  have hM : MX σ (x + 54) e0 len tx fa z l wl wr := hM
  obtain ⟨av, ve, hx, -, -⟩ := hX.ob
  obtain ⟨hl1, hl2, h302⟩ := hX.low
  refine g_aload_n q_L_law_1204 rfl ?_
  refine g_aload_n q_L_law_1205 rfl ?_
  refine g_iload q_L_law_1206 rfl ?_
  refine g_iconst q_L_law_1208 ?_
  refine g_iadd q_L_law_1209 ?_
  refine g_topi (b := ((i + 1 : Nat) : Int)) (by omega) ?_
  refine g_iaload_ro q_L_law_1210 hro (by omega) (by omega) (by omega) ?_
  refine g_topi (b := f (i + 1)) (by rw [Int.toNat_natCast]) ?_
  refine g_aload_n q_L_law_1211 rfl ?_
  refine g_iload q_L_law_1212 rfl ?_
  refine g_iconst q_L_law_1214 ?_
  refine g_iadd q_L_law_1215 ?_
  refine g_topi (b := ((i + 2 : Nat) : Int)) (by omega) ?_
  refine g_iaload_ro q_L_law_1216 hro (by omega) (by omega) (by omega) ?_
  refine g_topi (b := f (i + 2)) (by rw [Int.toNat_natCast]) ?_
  refine g_aload_n q_L_law_1217 rfl ?_
  refine g_iload q_L_law_1218 rfl ?_
  refine g_iconst q_L_law_1220 ?_
  refine g_iadd q_L_law_1221 ?_
  refine g_topi (b := ((i + 3 : Nat) : Int)) (by omega) ?_
  refine g_iaload_ro q_L_law_1222 hro (by omega) (by omega) (by omega) ?_
  refine g_topi (b := f (i + 3)) (by rw [Int.toNat_natCast]) ?_
  refine g_aload_n q_L_law_1223 rfl ?_
  refine g_callSW (rc' := (C + dC _ RM)) (rs' := (E + dS _ RM)) (As := [_, _, _, _, _]) cs_L_205 q_L_law_1224 (sp_L_node hΓ hx (Sp_w (sp_node hΓ (by omega) hX (f (i + 1)) (f (i + 2)) (f (i + 3)) (hfr _) (hfr _) (hfr _) (Nat.le_refl _) (Nat.le_refl _))) (fun v σ' h => (h.2.2.2.2 (x + 88) (by omega) (by unfold fX inb; omega)).trans ho)) rfl rfl rfl (Nat.le_of_ble_eq_true rfl) (by decide) (rmC (rG_le _ _ _ _) (rG_302 h302 _ _ _)) (rmS (rG_le _ _ _ _) (rG_302 h302 _ _ _)) (fun v σ1 hq => ?_)
  obtain ⟨he4, rfl, hM1, ⟨g1, ho1, hg1⟩, hC0, hC1⟩ := lw_A (s := (len, tx, fa, z, l, wl, wr)) (s0 := (len, tx, fa, z, l, wl, wr)) (s1 := (len, tx, fa, z, l, wl, wr)) hX hM ho (fun σ' h => h) (fun σ' h => h) hq
  have hM1 : MX σ1 (x + 54) e0 len tx fa z l wl wr := hM1
  have hm1 := hM1
  obtain ⟨I8, A8, N8, -, hMC8, -⟩ := hm1
  have m80 := hMC8.1
  refine g_istore (L' := [_, _, _, _, _, _, _]) q_L_law_1227 (by decide) rfl ?_
  refine g_aload_n q_L_law_1229 rfl ?_
  refine g_aload_n q_L_law_1230 rfl ?_
  refine g_iload q_L_law_1231 rfl ?_
  refine g_iconst q_L_law_1233 ?_
  refine g_iadd q_L_law_1234 ?_
  refine g_topi (b := ((i + 1 : Nat) : Int)) (by omega) ?_
  refine g_iaload_ro q_L_law_1235 hro (by omega) (by omega) (by omega) ?_
  refine g_topi (b := f (i + 1)) (by rw [Int.toNat_natCast]) ?_
  refine g_aload_n q_L_law_1236 rfl ?_
  refine g_iload q_L_law_1237 rfl ?_
  refine g_iconst q_L_law_1239 ?_
  refine g_iadd q_L_law_1240 ?_
  refine g_topi (b := ((i + 2 : Nat) : Int)) (by omega) ?_
  refine g_iaload_ro q_L_law_1241 hro (by omega) (by omega) (by omega) ?_
  refine g_topi (b := f (i + 2)) (by rw [Int.toNat_natCast]) ?_
  refine g_aload_n q_L_law_1242 rfl ?_
  refine g_iload q_L_law_1243 rfl ?_
  refine g_iconst q_L_law_1245 ?_
  refine g_iadd q_L_law_1246 ?_
  refine g_topi (b := ((i + 3 : Nat) : Int)) (by omega) ?_
  refine g_iaload_ro q_L_law_1247 hro (by omega) (by omega) (by omega) ?_
  refine g_topi (b := f (i + 3)) (by rw [Int.toNat_natCast]) ?_
  refine g_callV (rc' := _) (rs' := _) (As := [_, _, _]) cs_L_207 q_L_law_1248 (sp_mnode hΓ hM1 (f (i + 1)) (f (i + 2)) (f (i + 3)) (hfr _) (hfr _) (hfr _)) rfl (by repeat first | with_reducible assumption | with_reducible exact hput_s _ _ _ | refine (hput_n _ _ (by omega)).trans ?_ | exact hput_s _ _ _ | assumption) rfl rfl rfl rfl (Nat.le_of_ble_eq_true rfl) (by decide) (Nat.le_refl _) (Nat.le_refl _) (fun _ _ h => h.elim) (fun v2 σ2 hq2 => ?_)
  obtain ⟨rfl, hM2, hE2⟩ := hq2
  obtain ⟨hLI, ho2⟩ := lw_B (s2 := (len, tx, fa, z, l, wl, wr)) ((Classical.em _).elim hC0 hC1) ho1 hM2 hE2
  obtain ⟨I9, A9, N9, i90, hMC9, -⟩ := hM2
  have m90 := hMC9.1
  refine g_istore (L' := [_, _, _, _, _, _, _]) q_L_law_1251 (by decide) rfl ?_
  refine g_aload_n q_L_law_1253 rfl ?_
  refine g_callV (rc' := _) (rs' := _) (As := []) cs_L_153 q_L_law_1254 (sp_thrown hΓ m90) rfl (by repeat first | with_reducible assumption | with_reducible exact hput_s _ _ _ | refine (hput_n _ _ (by omega)).trans ?_ | exact hput_s _ _ _ | assumption) rfl rfl rfl rfl (Nat.le_of_ble_eq_true rfl) (by decide) (Nat.le_refl _) (Nat.le_refl _) (fun _ _ h => h.elim) (k_ri ?_)
  rw [i90]
  refine g_iload q_L_law_1257 rfl ?_
  refine g_icmp_eqS (tgt := 1264) q_L_law_1259 (by decide) ?_
  refine g_iload q_L_law_1264 rfl ?_
  refine g_if_ne (tgt := 1281) q_L_law_1266 (by decide) ⟨by omega, by omega⟩ (fun b8 => ?_) (fun b8 => ?_)
  · -- it threw
    refine g_goto (tgt := 3063) q_L_law_1281 (by decide) ?_
    exact g_fl (kk _ _ _ hLI) ⟨rfl, rfl, rfl, rfl, rfl, trivial⟩
  refine g_aload_n q_L_law_1269 rfl ?_
  refine g_iconst q_L_law_1270 ?_
  refine g_laload q_L_law_1271 (by repeat first | with_reducible assumption | with_reducible exact hput_s _ _ _ | refine (hput_n _ _ (by omega)).trans ?_ | exact hput_s _ _ _ | assumption) (by omega) (by omega) ?_
  rw [show g1 (0 : Int).toNat = g1 0 from rfl, hg1 (by omega), if_pos (by omega)]
  refine g_iload q_L_law_1272 rfl ?_
  refine g_top (v' := .int (ii (cn _))) (congrArg Value.int (ii_cn _).symm) ?_
  refine g_i2l q_L_law_1274 (cn_rg _) ?_
  refine g_lcmp q_L_law_1275 ?_
  refine g_topi (b := 0) (lcm_self _) ?_
  refine g_if_eq (tgt := 1281) q_L_law_1276 (by decide) ⟨by omega, by omega⟩ (fun b7 => ?_) (fun b7 => ?_)
  case refine_2 => exact absurd rfl b7
  refine g_goto (tgt := 3063) q_L_law_1281 (by decide) ?_
  exact g_fl (kk _ _ _ hLI) ⟨rfl, rfl, rfl, rfl, rfl, trivial⟩
theorem la_18 (hΓ : Gd Γ) (hro : RO Γ b Ln f) (hfr : ∀ j, rg (f j)) (hi : i + 6 ≤ Ln) (hLn : Ln ≤ 3072) (hN : N < 600) (hI : LI σ x N R s) (kk : ∀ σ' R' s', LI σ' x (N + 1) R' s' → G Γ miL_law code Q noX (C + dC R' RM) (E + dS R' RM) 3063 [some (.ref b), some (.ref x), some (.ref (x + 54)), some (.ref (x + 88)), some (.int (ii (i : Int))), none, none] [] σ') : G Γ miL_law code Q noX (C + 8 + dC R RM) (E + 48 + dS R RM) 1284 [some (.ref b), some (.ref x), some (.ref (x + 54)), some (.ref (x + 88)), some (.int (ii (i : Int))), none, none] [] σ := by
  obtain ⟨len, tx, fa, z, l, wl, wr⟩ := s
  obtain ⟨hX, ⟨e0, hM⟩, g, ho⟩ := hI
  have hX : CX σ x (x + 89) N R len tx fa z l wl wr := hX
  have hM : MX σ (x + 54) e0 len tx fa z l wl wr := hM
  obtain ⟨av, ve, hx, -, -⟩ := hX.ob
  obtain ⟨hl1, hl2, h302⟩ := hX.low
  refine g_aload_n q_L_law_1284 rfl ?_
  refine g_aload_n q_L_law_1285 rfl ?_
  refine g_iload q_L_law_1286 rfl ?_
  refine g_iconst q_L_law_1288 ?_
  refine g_iadd q_L_law_1289 ?_
  refine g_topi (b := ((i + 1 : Nat) : Int)) (by omega) ?_
  refine g_iaload_ro q_L_law_1290 hro (by omega) (by omega) (by omega) ?_
  refine g_topi (b := f (i + 1)) (by rw [Int.toNat_natCast]) ?_
  refine g_aload_n q_L_law_1291 rfl ?_
  refine g_iload q_L_law_1292 rfl ?_
  refine g_iconst q_L_law_1294 ?_
  refine g_iadd q_L_law_1295 ?_
  refine g_topi (b := ((i + 2 : Nat) : Int)) (by omega) ?_
  refine g_iaload_ro q_L_law_1296 hro (by omega) (by omega) (by omega) ?_
  refine g_topi (b := f (i + 2)) (by rw [Int.toNat_natCast]) ?_
  refine g_aload_n q_L_law_1297 rfl ?_
  refine g_iload q_L_law_1298 rfl ?_
  refine g_iconst q_L_law_1300 ?_
  refine g_iadd q_L_law_1301 ?_
  refine g_topi (b := ((i + 3 : Nat) : Int)) (by omega) ?_
  refine g_iaload_ro q_L_law_1302 hro (by omega) (by omega) (by omega) ?_
  refine g_topi (b := f (i + 3)) (by rw [Int.toNat_natCast]) ?_
  refine g_aload_n q_L_law_1303 rfl ?_
  refine g_callSW (rc' := (C + dC _ RM)) (rs' := (E + dS _ RM)) (As := [_, _, _, _, _]) cs_L_208 q_L_law_1304 (sp_L_at hΓ hx (Sp_w (sp_at hΓ (by omega) hX (f (i + 1)) (f (i + 2)) (f (i + 3)) (hfr _) (hfr _) (hfr _) (Nat.le_refl _) (Nat.le_refl _))) (fun v σ' h => (h.2.2.2.2 (x + 88) (by omega) (by unfold fX inb; omega)).trans ho)) rfl rfl rfl (Nat.le_of_ble_eq_true rfl) (by decide) (rmC (rG_le _ _ _ _) (rG_302 h302 _ _ _)) (rmS (rG_le _ _ _ _) (rG_302 h302 _ _ _)) (fun v σ1 hq => ?_)
  obtain ⟨he4, rfl, hM1, ⟨g1, ho1, hg1⟩, hC0, hC1⟩ := lw_A (s := (len, tx, fa, z, l, wl, wr)) (s0 := (len, tx, fa, z, l, wl, wr)) (s1 := (len, tx, fa, z, l, wl, wr)) hX hM ho (fun σ' h => h) (fun σ' h => h) hq
  have hM1 : MX σ1 (x + 54) e0 len tx fa z l wl wr := hM1
  have hm1 := hM1
  obtain ⟨I8, A8, N8, -, hMC8, -⟩ := hm1
  have m80 := hMC8.1
  refine g_istore (L' := [_, _, _, _, _, _, _]) q_L_law_1307 (by decide) rfl ?_
  refine g_aload_n q_L_law_1309 rfl ?_
  refine g_aload_n q_L_law_1310 rfl ?_
  refine g_iload q_L_law_1311 rfl ?_
  refine g_iconst q_L_law_1313 ?_
  refine g_iadd q_L_law_1314 ?_
  refine g_topi (b := ((i + 1 : Nat) : Int)) (by omega) ?_
  refine g_iaload_ro q_L_law_1315 hro (by omega) (by omega) (by omega) ?_
  refine g_topi (b := f (i + 1)) (by rw [Int.toNat_natCast]) ?_
  refine g_aload_n q_L_law_1316 rfl ?_
  refine g_iload q_L_law_1317 rfl ?_
  refine g_iconst q_L_law_1319 ?_
  refine g_iadd q_L_law_1320 ?_
  refine g_topi (b := ((i + 2 : Nat) : Int)) (by omega) ?_
  refine g_iaload_ro q_L_law_1321 hro (by omega) (by omega) (by omega) ?_
  refine g_topi (b := f (i + 2)) (by rw [Int.toNat_natCast]) ?_
  refine g_aload_n q_L_law_1322 rfl ?_
  refine g_iload q_L_law_1323 rfl ?_
  refine g_iconst q_L_law_1325 ?_
  refine g_iadd q_L_law_1326 ?_
  refine g_topi (b := ((i + 3 : Nat) : Int)) (by omega) ?_
  refine g_iaload_ro q_L_law_1327 hro (by omega) (by omega) (by omega) ?_
  refine g_topi (b := f (i + 3)) (by rw [Int.toNat_natCast]) ?_
  refine g_callV (rc' := _) (rs' := _) (As := [_, _, _]) cs_L_210 q_L_law_1328 (sp_mat hΓ hM1 (f (i + 1)) (f (i + 2)) (f (i + 3)) (hfr _) (hfr _) (hfr _)) rfl (by repeat first | with_reducible assumption | with_reducible exact hput_s _ _ _ | refine (hput_n _ _ (by omega)).trans ?_ | exact hput_s _ _ _ | assumption) rfl rfl rfl rfl (Nat.le_of_ble_eq_true rfl) (by decide) (Nat.le_refl _) (Nat.le_refl _) (fun _ _ h => h.elim) (fun v2 σ2 hq2 => ?_)
  obtain ⟨rfl, hM2, hE2⟩ := hq2
  obtain ⟨hLI, ho2⟩ := lw_B (s2 := (len, tx, fa, z, l, wl, wr)) ((Classical.em _).elim hC0 hC1) ho1 hM2 hE2
  obtain ⟨I9, A9, N9, i90, hMC9, -⟩ := hM2
  have m90 := hMC9.1
  refine g_istore (L' := [_, _, _, _, _, _, _]) q_L_law_1331 (by decide) rfl ?_
  refine g_aload_n q_L_law_1333 rfl ?_
  refine g_callV (rc' := _) (rs' := _) (As := []) cs_L_153 q_L_law_1334 (sp_thrown hΓ m90) rfl (by repeat first | with_reducible assumption | with_reducible exact hput_s _ _ _ | refine (hput_n _ _ (by omega)).trans ?_ | exact hput_s _ _ _ | assumption) rfl rfl rfl rfl (Nat.le_of_ble_eq_true rfl) (by decide) (Nat.le_refl _) (Nat.le_refl _) (fun _ _ h => h.elim) (k_ri ?_)
  rw [i90]
  refine g_iload q_L_law_1337 rfl ?_
  refine g_icmp_eqS (tgt := 1344) q_L_law_1339 (by decide) ?_
  refine g_iload q_L_law_1344 rfl ?_
  refine g_if_ne (tgt := 1361) q_L_law_1346 (by decide) ⟨by omega, by omega⟩ (fun b8 => ?_) (fun b8 => ?_)
  · -- it threw
    refine g_goto (tgt := 3063) q_L_law_1361 (by decide) ?_
    exact g_fl (kk _ _ _ hLI) ⟨rfl, rfl, rfl, rfl, rfl, trivial⟩
  refine g_aload_n q_L_law_1349 rfl ?_
  refine g_iconst q_L_law_1350 ?_
  refine g_laload q_L_law_1351 (by repeat first | with_reducible assumption | with_reducible exact hput_s _ _ _ | refine (hput_n _ _ (by omega)).trans ?_ | exact hput_s _ _ _ | assumption) (by omega) (by omega) ?_
  rw [show g1 (0 : Int).toNat = g1 0 from rfl, hg1 (by omega), if_pos (by omega)]
  refine g_iload q_L_law_1352 rfl ?_
  refine g_top (v' := .int (ii (cn _))) (congrArg Value.int (ii_cn _).symm) ?_
  refine g_i2l q_L_law_1354 (cn_rg _) ?_
  refine g_lcmp q_L_law_1355 ?_
  refine g_topi (b := 0) (lcm_self _) ?_
  refine g_if_eq (tgt := 1361) q_L_law_1356 (by decide) ⟨by omega, by omega⟩ (fun b7 => ?_) (fun b7 => ?_)
  case refine_2 => exact absurd rfl b7
  refine g_goto (tgt := 3063) q_L_law_1361 (by decide) ?_
  exact g_fl (kk _ _ _ hLI) ⟨rfl, rfl, rfl, rfl, rfl, trivial⟩
theorem la_19 (hΓ : Gd Γ) (hro : RO Γ b Ln f) (hfr : ∀ j, rg (f j)) (hi : i + 6 ≤ Ln) (hLn : Ln ≤ 3072) (hN : N < 600) (hI : LI σ x N R s) (kk : ∀ σ' R' s', LI σ' x (N + 1) R' s' → G Γ miL_law code Q noX (C + dC R' RM) (E + dS R' RM) 3063 [some (.ref b), some (.ref x), some (.ref (x + 54)), some (.ref (x + 88)), some (.int (ii (i : Int))), none, none] [] σ') : G Γ miL_law code Q noX (C + 8 + dC R RM) (E + 48 + dS R RM) 1364 [some (.ref b), some (.ref x), some (.ref (x + 54)), some (.ref (x + 88)), some (.int (ii (i : Int))), none, none] [] σ := by
  obtain ⟨len, tx, fa, z, l, wl, wr⟩ := s
  obtain ⟨hX, ⟨e0, hM⟩, g, ho⟩ := hI
  have hX : CX σ x (x + 89) N R len tx fa z l wl wr := hX
  have hM : MX σ (x + 54) e0 len tx fa z l wl wr := hM
  obtain ⟨av, ve, hx, -, -⟩ := hX.ob
  obtain ⟨hl1, hl2, h302⟩ := hX.low
  refine g_aload_n q_L_law_1364 rfl ?_
  refine g_aload_n q_L_law_1365 rfl ?_
  refine g_iload q_L_law_1366 rfl ?_
  refine g_iconst q_L_law_1368 ?_
  refine g_iadd q_L_law_1369 ?_
  refine g_topi (b := ((i + 1 : Nat) : Int)) (by omega) ?_
  refine g_iaload_ro q_L_law_1370 hro (by omega) (by omega) (by omega) ?_
  refine g_topi (b := f (i + 1)) (by rw [Int.toNat_natCast]) ?_
  refine g_aload_n q_L_law_1371 rfl ?_
  refine g_iload q_L_law_1372 rfl ?_
  refine g_iconst q_L_law_1374 ?_
  refine g_iadd q_L_law_1375 ?_
  refine g_topi (b := ((i + 2 : Nat) : Int)) (by omega) ?_
  refine g_iaload_ro q_L_law_1376 hro (by omega) (by omega) (by omega) ?_
  refine g_topi (b := f (i + 2)) (by rw [Int.toNat_natCast]) ?_
  refine g_aload_n q_L_law_1377 rfl ?_
  refine g_iload q_L_law_1378 rfl ?_
  refine g_iconst q_L_law_1380 ?_
  refine g_iadd q_L_law_1381 ?_
  refine g_topi (b := ((i + 3 : Nat) : Int)) (by omega) ?_
  refine g_iaload_ro q_L_law_1382 hro (by omega) (by omega) (by omega) ?_
  refine g_topi (b := f (i + 3)) (by rw [Int.toNat_natCast]) ?_
  refine g_aload_n q_L_law_1383 rfl ?_
  refine g_callSW (rc' := (C + dC _ RM)) (rs' := (E + dS _ RM)) (As := [_, _, _, _, _]) cs_L_211 q_L_law_1384 (sp_L_move hΓ hx (Sp_w (sp_move hΓ (by omega) hX (f (i + 1)) (f (i + 2)) (f (i + 3)) (hfr _) (hfr _) (hfr _) (Nat.le_refl _) (Nat.le_refl _))) (fun v σ' h => (h.2.2.2.2 (x + 88) (by omega) (by unfold fX inb; omega)).trans ho)) rfl rfl rfl (Nat.le_of_ble_eq_true rfl) (by decide) (rmC (rG_le _ _ _ _) (rG_302 h302 _ _ _)) (rmS (rG_le _ _ _ _) (rG_302 h302 _ _ _)) (fun v σ1 hq => ?_)
  obtain ⟨he4, rfl, hM1, ⟨g1, ho1, hg1⟩, hC0, hC1⟩ := lw_A (s := (len, tx, fa, z, l, wl, wr)) (s0 := (len, tx, fa, z, l, wl, wr)) (s1 := (len, tx, fa, z, l, wl, wr)) hX hM ho (fun σ' h => h) (fun σ' h => h) hq
  have hM1 : MX σ1 (x + 54) e0 len tx fa z l wl wr := hM1
  have hm1 := hM1
  obtain ⟨I8, A8, N8, -, hMC8, -⟩ := hm1
  have m80 := hMC8.1
  refine g_istore (L' := [_, _, _, _, _, _, _]) q_L_law_1387 (by decide) rfl ?_
  refine g_aload_n q_L_law_1389 rfl ?_
  refine g_aload_n q_L_law_1390 rfl ?_
  refine g_iload q_L_law_1391 rfl ?_
  refine g_iconst q_L_law_1393 ?_
  refine g_iadd q_L_law_1394 ?_
  refine g_topi (b := ((i + 1 : Nat) : Int)) (by omega) ?_
  refine g_iaload_ro q_L_law_1395 hro (by omega) (by omega) (by omega) ?_
  refine g_topi (b := f (i + 1)) (by rw [Int.toNat_natCast]) ?_
  refine g_aload_n q_L_law_1396 rfl ?_
  refine g_iload q_L_law_1397 rfl ?_
  refine g_iconst q_L_law_1399 ?_
  refine g_iadd q_L_law_1400 ?_
  refine g_topi (b := ((i + 2 : Nat) : Int)) (by omega) ?_
  refine g_iaload_ro q_L_law_1401 hro (by omega) (by omega) (by omega) ?_
  refine g_topi (b := f (i + 2)) (by rw [Int.toNat_natCast]) ?_
  refine g_aload_n q_L_law_1402 rfl ?_
  refine g_iload q_L_law_1403 rfl ?_
  refine g_iconst q_L_law_1405 ?_
  refine g_iadd q_L_law_1406 ?_
  refine g_topi (b := ((i + 3 : Nat) : Int)) (by omega) ?_
  refine g_iaload_ro q_L_law_1407 hro (by omega) (by omega) (by omega) ?_
  refine g_topi (b := f (i + 3)) (by rw [Int.toNat_natCast]) ?_
  refine g_callV (rc' := _) (rs' := _) (As := [_, _, _]) cs_L_213 q_L_law_1408 (sp_mmove hΓ hM1 (f (i + 1)) (f (i + 2)) (f (i + 3)) (hfr _) (hfr _) (hfr _)) rfl (by repeat first | with_reducible assumption | with_reducible exact hput_s _ _ _ | refine (hput_n _ _ (by omega)).trans ?_ | exact hput_s _ _ _ | assumption) rfl rfl rfl rfl (Nat.le_of_ble_eq_true rfl) (by decide) (Nat.le_refl _) (Nat.le_refl _) (fun _ _ h => h.elim) (fun v2 σ2 hq2 => ?_)
  obtain ⟨rfl, hM2, hE2⟩ := hq2
  obtain ⟨hLI, ho2⟩ := lw_B (s2 := (len, tx, fa, z, l, wl, wr)) ((Classical.em _).elim hC0 hC1) ho1 hM2 hE2
  obtain ⟨I9, A9, N9, i90, hMC9, -⟩ := hM2
  have m90 := hMC9.1
  refine g_istore (L' := [_, _, _, _, _, _, _]) q_L_law_1411 (by decide) rfl ?_
  refine g_aload_n q_L_law_1413 rfl ?_
  refine g_callV (rc' := _) (rs' := _) (As := []) cs_L_153 q_L_law_1414 (sp_thrown hΓ m90) rfl (by repeat first | with_reducible assumption | with_reducible exact hput_s _ _ _ | refine (hput_n _ _ (by omega)).trans ?_ | exact hput_s _ _ _ | assumption) rfl rfl rfl rfl (Nat.le_of_ble_eq_true rfl) (by decide) (Nat.le_refl _) (Nat.le_refl _) (fun _ _ h => h.elim) (k_ri ?_)
  rw [i90]
  refine g_iload q_L_law_1417 rfl ?_
  refine g_icmp_eqS (tgt := 1424) q_L_law_1419 (by decide) ?_
  refine g_iload q_L_law_1424 rfl ?_
  refine g_if_ne (tgt := 1441) q_L_law_1426 (by decide) ⟨by omega, by omega⟩ (fun b8 => ?_) (fun b8 => ?_)
  · -- it threw
    refine g_goto (tgt := 3063) q_L_law_1441 (by decide) ?_
    exact g_fl (kk _ _ _ hLI) ⟨rfl, rfl, rfl, rfl, rfl, trivial⟩
  refine g_aload_n q_L_law_1429 rfl ?_
  refine g_iconst q_L_law_1430 ?_
  refine g_laload q_L_law_1431 (by repeat first | with_reducible assumption | with_reducible exact hput_s _ _ _ | refine (hput_n _ _ (by omega)).trans ?_ | exact hput_s _ _ _ | assumption) (by omega) (by omega) ?_
  rw [show g1 (0 : Int).toNat = g1 0 from rfl, hg1 (by omega), if_pos (by omega)]
  refine g_iload q_L_law_1432 rfl ?_
  refine g_top (v' := .int (ii (cn _))) (congrArg Value.int (ii_cn _).symm) ?_
  refine g_i2l q_L_law_1434 (cn_rg _) ?_
  refine g_lcmp q_L_law_1435 ?_
  refine g_topi (b := 0) (lcm_self _) ?_
  refine g_if_eq (tgt := 1441) q_L_law_1436 (by decide) ⟨by omega, by omega⟩ (fun b7 => ?_) (fun b7 => ?_)
  case refine_2 => exact absurd rfl b7
  refine g_goto (tgt := 3063) q_L_law_1441 (by decide) ?_
  exact g_fl (kk _ _ _ hLI) ⟨rfl, rfl, rfl, rfl, rfl, trivial⟩
theorem la_20 (hΓ : Gd Γ) (hro : RO Γ b Ln f) (hfr : ∀ j, rg (f j)) (hi : i + 6 ≤ Ln) (hLn : Ln ≤ 3072) (hN : N < 600) (hI : LI σ x N R s) (kk : ∀ σ' R' s', LI σ' x (N + 1) R' s' → G Γ miL_law code Q noX (C + dC R' RM) (E + dS R' RM) 3063 [some (.ref b), some (.ref x), some (.ref (x + 54)), some (.ref (x + 88)), some (.int (ii (i : Int))), none, none] [] σ') : G Γ miL_law code Q noX (C + 8 + dC R RM) (E + 48 + dS R RM) 1444 [some (.ref b), some (.ref x), some (.ref (x + 54)), some (.ref (x + 88)), some (.int (ii (i : Int))), none, none] [] σ := by
  obtain ⟨len, tx, fa, z, l, wl, wr⟩ := s
  obtain ⟨hX, ⟨e0, hM⟩, g, ho⟩ := hI
  have hX : CX σ x (x + 89) N R len tx fa z l wl wr := hX
  have hM : MX σ (x + 54) e0 len tx fa z l wl wr := hM
  obtain ⟨av, ve, hx, -, -⟩ := hX.ob
  obtain ⟨hl1, hl2, h302⟩ := hX.low
  by_cases hb4 : f (i + 4) = 0
  · skip
    refine g_aload_n q_L_law_1444 rfl ?_
    refine g_aload_n q_L_law_1445 rfl ?_
    refine g_iload q_L_law_1446 rfl ?_
    refine g_iconst q_L_law_1448 ?_
    refine g_iadd q_L_law_1449 ?_
    refine g_topi (b := ((i + 1 : Nat) : Int)) (by omega) ?_
    refine g_iaload_ro q_L_law_1450 hro (by omega) (by omega) (by omega) ?_
    refine g_topi (b := f (i + 1)) (by rw [Int.toNat_natCast]) ?_
    refine g_aload_n q_L_law_1451 rfl ?_
    refine g_iload q_L_law_1452 rfl ?_
    refine g_iconst q_L_law_1454 ?_
    refine g_iadd q_L_law_1455 ?_
    refine g_topi (b := ((i + 2 : Nat) : Int)) (by omega) ?_
    refine g_iaload_ro q_L_law_1456 hro (by omega) (by omega) (by omega) ?_
    refine g_topi (b := f (i + 2)) (by rw [Int.toNat_natCast]) ?_
    refine g_aload_n q_L_law_1457 rfl ?_
    refine g_iload q_L_law_1458 rfl ?_
    refine g_iconst q_L_law_1460 ?_
    refine g_iadd q_L_law_1461 ?_
    refine g_topi (b := ((i + 3 : Nat) : Int)) (by omega) ?_
    refine g_iaload_ro q_L_law_1462 hro (by omega) (by omega) (by omega) ?_
    refine g_topi (b := f (i + 3)) (by rw [Int.toNat_natCast]) ?_
    refine g_aload_n q_L_law_1463 rfl ?_
    refine g_iload q_L_law_1464 rfl ?_
    refine g_iconst q_L_law_1466 ?_
    refine g_iadd q_L_law_1467 ?_
    refine g_topi (b := ((i + 4 : Nat) : Int)) (by omega) ?_
    refine g_iaload_ro q_L_law_1468 hro (by omega) (by omega) (by omega) ?_
    refine g_topi (b := f (i + 4)) (by rw [Int.toNat_natCast]) ?_
    refine g_if_eq (tgt := 1476) q_L_law_1469 (by decide) (hfr _) (fun b9 => ?_) (fun b9 => ?_)
    case refine_2 => exact absurd hb4 b9
    refine g_iconst q_L_law_1476 ?_
    refine g_topi (b := bi false) rfl ?_
    refine g_aload_n q_L_law_1477 rfl ?_
    refine g_callSW (rc' := (C + dC _ RM)) (rs' := (E + dS _ RM)) (As := [_, _, _, _, _, _]) cs_L_214 q_L_law_1478 (sp_L_used hΓ hx (Sp_w (sp_used hΓ (by omega) hX (f (i + 1)) (f (i + 2)) (f (i + 3)) false (hfr _) (hfr _) (hfr _) (Nat.le_refl _) (Nat.le_refl _))) (fun v σ' h => (h.2.2.2.2 (x + 88) (by omega) (by unfold fX inb; omega)).trans ho)) rfl rfl rfl (Nat.le_of_ble_eq_true rfl) (by decide) (rmC (rG_le _ _ _ _) (rG_302 h302 _ _ _)) (rmS (rG_le _ _ _ _) (rG_302 h302 _ _ _)) (fun v σ1 hq => ?_)
    obtain ⟨he4, rfl, hM1, ⟨g1, ho1, hg1⟩, hC0, hC1⟩ := lw_A (s := (len, tx, fa, z, l, wl, wr)) (s0 := (len, tx, fa, z, l, wl, wr)) (s1 := (len, tx, fa, z, l, wl, wr)) hX hM ho (fun σ' h => h) (fun σ' h => h) hq
    have hM1 : MX σ1 (x + 54) e0 len tx fa z l wl wr := hM1
    have hm1 := hM1
    obtain ⟨I8, A8, N8, -, hMC8, -⟩ := hm1
    have m80 := hMC8.1
    refine g_istore (L' := [_, _, _, _, _, _, _]) q_L_law_1481 (by decide) rfl ?_
    refine g_aload_n q_L_law_1483 rfl ?_
    refine g_aload_n q_L_law_1484 rfl ?_
    refine g_iload q_L_law_1485 rfl ?_
    refine g_iconst q_L_law_1487 ?_
    refine g_iadd q_L_law_1488 ?_
    refine g_topi (b := ((i + 1 : Nat) : Int)) (by omega) ?_
    refine g_iaload_ro q_L_law_1489 hro (by omega) (by omega) (by omega) ?_
    refine g_topi (b := f (i + 1)) (by rw [Int.toNat_natCast]) ?_
    refine g_aload_n q_L_law_1490 rfl ?_
    refine g_iload q_L_law_1491 rfl ?_
    refine g_iconst q_L_law_1493 ?_
    refine g_iadd q_L_law_1494 ?_
    refine g_topi (b := ((i + 2 : Nat) : Int)) (by omega) ?_
    refine g_iaload_ro q_L_law_1495 hro (by omega) (by omega) (by omega) ?_
    refine g_topi (b := f (i + 2)) (by rw [Int.toNat_natCast]) ?_
    refine g_aload_n q_L_law_1496 rfl ?_
    refine g_iload q_L_law_1497 rfl ?_
    refine g_iconst q_L_law_1499 ?_
    refine g_iadd q_L_law_1500 ?_
    refine g_topi (b := ((i + 3 : Nat) : Int)) (by omega) ?_
    refine g_iaload_ro q_L_law_1501 hro (by omega) (by omega) (by omega) ?_
    refine g_topi (b := f (i + 3)) (by rw [Int.toNat_natCast]) ?_
    refine g_aload_n q_L_law_1502 rfl ?_
    refine g_iload q_L_law_1503 rfl ?_
    refine g_iconst q_L_law_1505 ?_
    refine g_iadd q_L_law_1506 ?_
    refine g_topi (b := ((i + 4 : Nat) : Int)) (by omega) ?_
    refine g_iaload_ro q_L_law_1507 hro (by omega) (by omega) (by omega) ?_
    refine g_topi (b := f (i + 4)) (by rw [Int.toNat_natCast]) ?_
    refine g_if_eq (tgt := 1515) q_L_law_1508 (by decide) (hfr _) (fun b9 => ?_) (fun b9 => ?_)
    case refine_2 => exact absurd hb4 b9
    refine g_iconst q_L_law_1515 ?_
    refine g_topi (b := bi false) rfl ?_
    refine g_callV (rc' := _) (rs' := _) (As := [_, _, _, _]) cs_L_217 q_L_law_1516 (sp_mused hΓ hM1 (f (i + 1)) (f (i + 2)) (f (i + 3)) false (hfr _) (hfr _) (hfr _)) rfl (by repeat first | with_reducible assumption | with_reducible exact hput_s _ _ _ | refine (hput_n _ _ (by omega)).trans ?_ | exact hput_s _ _ _ | assumption) rfl rfl rfl rfl (Nat.le_of_ble_eq_true rfl) (by decide) (Nat.le_refl _) (Nat.le_refl _) (fun _ _ h => h.elim) (fun v2 σ2 hq2 => ?_)
    obtain ⟨rfl, hM2, hE2⟩ := hq2
    obtain ⟨hLI, ho2⟩ := lw_B (s2 := (len, tx, fa, z, l, wl, wr)) ((Classical.em _).elim hC0 hC1) ho1 hM2 hE2
    obtain ⟨I9, A9, N9, i90, hMC9, -⟩ := hM2
    have m90 := hMC9.1
    refine g_istore (L' := [_, _, _, _, _, _, _]) q_L_law_1519 (by decide) rfl ?_
    refine g_aload_n q_L_law_1521 rfl ?_
    refine g_callV (rc' := _) (rs' := _) (As := []) cs_L_153 q_L_law_1522 (sp_thrown hΓ m90) rfl (by repeat first | with_reducible assumption | with_reducible exact hput_s _ _ _ | refine (hput_n _ _ (by omega)).trans ?_ | exact hput_s _ _ _ | assumption) rfl rfl rfl rfl (Nat.le_of_ble_eq_true rfl) (by decide) (Nat.le_refl _) (Nat.le_refl _) (fun _ _ h => h.elim) (k_ri ?_)
    rw [i90]
    refine g_iload q_L_law_1525 rfl ?_
    refine g_icmp_eqS (tgt := 1532) q_L_law_1527 (by decide) ?_
    refine g_iload q_L_law_1532 rfl ?_
    refine g_if_ne (tgt := 1549) q_L_law_1534 (by decide) ⟨by omega, by omega⟩ (fun b8 => ?_) (fun b8 => ?_)
    · -- it threw
      refine g_goto (tgt := 3063) q_L_law_1549 (by decide) ?_
      exact g_fl (kk _ _ _ hLI) ⟨rfl, rfl, rfl, rfl, rfl, trivial⟩
    refine g_aload_n q_L_law_1537 rfl ?_
    refine g_iconst q_L_law_1538 ?_
    refine g_laload q_L_law_1539 (by repeat first | with_reducible assumption | with_reducible exact hput_s _ _ _ | refine (hput_n _ _ (by omega)).trans ?_ | exact hput_s _ _ _ | assumption) (by omega) (by omega) ?_
    rw [show g1 (0 : Int).toNat = g1 0 from rfl, hg1 (by omega), if_pos (by omega)]
    refine g_iload q_L_law_1540 rfl ?_
    refine g_top (v' := .int (ii (cn _))) (congrArg Value.int (ii_cn _).symm) ?_
    refine g_i2l q_L_law_1542 (cn_rg _) ?_
    refine g_lcmp q_L_law_1543 ?_
    refine g_topi (b := 0) (lcm_self _) ?_
    refine g_if_eq (tgt := 1549) q_L_law_1544 (by decide) ⟨by omega, by omega⟩ (fun b7 => ?_) (fun b7 => ?_)
    case refine_2 => exact absurd rfl b7
    refine g_goto (tgt := 3063) q_L_law_1549 (by decide) ?_
    exact g_fl (kk _ _ _ hLI) ⟨rfl, rfl, rfl, rfl, rfl, trivial⟩
  · skip
    refine g_aload_n q_L_law_1444 rfl ?_
    refine g_aload_n q_L_law_1445 rfl ?_
    refine g_iload q_L_law_1446 rfl ?_
    refine g_iconst q_L_law_1448 ?_
    refine g_iadd q_L_law_1449 ?_
    refine g_topi (b := ((i + 1 : Nat) : Int)) (by omega) ?_
    refine g_iaload_ro q_L_law_1450 hro (by omega) (by omega) (by omega) ?_
    refine g_topi (b := f (i + 1)) (by rw [Int.toNat_natCast]) ?_
    refine g_aload_n q_L_law_1451 rfl ?_
    refine g_iload q_L_law_1452 rfl ?_
    refine g_iconst q_L_law_1454 ?_
    refine g_iadd q_L_law_1455 ?_
    refine g_topi (b := ((i + 2 : Nat) : Int)) (by omega) ?_
    refine g_iaload_ro q_L_law_1456 hro (by omega) (by omega) (by omega) ?_
    refine g_topi (b := f (i + 2)) (by rw [Int.toNat_natCast]) ?_
    refine g_aload_n q_L_law_1457 rfl ?_
    refine g_iload q_L_law_1458 rfl ?_
    refine g_iconst q_L_law_1460 ?_
    refine g_iadd q_L_law_1461 ?_
    refine g_topi (b := ((i + 3 : Nat) : Int)) (by omega) ?_
    refine g_iaload_ro q_L_law_1462 hro (by omega) (by omega) (by omega) ?_
    refine g_topi (b := f (i + 3)) (by rw [Int.toNat_natCast]) ?_
    refine g_aload_n q_L_law_1463 rfl ?_
    refine g_iload q_L_law_1464 rfl ?_
    refine g_iconst q_L_law_1466 ?_
    refine g_iadd q_L_law_1467 ?_
    refine g_topi (b := ((i + 4 : Nat) : Int)) (by omega) ?_
    refine g_iaload_ro q_L_law_1468 hro (by omega) (by omega) (by omega) ?_
    refine g_topi (b := f (i + 4)) (by rw [Int.toNat_natCast]) ?_
    refine g_if_eq (tgt := 1476) q_L_law_1469 (by decide) (hfr _) (fun b9 => ?_) (fun b9 => ?_)
    case refine_1 => exact absurd b9 hb4
    refine g_iconst q_L_law_1472 ?_
    refine g_goto (tgt := 1477) q_L_law_1473 (by decide) ?_
    refine g_topi (b := bi true) rfl ?_
    refine g_aload_n q_L_law_1477 rfl ?_
    refine g_callSW (rc' := (C + dC _ RM)) (rs' := (E + dS _ RM)) (As := [_, _, _, _, _, _]) cs_L_214 q_L_law_1478 (sp_L_used hΓ hx (Sp_w (sp_used hΓ (by omega) hX (f (i + 1)) (f (i + 2)) (f (i + 3)) true (hfr _) (hfr _) (hfr _) (Nat.le_refl _) (Nat.le_refl _))) (fun v σ' h => (h.2.2.2.2 (x + 88) (by omega) (by unfold fX inb; omega)).trans ho)) rfl rfl rfl (Nat.le_of_ble_eq_true rfl) (by decide) (rmC (rG_le _ _ _ _) (rG_302 h302 _ _ _)) (rmS (rG_le _ _ _ _) (rG_302 h302 _ _ _)) (fun v σ1 hq => ?_)
    obtain ⟨he4, rfl, hM1, ⟨g1, ho1, hg1⟩, hC0, hC1⟩ := lw_A (s := (len, tx, fa, z, l, wl, wr)) (s0 := (len, tx, fa, z, l, wl, wr)) (s1 := (len, tx, fa, z, l, wl, wr)) hX hM ho (fun σ' h => h) (fun σ' h => h) hq
    have hM1 : MX σ1 (x + 54) e0 len tx fa z l wl wr := hM1
    have hm1 := hM1
    obtain ⟨I8, A8, N8, -, hMC8, -⟩ := hm1
    have m80 := hMC8.1
    refine g_istore (L' := [_, _, _, _, _, _, _]) q_L_law_1481 (by decide) rfl ?_
    refine g_aload_n q_L_law_1483 rfl ?_
    refine g_aload_n q_L_law_1484 rfl ?_
    refine g_iload q_L_law_1485 rfl ?_
    refine g_iconst q_L_law_1487 ?_
    refine g_iadd q_L_law_1488 ?_
    refine g_topi (b := ((i + 1 : Nat) : Int)) (by omega) ?_
    refine g_iaload_ro q_L_law_1489 hro (by omega) (by omega) (by omega) ?_
    refine g_topi (b := f (i + 1)) (by rw [Int.toNat_natCast]) ?_
    refine g_aload_n q_L_law_1490 rfl ?_
    refine g_iload q_L_law_1491 rfl ?_
    refine g_iconst q_L_law_1493 ?_
    refine g_iadd q_L_law_1494 ?_
    refine g_topi (b := ((i + 2 : Nat) : Int)) (by omega) ?_
    refine g_iaload_ro q_L_law_1495 hro (by omega) (by omega) (by omega) ?_
    refine g_topi (b := f (i + 2)) (by rw [Int.toNat_natCast]) ?_
    refine g_aload_n q_L_law_1496 rfl ?_
    refine g_iload q_L_law_1497 rfl ?_
    refine g_iconst q_L_law_1499 ?_
    refine g_iadd q_L_law_1500 ?_
    refine g_topi (b := ((i + 3 : Nat) : Int)) (by omega) ?_
    refine g_iaload_ro q_L_law_1501 hro (by omega) (by omega) (by omega) ?_
    refine g_topi (b := f (i + 3)) (by rw [Int.toNat_natCast]) ?_
    refine g_aload_n q_L_law_1502 rfl ?_
    refine g_iload q_L_law_1503 rfl ?_
    refine g_iconst q_L_law_1505 ?_
    refine g_iadd q_L_law_1506 ?_
    refine g_topi (b := ((i + 4 : Nat) : Int)) (by omega) ?_
    refine g_iaload_ro q_L_law_1507 hro (by omega) (by omega) (by omega) ?_
    refine g_topi (b := f (i + 4)) (by rw [Int.toNat_natCast]) ?_
    refine g_if_eq (tgt := 1515) q_L_law_1508 (by decide) (hfr _) (fun b9 => ?_) (fun b9 => ?_)
    case refine_1 => exact absurd b9 hb4
    refine g_iconst q_L_law_1511 ?_
    refine g_goto (tgt := 1516) q_L_law_1512 (by decide) ?_
    refine g_topi (b := bi true) rfl ?_
    refine g_callV (rc' := _) (rs' := _) (As := [_, _, _, _]) cs_L_217 q_L_law_1516 (sp_mused hΓ hM1 (f (i + 1)) (f (i + 2)) (f (i + 3)) true (hfr _) (hfr _) (hfr _)) rfl (by repeat first | with_reducible assumption | with_reducible exact hput_s _ _ _ | refine (hput_n _ _ (by omega)).trans ?_ | exact hput_s _ _ _ | assumption) rfl rfl rfl rfl (Nat.le_of_ble_eq_true rfl) (by decide) (Nat.le_refl _) (Nat.le_refl _) (fun _ _ h => h.elim) (fun v2 σ2 hq2 => ?_)
    obtain ⟨rfl, hM2, hE2⟩ := hq2
    obtain ⟨hLI, ho2⟩ := lw_B (s2 := (len, tx, fa, z, l, wl, wr)) ((Classical.em _).elim hC0 hC1) ho1 hM2 hE2
    obtain ⟨I9, A9, N9, i90, hMC9, -⟩ := hM2
    have m90 := hMC9.1
    refine g_istore (L' := [_, _, _, _, _, _, _]) q_L_law_1519 (by decide) rfl ?_
    refine g_aload_n q_L_law_1521 rfl ?_
    refine g_callV (rc' := _) (rs' := _) (As := []) cs_L_153 q_L_law_1522 (sp_thrown hΓ m90) rfl (by repeat first | with_reducible assumption | with_reducible exact hput_s _ _ _ | refine (hput_n _ _ (by omega)).trans ?_ | exact hput_s _ _ _ | assumption) rfl rfl rfl rfl (Nat.le_of_ble_eq_true rfl) (by decide) (Nat.le_refl _) (Nat.le_refl _) (fun _ _ h => h.elim) (k_ri ?_)
    rw [i90]
    refine g_iload q_L_law_1525 rfl ?_
    refine g_icmp_eqS (tgt := 1532) q_L_law_1527 (by decide) ?_
    refine g_iload q_L_law_1532 rfl ?_
    refine g_if_ne (tgt := 1549) q_L_law_1534 (by decide) ⟨by omega, by omega⟩ (fun b8 => ?_) (fun b8 => ?_)
    · -- it threw
      refine g_goto (tgt := 3063) q_L_law_1549 (by decide) ?_
      exact g_fl (kk _ _ _ hLI) ⟨rfl, rfl, rfl, rfl, rfl, trivial⟩
    refine g_aload_n q_L_law_1537 rfl ?_
    refine g_iconst q_L_law_1538 ?_
    refine g_laload q_L_law_1539 (by repeat first | with_reducible assumption | with_reducible exact hput_s _ _ _ | refine (hput_n _ _ (by omega)).trans ?_ | exact hput_s _ _ _ | assumption) (by omega) (by omega) ?_
    rw [show g1 (0 : Int).toNat = g1 0 from rfl, hg1 (by omega), if_pos (by omega)]
    refine g_iload q_L_law_1540 rfl ?_
    refine g_top (v' := .int (ii (cn _))) (congrArg Value.int (ii_cn _).symm) ?_
    refine g_i2l q_L_law_1542 (cn_rg _) ?_
    refine g_lcmp q_L_law_1543 ?_
    refine g_topi (b := 0) (lcm_self _) ?_
    refine g_if_eq (tgt := 1549) q_L_law_1544 (by decide) ⟨by omega, by omega⟩ (fun b7 => ?_) (fun b7 => ?_)
    case refine_2 => exact absurd rfl b7
    refine g_goto (tgt := 3063) q_L_law_1549 (by decide) ?_
    exact g_fl (kk _ _ _ hLI) ⟨rfl, rfl, rfl, rfl, rfl, trivial⟩
theorem la_21 (hΓ : Gd Γ) (hro : RO Γ b Ln f) (hfr : ∀ j, rg (f j)) (hi : i + 6 ≤ Ln) (hLn : Ln ≤ 3072) (hN : N < 600) (hI : LI σ x N R s) (kk : ∀ σ' R' s', LI σ' x (N + 1) R' s' → G Γ miL_law code Q noX (C + dC R' RM) (E + dS R' RM) 3063 [some (.ref b), some (.ref x), some (.ref (x + 54)), some (.ref (x + 88)), some (.int (ii (i : Int))), none, none] [] σ') : G Γ miL_law code Q noX (C + 8 + dC R RM) (E + 48 + dS R RM) 1552 [some (.ref b), some (.ref x), some (.ref (x + 54)), some (.ref (x + 88)), some (.int (ii (i : Int))), none, none] [] σ := by
  obtain ⟨len, tx, fa, z, l, wl, wr⟩ := s
  obtain ⟨hX, ⟨e0, hM⟩, g, ho⟩ := hI
  have hX : CX σ x (x + 89) N R len tx fa z l wl wr := hX
  have hM : MX σ (x + 54) e0 len tx fa z l wl wr := hM
  obtain ⟨av, ve, hx, -, -⟩ := hX.ob
  obtain ⟨hl1, hl2, h302⟩ := hX.low
  refine g_aload_n q_L_law_1552 rfl ?_
  refine g_aload_n q_L_law_1553 rfl ?_
  refine g_iload q_L_law_1554 rfl ?_
  refine g_iconst q_L_law_1556 ?_
  refine g_iadd q_L_law_1557 ?_
  refine g_topi (b := ((i + 1 : Nat) : Int)) (by omega) ?_
  refine g_iaload_ro q_L_law_1558 hro (by omega) (by omega) (by omega) ?_
  refine g_topi (b := f (i + 1)) (by rw [Int.toNat_natCast]) ?_
  refine g_aload_n q_L_law_1559 rfl ?_
  refine g_callSW (rc' := (C + dC _ RM)) (rs' := (E + dS _ RM)) (As := [_, _, _]) cs_L_218 q_L_law_1560 (sp_L_busiest hΓ hx (Sp_w (sp_busiest hΓ (by omega) hX (f (i + 1)) (hfr _) (Nat.le_refl _) (Nat.le_refl _))) (fun v σ' h => (h.2.2.2.2 (x + 88) (by omega) (by unfold fX inb; omega)).trans ho)) rfl rfl rfl (Nat.le_of_ble_eq_true rfl) (by decide) (rmC (rG_le _ _ _ _) (rG_302 h302 _ _ _)) (rmS (rG_le _ _ _ _) (rG_302 h302 _ _ _)) (fun v σ1 hq => ?_)
  obtain ⟨he4, rfl, hM1, ⟨g1, ho1, hg1⟩, hC0, hC1⟩ := lw_A (s := (len, tx, fa, z, l, wl, wr)) (s0 := (len, tx, fa, z, l, wl, wr)) (s1 := (len, tx, fa, z, l, wl, wr)) hX hM ho (fun σ' h => h) (fun σ' h => h) hq
  have hM1 : MX σ1 (x + 54) e0 len tx fa z l wl wr := hM1
  have hm1 := hM1
  obtain ⟨I8, A8, N8, -, hMC8, -⟩ := hm1
  have m80 := hMC8.1
  refine g_istore (L' := [_, _, _, _, _, _, _]) q_L_law_1563 (by decide) rfl ?_
  refine g_aload_n q_L_law_1565 rfl ?_
  refine g_aload_n q_L_law_1566 rfl ?_
  refine g_iload q_L_law_1567 rfl ?_
  refine g_iconst q_L_law_1569 ?_
  refine g_iadd q_L_law_1570 ?_
  refine g_topi (b := ((i + 1 : Nat) : Int)) (by omega) ?_
  refine g_iaload_ro q_L_law_1571 hro (by omega) (by omega) (by omega) ?_
  refine g_topi (b := f (i + 1)) (by rw [Int.toNat_natCast]) ?_
  refine g_callV (rc' := _) (rs' := _) (As := [_]) cs_L_220 q_L_law_1572 (sp_mbusiest hΓ hM1 (f (i + 1)) (hfr _)) rfl (by repeat first | with_reducible assumption | with_reducible exact hput_s _ _ _ | refine (hput_n _ _ (by omega)).trans ?_ | exact hput_s _ _ _ | assumption) rfl rfl rfl rfl (Nat.le_of_ble_eq_true rfl) (by decide) (Nat.le_refl _) (Nat.le_refl _) (fun _ _ h => h.elim) (fun v2 σ2 hq2 => ?_)
  obtain ⟨rfl, hM2, hE2⟩ := hq2
  obtain ⟨hLI, ho2⟩ := lw_B (s2 := (len, tx, fa, z, l, wl, wr)) ((Classical.em _).elim hC0 hC1) ho1 hM2 hE2
  obtain ⟨I9, A9, N9, i90, hMC9, -⟩ := hM2
  have m90 := hMC9.1
  refine g_istore (L' := [_, _, _, _, _, _, _]) q_L_law_1575 (by decide) rfl ?_
  refine g_aload_n q_L_law_1577 rfl ?_
  refine g_callV (rc' := _) (rs' := _) (As := []) cs_L_153 q_L_law_1578 (sp_thrown hΓ m90) rfl (by repeat first | with_reducible assumption | with_reducible exact hput_s _ _ _ | refine (hput_n _ _ (by omega)).trans ?_ | exact hput_s _ _ _ | assumption) rfl rfl rfl rfl (Nat.le_of_ble_eq_true rfl) (by decide) (Nat.le_refl _) (Nat.le_refl _) (fun _ _ h => h.elim) (k_ri ?_)
  rw [i90]
  refine g_iload q_L_law_1581 rfl ?_
  refine g_icmp_eqS (tgt := 1588) q_L_law_1583 (by decide) ?_
  refine g_iload q_L_law_1588 rfl ?_
  refine g_if_ne (tgt := 1605) q_L_law_1590 (by decide) ⟨by omega, by omega⟩ (fun b8 => ?_) (fun b8 => ?_)
  · -- it threw
    refine g_goto (tgt := 3063) q_L_law_1605 (by decide) ?_
    exact g_fl (kk _ _ _ hLI) ⟨rfl, rfl, rfl, rfl, rfl, trivial⟩
  refine g_aload_n q_L_law_1593 rfl ?_
  refine g_iconst q_L_law_1594 ?_
  refine g_laload q_L_law_1595 (by repeat first | with_reducible assumption | with_reducible exact hput_s _ _ _ | refine (hput_n _ _ (by omega)).trans ?_ | exact hput_s _ _ _ | assumption) (by omega) (by omega) ?_
  rw [show g1 (0 : Int).toNat = g1 0 from rfl, hg1 (by omega), if_pos (by omega)]
  refine g_iload q_L_law_1596 rfl ?_
  refine g_top (v' := .int (ii (cn _))) (congrArg Value.int (ii_cn _).symm) ?_
  refine g_i2l q_L_law_1598 (cn_rg _) ?_
  refine g_lcmp q_L_law_1599 ?_
  refine g_topi (b := 0) (lcm_self _) ?_
  refine g_if_eq (tgt := 1605) q_L_law_1600 (by decide) ⟨by omega, by omega⟩ (fun b7 => ?_) (fun b7 => ?_)
  case refine_2 => exact absurd rfl b7
  refine g_goto (tgt := 3063) q_L_law_1605 (by decide) ?_
  exact g_fl (kk _ _ _ hLI) ⟨rfl, rfl, rfl, rfl, rfl, trivial⟩
theorem la_22 (hΓ : Gd Γ) (hro : RO Γ b Ln f) (hfr : ∀ j, rg (f j)) (hi : i + 6 ≤ Ln) (hLn : Ln ≤ 3072) (hN : N < 600) (hI : LI σ x N R s) (kk : ∀ σ' R' s', LI σ' x (N + 1) R' s' → G Γ miL_law code Q noX (C + dC R' RM) (E + dS R' RM) 3063 [some (.ref b), some (.ref x), some (.ref (x + 54)), some (.ref (x + 88)), some (.int (ii (i : Int))), none, none] [] σ') : G Γ miL_law code Q noX (C + 8 + dC R RM) (E + 48 + dS R RM) 1608 [some (.ref b), some (.ref x), some (.ref (x + 54)), some (.ref (x + 88)), some (.int (ii (i : Int))), none, none] [] σ := by
  obtain ⟨len, tx, fa, z, l, wl, wr⟩ := s
  obtain ⟨hX, ⟨e0, hM⟩, g, ho⟩ := hI
  have hX : CX σ x (x + 89) N R len tx fa z l wl wr := hX
  have hM : MX σ (x + 54) e0 len tx fa z l wl wr := hM
  obtain ⟨av, ve, hx, -, -⟩ := hX.ob
  obtain ⟨hl1, hl2, h302⟩ := hX.low
  refine g_aload_n q_L_law_1608 rfl ?_
  refine g_aload_n q_L_law_1609 rfl ?_
  refine g_iload q_L_law_1610 rfl ?_
  refine g_iconst q_L_law_1612 ?_
  refine g_iadd q_L_law_1613 ?_
  refine g_topi (b := ((i + 1 : Nat) : Int)) (by omega) ?_
  refine g_iaload_ro q_L_law_1614 hro (by omega) (by omega) (by omega) ?_
  refine g_topi (b := f (i + 1)) (by rw [Int.toNat_natCast]) ?_
  refine g_aload_n q_L_law_1615 rfl ?_
  refine g_callSW (rc' := (C + dC _ RM)) (rs' := (E + dS _ RM)) (As := [_, _, _]) cs_L_221 q_L_law_1616 (sp_L_waits hΓ hx (Sp_w (sp_waits hΓ (by omega) hX (f (i + 1)) (hfr _) (Nat.le_refl _) (Nat.le_refl _))) (fun v σ' h => (h.2.2.2.2 (x + 88) (by omega) (by unfold fX inb; omega)).trans ho)) rfl rfl rfl (Nat.le_of_ble_eq_true rfl) (by decide) (rmC (rG_le _ _ _ _) (rG_302 h302 _ _ _)) (rmS (rG_le _ _ _ _) (rG_302 h302 _ _ _)) (fun v σ1 hq => ?_)
  obtain ⟨he4, rfl, hM1, ⟨g1, ho1, hg1⟩, hC0, hC1⟩ := lw_A (s := (len, tx, fa, z, l, wl, wr)) (s0 := (len, tx, fa, z, l, wl, wr)) (s1 := (len, tx, fa, z, l, wl, wr)) hX hM ho (fun σ' h => h) (fun σ' h => h) hq
  have hM1 : MX σ1 (x + 54) e0 len tx fa z l wl wr := hM1
  have hm1 := hM1
  obtain ⟨I8, A8, N8, -, hMC8, -⟩ := hm1
  have m80 := hMC8.1
  refine g_istore (L' := [_, _, _, _, _, _, _]) q_L_law_1619 (by decide) rfl ?_
  refine g_aload_n q_L_law_1621 rfl ?_
  refine g_aload_n q_L_law_1622 rfl ?_
  refine g_iload q_L_law_1623 rfl ?_
  refine g_iconst q_L_law_1625 ?_
  refine g_iadd q_L_law_1626 ?_
  refine g_topi (b := ((i + 1 : Nat) : Int)) (by omega) ?_
  refine g_iaload_ro q_L_law_1627 hro (by omega) (by omega) (by omega) ?_
  refine g_topi (b := f (i + 1)) (by rw [Int.toNat_natCast]) ?_
  refine g_callV (rc' := _) (rs' := _) (As := [_]) cs_L_223 q_L_law_1628 (sp_mwaits hΓ hM1 (f (i + 1)) (hfr _)) rfl (by repeat first | with_reducible assumption | with_reducible exact hput_s _ _ _ | refine (hput_n _ _ (by omega)).trans ?_ | exact hput_s _ _ _ | assumption) rfl rfl rfl rfl (Nat.le_of_ble_eq_true rfl) (by decide) (Nat.le_refl _) (Nat.le_refl _) (fun _ _ h => h.elim) (fun v2 σ2 hq2 => ?_)
  obtain ⟨rfl, hM2, hE2⟩ := hq2
  obtain ⟨hLI, ho2⟩ := lw_B (s2 := (len, tx, fa, z, l, wl, wr)) ((Classical.em _).elim hC0 hC1) ho1 hM2 hE2
  obtain ⟨I9, A9, N9, i90, hMC9, -⟩ := hM2
  have m90 := hMC9.1
  refine g_istore (L' := [_, _, _, _, _, _, _]) q_L_law_1631 (by decide) rfl ?_
  refine g_aload_n q_L_law_1633 rfl ?_
  refine g_callV (rc' := _) (rs' := _) (As := []) cs_L_153 q_L_law_1634 (sp_thrown hΓ m90) rfl (by repeat first | with_reducible assumption | with_reducible exact hput_s _ _ _ | refine (hput_n _ _ (by omega)).trans ?_ | exact hput_s _ _ _ | assumption) rfl rfl rfl rfl (Nat.le_of_ble_eq_true rfl) (by decide) (Nat.le_refl _) (Nat.le_refl _) (fun _ _ h => h.elim) (k_ri ?_)
  rw [i90]
  refine g_iload q_L_law_1637 rfl ?_
  refine g_icmp_eqS (tgt := 1644) q_L_law_1639 (by decide) ?_
  refine g_iload q_L_law_1644 rfl ?_
  refine g_if_ne (tgt := 1661) q_L_law_1646 (by decide) ⟨by omega, by omega⟩ (fun b8 => ?_) (fun b8 => ?_)
  · -- it threw
    refine g_goto (tgt := 3063) q_L_law_1661 (by decide) ?_
    exact g_fl (kk _ _ _ hLI) ⟨rfl, rfl, rfl, rfl, rfl, trivial⟩
  refine g_aload_n q_L_law_1649 rfl ?_
  refine g_iconst q_L_law_1650 ?_
  refine g_laload q_L_law_1651 (by repeat first | with_reducible assumption | with_reducible exact hput_s _ _ _ | refine (hput_n _ _ (by omega)).trans ?_ | exact hput_s _ _ _ | assumption) (by omega) (by omega) ?_
  rw [show g1 (0 : Int).toNat = g1 0 from rfl, hg1 (by omega), if_pos (by omega)]
  refine g_iload q_L_law_1652 rfl ?_
  refine g_top (v' := .int (ii (cn _))) (congrArg Value.int (ii_cn _).symm) ?_
  refine g_i2l q_L_law_1654 (cn_rg _) ?_
  refine g_lcmp q_L_law_1655 ?_
  refine g_topi (b := 0) (lcm_self _) ?_
  refine g_if_eq (tgt := 1661) q_L_law_1656 (by decide) ⟨by omega, by omega⟩ (fun b7 => ?_) (fun b7 => ?_)
  case refine_2 => exact absurd rfl b7
  refine g_goto (tgt := 3063) q_L_law_1661 (by decide) ?_
  exact g_fl (kk _ _ _ hLI) ⟨rfl, rfl, rfl, rfl, rfl, trivial⟩
theorem la_23 (hΓ : Gd Γ) (hro : RO Γ b Ln f) (hfr : ∀ j, rg (f j)) (hi : i + 6 ≤ Ln) (hLn : Ln ≤ 3072) (hN : N < 600) (hI : LI σ x N R s) (kk : ∀ σ' R' s', LI σ' x (N + 1) R' s' → G Γ miL_law code Q noX (C + dC R' RM) (E + dS R' RM) 3063 [some (.ref b), some (.ref x), some (.ref (x + 54)), some (.ref (x + 88)), some (.int (ii (i : Int))), none, none] [] σ') : G Γ miL_law code Q noX (C + 8 + dC R RM) (E + 48 + dS R RM) 1664 [some (.ref b), some (.ref x), some (.ref (x + 54)), some (.ref (x + 88)), some (.int (ii (i : Int))), none, none] [] σ := by
  obtain ⟨len, tx, fa, z, l, wl, wr⟩ := s
  obtain ⟨hX, ⟨e0, hM⟩, g, ho⟩ := hI
  have hX : CX σ x (x + 89) N R len tx fa z l wl wr := hX
  have hM : MX σ (x + 54) e0 len tx fa z l wl wr := hM
  obtain ⟨av, ve, hx, -, -⟩ := hX.ob
  obtain ⟨hl1, hl2, h302⟩ := hX.low
  refine g_aload_n q_L_law_1664 rfl ?_
  refine g_aload_n q_L_law_1665 rfl ?_
  refine g_iload q_L_law_1666 rfl ?_
  refine g_iconst q_L_law_1668 ?_
  refine g_iadd q_L_law_1669 ?_
  refine g_topi (b := ((i + 1 : Nat) : Int)) (by omega) ?_
  refine g_iaload_ro q_L_law_1670 hro (by omega) (by omega) (by omega) ?_
  refine g_topi (b := f (i + 1)) (by rw [Int.toNat_natCast]) ?_
  refine g_aload_n q_L_law_1671 rfl ?_
  refine g_iload q_L_law_1672 rfl ?_
  refine g_iconst q_L_law_1674 ?_
  refine g_iadd q_L_law_1675 ?_
  refine g_topi (b := ((i + 2 : Nat) : Int)) (by omega) ?_
  refine g_iaload_ro q_L_law_1676 hro (by omega) (by omega) (by omega) ?_
  refine g_topi (b := f (i + 2)) (by rw [Int.toNat_natCast]) ?_
  refine g_aload_n q_L_law_1677 rfl ?_
  refine g_iload q_L_law_1678 rfl ?_
  refine g_iconst q_L_law_1680 ?_
  refine g_iadd q_L_law_1681 ?_
  refine g_topi (b := ((i + 3 : Nat) : Int)) (by omega) ?_
  refine g_iaload_ro q_L_law_1682 hro (by omega) (by omega) (by omega) ?_
  refine g_topi (b := f (i + 3)) (by rw [Int.toNat_natCast]) ?_
  refine g_aload_n q_L_law_1683 rfl ?_
  refine g_iload q_L_law_1684 rfl ?_
  refine g_iconst q_L_law_1686 ?_
  refine g_iadd q_L_law_1687 ?_
  refine g_topi (b := ((i + 4 : Nat) : Int)) (by omega) ?_
  refine g_iaload_ro q_L_law_1688 hro (by omega) (by omega) (by omega) ?_
  refine g_topi (b := f (i + 4)) (by rw [Int.toNat_natCast]) ?_
  refine g_aload_n q_L_law_1689 rfl ?_
  refine g_iload q_L_law_1690 rfl ?_
  refine g_iconst q_L_law_1692 ?_
  refine g_iadd q_L_law_1693 ?_
  refine g_topi (b := ((i + 5 : Nat) : Int)) (by omega) ?_
  refine g_iaload_ro q_L_law_1694 hro (by omega) (by omega) (by omega) ?_
  refine g_topi (b := f (i + 5)) (by rw [Int.toNat_natCast]) ?_
  refine g_aload_n q_L_law_1695 rfl ?_
  refine g_callSW (rc' := (C + dC _ RM)) (rs' := (E + dS _ RM)) (As := [_, _, _, _, _, _, _]) cs_L_224 q_L_law_1696 (sp_L_late hΓ hx (Sp_w (sp_late hΓ (by omega) hX (f (i + 1)) (f (i + 2)) (f (i + 3)) (f (i + 4)) (f (i + 5)) (hfr _) (hfr _) (hfr _) (hfr _) (hfr _) (Nat.le_refl _) (Nat.le_refl _))) (fun v σ' h => (h.2.2.2.2 (x + 88) (by omega) (by unfold fX inb; omega)).trans ho)) rfl rfl rfl (Nat.le_of_ble_eq_true rfl) (by decide) (rmC (rG_le _ _ _ _) (rG_302 h302 _ _ _)) (rmS (rG_le _ _ _ _) (rG_302 h302 _ _ _)) (fun v σ1 hq => ?_)
  obtain ⟨he4, rfl, hM1, ⟨g1, ho1, hg1⟩, hC0, hC1⟩ := lw_A (s := (len, tx, fa, z, l, wl, wr)) (s0 := (len, tx, fa, z, l, wl, wr)) (s1 := (len, tx, fa, z, l, wl, wr)) hX hM ho (fun σ' h => h) (fun σ' h => h) hq
  have hM1 : MX σ1 (x + 54) e0 len tx fa z l wl wr := hM1
  have hm1 := hM1
  obtain ⟨I8, A8, N8, -, hMC8, -⟩ := hm1
  have m80 := hMC8.1
  refine g_istore (L' := [_, _, _, _, _, _, _]) q_L_law_1699 (by decide) rfl ?_
  refine g_aload_n q_L_law_1701 rfl ?_
  refine g_aload_n q_L_law_1702 rfl ?_
  refine g_iload q_L_law_1703 rfl ?_
  refine g_iconst q_L_law_1705 ?_
  refine g_iadd q_L_law_1706 ?_
  refine g_topi (b := ((i + 1 : Nat) : Int)) (by omega) ?_
  refine g_iaload_ro q_L_law_1707 hro (by omega) (by omega) (by omega) ?_
  refine g_topi (b := f (i + 1)) (by rw [Int.toNat_natCast]) ?_
  refine g_aload_n q_L_law_1708 rfl ?_
  refine g_iload q_L_law_1709 rfl ?_
  refine g_iconst q_L_law_1711 ?_
  refine g_iadd q_L_law_1712 ?_
  refine g_topi (b := ((i + 2 : Nat) : Int)) (by omega) ?_
  refine g_iaload_ro q_L_law_1713 hro (by omega) (by omega) (by omega) ?_
  refine g_topi (b := f (i + 2)) (by rw [Int.toNat_natCast]) ?_
  refine g_aload_n q_L_law_1714 rfl ?_
  refine g_iload q_L_law_1715 rfl ?_
  refine g_iconst q_L_law_1717 ?_
  refine g_iadd q_L_law_1718 ?_
  refine g_topi (b := ((i + 3 : Nat) : Int)) (by omega) ?_
  refine g_iaload_ro q_L_law_1719 hro (by omega) (by omega) (by omega) ?_
  refine g_topi (b := f (i + 3)) (by rw [Int.toNat_natCast]) ?_
  refine g_aload_n q_L_law_1720 rfl ?_
  refine g_iload q_L_law_1721 rfl ?_
  refine g_iconst q_L_law_1723 ?_
  refine g_iadd q_L_law_1724 ?_
  refine g_topi (b := ((i + 4 : Nat) : Int)) (by omega) ?_
  refine g_iaload_ro q_L_law_1725 hro (by omega) (by omega) (by omega) ?_
  refine g_topi (b := f (i + 4)) (by rw [Int.toNat_natCast]) ?_
  refine g_aload_n q_L_law_1726 rfl ?_
  refine g_iload q_L_law_1727 rfl ?_
  refine g_iconst q_L_law_1729 ?_
  refine g_iadd q_L_law_1730 ?_
  refine g_topi (b := ((i + 5 : Nat) : Int)) (by omega) ?_
  refine g_iaload_ro q_L_law_1731 hro (by omega) (by omega) (by omega) ?_
  refine g_topi (b := f (i + 5)) (by rw [Int.toNat_natCast]) ?_
  refine g_callV (rc' := _) (rs' := _) (As := [_, _, _, _, _]) cs_L_227 q_L_law_1732 (sp_mlate hΓ hM1 (f (i + 1)) (f (i + 2)) (f (i + 3)) (f (i + 4)) (f (i + 5)) (hfr _) (hfr _) (hfr _) (hfr _) (hfr _)) rfl (by repeat first | with_reducible assumption | with_reducible exact hput_s _ _ _ | refine (hput_n _ _ (by omega)).trans ?_ | exact hput_s _ _ _ | assumption) rfl rfl rfl rfl (Nat.le_of_ble_eq_true rfl) (by decide) (Nat.le_refl _) (Nat.le_refl _) (fun _ _ h => h.elim) (fun v2 σ2 hq2 => ?_)
  obtain ⟨rfl, hM2, hE2⟩ := hq2
  obtain ⟨hLI, ho2⟩ := lw_B (s2 := (len, tx, fa, z, l, wl, wr)) ((Classical.em _).elim hC0 hC1) ho1 hM2 hE2
  obtain ⟨I9, A9, N9, i90, hMC9, -⟩ := hM2
  have m90 := hMC9.1
  refine g_istore (L' := [_, _, _, _, _, _, _]) q_L_law_1735 (by decide) rfl ?_
  refine g_aload_n q_L_law_1737 rfl ?_
  refine g_callV (rc' := _) (rs' := _) (As := []) cs_L_153 q_L_law_1738 (sp_thrown hΓ m90) rfl (by repeat first | with_reducible assumption | with_reducible exact hput_s _ _ _ | refine (hput_n _ _ (by omega)).trans ?_ | exact hput_s _ _ _ | assumption) rfl rfl rfl rfl (Nat.le_of_ble_eq_true rfl) (by decide) (Nat.le_refl _) (Nat.le_refl _) (fun _ _ h => h.elim) (k_ri ?_)
  rw [i90]
  refine g_iload q_L_law_1741 rfl ?_
  refine g_icmp_eqS (tgt := 1748) q_L_law_1743 (by decide) ?_
  refine g_iload q_L_law_1748 rfl ?_
  refine g_if_ne (tgt := 1765) q_L_law_1750 (by decide) ⟨by omega, by omega⟩ (fun b8 => ?_) (fun b8 => ?_)
  · -- it threw
    refine g_goto (tgt := 3063) q_L_law_1765 (by decide) ?_
    exact g_fl (kk _ _ _ hLI) ⟨rfl, rfl, rfl, rfl, rfl, trivial⟩
  refine g_aload_n q_L_law_1753 rfl ?_
  refine g_iconst q_L_law_1754 ?_
  refine g_laload q_L_law_1755 (by repeat first | with_reducible assumption | with_reducible exact hput_s _ _ _ | refine (hput_n _ _ (by omega)).trans ?_ | exact hput_s _ _ _ | assumption) (by omega) (by omega) ?_
  rw [show g1 (0 : Int).toNat = g1 0 from rfl, hg1 (by omega), if_pos (by omega)]
  refine g_iload q_L_law_1756 rfl ?_
  refine g_top (v' := .int (ii (cn _))) (congrArg Value.int (ii_cn _).symm) ?_
  refine g_i2l q_L_law_1758 (cn_rg _) ?_
  refine g_lcmp q_L_law_1759 ?_
  refine g_topi (b := 0) (lcm_self _) ?_
  refine g_if_eq (tgt := 1765) q_L_law_1760 (by decide) ⟨by omega, by omega⟩ (fun b7 => ?_) (fun b7 => ?_)
  case refine_2 => exact absurd rfl b7
  refine g_goto (tgt := 3063) q_L_law_1765 (by decide) ?_
  exact g_fl (kk _ _ _ hLI) ⟨rfl, rfl, rfl, rfl, rfl, trivial⟩
theorem la_24 (hΓ : Gd Γ) (hro : RO Γ b Ln f) (hfr : ∀ j, rg (f j)) (hi : i + 6 ≤ Ln) (hLn : Ln ≤ 3072) (hN : N < 600) (hI : LI σ x N R s) (kk : ∀ σ' R' s', LI σ' x (N + 1) R' s' → G Γ miL_law code Q noX (C + dC R' RM) (E + dS R' RM) 3063 [some (.ref b), some (.ref x), some (.ref (x + 54)), some (.ref (x + 88)), some (.int (ii (i : Int))), none, none] [] σ') : G Γ miL_law code Q noX (C + 8 + dC R RM) (E + 48 + dS R RM) 1768 [some (.ref b), some (.ref x), some (.ref (x + 54)), some (.ref (x + 88)), some (.int (ii (i : Int))), none, none] [] σ := by
  obtain ⟨len, tx, fa, z, l, wl, wr⟩ := s
  obtain ⟨hX, ⟨e0, hM⟩, g, ho⟩ := hI
  have hX : CX σ x (x + 89) N R len tx fa z l wl wr := hX
  have hM : MX σ (x + 54) e0 len tx fa z l wl wr := hM
  obtain ⟨av, ve, hx, -, -⟩ := hX.ob
  obtain ⟨hl1, hl2, h302⟩ := hX.low
  refine g_aload_n q_L_law_1768 rfl ?_
  refine g_aload_n q_L_law_1769 rfl ?_
  refine g_iload q_L_law_1770 rfl ?_
  refine g_iconst q_L_law_1772 ?_
  refine g_iadd q_L_law_1773 ?_
  refine g_topi (b := ((i + 1 : Nat) : Int)) (by omega) ?_
  refine g_iaload_ro q_L_law_1774 hro (by omega) (by omega) (by omega) ?_
  refine g_topi (b := f (i + 1)) (by rw [Int.toNat_natCast]) ?_
  refine g_aload_n q_L_law_1775 rfl ?_
  refine g_callSW (rc' := (C + dC _ RM)) (rs' := (E + dS _ RM)) (As := [_, _, _]) cs_L_228 q_L_law_1776 (sp_L_worse hΓ hx (Sp_w (sp_worse hΓ (by omega) hX (f (i + 1)) (hfr _) (Nat.le_refl _) (Nat.le_refl _))) (fun v σ' h => (h.2.2.2.2 (x + 88) (by omega) (by unfold fX inb; omega)).trans ho)) rfl rfl rfl (Nat.le_of_ble_eq_true rfl) (by decide) (rmC (rG_le _ _ _ _) (rG_302 h302 _ _ _)) (rmS (rG_le _ _ _ _) (rG_302 h302 _ _ _)) (fun v σ1 hq => ?_)
  obtain ⟨he4, rfl, hM1, ⟨g1, ho1, hg1⟩, hC0, hC1⟩ := lw_A (s := (len, tx, fa, z, l, wl, wr)) (s0 := (len, tx, fa, z, l, wl, wr)) (s1 := (len, tx, fa, z, l, wl, wr)) hX hM ho (fun σ' h => h) (fun σ' h => h) hq
  have hM1 : MX σ1 (x + 54) e0 len tx fa z l wl wr := hM1
  have hm1 := hM1
  obtain ⟨I8, A8, N8, -, hMC8, -⟩ := hm1
  have m80 := hMC8.1
  refine g_istore (L' := [_, _, _, _, _, _, _]) q_L_law_1779 (by decide) rfl ?_
  refine g_aload_n q_L_law_1781 rfl ?_
  refine g_aload_n q_L_law_1782 rfl ?_
  refine g_iload q_L_law_1783 rfl ?_
  refine g_iconst q_L_law_1785 ?_
  refine g_iadd q_L_law_1786 ?_
  refine g_topi (b := ((i + 1 : Nat) : Int)) (by omega) ?_
  refine g_iaload_ro q_L_law_1787 hro (by omega) (by omega) (by omega) ?_
  refine g_topi (b := f (i + 1)) (by rw [Int.toNat_natCast]) ?_
  refine g_callV (rc' := _) (rs' := _) (As := [_]) cs_L_230 q_L_law_1788 (sp_mworse hΓ hM1 (f (i + 1)) (hfr _)) rfl (by repeat first | with_reducible assumption | with_reducible exact hput_s _ _ _ | refine (hput_n _ _ (by omega)).trans ?_ | exact hput_s _ _ _ | assumption) rfl rfl rfl rfl (Nat.le_of_ble_eq_true rfl) (by decide) (Nat.le_refl _) (Nat.le_refl _) (fun _ _ h => h.elim) (fun v2 σ2 hq2 => ?_)
  obtain ⟨rfl, hM2, hE2⟩ := hq2
  obtain ⟨hLI, ho2⟩ := lw_B (s2 := (len, tx, fa, z, l, wl, wr)) ((Classical.em _).elim hC0 hC1) ho1 hM2 hE2
  obtain ⟨I9, A9, N9, i90, hMC9, -⟩ := hM2
  have m90 := hMC9.1
  refine g_istore (L' := [_, _, _, _, _, _, _]) q_L_law_1791 (by decide) rfl ?_
  refine g_aload_n q_L_law_1793 rfl ?_
  refine g_callV (rc' := _) (rs' := _) (As := []) cs_L_153 q_L_law_1794 (sp_thrown hΓ m90) rfl (by repeat first | with_reducible assumption | with_reducible exact hput_s _ _ _ | refine (hput_n _ _ (by omega)).trans ?_ | exact hput_s _ _ _ | assumption) rfl rfl rfl rfl (Nat.le_of_ble_eq_true rfl) (by decide) (Nat.le_refl _) (Nat.le_refl _) (fun _ _ h => h.elim) (k_ri ?_)
  rw [i90]
  refine g_iload q_L_law_1797 rfl ?_
  refine g_icmp_eqS (tgt := 1804) q_L_law_1799 (by decide) ?_
  refine g_iload q_L_law_1804 rfl ?_
  refine g_if_ne (tgt := 1821) q_L_law_1806 (by decide) ⟨by omega, by omega⟩ (fun b8 => ?_) (fun b8 => ?_)
  · -- it threw
    refine g_goto (tgt := 3063) q_L_law_1821 (by decide) ?_
    exact g_fl (kk _ _ _ hLI) ⟨rfl, rfl, rfl, rfl, rfl, trivial⟩
  refine g_aload_n q_L_law_1809 rfl ?_
  refine g_iconst q_L_law_1810 ?_
  refine g_laload q_L_law_1811 (by repeat first | with_reducible assumption | with_reducible exact hput_s _ _ _ | refine (hput_n _ _ (by omega)).trans ?_ | exact hput_s _ _ _ | assumption) (by omega) (by omega) ?_
  rw [show g1 (0 : Int).toNat = g1 0 from rfl, hg1 (by omega), if_pos (by omega)]
  refine g_iload q_L_law_1812 rfl ?_
  refine g_top (v' := .int (ii (cn _))) (congrArg Value.int (ii_cn _).symm) ?_
  refine g_i2l q_L_law_1814 (cn_rg _) ?_
  refine g_lcmp q_L_law_1815 ?_
  refine g_topi (b := 0) (lcm_self _) ?_
  refine g_if_eq (tgt := 1821) q_L_law_1816 (by decide) ⟨by omega, by omega⟩ (fun b7 => ?_) (fun b7 => ?_)
  case refine_2 => exact absurd rfl b7
  refine g_goto (tgt := 3063) q_L_law_1821 (by decide) ?_
  exact g_fl (kk _ _ _ hLI) ⟨rfl, rfl, rfl, rfl, rfl, trivial⟩
theorem la_25 (hΓ : Gd Γ) (hro : RO Γ b Ln f) (hfr : ∀ j, rg (f j)) (hi : i + 6 ≤ Ln) (hLn : Ln ≤ 3072) (hN : N < 600) (hI : LI σ x N R s) (kk : ∀ σ' R' s', LI σ' x (N + 1) R' s' → G Γ miL_law code Q noX (C + dC R' RM) (E + dS R' RM) 3063 [some (.ref b), some (.ref x), some (.ref (x + 54)), some (.ref (x + 88)), some (.int (ii (i : Int))), none, none] [] σ') : G Γ miL_law code Q noX (C + 8 + dC R RM) (E + 48 + dS R RM) 1824 [some (.ref b), some (.ref x), some (.ref (x + 54)), some (.ref (x + 88)), some (.int (ii (i : Int))), none, none] [] σ := by
  obtain ⟨len, tx, fa, z, l, wl, wr⟩ := s
  obtain ⟨hX, ⟨e0, hM⟩, g, ho⟩ := hI
  have hX : CX σ x (x + 89) N R len tx fa z l wl wr := hX
  have hM : MX σ (x + 54) e0 len tx fa z l wl wr := hM
  obtain ⟨av, ve, hx, -, -⟩ := hX.ob
  obtain ⟨hl1, hl2, h302⟩ := hX.low
  refine g_aload_n q_L_law_1824 rfl ?_
  refine g_aload_n q_L_law_1825 rfl ?_
  refine g_iload q_L_law_1826 rfl ?_
  refine g_iconst q_L_law_1828 ?_
  refine g_iadd q_L_law_1829 ?_
  refine g_topi (b := ((i + 1 : Nat) : Int)) (by omega) ?_
  refine g_iaload_ro q_L_law_1830 hro (by omega) (by omega) (by omega) ?_
  refine g_topi (b := f (i + 1)) (by rw [Int.toNat_natCast]) ?_
  refine g_aload_n q_L_law_1831 rfl ?_
  refine g_iload q_L_law_1832 rfl ?_
  refine g_iconst q_L_law_1834 ?_
  refine g_iadd q_L_law_1835 ?_
  refine g_topi (b := ((i + 2 : Nat) : Int)) (by omega) ?_
  refine g_iaload_ro q_L_law_1836 hro (by omega) (by omega) (by omega) ?_
  refine g_topi (b := f (i + 2)) (by rw [Int.toNat_natCast]) ?_
  refine g_aload_n q_L_law_1837 rfl ?_
  refine g_iload q_L_law_1838 rfl ?_
  refine g_iconst q_L_law_1840 ?_
  refine g_iadd q_L_law_1841 ?_
  refine g_topi (b := ((i + 3 : Nat) : Int)) (by omega) ?_
  refine g_iaload_ro q_L_law_1842 hro (by omega) (by omega) (by omega) ?_
  refine g_topi (b := f (i + 3)) (by rw [Int.toNat_natCast]) ?_
  refine g_aload_n q_L_law_1843 rfl ?_
  refine g_iload q_L_law_1844 rfl ?_
  refine g_iconst q_L_law_1846 ?_
  refine g_iadd q_L_law_1847 ?_
  refine g_topi (b := ((i + 4 : Nat) : Int)) (by omega) ?_
  refine g_iaload_ro q_L_law_1848 hro (by omega) (by omega) (by omega) ?_
  refine g_topi (b := f (i + 4)) (by rw [Int.toNat_natCast]) ?_
  refine g_aload_n q_L_law_1849 rfl ?_
  refine g_callSW (rc' := (C + dC _ RM)) (rs' := (E + dS _ RM)) (As := [_, _, _, _, _, _]) cs_L_231 q_L_law_1850 (sp_L_who hΓ hx (Sp_w (sp_who hΓ (by omega) hX (f (i + 1)) (f (i + 2)) (f (i + 3)) (f (i + 4)) (hfr _) (hfr _) (hfr _) (hfr _) (Nat.le_refl _) (Nat.le_refl _))) (fun v σ' h => (h.2.2.2.2 (x + 88) (by omega) (by unfold fX inb; omega)).trans ho)) rfl rfl rfl (Nat.le_of_ble_eq_true rfl) (by decide) (rmC (rG_le _ _ _ _) (rG_302 h302 _ _ _)) (rmS (rG_le _ _ _ _) (rG_302 h302 _ _ _)) (fun v σ1 hq => ?_)
  obtain ⟨he4, rfl, hM1, ⟨g1, ho1, hg1⟩, hC0, hC1⟩ := lw_A (s := (len, tx, fa, z, l, wl, wr)) (s0 := (len, tx, fa, z, l, wl, wr)) (s1 := (len, tx, fa, z, l, wl, wr)) hX hM ho (fun σ' h => h) (fun σ' h => h) hq
  have hM1 : MX σ1 (x + 54) e0 len tx fa z l wl wr := hM1
  have hm1 := hM1
  obtain ⟨I8, A8, N8, -, hMC8, -⟩ := hm1
  have m80 := hMC8.1
  refine g_istore (L' := [_, _, _, _, _, _, _]) q_L_law_1853 (by decide) rfl ?_
  refine g_aload_n q_L_law_1855 rfl ?_
  refine g_aload_n q_L_law_1856 rfl ?_
  refine g_iload q_L_law_1857 rfl ?_
  refine g_iconst q_L_law_1859 ?_
  refine g_iadd q_L_law_1860 ?_
  refine g_topi (b := ((i + 1 : Nat) : Int)) (by omega) ?_
  refine g_iaload_ro q_L_law_1861 hro (by omega) (by omega) (by omega) ?_
  refine g_topi (b := f (i + 1)) (by rw [Int.toNat_natCast]) ?_
  refine g_aload_n q_L_law_1862 rfl ?_
  refine g_iload q_L_law_1863 rfl ?_
  refine g_iconst q_L_law_1865 ?_
  refine g_iadd q_L_law_1866 ?_
  refine g_topi (b := ((i + 2 : Nat) : Int)) (by omega) ?_
  refine g_iaload_ro q_L_law_1867 hro (by omega) (by omega) (by omega) ?_
  refine g_topi (b := f (i + 2)) (by rw [Int.toNat_natCast]) ?_
  refine g_aload_n q_L_law_1868 rfl ?_
  refine g_iload q_L_law_1869 rfl ?_
  refine g_iconst q_L_law_1871 ?_
  refine g_iadd q_L_law_1872 ?_
  refine g_topi (b := ((i + 3 : Nat) : Int)) (by omega) ?_
  refine g_iaload_ro q_L_law_1873 hro (by omega) (by omega) (by omega) ?_
  refine g_topi (b := f (i + 3)) (by rw [Int.toNat_natCast]) ?_
  refine g_aload_n q_L_law_1874 rfl ?_
  refine g_iload q_L_law_1875 rfl ?_
  refine g_iconst q_L_law_1877 ?_
  refine g_iadd q_L_law_1878 ?_
  refine g_topi (b := ((i + 4 : Nat) : Int)) (by omega) ?_
  refine g_iaload_ro q_L_law_1879 hro (by omega) (by omega) (by omega) ?_
  refine g_topi (b := f (i + 4)) (by rw [Int.toNat_natCast]) ?_
  refine g_callV (rc' := _) (rs' := _) (As := [_, _, _, _]) cs_L_233 q_L_law_1880 (sp_mwho hΓ hM1 (f (i + 1)) (f (i + 2)) (f (i + 3)) (f (i + 4)) (hfr _) (hfr _) (hfr _) (hfr _)) rfl (by repeat first | with_reducible assumption | with_reducible exact hput_s _ _ _ | refine (hput_n _ _ (by omega)).trans ?_ | exact hput_s _ _ _ | assumption) rfl rfl rfl rfl (Nat.le_of_ble_eq_true rfl) (by decide) (Nat.le_refl _) (Nat.le_refl _) (fun _ _ h => h.elim) (fun v2 σ2 hq2 => ?_)
  obtain ⟨rfl, hM2, hE2⟩ := hq2
  obtain ⟨hLI, ho2⟩ := lw_B (s2 := (len, tx, fa, z, l, wl, wr)) ((Classical.em _).elim hC0 hC1) ho1 hM2 hE2
  obtain ⟨I9, A9, N9, i90, hMC9, -⟩ := hM2
  have m90 := hMC9.1
  refine g_istore (L' := [_, _, _, _, _, _, _]) q_L_law_1883 (by decide) rfl ?_
  refine g_aload_n q_L_law_1885 rfl ?_
  refine g_callV (rc' := _) (rs' := _) (As := []) cs_L_153 q_L_law_1886 (sp_thrown hΓ m90) rfl (by repeat first | with_reducible assumption | with_reducible exact hput_s _ _ _ | refine (hput_n _ _ (by omega)).trans ?_ | exact hput_s _ _ _ | assumption) rfl rfl rfl rfl (Nat.le_of_ble_eq_true rfl) (by decide) (Nat.le_refl _) (Nat.le_refl _) (fun _ _ h => h.elim) (k_ri ?_)
  rw [i90]
  refine g_iload q_L_law_1889 rfl ?_
  refine g_icmp_eqS (tgt := 1896) q_L_law_1891 (by decide) ?_
  refine g_iload q_L_law_1896 rfl ?_
  refine g_if_ne (tgt := 1913) q_L_law_1898 (by decide) ⟨by omega, by omega⟩ (fun b8 => ?_) (fun b8 => ?_)
  · -- it threw
    refine g_goto (tgt := 3063) q_L_law_1913 (by decide) ?_
    exact g_fl (kk _ _ _ hLI) ⟨rfl, rfl, rfl, rfl, rfl, trivial⟩
  refine g_aload_n q_L_law_1901 rfl ?_
  refine g_iconst q_L_law_1902 ?_
  refine g_laload q_L_law_1903 (by repeat first | with_reducible assumption | with_reducible exact hput_s _ _ _ | refine (hput_n _ _ (by omega)).trans ?_ | exact hput_s _ _ _ | assumption) (by omega) (by omega) ?_
  rw [show g1 (0 : Int).toNat = g1 0 from rfl, hg1 (by omega), if_pos (by omega)]
  refine g_iload q_L_law_1904 rfl ?_
  refine g_top (v' := .int (ii (cn _))) (congrArg Value.int (ii_cn _).symm) ?_
  refine g_i2l q_L_law_1906 (cn_rg _) ?_
  refine g_lcmp q_L_law_1907 ?_
  refine g_topi (b := 0) (lcm_self _) ?_
  refine g_if_eq (tgt := 1913) q_L_law_1908 (by decide) ⟨by omega, by omega⟩ (fun b7 => ?_) (fun b7 => ?_)
  case refine_2 => exact absurd rfl b7
  refine g_goto (tgt := 3063) q_L_law_1913 (by decide) ?_
  exact g_fl (kk _ _ _ hLI) ⟨rfl, rfl, rfl, rfl, rfl, trivial⟩
theorem la_26 (hΓ : Gd Γ) (hro : RO Γ b Ln f) (hfr : ∀ j, rg (f j)) (hi : i + 6 ≤ Ln) (hLn : Ln ≤ 3072) (hN : N < 600) (hI : LI σ x N R s) (kk : ∀ σ' R' s', LI σ' x (N + 1) R' s' → G Γ miL_law code Q noX (C + dC R' RM) (E + dS R' RM) 3063 [some (.ref b), some (.ref x), some (.ref (x + 54)), some (.ref (x + 88)), some (.int (ii (i : Int))), none, none] [] σ') : G Γ miL_law code Q noX (C + 8 + dC R RM) (E + 48 + dS R RM) 1916 [some (.ref b), some (.ref x), some (.ref (x + 54)), some (.ref (x + 88)), some (.int (ii (i : Int))), none, none] [] σ := by
  obtain ⟨len, tx, fa, z, l, wl, wr⟩ := s
  obtain ⟨hX, ⟨e0, hM⟩, g, ho⟩ := hI
  have hX : CX σ x (x + 89) N R len tx fa z l wl wr := hX
  have hM : MX σ (x + 54) e0 len tx fa z l wl wr := hM
  obtain ⟨av, ve, hx, -, -⟩ := hX.ob
  obtain ⟨hl1, hl2, h302⟩ := hX.low
  by_cases hb4 : f (i + 4) = 0
  · skip
    refine g_aload_n q_L_law_1916 rfl ?_
    refine g_aload_n q_L_law_1917 rfl ?_
    refine g_iload q_L_law_1918 rfl ?_
    refine g_iconst q_L_law_1920 ?_
    refine g_iadd q_L_law_1921 ?_
    refine g_topi (b := ((i + 1 : Nat) : Int)) (by omega) ?_
    refine g_iaload_ro q_L_law_1922 hro (by omega) (by omega) (by omega) ?_
    refine g_topi (b := f (i + 1)) (by rw [Int.toNat_natCast]) ?_
    refine g_aload_n q_L_law_1923 rfl ?_
    refine g_iload q_L_law_1924 rfl ?_
    refine g_iconst q_L_law_1926 ?_
    refine g_iadd q_L_law_1927 ?_
    refine g_topi (b := ((i + 2 : Nat) : Int)) (by omega) ?_
    refine g_iaload_ro q_L_law_1928 hro (by omega) (by omega) (by omega) ?_
    refine g_topi (b := f (i + 2)) (by rw [Int.toNat_natCast]) ?_
    refine g_aload_n q_L_law_1929 rfl ?_
    refine g_iload q_L_law_1930 rfl ?_
    refine g_iconst q_L_law_1932 ?_
    refine g_iadd q_L_law_1933 ?_
    refine g_topi (b := ((i + 3 : Nat) : Int)) (by omega) ?_
    refine g_iaload_ro q_L_law_1934 hro (by omega) (by omega) (by omega) ?_
    refine g_topi (b := f (i + 3)) (by rw [Int.toNat_natCast]) ?_
    refine g_aload_n q_L_law_1935 rfl ?_
    refine g_iload q_L_law_1936 rfl ?_
    refine g_iconst q_L_law_1938 ?_
    refine g_iadd q_L_law_1939 ?_
    refine g_topi (b := ((i + 4 : Nat) : Int)) (by omega) ?_
    refine g_iaload_ro q_L_law_1940 hro (by omega) (by omega) (by omega) ?_
    refine g_topi (b := f (i + 4)) (by rw [Int.toNat_natCast]) ?_
    refine g_if_eq (tgt := 1948) q_L_law_1941 (by decide) (hfr _) (fun b9 => ?_) (fun b9 => ?_)
    case refine_2 => exact absurd hb4 b9
    refine g_iconst q_L_law_1948 ?_
    refine g_topi (b := bi false) rfl ?_
    refine g_aload_n q_L_law_1949 rfl ?_
    refine g_callSW (rc' := (C + dC _ RM)) (rs' := (E + dS _ RM)) (As := [_, _, _, _, _, _]) cs_L_234 q_L_law_1950 (sp_L_near hΓ hx (Sp_w (sp_near hΓ (by omega) hX (f (i + 1)) (f (i + 2)) (f (i + 3)) false (hfr _) (hfr _) (hfr _) (Nat.le_refl _) (Nat.le_refl _))) (fun v σ' h => (h.2.2.2.2 (x + 88) (by omega) (by unfold fX inb; omega)).trans ho)) rfl rfl rfl (Nat.le_of_ble_eq_true rfl) (by decide) (rmC (rG_le _ _ _ _) (rG_302 h302 _ _ _)) (rmS (rG_le _ _ _ _) (rG_302 h302 _ _ _)) (fun v σ1 hq => ?_)
    obtain ⟨he4, rfl, hM1, ⟨g1, ho1, hg1⟩, hC0, hC1⟩ := lw_A (s := (len, tx, fa, z, l, wl, wr)) (s0 := (len, tx, fa, z, l, wl, wr)) (s1 := (len, tx, fa, z, l, wl, wr)) hX hM ho (fun σ' h => h) (fun σ' h => h) hq
    have hM1 : MX σ1 (x + 54) e0 len tx fa z l wl wr := hM1
    have hm1 := hM1
    obtain ⟨I8, A8, N8, -, hMC8, -⟩ := hm1
    have m80 := hMC8.1
    refine g_istore (L' := [_, _, _, _, _, _, _]) q_L_law_1953 (by decide) rfl ?_
    refine g_aload_n q_L_law_1955 rfl ?_
    refine g_aload_n q_L_law_1956 rfl ?_
    refine g_iload q_L_law_1957 rfl ?_
    refine g_iconst q_L_law_1959 ?_
    refine g_iadd q_L_law_1960 ?_
    refine g_topi (b := ((i + 1 : Nat) : Int)) (by omega) ?_
    refine g_iaload_ro q_L_law_1961 hro (by omega) (by omega) (by omega) ?_
    refine g_topi (b := f (i + 1)) (by rw [Int.toNat_natCast]) ?_
    refine g_aload_n q_L_law_1962 rfl ?_
    refine g_iload q_L_law_1963 rfl ?_
    refine g_iconst q_L_law_1965 ?_
    refine g_iadd q_L_law_1966 ?_
    refine g_topi (b := ((i + 2 : Nat) : Int)) (by omega) ?_
    refine g_iaload_ro q_L_law_1967 hro (by omega) (by omega) (by omega) ?_
    refine g_topi (b := f (i + 2)) (by rw [Int.toNat_natCast]) ?_
    refine g_aload_n q_L_law_1968 rfl ?_
    refine g_iload q_L_law_1969 rfl ?_
    refine g_iconst q_L_law_1971 ?_
    refine g_iadd q_L_law_1972 ?_
    refine g_topi (b := ((i + 3 : Nat) : Int)) (by omega) ?_
    refine g_iaload_ro q_L_law_1973 hro (by omega) (by omega) (by omega) ?_
    refine g_topi (b := f (i + 3)) (by rw [Int.toNat_natCast]) ?_
    refine g_aload_n q_L_law_1974 rfl ?_
    refine g_iload q_L_law_1975 rfl ?_
    refine g_iconst q_L_law_1977 ?_
    refine g_iadd q_L_law_1978 ?_
    refine g_topi (b := ((i + 4 : Nat) : Int)) (by omega) ?_
    refine g_iaload_ro q_L_law_1979 hro (by omega) (by omega) (by omega) ?_
    refine g_topi (b := f (i + 4)) (by rw [Int.toNat_natCast]) ?_
    refine g_if_eq (tgt := 1987) q_L_law_1980 (by decide) (hfr _) (fun b9 => ?_) (fun b9 => ?_)
    case refine_2 => exact absurd hb4 b9
    refine g_iconst q_L_law_1987 ?_
    refine g_topi (b := bi false) rfl ?_
    refine g_callV (rc' := _) (rs' := _) (As := [_, _, _, _]) cs_L_236 q_L_law_1988 (sp_mnear hΓ hM1 (f (i + 1)) (f (i + 2)) (f (i + 3)) false (hfr _) (hfr _) (hfr _)) rfl (by repeat first | with_reducible assumption | with_reducible exact hput_s _ _ _ | refine (hput_n _ _ (by omega)).trans ?_ | exact hput_s _ _ _ | assumption) rfl rfl rfl rfl (Nat.le_of_ble_eq_true rfl) (by decide) (Nat.le_refl _) (Nat.le_refl _) (fun _ _ h => h.elim) (fun v2 σ2 hq2 => ?_)
    obtain ⟨rfl, hM2, hE2⟩ := hq2
    obtain ⟨hLI, ho2⟩ := lw_B (s2 := (len, tx, fa, z, l, wl, wr)) ((Classical.em _).elim hC0 hC1) ho1 hM2 hE2
    obtain ⟨I9, A9, N9, i90, hMC9, -⟩ := hM2
    have m90 := hMC9.1
    refine g_istore (L' := [_, _, _, _, _, _, _]) q_L_law_1991 (by decide) rfl ?_
    refine g_aload_n q_L_law_1993 rfl ?_
    refine g_callV (rc' := _) (rs' := _) (As := []) cs_L_153 q_L_law_1994 (sp_thrown hΓ m90) rfl (by repeat first | with_reducible assumption | with_reducible exact hput_s _ _ _ | refine (hput_n _ _ (by omega)).trans ?_ | exact hput_s _ _ _ | assumption) rfl rfl rfl rfl (Nat.le_of_ble_eq_true rfl) (by decide) (Nat.le_refl _) (Nat.le_refl _) (fun _ _ h => h.elim) (k_ri ?_)
    rw [i90]
    refine g_iload q_L_law_1997 rfl ?_
    refine g_icmp_eqS (tgt := 2004) q_L_law_1999 (by decide) ?_
    refine g_iload q_L_law_2004 rfl ?_
    refine g_if_ne (tgt := 2021) q_L_law_2006 (by decide) ⟨by omega, by omega⟩ (fun b8 => ?_) (fun b8 => ?_)
    · -- it threw
      refine g_goto (tgt := 3063) q_L_law_2021 (by decide) ?_
      exact g_fl (kk _ _ _ hLI) ⟨rfl, rfl, rfl, rfl, rfl, trivial⟩
    refine g_aload_n q_L_law_2009 rfl ?_
    refine g_iconst q_L_law_2010 ?_
    refine g_laload q_L_law_2011 (by repeat first | with_reducible assumption | with_reducible exact hput_s _ _ _ | refine (hput_n _ _ (by omega)).trans ?_ | exact hput_s _ _ _ | assumption) (by omega) (by omega) ?_
    rw [show g1 (0 : Int).toNat = g1 0 from rfl, hg1 (by omega), if_pos (by omega)]
    refine g_iload q_L_law_2012 rfl ?_
    refine g_top (v' := .int (ii (cn _))) (congrArg Value.int (ii_cn _).symm) ?_
    refine g_i2l q_L_law_2014 (cn_rg _) ?_
    refine g_lcmp q_L_law_2015 ?_
    refine g_topi (b := 0) (lcm_self _) ?_
    refine g_if_eq (tgt := 2021) q_L_law_2016 (by decide) ⟨by omega, by omega⟩ (fun b7 => ?_) (fun b7 => ?_)
    case refine_2 => exact absurd rfl b7
    refine g_goto (tgt := 3063) q_L_law_2021 (by decide) ?_
    exact g_fl (kk _ _ _ hLI) ⟨rfl, rfl, rfl, rfl, rfl, trivial⟩
  · skip
    refine g_aload_n q_L_law_1916 rfl ?_
    refine g_aload_n q_L_law_1917 rfl ?_
    refine g_iload q_L_law_1918 rfl ?_
    refine g_iconst q_L_law_1920 ?_
    refine g_iadd q_L_law_1921 ?_
    refine g_topi (b := ((i + 1 : Nat) : Int)) (by omega) ?_
    refine g_iaload_ro q_L_law_1922 hro (by omega) (by omega) (by omega) ?_
    refine g_topi (b := f (i + 1)) (by rw [Int.toNat_natCast]) ?_
    refine g_aload_n q_L_law_1923 rfl ?_
    refine g_iload q_L_law_1924 rfl ?_
    refine g_iconst q_L_law_1926 ?_
    refine g_iadd q_L_law_1927 ?_
    refine g_topi (b := ((i + 2 : Nat) : Int)) (by omega) ?_
    refine g_iaload_ro q_L_law_1928 hro (by omega) (by omega) (by omega) ?_
    refine g_topi (b := f (i + 2)) (by rw [Int.toNat_natCast]) ?_
    refine g_aload_n q_L_law_1929 rfl ?_
    refine g_iload q_L_law_1930 rfl ?_
    refine g_iconst q_L_law_1932 ?_
    refine g_iadd q_L_law_1933 ?_
    refine g_topi (b := ((i + 3 : Nat) : Int)) (by omega) ?_
    refine g_iaload_ro q_L_law_1934 hro (by omega) (by omega) (by omega) ?_
    refine g_topi (b := f (i + 3)) (by rw [Int.toNat_natCast]) ?_
    refine g_aload_n q_L_law_1935 rfl ?_
    refine g_iload q_L_law_1936 rfl ?_
    refine g_iconst q_L_law_1938 ?_
    refine g_iadd q_L_law_1939 ?_
    refine g_topi (b := ((i + 4 : Nat) : Int)) (by omega) ?_
    refine g_iaload_ro q_L_law_1940 hro (by omega) (by omega) (by omega) ?_
    refine g_topi (b := f (i + 4)) (by rw [Int.toNat_natCast]) ?_
    refine g_if_eq (tgt := 1948) q_L_law_1941 (by decide) (hfr _) (fun b9 => ?_) (fun b9 => ?_)
    case refine_1 => exact absurd b9 hb4
    refine g_iconst q_L_law_1944 ?_
    refine g_goto (tgt := 1949) q_L_law_1945 (by decide) ?_
    refine g_topi (b := bi true) rfl ?_
    refine g_aload_n q_L_law_1949 rfl ?_
    refine g_callSW (rc' := (C + dC _ RM)) (rs' := (E + dS _ RM)) (As := [_, _, _, _, _, _]) cs_L_234 q_L_law_1950 (sp_L_near hΓ hx (Sp_w (sp_near hΓ (by omega) hX (f (i + 1)) (f (i + 2)) (f (i + 3)) true (hfr _) (hfr _) (hfr _) (Nat.le_refl _) (Nat.le_refl _))) (fun v σ' h => (h.2.2.2.2 (x + 88) (by omega) (by unfold fX inb; omega)).trans ho)) rfl rfl rfl (Nat.le_of_ble_eq_true rfl) (by decide) (rmC (rG_le _ _ _ _) (rG_302 h302 _ _ _)) (rmS (rG_le _ _ _ _) (rG_302 h302 _ _ _)) (fun v σ1 hq => ?_)
    obtain ⟨he4, rfl, hM1, ⟨g1, ho1, hg1⟩, hC0, hC1⟩ := lw_A (s := (len, tx, fa, z, l, wl, wr)) (s0 := (len, tx, fa, z, l, wl, wr)) (s1 := (len, tx, fa, z, l, wl, wr)) hX hM ho (fun σ' h => h) (fun σ' h => h) hq
    have hM1 : MX σ1 (x + 54) e0 len tx fa z l wl wr := hM1
    have hm1 := hM1
    obtain ⟨I8, A8, N8, -, hMC8, -⟩ := hm1
    have m80 := hMC8.1
    refine g_istore (L' := [_, _, _, _, _, _, _]) q_L_law_1953 (by decide) rfl ?_
    refine g_aload_n q_L_law_1955 rfl ?_
    refine g_aload_n q_L_law_1956 rfl ?_
    refine g_iload q_L_law_1957 rfl ?_
    refine g_iconst q_L_law_1959 ?_
    refine g_iadd q_L_law_1960 ?_
    refine g_topi (b := ((i + 1 : Nat) : Int)) (by omega) ?_
    refine g_iaload_ro q_L_law_1961 hro (by omega) (by omega) (by omega) ?_
    refine g_topi (b := f (i + 1)) (by rw [Int.toNat_natCast]) ?_
    refine g_aload_n q_L_law_1962 rfl ?_
    refine g_iload q_L_law_1963 rfl ?_
    refine g_iconst q_L_law_1965 ?_
    refine g_iadd q_L_law_1966 ?_
    refine g_topi (b := ((i + 2 : Nat) : Int)) (by omega) ?_
    refine g_iaload_ro q_L_law_1967 hro (by omega) (by omega) (by omega) ?_
    refine g_topi (b := f (i + 2)) (by rw [Int.toNat_natCast]) ?_
    refine g_aload_n q_L_law_1968 rfl ?_
    refine g_iload q_L_law_1969 rfl ?_
    refine g_iconst q_L_law_1971 ?_
    refine g_iadd q_L_law_1972 ?_
    refine g_topi (b := ((i + 3 : Nat) : Int)) (by omega) ?_
    refine g_iaload_ro q_L_law_1973 hro (by omega) (by omega) (by omega) ?_
    refine g_topi (b := f (i + 3)) (by rw [Int.toNat_natCast]) ?_
    refine g_aload_n q_L_law_1974 rfl ?_
    refine g_iload q_L_law_1975 rfl ?_
    refine g_iconst q_L_law_1977 ?_
    refine g_iadd q_L_law_1978 ?_
    refine g_topi (b := ((i + 4 : Nat) : Int)) (by omega) ?_
    refine g_iaload_ro q_L_law_1979 hro (by omega) (by omega) (by omega) ?_
    refine g_topi (b := f (i + 4)) (by rw [Int.toNat_natCast]) ?_
    refine g_if_eq (tgt := 1987) q_L_law_1980 (by decide) (hfr _) (fun b9 => ?_) (fun b9 => ?_)
    case refine_1 => exact absurd b9 hb4
    refine g_iconst q_L_law_1983 ?_
    refine g_goto (tgt := 1988) q_L_law_1984 (by decide) ?_
    refine g_topi (b := bi true) rfl ?_
    refine g_callV (rc' := _) (rs' := _) (As := [_, _, _, _]) cs_L_236 q_L_law_1988 (sp_mnear hΓ hM1 (f (i + 1)) (f (i + 2)) (f (i + 3)) true (hfr _) (hfr _) (hfr _)) rfl (by repeat first | with_reducible assumption | with_reducible exact hput_s _ _ _ | refine (hput_n _ _ (by omega)).trans ?_ | exact hput_s _ _ _ | assumption) rfl rfl rfl rfl (Nat.le_of_ble_eq_true rfl) (by decide) (Nat.le_refl _) (Nat.le_refl _) (fun _ _ h => h.elim) (fun v2 σ2 hq2 => ?_)
    obtain ⟨rfl, hM2, hE2⟩ := hq2
    obtain ⟨hLI, ho2⟩ := lw_B (s2 := (len, tx, fa, z, l, wl, wr)) ((Classical.em _).elim hC0 hC1) ho1 hM2 hE2
    obtain ⟨I9, A9, N9, i90, hMC9, -⟩ := hM2
    have m90 := hMC9.1
    refine g_istore (L' := [_, _, _, _, _, _, _]) q_L_law_1991 (by decide) rfl ?_
    refine g_aload_n q_L_law_1993 rfl ?_
    refine g_callV (rc' := _) (rs' := _) (As := []) cs_L_153 q_L_law_1994 (sp_thrown hΓ m90) rfl (by repeat first | with_reducible assumption | with_reducible exact hput_s _ _ _ | refine (hput_n _ _ (by omega)).trans ?_ | exact hput_s _ _ _ | assumption) rfl rfl rfl rfl (Nat.le_of_ble_eq_true rfl) (by decide) (Nat.le_refl _) (Nat.le_refl _) (fun _ _ h => h.elim) (k_ri ?_)
    rw [i90]
    refine g_iload q_L_law_1997 rfl ?_
    refine g_icmp_eqS (tgt := 2004) q_L_law_1999 (by decide) ?_
    refine g_iload q_L_law_2004 rfl ?_
    refine g_if_ne (tgt := 2021) q_L_law_2006 (by decide) ⟨by omega, by omega⟩ (fun b8 => ?_) (fun b8 => ?_)
    · -- it threw
      refine g_goto (tgt := 3063) q_L_law_2021 (by decide) ?_
      exact g_fl (kk _ _ _ hLI) ⟨rfl, rfl, rfl, rfl, rfl, trivial⟩
    refine g_aload_n q_L_law_2009 rfl ?_
    refine g_iconst q_L_law_2010 ?_
    refine g_laload q_L_law_2011 (by repeat first | with_reducible assumption | with_reducible exact hput_s _ _ _ | refine (hput_n _ _ (by omega)).trans ?_ | exact hput_s _ _ _ | assumption) (by omega) (by omega) ?_
    rw [show g1 (0 : Int).toNat = g1 0 from rfl, hg1 (by omega), if_pos (by omega)]
    refine g_iload q_L_law_2012 rfl ?_
    refine g_top (v' := .int (ii (cn _))) (congrArg Value.int (ii_cn _).symm) ?_
    refine g_i2l q_L_law_2014 (cn_rg _) ?_
    refine g_lcmp q_L_law_2015 ?_
    refine g_topi (b := 0) (lcm_self _) ?_
    refine g_if_eq (tgt := 2021) q_L_law_2016 (by decide) ⟨by omega, by omega⟩ (fun b7 => ?_) (fun b7 => ?_)
    case refine_2 => exact absurd rfl b7
    refine g_goto (tgt := 3063) q_L_law_2021 (by decide) ?_
    exact g_fl (kk _ _ _ hLI) ⟨rfl, rfl, rfl, rfl, rfl, trivial⟩
end LC

