/-! the law: cases without, follows, shared, slack, critical, ended, way, again, among, byTurns, turned, bestOrder, ordered, write, octet, count (written by lawcase.py) -/
section LC
variable {Γ : GT} {σ : AH} {b x i N Ln C E : Nat} {f : Nat → Int} {R : Nat → Nat} {s : LSt} {Q : Option Value → AH → Prop}
theorem la_27 (hΓ : Gd Γ) (hro : RO Γ b Ln f) (hfr : ∀ j, rg (f j)) (hi : i + 6 ≤ Ln) (hLn : Ln ≤ 3072) (hN : N < 600) (hI : LI σ x N R s) (kk : ∀ σ' R' s', LI σ' x (N + 1) R' s' → G Γ miL_law code Q noX (C + dC R' RM) (E + dS R' RM) 3063 [some (.ref b), some (.ref x), some (.ref (x + 54)), some (.ref (x + 88)), some (.int (ii (i : Int))), none, none] [] σ') : G Γ miL_law code Q noX (C + 8 + dC R RM) (E + 48 + dS R RM) 2024 [some (.ref b), some (.ref x), some (.ref (x + 54)), some (.ref (x + 88)), some (.int (ii (i : Int))), none, none] [] σ := by
  obtain ⟨len, tx, fa, z, l, wl, wr⟩ := s
  obtain ⟨hX, ⟨e0, hM⟩, g, ho⟩ := hI
  have hX : CX σ x (x + 89) N R len tx fa z l wl wr := hX
  have hM : MX σ (x + 54) e0 len tx fa z l wl wr := hM
  obtain ⟨av, ve, hx, -, -⟩ := hX.ob
  obtain ⟨hl1, hl2, h302⟩ := hX.low
  refine g_aload_n q_L_law_2024 rfl ?_
  refine g_aload_n q_L_law_2025 rfl ?_
  refine g_iload q_L_law_2026 rfl ?_
  refine g_iconst q_L_law_2028 ?_
  refine g_iadd q_L_law_2029 ?_
  refine g_topi (b := ((i + 1 : Nat) : Int)) (by omega) ?_
  refine g_iaload_ro q_L_law_2030 hro (by omega) (by omega) (by omega) ?_
  refine g_topi (b := f (i + 1)) (by rw [Int.toNat_natCast]) ?_
  refine g_aload_n q_L_law_2031 rfl ?_
  refine g_iload q_L_law_2032 rfl ?_
  refine g_iconst q_L_law_2034 ?_
  refine g_iadd q_L_law_2035 ?_
  refine g_topi (b := ((i + 2 : Nat) : Int)) (by omega) ?_
  refine g_iaload_ro q_L_law_2036 hro (by omega) (by omega) (by omega) ?_
  refine g_topi (b := f (i + 2)) (by rw [Int.toNat_natCast]) ?_
  refine g_aload_n q_L_law_2037 rfl ?_
  refine g_iload q_L_law_2038 rfl ?_
  refine g_iconst q_L_law_2040 ?_
  refine g_iadd q_L_law_2041 ?_
  refine g_topi (b := ((i + 3 : Nat) : Int)) (by omega) ?_
  refine g_iaload_ro q_L_law_2042 hro (by omega) (by omega) (by omega) ?_
  refine g_topi (b := f (i + 3)) (by rw [Int.toNat_natCast]) ?_
  refine g_aload_n q_L_law_2043 rfl ?_
  refine g_callSW (rc' := (C + dC _ RM)) (rs' := (E + dS _ RM)) (As := [_, _, _, _, _]) cs_L_237 q_L_law_2044 (sp_L_without hΓ hx (Sp_w (sp_without hΓ (by omega) hX (f (i + 1)) (f (i + 2)) (f (i + 3)) (hfr _) (hfr _) (hfr _) (Nat.le_refl _) (Nat.le_refl _))) (fun v σ' h => (h.2.2.2.2 (x + 88) (by omega) (by unfold fX inb; omega)).trans ho)) rfl rfl rfl (Nat.le_of_ble_eq_true rfl) (by decide) (rmC (woR_le _ _ _ _ _) (woR_302 h302 _ _ _ _)) (rmS (woR_le _ _ _ _ _) (woR_302 h302 _ _ _ _)) (fun v σ1 hq => ?_)
  obtain ⟨he4, rfl, hM1, ⟨g1, ho1, hg1⟩, hC0, hC1⟩ := lw_A (s := (len, tx, fa, z, l, wl, wr)) (s0 := (len, tx, fa, z, l, wl, wr)) (s1 := (len, tx, fa, z, l, wl, wr)) hX hM ho (fun σ' h => h) (fun σ' h => h) hq
  have hM1 : MX σ1 (x + 54) e0 len tx fa z l wl wr := hM1
  have hm1 := hM1
  obtain ⟨I8, A8, N8, -, hMC8, -⟩ := hm1
  have m80 := hMC8.1
  refine g_istore (L' := [_, _, _, _, _, _, _]) q_L_law_2047 (by decide) rfl ?_
  refine g_aload_n q_L_law_2049 rfl ?_
  refine g_aload_n q_L_law_2050 rfl ?_
  refine g_iload q_L_law_2051 rfl ?_
  refine g_iconst q_L_law_2053 ?_
  refine g_iadd q_L_law_2054 ?_
  refine g_topi (b := ((i + 1 : Nat) : Int)) (by omega) ?_
  refine g_iaload_ro q_L_law_2055 hro (by omega) (by omega) (by omega) ?_
  refine g_topi (b := f (i + 1)) (by rw [Int.toNat_natCast]) ?_
  refine g_aload_n q_L_law_2056 rfl ?_
  refine g_iload q_L_law_2057 rfl ?_
  refine g_iconst q_L_law_2059 ?_
  refine g_iadd q_L_law_2060 ?_
  refine g_topi (b := ((i + 2 : Nat) : Int)) (by omega) ?_
  refine g_iaload_ro q_L_law_2061 hro (by omega) (by omega) (by omega) ?_
  refine g_topi (b := f (i + 2)) (by rw [Int.toNat_natCast]) ?_
  refine g_aload_n q_L_law_2062 rfl ?_
  refine g_iload q_L_law_2063 rfl ?_
  refine g_iconst q_L_law_2065 ?_
  refine g_iadd q_L_law_2066 ?_
  refine g_topi (b := ((i + 3 : Nat) : Int)) (by omega) ?_
  refine g_iaload_ro q_L_law_2067 hro (by omega) (by omega) (by omega) ?_
  refine g_topi (b := f (i + 3)) (by rw [Int.toNat_natCast]) ?_
  refine g_callV (rc' := _) (rs' := _) (As := [_, _, _]) cs_L_239 q_L_law_2068 (sp_mwithout hΓ hM1 (f (i + 1)) (f (i + 2)) (f (i + 3)) (hfr _) (hfr _) (hfr _)) rfl (by repeat first | with_reducible assumption | with_reducible exact hput_s _ _ _ | refine (hput_n _ _ (by omega)).trans ?_ | exact hput_s _ _ _ | assumption) rfl rfl rfl rfl (Nat.le_of_ble_eq_true rfl) (by decide) (Nat.le_refl _) (Nat.le_refl _) (fun _ _ h => h.elim) (fun v2 σ2 hq2 => ?_)
  obtain ⟨rfl, hM2, hE2⟩ := hq2
  obtain ⟨hLI, ho2⟩ := lw_B (s2 := (len, tx, fa, z, l, wl, wr)) ((Classical.em _).elim hC0 hC1) ho1 hM2 hE2
  obtain ⟨I9, A9, N9, i90, hMC9, -⟩ := hM2
  have m90 := hMC9.1
  refine g_istore (L' := [_, _, _, _, _, _, _]) q_L_law_2071 (by decide) rfl ?_
  refine g_aload_n q_L_law_2073 rfl ?_
  refine g_callV (rc' := _) (rs' := _) (As := []) cs_L_153 q_L_law_2074 (sp_thrown hΓ m90) rfl (by repeat first | with_reducible assumption | with_reducible exact hput_s _ _ _ | refine (hput_n _ _ (by omega)).trans ?_ | exact hput_s _ _ _ | assumption) rfl rfl rfl rfl (Nat.le_of_ble_eq_true rfl) (by decide) (Nat.le_refl _) (Nat.le_refl _) (fun _ _ h => h.elim) (k_ri ?_)
  rw [i90]
  refine g_iload q_L_law_2077 rfl ?_
  refine g_icmp_eqS (tgt := 2084) q_L_law_2079 (by decide) ?_
  refine g_iload q_L_law_2084 rfl ?_
  refine g_if_ne (tgt := 2101) q_L_law_2086 (by decide) ⟨by omega, by omega⟩ (fun b8 => ?_) (fun b8 => ?_)
  · -- it threw
    refine g_goto (tgt := 3063) q_L_law_2101 (by decide) ?_
    exact g_fl (kk _ _ _ hLI) ⟨rfl, rfl, rfl, rfl, rfl, trivial⟩
  refine g_aload_n q_L_law_2089 rfl ?_
  refine g_iconst q_L_law_2090 ?_
  refine g_laload q_L_law_2091 (by repeat first | with_reducible assumption | with_reducible exact hput_s _ _ _ | refine (hput_n _ _ (by omega)).trans ?_ | exact hput_s _ _ _ | assumption) (by omega) (by omega) ?_
  rw [show g1 (0 : Int).toNat = g1 0 from rfl, hg1 (by omega), if_pos (by omega)]
  refine g_iload q_L_law_2092 rfl ?_
  refine g_top (v' := .int (ii (cn _))) (congrArg Value.int (ii_cn _).symm) ?_
  refine g_i2l q_L_law_2094 (cn_rg _) ?_
  refine g_lcmp q_L_law_2095 ?_
  refine g_topi (b := 0) (lcm_self _) ?_
  refine g_if_eq (tgt := 2101) q_L_law_2096 (by decide) ⟨by omega, by omega⟩ (fun b7 => ?_) (fun b7 => ?_)
  case refine_2 => exact absurd rfl b7
  refine g_goto (tgt := 3063) q_L_law_2101 (by decide) ?_
  exact g_fl (kk _ _ _ hLI) ⟨rfl, rfl, rfl, rfl, rfl, trivial⟩
theorem la_28 (hΓ : Gd Γ) (hro : RO Γ b Ln f) (hfr : ∀ j, rg (f j)) (hi : i + 6 ≤ Ln) (hLn : Ln ≤ 3072) (hN : N < 600) (hI : LI σ x N R s) (kk : ∀ σ' R' s', LI σ' x (N + 1) R' s' → G Γ miL_law code Q noX (C + dC R' RM) (E + dS R' RM) 3063 [some (.ref b), some (.ref x), some (.ref (x + 54)), some (.ref (x + 88)), some (.int (ii (i : Int))), none, none] [] σ') : G Γ miL_law code Q noX (C + 8 + dC R RM) (E + 48 + dS R RM) 2104 [some (.ref b), some (.ref x), some (.ref (x + 54)), some (.ref (x + 88)), some (.int (ii (i : Int))), none, none] [] σ := by
  obtain ⟨len, tx, fa, z, l, wl, wr⟩ := s
  obtain ⟨hX, ⟨e0, hM⟩, g, ho⟩ := hI
  have hX : CX σ x (x + 89) N R len tx fa z l wl wr := hX
  have hM : MX σ (x + 54) e0 len tx fa z l wl wr := hM
  obtain ⟨av, ve, hx, -, -⟩ := hX.ob
  obtain ⟨hl1, hl2, h302⟩ := hX.low
  refine g_aload_n q_L_law_2104 rfl ?_
  refine g_aload_n q_L_law_2105 rfl ?_
  refine g_iload q_L_law_2106 rfl ?_
  refine g_iconst q_L_law_2108 ?_
  refine g_iadd q_L_law_2109 ?_
  refine g_topi (b := ((i + 1 : Nat) : Int)) (by omega) ?_
  refine g_iaload_ro q_L_law_2110 hro (by omega) (by omega) (by omega) ?_
  refine g_topi (b := f (i + 1)) (by rw [Int.toNat_natCast]) ?_
  refine g_aload_n q_L_law_2111 rfl ?_
  refine g_iload q_L_law_2112 rfl ?_
  refine g_iconst q_L_law_2114 ?_
  refine g_iadd q_L_law_2115 ?_
  refine g_topi (b := ((i + 2 : Nat) : Int)) (by omega) ?_
  refine g_iaload_ro q_L_law_2116 hro (by omega) (by omega) (by omega) ?_
  refine g_topi (b := f (i + 2)) (by rw [Int.toNat_natCast]) ?_
  refine g_aload_n q_L_law_2117 rfl ?_
  refine g_iload q_L_law_2118 rfl ?_
  refine g_iconst q_L_law_2120 ?_
  refine g_iadd q_L_law_2121 ?_
  refine g_topi (b := ((i + 3 : Nat) : Int)) (by omega) ?_
  refine g_iaload_ro q_L_law_2122 hro (by omega) (by omega) (by omega) ?_
  refine g_topi (b := f (i + 3)) (by rw [Int.toNat_natCast]) ?_
  refine g_aload_n q_L_law_2123 rfl ?_
  refine g_callSW (rc' := (C + dC _ RM)) (rs' := (E + dS _ RM)) (As := [_, _, _, _, _]) cs_L_240 q_L_law_2124 (sp_L_follows hΓ hx (Sp_w (sp_follows hΓ (by omega) hX (f (i + 1)) (f (i + 2)) (f (i + 3)) (hfr _) (hfr _) (hfr _) (Nat.le_refl _) (Nat.le_refl _))) (fun v σ' h => (h.2.2.2.2 (x + 88) (by omega) (by unfold fX inb; omega)).trans ho)) rfl rfl rfl (Nat.le_of_ble_eq_true rfl) (by decide) (rmC (rG_le _ _ _ _) (rG_302 h302 _ _ _)) (rmS (rG_le _ _ _ _) (rG_302 h302 _ _ _)) (fun v σ1 hq => ?_)
  obtain ⟨he4, rfl, hM1, ⟨g1, ho1, hg1⟩, hC0, hC1⟩ := lw_A (s := (len, tx, fa, z, l, wl, wr)) (s0 := (len, tx, fa, z, l, wl, wr)) (s1 := (len, tx, fa, z, l, wl, wr)) hX hM ho (fun σ' h => h) (fun σ' h => h) hq
  have hM1 : MX σ1 (x + 54) e0 len tx fa z l wl wr := hM1
  have hm1 := hM1
  obtain ⟨I8, A8, N8, -, hMC8, -⟩ := hm1
  have m80 := hMC8.1
  refine g_istore (L' := [_, _, _, _, _, _, _]) q_L_law_2127 (by decide) rfl ?_
  refine g_aload_n q_L_law_2129 rfl ?_
  refine g_aload_n q_L_law_2130 rfl ?_
  refine g_iload q_L_law_2131 rfl ?_
  refine g_iconst q_L_law_2133 ?_
  refine g_iadd q_L_law_2134 ?_
  refine g_topi (b := ((i + 1 : Nat) : Int)) (by omega) ?_
  refine g_iaload_ro q_L_law_2135 hro (by omega) (by omega) (by omega) ?_
  refine g_topi (b := f (i + 1)) (by rw [Int.toNat_natCast]) ?_
  refine g_aload_n q_L_law_2136 rfl ?_
  refine g_iload q_L_law_2137 rfl ?_
  refine g_iconst q_L_law_2139 ?_
  refine g_iadd q_L_law_2140 ?_
  refine g_topi (b := ((i + 2 : Nat) : Int)) (by omega) ?_
  refine g_iaload_ro q_L_law_2141 hro (by omega) (by omega) (by omega) ?_
  refine g_topi (b := f (i + 2)) (by rw [Int.toNat_natCast]) ?_
  refine g_aload_n q_L_law_2142 rfl ?_
  refine g_iload q_L_law_2143 rfl ?_
  refine g_iconst q_L_law_2145 ?_
  refine g_iadd q_L_law_2146 ?_
  refine g_topi (b := ((i + 3 : Nat) : Int)) (by omega) ?_
  refine g_iaload_ro q_L_law_2147 hro (by omega) (by omega) (by omega) ?_
  refine g_topi (b := f (i + 3)) (by rw [Int.toNat_natCast]) ?_
  refine g_callV (rc' := _) (rs' := _) (As := [_, _, _]) cs_L_242 q_L_law_2148 (sp_mfollows hΓ hM1 (f (i + 1)) (f (i + 2)) (f (i + 3)) (hfr _) (hfr _) (hfr _)) rfl (by repeat first | with_reducible assumption | with_reducible exact hput_s _ _ _ | refine (hput_n _ _ (by omega)).trans ?_ | exact hput_s _ _ _ | assumption) rfl rfl rfl rfl (Nat.le_of_ble_eq_true rfl) (by decide) (Nat.le_refl _) (Nat.le_refl _) (fun _ _ h => h.elim) (fun v2 σ2 hq2 => ?_)
  obtain ⟨rfl, hM2, hE2⟩ := hq2
  obtain ⟨hLI, ho2⟩ := lw_B (s2 := (len, tx, fa, z, l, wl, wr)) ((Classical.em _).elim hC0 hC1) ho1 hM2 hE2
  obtain ⟨I9, A9, N9, i90, hMC9, -⟩ := hM2
  have m90 := hMC9.1
  refine g_istore (L' := [_, _, _, _, _, _, _]) q_L_law_2151 (by decide) rfl ?_
  refine g_aload_n q_L_law_2153 rfl ?_
  refine g_callV (rc' := _) (rs' := _) (As := []) cs_L_153 q_L_law_2154 (sp_thrown hΓ m90) rfl (by repeat first | with_reducible assumption | with_reducible exact hput_s _ _ _ | refine (hput_n _ _ (by omega)).trans ?_ | exact hput_s _ _ _ | assumption) rfl rfl rfl rfl (Nat.le_of_ble_eq_true rfl) (by decide) (Nat.le_refl _) (Nat.le_refl _) (fun _ _ h => h.elim) (k_ri ?_)
  rw [i90]
  refine g_iload q_L_law_2157 rfl ?_
  refine g_icmp_eqS (tgt := 2164) q_L_law_2159 (by decide) ?_
  refine g_iload q_L_law_2164 rfl ?_
  refine g_if_ne (tgt := 2181) q_L_law_2166 (by decide) ⟨by omega, by omega⟩ (fun b8 => ?_) (fun b8 => ?_)
  · -- it threw
    refine g_goto (tgt := 3063) q_L_law_2181 (by decide) ?_
    exact g_fl (kk _ _ _ hLI) ⟨rfl, rfl, rfl, rfl, rfl, trivial⟩
  refine g_aload_n q_L_law_2169 rfl ?_
  refine g_iconst q_L_law_2170 ?_
  refine g_laload q_L_law_2171 (by repeat first | with_reducible assumption | with_reducible exact hput_s _ _ _ | refine (hput_n _ _ (by omega)).trans ?_ | exact hput_s _ _ _ | assumption) (by omega) (by omega) ?_
  rw [show g1 (0 : Int).toNat = g1 0 from rfl, hg1 (by omega), if_pos (by omega)]
  refine g_iload q_L_law_2172 rfl ?_
  refine g_top (v' := .int (ii (cn _))) (congrArg Value.int (ii_cn _).symm) ?_
  refine g_i2l q_L_law_2174 (cn_rg _) ?_
  refine g_lcmp q_L_law_2175 ?_
  refine g_topi (b := 0) (lcm_self _) ?_
  refine g_if_eq (tgt := 2181) q_L_law_2176 (by decide) ⟨by omega, by omega⟩ (fun b7 => ?_) (fun b7 => ?_)
  case refine_2 => exact absurd rfl b7
  refine g_goto (tgt := 3063) q_L_law_2181 (by decide) ?_
  exact g_fl (kk _ _ _ hLI) ⟨rfl, rfl, rfl, rfl, rfl, trivial⟩
theorem la_29 (hΓ : Gd Γ) (hro : RO Γ b Ln f) (hfr : ∀ j, rg (f j)) (hi : i + 6 ≤ Ln) (hLn : Ln ≤ 3072) (hN : N < 600) (hI : LI σ x N R s) (kk : ∀ σ' R' s', LI σ' x (N + 1) R' s' → G Γ miL_law code Q noX (C + dC R' RM) (E + dS R' RM) 3063 [some (.ref b), some (.ref x), some (.ref (x + 54)), some (.ref (x + 88)), some (.int (ii (i : Int))), none, none] [] σ') : G Γ miL_law code Q noX (C + 8 + dC R RM) (E + 48 + dS R RM) 2184 [some (.ref b), some (.ref x), some (.ref (x + 54)), some (.ref (x + 88)), some (.int (ii (i : Int))), none, none] [] σ := by
  obtain ⟨len, tx, fa, z, l, wl, wr⟩ := s
  obtain ⟨hX, ⟨e0, hM⟩, g, ho⟩ := hI
  have hX : CX σ x (x + 89) N R len tx fa z l wl wr := hX
  have hM : MX σ (x + 54) e0 len tx fa z l wl wr := hM
  obtain ⟨av, ve, hx, -, -⟩ := hX.ob
  obtain ⟨hl1, hl2, h302⟩ := hX.low
  refine g_aload_n q_L_law_2184 rfl ?_
  refine g_aload_n q_L_law_2185 rfl ?_
  refine g_iload q_L_law_2186 rfl ?_
  refine g_iconst q_L_law_2188 ?_
  refine g_iadd q_L_law_2189 ?_
  refine g_topi (b := ((i + 1 : Nat) : Int)) (by omega) ?_
  refine g_iaload_ro q_L_law_2190 hro (by omega) (by omega) (by omega) ?_
  refine g_topi (b := f (i + 1)) (by rw [Int.toNat_natCast]) ?_
  refine g_aload_n q_L_law_2191 rfl ?_
  refine g_iload q_L_law_2192 rfl ?_
  refine g_iconst q_L_law_2194 ?_
  refine g_iadd q_L_law_2195 ?_
  refine g_topi (b := ((i + 2 : Nat) : Int)) (by omega) ?_
  refine g_iaload_ro q_L_law_2196 hro (by omega) (by omega) (by omega) ?_
  refine g_topi (b := f (i + 2)) (by rw [Int.toNat_natCast]) ?_
  refine g_aload_n q_L_law_2197 rfl ?_
  refine g_callSW (rc' := (C + dC _ RM)) (rs' := (E + dS _ RM)) (As := [_, _, _, _]) cs_L_243 q_L_law_2198 (sp_L_shared hΓ hx (Sp_w (sp_shared hΓ (by omega) hX (f (i + 1)) (f (i + 2)) (hfr _) (hfr _) (Nat.le_refl _) (Nat.le_refl _))) (fun v σ' h => (h.2.2.2.2 (x + 88) (by omega) (by unfold fX inb; omega)).trans ho)) rfl rfl rfl (Nat.le_of_ble_eq_true rfl) (by decide) (rmC (rG_le _ _ _ _) (rG_302 h302 _ _ _)) (rmS (rG_le _ _ _ _) (rG_302 h302 _ _ _)) (fun v σ1 hq => ?_)
  obtain ⟨he4, rfl, hM1, ⟨g1, ho1, hg1⟩, hC0, hC1⟩ := lw_A (s := (len, tx, fa, z, l, wl, wr)) (s0 := (len, tx, fa, z, l, wl, wr)) (s1 := (len, tx, fa, z, l, wl, wr)) hX hM ho (fun σ' h => h) (fun σ' h => h) hq
  have hM1 : MX σ1 (x + 54) e0 len tx fa z l wl wr := hM1
  have hm1 := hM1
  obtain ⟨I8, A8, N8, -, hMC8, -⟩ := hm1
  have m80 := hMC8.1
  refine g_istore (L' := [_, _, _, _, _, _, _]) q_L_law_2201 (by decide) rfl ?_
  refine g_aload_n q_L_law_2203 rfl ?_
  refine g_aload_n q_L_law_2204 rfl ?_
  refine g_iload q_L_law_2205 rfl ?_
  refine g_iconst q_L_law_2207 ?_
  refine g_iadd q_L_law_2208 ?_
  refine g_topi (b := ((i + 1 : Nat) : Int)) (by omega) ?_
  refine g_iaload_ro q_L_law_2209 hro (by omega) (by omega) (by omega) ?_
  refine g_topi (b := f (i + 1)) (by rw [Int.toNat_natCast]) ?_
  refine g_aload_n q_L_law_2210 rfl ?_
  refine g_iload q_L_law_2211 rfl ?_
  refine g_iconst q_L_law_2213 ?_
  refine g_iadd q_L_law_2214 ?_
  refine g_topi (b := ((i + 2 : Nat) : Int)) (by omega) ?_
  refine g_iaload_ro q_L_law_2215 hro (by omega) (by omega) (by omega) ?_
  refine g_topi (b := f (i + 2)) (by rw [Int.toNat_natCast]) ?_
  refine g_callV (rc' := _) (rs' := _) (As := [_, _]) cs_L_245 q_L_law_2216 (sp_mshared hΓ hM1 (f (i + 1)) (f (i + 2)) (hfr _) (hfr _)) rfl (by repeat first | with_reducible assumption | with_reducible exact hput_s _ _ _ | refine (hput_n _ _ (by omega)).trans ?_ | exact hput_s _ _ _ | assumption) rfl rfl rfl rfl (Nat.le_of_ble_eq_true rfl) (by decide) (Nat.le_refl _) (Nat.le_refl _) (fun _ _ h => h.elim) (fun v2 σ2 hq2 => ?_)
  obtain ⟨rfl, hM2, hE2⟩ := hq2
  obtain ⟨hLI, ho2⟩ := lw_B (s2 := (len, tx, fa, z, l, wl, wr)) ((Classical.em _).elim hC0 hC1) ho1 hM2 hE2
  obtain ⟨I9, A9, N9, i90, hMC9, -⟩ := hM2
  have m90 := hMC9.1
  refine g_istore (L' := [_, _, _, _, _, _, _]) q_L_law_2219 (by decide) rfl ?_
  refine g_aload_n q_L_law_2221 rfl ?_
  refine g_callV (rc' := _) (rs' := _) (As := []) cs_L_153 q_L_law_2222 (sp_thrown hΓ m90) rfl (by repeat first | with_reducible assumption | with_reducible exact hput_s _ _ _ | refine (hput_n _ _ (by omega)).trans ?_ | exact hput_s _ _ _ | assumption) rfl rfl rfl rfl (Nat.le_of_ble_eq_true rfl) (by decide) (Nat.le_refl _) (Nat.le_refl _) (fun _ _ h => h.elim) (k_ri ?_)
  rw [i90]
  refine g_iload q_L_law_2225 rfl ?_
  refine g_icmp_eqS (tgt := 2232) q_L_law_2227 (by decide) ?_
  refine g_iload q_L_law_2232 rfl ?_
  refine g_if_ne (tgt := 2249) q_L_law_2234 (by decide) ⟨by omega, by omega⟩ (fun b8 => ?_) (fun b8 => ?_)
  · -- it threw
    refine g_goto (tgt := 3063) q_L_law_2249 (by decide) ?_
    exact g_fl (kk _ _ _ hLI) ⟨rfl, rfl, rfl, rfl, rfl, trivial⟩
  refine g_aload_n q_L_law_2237 rfl ?_
  refine g_iconst q_L_law_2238 ?_
  refine g_laload q_L_law_2239 (by repeat first | with_reducible assumption | with_reducible exact hput_s _ _ _ | refine (hput_n _ _ (by omega)).trans ?_ | exact hput_s _ _ _ | assumption) (by omega) (by omega) ?_
  rw [show g1 (0 : Int).toNat = g1 0 from rfl, hg1 (by omega), if_pos (by omega)]
  refine g_iload q_L_law_2240 rfl ?_
  refine g_top (v' := .int (ii (cn _))) (congrArg Value.int (ii_cn _).symm) ?_
  refine g_i2l q_L_law_2242 (cn_rg _) ?_
  refine g_lcmp q_L_law_2243 ?_
  refine g_topi (b := 0) (lcm_self _) ?_
  refine g_if_eq (tgt := 2249) q_L_law_2244 (by decide) ⟨by omega, by omega⟩ (fun b7 => ?_) (fun b7 => ?_)
  case refine_2 => exact absurd rfl b7
  refine g_goto (tgt := 3063) q_L_law_2249 (by decide) ?_
  exact g_fl (kk _ _ _ hLI) ⟨rfl, rfl, rfl, rfl, rfl, trivial⟩
theorem la_30 (hΓ : Gd Γ) (hro : RO Γ b Ln f) (hfr : ∀ j, rg (f j)) (hi : i + 6 ≤ Ln) (hLn : Ln ≤ 3072) (hN : N < 600) (hI : LI σ x N R s) (kk : ∀ σ' R' s', LI σ' x (N + 1) R' s' → G Γ miL_law code Q noX (C + dC R' RM) (E + dS R' RM) 3063 [some (.ref b), some (.ref x), some (.ref (x + 54)), some (.ref (x + 88)), some (.int (ii (i : Int))), none, none] [] σ') : G Γ miL_law code Q noX (C + 8 + dC R RM) (E + 48 + dS R RM) 2252 [some (.ref b), some (.ref x), some (.ref (x + 54)), some (.ref (x + 88)), some (.int (ii (i : Int))), none, none] [] σ := by
  obtain ⟨len, tx, fa, z, l, wl, wr⟩ := s
  obtain ⟨hX, ⟨e0, hM⟩, g, ho⟩ := hI
  have hX : CX σ x (x + 89) N R len tx fa z l wl wr := hX
  have hM : MX σ (x + 54) e0 len tx fa z l wl wr := hM
  obtain ⟨av, ve, hx, -, -⟩ := hX.ob
  obtain ⟨hl1, hl2, h302⟩ := hX.low
  refine g_aload_n q_L_law_2252 rfl ?_
  refine g_aload_n q_L_law_2253 rfl ?_
  refine g_iload q_L_law_2254 rfl ?_
  refine g_iconst q_L_law_2256 ?_
  refine g_iadd q_L_law_2257 ?_
  refine g_topi (b := ((i + 1 : Nat) : Int)) (by omega) ?_
  refine g_iaload_ro q_L_law_2258 hro (by omega) (by omega) (by omega) ?_
  refine g_topi (b := f (i + 1)) (by rw [Int.toNat_natCast]) ?_
  refine g_aload_n q_L_law_2259 rfl ?_
  refine g_iload q_L_law_2260 rfl ?_
  refine g_iconst q_L_law_2262 ?_
  refine g_iadd q_L_law_2263 ?_
  refine g_topi (b := ((i + 2 : Nat) : Int)) (by omega) ?_
  refine g_iaload_ro q_L_law_2264 hro (by omega) (by omega) (by omega) ?_
  refine g_topi (b := f (i + 2)) (by rw [Int.toNat_natCast]) ?_
  refine g_aload_n q_L_law_2265 rfl ?_
  refine g_iload q_L_law_2266 rfl ?_
  refine g_iconst q_L_law_2268 ?_
  refine g_iadd q_L_law_2269 ?_
  refine g_topi (b := ((i + 3 : Nat) : Int)) (by omega) ?_
  refine g_iaload_ro q_L_law_2270 hro (by omega) (by omega) (by omega) ?_
  refine g_topi (b := f (i + 3)) (by rw [Int.toNat_natCast]) ?_
  refine g_aload_n q_L_law_2271 rfl ?_
  refine g_callSW (rc' := (C + dC _ RM)) (rs' := (E + dS _ RM)) (As := [_, _, _, _, _]) cs_L_246 q_L_law_2272 (sp_L_slack hΓ hx (Sp_w (sp_slack hΓ (by omega) hX (f (i + 1)) (f (i + 2)) (f (i + 3)) (hfr _) (hfr _) (hfr _) (Nat.le_refl _) (Nat.le_refl _))) (fun v σ' h => (h.2.2.2.2 (x + 88) (by omega) (by unfold fX inb; omega)).trans ho)) rfl rfl rfl (Nat.le_of_ble_eq_true rfl) (by decide) (rmC (rG_le _ _ _ _) (rG_302 h302 _ _ _)) (rmS (rG_le _ _ _ _) (rG_302 h302 _ _ _)) (fun v σ1 hq => ?_)
  obtain ⟨he4, rfl, hM1, ⟨g1, ho1, hg1⟩, hC0, hC1⟩ := lw_A (s := (len, tx, fa, z, l, wl, wr)) (s0 := (len, tx, fa, z, l, wl, wr)) (s1 := (len, tx, fa, z, l, wl, wr)) hX hM ho (fun σ' h => h) (fun σ' h => h) hq
  have hM1 : MX σ1 (x + 54) e0 len tx fa z l wl wr := hM1
  have hm1 := hM1
  obtain ⟨I8, A8, N8, -, hMC8, -⟩ := hm1
  have m80 := hMC8.1
  refine g_istore (L' := [_, _, _, _, _, _, _]) q_L_law_2275 (by decide) rfl ?_
  refine g_aload_n q_L_law_2277 rfl ?_
  refine g_aload_n q_L_law_2278 rfl ?_
  refine g_iload q_L_law_2279 rfl ?_
  refine g_iconst q_L_law_2281 ?_
  refine g_iadd q_L_law_2282 ?_
  refine g_topi (b := ((i + 1 : Nat) : Int)) (by omega) ?_
  refine g_iaload_ro q_L_law_2283 hro (by omega) (by omega) (by omega) ?_
  refine g_topi (b := f (i + 1)) (by rw [Int.toNat_natCast]) ?_
  refine g_aload_n q_L_law_2284 rfl ?_
  refine g_iload q_L_law_2285 rfl ?_
  refine g_iconst q_L_law_2287 ?_
  refine g_iadd q_L_law_2288 ?_
  refine g_topi (b := ((i + 2 : Nat) : Int)) (by omega) ?_
  refine g_iaload_ro q_L_law_2289 hro (by omega) (by omega) (by omega) ?_
  refine g_topi (b := f (i + 2)) (by rw [Int.toNat_natCast]) ?_
  refine g_aload_n q_L_law_2290 rfl ?_
  refine g_iload q_L_law_2291 rfl ?_
  refine g_iconst q_L_law_2293 ?_
  refine g_iadd q_L_law_2294 ?_
  refine g_topi (b := ((i + 3 : Nat) : Int)) (by omega) ?_
  refine g_iaload_ro q_L_law_2295 hro (by omega) (by omega) (by omega) ?_
  refine g_topi (b := f (i + 3)) (by rw [Int.toNat_natCast]) ?_
  refine g_callV (rc' := _) (rs' := _) (As := [_, _, _]) cs_L_248 q_L_law_2296 (sp_mslack hΓ hM1 (f (i + 1)) (f (i + 2)) (f (i + 3)) (hfr _) (hfr _) (hfr _)) rfl (by repeat first | with_reducible assumption | with_reducible exact hput_s _ _ _ | refine (hput_n _ _ (by omega)).trans ?_ | exact hput_s _ _ _ | assumption) rfl rfl rfl rfl (Nat.le_of_ble_eq_true rfl) (by decide) (Nat.le_refl _) (Nat.le_refl _) (fun _ _ h => h.elim) (fun v2 σ2 hq2 => ?_)
  obtain ⟨rfl, hM2, hE2⟩ := hq2
  obtain ⟨hLI, ho2⟩ := lw_B (s2 := (len, tx, fa, z, l, wl, wr)) ((Classical.em _).elim hC0 hC1) ho1 hM2 hE2
  obtain ⟨I9, A9, N9, i90, hMC9, -⟩ := hM2
  have m90 := hMC9.1
  refine g_istore (L' := [_, _, _, _, _, _, _]) q_L_law_2299 (by decide) rfl ?_
  refine g_aload_n q_L_law_2301 rfl ?_
  refine g_callV (rc' := _) (rs' := _) (As := []) cs_L_153 q_L_law_2302 (sp_thrown hΓ m90) rfl (by repeat first | with_reducible assumption | with_reducible exact hput_s _ _ _ | refine (hput_n _ _ (by omega)).trans ?_ | exact hput_s _ _ _ | assumption) rfl rfl rfl rfl (Nat.le_of_ble_eq_true rfl) (by decide) (Nat.le_refl _) (Nat.le_refl _) (fun _ _ h => h.elim) (k_ri ?_)
  rw [i90]
  refine g_iload q_L_law_2305 rfl ?_
  refine g_icmp_eqS (tgt := 2312) q_L_law_2307 (by decide) ?_
  refine g_iload q_L_law_2312 rfl ?_
  refine g_if_ne (tgt := 2329) q_L_law_2314 (by decide) ⟨by omega, by omega⟩ (fun b8 => ?_) (fun b8 => ?_)
  · -- it threw
    refine g_goto (tgt := 3063) q_L_law_2329 (by decide) ?_
    exact g_fl (kk _ _ _ hLI) ⟨rfl, rfl, rfl, rfl, rfl, trivial⟩
  refine g_aload_n q_L_law_2317 rfl ?_
  refine g_iconst q_L_law_2318 ?_
  refine g_laload q_L_law_2319 (by repeat first | with_reducible assumption | with_reducible exact hput_s _ _ _ | refine (hput_n _ _ (by omega)).trans ?_ | exact hput_s _ _ _ | assumption) (by omega) (by omega) ?_
  rw [show g1 (0 : Int).toNat = g1 0 from rfl, hg1 (by omega), if_pos (by omega)]
  refine g_iload q_L_law_2320 rfl ?_
  refine g_top (v' := .int (ii (cn _))) (congrArg Value.int (ii_cn _).symm) ?_
  refine g_i2l q_L_law_2322 (cn_rg _) ?_
  refine g_lcmp q_L_law_2323 ?_
  refine g_topi (b := 0) (lcm_self _) ?_
  refine g_if_eq (tgt := 2329) q_L_law_2324 (by decide) ⟨by omega, by omega⟩ (fun b7 => ?_) (fun b7 => ?_)
  case refine_2 => exact absurd rfl b7
  refine g_goto (tgt := 3063) q_L_law_2329 (by decide) ?_
  exact g_fl (kk _ _ _ hLI) ⟨rfl, rfl, rfl, rfl, rfl, trivial⟩
theorem la_31 (hΓ : Gd Γ) (hro : RO Γ b Ln f) (hfr : ∀ j, rg (f j)) (hi : i + 6 ≤ Ln) (hLn : Ln ≤ 3072) (hN : N < 600) (hI : LI σ x N R s) (kk : ∀ σ' R' s', LI σ' x (N + 1) R' s' → G Γ miL_law code Q noX (C + dC R' RM) (E + dS R' RM) 3063 [some (.ref b), some (.ref x), some (.ref (x + 54)), some (.ref (x + 88)), some (.int (ii (i : Int))), none, none] [] σ') : G Γ miL_law code Q noX (C + 8 + dC R RM) (E + 48 + dS R RM) 2332 [some (.ref b), some (.ref x), some (.ref (x + 54)), some (.ref (x + 88)), some (.int (ii (i : Int))), none, none] [] σ := by
  obtain ⟨len, tx, fa, z, l, wl, wr⟩ := s
  obtain ⟨hX, ⟨e0, hM⟩, g, ho⟩ := hI
  have hX : CX σ x (x + 89) N R len tx fa z l wl wr := hX
  have hM : MX σ (x + 54) e0 len tx fa z l wl wr := hM
  obtain ⟨av, ve, hx, -, -⟩ := hX.ob
  obtain ⟨hl1, hl2, h302⟩ := hX.low
  by_cases hb3 : f (i + 3) = 0
  · skip
    refine g_aload_n q_L_law_2332 rfl ?_
    refine g_aload_n q_L_law_2333 rfl ?_
    refine g_iload q_L_law_2334 rfl ?_
    refine g_iconst q_L_law_2336 ?_
    refine g_iadd q_L_law_2337 ?_
    refine g_topi (b := ((i + 1 : Nat) : Int)) (by omega) ?_
    refine g_iaload_ro q_L_law_2338 hro (by omega) (by omega) (by omega) ?_
    refine g_topi (b := f (i + 1)) (by rw [Int.toNat_natCast]) ?_
    refine g_aload_n q_L_law_2339 rfl ?_
    refine g_iload q_L_law_2340 rfl ?_
    refine g_iconst q_L_law_2342 ?_
    refine g_iadd q_L_law_2343 ?_
    refine g_topi (b := ((i + 2 : Nat) : Int)) (by omega) ?_
    refine g_iaload_ro q_L_law_2344 hro (by omega) (by omega) (by omega) ?_
    refine g_topi (b := f (i + 2)) (by rw [Int.toNat_natCast]) ?_
    refine g_aload_n q_L_law_2345 rfl ?_
    refine g_iload q_L_law_2346 rfl ?_
    refine g_iconst q_L_law_2348 ?_
    refine g_iadd q_L_law_2349 ?_
    refine g_topi (b := ((i + 3 : Nat) : Int)) (by omega) ?_
    refine g_iaload_ro q_L_law_2350 hro (by omega) (by omega) (by omega) ?_
    refine g_topi (b := f (i + 3)) (by rw [Int.toNat_natCast]) ?_
    refine g_if_eq (tgt := 2358) q_L_law_2351 (by decide) (hfr _) (fun b9 => ?_) (fun b9 => ?_)
    case refine_2 => exact absurd hb3 b9
    refine g_iconst q_L_law_2358 ?_
    refine g_topi (b := bi false) rfl ?_
    refine g_aload_n q_L_law_2359 rfl ?_
    refine g_callSW (rc' := (C + dC _ RM)) (rs' := (E + dS _ RM)) (As := [_, _, _, _, _]) cs_L_249 q_L_law_2360 (sp_L_critical hΓ hx (Sp_w (sp_critical hΓ (by omega) hX (f (i + 1)) (f (i + 2)) false (hfr _) (hfr _) (Nat.le_refl _) (Nat.le_refl _))) (fun v σ' h => (h.2.2.2.2 (x + 88) (by omega) (by unfold fX inb; omega)).trans ho)) rfl rfl rfl (Nat.le_of_ble_eq_true rfl) (by decide) (rmC (rG_le _ _ _ _) (rG_302 h302 _ _ _)) (rmS (rG_le _ _ _ _) (rG_302 h302 _ _ _)) (fun v σ1 hq => ?_)
    obtain ⟨he4, rfl, hM1, ⟨g1, ho1, hg1⟩, hC0, hC1⟩ := lw_A (s := (len, tx, fa, z, l, wl, wr)) (s0 := (len, tx, fa, z, l, wl, wr)) (s1 := (len, tx, fa, z, l, wl, wr)) hX hM ho (fun σ' h => h) (fun σ' h => h) hq
    have hM1 : MX σ1 (x + 54) e0 len tx fa z l wl wr := hM1
    have hm1 := hM1
    obtain ⟨I8, A8, N8, -, hMC8, -⟩ := hm1
    have m80 := hMC8.1
    refine g_istore (L' := [_, _, _, _, _, _, _]) q_L_law_2363 (by decide) rfl ?_
    refine g_aload_n q_L_law_2365 rfl ?_
    refine g_aload_n q_L_law_2366 rfl ?_
    refine g_iload q_L_law_2367 rfl ?_
    refine g_iconst q_L_law_2369 ?_
    refine g_iadd q_L_law_2370 ?_
    refine g_topi (b := ((i + 1 : Nat) : Int)) (by omega) ?_
    refine g_iaload_ro q_L_law_2371 hro (by omega) (by omega) (by omega) ?_
    refine g_topi (b := f (i + 1)) (by rw [Int.toNat_natCast]) ?_
    refine g_aload_n q_L_law_2372 rfl ?_
    refine g_iload q_L_law_2373 rfl ?_
    refine g_iconst q_L_law_2375 ?_
    refine g_iadd q_L_law_2376 ?_
    refine g_topi (b := ((i + 2 : Nat) : Int)) (by omega) ?_
    refine g_iaload_ro q_L_law_2377 hro (by omega) (by omega) (by omega) ?_
    refine g_topi (b := f (i + 2)) (by rw [Int.toNat_natCast]) ?_
    refine g_aload_n q_L_law_2378 rfl ?_
    refine g_iload q_L_law_2379 rfl ?_
    refine g_iconst q_L_law_2381 ?_
    refine g_iadd q_L_law_2382 ?_
    refine g_topi (b := ((i + 3 : Nat) : Int)) (by omega) ?_
    refine g_iaload_ro q_L_law_2383 hro (by omega) (by omega) (by omega) ?_
    refine g_topi (b := f (i + 3)) (by rw [Int.toNat_natCast]) ?_
    refine g_if_eq (tgt := 2391) q_L_law_2384 (by decide) (hfr _) (fun b9 => ?_) (fun b9 => ?_)
    case refine_2 => exact absurd hb3 b9
    refine g_iconst q_L_law_2391 ?_
    refine g_topi (b := bi false) rfl ?_
    refine g_callV (rc' := _) (rs' := _) (As := [_, _, _]) cs_L_252 q_L_law_2392 (sp_mcritical hΓ hM1 (f (i + 1)) (f (i + 2)) false (hfr _) (hfr _)) rfl (by repeat first | with_reducible assumption | with_reducible exact hput_s _ _ _ | refine (hput_n _ _ (by omega)).trans ?_ | exact hput_s _ _ _ | assumption) rfl rfl rfl rfl (Nat.le_of_ble_eq_true rfl) (by decide) (Nat.le_refl _) (Nat.le_refl _) (fun _ _ h => h.elim) (fun v2 σ2 hq2 => ?_)
    obtain ⟨rfl, hM2, hE2⟩ := hq2
    obtain ⟨hLI, ho2⟩ := lw_B (s2 := (len, tx, fa, z, l, wl, wr)) ((Classical.em _).elim hC0 hC1) ho1 hM2 hE2
    obtain ⟨I9, A9, N9, i90, hMC9, -⟩ := hM2
    have m90 := hMC9.1
    refine g_istore (L' := [_, _, _, _, _, _, _]) q_L_law_2395 (by decide) rfl ?_
    refine g_aload_n q_L_law_2397 rfl ?_
    refine g_callV (rc' := _) (rs' := _) (As := []) cs_L_153 q_L_law_2398 (sp_thrown hΓ m90) rfl (by repeat first | with_reducible assumption | with_reducible exact hput_s _ _ _ | refine (hput_n _ _ (by omega)).trans ?_ | exact hput_s _ _ _ | assumption) rfl rfl rfl rfl (Nat.le_of_ble_eq_true rfl) (by decide) (Nat.le_refl _) (Nat.le_refl _) (fun _ _ h => h.elim) (k_ri ?_)
    rw [i90]
    refine g_iload q_L_law_2401 rfl ?_
    refine g_icmp_eqS (tgt := 2408) q_L_law_2403 (by decide) ?_
    refine g_iload q_L_law_2408 rfl ?_
    refine g_if_ne (tgt := 2425) q_L_law_2410 (by decide) ⟨by omega, by omega⟩ (fun b8 => ?_) (fun b8 => ?_)
    · -- it threw
      refine g_goto (tgt := 3063) q_L_law_2425 (by decide) ?_
      exact g_fl (kk _ _ _ hLI) ⟨rfl, rfl, rfl, rfl, rfl, trivial⟩
    refine g_aload_n q_L_law_2413 rfl ?_
    refine g_iconst q_L_law_2414 ?_
    refine g_laload q_L_law_2415 (by repeat first | with_reducible assumption | with_reducible exact hput_s _ _ _ | refine (hput_n _ _ (by omega)).trans ?_ | exact hput_s _ _ _ | assumption) (by omega) (by omega) ?_
    rw [show g1 (0 : Int).toNat = g1 0 from rfl, hg1 (by omega), if_pos (by omega)]
    refine g_iload q_L_law_2416 rfl ?_
    refine g_top (v' := .int (ii (cn _))) (congrArg Value.int (ii_cn _).symm) ?_
    refine g_i2l q_L_law_2418 (cn_rg _) ?_
    refine g_lcmp q_L_law_2419 ?_
    refine g_topi (b := 0) (lcm_self _) ?_
    refine g_if_eq (tgt := 2425) q_L_law_2420 (by decide) ⟨by omega, by omega⟩ (fun b7 => ?_) (fun b7 => ?_)
    case refine_2 => exact absurd rfl b7
    refine g_goto (tgt := 3063) q_L_law_2425 (by decide) ?_
    exact g_fl (kk _ _ _ hLI) ⟨rfl, rfl, rfl, rfl, rfl, trivial⟩
  · skip
    refine g_aload_n q_L_law_2332 rfl ?_
    refine g_aload_n q_L_law_2333 rfl ?_
    refine g_iload q_L_law_2334 rfl ?_
    refine g_iconst q_L_law_2336 ?_
    refine g_iadd q_L_law_2337 ?_
    refine g_topi (b := ((i + 1 : Nat) : Int)) (by omega) ?_
    refine g_iaload_ro q_L_law_2338 hro (by omega) (by omega) (by omega) ?_
    refine g_topi (b := f (i + 1)) (by rw [Int.toNat_natCast]) ?_
    refine g_aload_n q_L_law_2339 rfl ?_
    refine g_iload q_L_law_2340 rfl ?_
    refine g_iconst q_L_law_2342 ?_
    refine g_iadd q_L_law_2343 ?_
    refine g_topi (b := ((i + 2 : Nat) : Int)) (by omega) ?_
    refine g_iaload_ro q_L_law_2344 hro (by omega) (by omega) (by omega) ?_
    refine g_topi (b := f (i + 2)) (by rw [Int.toNat_natCast]) ?_
    refine g_aload_n q_L_law_2345 rfl ?_
    refine g_iload q_L_law_2346 rfl ?_
    refine g_iconst q_L_law_2348 ?_
    refine g_iadd q_L_law_2349 ?_
    refine g_topi (b := ((i + 3 : Nat) : Int)) (by omega) ?_
    refine g_iaload_ro q_L_law_2350 hro (by omega) (by omega) (by omega) ?_
    refine g_topi (b := f (i + 3)) (by rw [Int.toNat_natCast]) ?_
    refine g_if_eq (tgt := 2358) q_L_law_2351 (by decide) (hfr _) (fun b9 => ?_) (fun b9 => ?_)
    case refine_1 => exact absurd b9 hb3
    refine g_iconst q_L_law_2354 ?_
    refine g_goto (tgt := 2359) q_L_law_2355 (by decide) ?_
    refine g_topi (b := bi true) rfl ?_
    refine g_aload_n q_L_law_2359 rfl ?_
    refine g_callSW (rc' := (C + dC _ RM)) (rs' := (E + dS _ RM)) (As := [_, _, _, _, _]) cs_L_249 q_L_law_2360 (sp_L_critical hΓ hx (Sp_w (sp_critical hΓ (by omega) hX (f (i + 1)) (f (i + 2)) true (hfr _) (hfr _) (Nat.le_refl _) (Nat.le_refl _))) (fun v σ' h => (h.2.2.2.2 (x + 88) (by omega) (by unfold fX inb; omega)).trans ho)) rfl rfl rfl (Nat.le_of_ble_eq_true rfl) (by decide) (rmC (rG_le _ _ _ _) (rG_302 h302 _ _ _)) (rmS (rG_le _ _ _ _) (rG_302 h302 _ _ _)) (fun v σ1 hq => ?_)
    obtain ⟨he4, rfl, hM1, ⟨g1, ho1, hg1⟩, hC0, hC1⟩ := lw_A (s := (len, tx, fa, z, l, wl, wr)) (s0 := (len, tx, fa, z, l, wl, wr)) (s1 := (len, tx, fa, z, l, wl, wr)) hX hM ho (fun σ' h => h) (fun σ' h => h) hq
    have hM1 : MX σ1 (x + 54) e0 len tx fa z l wl wr := hM1
    have hm1 := hM1
    obtain ⟨I8, A8, N8, -, hMC8, -⟩ := hm1
    have m80 := hMC8.1
    refine g_istore (L' := [_, _, _, _, _, _, _]) q_L_law_2363 (by decide) rfl ?_
    refine g_aload_n q_L_law_2365 rfl ?_
    refine g_aload_n q_L_law_2366 rfl ?_
    refine g_iload q_L_law_2367 rfl ?_
    refine g_iconst q_L_law_2369 ?_
    refine g_iadd q_L_law_2370 ?_
    refine g_topi (b := ((i + 1 : Nat) : Int)) (by omega) ?_
    refine g_iaload_ro q_L_law_2371 hro (by omega) (by omega) (by omega) ?_
    refine g_topi (b := f (i + 1)) (by rw [Int.toNat_natCast]) ?_
    refine g_aload_n q_L_law_2372 rfl ?_
    refine g_iload q_L_law_2373 rfl ?_
    refine g_iconst q_L_law_2375 ?_
    refine g_iadd q_L_law_2376 ?_
    refine g_topi (b := ((i + 2 : Nat) : Int)) (by omega) ?_
    refine g_iaload_ro q_L_law_2377 hro (by omega) (by omega) (by omega) ?_
    refine g_topi (b := f (i + 2)) (by rw [Int.toNat_natCast]) ?_
    refine g_aload_n q_L_law_2378 rfl ?_
    refine g_iload q_L_law_2379 rfl ?_
    refine g_iconst q_L_law_2381 ?_
    refine g_iadd q_L_law_2382 ?_
    refine g_topi (b := ((i + 3 : Nat) : Int)) (by omega) ?_
    refine g_iaload_ro q_L_law_2383 hro (by omega) (by omega) (by omega) ?_
    refine g_topi (b := f (i + 3)) (by rw [Int.toNat_natCast]) ?_
    refine g_if_eq (tgt := 2391) q_L_law_2384 (by decide) (hfr _) (fun b9 => ?_) (fun b9 => ?_)
    case refine_1 => exact absurd b9 hb3
    refine g_iconst q_L_law_2387 ?_
    refine g_goto (tgt := 2392) q_L_law_2388 (by decide) ?_
    refine g_topi (b := bi true) rfl ?_
    refine g_callV (rc' := _) (rs' := _) (As := [_, _, _]) cs_L_252 q_L_law_2392 (sp_mcritical hΓ hM1 (f (i + 1)) (f (i + 2)) true (hfr _) (hfr _)) rfl (by repeat first | with_reducible assumption | with_reducible exact hput_s _ _ _ | refine (hput_n _ _ (by omega)).trans ?_ | exact hput_s _ _ _ | assumption) rfl rfl rfl rfl (Nat.le_of_ble_eq_true rfl) (by decide) (Nat.le_refl _) (Nat.le_refl _) (fun _ _ h => h.elim) (fun v2 σ2 hq2 => ?_)
    obtain ⟨rfl, hM2, hE2⟩ := hq2
    obtain ⟨hLI, ho2⟩ := lw_B (s2 := (len, tx, fa, z, l, wl, wr)) ((Classical.em _).elim hC0 hC1) ho1 hM2 hE2
    obtain ⟨I9, A9, N9, i90, hMC9, -⟩ := hM2
    have m90 := hMC9.1
    refine g_istore (L' := [_, _, _, _, _, _, _]) q_L_law_2395 (by decide) rfl ?_
    refine g_aload_n q_L_law_2397 rfl ?_
    refine g_callV (rc' := _) (rs' := _) (As := []) cs_L_153 q_L_law_2398 (sp_thrown hΓ m90) rfl (by repeat first | with_reducible assumption | with_reducible exact hput_s _ _ _ | refine (hput_n _ _ (by omega)).trans ?_ | exact hput_s _ _ _ | assumption) rfl rfl rfl rfl (Nat.le_of_ble_eq_true rfl) (by decide) (Nat.le_refl _) (Nat.le_refl _) (fun _ _ h => h.elim) (k_ri ?_)
    rw [i90]
    refine g_iload q_L_law_2401 rfl ?_
    refine g_icmp_eqS (tgt := 2408) q_L_law_2403 (by decide) ?_
    refine g_iload q_L_law_2408 rfl ?_
    refine g_if_ne (tgt := 2425) q_L_law_2410 (by decide) ⟨by omega, by omega⟩ (fun b8 => ?_) (fun b8 => ?_)
    · -- it threw
      refine g_goto (tgt := 3063) q_L_law_2425 (by decide) ?_
      exact g_fl (kk _ _ _ hLI) ⟨rfl, rfl, rfl, rfl, rfl, trivial⟩
    refine g_aload_n q_L_law_2413 rfl ?_
    refine g_iconst q_L_law_2414 ?_
    refine g_laload q_L_law_2415 (by repeat first | with_reducible assumption | with_reducible exact hput_s _ _ _ | refine (hput_n _ _ (by omega)).trans ?_ | exact hput_s _ _ _ | assumption) (by omega) (by omega) ?_
    rw [show g1 (0 : Int).toNat = g1 0 from rfl, hg1 (by omega), if_pos (by omega)]
    refine g_iload q_L_law_2416 rfl ?_
    refine g_top (v' := .int (ii (cn _))) (congrArg Value.int (ii_cn _).symm) ?_
    refine g_i2l q_L_law_2418 (cn_rg _) ?_
    refine g_lcmp q_L_law_2419 ?_
    refine g_topi (b := 0) (lcm_self _) ?_
    refine g_if_eq (tgt := 2425) q_L_law_2420 (by decide) ⟨by omega, by omega⟩ (fun b7 => ?_) (fun b7 => ?_)
    case refine_2 => exact absurd rfl b7
    refine g_goto (tgt := 3063) q_L_law_2425 (by decide) ?_
    exact g_fl (kk _ _ _ hLI) ⟨rfl, rfl, rfl, rfl, rfl, trivial⟩
theorem la_32 (hΓ : Gd Γ) (hro : RO Γ b Ln f) (hfr : ∀ j, rg (f j)) (hi : i + 6 ≤ Ln) (hLn : Ln ≤ 3072) (hN : N < 600) (hI : LI σ x N R s) (kk : ∀ σ' R' s', LI σ' x (N + 1) R' s' → G Γ miL_law code Q noX (C + dC R' RM) (E + dS R' RM) 3063 [some (.ref b), some (.ref x), some (.ref (x + 54)), some (.ref (x + 88)), some (.int (ii (i : Int))), none, none] [] σ') : G Γ miL_law code Q noX (C + 8 + dC R RM) (E + 48 + dS R RM) 2428 [some (.ref b), some (.ref x), some (.ref (x + 54)), some (.ref (x + 88)), some (.int (ii (i : Int))), none, none] [] σ := by
  obtain ⟨len, tx, fa, z, l, wl, wr⟩ := s
  obtain ⟨hX, ⟨e0, hM⟩, g, ho⟩ := hI
  have hX : CX σ x (x + 89) N R len tx fa z l wl wr := hX
  have hM : MX σ (x + 54) e0 len tx fa z l wl wr := hM
  obtain ⟨av, ve, hx, -, -⟩ := hX.ob
  obtain ⟨hl1, hl2, h302⟩ := hX.low
  refine g_aload_n q_L_law_2428 rfl ?_
  refine g_aload_n q_L_law_2429 rfl ?_
  refine g_iload q_L_law_2430 rfl ?_
  refine g_iconst q_L_law_2432 ?_
  refine g_iadd q_L_law_2433 ?_
  refine g_topi (b := ((i + 1 : Nat) : Int)) (by omega) ?_
  refine g_iaload_ro q_L_law_2434 hro (by omega) (by omega) (by omega) ?_
  refine g_topi (b := f (i + 1)) (by rw [Int.toNat_natCast]) ?_
  refine g_aload_n q_L_law_2435 rfl ?_
  refine g_iload q_L_law_2436 rfl ?_
  refine g_iconst q_L_law_2438 ?_
  refine g_iadd q_L_law_2439 ?_
  refine g_topi (b := ((i + 2 : Nat) : Int)) (by omega) ?_
  refine g_iaload_ro q_L_law_2440 hro (by omega) (by omega) (by omega) ?_
  refine g_topi (b := f (i + 2)) (by rw [Int.toNat_natCast]) ?_
  refine g_aload_n q_L_law_2441 rfl ?_
  refine g_callSW (rc' := (C + dC _ RM)) (rs' := (E + dS _ RM)) (As := [_, _, _, _]) cs_L_253 q_L_law_2442 (sp_L_ended hΓ hx (Sp_w (sp_ended hΓ (by omega) hX (f (i + 1)) (f (i + 2)) (hfr _) (hfr _) (Nat.le_refl _) (Nat.le_refl _))) (fun v σ' h => (h.2.2.2.2 (x + 88) (by omega) (by unfold fX inb; omega)).trans ho)) rfl rfl rfl (Nat.le_of_ble_eq_true rfl) (by decide) (rmC (rG_le _ _ _ _) (rG_302 h302 _ _ _)) (rmS (rG_le _ _ _ _) (rG_302 h302 _ _ _)) (fun v σ1 hq => ?_)
  obtain ⟨he4, rfl, hM1, ⟨g1, ho1, hg1⟩, hC0, hC1⟩ := lw_A (s := (len, tx, fa, z, l, wl, wr)) (s0 := (len, tx, fa, z, l, wl, wr)) (s1 := (len, tx, fa, z, l, wl, wr)) hX hM ho (fun σ' h => h) (fun σ' h => h) hq
  have hM1 : MX σ1 (x + 54) e0 len tx fa z l wl wr := hM1
  have hm1 := hM1
  obtain ⟨I8, A8, N8, -, hMC8, -⟩ := hm1
  have m80 := hMC8.1
  refine g_istore (L' := [_, _, _, _, _, _, _]) q_L_law_2445 (by decide) rfl ?_
  refine g_aload_n q_L_law_2447 rfl ?_
  refine g_aload_n q_L_law_2448 rfl ?_
  refine g_iload q_L_law_2449 rfl ?_
  refine g_iconst q_L_law_2451 ?_
  refine g_iadd q_L_law_2452 ?_
  refine g_topi (b := ((i + 1 : Nat) : Int)) (by omega) ?_
  refine g_iaload_ro q_L_law_2453 hro (by omega) (by omega) (by omega) ?_
  refine g_topi (b := f (i + 1)) (by rw [Int.toNat_natCast]) ?_
  refine g_aload_n q_L_law_2454 rfl ?_
  refine g_iload q_L_law_2455 rfl ?_
  refine g_iconst q_L_law_2457 ?_
  refine g_iadd q_L_law_2458 ?_
  refine g_topi (b := ((i + 2 : Nat) : Int)) (by omega) ?_
  refine g_iaload_ro q_L_law_2459 hro (by omega) (by omega) (by omega) ?_
  refine g_topi (b := f (i + 2)) (by rw [Int.toNat_natCast]) ?_
  refine g_callV (rc' := _) (rs' := _) (As := [_, _]) cs_L_255 q_L_law_2460 (sp_mended hΓ hM1 (f (i + 1)) (f (i + 2)) (hfr _) (hfr _)) rfl (by repeat first | with_reducible assumption | with_reducible exact hput_s _ _ _ | refine (hput_n _ _ (by omega)).trans ?_ | exact hput_s _ _ _ | assumption) rfl rfl rfl rfl (Nat.le_of_ble_eq_true rfl) (by decide) (Nat.le_refl _) (Nat.le_refl _) (fun _ _ h => h.elim) (fun v2 σ2 hq2 => ?_)
  obtain ⟨rfl, hM2, hE2⟩ := hq2
  obtain ⟨hLI, ho2⟩ := lw_B (s2 := (len, tx, fa, z, l, wl, wr)) ((Classical.em _).elim hC0 hC1) ho1 hM2 hE2
  obtain ⟨I9, A9, N9, i90, hMC9, -⟩ := hM2
  have m90 := hMC9.1
  refine g_istore (L' := [_, _, _, _, _, _, _]) q_L_law_2463 (by decide) rfl ?_
  refine g_aload_n q_L_law_2465 rfl ?_
  refine g_callV (rc' := _) (rs' := _) (As := []) cs_L_153 q_L_law_2466 (sp_thrown hΓ m90) rfl (by repeat first | with_reducible assumption | with_reducible exact hput_s _ _ _ | refine (hput_n _ _ (by omega)).trans ?_ | exact hput_s _ _ _ | assumption) rfl rfl rfl rfl (Nat.le_of_ble_eq_true rfl) (by decide) (Nat.le_refl _) (Nat.le_refl _) (fun _ _ h => h.elim) (k_ri ?_)
  rw [i90]
  refine g_iload q_L_law_2469 rfl ?_
  refine g_icmp_eqS (tgt := 2476) q_L_law_2471 (by decide) ?_
  refine g_iload q_L_law_2476 rfl ?_
  refine g_if_ne (tgt := 2493) q_L_law_2478 (by decide) ⟨by omega, by omega⟩ (fun b8 => ?_) (fun b8 => ?_)
  · -- it threw
    refine g_goto (tgt := 3063) q_L_law_2493 (by decide) ?_
    exact g_fl (kk _ _ _ hLI) ⟨rfl, rfl, rfl, rfl, rfl, trivial⟩
  refine g_aload_n q_L_law_2481 rfl ?_
  refine g_iconst q_L_law_2482 ?_
  refine g_laload q_L_law_2483 (by repeat first | with_reducible assumption | with_reducible exact hput_s _ _ _ | refine (hput_n _ _ (by omega)).trans ?_ | exact hput_s _ _ _ | assumption) (by omega) (by omega) ?_
  rw [show g1 (0 : Int).toNat = g1 0 from rfl, hg1 (by omega), if_pos (by omega)]
  refine g_iload q_L_law_2484 rfl ?_
  refine g_top (v' := .int (ii (cn _))) (congrArg Value.int (ii_cn _).symm) ?_
  refine g_i2l q_L_law_2486 (cn_rg _) ?_
  refine g_lcmp q_L_law_2487 ?_
  refine g_topi (b := 0) (lcm_self _) ?_
  refine g_if_eq (tgt := 2493) q_L_law_2488 (by decide) ⟨by omega, by omega⟩ (fun b7 => ?_) (fun b7 => ?_)
  case refine_2 => exact absurd rfl b7
  refine g_goto (tgt := 3063) q_L_law_2493 (by decide) ?_
  exact g_fl (kk _ _ _ hLI) ⟨rfl, rfl, rfl, rfl, rfl, trivial⟩
theorem la_33 (hΓ : Gd Γ) (hro : RO Γ b Ln f) (hfr : ∀ j, rg (f j)) (hi : i + 6 ≤ Ln) (hLn : Ln ≤ 3072) (hN : N < 600) (hI : LI σ x N R s) (kk : ∀ σ' R' s', LI σ' x (N + 1) R' s' → G Γ miL_law code Q noX (C + dC R' RM) (E + dS R' RM) 3063 [some (.ref b), some (.ref x), some (.ref (x + 54)), some (.ref (x + 88)), some (.int (ii (i : Int))), none, none] [] σ') : G Γ miL_law code Q noX (C + 8 + dC R RM) (E + 48 + dS R RM) 2496 [some (.ref b), some (.ref x), some (.ref (x + 54)), some (.ref (x + 88)), some (.int (ii (i : Int))), none, none] [] σ := by
  obtain ⟨len, tx, fa, z, l, wl, wr⟩ := s
  obtain ⟨hX, ⟨e0, hM⟩, g, ho⟩ := hI
  have hX : CX σ x (x + 89) N R len tx fa z l wl wr := hX
  have hM : MX σ (x + 54) e0 len tx fa z l wl wr := hM
  obtain ⟨av, ve, hx, -, -⟩ := hX.ob
  obtain ⟨hl1, hl2, h302⟩ := hX.low
  refine g_aload_n q_L_law_2496 rfl ?_
  refine g_aload_n q_L_law_2497 rfl ?_
  refine g_iload q_L_law_2498 rfl ?_
  refine g_iconst q_L_law_2500 ?_
  refine g_iadd q_L_law_2501 ?_
  refine g_topi (b := ((i + 1 : Nat) : Int)) (by omega) ?_
  refine g_iaload_ro q_L_law_2502 hro (by omega) (by omega) (by omega) ?_
  refine g_topi (b := f (i + 1)) (by rw [Int.toNat_natCast]) ?_
  refine g_aload_n q_L_law_2503 rfl ?_
  refine g_iload q_L_law_2504 rfl ?_
  refine g_iconst q_L_law_2506 ?_
  refine g_iadd q_L_law_2507 ?_
  refine g_topi (b := ((i + 2 : Nat) : Int)) (by omega) ?_
  refine g_iaload_ro q_L_law_2508 hro (by omega) (by omega) (by omega) ?_
  refine g_topi (b := f (i + 2)) (by rw [Int.toNat_natCast]) ?_
  refine g_aload_n q_L_law_2509 rfl ?_
  refine g_iload q_L_law_2510 rfl ?_
  refine g_iconst q_L_law_2512 ?_
  refine g_iadd q_L_law_2513 ?_
  refine g_topi (b := ((i + 3 : Nat) : Int)) (by omega) ?_
  refine g_iaload_ro q_L_law_2514 hro (by omega) (by omega) (by omega) ?_
  refine g_topi (b := f (i + 3)) (by rw [Int.toNat_natCast]) ?_
  refine g_aload_n q_L_law_2515 rfl ?_
  refine g_callSW (rc' := (C + dC _ RM)) (rs' := (E + dS _ RM)) (As := [_, _, _, _, _]) cs_L_256 q_L_law_2516 (sp_L_way hΓ hx (Sp_w (sp_way hΓ (by omega) hX (f (i + 1)) (f (i + 2)) (f (i + 3)) (hfr _) (hfr _) (hfr _) (Nat.le_refl _) (Nat.le_refl _))) (fun v σ' h => (h.2.2.2.2 (x + 88) (by omega) (by unfold fX inb; omega)).trans ho)) rfl rfl rfl (Nat.le_of_ble_eq_true rfl) (by decide) (rmC (rG_le _ _ _ _) (rG_302 h302 _ _ _)) (rmS (rG_le _ _ _ _) (rG_302 h302 _ _ _)) (fun v σ1 hq => ?_)
  obtain ⟨he4, rfl, hM1, ⟨g1, ho1, hg1⟩, hC0, hC1⟩ := lw_A (s := (len, tx, fa, z, l, wl, wr)) (s0 := (len, tx, fa, z, l, wl, wr)) (s1 := (len, tx, fa, z, l, wl, wr)) hX hM ho (fun σ' h => h) (fun σ' h => h) hq
  have hM1 : MX σ1 (x + 54) e0 len tx fa z l wl wr := hM1
  have hm1 := hM1
  obtain ⟨I8, A8, N8, -, hMC8, -⟩ := hm1
  have m80 := hMC8.1
  refine g_istore (L' := [_, _, _, _, _, _, _]) q_L_law_2519 (by decide) rfl ?_
  refine g_aload_n q_L_law_2521 rfl ?_
  refine g_aload_n q_L_law_2522 rfl ?_
  refine g_iload q_L_law_2523 rfl ?_
  refine g_iconst q_L_law_2525 ?_
  refine g_iadd q_L_law_2526 ?_
  refine g_topi (b := ((i + 1 : Nat) : Int)) (by omega) ?_
  refine g_iaload_ro q_L_law_2527 hro (by omega) (by omega) (by omega) ?_
  refine g_topi (b := f (i + 1)) (by rw [Int.toNat_natCast]) ?_
  refine g_aload_n q_L_law_2528 rfl ?_
  refine g_iload q_L_law_2529 rfl ?_
  refine g_iconst q_L_law_2531 ?_
  refine g_iadd q_L_law_2532 ?_
  refine g_topi (b := ((i + 2 : Nat) : Int)) (by omega) ?_
  refine g_iaload_ro q_L_law_2533 hro (by omega) (by omega) (by omega) ?_
  refine g_topi (b := f (i + 2)) (by rw [Int.toNat_natCast]) ?_
  refine g_aload_n q_L_law_2534 rfl ?_
  refine g_iload q_L_law_2535 rfl ?_
  refine g_iconst q_L_law_2537 ?_
  refine g_iadd q_L_law_2538 ?_
  refine g_topi (b := ((i + 3 : Nat) : Int)) (by omega) ?_
  refine g_iaload_ro q_L_law_2539 hro (by omega) (by omega) (by omega) ?_
  refine g_topi (b := f (i + 3)) (by rw [Int.toNat_natCast]) ?_
  refine g_callV (rc' := _) (rs' := _) (As := [_, _, _]) cs_L_258 q_L_law_2540 (sp_mway hΓ hM1 (f (i + 1)) (f (i + 2)) (f (i + 3)) (hfr _) (hfr _) (hfr _)) rfl (by repeat first | with_reducible assumption | with_reducible exact hput_s _ _ _ | refine (hput_n _ _ (by omega)).trans ?_ | exact hput_s _ _ _ | assumption) rfl rfl rfl rfl (Nat.le_of_ble_eq_true rfl) (by decide) (Nat.le_refl _) (Nat.le_refl _) (fun _ _ h => h.elim) (fun v2 σ2 hq2 => ?_)
  obtain ⟨rfl, hM2, hE2⟩ := hq2
  obtain ⟨hLI, ho2⟩ := lw_B (s2 := (len, tx, fa, z, l, wl, wr)) ((Classical.em _).elim hC0 hC1) ho1 hM2 hE2
  obtain ⟨I9, A9, N9, i90, hMC9, -⟩ := hM2
  have m90 := hMC9.1
  refine g_istore (L' := [_, _, _, _, _, _, _]) q_L_law_2543 (by decide) rfl ?_
  refine g_aload_n q_L_law_2545 rfl ?_
  refine g_callV (rc' := _) (rs' := _) (As := []) cs_L_153 q_L_law_2546 (sp_thrown hΓ m90) rfl (by repeat first | with_reducible assumption | with_reducible exact hput_s _ _ _ | refine (hput_n _ _ (by omega)).trans ?_ | exact hput_s _ _ _ | assumption) rfl rfl rfl rfl (Nat.le_of_ble_eq_true rfl) (by decide) (Nat.le_refl _) (Nat.le_refl _) (fun _ _ h => h.elim) (k_ri ?_)
  rw [i90]
  refine g_iload q_L_law_2549 rfl ?_
  refine g_icmp_eqS (tgt := 2556) q_L_law_2551 (by decide) ?_
  refine g_iload q_L_law_2556 rfl ?_
  refine g_if_ne (tgt := 2573) q_L_law_2558 (by decide) ⟨by omega, by omega⟩ (fun b8 => ?_) (fun b8 => ?_)
  · -- it threw
    refine g_goto (tgt := 3063) q_L_law_2573 (by decide) ?_
    exact g_fl (kk _ _ _ hLI) ⟨rfl, rfl, rfl, rfl, rfl, trivial⟩
  refine g_aload_n q_L_law_2561 rfl ?_
  refine g_iconst q_L_law_2562 ?_
  refine g_laload q_L_law_2563 (by repeat first | with_reducible assumption | with_reducible exact hput_s _ _ _ | refine (hput_n _ _ (by omega)).trans ?_ | exact hput_s _ _ _ | assumption) (by omega) (by omega) ?_
  rw [show g1 (0 : Int).toNat = g1 0 from rfl, hg1 (by omega), if_pos (by omega)]
  refine g_iload q_L_law_2564 rfl ?_
  refine g_top (v' := .int (ii (cn _))) (congrArg Value.int (ii_cn _).symm) ?_
  refine g_i2l q_L_law_2566 (cn_rg _) ?_
  refine g_lcmp q_L_law_2567 ?_
  refine g_topi (b := 0) (lcm_self _) ?_
  refine g_if_eq (tgt := 2573) q_L_law_2568 (by decide) ⟨by omega, by omega⟩ (fun b7 => ?_) (fun b7 => ?_)
  case refine_2 => exact absurd rfl b7
  refine g_goto (tgt := 3063) q_L_law_2573 (by decide) ?_
  exact g_fl (kk _ _ _ hLI) ⟨rfl, rfl, rfl, rfl, rfl, trivial⟩
theorem la_34 (hΓ : Gd Γ) (hro : RO Γ b Ln f) (hfr : ∀ j, rg (f j)) (hi : i + 6 ≤ Ln) (hLn : Ln ≤ 3072) (hN : N < 600) (hI : LI σ x N R s) (kk : ∀ σ' R' s', LI σ' x (N + 1) R' s' → G Γ miL_law code Q noX (C + dC R' RM) (E + dS R' RM) 3063 [some (.ref b), some (.ref x), some (.ref (x + 54)), some (.ref (x + 88)), some (.int (ii (i : Int))), none, none] [] σ') : G Γ miL_law code Q noX (C + 8 + dC R RM) (E + 48 + dS R RM) 2576 [some (.ref b), some (.ref x), some (.ref (x + 54)), some (.ref (x + 88)), some (.int (ii (i : Int))), none, none] [] σ := by
  obtain ⟨len, tx, fa, z, l, wl, wr⟩ := s
  obtain ⟨hX, ⟨e0, hM⟩, g, ho⟩ := hI
  have hX : CX σ x (x + 89) N R len tx fa z l wl wr := hX
  have hM : MX σ (x + 54) e0 len tx fa z l wl wr := hM
  obtain ⟨av, ve, hx, -, -⟩ := hX.ob
  obtain ⟨hl1, hl2, h302⟩ := hX.low
  refine g_aload_n q_L_law_2576 rfl ?_
  refine g_aload_n q_L_law_2577 rfl ?_
  refine g_iload q_L_law_2578 rfl ?_
  refine g_iconst q_L_law_2580 ?_
  refine g_iadd q_L_law_2581 ?_
  refine g_topi (b := ((i + 1 : Nat) : Int)) (by omega) ?_
  refine g_iaload_ro q_L_law_2582 hro (by omega) (by omega) (by omega) ?_
  refine g_topi (b := f (i + 1)) (by rw [Int.toNat_natCast]) ?_
  refine g_aload_n q_L_law_2583 rfl ?_
  refine g_iload q_L_law_2584 rfl ?_
  refine g_iconst q_L_law_2586 ?_
  refine g_iadd q_L_law_2587 ?_
  refine g_topi (b := ((i + 2 : Nat) : Int)) (by omega) ?_
  refine g_iaload_ro q_L_law_2588 hro (by omega) (by omega) (by omega) ?_
  refine g_topi (b := f (i + 2)) (by rw [Int.toNat_natCast]) ?_
  refine g_aload_n q_L_law_2589 rfl ?_
  refine g_callSW (rc' := (C + dC _ RM)) (rs' := (E + dS _ RM)) (As := [_, _, _, _]) cs_L_259 q_L_law_2590 (sp_L_again hΓ hx (Sp_w (sp_again hΓ (by omega) hX (f (i + 1)) (f (i + 2)) (hfr _) (hfr _) (Nat.le_refl _) (Nat.le_refl _))) (fun v σ' h => (h.2.2.2.2 (x + 88) (by omega) (by unfold fX inb; omega)).trans ho)) rfl rfl rfl (Nat.le_of_ble_eq_true rfl) (by decide) (rmC (agR_le _ _ _ _) (agR_302 h302 _ _ _)) (rmS (agR_le _ _ _ _) (agR_302 h302 _ _ _)) (fun v σ1 hq => ?_)
  obtain ⟨he4, rfl, hM1, ⟨g1, ho1, hg1⟩, hC0, hC1⟩ := lw_A (s := (len, tx, fa, z, l, wl, wr)) (s0 := (len, tx, fa, z, l, wl, wr)) (s1 := (len, tx, fa, z, l, wl, wr)) hX hM ho (fun σ' h => h) (fun σ' h => h) hq
  have hM1 : MX σ1 (x + 54) e0 len tx fa z l wl wr := hM1
  have hm1 := hM1
  obtain ⟨I8, A8, N8, -, hMC8, -⟩ := hm1
  have m80 := hMC8.1
  refine g_istore (L' := [_, _, _, _, _, _, _]) q_L_law_2593 (by decide) rfl ?_
  refine g_aload_n q_L_law_2595 rfl ?_
  refine g_aload_n q_L_law_2596 rfl ?_
  refine g_iload q_L_law_2597 rfl ?_
  refine g_iconst q_L_law_2599 ?_
  refine g_iadd q_L_law_2600 ?_
  refine g_topi (b := ((i + 1 : Nat) : Int)) (by omega) ?_
  refine g_iaload_ro q_L_law_2601 hro (by omega) (by omega) (by omega) ?_
  refine g_topi (b := f (i + 1)) (by rw [Int.toNat_natCast]) ?_
  refine g_aload_n q_L_law_2602 rfl ?_
  refine g_iload q_L_law_2603 rfl ?_
  refine g_iconst q_L_law_2605 ?_
  refine g_iadd q_L_law_2606 ?_
  refine g_topi (b := ((i + 2 : Nat) : Int)) (by omega) ?_
  refine g_iaload_ro q_L_law_2607 hro (by omega) (by omega) (by omega) ?_
  refine g_topi (b := f (i + 2)) (by rw [Int.toNat_natCast]) ?_
  refine g_callV (rc' := _) (rs' := _) (As := [_, _]) cs_L_261 q_L_law_2608 (sp_magain hΓ hM1 (f (i + 1)) (f (i + 2)) (hfr _) (hfr _)) rfl (by repeat first | with_reducible assumption | with_reducible exact hput_s _ _ _ | refine (hput_n _ _ (by omega)).trans ?_ | exact hput_s _ _ _ | assumption) rfl rfl rfl rfl (Nat.le_of_ble_eq_true rfl) (by decide) (Nat.le_refl _) (Nat.le_refl _) (fun _ _ h => h.elim) (fun v2 σ2 hq2 => ?_)
  obtain ⟨rfl, hM2, hE2⟩ := hq2
  obtain ⟨hLI, ho2⟩ := lw_B (s2 := (len, tx, fa, z, l, wl, wr)) ((Classical.em _).elim hC0 hC1) ho1 hM2 hE2
  obtain ⟨I9, A9, N9, i90, hMC9, -⟩ := hM2
  have m90 := hMC9.1
  refine g_istore (L' := [_, _, _, _, _, _, _]) q_L_law_2611 (by decide) rfl ?_
  refine g_aload_n q_L_law_2613 rfl ?_
  refine g_callV (rc' := _) (rs' := _) (As := []) cs_L_153 q_L_law_2614 (sp_thrown hΓ m90) rfl (by repeat first | with_reducible assumption | with_reducible exact hput_s _ _ _ | refine (hput_n _ _ (by omega)).trans ?_ | exact hput_s _ _ _ | assumption) rfl rfl rfl rfl (Nat.le_of_ble_eq_true rfl) (by decide) (Nat.le_refl _) (Nat.le_refl _) (fun _ _ h => h.elim) (k_ri ?_)
  rw [i90]
  refine g_iload q_L_law_2617 rfl ?_
  refine g_icmp_eqS (tgt := 2624) q_L_law_2619 (by decide) ?_
  refine g_iload q_L_law_2624 rfl ?_
  refine g_if_ne (tgt := 2641) q_L_law_2626 (by decide) ⟨by omega, by omega⟩ (fun b8 => ?_) (fun b8 => ?_)
  · -- it threw
    refine g_goto (tgt := 3063) q_L_law_2641 (by decide) ?_
    exact g_fl (kk _ _ _ hLI) ⟨rfl, rfl, rfl, rfl, rfl, trivial⟩
  refine g_aload_n q_L_law_2629 rfl ?_
  refine g_iconst q_L_law_2630 ?_
  refine g_laload q_L_law_2631 (by repeat first | with_reducible assumption | with_reducible exact hput_s _ _ _ | refine (hput_n _ _ (by omega)).trans ?_ | exact hput_s _ _ _ | assumption) (by omega) (by omega) ?_
  rw [show g1 (0 : Int).toNat = g1 0 from rfl, hg1 (by omega), if_pos (by omega)]
  refine g_iload q_L_law_2632 rfl ?_
  refine g_top (v' := .int (ii (cn _))) (congrArg Value.int (ii_cn _).symm) ?_
  refine g_i2l q_L_law_2634 (cn_rg _) ?_
  refine g_lcmp q_L_law_2635 ?_
  refine g_topi (b := 0) (lcm_self _) ?_
  refine g_if_eq (tgt := 2641) q_L_law_2636 (by decide) ⟨by omega, by omega⟩ (fun b7 => ?_) (fun b7 => ?_)
  case refine_2 => exact absurd rfl b7
  refine g_goto (tgt := 3063) q_L_law_2641 (by decide) ?_
  exact g_fl (kk _ _ _ hLI) ⟨rfl, rfl, rfl, rfl, rfl, trivial⟩
theorem la_35 (hΓ : Gd Γ) (hro : RO Γ b Ln f) (hfr : ∀ j, rg (f j)) (hi : i + 6 ≤ Ln) (hLn : Ln ≤ 3072) (hN : N < 600) (hI : LI σ x N R s) (kk : ∀ σ' R' s', LI σ' x (N + 1) R' s' → G Γ miL_law code Q noX (C + dC R' RM) (E + dS R' RM) 3063 [some (.ref b), some (.ref x), some (.ref (x + 54)), some (.ref (x + 88)), some (.int (ii (i : Int))), none, none] [] σ') : G Γ miL_law code Q noX (C + 8 + dC R RM) (E + 48 + dS R RM) 2644 [some (.ref b), some (.ref x), some (.ref (x + 54)), some (.ref (x + 88)), some (.int (ii (i : Int))), none, none] [] σ := by
  obtain ⟨len, tx, fa, z, l, wl, wr⟩ := s
  obtain ⟨hX, ⟨e0, hM⟩, g, ho⟩ := hI
  have hX : CX σ x (x + 89) N R len tx fa z l wl wr := hX
  have hM : MX σ (x + 54) e0 len tx fa z l wl wr := hM
  obtain ⟨av, ve, hx, -, -⟩ := hX.ob
  obtain ⟨hl1, hl2, h302⟩ := hX.low
  refine g_aload_n q_L_law_2644 rfl ?_
  refine g_aload_n q_L_law_2645 rfl ?_
  refine g_iload q_L_law_2646 rfl ?_
  refine g_iconst q_L_law_2648 ?_
  refine g_iadd q_L_law_2649 ?_
  refine g_topi (b := ((i + 1 : Nat) : Int)) (by omega) ?_
  refine g_iaload_ro q_L_law_2650 hro (by omega) (by omega) (by omega) ?_
  refine g_topi (b := f (i + 1)) (by rw [Int.toNat_natCast]) ?_
  refine g_aload_n q_L_law_2651 rfl ?_
  refine g_callSW (rc' := (C + dC R RM)) (rs' := (E + dS R RM)) (As := [_, _, _]) cs_L_262 q_L_law_2652 (sp_L_among hΓ hx (Sp_w (sp_among hΓ (by omega) hX (f (i + 1)) (hfr _))) (fun v σ' h => (h.2.2.2.2 (x + 88) (by omega) (by unfold fX inb; omega)).trans ho)) rfl rfl rfl (Nat.le_of_ble_eq_true rfl) (by decide) rmZ rmZ (fun v σ1 hq => ?_)
  obtain ⟨he4, rfl, hM1, ⟨g1, ho1, hg1⟩, hC0, hC1⟩ := lw_A (s := (len, tx, fa, z, l, wl, wr)) (s0 := (len, tx, fa, z, l, wl, wr)) (s1 := (len, tx, fa, z, l, wl, wr)) hX hM ho (fun σ' h => h) (fun σ' h => h) hq
  have hM1 : MX σ1 (x + 54) e0 len tx fa z l wl wr := hM1
  have hm1 := hM1
  obtain ⟨I8, A8, N8, -, hMC8, -⟩ := hm1
  have m80 := hMC8.1
  refine g_istore (L' := [_, _, _, _, _, _, _]) q_L_law_2655 (by decide) rfl ?_
  refine g_aload_n q_L_law_2657 rfl ?_
  refine g_aload_n q_L_law_2658 rfl ?_
  refine g_iload q_L_law_2659 rfl ?_
  refine g_iconst q_L_law_2661 ?_
  refine g_iadd q_L_law_2662 ?_
  refine g_topi (b := ((i + 1 : Nat) : Int)) (by omega) ?_
  refine g_iaload_ro q_L_law_2663 hro (by omega) (by omega) (by omega) ?_
  refine g_topi (b := f (i + 1)) (by rw [Int.toNat_natCast]) ?_
  refine g_callV (rc' := _) (rs' := _) (As := [_]) cs_L_264 q_L_law_2664 (sp_mamong hΓ hM1 (f (i + 1)) (hfr _)) rfl (by repeat first | with_reducible assumption | with_reducible exact hput_s _ _ _ | refine (hput_n _ _ (by omega)).trans ?_ | exact hput_s _ _ _ | assumption) rfl rfl rfl rfl (Nat.le_of_ble_eq_true rfl) (by decide) (Nat.le_refl _) (Nat.le_refl _) (fun _ _ h => h.elim) (fun v2 σ2 hq2 => ?_)
  obtain ⟨rfl, hM2, hE2⟩ := hq2
  obtain ⟨hLI, ho2⟩ := lw_B (s2 := (len, tx, fa, z, l, wl, wr)) ((Classical.em _).elim hC0 hC1) ho1 hM2 hE2
  obtain ⟨I9, A9, N9, i90, hMC9, -⟩ := hM2
  have m90 := hMC9.1
  refine g_istore (L' := [_, _, _, _, _, _, _]) q_L_law_2667 (by decide) rfl ?_
  refine g_aload_n q_L_law_2669 rfl ?_
  refine g_callV (rc' := _) (rs' := _) (As := []) cs_L_153 q_L_law_2670 (sp_thrown hΓ m90) rfl (by repeat first | with_reducible assumption | with_reducible exact hput_s _ _ _ | refine (hput_n _ _ (by omega)).trans ?_ | exact hput_s _ _ _ | assumption) rfl rfl rfl rfl (Nat.le_of_ble_eq_true rfl) (by decide) (Nat.le_refl _) (Nat.le_refl _) (fun _ _ h => h.elim) (k_ri ?_)
  rw [i90]
  refine g_iload q_L_law_2673 rfl ?_
  refine g_icmp_eqS (tgt := 2680) q_L_law_2675 (by decide) ?_
  refine g_iload q_L_law_2680 rfl ?_
  refine g_if_ne (tgt := 2697) q_L_law_2682 (by decide) ⟨by omega, by omega⟩ (fun b8 => ?_) (fun b8 => ?_)
  · -- it threw
    refine g_goto (tgt := 3063) q_L_law_2697 (by decide) ?_
    exact g_fl (kk _ _ _ hLI) ⟨rfl, rfl, rfl, rfl, rfl, trivial⟩
  refine g_aload_n q_L_law_2685 rfl ?_
  refine g_iconst q_L_law_2686 ?_
  refine g_laload q_L_law_2687 (by repeat first | with_reducible assumption | with_reducible exact hput_s _ _ _ | refine (hput_n _ _ (by omega)).trans ?_ | exact hput_s _ _ _ | assumption) (by omega) (by omega) ?_
  rw [show g1 (0 : Int).toNat = g1 0 from rfl, hg1 (by omega), if_pos (by omega)]
  refine g_iload q_L_law_2688 rfl ?_
  refine g_top (v' := .int (ii (cn _))) (congrArg Value.int (ii_cn _).symm) ?_
  refine g_i2l q_L_law_2690 (cn_rg _) ?_
  refine g_lcmp q_L_law_2691 ?_
  refine g_topi (b := 0) (lcm_self _) ?_
  refine g_if_eq (tgt := 2697) q_L_law_2692 (by decide) ⟨by omega, by omega⟩ (fun b7 => ?_) (fun b7 => ?_)
  case refine_2 => exact absurd rfl b7
  refine g_goto (tgt := 3063) q_L_law_2697 (by decide) ?_
  exact g_fl (kk _ _ _ hLI) ⟨rfl, rfl, rfl, rfl, rfl, trivial⟩
theorem la_36 (hΓ : Gd Γ) (hro : RO Γ b Ln f) (hfr : ∀ j, rg (f j)) (hi : i + 6 ≤ Ln) (hLn : Ln ≤ 3072) (hN : N < 600) (hI : LI σ x N R s) (kk : ∀ σ' R' s', LI σ' x (N + 1) R' s' → G Γ miL_law code Q noX (C + dC R' RM) (E + dS R' RM) 3063 [some (.ref b), some (.ref x), some (.ref (x + 54)), some (.ref (x + 88)), some (.int (ii (i : Int))), none, none] [] σ') : G Γ miL_law code Q noX (C + 8 + dC R RM) (E + 48 + dS R RM) 2700 [some (.ref b), some (.ref x), some (.ref (x + 54)), some (.ref (x + 88)), some (.int (ii (i : Int))), none, none] [] σ := by
  obtain ⟨len, tx, fa, z, l, wl, wr⟩ := s
  obtain ⟨hX, ⟨e0, hM⟩, g, ho⟩ := hI
  have hX : CX σ x (x + 89) N R len tx fa z l wl wr := hX
  have hM : MX σ (x + 54) e0 len tx fa z l wl wr := hM
  obtain ⟨av, ve, hx, -, -⟩ := hX.ob
  obtain ⟨hl1, hl2, h302⟩ := hX.low
  refine g_aload_n q_L_law_2700 rfl ?_
  refine g_aload_n q_L_law_2701 rfl ?_
  refine g_iload q_L_law_2702 rfl ?_
  refine g_iconst q_L_law_2704 ?_
  refine g_iadd q_L_law_2705 ?_
  refine g_topi (b := ((i + 1 : Nat) : Int)) (by omega) ?_
  refine g_iaload_ro q_L_law_2706 hro (by omega) (by omega) (by omega) ?_
  refine g_topi (b := f (i + 1)) (by rw [Int.toNat_natCast]) ?_
  refine g_aload_n q_L_law_2707 rfl ?_
  refine g_callSW (rc' := (C + dC R RM)) (rs' := (E + dS R RM)) (As := [_, _, _]) cs_L_265 q_L_law_2708 (sp_L_byTurns hΓ hx (Sp_w (sp_byTurns hΓ (by omega) hX (f (i + 1)) (hfr _))) (fun v σ' h => (h.2.2.2.2 (x + 88) (by omega) (by unfold fX inb; omega)).trans ho)) rfl rfl rfl (Nat.le_of_ble_eq_true rfl) (by decide) rmZ rmZ (fun v σ1 hq => ?_)
  obtain ⟨he4, rfl, hM1, ⟨g1, ho1, hg1⟩, hC0, hC1⟩ := lw_A (s := (len, tx, fa, z, l, wl, wr)) (s0 := (len, tx, fa, z, l, wl, wr)) (s1 := (len, tx, fa, z, l, wl, wr)) hX hM ho (fun σ' h => h) (fun σ' h => h) hq
  have hM1 : MX σ1 (x + 54) e0 len tx fa z l wl wr := hM1
  have hm1 := hM1
  obtain ⟨I8, A8, N8, -, hMC8, -⟩ := hm1
  have m80 := hMC8.1
  refine g_istore (L' := [_, _, _, _, _, _, _]) q_L_law_2711 (by decide) rfl ?_
  refine g_aload_n q_L_law_2713 rfl ?_
  refine g_aload_n q_L_law_2714 rfl ?_
  refine g_iload q_L_law_2715 rfl ?_
  refine g_iconst q_L_law_2717 ?_
  refine g_iadd q_L_law_2718 ?_
  refine g_topi (b := ((i + 1 : Nat) : Int)) (by omega) ?_
  refine g_iaload_ro q_L_law_2719 hro (by omega) (by omega) (by omega) ?_
  refine g_topi (b := f (i + 1)) (by rw [Int.toNat_natCast]) ?_
  refine g_callV (rc' := _) (rs' := _) (As := [_]) cs_L_267 q_L_law_2720 (sp_mbyTurns hΓ hM1 (f (i + 1)) (hfr _)) rfl (by repeat first | with_reducible assumption | with_reducible exact hput_s _ _ _ | refine (hput_n _ _ (by omega)).trans ?_ | exact hput_s _ _ _ | assumption) rfl rfl rfl rfl (Nat.le_of_ble_eq_true rfl) (by decide) (Nat.le_refl _) (Nat.le_refl _) (fun _ _ h => h.elim) (fun v2 σ2 hq2 => ?_)
  obtain ⟨rfl, hM2, hE2⟩ := hq2
  obtain ⟨hLI, ho2⟩ := lw_B (s2 := (len, tx, fa, z, l, wl, wr)) ((Classical.em _).elim hC0 hC1) ho1 hM2 hE2
  obtain ⟨I9, A9, N9, i90, hMC9, -⟩ := hM2
  have m90 := hMC9.1
  refine g_istore (L' := [_, _, _, _, _, _, _]) q_L_law_2723 (by decide) rfl ?_
  refine g_aload_n q_L_law_2725 rfl ?_
  refine g_callV (rc' := _) (rs' := _) (As := []) cs_L_153 q_L_law_2726 (sp_thrown hΓ m90) rfl (by repeat first | with_reducible assumption | with_reducible exact hput_s _ _ _ | refine (hput_n _ _ (by omega)).trans ?_ | exact hput_s _ _ _ | assumption) rfl rfl rfl rfl (Nat.le_of_ble_eq_true rfl) (by decide) (Nat.le_refl _) (Nat.le_refl _) (fun _ _ h => h.elim) (k_ri ?_)
  rw [i90]
  refine g_iload q_L_law_2729 rfl ?_
  refine g_icmp_eqS (tgt := 2736) q_L_law_2731 (by decide) ?_
  refine g_iload q_L_law_2736 rfl ?_
  refine g_if_ne (tgt := 2753) q_L_law_2738 (by decide) ⟨by omega, by omega⟩ (fun b8 => ?_) (fun b8 => ?_)
  · -- it threw
    refine g_goto (tgt := 3063) q_L_law_2753 (by decide) ?_
    exact g_fl (kk _ _ _ hLI) ⟨rfl, rfl, rfl, rfl, rfl, trivial⟩
  refine g_aload_n q_L_law_2741 rfl ?_
  refine g_iconst q_L_law_2742 ?_
  refine g_laload q_L_law_2743 (by repeat first | with_reducible assumption | with_reducible exact hput_s _ _ _ | refine (hput_n _ _ (by omega)).trans ?_ | exact hput_s _ _ _ | assumption) (by omega) (by omega) ?_
  rw [show g1 (0 : Int).toNat = g1 0 from rfl, hg1 (by omega), if_pos (by omega)]
  refine g_iload q_L_law_2744 rfl ?_
  refine g_top (v' := .int (ii (cn _))) (congrArg Value.int (ii_cn _).symm) ?_
  refine g_i2l q_L_law_2746 (cn_rg _) ?_
  refine g_lcmp q_L_law_2747 ?_
  refine g_topi (b := 0) (lcm_self _) ?_
  refine g_if_eq (tgt := 2753) q_L_law_2748 (by decide) ⟨by omega, by omega⟩ (fun b7 => ?_) (fun b7 => ?_)
  case refine_2 => exact absurd rfl b7
  refine g_goto (tgt := 3063) q_L_law_2753 (by decide) ?_
  exact g_fl (kk _ _ _ hLI) ⟨rfl, rfl, rfl, rfl, rfl, trivial⟩
theorem la_37 (hΓ : Gd Γ) (hro : RO Γ b Ln f) (hfr : ∀ j, rg (f j)) (hi : i + 6 ≤ Ln) (hLn : Ln ≤ 3072) (hN : N < 600) (hI : LI σ x N R s) (kk : ∀ σ' R' s', LI σ' x (N + 1) R' s' → G Γ miL_law code Q noX (C + dC R' RM) (E + dS R' RM) 3063 [some (.ref b), some (.ref x), some (.ref (x + 54)), some (.ref (x + 88)), some (.int (ii (i : Int))), none, none] [] σ') : G Γ miL_law code Q noX (C + 8 + dC R RM) (E + 48 + dS R RM) 2756 [some (.ref b), some (.ref x), some (.ref (x + 54)), some (.ref (x + 88)), some (.int (ii (i : Int))), none, none] [] σ := by
  obtain ⟨len, tx, fa, z, l, wl, wr⟩ := s
  obtain ⟨hX, ⟨e0, hM⟩, g, ho⟩ := hI
  have hX : CX σ x (x + 89) N R len tx fa z l wl wr := hX
  have hM : MX σ (x + 54) e0 len tx fa z l wl wr := hM
  obtain ⟨av, ve, hx, -, -⟩ := hX.ob
  obtain ⟨hl1, hl2, h302⟩ := hX.low
  refine g_aload_n q_L_law_2756 rfl ?_
  refine g_aload_n q_L_law_2757 rfl ?_
  refine g_iload q_L_law_2758 rfl ?_
  refine g_iconst q_L_law_2760 ?_
  refine g_iadd q_L_law_2761 ?_
  refine g_topi (b := ((i + 1 : Nat) : Int)) (by omega) ?_
  refine g_iaload_ro q_L_law_2762 hro (by omega) (by omega) (by omega) ?_
  refine g_topi (b := f (i + 1)) (by rw [Int.toNat_natCast]) ?_
  refine g_aload_n q_L_law_2763 rfl ?_
  refine g_iload q_L_law_2764 rfl ?_
  refine g_iconst q_L_law_2766 ?_
  refine g_iadd q_L_law_2767 ?_
  refine g_topi (b := ((i + 2 : Nat) : Int)) (by omega) ?_
  refine g_iaload_ro q_L_law_2768 hro (by omega) (by omega) (by omega) ?_
  refine g_topi (b := f (i + 2)) (by rw [Int.toNat_natCast]) ?_
  refine g_aload_n q_L_law_2769 rfl ?_
  refine g_iload q_L_law_2770 rfl ?_
  refine g_iconst q_L_law_2772 ?_
  refine g_iadd q_L_law_2773 ?_
  refine g_topi (b := ((i + 3 : Nat) : Int)) (by omega) ?_
  refine g_iaload_ro q_L_law_2774 hro (by omega) (by omega) (by omega) ?_
  refine g_topi (b := f (i + 3)) (by rw [Int.toNat_natCast]) ?_
  refine g_aload_n q_L_law_2775 rfl ?_
  refine g_callSW (rc' := (C + dC R RM)) (rs' := (E + dS R RM)) (As := [_, _, _, _, _]) cs_L_268 q_L_law_2776 (sp_L_turned hΓ hx (Sp_w (sp_turned hΓ (by omega) hX (f (i + 1)) (f (i + 2)) (f (i + 3)) (hfr _) (hfr _) (hfr _))) (fun v σ' h => (h.2.2.2.2 (x + 88) (by omega) (by unfold fX inb; omega)).trans ho)) rfl rfl rfl (Nat.le_of_ble_eq_true rfl) (by decide) rmZ rmZ (fun v σ1 hq => ?_)
  obtain ⟨he4, rfl, hM1, ⟨g1, ho1, hg1⟩, hC0, hC1⟩ := lw_A (s := (len, tx, fa, z, l, wl, wr)) (s0 := (len, tx, fa, z, l, wl, wr)) (s1 := (len, tx, fa, z, l, wl, wr)) hX hM ho (fun σ' h => h) (fun σ' h => h) hq
  have hM1 : MX σ1 (x + 54) e0 len tx fa z l wl wr := hM1
  have hm1 := hM1
  obtain ⟨I8, A8, N8, -, hMC8, -⟩ := hm1
  have m80 := hMC8.1
  refine g_istore (L' := [_, _, _, _, _, _, _]) q_L_law_2779 (by decide) rfl ?_
  refine g_aload_n q_L_law_2781 rfl ?_
  refine g_aload_n q_L_law_2782 rfl ?_
  refine g_iload q_L_law_2783 rfl ?_
  refine g_iconst q_L_law_2785 ?_
  refine g_iadd q_L_law_2786 ?_
  refine g_topi (b := ((i + 1 : Nat) : Int)) (by omega) ?_
  refine g_iaload_ro q_L_law_2787 hro (by omega) (by omega) (by omega) ?_
  refine g_topi (b := f (i + 1)) (by rw [Int.toNat_natCast]) ?_
  refine g_aload_n q_L_law_2788 rfl ?_
  refine g_iload q_L_law_2789 rfl ?_
  refine g_iconst q_L_law_2791 ?_
  refine g_iadd q_L_law_2792 ?_
  refine g_topi (b := ((i + 2 : Nat) : Int)) (by omega) ?_
  refine g_iaload_ro q_L_law_2793 hro (by omega) (by omega) (by omega) ?_
  refine g_topi (b := f (i + 2)) (by rw [Int.toNat_natCast]) ?_
  refine g_aload_n q_L_law_2794 rfl ?_
  refine g_iload q_L_law_2795 rfl ?_
  refine g_iconst q_L_law_2797 ?_
  refine g_iadd q_L_law_2798 ?_
  refine g_topi (b := ((i + 3 : Nat) : Int)) (by omega) ?_
  refine g_iaload_ro q_L_law_2799 hro (by omega) (by omega) (by omega) ?_
  refine g_topi (b := f (i + 3)) (by rw [Int.toNat_natCast]) ?_
  refine g_callV (rc' := _) (rs' := _) (As := [_, _, _]) cs_L_270 q_L_law_2800 (sp_mturned hΓ hM1 (f (i + 1)) (f (i + 2)) (f (i + 3)) (hfr _) (hfr _) (hfr _)) rfl (by repeat first | with_reducible assumption | with_reducible exact hput_s _ _ _ | refine (hput_n _ _ (by omega)).trans ?_ | exact hput_s _ _ _ | assumption) rfl rfl rfl rfl (Nat.le_of_ble_eq_true rfl) (by decide) (Nat.le_refl _) (Nat.le_refl _) (fun _ _ h => h.elim) (fun v2 σ2 hq2 => ?_)
  obtain ⟨rfl, hM2, hE2⟩ := hq2
  obtain ⟨hLI, ho2⟩ := lw_B (s2 := (len, tx, fa, z, l, wl, wr)) ((Classical.em _).elim hC0 hC1) ho1 hM2 hE2
  obtain ⟨I9, A9, N9, i90, hMC9, -⟩ := hM2
  have m90 := hMC9.1
  refine g_istore (L' := [_, _, _, _, _, _, _]) q_L_law_2803 (by decide) rfl ?_
  refine g_aload_n q_L_law_2805 rfl ?_
  refine g_callV (rc' := _) (rs' := _) (As := []) cs_L_153 q_L_law_2806 (sp_thrown hΓ m90) rfl (by repeat first | with_reducible assumption | with_reducible exact hput_s _ _ _ | refine (hput_n _ _ (by omega)).trans ?_ | exact hput_s _ _ _ | assumption) rfl rfl rfl rfl (Nat.le_of_ble_eq_true rfl) (by decide) (Nat.le_refl _) (Nat.le_refl _) (fun _ _ h => h.elim) (k_ri ?_)
  rw [i90]
  refine g_iload q_L_law_2809 rfl ?_
  refine g_icmp_eqS (tgt := 2816) q_L_law_2811 (by decide) ?_
  refine g_iload q_L_law_2816 rfl ?_
  refine g_if_ne (tgt := 2833) q_L_law_2818 (by decide) ⟨by omega, by omega⟩ (fun b8 => ?_) (fun b8 => ?_)
  · -- it threw
    refine g_goto (tgt := 3063) q_L_law_2833 (by decide) ?_
    exact g_fl (kk _ _ _ hLI) ⟨rfl, rfl, rfl, rfl, rfl, trivial⟩
  refine g_aload_n q_L_law_2821 rfl ?_
  refine g_iconst q_L_law_2822 ?_
  refine g_laload q_L_law_2823 (by repeat first | with_reducible assumption | with_reducible exact hput_s _ _ _ | refine (hput_n _ _ (by omega)).trans ?_ | exact hput_s _ _ _ | assumption) (by omega) (by omega) ?_
  rw [show g1 (0 : Int).toNat = g1 0 from rfl, hg1 (by omega), if_pos (by omega)]
  refine g_iload q_L_law_2824 rfl ?_
  refine g_top (v' := .int (ii (cn _))) (congrArg Value.int (ii_cn _).symm) ?_
  refine g_i2l q_L_law_2826 (cn_rg _) ?_
  refine g_lcmp q_L_law_2827 ?_
  refine g_topi (b := 0) (lcm_self _) ?_
  refine g_if_eq (tgt := 2833) q_L_law_2828 (by decide) ⟨by omega, by omega⟩ (fun b7 => ?_) (fun b7 => ?_)
  case refine_2 => exact absurd rfl b7
  refine g_goto (tgt := 3063) q_L_law_2833 (by decide) ?_
  exact g_fl (kk _ _ _ hLI) ⟨rfl, rfl, rfl, rfl, rfl, trivial⟩
theorem la_38 (hΓ : Gd Γ) (hro : RO Γ b Ln f) (hfr : ∀ j, rg (f j)) (hi : i + 6 ≤ Ln) (hLn : Ln ≤ 3072) (hN : N < 600) (hI : LI σ x N R s) (kk : ∀ σ' R' s', LI σ' x (N + 1) R' s' → G Γ miL_law code Q noX (C + dC R' RM) (E + dS R' RM) 3063 [some (.ref b), some (.ref x), some (.ref (x + 54)), some (.ref (x + 88)), some (.int (ii (i : Int))), none, none] [] σ') : G Γ miL_law code Q noX (C + 8 + dC R RM) (E + 48 + dS R RM) 2836 [some (.ref b), some (.ref x), some (.ref (x + 54)), some (.ref (x + 88)), some (.int (ii (i : Int))), none, none] [] σ := by
  obtain ⟨len, tx, fa, z, l, wl, wr⟩ := s
  obtain ⟨hX, ⟨e0, hM⟩, g, ho⟩ := hI
  have hX : CX σ x (x + 89) N R len tx fa z l wl wr := hX
  have hM : MX σ (x + 54) e0 len tx fa z l wl wr := hM
  obtain ⟨av, ve, hx, -, -⟩ := hX.ob
  obtain ⟨hl1, hl2, h302⟩ := hX.low
  by_cases hb1 : f (i + 1) = 0
  · skip
    refine g_aload_n q_L_law_2836 rfl ?_
    refine g_aload_n q_L_law_2837 rfl ?_
    refine g_iload q_L_law_2838 rfl ?_
    refine g_iconst q_L_law_2840 ?_
    refine g_iadd q_L_law_2841 ?_
    refine g_topi (b := ((i + 1 : Nat) : Int)) (by omega) ?_
    refine g_iaload_ro q_L_law_2842 hro (by omega) (by omega) (by omega) ?_
    refine g_topi (b := f (i + 1)) (by rw [Int.toNat_natCast]) ?_
    refine g_if_eq (tgt := 2850) q_L_law_2843 (by decide) (hfr _) (fun b9 => ?_) (fun b9 => ?_)
    case refine_2 => exact absurd hb1 b9
    refine g_iconst q_L_law_2850 ?_
    refine g_topi (b := bi false) rfl ?_
    refine g_callV (rc' := (C + dC R RM)) (rs' := (E + dS R RM)) (As := [_]) cs_L_271 q_L_law_2851 (sp_bestOrder hΓ (by omega) hX false) rfl (by repeat first | with_reducible assumption | with_reducible exact hput_s _ _ _ | refine (hput_n _ _ (by omega)).trans ?_ | exact hput_s _ _ _ | assumption) rfl rfl rfl rfl (Nat.le_of_ble_eq_true rfl) (by decide) rmZ rmZ (fun _ _ h => h.elim) (fun v σ1 hq => ?_)
    obtain ⟨-, rfl, hC1, hE1⟩ := hq
    have hM1 := hM.kp (σ' := σ1) (fun a ha => by unfold inb at ha; exact hE1.2 a (by omega) (by unfold fX inb; omega))
    have ho1 : σ1.2 (x + 88) = some (al 1 g) := (hE1.2 (x + 88) (by omega) (by unfold fX inb; omega)).trans ho
    have hm1 := hM1
    obtain ⟨I8, A8, N8, -, hMC8, -⟩ := hm1
    have m80 := hMC8.1
    refine g_aload_n q_L_law_2854 rfl ?_
    refine g_aload_n q_L_law_2855 rfl ?_
    refine g_iload q_L_law_2856 rfl ?_
    refine g_iconst q_L_law_2858 ?_
    refine g_iadd q_L_law_2859 ?_
    refine g_topi (b := ((i + 1 : Nat) : Int)) (by omega) ?_
    refine g_iaload_ro q_L_law_2860 hro (by omega) (by omega) (by omega) ?_
    refine g_topi (b := f (i + 1)) (by rw [Int.toNat_natCast]) ?_
    refine g_if_eq (tgt := 2868) q_L_law_2861 (by decide) (hfr _) (fun b9 => ?_) (fun b9 => ?_)
    case refine_2 => exact absurd hb1 b9
    refine g_iconst q_L_law_2868 ?_
    refine g_topi (b := bi false) rfl ?_
    refine g_callV (rc' := _) (rs' := _) (As := [_]) cs_L_275 q_L_law_2869 (sp_mbestOrder hΓ hM1 false) rfl (by repeat first | with_reducible assumption | with_reducible exact hput_s _ _ _ | refine (hput_n _ _ (by omega)).trans ?_ | exact hput_s _ _ _ | assumption) rfl rfl rfl rfl (Nat.le_of_ble_eq_true rfl) (by decide) (Nat.le_refl _) (Nat.le_refl _) (fun _ _ h => h.elim) (fun v2 σ2 hq2 => ?_)
    obtain ⟨rfl, hM2, hE2⟩ := hq2
    obtain ⟨hLI, -⟩ := lw_B (s2 := (len, tx, fa, z, l, wl, wr)) (e := 0) hC1 ho1 hM2 hE2
    rw [if_pos rfl]
    refine g_icmp_eqS (tgt := 3063) q_L_law_2872 (by decide) ?_
    exact g_fl (kk _ _ _ hLI) ⟨rfl, rfl, rfl, rfl, rfl, trivial⟩
  · skip
    refine g_aload_n q_L_law_2836 rfl ?_
    refine g_aload_n q_L_law_2837 rfl ?_
    refine g_iload q_L_law_2838 rfl ?_
    refine g_iconst q_L_law_2840 ?_
    refine g_iadd q_L_law_2841 ?_
    refine g_topi (b := ((i + 1 : Nat) : Int)) (by omega) ?_
    refine g_iaload_ro q_L_law_2842 hro (by omega) (by omega) (by omega) ?_
    refine g_topi (b := f (i + 1)) (by rw [Int.toNat_natCast]) ?_
    refine g_if_eq (tgt := 2850) q_L_law_2843 (by decide) (hfr _) (fun b9 => ?_) (fun b9 => ?_)
    case refine_1 => exact absurd b9 hb1
    refine g_iconst q_L_law_2846 ?_
    refine g_goto (tgt := 2851) q_L_law_2847 (by decide) ?_
    refine g_topi (b := bi true) rfl ?_
    refine g_callV (rc' := (C + dC R RM)) (rs' := (E + dS R RM)) (As := [_]) cs_L_271 q_L_law_2851 (sp_bestOrder hΓ (by omega) hX true) rfl (by repeat first | with_reducible assumption | with_reducible exact hput_s _ _ _ | refine (hput_n _ _ (by omega)).trans ?_ | exact hput_s _ _ _ | assumption) rfl rfl rfl rfl (Nat.le_of_ble_eq_true rfl) (by decide) rmZ rmZ (fun _ _ h => h.elim) (fun v σ1 hq => ?_)
    obtain ⟨-, rfl, hC1, hE1⟩ := hq
    have hM1 := hM.kp (σ' := σ1) (fun a ha => by unfold inb at ha; exact hE1.2 a (by omega) (by unfold fX inb; omega))
    have ho1 : σ1.2 (x + 88) = some (al 1 g) := (hE1.2 (x + 88) (by omega) (by unfold fX inb; omega)).trans ho
    have hm1 := hM1
    obtain ⟨I8, A8, N8, -, hMC8, -⟩ := hm1
    have m80 := hMC8.1
    refine g_aload_n q_L_law_2854 rfl ?_
    refine g_aload_n q_L_law_2855 rfl ?_
    refine g_iload q_L_law_2856 rfl ?_
    refine g_iconst q_L_law_2858 ?_
    refine g_iadd q_L_law_2859 ?_
    refine g_topi (b := ((i + 1 : Nat) : Int)) (by omega) ?_
    refine g_iaload_ro q_L_law_2860 hro (by omega) (by omega) (by omega) ?_
    refine g_topi (b := f (i + 1)) (by rw [Int.toNat_natCast]) ?_
    refine g_if_eq (tgt := 2868) q_L_law_2861 (by decide) (hfr _) (fun b9 => ?_) (fun b9 => ?_)
    case refine_1 => exact absurd b9 hb1
    refine g_iconst q_L_law_2864 ?_
    refine g_goto (tgt := 2869) q_L_law_2865 (by decide) ?_
    refine g_topi (b := bi true) rfl ?_
    refine g_callV (rc' := _) (rs' := _) (As := [_]) cs_L_275 q_L_law_2869 (sp_mbestOrder hΓ hM1 true) rfl (by repeat first | with_reducible assumption | with_reducible exact hput_s _ _ _ | refine (hput_n _ _ (by omega)).trans ?_ | exact hput_s _ _ _ | assumption) rfl rfl rfl rfl (Nat.le_of_ble_eq_true rfl) (by decide) (Nat.le_refl _) (Nat.le_refl _) (fun _ _ h => h.elim) (fun v2 σ2 hq2 => ?_)
    obtain ⟨rfl, hM2, hE2⟩ := hq2
    obtain ⟨hLI, -⟩ := lw_B (s2 := (len, tx, fa, z, l, wl, wr)) (e := 0) hC1 ho1 hM2 hE2
    rw [if_pos rfl]
    refine g_icmp_eqS (tgt := 3063) q_L_law_2872 (by decide) ?_
    exact g_fl (kk _ _ _ hLI) ⟨rfl, rfl, rfl, rfl, rfl, trivial⟩
theorem la_39 (hΓ : Gd Γ) (hro : RO Γ b Ln f) (hfr : ∀ j, rg (f j)) (hi : i + 6 ≤ Ln) (hLn : Ln ≤ 3072) (hN : N < 600) (hI : LI σ x N R s) (kk : ∀ σ' R' s', LI σ' x (N + 1) R' s' → G Γ miL_law code Q noX (C + dC R' RM) (E + dS R' RM) 3063 [some (.ref b), some (.ref x), some (.ref (x + 54)), some (.ref (x + 88)), some (.int (ii (i : Int))), none, none] [] σ') : G Γ miL_law code Q noX (C + 8 + dC R RM) (E + 48 + dS R RM) 2877 [some (.ref b), some (.ref x), some (.ref (x + 54)), some (.ref (x + 88)), some (.int (ii (i : Int))), none, none] [] σ := by
  obtain ⟨len, tx, fa, z, l, wl, wr⟩ := s
  obtain ⟨hX, ⟨e0, hM⟩, g, ho⟩ := hI
  have hX : CX σ x (x + 89) N R len tx fa z l wl wr := hX
  have hM : MX σ (x + 54) e0 len tx fa z l wl wr := hM
  obtain ⟨av, ve, hx, -, -⟩ := hX.ob
  obtain ⟨hl1, hl2, h302⟩ := hX.low
  refine g_aload_n q_L_law_2877 rfl ?_
  refine g_aload_n q_L_law_2878 rfl ?_
  refine g_iload q_L_law_2879 rfl ?_
  refine g_iconst q_L_law_2881 ?_
  refine g_iadd q_L_law_2882 ?_
  refine g_topi (b := ((i + 1 : Nat) : Int)) (by omega) ?_
  refine g_iaload_ro q_L_law_2883 hro (by omega) (by omega) (by omega) ?_
  refine g_topi (b := f (i + 1)) (by rw [Int.toNat_natCast]) ?_
  refine g_aload_n q_L_law_2884 rfl ?_
  refine g_iload q_L_law_2885 rfl ?_
  refine g_iconst q_L_law_2887 ?_
  refine g_iadd q_L_law_2888 ?_
  refine g_topi (b := ((i + 2 : Nat) : Int)) (by omega) ?_
  refine g_iaload_ro q_L_law_2889 hro (by omega) (by omega) (by omega) ?_
  refine g_topi (b := f (i + 2)) (by rw [Int.toNat_natCast]) ?_
  refine g_aload_n q_L_law_2890 rfl ?_
  refine g_callSW (rc' := (C + dC R RM)) (rs' := (E + dS R RM)) (As := [_, _, _, _]) cs_L_276 q_L_law_2891 (sp_L_ordered hΓ hx (Sp_w (sp_ordered hΓ (by omega) hX (f (i + 1)) (f (i + 2)) (hfr _) (hfr _))) (fun v σ' h => (h.2.2.2.2 (x + 88) (by omega) (by unfold fX inb; omega)).trans ho)) rfl rfl rfl (Nat.le_of_ble_eq_true rfl) (by decide) rmZ rmZ (fun v σ1 hq => ?_)
  obtain ⟨he4, rfl, hM1, ⟨g1, ho1, hg1⟩, hC0, hC1⟩ := lw_A (s := (len, tx, fa, z, l, wl, wr)) (s0 := (len, tx, fa, z, l, wl, wr)) (s1 := (len, tx, fa, z, l, wl, wr)) hX hM ho (fun σ' h => h) (fun σ' h => h) hq
  have hM1 : MX σ1 (x + 54) e0 len tx fa z l wl wr := hM1
  have hm1 := hM1
  obtain ⟨I8, A8, N8, -, hMC8, -⟩ := hm1
  have m80 := hMC8.1
  refine g_istore (L' := [_, _, _, _, _, _, _]) q_L_law_2894 (by decide) rfl ?_
  refine g_aload_n q_L_law_2896 rfl ?_
  refine g_aload_n q_L_law_2897 rfl ?_
  refine g_iload q_L_law_2898 rfl ?_
  refine g_iconst q_L_law_2900 ?_
  refine g_iadd q_L_law_2901 ?_
  refine g_topi (b := ((i + 1 : Nat) : Int)) (by omega) ?_
  refine g_iaload_ro q_L_law_2902 hro (by omega) (by omega) (by omega) ?_
  refine g_topi (b := f (i + 1)) (by rw [Int.toNat_natCast]) ?_
  refine g_aload_n q_L_law_2903 rfl ?_
  refine g_iload q_L_law_2904 rfl ?_
  refine g_iconst q_L_law_2906 ?_
  refine g_iadd q_L_law_2907 ?_
  refine g_topi (b := ((i + 2 : Nat) : Int)) (by omega) ?_
  refine g_iaload_ro q_L_law_2908 hro (by omega) (by omega) (by omega) ?_
  refine g_topi (b := f (i + 2)) (by rw [Int.toNat_natCast]) ?_
  refine g_callV (rc' := _) (rs' := _) (As := [_, _]) cs_L_278 q_L_law_2909 (sp_mordered hΓ hM1 (f (i + 1)) (f (i + 2)) (hfr _) (hfr _)) rfl (by repeat first | with_reducible assumption | with_reducible exact hput_s _ _ _ | refine (hput_n _ _ (by omega)).trans ?_ | exact hput_s _ _ _ | assumption) rfl rfl rfl rfl (Nat.le_of_ble_eq_true rfl) (by decide) (Nat.le_refl _) (Nat.le_refl _) (fun _ _ h => h.elim) (fun v2 σ2 hq2 => ?_)
  obtain ⟨rfl, hM2, hE2⟩ := hq2
  obtain ⟨hLI, ho2⟩ := lw_B (s2 := (len, tx, fa, z, l, wl, wr)) ((Classical.em _).elim hC0 hC1) ho1 hM2 hE2
  obtain ⟨I9, A9, N9, i90, hMC9, -⟩ := hM2
  have m90 := hMC9.1
  refine g_istore (L' := [_, _, _, _, _, _, _]) q_L_law_2912 (by decide) rfl ?_
  refine g_aload_n q_L_law_2914 rfl ?_
  refine g_callV (rc' := _) (rs' := _) (As := []) cs_L_153 q_L_law_2915 (sp_thrown hΓ m90) rfl (by repeat first | with_reducible assumption | with_reducible exact hput_s _ _ _ | refine (hput_n _ _ (by omega)).trans ?_ | exact hput_s _ _ _ | assumption) rfl rfl rfl rfl (Nat.le_of_ble_eq_true rfl) (by decide) (Nat.le_refl _) (Nat.le_refl _) (fun _ _ h => h.elim) (k_ri ?_)
  rw [i90]
  refine g_iload q_L_law_2918 rfl ?_
  refine g_icmp_eqS (tgt := 2925) q_L_law_2920 (by decide) ?_
  refine g_iload q_L_law_2925 rfl ?_
  refine g_if_ne (tgt := 2942) q_L_law_2927 (by decide) ⟨by omega, by omega⟩ (fun b8 => ?_) (fun b8 => ?_)
  · -- it threw
    refine g_goto (tgt := 3063) q_L_law_2942 (by decide) ?_
    exact g_fl (kk _ _ _ hLI) ⟨rfl, rfl, rfl, rfl, rfl, trivial⟩
  refine g_aload_n q_L_law_2930 rfl ?_
  refine g_iconst q_L_law_2931 ?_
  refine g_laload q_L_law_2932 (by repeat first | with_reducible assumption | with_reducible exact hput_s _ _ _ | refine (hput_n _ _ (by omega)).trans ?_ | exact hput_s _ _ _ | assumption) (by omega) (by omega) ?_
  rw [show g1 (0 : Int).toNat = g1 0 from rfl, hg1 (by omega), if_pos (by omega)]
  refine g_iload q_L_law_2933 rfl ?_
  refine g_top (v' := .int (ii (cn _))) (congrArg Value.int (ii_cn _).symm) ?_
  refine g_i2l q_L_law_2935 (cn_rg _) ?_
  refine g_lcmp q_L_law_2936 ?_
  refine g_topi (b := 0) (lcm_self _) ?_
  refine g_if_eq (tgt := 2942) q_L_law_2937 (by decide) ⟨by omega, by omega⟩ (fun b7 => ?_) (fun b7 => ?_)
  case refine_2 => exact absurd rfl b7
  refine g_goto (tgt := 3063) q_L_law_2942 (by decide) ?_
  exact g_fl (kk _ _ _ hLI) ⟨rfl, rfl, rfl, rfl, rfl, trivial⟩
theorem la_40 (hΓ : Gd Γ) (hro : RO Γ b Ln f) (hfr : ∀ j, rg (f j)) (hi : i + 6 ≤ Ln) (hLn : Ln ≤ 3072) (hN : N < 600) (hI : LI σ x N R s) (kk : ∀ σ' R' s', LI σ' x (N + 1) R' s' → G Γ miL_law code Q noX (C + dC R' RM) (E + dS R' RM) 3063 [some (.ref b), some (.ref x), some (.ref (x + 54)), some (.ref (x + 88)), some (.int (ii (i : Int))), none, none] [] σ') : G Γ miL_law code Q noX (C + 8 + dC R RM) (E + 48 + dS R RM) 2945 [some (.ref b), some (.ref x), some (.ref (x + 54)), some (.ref (x + 88)), some (.int (ii (i : Int))), none, none] [] σ := by
  obtain ⟨len, tx, fa, z, l, wl, wr⟩ := s
  obtain ⟨hX, ⟨e0, hM⟩, g, ho⟩ := hI
  have hX : CX σ x (x + 89) N R len tx fa z l wl wr := hX
  have hM : MX σ (x + 54) e0 len tx fa z l wl wr := hM
  obtain ⟨av, ve, hx, -, -⟩ := hX.ob
  obtain ⟨hl1, hl2, h302⟩ := hX.low
  refine g_aload_n q_L_law_2945 rfl ?_
  refine g_aload_n q_L_law_2946 rfl ?_
  refine g_iload q_L_law_2947 rfl ?_
  refine g_iconst q_L_law_2949 ?_
  refine g_iadd q_L_law_2950 ?_
  refine g_topi (b := ((i + 1 : Nat) : Int)) (by omega) ?_
  refine g_iaload_ro q_L_law_2951 hro (by omega) (by omega) (by omega) ?_
  refine g_topi (b := f (i + 1)) (by rw [Int.toNat_natCast]) ?_
  refine g_aload_n q_L_law_2952 rfl ?_
  refine g_iload q_L_law_2953 rfl ?_
  refine g_iconst q_L_law_2955 ?_
  refine g_iadd q_L_law_2956 ?_
  refine g_topi (b := ((i + 2 : Nat) : Int)) (by omega) ?_
  refine g_iaload_ro q_L_law_2957 hro (by omega) (by omega) (by omega) ?_
  refine g_topi (b := f (i + 2)) (by rw [Int.toNat_natCast]) ?_
  refine g_aload_n q_L_law_2958 rfl ?_
  refine g_callSW (rc' := (C + dC _ RM)) (rs' := (E + dS _ RM)) (As := [_, _, _, _]) cs_L_279 q_L_law_2959 (sp_L_write hΓ hx (Sp_w (sp_write hΓ (by omega) hX (f (i + 1)) (f (i + 2)) (hfr _) (hfr _) (Nat.le_refl _) (Nat.le_refl _))) (fun v σ' h => (h.2.2.2.2 (x + 88) (by omega) (by unfold fX inb; omega)).trans ho)) rfl rfl rfl (Nat.le_of_ble_eq_true rfl) (by decide) (rmC (rG_le _ _ _ _) (rG_302 h302 _ _ _)) (rmS (rG_le _ _ _ _) (rG_302 h302 _ _ _)) (fun v σ1 hq => ?_)
  obtain ⟨he4, rfl, hM1, ⟨g1, ho1, hg1⟩, hC0, hC1⟩ := lw_A (s := (len, tx, fa, z, l, wl, wr)) (s0 := (len, tx, fa, z, l, wrL z (f (i + 1)) (f (i + 2)) wl, wrW z (f (i + 1)) (f (i + 2)) wr)) (s1 := (len, tx, fa, z, l, wrL z (f (i + 1)) (f (i + 2)) wl, wrW z (f (i + 1)) (f (i + 2)) wr)) hX hM ho (fun σ' h => h) (fun σ' h => h) hq
  have hM1 : MX σ1 (x + 54) e0 len tx fa z l wl wr := hM1
  have hm1 := hM1
  obtain ⟨I8, A8, N8, -, hMC8, -⟩ := hm1
  have m80 := hMC8.1
  refine g_istore (L' := [_, _, _, _, _, _, _]) q_L_law_2962 (by decide) rfl ?_
  refine g_aload_n q_L_law_2964 rfl ?_
  refine g_aload_n q_L_law_2965 rfl ?_
  refine g_iload q_L_law_2966 rfl ?_
  refine g_iconst q_L_law_2968 ?_
  refine g_iadd q_L_law_2969 ?_
  refine g_topi (b := ((i + 1 : Nat) : Int)) (by omega) ?_
  refine g_iaload_ro q_L_law_2970 hro (by omega) (by omega) (by omega) ?_
  refine g_topi (b := f (i + 1)) (by rw [Int.toNat_natCast]) ?_
  refine g_aload_n q_L_law_2971 rfl ?_
  refine g_iload q_L_law_2972 rfl ?_
  refine g_iconst q_L_law_2974 ?_
  refine g_iadd q_L_law_2975 ?_
  refine g_topi (b := ((i + 2 : Nat) : Int)) (by omega) ?_
  refine g_iaload_ro q_L_law_2976 hro (by omega) (by omega) (by omega) ?_
  refine g_topi (b := f (i + 2)) (by rw [Int.toNat_natCast]) ?_
  refine g_callV (rc' := _) (rs' := _) (As := [_, _]) cs_L_281 q_L_law_2977 (sp_mwrite hΓ hM1 (f (i + 1)) (f (i + 2)) (hfr _) (hfr _)) rfl (by repeat first | with_reducible assumption | with_reducible exact hput_s _ _ _ | refine (hput_n _ _ (by omega)).trans ?_ | exact hput_s _ _ _ | assumption) rfl rfl rfl rfl (Nat.le_of_ble_eq_true rfl) (by decide) (Nat.le_refl _) (Nat.le_refl _) (fun _ _ h => h.elim) (fun v2 σ2 hq2 => ?_)
  obtain ⟨rfl, hM2, hE2⟩ := hq2
  obtain ⟨hLI, ho2⟩ := lw_B (s2 := (len, tx, fa, z, l, wrL z (f (i + 1)) (f (i + 2)) wl, wrW z (f (i + 1)) (f (i + 2)) wr)) ((Classical.em _).elim hC0 hC1) ho1 hM2 hE2
  obtain ⟨I9, A9, N9, i90, hMC9, -⟩ := hM2
  have m90 := hMC9.1
  refine g_istore (L' := [_, _, _, _, _, _, _]) q_L_law_2980 (by decide) rfl ?_
  refine g_aload_n q_L_law_2982 rfl ?_
  refine g_callV (rc' := _) (rs' := _) (As := []) cs_L_153 q_L_law_2983 (sp_thrown hΓ m90) rfl (by repeat first | with_reducible assumption | with_reducible exact hput_s _ _ _ | refine (hput_n _ _ (by omega)).trans ?_ | exact hput_s _ _ _ | assumption) rfl rfl rfl rfl (Nat.le_of_ble_eq_true rfl) (by decide) (Nat.le_refl _) (Nat.le_refl _) (fun _ _ h => h.elim) (k_ri ?_)
  rw [i90]
  refine g_iload q_L_law_2986 rfl ?_
  refine g_icmp_eqS (tgt := 2993) q_L_law_2988 (by decide) ?_
  refine g_iload q_L_law_2993 rfl ?_
  refine g_if_ne (tgt := 3010) q_L_law_2995 (by decide) ⟨by omega, by omega⟩ (fun b8 => ?_) (fun b8 => ?_)
  · -- it threw
    refine g_goto (tgt := 3063) q_L_law_3010 (by decide) ?_
    exact g_fl (kk _ _ _ hLI) ⟨rfl, rfl, rfl, rfl, rfl, trivial⟩
  refine g_aload_n q_L_law_2998 rfl ?_
  refine g_iconst q_L_law_2999 ?_
  refine g_laload q_L_law_3000 (by repeat first | with_reducible assumption | with_reducible exact hput_s _ _ _ | refine (hput_n _ _ (by omega)).trans ?_ | exact hput_s _ _ _ | assumption) (by omega) (by omega) ?_
  rw [show g1 (0 : Int).toNat = g1 0 from rfl, hg1 (by omega), if_pos (by omega)]
  refine g_iload q_L_law_3001 rfl ?_
  refine g_top (v' := .int (ii (cn _))) (congrArg Value.int (ii_cn _).symm) ?_
  refine g_i2l q_L_law_3003 (cn_rg _) ?_
  refine g_lcmp q_L_law_3004 ?_
  refine g_topi (b := 0) (lcm_self _) ?_
  refine g_if_eq (tgt := 3010) q_L_law_3005 (by decide) ⟨by omega, by omega⟩ (fun b7 => ?_) (fun b7 => ?_)
  case refine_2 => exact absurd rfl b7
  refine g_goto (tgt := 3063) q_L_law_3010 (by decide) ?_
  exact g_fl (kk _ _ _ hLI) ⟨rfl, rfl, rfl, rfl, rfl, trivial⟩
theorem la_41 (hΓ : Gd Γ) (hro : RO Γ b Ln f) (hfr : ∀ j, rg (f j)) (hi : i + 6 ≤ Ln) (hLn : Ln ≤ 3072) (hN : N < 600) (hI : LI σ x N R s) (kk : ∀ σ' R' s', LI σ' x (N + 1) R' s' → G Γ miL_law code Q noX (C + dC R' RM) (E + dS R' RM) 3063 [some (.ref b), some (.ref x), some (.ref (x + 54)), some (.ref (x + 88)), some (.int (ii (i : Int))), none, none] [] σ') : G Γ miL_law code Q noX (C + 8 + dC R RM) (E + 48 + dS R RM) 3013 [some (.ref b), some (.ref x), some (.ref (x + 54)), some (.ref (x + 88)), some (.int (ii (i : Int))), none, none] [] σ := by
  obtain ⟨len, tx, fa, z, l, wl, wr⟩ := s
  obtain ⟨hX, ⟨e0, hM⟩, g, ho⟩ := hI
  have hX : CX σ x (x + 89) N R len tx fa z l wl wr := hX
  have hM : MX σ (x + 54) e0 len tx fa z l wl wr := hM
  obtain ⟨av, ve, hx, -, -⟩ := hX.ob
  obtain ⟨hl1, hl2, h302⟩ := hX.low
  refine g_aload_n q_L_law_3013 rfl ?_
  refine g_aload_n q_L_law_3014 rfl ?_
  refine g_iload q_L_law_3015 rfl ?_
  refine g_iconst q_L_law_3017 ?_
  refine g_iadd q_L_law_3018 ?_
  refine g_topi (b := ((i + 1 : Nat) : Int)) (by omega) ?_
  refine g_iaload_ro q_L_law_3019 hro (by omega) (by omega) (by omega) ?_
  refine g_topi (b := f (i + 1)) (by rw [Int.toNat_natCast]) ?_
  refine g_callV (rc' := (C + dC R RM)) (rs' := (E + dS R RM)) (As := [_]) cs_L_282 q_L_law_3020 (sp_octet hΓ (by omega) hX (f (i + 1)) (hfr _)) rfl (by repeat first | with_reducible assumption | with_reducible exact hput_s _ _ _ | refine (hput_n _ _ (by omega)).trans ?_ | exact hput_s _ _ _ | assumption) rfl rfl rfl rfl (Nat.le_of_ble_eq_true rfl) (by decide) rmZ rmZ (fun _ _ h => h.elim) (fun v σ1 hq => ?_)
  obtain ⟨-, rfl, hC1, hE1⟩ := hq
  have hM1 := hM.kp (σ' := σ1) (fun a ha => by unfold inb at ha; exact hE1.2 a (by omega) (by unfold fX inb; omega))
  have ho1 : σ1.2 (x + 88) = some (al 1 g) := (hE1.2 (x + 88) (by omega) (by unfold fX inb; omega)).trans ho
  have hm1 := hM1
  obtain ⟨I8, A8, N8, -, hMC8, -⟩ := hm1
  have m80 := hMC8.1
  refine g_aload_n q_L_law_3023 rfl ?_
  refine g_aload_n q_L_law_3024 rfl ?_
  refine g_iload q_L_law_3025 rfl ?_
  refine g_iconst q_L_law_3027 ?_
  refine g_iadd q_L_law_3028 ?_
  refine g_topi (b := ((i + 1 : Nat) : Int)) (by omega) ?_
  refine g_iaload_ro q_L_law_3029 hro (by omega) (by omega) (by omega) ?_
  refine g_topi (b := f (i + 1)) (by rw [Int.toNat_natCast]) ?_
  refine g_callV (rc' := _) (rs' := _) (As := [_]) cs_L_285 q_L_law_3030 (sp_moctet hΓ hM1 (f (i + 1)) (hfr _)) rfl (by repeat first | with_reducible assumption | with_reducible exact hput_s _ _ _ | refine (hput_n _ _ (by omega)).trans ?_ | exact hput_s _ _ _ | assumption) rfl rfl rfl rfl (Nat.le_of_ble_eq_true rfl) (by decide) (Nat.le_refl _) (Nat.le_refl _) (fun _ _ h => h.elim) (fun v2 σ2 hq2 => ?_)
  obtain ⟨rfl, hM2, hE2⟩ := hq2
  obtain ⟨hLI, -⟩ := lw_B (s2 := (len, tx, fa, z, l, wl, wr)) (e := 0) hC1 ho1 hM2 hE2
  rw [if_pos rfl]
  refine g_icmp_eqS (tgt := 3063) q_L_law_3033 (by decide) ?_
  exact g_fl (kk _ _ _ hLI) ⟨rfl, rfl, rfl, rfl, rfl, trivial⟩
theorem la_42 (hΓ : Gd Γ) (hro : RO Γ b Ln f) (hfr : ∀ j, rg (f j)) (hi : i + 6 ≤ Ln) (hLn : Ln ≤ 3072) (hN : N < 600) (hI : LI σ x N R s) (kk : ∀ σ' R' s', LI σ' x (N + 1) R' s' → G Γ miL_law code Q noX (C + dC R' RM) (E + dS R' RM) 3063 [some (.ref b), some (.ref x), some (.ref (x + 54)), some (.ref (x + 88)), some (.int (ii (i : Int))), none, none] [] σ') : G Γ miL_law code Q noX (C + 8 + dC R RM) (E + 48 + dS R RM) 3038 [some (.ref b), some (.ref x), some (.ref (x + 54)), some (.ref (x + 88)), some (.int (ii (i : Int))), none, none] [] σ := by
  obtain ⟨len, tx, fa, z, l, wl, wr⟩ := s
  obtain ⟨hX, ⟨e0, hM⟩, g, ho⟩ := hI
  have hX : CX σ x (x + 89) N R len tx fa z l wl wr := hX
  have hM : MX σ (x + 54) e0 len tx fa z l wl wr := hM
  obtain ⟨av, ve, hx, -, -⟩ := hX.ob
  obtain ⟨hl1, hl2, h302⟩ := hX.low
  refine g_aload_n q_L_law_3038 rfl ?_
  refine g_aload_n q_L_law_3039 rfl ?_
  refine g_iload q_L_law_3040 rfl ?_
  refine g_iconst q_L_law_3042 ?_
  refine g_iadd q_L_law_3043 ?_
  refine g_topi (b := ((i + 1 : Nat) : Int)) (by omega) ?_
  refine g_iaload_ro q_L_law_3044 hro (by omega) (by omega) (by omega) ?_
  refine g_topi (b := f (i + 1)) (by rw [Int.toNat_natCast]) ?_
  refine g_callV (rc' := (C + dC R RM)) (rs' := (E + dS R RM)) (As := [_]) cs_L_286 q_L_law_3045 (sp_count hΓ (by omega) hX (f (i + 1)) (hfr _)) rfl (by repeat first | with_reducible assumption | with_reducible exact hput_s _ _ _ | refine (hput_n _ _ (by omega)).trans ?_ | exact hput_s _ _ _ | assumption) rfl rfl rfl rfl (Nat.le_of_ble_eq_true rfl) (by decide) rmZ rmZ (fun _ _ h => h.elim) (fun v σ1 hq => ?_)
  obtain ⟨-, rfl, hC1, hE1⟩ := hq
  have hM1 := hM.kp (σ' := σ1) (fun a ha => by unfold inb at ha; exact hE1.2 a (by omega) (by unfold fX inb; omega))
  have ho1 : σ1.2 (x + 88) = some (al 1 g) := (hE1.2 (x + 88) (by omega) (by unfold fX inb; omega)).trans ho
  have hm1 := hM1
  obtain ⟨I8, A8, N8, -, hMC8, -⟩ := hm1
  have m80 := hMC8.1
  refine g_aload_n q_L_law_3048 rfl ?_
  refine g_aload_n q_L_law_3049 rfl ?_
  refine g_iload q_L_law_3050 rfl ?_
  refine g_iconst q_L_law_3052 ?_
  refine g_iadd q_L_law_3053 ?_
  refine g_topi (b := ((i + 1 : Nat) : Int)) (by omega) ?_
  refine g_iaload_ro q_L_law_3054 hro (by omega) (by omega) (by omega) ?_
  refine g_topi (b := f (i + 1)) (by rw [Int.toNat_natCast]) ?_
  refine g_callV (rc' := _) (rs' := _) (As := [_]) cs_L_289 q_L_law_3055 (sp_mcount hΓ hM1 (f (i + 1)) (hfr _)) rfl (by repeat first | with_reducible assumption | with_reducible exact hput_s _ _ _ | refine (hput_n _ _ (by omega)).trans ?_ | exact hput_s _ _ _ | assumption) rfl rfl rfl rfl (Nat.le_of_ble_eq_true rfl) (by decide) (Nat.le_refl _) (Nat.le_refl _) (fun _ _ h => h.elim) (fun v2 σ2 hq2 => ?_)
  obtain ⟨rfl, hM2, hE2⟩ := hq2
  obtain ⟨hLI, -⟩ := lw_B (s2 := (len, tx, fa, z, l, wl, wr)) (e := 0) hC1 ho1 hM2 hE2
  rw [if_pos rfl]
  refine g_icmp_eqS (tgt := 3063) q_L_law_3058 (by decide) ?_
  exact g_fl (kk _ _ _ hLI) ⟨rfl, rfl, rfl, rfl, rfl, trivial⟩
end LC

