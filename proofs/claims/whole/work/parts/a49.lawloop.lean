/-! the law: its loop and its start (written by lawloop.py) -/
section LLP
variable {Γ : GT} {σ : AH} {b x i N Ln C E : Nat} {f : Nat → Int} {R : Nat → Nat} {s : LSt} {Q : Option Value → AH → Prop}
theorem g_wide {mi : MI} {cc : ByteArray} {QX : String → AH → Prop} {rc rs rc2 rs2 pc : Nat} {L : List (Option Value)} {S : List Value} (h1 : rc2 ≤ rc) (h2 : rs2 ≤ rs) (k : G Γ mi cc Q QX rc2 rs2 pc L S σ) : G Γ mi cc Q QX rc rs pc L S σ := fun p e R s m args below meth c H locs cells slots ls g cx hc hs => k p e R s m args below meth c H locs cells slots ls g cx (by omega) (by omega)
theorem LI.up (h : LI σ x N R s) (hN : N < 600) : LI σ x (N + 1) R s := ⟨CX.up h.1 (Nat.le_succ _) (by omega), h.2⟩
theorem law_body (hΓ : Gd Γ) (hro : RO Γ b Ln f) (hfr : ∀ j, rg (f j)) (hi : i + 6 ≤ Ln) (hLn : Ln ≤ 3072) (hN : N < 600) (hI : LI σ x N R s) (kk : ∀ σ' R' s', LI σ' x (N + 1) R' s' → G Γ miL_law code Q noX (C + dC R' RM) (E + dS R' RM) 23 [some (.ref b), some (.ref x), some (.ref (x + 54)), some (.ref (x + 88)), some (.int (ii (((i + 6 : Nat)) : Int))), none, none] [] σ') : G Γ miL_law code Q noX (C + 8 + dC R RM) (E + 48 + dS R RM) 33 [some (.ref b), some (.ref x), some (.ref (x + 54)), some (.ref (x + 88)), some (.int (ii (i : Int))), none, none] [] σ := by
  have k2 : ∀ σ' R' s', LI σ' x (N + 1) R' s' → G Γ miL_law code Q noX (C + dC R' RM) (E + dS R' RM) 3063 [some (.ref b), some (.ref x), some (.ref (x + 54)), some (.ref (x + 88)), some (.int (ii (i : Int))), none, none] [] σ' := fun σ' R' s' h => by
    refine g_iinc (L' := [_, _, _, _, _, _, _]) q_L_law_3063 rfl rfl ?_
    refine g_goto (tgt := 23) q_L_law_3066 (by decide) ?_
    exact g_fl (kk _ _ _ h) ⟨rfl, rfl, rfl, rfl, rfl, trivial⟩
  refine g_aload_n q_L_law_33 rfl ?_
  refine g_iload q_L_law_34 rfl ?_
  refine g_iaload_ro q_L_law_36 hro (by omega) (by omega) (by omega) ?_
  refine g_bipush q_L_law_37 bp_63 ?_
  refine g_iand q_L_law_39 ?_
  refine g_top (congrArg Value.int (and63 _ _ rfl)) ?_
  obtain ⟨k, hk⟩ : ∃ k : Nat, (ii (f (i : Int).toNat)).toBitVec.toNat % 64 = k := ⟨_, rfl⟩
  have hk64 : k < 64 := by omega
  rw [hk]
  by_cases h43 : k < 43
  rotate_left
  · refine g_tswOut (tgt := 3063) q_L_law_40 ⟨by omega, by omega⟩ (Or.inr (by omega)) (by decide) ?_
    exact g_wide (by omega) (by omega) (k2 _ _ _ (hI.up hN))
  rcases Nat.lt_or_eq_of_le (Nat.le_of_lt_succ h43) with h42 | rfl
  rotate_left
  · clear hk hk64
    refine g_tswIn (off := 2998) (tgt := 3038) q_L_law_40 ⟨by decide, by decide⟩ (by decide) (by decide) rfl (by decide) ?_
    exact la_42 hΓ hro hfr hi hLn hN hI k2
  rcases Nat.lt_or_eq_of_le (Nat.le_of_lt_succ h42) with h41 | rfl
  rotate_left
  · clear hk hk64
    refine g_tswIn (off := 2973) (tgt := 3013) q_L_law_40 ⟨by decide, by decide⟩ (by decide) (by decide) rfl (by decide) ?_
    exact la_41 hΓ hro hfr hi hLn hN hI k2
  rcases Nat.lt_or_eq_of_le (Nat.le_of_lt_succ h41) with h40 | rfl
  rotate_left
  · clear hk hk64
    refine g_tswIn (off := 2905) (tgt := 2945) q_L_law_40 ⟨by decide, by decide⟩ (by decide) (by decide) rfl (by decide) ?_
    exact la_40 hΓ hro hfr hi hLn hN hI k2
  rcases Nat.lt_or_eq_of_le (Nat.le_of_lt_succ h40) with h39 | rfl
  rotate_left
  · clear hk hk64
    refine g_tswIn (off := 2837) (tgt := 2877) q_L_law_40 ⟨by decide, by decide⟩ (by decide) (by decide) rfl (by decide) ?_
    exact la_39 hΓ hro hfr hi hLn hN hI k2
  rcases Nat.lt_or_eq_of_le (Nat.le_of_lt_succ h39) with h38 | rfl
  rotate_left
  · clear hk hk64
    refine g_tswIn (off := 2796) (tgt := 2836) q_L_law_40 ⟨by decide, by decide⟩ (by decide) (by decide) rfl (by decide) ?_
    exact la_38 hΓ hro hfr hi hLn hN hI k2
  rcases Nat.lt_or_eq_of_le (Nat.le_of_lt_succ h38) with h37 | rfl
  rotate_left
  · clear hk hk64
    refine g_tswIn (off := 2716) (tgt := 2756) q_L_law_40 ⟨by decide, by decide⟩ (by decide) (by decide) rfl (by decide) ?_
    exact la_37 hΓ hro hfr hi hLn hN hI k2
  rcases Nat.lt_or_eq_of_le (Nat.le_of_lt_succ h37) with h36 | rfl
  rotate_left
  · clear hk hk64
    refine g_tswIn (off := 2660) (tgt := 2700) q_L_law_40 ⟨by decide, by decide⟩ (by decide) (by decide) rfl (by decide) ?_
    exact la_36 hΓ hro hfr hi hLn hN hI k2
  rcases Nat.lt_or_eq_of_le (Nat.le_of_lt_succ h36) with h35 | rfl
  rotate_left
  · clear hk hk64
    refine g_tswIn (off := 2604) (tgt := 2644) q_L_law_40 ⟨by decide, by decide⟩ (by decide) (by decide) rfl (by decide) ?_
    exact la_35 hΓ hro hfr hi hLn hN hI k2
  rcases Nat.lt_or_eq_of_le (Nat.le_of_lt_succ h35) with h34 | rfl
  rotate_left
  · clear hk hk64
    refine g_tswIn (off := 2536) (tgt := 2576) q_L_law_40 ⟨by decide, by decide⟩ (by decide) (by decide) rfl (by decide) ?_
    exact la_34 hΓ hro hfr hi hLn hN hI k2
  rcases Nat.lt_or_eq_of_le (Nat.le_of_lt_succ h34) with h33 | rfl
  rotate_left
  · clear hk hk64
    refine g_tswIn (off := 2456) (tgt := 2496) q_L_law_40 ⟨by decide, by decide⟩ (by decide) (by decide) rfl (by decide) ?_
    exact la_33 hΓ hro hfr hi hLn hN hI k2
  rcases Nat.lt_or_eq_of_le (Nat.le_of_lt_succ h33) with h32 | rfl
  rotate_left
  · clear hk hk64
    refine g_tswIn (off := 2388) (tgt := 2428) q_L_law_40 ⟨by decide, by decide⟩ (by decide) (by decide) rfl (by decide) ?_
    exact la_32 hΓ hro hfr hi hLn hN hI k2
  rcases Nat.lt_or_eq_of_le (Nat.le_of_lt_succ h32) with h31 | rfl
  rotate_left
  · clear hk hk64
    refine g_tswIn (off := 2292) (tgt := 2332) q_L_law_40 ⟨by decide, by decide⟩ (by decide) (by decide) rfl (by decide) ?_
    exact la_31 hΓ hro hfr hi hLn hN hI k2
  rcases Nat.lt_or_eq_of_le (Nat.le_of_lt_succ h31) with h30 | rfl
  rotate_left
  · clear hk hk64
    refine g_tswIn (off := 2212) (tgt := 2252) q_L_law_40 ⟨by decide, by decide⟩ (by decide) (by decide) rfl (by decide) ?_
    exact la_30 hΓ hro hfr hi hLn hN hI k2
  rcases Nat.lt_or_eq_of_le (Nat.le_of_lt_succ h30) with h29 | rfl
  rotate_left
  · clear hk hk64
    refine g_tswIn (off := 2144) (tgt := 2184) q_L_law_40 ⟨by decide, by decide⟩ (by decide) (by decide) rfl (by decide) ?_
    exact la_29 hΓ hro hfr hi hLn hN hI k2
  rcases Nat.lt_or_eq_of_le (Nat.le_of_lt_succ h29) with h28 | rfl
  rotate_left
  · clear hk hk64
    refine g_tswIn (off := 2064) (tgt := 2104) q_L_law_40 ⟨by decide, by decide⟩ (by decide) (by decide) rfl (by decide) ?_
    exact la_28 hΓ hro hfr hi hLn hN hI k2
  rcases Nat.lt_or_eq_of_le (Nat.le_of_lt_succ h28) with h27 | rfl
  rotate_left
  · clear hk hk64
    refine g_tswIn (off := 1984) (tgt := 2024) q_L_law_40 ⟨by decide, by decide⟩ (by decide) (by decide) rfl (by decide) ?_
    exact la_27 hΓ hro hfr hi hLn hN hI k2
  rcases Nat.lt_or_eq_of_le (Nat.le_of_lt_succ h27) with h26 | rfl
  rotate_left
  · clear hk hk64
    refine g_tswIn (off := 1876) (tgt := 1916) q_L_law_40 ⟨by decide, by decide⟩ (by decide) (by decide) rfl (by decide) ?_
    exact la_26 hΓ hro hfr hi hLn hN hI k2
  rcases Nat.lt_or_eq_of_le (Nat.le_of_lt_succ h26) with h25 | rfl
  rotate_left
  · clear hk hk64
    refine g_tswIn (off := 1784) (tgt := 1824) q_L_law_40 ⟨by decide, by decide⟩ (by decide) (by decide) rfl (by decide) ?_
    exact la_25 hΓ hro hfr hi hLn hN hI k2
  rcases Nat.lt_or_eq_of_le (Nat.le_of_lt_succ h25) with h24 | rfl
  rotate_left
  · clear hk hk64
    refine g_tswIn (off := 1728) (tgt := 1768) q_L_law_40 ⟨by decide, by decide⟩ (by decide) (by decide) rfl (by decide) ?_
    exact la_24 hΓ hro hfr hi hLn hN hI k2
  rcases Nat.lt_or_eq_of_le (Nat.le_of_lt_succ h24) with h23 | rfl
  rotate_left
  · clear hk hk64
    refine g_tswIn (off := 1624) (tgt := 1664) q_L_law_40 ⟨by decide, by decide⟩ (by decide) (by decide) rfl (by decide) ?_
    exact la_23 hΓ hro hfr hi hLn hN hI k2
  rcases Nat.lt_or_eq_of_le (Nat.le_of_lt_succ h23) with h22 | rfl
  rotate_left
  · clear hk hk64
    refine g_tswIn (off := 1568) (tgt := 1608) q_L_law_40 ⟨by decide, by decide⟩ (by decide) (by decide) rfl (by decide) ?_
    exact la_22 hΓ hro hfr hi hLn hN hI k2
  rcases Nat.lt_or_eq_of_le (Nat.le_of_lt_succ h22) with h21 | rfl
  rotate_left
  · clear hk hk64
    refine g_tswIn (off := 1512) (tgt := 1552) q_L_law_40 ⟨by decide, by decide⟩ (by decide) (by decide) rfl (by decide) ?_
    exact la_21 hΓ hro hfr hi hLn hN hI k2
  rcases Nat.lt_or_eq_of_le (Nat.le_of_lt_succ h21) with h20 | rfl
  rotate_left
  · clear hk hk64
    refine g_tswIn (off := 1404) (tgt := 1444) q_L_law_40 ⟨by decide, by decide⟩ (by decide) (by decide) rfl (by decide) ?_
    exact la_20 hΓ hro hfr hi hLn hN hI k2
  rcases Nat.lt_or_eq_of_le (Nat.le_of_lt_succ h20) with h19 | rfl
  rotate_left
  · clear hk hk64
    refine g_tswIn (off := 1324) (tgt := 1364) q_L_law_40 ⟨by decide, by decide⟩ (by decide) (by decide) rfl (by decide) ?_
    exact la_19 hΓ hro hfr hi hLn hN hI k2
  rcases Nat.lt_or_eq_of_le (Nat.le_of_lt_succ h19) with h18 | rfl
  rotate_left
  · clear hk hk64
    refine g_tswIn (off := 1244) (tgt := 1284) q_L_law_40 ⟨by decide, by decide⟩ (by decide) (by decide) rfl (by decide) ?_
    exact la_18 hΓ hro hfr hi hLn hN hI k2
  rcases Nat.lt_or_eq_of_le (Nat.le_of_lt_succ h18) with h17 | rfl
  rotate_left
  · clear hk hk64
    refine g_tswIn (off := 1164) (tgt := 1204) q_L_law_40 ⟨by decide, by decide⟩ (by decide) (by decide) rfl (by decide) ?_
    exact la_17 hΓ hro hfr hi hLn hN hI k2
  rcases Nat.lt_or_eq_of_le (Nat.le_of_lt_succ h17) with h16 | rfl
  rotate_left
  · clear hk hk64
    refine g_tswIn (off := 1096) (tgt := 1136) q_L_law_40 ⟨by decide, by decide⟩ (by decide) (by decide) rfl (by decide) ?_
    exact la_16 hΓ hro hfr hi hLn hN hI k2
  rcases Nat.lt_or_eq_of_le (Nat.le_of_lt_succ h16) with h15 | rfl
  rotate_left
  · clear hk hk64
    refine g_tswIn (off := 1004) (tgt := 1044) q_L_law_40 ⟨by decide, by decide⟩ (by decide) (by decide) rfl (by decide) ?_
    exact la_15 hΓ hro hfr hi hLn hN hI k2
  rcases Nat.lt_or_eq_of_le (Nat.le_of_lt_succ h15) with h14 | rfl
  rotate_left
  · clear hk hk64
    refine g_tswIn (off := 948) (tgt := 988) q_L_law_40 ⟨by decide, by decide⟩ (by decide) (by decide) rfl (by decide) ?_
    exact la_14 hΓ hro hfr hi hLn hN hI k2
  rcases Nat.lt_or_eq_of_le (Nat.le_of_lt_succ h14) with h13 | rfl
  rotate_left
  · clear hk hk64
    refine g_tswIn (off := 892) (tgt := 932) q_L_law_40 ⟨by decide, by decide⟩ (by decide) (by decide) rfl (by decide) ?_
    exact la_13 hΓ hro hfr hi hLn hN hI k2
  rcases Nat.lt_or_eq_of_le (Nat.le_of_lt_succ h13) with h12 | rfl
  rotate_left
  · clear hk hk64
    refine g_tswIn (off := 824) (tgt := 864) q_L_law_40 ⟨by decide, by decide⟩ (by decide) (by decide) rfl (by decide) ?_
    exact la_12 hΓ hro hfr hi hLn hN hI k2
  rcases Nat.lt_or_eq_of_le (Nat.le_of_lt_succ h12) with h11 | rfl
  rotate_left
  · clear hk hk64
    refine g_tswIn (off := 768) (tgt := 808) q_L_law_40 ⟨by decide, by decide⟩ (by decide) (by decide) rfl (by decide) ?_
    exact la_11 hΓ hro hfr hi hLn hN hI k2
  rcases Nat.lt_or_eq_of_le (Nat.le_of_lt_succ h11) with h10 | rfl
  rotate_left
  · clear hk hk64
    refine g_tswIn (off := 755) (tgt := 795) q_L_law_40 ⟨by decide, by decide⟩ (by decide) (by decide) rfl (by decide) ?_
    exact la_10 hΓ hro hfr hi hLn hN hI k2
  rcases Nat.lt_or_eq_of_le (Nat.le_of_lt_succ h10) with h9 | rfl
  rotate_left
  · clear hk hk64
    refine g_tswIn (off := 707) (tgt := 747) q_L_law_40 ⟨by decide, by decide⟩ (by decide) (by decide) rfl (by decide) ?_
    exact la_9 hΓ hro hfr hi hLn hN hI k2
  rcases Nat.lt_or_eq_of_le (Nat.le_of_lt_succ h9) with h8 | rfl
  rotate_left
  · clear hk hk64
    refine g_tswIn (off := 627) (tgt := 667) q_L_law_40 ⟨by decide, by decide⟩ (by decide) (by decide) rfl (by decide) ?_
    exact la_8 hΓ hro hfr hi hLn hN hI k2
  rcases Nat.lt_or_eq_of_le (Nat.le_of_lt_succ h8) with h7 | rfl
  rotate_left
  · clear hk hk64
    refine g_tswIn (off := 547) (tgt := 587) q_L_law_40 ⟨by decide, by decide⟩ (by decide) (by decide) rfl (by decide) ?_
    exact la_7 hΓ hro hfr hi hLn hN hI k2
  rcases Nat.lt_or_eq_of_le (Nat.le_of_lt_succ h7) with h6 | rfl
  rotate_left
  · clear hk hk64
    refine g_tswIn (off := 479) (tgt := 519) q_L_law_40 ⟨by decide, by decide⟩ (by decide) (by decide) rfl (by decide) ?_
    exact la_6 hΓ hro hfr hi hLn hN hI k2
  rcases Nat.lt_or_eq_of_le (Nat.le_of_lt_succ h6) with h5 | rfl
  rotate_left
  · clear hk hk64
    refine g_tswIn (off := 411) (tgt := 451) q_L_law_40 ⟨by decide, by decide⟩ (by decide) (by decide) rfl (by decide) ?_
    exact la_5 hΓ hro hfr hi hLn hN hI k2
  rcases Nat.lt_or_eq_of_le (Nat.le_of_lt_succ h5) with h4 | rfl
  rotate_left
  · clear hk hk64
    refine g_tswIn (off := 343) (tgt := 383) q_L_law_40 ⟨by decide, by decide⟩ (by decide) (by decide) rfl (by decide) ?_
    exact la_4 hΓ hro hfr hi hLn hN hI k2
  rcases Nat.lt_or_eq_of_le (Nat.le_of_lt_succ h4) with h3 | rfl
  rotate_left
  · clear hk hk64
    refine g_tswIn (off := 330) (tgt := 370) q_L_law_40 ⟨by decide, by decide⟩ (by decide) (by decide) rfl (by decide) ?_
    exact la_3 hΓ hro hfr hi hLn hN hI k2
  rcases Nat.lt_or_eq_of_le (Nat.le_of_lt_succ h3) with h2 | rfl
  rotate_left
  · clear hk hk64
    refine g_tswIn (off := 286) (tgt := 326) q_L_law_40 ⟨by decide, by decide⟩ (by decide) (by decide) rfl (by decide) ?_
    exact la_2 hΓ hro hfr hi hLn hN hI k2
  rcases Nat.lt_or_eq_of_le (Nat.le_of_lt_succ h2) with h1 | rfl
  rotate_left
  · clear hk hk64
    refine g_tswIn (off := 261) (tgt := 301) q_L_law_40 ⟨by decide, by decide⟩ (by decide) (by decide) rfl (by decide) ?_
    exact la_1 hΓ hro hfr hi hLn hN hI k2
  rcases Nat.lt_or_eq_of_le (Nat.le_of_lt_succ h1) with h0 | rfl
  rotate_left
  · clear hk hk64
    refine g_tswIn (off := 188) (tgt := 228) q_L_law_40 ⟨by decide, by decide⟩ (by decide) (by decide) rfl (by decide) ?_
    exact la_0 hΓ hro hfr hi hLn hN hI k2
  exact absurd h0 (Nat.not_lt_zero _)
theorem law_loop (hΓ : Gd Γ) (hro : RO Γ b Ln f) (hfr : ∀ j, rg (f j)) (hLn : Ln ≤ 3072) (hQ : ∀ τ, Q (some (.int (ii 1))) τ) : ∀ (K N : Nat) (σ : AH) (R : Nat → Nat) (s : LSt), N + K = 512 → LI σ x N R s → G Γ miL_law code Q noX (8 * K + dC R RM) (48 * K + dS R RM) 23 [some (.ref b), some (.ref x), some (.ref (x + 54)), some (.ref (x + 88)), some (.int (ii ((6 * N : Nat) : Int))), none, none] [] σ := by
  intro K
  induction K with
  | zero =>
    intro N σ R s hK hI
    refine g_iload q_L_law_23 rfl ?_
    refine g_aload_n q_L_law_25 rfl ?_
    refine g_alen_ro q_L_law_26 hro ?_
    refine g_bipush q_L_law_27 bp_6 ?_
    refine g_isub q_L_law_29 ?_
    refine g_icmp_gt (tgt := 3069) q_L_law_30 (by decide) ⟨by omega, by omega⟩ ⟨by omega, by omega⟩ (fun hb => ?_) (fun hb => ?_)
    · refine g_iconst q_L_law_3069 ?_
      refine g_zreturn q_L_law_3070.1 rfl (by first | exact Or.inl rfl | exact Or.inr rfl | omega) ?_
      exact hQ _
    · exact absurd hb (by omega)
  | succ K ih =>
    intro N σ R s hK hI
    refine g_iload q_L_law_23 rfl ?_
    refine g_aload_n q_L_law_25 rfl ?_
    refine g_alen_ro q_L_law_26 hro ?_
    refine g_bipush q_L_law_27 bp_6 ?_
    refine g_isub q_L_law_29 ?_
    refine g_icmp_gt (tgt := 3069) q_L_law_30 (by decide) ⟨by omega, by omega⟩ ⟨by omega, by omega⟩ (fun hb => ?_) (fun hb => ?_)
    · refine g_iconst q_L_law_3069 ?_
      refine g_zreturn q_L_law_3070.1 rfl (by first | exact Or.inl rfl | exact Or.inr rfl | omega) ?_
      exact hQ _
    · rw [Nat.mul_succ, Nat.mul_succ]
      exact law_body hΓ hro hfr (by omega) hLn (by omega) hI (fun τ R2 s2 h => ih (N + 1) τ R2 s2 (by omega) h)
theorem law_rm : 8 * 512 + dC R_0 RM ≤ 600935 ∧ 48 * 512 + dS R_0 RM ≤ 7212088 := by decide +kernel
theorem law_start {σ0 : AH} (hΓ : Gd Γ) (hro : RO Γ b Ln f) (hfr : ∀ j, rg (f j)) (hLn : Ln ≤ 3072) (hQ : ∀ τ, Q (some (.int (ii 1))) τ) : G Γ miL_law code Q noX 601024 7293034 0 [some (.ref b), none, none, none, none, none, none] [] σ0 := by
  refine g_new (rc' := 601023) (rs' := 7293020) nw_L_8 rfl q_L_law_0 (by decide) (by decide) ?_
  rw [hnew_b1]
  refine g_dup q_L_law_3 rfl ?_
  refine g_callI (rc' := 600970) (rs' := 7290693) (As := []) cs_L_134 q_L_law_4 (sp_CartPaths_init hΓ) rfl rfl rfl rfl rfl (Nat.le_of_ble_eq_true rfl) (by decide) (by decide) (by decide) (fun _ _ h => h.elim) (k_rv ?_)
  obtain ⟨σ1, hσ1⟩ : ∃ τ, τ = hblk σ0 (cpb σ0.1) := ⟨_, rfl⟩
  refine g_eq (σ2 := σ1) rfl rfl hσ1.symm ?_
  have s1 : σ1.1 = σ0.1 + 54 := by rw [hσ1]; rfl
  refine g_astore_n (L' := [_, _, _, _, _, _, _]) q_L_law_7 (by decide) rfl ?_
  refine g_new (rc' := 600969) (rs' := 7290637) nw_L_135 rfl q_L_law_8 (by decide) (by decide) ?_
  rw [hnew_b1]
  refine g_dup q_L_law_11 rfl ?_
  refine g_callI (rc' := 600936) (rs' := 7212089) (As := []) cs_L_137 q_L_law_12 (sp_Model_init hΓ) rfl rfl rfl rfl rfl (Nat.le_of_ble_eq_true rfl) (by decide) (by decide) (by decide) (fun _ _ h => h.elim) (k_rv ?_)
  obtain ⟨σ2, hσ2⟩ : ∃ τ, τ = hblk σ1 (mdb σ1.1) := ⟨_, rfl⟩
  refine g_eq (σ2 := σ2) rfl rfl hσ2.symm ?_
  have s2 : σ2.1 = σ0.1 + 88 := by rw [hσ2]; show σ1.1 + 34 = _; omega
  refine g_astore_n (L' := [_, _, _, _, _, _, _]) q_L_law_15 (by decide) rfl ?_
  refine g_iconst q_L_law_16 ?_
  refine g_newJ (rc' := 600935) (rs' := 7212088) q_L_law_17 (by decide) (by decide) (by decide) (by decide) ?_
  obtain ⟨σ3, hσ3⟩ : ∃ τ, τ = hnew σ2 (al 1 (fun _ => 0)) := ⟨_, rfl⟩
  refine g_eq (σ2 := σ3) rfl rfl hσ3.symm ?_
  refine g_astore_n (L' := [_, _, _, _, _, _, _]) q_L_law_19 (by decide) rfl ?_
  refine g_iconst q_L_law_20 ?_
  refine g_istore (L' := [_, _, _, _, _, _, _]) q_L_law_21 (by decide) rfl ?_
  rw [s2, s1]
  have c1 : ∀ j e, (cpb σ0.1)[j]? = some e → σ3.2 (σ0.1 + j) = some e := fun j e h => by
    have hj : j < 54 := (List.getElem?_eq_some_iff.mp h).1
    rw [hσ3, hnew_n _ _ (by omega), hσ2, hblk_lo _ _ (by omega), hσ1]
    exact hblk_at σ0 _ j h
  have m1 : ∀ j e, (mdb (σ0.1 + 54))[j]? = some e → σ3.2 (σ0.1 + 54 + j) = some e := fun j e h => by
    have hj : j < 34 := (List.getElem?_eq_some_iff.mp h).1
    rw [hσ3, hnew_n _ _ (by omega), hσ2, ← s1]
    rw [← s1] at h
    exact hblk_at σ1 _ j h
  have o1 : σ3.2 (σ0.1 + 88) = some (al 1 (fun _ => 0)) := by rw [hσ3, ← s2]; exact hnew_s _ _
  have s3 : σ3.1 = σ0.1 + 89 := by rw [hσ3, hnew_1, s2]
  refine g_repQ (t := 4) (a := σ0.1 + 35) (n := 21) (f := fun _ => none) (f' := fun b => if R_0 b = 0 then none else some (σ0.1 + 36)) (c1 35 _ rfl) (fun k hk => (if_pos (show R_0 k = 0 from if_neg (by omega))).symm) ?_
  refine g_wide law_rm.1 law_rm.2 (law_loop (x := σ0.1) hΓ hro hfr hLn hQ 512 0 _ R_0 (0, fun _ => 0, -1, st_0, [], 0, fun _ => 0) rfl ⟨?_, ⟨0, ?_⟩, ?_⟩)
  · exact CX_0 (fun j e hj h => by rw [hput_n _ _ (by omega)]; exact c1 j e h) (hput_s _ _ _) (by omega) (by show σ0.1 + 89 ≤ σ3.1; omega)
  · exact MX_0 (fun j e h => by rw [hput_n _ _ (by omega)]; exact m1 j e h)
  · exact ⟨fun _ => 0, by rw [hput_n _ _ (by omega)]; exact o1⟩
end LLP

