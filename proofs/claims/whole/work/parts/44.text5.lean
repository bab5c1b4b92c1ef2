/-! TextReader: takeName -/
def rsW (tx : Nat → Int) (p1 p2 : Nat) : Bool := isW tx p1 p2 3 k_row || isW tx p1 p2 4 k_cart || isW tx p1 p2 2 k_at || isW tx p1 p2 2 k_to
theorem kr_row : ∀ j, j < 3 → 0 ≤ k_row j ∧ k_row j < 128 := by decide
theorem kr_cart : ∀ j, j < 4 → 0 ≤ k_cart j ∧ k_cart j < 128 := by decide
theorem kr_at : ∀ j, j < 2 → 0 ≤ k_at j ∧ k_at j < 128 := by decide
theorem kr_to : ∀ j, j < 2 → 0 ≤ k_to j ∧ k_to j < 128 := by decide
theorem kr_sgn : ∀ j, j < 6 → 0 ≤ k_sgn j ∧ k_sgn j < 128 := by decide
/-- whether the word from p1 to p2 may be a new cart's name -/
def okNm (NL LE tx : Nat → Int) (carts p1 p2 : Nat) : Bool := decide (1 ≤ p2 - p1 ∧ p2 - p1 ≤ 6) && !rsW tx p1 p2 && !decide (∃ k, k < carts ∧ sameN NL LE tx p1 (p2 - p1) k = true)
theorem cpy_G0 {α : Type} (f g : Nat → α) (sp st : Nat) : va_cpy f g sp st 0 = g := by
  funext k
  unfold va_cpy
  rw [if_neg (by omega)]
theorem cpy_upG {α : Type} (f g : Nat → α) (sp st n : Nat) : va_up (va_cpy f g sp st n) (st + n) (f (sp + n)) = va_cpy f g sp st (n + 1) := by
  funext k
  unfold va_up va_cpy
  by_cases h : k = st + n
  · rw [if_pos h, if_pos (by omega), h, show sp + (st + n - st) = sp + n by omega]
  · rw [if_neg h]
    by_cases h2 : st ≤ k ∧ k < st + n
    · rw [if_pos h2, if_pos (by omega)]
    · rw [if_neg h2, if_neg (by omega)]
section TX5
variable {Γ : GT} {σ : AH} {r len pos ws : Nat} {fa : Int} {tx : Nat → Int}
theorem sp_takeName (hΓ : Gd Γ) {cols rows carts : Nat} {NL LE : Nat → Int} (h0 : σ.2 r = some (rdo r len pos fa ws)) (h1 : σ.2 (r + 1) = some (ai 400 tx)) (oX : okX tx) (hl : len ≤ 400) (hp : pos ≤ len) (hg : σ.2 (r + 2) = some (sco (r + 2) cols rows carts)) (hg4 : σ.2 (r + 2 + 4) = some (ai 30 LE)) (hg5 : σ.2 (r + 2 + 5) = some (ai 5 NL)) (oL : ∀ k, rg (LE k)) (oN : ∀ k, 0 ≤ NL k ∧ NL k ≤ 6) (hn : carts ≤ 5) (c : Nat) (hc : c < 5) : Sp Γ miX5_takeName 0 0 [.ref r, .int (ii c)] σ (fun v σ' => (okNm NL LE tx carts (avn pBl tx len pos) (avn pLe tx len (avn pBl tx len pos)) = true ∧ v = some (.int (ii (bi true))) ∧ σ' = hput (hput (hput σ r (rdo r len (avn pLe tx len (avn pBl tx len pos)) fa (avn pBl tx len pos))) (r + 2 + 4) (ai 30 (va_cpy tx LE (avn pBl tx len pos) (6 * c) (avn pLe tx len (avn pBl tx len pos) - avn pBl tx len pos)))) (r + 2 + 5) (ai 5 (va_up NL c ((avn pLe tx len (avn pBl tx len pos) - avn pBl tx len pos : Nat) : Int)))) ∨ (okNm NL LE tx carts (avn pBl tx len pos) (avn pLe tx len (avn pBl tx len pos)) = false ∧ v = some (.int (ii (bi false))) ∧ σ' = hput σ r (rdo r len (avn pLe tx len (avn pBl tx len pos)) (avn pBl tx len pos) (avn pBl tx len pos)))) noX := by
  have hr1 := avn_rg (p := pBl) (tx := tx) hp
  have hr2 := avn_rg (p := pLe) (tx := tx) hr1.2
  obtain ⟨q1, u1, kr, sr⟩ := str_X5_51 hΓ
  obtain ⟨q2, u2, kc, sc⟩ := str_X5_66 hΓ
  obtain ⟨q3, u3, ka, sa⟩ := str_X5_99 hΓ
  obtain ⟨q4, u4, kt, st⟩ := str_X5_111 hΓ
  refine Sp_of (L := [_, _, _, _, _]) hΓ (by decide +kernel) rfl (Nat.le_of_ble_eq_true rfl) rfl ?_
  refine g_aload_n q_X5_takeName_0 rfl ?_
  refine g_callV (rc' := 0) (rs' := 0) (As := []) cs_X5_48 q_X5_takeName_1 (sp_takeWord hΓ h0 h1 oX hl hp) rfl (by repeat first | with_reducible assumption | with_reducible exact hput_s _ _ _ | refine (hput_n _ _ (by omega)).trans ?_ | exact hput_s _ _ _ | assumption) rfl rfl rfl rfl (Nat.le_of_ble_eq_true rfl) (by decide) (by decide) (by decide) (fun _ _ h => h.elim) (k_rv ?_)
  obtain ⟨p1, hp1⟩ : ∃ z, z = avn pBl tx len pos := ⟨_, rfl⟩
  rw [← hp1] at hr1 hr2 ⊢
  obtain ⟨p2, hp2⟩ : ∃ z, z = avn pLe tx len p1 := ⟨_, rfl⟩
  rw [← hp2] at hr2 ⊢
  obtain ⟨τ, hτ⟩ : ∃ τ, τ = hput σ r (rdo r len p2 fa p1) := ⟨_, rfl⟩
  have t0 : τ.2 r = some (rdo r len p2 fa p1) := by rw [hτ]; exact hput_s _ _ _
  have t1 : τ.2 (r + 1) = some (ai 400 tx) := by rw [hτ]; exact (by repeat first | with_reducible assumption | with_reducible exact hput_s _ _ _ | refine (hput_n _ _ (by omega)).trans ?_ | exact hput_s _ _ _ | assumption)
  have t2 : τ.2 (r + 2) = some (sco (r + 2) cols rows carts) := by rw [hτ]; exact (by repeat first | with_reducible assumption | with_reducible exact hput_s _ _ _ | refine (hput_n _ _ (by omega)).trans ?_ | exact hput_s _ _ _ | assumption)
  have t6 : τ.2 (r + 2 + 4) = some (ai 30 LE) := by rw [hτ]; exact (by repeat first | with_reducible assumption | with_reducible exact hput_s _ _ _ | refine (hput_n _ _ (by omega)).trans ?_ | exact hput_s _ _ _ | assumption)
  have t7 : τ.2 (r + 2 + 5) = some (ai 5 NL) := by rw [hτ]; exact (by repeat first | with_reducible assumption | with_reducible exact hput_s _ _ _ | refine (hput_n _ _ (by omega)).trans ?_ | exact hput_s _ _ _ | assumption)
  refine g_eq (σ2 := τ) rfl rfl hτ.symm ?_
  obtain ⟨m, hm⟩ : ∃ m, m = p2 - p1 := ⟨_, rfl⟩
  rw [← hm]
  have bad : okNm NL LE tx carts p1 p2 = false → ∀ x, G Γ miX5_takeName cX5_takeName (fun v σ' => (okNm NL LE tx carts p1 p2 = true ∧ v = some (.int (ii (bi true))) ∧ σ' = hput (hput (hput σ r (rdo r len p2 fa p1)) (r + 2 + 4) (ai 30 (va_cpy tx LE p1 (6 * c) m))) (r + 2 + 5) (ai 5 (va_up NL c (m : Int)))) ∨ (okNm NL LE tx carts p1 p2 = false ∧ v = some (.int (ii (bi false))) ∧ σ' = hput σ r (rdo r len p2 p1 p1))) noX 0 0 78 [some (.ref r), some (.int (ii c)), some (.int (ii m)), x, none] [] τ := by
    intro hb x
    refine g_fl (L2 := [some (.ref r), some (.int (ii c)), some (.int (ii m)), none, none]) ?_ ⟨rfl, rfl, rfl, trivial⟩
    refine g_aload_n q_X5_takeName_78 rfl ?_
    refine g_aload_n q_X5_takeName_79 rfl ?_
    refine g_get fl_X5_25 q_X5_takeName_80 (by repeat first | with_reducible assumption | with_reducible exact hput_s _ _ _ | refine (hput_n _ _ (by omega)).trans ?_ | exact hput_s _ _ _ | assumption) rfl ?_
    refine g_callV (rc' := 0) (rs' := 0) (As := [_]) cs_X5_71 q_X5_takeName_83 (sp_failAt hΓ t0 p1) rfl (by repeat first | with_reducible assumption | with_reducible exact hput_s _ _ _ | refine (hput_n _ _ (by omega)).trans ?_ | exact hput_s _ _ _ | assumption) rfl rfl rfl rfl (Nat.le_of_ble_eq_true rfl) (by decide) (by decide) (by decide) (fun _ _ h => h.elim) (k_rb ?_)
    rw [hτ, hput_hput]
    refine g_zreturn q_X5_takeName_86.1 rfl (by first | exact Or.inl rfl | exact Or.inr rfl | omega) ?_
    exact Or.inr ⟨hb, rfl, rfl⟩
  have go : okNm NL LE tx carts p1 p2 = true → m ≤ 6 → ∀ x, G Γ miX5_takeName cX5_takeName (fun v σ' => (okNm NL LE tx carts p1 p2 = true ∧ v = some (.int (ii (bi true))) ∧ σ' = hput (hput (hput σ r (rdo r len p2 fa p1)) (r + 2 + 4) (ai 30 (va_cpy tx LE p1 (6 * c) m))) (r + 2 + 5) (ai 5 (va_up NL c (m : Int)))) ∨ (okNm NL LE tx carts p1 p2 = false ∧ v = some (.int (ii (bi false))) ∧ σ' = hput σ r (rdo r len p2 p1 p1))) noX 0 0 87 [some (.ref r), some (.int (ii c)), some (.int (ii m)), x, none] [] τ := by
    intro hb hm6 x
    refine g_fl (L2 := [some (.ref r), some (.int (ii c)), some (.int (ii m)), none, none]) ?_ ⟨rfl, rfl, rfl, trivial⟩
    refine g_iconst q_X5_takeName_87 ?_
    refine g_istore (L' := [_, _, _, _, _]) q_X5_takeName_88 (by decide) rfl ?_
    refine g_eq (σ2 := hput τ (r + 2 + 4) (ai 30 (va_cpy tx LE p1 (6 * c) 0))) rfl rfl (by rw [cpy_G0]; exact (hput_id t6).symm) ?_
    refine g_loop (fun k => k ≤ m) (fun k : Nat => G Γ _ cX5_takeName _ _ 0 0 90 [some (.ref r), some (.int (ii c)), some (.int (ii m)), none, some (.int (ii k))] [] (hput τ (r + 2 + 4) (ai 30 (va_cpy tx LE p1 (6 * c) k)))) (fun k => m - k) ?_ 0 (Nat.zero_le _)
    intro k hk ih
    refine g_iload q_X5_takeName_90 rfl ?_
    refine g_iload_n q_X5_takeName_92 rfl ?_
    refine g_icmp_ge (tgt := 129) q_X5_takeName_93 (by decide) ⟨by omega, by omega⟩ ⟨by omega, by omega⟩ (fun e1 => ?_) (fun e1 => ?_)
    · have e : k = m := by omega
      subst e
      refine g_aload_n q_X5_takeName_129 rfl ?_
      refine g_get fl_X5_31 q_X5_takeName_130 (by repeat first | with_reducible assumption | with_reducible exact hput_s _ _ _ | refine (hput_n _ _ (by omega)).trans ?_ | exact hput_s _ _ _ | assumption) rfl ?_
      refine g_get fl_X5_122 q_X5_takeName_133 (by repeat first | with_reducible assumption | with_reducible exact hput_s _ _ _ | refine (hput_n _ _ (by omega)).trans ?_ | exact hput_s _ _ _ | assumption) rfl ?_
      refine g_iload_n q_X5_takeName_136 rfl ?_
      refine g_iload_n q_X5_takeName_137 rfl ?_
      refine g_iastore q_X5_takeName_138 (by repeat first | with_reducible assumption | with_reducible exact hput_s _ _ _ | refine (hput_n _ _ (by omega)).trans ?_ | exact hput_s _ _ _ | assumption) (by omega) (by omega) ?_
      refine g_iconst q_X5_takeName_139 ?_
      refine g_zreturn q_X5_takeName_140.1 rfl (by first | exact Or.inl rfl | exact Or.inr rfl | omega) ?_
      rw [hτ]
      exact Or.inl ⟨hb, rfl, rfl⟩
    · refine g_aload_n q_X5_takeName_96 rfl ?_
      refine g_get fl_X5_31 q_X5_takeName_97 (by repeat first | with_reducible assumption | with_reducible exact hput_s _ _ _ | refine (hput_n _ _ (by omega)).trans ?_ | exact hput_s _ _ _ | assumption) rfl ?_
      refine g_get fl_X5_119 q_X5_takeName_100 (by repeat first | with_reducible assumption | with_reducible exact hput_s _ _ _ | refine (hput_n _ _ (by omega)).trans ?_ | exact hput_s _ _ _ | assumption) rfl ?_
      refine g_bipush q_X5_takeName_103 bp_6 ?_
      refine g_iload_n q_X5_takeName_105 rfl ?_
      refine g_imul q_X5_takeName_106 ?_
      refine g_iload q_X5_takeName_107 rfl ?_
      refine g_iadd q_X5_takeName_109 ?_
      refine g_aload_n q_X5_takeName_110 rfl ?_
      refine g_get fl_X5_9 q_X5_takeName_111 (by repeat first | with_reducible assumption | with_reducible exact hput_s _ _ _ | refine (hput_n _ _ (by omega)).trans ?_ | exact hput_s _ _ _ | assumption) rfl ?_
      refine g_aload_n q_X5_takeName_114 rfl ?_
      refine g_get fl_X5_25 q_X5_takeName_115 (by repeat first | with_reducible assumption | with_reducible exact hput_s _ _ _ | refine (hput_n _ _ (by omega)).trans ?_ | exact hput_s _ _ _ | assumption) rfl ?_
      refine g_iload q_X5_takeName_118 rfl ?_
      refine g_iadd q_X5_takeName_120 ?_
      refine g_iaload q_X5_takeName_121 (by repeat first | with_reducible assumption | with_reducible exact hput_s _ _ _ | refine (hput_n _ _ (by omega)).trans ?_ | exact hput_s _ _ _ | assumption) (by omega) (by omega) ?_
      refine g_topi (b := tx (p1 + k)) rfl ?_
      refine g_iastore q_X5_takeName_122 (by repeat first | with_reducible assumption | with_reducible exact hput_s _ _ _ | refine (hput_n _ _ (by omega)).trans ?_ | exact hput_s _ _ _ | assumption) (by omega) (by omega) ?_
      rw [hput_hput]
      refine g_eq (σ2 := hput τ (r + 2 + 4) (ai 30 (va_cpy tx LE p1 (6 * c) (k + 1)))) rfl rfl (by rw [← cpy_upG]; rfl) ?_
      refine g_iinc (L' := [_, _, _, _, _]) q_X5_takeName_123 rfl rfl ?_
      refine g_goto (tgt := 90) q_X5_takeName_126 (by decide) ?_
      exact ih (k + 1) (by omega) (by omega)
  have at55 : ∀ b, b = rsW tx p1 p2 → G Γ miX5_takeName cX5_takeName (fun v σ' => (okNm NL LE tx carts p1 p2 = true ∧ v = some (.int (ii (bi true))) ∧ σ' = hput (hput (hput σ r (rdo r len p2 fa p1)) (r + 2 + 4) (ai 30 (va_cpy tx LE p1 (6 * c) m))) (r + 2 + 5) (ai 5 (va_up NL c (m : Int)))) ∨ (okNm NL LE tx carts p1 p2 = false ∧ v = some (.int (ii (bi false))) ∧ σ' = hput σ r (rdo r len p2 p1 p1))) noX 0 0 55 [some (.ref r), some (.int (ii c)), some (.int (ii m)), none, none] [.int (ii (bi b))] τ := by
    intro b hb
    refine g_istore_n (L' := [_, _, _, _, _]) q_X5_takeName_55 (by decide) rfl ?_
    refine g_iload_n q_X5_takeName_56 rfl ?_
    refine g_iconst q_X5_takeName_57 ?_
    refine g_icmp_lt (tgt := 78) q_X5_takeName_58 (by decide) ⟨by omega, by omega⟩ ⟨by omega, by omega⟩ (fun e1 => ?_) (fun e1 => ?_)
    · exact bad (by unfold okNm; rw [decide_eq_false (by omega)]; rfl) _
    refine g_iload_n q_X5_takeName_61 rfl ?_
    refine g_bipush q_X5_takeName_62 bp_6 ?_
    refine g_icmp_gt (tgt := 78) q_X5_takeName_64 (by decide) ⟨by omega, by omega⟩ ⟨by omega, by omega⟩ (fun e2 => ?_) (fun e2 => ?_)
    · exact bad (by unfold okNm; rw [decide_eq_false (by omega)]; rfl) _
    refine g_iload_n q_X5_takeName_67 rfl ?_
    refine g_if_ne (tgt := 78) q_X5_takeName_68 (by decide) (bi_rg _) (fun e3 => ?_) (fun e3 => ?_)
    · exact bad (by unfold okNm; rw [← hb, bi_t e3]; simp) _
    refine g_aload_n q_X5_takeName_71 rfl ?_
    refine g_callV (rc' := 0) (rs' := 0) (As := []) cs_X5_116 q_X5_takeName_72 (sp_isToldName hΓ t0 t1 oX hl hr2 t2 t6 t7 oL oN hn) rfl (by repeat first | with_reducible assumption | with_reducible exact hput_s _ _ _ | refine (hput_n _ _ (by omega)).trans ?_ | exact hput_s _ _ _ | assumption) rfl rfl rfl rfl (Nat.le_of_ble_eq_true rfl) (by decide) (by decide) (by decide) (fun _ _ h => h.elim) (k_rb ?_)
    refine g_if_eq (tgt := 87) q_X5_takeName_75 (by decide) (bi_rg _) (fun e4 => ?_) (fun e4 => ?_)
    · exact go (by unfold okNm; rw [← hb, bi_f e3, bi_f e4, decide_eq_true ⟨by omega, by omega⟩]; rfl) (by omega) _
    · exact bad (by unfold okNm; rw [bi_t e4]; simp) _
  refine g_aload_n q_X5_takeName_4 rfl ?_
  refine g_get fl_X5_19 q_X5_takeName_5 (by repeat first | with_reducible assumption | with_reducible exact hput_s _ _ _ | refine (hput_n _ _ (by omega)).trans ?_ | exact hput_s _ _ _ | assumption) rfl ?_
  refine g_aload_n q_X5_takeName_8 rfl ?_
  refine g_get fl_X5_25 q_X5_takeName_9 (by repeat first | with_reducible assumption | with_reducible exact hput_s _ _ _ | refine (hput_n _ _ (by omega)).trans ?_ | exact hput_s _ _ _ | assumption) rfl ?_
  refine g_isub q_X5_takeName_12 ?_
  refine g_topi (b := (m : Int)) (by omega) ?_
  refine g_istore_n (L' := [_, _, _, _, _]) q_X5_takeName_13 (by decide) rfl ?_
  refine g_aload_n q_X5_takeName_14 rfl ?_
  refine g_ldcS rfl kr q_X5_takeName_15 ?_
  refine g_callV (rc' := 0) (rs' := 0) (As := [_]) cs_X5_53 q_X5_takeName_17 (sp_wordIs hΓ t0 t1 oX hl hr2 sr kr_row (by decide)) rfl (by repeat first | with_reducible assumption | with_reducible exact hput_s _ _ _ | refine (hput_n _ _ (by omega)).trans ?_ | exact hput_s _ _ _ | assumption) rfl rfl rfl rfl (Nat.le_of_ble_eq_true rfl) (by decide) (by decide) (by decide) (fun _ _ h => h.elim) (k_rb ?_)
  refine g_if_ne (tgt := 50) q_X5_takeName_20 (by decide) (bi_rg _) (fun e1 => ?_) (fun e1 => ?_)
  · refine g_iconst q_X5_takeName_50 ?_
    refine g_goto (tgt := 55) q_X5_takeName_51 (by decide) ?_
    exact at55 true (by unfold rsW; rw [bi_t e1]; rfl)
  refine g_aload_n q_X5_takeName_23 rfl ?_
  refine g_ldcS rfl kc q_X5_takeName_24 ?_
  refine g_callV (rc' := 0) (rs' := 0) (As := [_]) cs_X5_53 q_X5_takeName_26 (sp_wordIs hΓ t0 t1 oX hl hr2 sc kr_cart (by decide)) rfl (by repeat first | with_reducible assumption | with_reducible exact hput_s _ _ _ | refine (hput_n _ _ (by omega)).trans ?_ | exact hput_s _ _ _ | assumption) rfl rfl rfl rfl (Nat.le_of_ble_eq_true rfl) (by decide) (by decide) (by decide) (fun _ _ h => h.elim) (k_rb ?_)
  refine g_if_ne (tgt := 50) q_X5_takeName_29 (by decide) (bi_rg _) (fun e2 => ?_) (fun e2 => ?_)
  · refine g_iconst q_X5_takeName_50 ?_
    refine g_goto (tgt := 55) q_X5_takeName_51 (by decide) ?_
    exact at55 true (by unfold rsW; rw [bi_t e2]; simp)
  refine g_aload_n q_X5_takeName_32 rfl ?_
  refine g_ldcS rfl ka q_X5_takeName_33 ?_
  refine g_callV (rc' := 0) (rs' := 0) (As := [_]) cs_X5_53 q_X5_takeName_35 (sp_wordIs hΓ t0 t1 oX hl hr2 sa kr_at (by decide)) rfl (by repeat first | with_reducible assumption | with_reducible exact hput_s _ _ _ | refine (hput_n _ _ (by omega)).trans ?_ | exact hput_s _ _ _ | assumption) rfl rfl rfl rfl (Nat.le_of_ble_eq_true rfl) (by decide) (by decide) (by decide) (fun _ _ h => h.elim) (k_rb ?_)
  refine g_if_ne (tgt := 50) q_X5_takeName_38 (by decide) (bi_rg _) (fun e3 => ?_) (fun e3 => ?_)
  · refine g_iconst q_X5_takeName_50 ?_
    refine g_goto (tgt := 55) q_X5_takeName_51 (by decide) ?_
    exact at55 true (by unfold rsW; rw [bi_t e3]; simp)
  refine g_aload_n q_X5_takeName_41 rfl ?_
  refine g_ldcS rfl kt q_X5_takeName_42 ?_
  refine g_callV (rc' := 0) (rs' := 0) (As := [_]) cs_X5_53 q_X5_takeName_44 (sp_wordIs hΓ t0 t1 oX hl hr2 st kr_to (by decide)) rfl (by repeat first | with_reducible assumption | with_reducible exact hput_s _ _ _ | refine (hput_n _ _ (by omega)).trans ?_ | exact hput_s _ _ _ | assumption) rfl rfl rfl rfl (Nat.le_of_ble_eq_true rfl) (by decide) (by decide) (by decide) (fun _ _ h => h.elim) (k_rb ?_)
  refine g_if_eq (tgt := 54) q_X5_takeName_47 (by decide) (bi_rg _) (fun e4 => ?_) (fun e4 => ?_)
  · refine g_iconst q_X5_takeName_54 ?_
    exact at55 false (by unfold rsW; rw [bi_f e1, bi_f e2, bi_f e3, bi_f e4]; rfl)
  · refine g_iconst q_X5_takeName_50 ?_
    refine g_goto (tgt := 55) q_X5_takeName_51 (by decide) ?_
    exact at55 true (by unfold rsW; rw [bi_t e4]; simp)
end TX5

