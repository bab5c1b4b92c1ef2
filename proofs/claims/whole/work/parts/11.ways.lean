/-! Ways: object w, its cells at w + 1, its costs at w + 2 -/
abbrev wyo (w n : Nat) (ct cs cl co : Int) : AE := ob 8 [.ref (w + 1), .ref (w + 2), .int (ii n), .int (ii ct), .int (ii cs), .int (ii cl), .int (ii co)]
def okP (P : Nat → Int) : Prop := ∀ k, 0 ≤ P k ∧ P k < 36
/-- places or goals of the first n carts, or -1 behind them -/
def okQ (n : Nat) (P : Nat → Int) : Prop := ∀ k, (-1 ≤ P k ∧ P k < 36) ∧ (k < n → 0 ≤ P k)
def okC (C : Nat → Int) : Prop := ∀ k, -1 ≤ C k ∧ C k ≤ 40
theorem sp_indexOf {Γ : GT} (hΓ : Gd Γ) {σ : AH} (a N n : Nat) (z : Int) (f : Nat → Int) (hn : n ≤ N) (hN : N < 1000) (ha : σ.2 a = some (ai N f)) (hf : ∀ k, k < n → rg (f k)) (hz : rg z) : Sp Γ miX9_indexOf 0 0 [.ref a, .int (ii n), .int (ii z)] σ (ri (fstN (fun k => decide (f k = z)) n) σ) noX := by
  refine Sp_of (L := [_, _, _, _]) hΓ (by decide +kernel) rfl (Nat.le_of_ble_eq_true rfl) rfl ?_
  refine g_iconst q_X9_indexOf_0 ?_
  refine g_istore_n (L' := [_, _, _, _]) q_X9_indexOf_1 (by decide) rfl ?_
  refine g_loop (fun k => k ≤ n ∧ ∀ j, j < k → f j ≠ z) (fun k : Nat => G Γ _ cX9_indexOf _ _ 0 0 2 [some (.ref a), some (.int (ii n)), some (.int (ii z)), some (.int (ii k))] [] σ) (fun k => n - k) ?_ 0 ⟨Nat.zero_le _, fun j hj => absurd hj (Nat.not_lt_zero j)⟩
  intro k ⟨hk, hno⟩ ih
  refine g_iload_n q_X9_indexOf_2 rfl ?_
  refine g_iload_n q_X9_indexOf_3 rfl ?_
  refine g_icmp_ge (tgt := 28) q_X9_indexOf_4 (by decide) ⟨by omega, by omega⟩ ⟨by omega, by omega⟩ (fun hx => ?_) (fun hx => ?_)
  · refine g_iconst q_X9_indexOf_28 ?_
    refine g_ireturn q_X9_indexOf_29.1 rfl ?_
    refine ⟨?_, rfl⟩
    rw [fstN_none fun j hj => decide_eq_false (hno j (by omega))]
  · refine g_iload_n q_X9_indexOf_7 rfl ?_
    refine g_aload_n q_X9_indexOf_8 rfl ?_
    refine g_alen q_X9_indexOf_9 (by repeat first | with_reducible assumption | with_reducible exact hput_s _ _ _ | refine (hput_n _ _ (by omega)).trans ?_ | exact hput_s _ _ _ | assumption) ?_
    refine g_icmp_ge (tgt := 28) q_X9_indexOf_10 (by decide) ⟨by omega, by omega⟩ ⟨by omega, by omega⟩ (fun hd => ?_) (fun hd => ?_)
    · omega
    · refine g_aload_n q_X9_indexOf_13 rfl ?_
      refine g_iload_n q_X9_indexOf_14 rfl ?_
      refine g_iaload q_X9_indexOf_15 (by repeat first | with_reducible assumption | with_reducible exact hput_s _ _ _ | refine (hput_n _ _ (by omega)).trans ?_ | exact hput_s _ _ _ | assumption) (by omega) (by omega) ?_
      refine g_topi (b := f k) rfl ?_
      refine g_iload_n q_X9_indexOf_16 rfl ?_
      have hfk := hf k (by omega)
      refine g_icmp_ne (tgt := 22) q_X9_indexOf_17 (by decide) hfk hz (fun he => ?_) (fun he => ?_)
      · refine g_iinc (L' := [_, _, _, _]) q_X9_indexOf_22 rfl rfl ?_
        refine g_goto (tgt := 2) q_X9_indexOf_25 (by decide) ?_
        exact ih (k + 1) ⟨by omega, fun j hj => by
          rcases Nat.lt_or_ge j k with q | q
          · exact hno j q
          · rw [show j = k by omega]; exact he⟩ (by omega)
      · refine g_iload_n q_X9_indexOf_20 rfl ?_
        refine g_ireturn q_X9_indexOf_21.1 rfl ?_
        refine ⟨?_, rfl⟩
        rw [fstN_some (k := k) (by omega) (decide_eq_true he) fun j hj => decide_eq_false (hno j hj)]
theorem sp_indexOf_ro {Γ : GT} (hΓ : Gd Γ) {σ : AH} (a N n : Nat) (z : Int) (f : Nat → Int) (hn : n ≤ N) (hN : N < 1000) (ha : RO Γ a N f) (hf : ∀ k, k < n → rg (f k)) (hz : rg z) : Sp Γ miX9_indexOf 0 0 [.ref a, .int (ii n), .int (ii z)] σ (ri (fstN (fun k => decide (f k = z)) n) σ) noX := by
  refine Sp_of (L := [_, _, _, _]) hΓ (by decide +kernel) rfl (Nat.le_of_ble_eq_true rfl) rfl ?_
  refine g_iconst q_X9_indexOf_0 ?_
  refine g_istore_n (L' := [_, _, _, _]) q_X9_indexOf_1 (by decide) rfl ?_
  refine g_loop (fun k => k ≤ n ∧ ∀ j, j < k → f j ≠ z) (fun k : Nat => G Γ _ cX9_indexOf _ _ 0 0 2 [some (.ref a), some (.int (ii n)), some (.int (ii z)), some (.int (ii k))] [] σ) (fun k => n - k) ?_ 0 ⟨Nat.zero_le _, fun j hj => absurd hj (Nat.not_lt_zero j)⟩
  intro k ⟨hk, hno⟩ ih
  refine g_iload_n q_X9_indexOf_2 rfl ?_
  refine g_iload_n q_X9_indexOf_3 rfl ?_
  refine g_icmp_ge (tgt := 28) q_X9_indexOf_4 (by decide) ⟨by omega, by omega⟩ ⟨by omega, by omega⟩ (fun hx => ?_) (fun hx => ?_)
  · refine g_iconst q_X9_indexOf_28 ?_
    refine g_ireturn q_X9_indexOf_29.1 rfl ?_
    refine ⟨?_, rfl⟩
    rw [fstN_none fun j hj => decide_eq_false (hno j (by omega))]
  · refine g_iload_n q_X9_indexOf_7 rfl ?_
    refine g_aload_n q_X9_indexOf_8 rfl ?_
    refine g_alen_ro q_X9_indexOf_9 (by assumption) ?_
    refine g_icmp_ge (tgt := 28) q_X9_indexOf_10 (by decide) ⟨by omega, by omega⟩ ⟨by omega, by omega⟩ (fun hd => ?_) (fun hd => ?_)
    · omega
    · refine g_aload_n q_X9_indexOf_13 rfl ?_
      refine g_iload_n q_X9_indexOf_14 rfl ?_
      refine g_iaload_ro q_X9_indexOf_15 ha (by omega) (by omega) (by omega) ?_
      refine g_topi (b := f k) rfl ?_
      refine g_iload_n q_X9_indexOf_16 rfl ?_
      have hfk := hf k (by omega)
      refine g_icmp_ne (tgt := 22) q_X9_indexOf_17 (by decide) hfk hz (fun he => ?_) (fun he => ?_)
      · refine g_iinc (L' := [_, _, _, _]) q_X9_indexOf_22 rfl rfl ?_
        refine g_goto (tgt := 2) q_X9_indexOf_25 (by decide) ?_
        exact ih (k + 1) ⟨by omega, fun j hj => by
          rcases Nat.lt_or_ge j k with q | q
          · exact hno j q
          · rw [show j = k by omega]; exact he⟩ (by omega)
      · refine g_iload_n q_X9_indexOf_20 rfl ?_
        refine g_ireturn q_X9_indexOf_21.1 rfl ?_
        refine ⟨?_, rfl⟩
        rw [fstN_some (k := k) (by omega) (decide_eq_true he) fun j hj => decide_eq_false (hno j hj)]
section WY
variable {Γ : GT} {σ : AH} {w n : Nat} {P C : Nat → Int} {ct cs cl co : Int}
theorem sp_sumCosts (hΓ : Gd Γ) (hn : n ≤ 5) (h0 : σ.2 w = some (wyo w n ct cs cl co)) (h2 : σ.2 (w + 2) = some (ai 5 C)) : Sp Γ miX8_sumCosts 0 0 [.ref w] σ (ri (sumN C n) σ) noX := by
  refine Sp_of (L := [_, _, _]) hΓ (by decide +kernel) rfl (Nat.le_of_ble_eq_true rfl) rfl ?_
  refine g_iconst q_X8_sumCosts_0 ?_
  refine g_istore_n (L' := [_, _, _]) q_X8_sumCosts_1 (by decide) rfl ?_
  refine g_iconst q_X8_sumCosts_2 ?_
  refine g_istore_n (L' := [_, _, _]) q_X8_sumCosts_3 (by decide) rfl ?_
  refine g_loop (fun k => k ≤ n) (fun k : Nat => G Γ _ cX8_sumCosts _ _ 0 0 4 [some (.ref w), some (.int (ii (sumN C k))), some (.int (ii k))] [] σ) (fun k => n - k) ?_ 0 (Nat.zero_le _)
  intro k hk ih
  refine g_iload_n q_X8_sumCosts_4 rfl ?_
  refine g_aload_n q_X8_sumCosts_5 rfl ?_
  refine g_get fl_X8_18 q_X8_sumCosts_6 (by repeat first | with_reducible assumption | with_reducible exact hput_s _ _ _ | refine (hput_n _ _ (by omega)).trans ?_ | exact hput_s _ _ _ | assumption) rfl ?_
  refine g_icmp_ge (tgt := 27) q_X8_sumCosts_9 (by decide) ⟨by omega, by omega⟩ ⟨by omega, by omega⟩ (fun hx => ?_) (fun hx => ?_)
  · have e : k = n := by omega
    subst e
    refine g_iload_n q_X8_sumCosts_27 rfl ?_
    refine g_ireturn q_X8_sumCosts_28.1 rfl ?_
    exact ⟨rfl, rfl⟩
  · refine g_iload_n q_X8_sumCosts_12 rfl ?_
    refine g_aload_n q_X8_sumCosts_13 rfl ?_
    refine g_get fl_X8_15 q_X8_sumCosts_14 (by repeat first | with_reducible assumption | with_reducible exact hput_s _ _ _ | refine (hput_n _ _ (by omega)).trans ?_ | exact hput_s _ _ _ | assumption) rfl ?_
    refine g_iload_n q_X8_sumCosts_17 rfl ?_
    refine g_iaload q_X8_sumCosts_18 (by repeat first | with_reducible assumption | with_reducible exact hput_s _ _ _ | refine (hput_n _ _ (by omega)).trans ?_ | exact hput_s _ _ _ | assumption) (by omega) (by omega) ?_
    refine g_iadd q_X8_sumCosts_19 ?_
    refine g_istore_n (L' := [_, _, _]) q_X8_sumCosts_20 (by decide) rfl ?_
    refine g_iinc (L' := [_, _, _]) q_X8_sumCosts_21 rfl rfl ?_
    refine g_goto (tgt := 4) q_X8_sumCosts_24 (by decide) ?_
    exact ih (k + 1) (by omega) (by omega)
theorem sp_lastEnd (hΓ : Gd Γ) (hn : n ≤ 5) (h0 : σ.2 w = some (wyo w n ct cs cl co)) (h2 : σ.2 (w + 2) = some (ai 5 C)) (hC : okC C) : Sp Γ miX8_lastEnd 0 0 [.ref w] σ (ri (mxN C n) σ) noX := by
  refine Sp_of (L := [_, _, _]) hΓ (by decide +kernel) rfl (Nat.le_of_ble_eq_true rfl) rfl ?_
  refine g_iconst q_X8_lastEnd_0 ?_
  refine g_istore_n (L' := [_, _, _]) q_X8_lastEnd_1 (by decide) rfl ?_
  refine g_iconst q_X8_lastEnd_2 ?_
  refine g_istore_n (L' := [_, _, _]) q_X8_lastEnd_3 (by decide) rfl ?_
  refine g_loop (fun k => k ≤ n) (fun k : Nat => G Γ _ cX8_lastEnd _ _ 0 0 4 [some (.ref w), some (.int (ii (mxN C k))), some (.int (ii k))] [] σ) (fun k => n - k) ?_ 0 (Nat.zero_le _)
  intro k hk ih
  refine g_iload_n q_X8_lastEnd_4 rfl ?_
  refine g_aload_n q_X8_lastEnd_5 rfl ?_
  refine g_get fl_X8_18 q_X8_lastEnd_6 (by repeat first | with_reducible assumption | with_reducible exact hput_s _ _ _ | refine (hput_n _ _ (by omega)).trans ?_ | exact hput_s _ _ _ | assumption) rfl ?_
  refine g_icmp_ge (tgt := 39) q_X8_lastEnd_9 (by decide) ⟨by omega, by omega⟩ ⟨by omega, by omega⟩ (fun hx => ?_) (fun hx => ?_)
  · have e : k = n := by omega
    subst e
    refine g_iload_n q_X8_lastEnd_39 rfl ?_
    refine g_ireturn q_X8_lastEnd_40.1 rfl ?_
    exact ⟨rfl, rfl⟩
  · refine g_aload_n q_X8_lastEnd_12 rfl ?_
    refine g_get fl_X8_15 q_X8_lastEnd_13 (by repeat first | with_reducible assumption | with_reducible exact hput_s _ _ _ | refine (hput_n _ _ (by omega)).trans ?_ | exact hput_s _ _ _ | assumption) rfl ?_
    refine g_iload_n q_X8_lastEnd_16 rfl ?_
    refine g_iaload q_X8_lastEnd_17 (by repeat first | with_reducible assumption | with_reducible exact hput_s _ _ _ | refine (hput_n _ _ (by omega)).trans ?_ | exact hput_s _ _ _ | assumption) (by omega) (by omega) ?_
    refine g_topi (b := C k) rfl ?_
    refine g_iload_n q_X8_lastEnd_18 rfl ?_
    have hCk := hC k
    have hm := mxN_rg (C := C) (b := 40) (by omega) (n := k) (fun j _ => (hC j).2)
    refine g_icmp_le (tgt := 31) q_X8_lastEnd_19 (by decide) ⟨by omega, by omega⟩ ⟨by omega, by omega⟩ (fun hd => ?_) (fun hd => ?_)
    · refine g_iload_n q_X8_lastEnd_31 rfl ?_
      refine g_istore_n (L' := [_, _, _]) q_X8_lastEnd_32 (by decide) rfl ?_
      refine g_iinc (L' := [_, _, _]) q_X8_lastEnd_33 rfl rfl ?_
      refine g_goto (tgt := 4) q_X8_lastEnd_36 (by decide) ?_
      have := ih (k + 1) (by omega) (by omega)
      rw [show mxN C (k + 1) = mxN C k by rw [mxN, if_neg (by omega)]] at this
      exact this
    · refine g_aload_n q_X8_lastEnd_22 rfl ?_
      refine g_get fl_X8_15 q_X8_lastEnd_23 (by repeat first | with_reducible assumption | with_reducible exact hput_s _ _ _ | refine (hput_n _ _ (by omega)).trans ?_ | exact hput_s _ _ _ | assumption) rfl ?_
      refine g_iload_n q_X8_lastEnd_26 rfl ?_
      refine g_iaload q_X8_lastEnd_27 (by repeat first | with_reducible assumption | with_reducible exact hput_s _ _ _ | refine (hput_n _ _ (by omega)).trans ?_ | exact hput_s _ _ _ | assumption) (by omega) (by omega) ?_
      refine g_goto (tgt := 32) q_X8_lastEnd_28 (by decide) ?_
      refine g_istore_n (L' := [_, _, _]) q_X8_lastEnd_32 (by decide) rfl ?_
      refine g_iinc (L' := [_, _, _]) q_X8_lastEnd_33 rfl rfl ?_
      refine g_goto (tgt := 4) q_X8_lastEnd_36 (by decide) ?_
      have := ih (k + 1) (by omega) (by omega)
      rw [show mxN C (k + 1) = C k by rw [mxN, if_pos (by omega)]] at this
      exact this
theorem sp_allGo (hΓ : Gd Γ) (hn : n ≤ 5) (h0 : σ.2 w = some (wyo w n ct cs cl co)) (h2 : σ.2 (w + 2) = some (ai 5 C)) (hC : okC C) : Sp Γ miX8_allGo 0 0 [.ref w] σ (rb (decide (∀ k, k < n → C k ≠ -1)) σ) noX := by
  refine Sp_of (L := [_]) hΓ (by decide +kernel) rfl (Nat.le_of_ble_eq_true rfl) rfl ?_
  refine g_aload_n q_X8_allGo_0 rfl ?_
  refine g_get fl_X8_15 q_X8_allGo_1 (by repeat first | with_reducible assumption | with_reducible exact hput_s _ _ _ | refine (hput_n _ _ (by omega)).trans ?_ | exact hput_s _ _ _ | assumption) rfl ?_
  refine g_aload_n q_X8_allGo_4 rfl ?_
  refine g_get fl_X8_18 q_X8_allGo_5 (by repeat first | with_reducible assumption | with_reducible exact hput_s _ _ _ | refine (hput_n _ _ (by omega)).trans ?_ | exact hput_s _ _ _ | assumption) rfl ?_
  refine g_iconst q_X8_allGo_8 ?_
  refine g_callSN (rc' := 0) (rs' := 0) (As := [_, _, _]) cs_X8_52 q_X8_allGo_9 (sp_indexOf hΓ (w + 2) 5 n (-1) C hn (by decide) h2 (fun k _ => by have := hC k; exact ⟨by omega, by omega⟩) ⟨by decide, by decide⟩) rfl rfl rfl (Nat.le_of_ble_eq_true rfl) (by decide) (by decide) (by decide) (fun _ _ h => h.elim) (k_ri ?_)
  refine g_iconst q_X8_allGo_12 ?_
  have hr := fstN_rg (fun k => decide (C k = -1)) n
  refine g_icmp_ne (tgt := 20) q_X8_allGo_13 (by decide) ⟨by omega, by omega⟩ ⟨by omega, by omega⟩ (fun hd => ?_) (fun hd => ?_)
  · refine g_iconst q_X8_allGo_20 ?_
    refine g_topi (b := bi (decide (∀ k, k < n → C k ≠ -1))) ?_ ?_
    · rcases fstN_cases (fun k => decide (C k = -1)) n with ⟨e, -⟩ | ⟨k, hk, e, hp, -⟩
      · exact absurd e hd
      · rw [decide_eq_false (fun q => q k hk (of_decide_eq_true hp))]; rfl
    refine g_zreturn q_X8_allGo_21.1 rfl (bi_01 _) ?_
    exact ⟨rfl, rfl⟩
  · refine g_iconst q_X8_allGo_16 ?_
    refine g_goto (tgt := 21) q_X8_allGo_17 (by decide) ?_
    refine g_topi (b := bi (decide (∀ k, k < n → C k ≠ -1))) ?_ ?_
    · rcases fstN_cases (fun k => decide (C k = -1)) n with ⟨-, hj⟩ | ⟨k, hk, e, -⟩
      · rw [decide_eq_true (fun k hk => of_decide_eq_false (hj k hk))]; rfl
      · omega
    refine g_zreturn q_X8_allGo_21.1 rfl (bi_01 _) ?_
    exact ⟨rfl, rfl⟩
theorem sp_cellOf (hΓ : Gd Γ) (h0 : σ.2 w = some (wyo w n ct cs cl co)) (h1 : σ.2 (w + 1) = some (ai 205 P)) (c t : Nat) (hc : c < 5) (ht : t < 41) : Sp Γ miX8_cellOf 0 0 [.ref w, .int (ii c), .int (ii t)] σ (ri (P (41 * c + t)) σ) noX := by
  refine Sp_of (L := [_, _, _]) hΓ (by decide +kernel) rfl (Nat.le_of_ble_eq_true rfl) rfl ?_
  refine g_aload_n q_X8_cellOf_0 rfl ?_
  refine g_get fl_X8_9 q_X8_cellOf_1 (by repeat first | with_reducible assumption | with_reducible exact hput_s _ _ _ | refine (hput_n _ _ (by omega)).trans ?_ | exact hput_s _ _ _ | assumption) rfl ?_
  refine g_bipush q_X8_cellOf_4 bp_41 ?_
  refine g_iload_n q_X8_cellOf_6 rfl ?_
  refine g_imul q_X8_cellOf_7 ?_
  refine g_iload_n q_X8_cellOf_8 rfl ?_
  refine g_iadd q_X8_cellOf_9 ?_
  refine g_iaload q_X8_cellOf_10 (by repeat first | with_reducible assumption | with_reducible exact hput_s _ _ _ | refine (hput_n _ _ (by omega)).trans ?_ | exact hput_s _ _ _ | assumption) (by omega) (by omega) ?_
  refine g_ireturn q_X8_cellOf_11.1 rfl ?_
  exact ⟨rfl, rfl⟩
theorem sp_comes (hΓ : Gd Γ) (hP : okP P) (h0 : σ.2 w = some (wyo w n ct cs cl co)) (h1 : σ.2 (w + 1) = some (ai 205 P)) (c t : Nat) (hc : c < 5) (ht : t < 40) : Sp Γ miX8_comes 0 0 [.ref w, .int (ii c), .int (ii ((t + 1 : Nat) : Int))] σ (rb (decide (P (41 * c + (t + 1)) ≠ P (41 * c + t))) σ) noX := by
  have b1 := hP (41 * c + (t + 1))
  have b2 := hP (41 * c + t)
  refine Sp_of (L := [_, _, _]) hΓ (by decide +kernel) rfl (Nat.le_of_ble_eq_true rfl) rfl ?_
  refine g_aload_n q_X8_comes_0 rfl ?_
  refine g_iload_n q_X8_comes_1 rfl ?_
  refine g_iload_n q_X8_comes_2 rfl ?_
  refine g_callV (rc' := 0) (rs' := 0) (As := [_, _]) cs_X8_56 q_X8_comes_3 (sp_cellOf hΓ h0 h1 c (t + 1) hc (by omega)) rfl (by repeat first | with_reducible assumption | with_reducible exact hput_s _ _ _ | refine (hput_n _ _ (by omega)).trans ?_ | exact hput_s _ _ _ | assumption) rfl rfl rfl rfl (Nat.le_of_ble_eq_true rfl) (by decide) (by decide) (by decide) (fun _ _ h => h.elim) (k_ri ?_)
  refine g_aload_n q_X8_comes_6 rfl ?_
  refine g_iload_n q_X8_comes_7 rfl ?_
  refine g_iload_n q_X8_comes_8 rfl ?_
  refine g_iconst q_X8_comes_9 ?_
  refine g_isub q_X8_comes_10 ?_
  refine g_topi (b := ((t : Nat) : Int)) (by omega) ?_
  refine g_callV (rc' := 0) (rs' := 0) (As := [_, _]) cs_X8_56 q_X8_comes_11 (sp_cellOf hΓ h0 h1 c t hc (by omega)) rfl (by repeat first | with_reducible assumption | with_reducible exact hput_s _ _ _ | refine (hput_n _ _ (by omega)).trans ?_ | exact hput_s _ _ _ | assumption) rfl rfl rfl rfl (Nat.le_of_ble_eq_true rfl) (by decide) (by decide) (by decide) (fun _ _ h => h.elim) (k_ri ?_)
  refine g_icmp_eq (tgt := 21) q_X8_comes_14 (by decide) ⟨by omega, by omega⟩ ⟨by omega, by omega⟩ (fun hd => ?_) (fun hd => ?_)
  · refine g_iconst q_X8_comes_21 ?_
    rw [show decide (P (41 * c + (t + 1)) ≠ P (41 * c + t)) = false from decide_eq_false (fun q => q hd)]
    refine g_zreturn q_X8_comes_22.1 rfl (by first | exact Or.inl rfl | exact Or.inr rfl | omega) ?_
    exact ⟨rfl, rfl⟩
  · refine g_iconst q_X8_comes_17 ?_
    refine g_goto (tgt := 22) q_X8_comes_18 (by decide) ?_
    rw [show decide (P (41 * c + (t + 1)) ≠ P (41 * c + t)) = true from decide_eq_true hd]
    refine g_zreturn q_X8_comes_22.1 rfl (by first | exact Or.inl rfl | exact Or.inr rfl | omega) ?_
    exact ⟨rfl, rfl⟩
theorem sp_cartIn (hΓ : Gd Γ) (hn : n ≤ 5) (hP : okP P) (h0 : σ.2 w = some (wyo w n ct cs cl co)) (h1 : σ.2 (w + 1) = some (ai 205 P)) (z : Int) (hz : rg z) (t : Nat) (ht : t < 41) : Sp Γ miX8_cartIn 0 0 [.ref w, .int (ii z), .int (ii t)] σ (ri (fstN (fun c => decide (P (41 * c + t) = z)) n) σ) noX := by
  refine Sp_of (L := [_, _, _, _]) hΓ (by decide +kernel) rfl (Nat.le_of_ble_eq_true rfl) rfl ?_
  refine g_iconst q_X8_cartIn_0 ?_
  refine g_istore_n (L' := [_, _, _, _]) q_X8_cartIn_1 (by decide) rfl ?_
  refine g_loop (fun k => k ≤ n ∧ ∀ j, j < k → P (41 * j + t) ≠ z) (fun k : Nat => G Γ _ cX8_cartIn _ _ 0 0 2 [some (.ref w), some (.int (ii z)), some (.int (ii t)), some (.int (ii k))] [] σ) (fun k => n - k) ?_ 0 ⟨Nat.zero_le _, fun j hj => absurd hj (Nat.not_lt_zero j)⟩
  intro k ⟨hk, hno⟩ ih
  refine g_iload_n q_X8_cartIn_2 rfl ?_
  refine g_aload_n q_X8_cartIn_3 rfl ?_
  refine g_get fl_X8_18 q_X8_cartIn_4 (by repeat first | with_reducible assumption | with_reducible exact hput_s _ _ _ | refine (hput_n _ _ (by omega)).trans ?_ | exact hput_s _ _ _ | assumption) rfl ?_
  refine g_icmp_ge (tgt := 28) q_X8_cartIn_7 (by decide) ⟨by omega, by omega⟩ ⟨by omega, by omega⟩ (fun hx => ?_) (fun hx => ?_)
  · refine g_iconst q_X8_cartIn_28 ?_
    refine g_ireturn q_X8_cartIn_29.1 rfl ?_
    refine ⟨?_, rfl⟩
    rw [fstN_none fun j hj => decide_eq_false (hno j (by omega))]
  · have hPk := hP (41 * k + t)
    refine g_aload_n q_X8_cartIn_10 rfl ?_
    refine g_iload_n q_X8_cartIn_11 rfl ?_
    refine g_iload_n q_X8_cartIn_12 rfl ?_
    refine g_callV (rc' := 0) (rs' := 0) (As := [_, _]) cs_X8_56 q_X8_cartIn_13 (sp_cellOf hΓ h0 h1 k t (by omega) ht) rfl (by repeat first | with_reducible assumption | with_reducible exact hput_s _ _ _ | refine (hput_n _ _ (by omega)).trans ?_ | exact hput_s _ _ _ | assumption) rfl rfl rfl rfl (Nat.le_of_ble_eq_true rfl) (by decide) (by decide) (by decide) (fun _ _ h => h.elim) (k_ri ?_)
    refine g_iload_n q_X8_cartIn_16 rfl ?_
    refine g_icmp_ne (tgt := 22) q_X8_cartIn_17 (by decide) ⟨by omega, by omega⟩ hz (fun he => ?_) (fun he => ?_)
    · refine g_iinc (L' := [_, _, _, _]) q_X8_cartIn_22 rfl rfl ?_
      refine g_goto (tgt := 2) q_X8_cartIn_25 (by decide) ?_
      exact ih (k + 1) ⟨by omega, fun j hj => by
        rcases Nat.lt_or_ge j k with q | q
        · exact hno j q
        · rw [show j = k by omega]; exact he⟩ (by omega)
    · refine g_iload_n q_X8_cartIn_20 rfl ?_
      refine g_ireturn q_X8_cartIn_21.1 rfl ?_
      refine ⟨?_, rfl⟩
      rw [fstN_some (k := k) (by omega) (decide_eq_true he) fun j hj => decide_eq_false (hno j hj)]
theorem sp_firstTimeIn (hΓ : Gd Γ) (hP : okP P) (h0 : σ.2 w = some (wyo w n ct cs cl co)) (h1 : σ.2 (w + 1) = some (ai 205 P)) (c : Nat) (hc : c < 5) (z : Int) (hz : rg z) : Sp Γ miX8_firstTimeIn 0 0 [.ref w, .int (ii c), .int (ii z)] σ (ri (fstN (fun t => decide (P (41 * c + t) = z)) 41) σ) noX := by
  refine Sp_of (L := [_, _, _, _]) hΓ (by decide +kernel) rfl (Nat.le_of_ble_eq_true rfl) rfl ?_
  refine g_iconst q_X8_firstTimeIn_0 ?_
  refine g_istore_n (L' := [_, _, _, _]) q_X8_firstTimeIn_1 (by decide) rfl ?_
  refine g_loop (fun k => k ≤ 41 ∧ ∀ j, j < k → P (41 * c + j) ≠ z) (fun k : Nat => G Γ _ cX8_firstTimeIn _ _ 0 0 2 [some (.ref w), some (.int (ii c)), some (.int (ii z)), some (.int (ii k))] [] σ) (fun k => 41 - k) ?_ 0 ⟨Nat.zero_le _, fun j hj => absurd hj (Nat.not_lt_zero j)⟩
  intro k ⟨hk, hno⟩ ih
  refine g_iload_n q_X8_firstTimeIn_2 rfl ?_
  refine g_bipush q_X8_firstTimeIn_3 bp_40 ?_
  refine g_icmp_gt (tgt := 26) q_X8_firstTimeIn_5 (by decide) ⟨by omega, by omega⟩ ⟨by omega, by omega⟩ (fun hx => ?_) (fun hx => ?_)
  · refine g_iconst q_X8_firstTimeIn_26 ?_
    refine g_ireturn q_X8_firstTimeIn_27.1 rfl ?_
    refine ⟨?_, rfl⟩
    rw [fstN_none fun j hj => decide_eq_false (hno j (by omega))]
  · have hPk := hP (41 * c + k)
    refine g_aload_n q_X8_firstTimeIn_8 rfl ?_
    refine g_iload_n q_X8_firstTimeIn_9 rfl ?_
    refine g_iload_n q_X8_firstTimeIn_10 rfl ?_
    refine g_callV (rc' := 0) (rs' := 0) (As := [_, _]) cs_X8_56 q_X8_firstTimeIn_11 (sp_cellOf hΓ h0 h1 c k hc (by omega)) rfl (by repeat first | with_reducible assumption | with_reducible exact hput_s _ _ _ | refine (hput_n _ _ (by omega)).trans ?_ | exact hput_s _ _ _ | assumption) rfl rfl rfl rfl (Nat.le_of_ble_eq_true rfl) (by decide) (by decide) (by decide) (fun _ _ h => h.elim) (k_ri ?_)
    refine g_iload_n q_X8_firstTimeIn_14 rfl ?_
    refine g_icmp_ne (tgt := 20) q_X8_firstTimeIn_15 (by decide) ⟨by omega, by omega⟩ hz (fun he => ?_) (fun he => ?_)
    · refine g_iinc (L' := [_, _, _, _]) q_X8_firstTimeIn_20 rfl rfl ?_
      refine g_goto (tgt := 2) q_X8_firstTimeIn_23 (by decide) ?_
      exact ih (k + 1) ⟨by omega, fun j hj => by
        rcases Nat.lt_or_ge j k with q | q
        · exact hno j q
        · rw [show j = k by omega]; exact he⟩ (by omega)
    · refine g_iload_n q_X8_firstTimeIn_18 rfl ?_
      refine g_ireturn q_X8_firstTimeIn_19.1 rfl ?_
      refine ⟨?_, rfl⟩
      rw [fstN_some (k := k) (by omega) (decide_eq_true he) fun j hj => decide_eq_false (hno j hj)]
end WY

