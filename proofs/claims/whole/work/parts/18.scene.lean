/-! Scene -/
def ltb (SO : Nat → Int) (cols rows x y m : Nat) : Bool := (decide (SO (6 * y + x) = 0) || decide (SO (6 * y + x) = 2 + m)) && (decide (0 ≤ (x : Int) + t_acr m ∧ (x : Int) + t_acr m < cols ∧ 0 ≤ (y : Int) + t_dwn m ∧ (y : Int) + t_dwn m < rows) && decide (SO (6 * ((y : Int) + t_dwn m) + ((x : Int) + t_acr m)).toNat ≠ 1))
def lvX (SO : Nat → Int) (cols rows m y : Nat) (acc : BitVec 64) : Nat → BitVec 64
  | 0 => acc
  | x + 1 => if ltb SO cols rows x y m then lvX SO cols rows m y acc x ||| bt1 (6 * y + x) else lvX SO cols rows m y acc x
def lvY (SO : Nat → Int) (cols rows m : Nat) : Nat → BitVec 64
  | 0 => 0
  | y + 1 => lvX SO cols rows m y (lvY SO cols rows m y) cols
def lvF (SO : Nat → Int) (cols rows m : Nat) : BitVec 64 := lvY SO cols rows m rows
def rcN (lv : Nat → BitVec 64) (pl : Nat) : Nat → BitVec 64
  | 0 => bt1 pl
  | k + 1 => rcN lv pl k ||| ((rcN lv pl k &&& lv 0) >>> 6 ||| (rcN lv pl k &&& lv 1) <<< 1 ||| (rcN lv pl k &&& lv 2) <<< 6 ||| (rcN lv pl k &&& lv 3) >>> 1)
def SCo (σ : AH) (g cols rows carts : Nat) (SO PL GO LE NL : Nat → Int) (lv : Nat → BitVec 64) : Prop := σ.2 g = some (sco g cols rows carts) ∧ σ.2 (g + 1) = some (ai 36 SO) ∧ σ.2 (g + 2) = some (ai 5 PL) ∧ σ.2 (g + 3) = some (ai 5 GO) ∧ σ.2 (g + 4) = some (ai 30 LE) ∧ σ.2 (g + 5) = some (ai 5 NL) ∧ σ.2 (g + 6) = some (al 4 lv)
theorem SCo.keep {σ σ' : AH} {g cols rows carts : Nat} {SO PL GO LE NL : Nat → Int} {lv : Nat → BitVec 64} (h : SCo σ g cols rows carts SO PL GO LE NL lv) (e : ∀ a, inb g 7 a → σ'.2 a = σ.2 a) : SCo σ' g cols rows carts SO PL GO LE NL lv := by
  obtain ⟨h0, h1, h2, h3, h4, h5, h6⟩ := h
  exact ⟨(e _ ⟨by omega, by omega⟩).trans h0, (e _ ⟨by omega, by omega⟩).trans h1, (e _ ⟨by omega, by omega⟩).trans h2, (e _ ⟨by omega, by omega⟩).trans h3, (e _ ⟨by omega, by omega⟩).trans h4, (e _ ⟨by omega, by omega⟩).trans h5, (e _ ⟨by omega, by omega⟩).trans h6⟩
theorem SCo.g {σ : AH} {g cols rows carts : Nat} {SO PL GO LE NL : Nat → Int} {lv : Nat → BitVec 64} (h : SCo σ g cols rows carts SO PL GO LE NL lv) : SCg σ g cols rows carts PL GO lv := ⟨h.1, h.2.2.1, h.2.2.2.1, h.2.2.2.2.2.2⟩
theorem t_acr_rg (m : Nat) : -1 ≤ t_acr m ∧ t_acr m ≤ 1 := by
  match m with
  | 0 => exact ⟨by decide, by decide⟩
  | 1 => exact ⟨by decide, by decide⟩
  | 2 => exact ⟨by decide, by decide⟩
  | m + 3 => exact ⟨by show (-1 : Int) ≤ -1; decide, by show (-1 : Int) ≤ 1; decide⟩
theorem t_dwn_rg (m : Nat) : -1 ≤ t_dwn m ∧ t_dwn m ≤ 1 := by
  match m with
  | 0 => exact ⟨by decide, by decide⟩
  | 1 => exact ⟨by decide, by decide⟩
  | 2 => exact ⟨by decide, by decide⟩
  | m + 3 => exact ⟨by show (-1 : Int) ≤ 0; decide, by show (0 : Int) ≤ 1; decide⟩
def okS (SO : Nat → Int) : Prop := ∀ k, 0 ≤ SO k ∧ SO k < 6
section SC
variable {Γ : GT} {σ : AH} {g cols rows carts : Nat} {SO PL GO LE NL : Nat → Int} {lv : Nat → BitVec 64}
theorem sp_has (hΓ : Gd Γ) (hS : SCo σ g cols rows carts SO PL GO LE NL lv) (hc : cols ≤ 6) (hr : rows ≤ 6) (x y : Int) (hx : rg x) (hy : rg y) : Sp Γ miX2_has 0 0 [.ref g, .int (ii x), .int (ii y)] σ (rb (decide (0 ≤ x ∧ x < cols ∧ 0 ≤ y ∧ y < rows)) σ) noX := by
  have h0 := hS.1
  have hno : ¬ (0 ≤ x ∧ x < cols ∧ 0 ≤ y ∧ y < rows) → G Γ miX2_has cX2_has (rb (decide (0 ≤ x ∧ x < cols ∧ 0 ≤ y ∧ y < rows)) σ) noX 0 0 28 [some (.ref g), some (.int (ii x)), some (.int (ii y))] [] σ := by
    intro h
    rw [decide_eq_false h]
    refine g_iconst q_X2_has_28 ?_
    refine g_zreturn q_X2_has_29.1 rfl (by first | exact Or.inl rfl | exact Or.inr rfl | omega) ?_
    exact ⟨rfl, rfl⟩
  refine Sp_of (L := [_, _, _]) hΓ (by decide +kernel) rfl (Nat.le_of_ble_eq_true rfl) rfl ?_
  refine g_iload_n q_X2_has_0 rfl ?_
  refine g_if_lt (tgt := 28) q_X2_has_1 (by decide) hx (fun e1 => ?_) (fun e1 => ?_)
  · exact hno (by omega)
  · refine g_iload_n q_X2_has_4 rfl ?_
    refine g_aload_n q_X2_has_5 rfl ?_
    refine g_get fl_X2_9 q_X2_has_6 (by repeat first | with_reducible assumption | with_reducible exact hput_s _ _ _ | refine (hput_n _ _ (by omega)).trans ?_ | exact hput_s _ _ _ | assumption) rfl ?_
    refine g_icmp_ge (tgt := 28) q_X2_has_9 (by decide) hx ⟨by omega, by omega⟩ (fun e2 => ?_) (fun e2 => ?_)
    · exact hno (by omega)
    · refine g_iload_n q_X2_has_12 rfl ?_
      refine g_if_lt (tgt := 28) q_X2_has_13 (by decide) hy (fun e3 => ?_) (fun e3 => ?_)
      · exact hno (by omega)
      · refine g_iload_n q_X2_has_16 rfl ?_
        refine g_aload_n q_X2_has_17 rfl ?_
        refine g_get fl_X2_15 q_X2_has_18 (by repeat first | with_reducible assumption | with_reducible exact hput_s _ _ _ | refine (hput_n _ _ (by omega)).trans ?_ | exact hput_s _ _ _ | assumption) rfl ?_
        refine g_icmp_ge (tgt := 28) q_X2_has_21 (by decide) hy ⟨by omega, by omega⟩ (fun e4 => ?_) (fun e4 => ?_)
        · exact hno (by omega)
        · refine g_iconst q_X2_has_24 ?_
          refine g_goto (tgt := 29) q_X2_has_25 (by decide) ?_
          rw [decide_eq_true ⟨e1, e2, e3, e4⟩]
          refine g_zreturn q_X2_has_29.1 rfl (by first | exact Or.inl rfl | exact Or.inr rfl | omega) ?_
          exact ⟨rfl, rfl⟩
def tkn (carts : Nat) (PL GO : Nat → Int) (z : Int) : Bool := decide (∃ k, k < carts ∧ (PL k = z ∨ GO k = z))
theorem fst_ex {f : Nat → Int} {n : Nat} {z : Int} : fstN (fun k => decide (f k = z)) n ≠ -1 ↔ ∃ k, k < n ∧ f k = z := by
  rcases fstN_cases (fun k => decide (f k = z)) n with ⟨e, h⟩ | ⟨k, hk, e, h, -⟩
  · exact ⟨fun q => absurd e q, fun ⟨k, hk, q⟩ => absurd q (of_decide_eq_false (h k hk))⟩
  · exact ⟨fun _ => ⟨k, hk, of_decide_eq_true h⟩, fun _ => by omega⟩
theorem sp_isTaken (hΓ : Gd Γ) (hS : SCo σ g cols rows carts SO PL GO LE NL lv) (hn : carts ≤ 5) (hP : okQ carts PL) (hG : okQ carts GO) (z : Int) (hz : rg z) : Sp Γ miX2_isTaken 0 0 [.ref g, .int (ii z)] σ (rb (tkn carts PL GO z) σ) noX := by
  obtain ⟨h0, h1, h2, h3, h4, h5, h6⟩ := hS
  have r1 := fstN_rg (fun k => decide (PL k = z)) carts
  have r2 := fstN_rg (fun k => decide (GO k = z)) carts
  have hyes : (∃ k, k < carts ∧ (PL k = z ∨ GO k = z)) → G Γ miX2_isTaken cX2_isTaken (rb (tkn carts PL GO z) σ) noX 0 0 32 [some (.ref g), some (.int (ii z))] [] σ := by
    intro h
    unfold tkn
    rw [decide_eq_true h]
    refine g_iconst q_X2_isTaken_32 ?_
    refine g_goto (tgt := 37) q_X2_isTaken_33 (by decide) ?_
    refine g_zreturn q_X2_isTaken_37.1 rfl (by first | exact Or.inl rfl | exact Or.inr rfl | omega) ?_
    exact ⟨rfl, rfl⟩
  refine Sp_of (L := [_, _]) hΓ (by decide +kernel) rfl (Nat.le_of_ble_eq_true rfl) rfl ?_
  refine g_aload_n q_X2_isTaken_0 rfl ?_
  refine g_get fl_X2_25 q_X2_isTaken_1 (by repeat first | with_reducible assumption | with_reducible exact hput_s _ _ _ | refine (hput_n _ _ (by omega)).trans ?_ | exact hput_s _ _ _ | assumption) rfl ?_
  refine g_aload_n q_X2_isTaken_4 rfl ?_
  refine g_get fl_X2_22 q_X2_isTaken_5 (by repeat first | with_reducible assumption | with_reducible exact hput_s _ _ _ | refine (hput_n _ _ (by omega)).trans ?_ | exact hput_s _ _ _ | assumption) rfl ?_
  refine g_iload_n q_X2_isTaken_8 rfl ?_
  refine g_callSN (rc' := 0) (rs' := 0) (As := [_, _, _]) cs_X2_53 q_X2_isTaken_9 (sp_indexOf hΓ (g + 2) 5 carts z PL hn (by decide) h2 (fun k _ => by have := (hP k).1; exact ⟨by omega, by omega⟩) hz) rfl rfl rfl (Nat.le_of_ble_eq_true rfl) (by decide) (by decide) (by decide) (fun _ _ h => h.elim) (k_ri ?_)
  refine g_iconst q_X2_isTaken_12 ?_
  refine g_icmp_ne (tgt := 32) q_X2_isTaken_13 (by decide) ⟨by omega, by omega⟩ ⟨by omega, by omega⟩ (fun e1 => ?_) (fun e1 => ?_)
  · obtain ⟨k, hk, e⟩ := fst_ex.mp e1
    exact hyes ⟨k, hk, Or.inl e⟩
  · refine g_aload_n q_X2_isTaken_16 rfl ?_
    refine g_get fl_X2_28 q_X2_isTaken_17 (by repeat first | with_reducible assumption | with_reducible exact hput_s _ _ _ | refine (hput_n _ _ (by omega)).trans ?_ | exact hput_s _ _ _ | assumption) rfl ?_
    refine g_aload_n q_X2_isTaken_20 rfl ?_
    refine g_get fl_X2_22 q_X2_isTaken_21 (by repeat first | with_reducible assumption | with_reducible exact hput_s _ _ _ | refine (hput_n _ _ (by omega)).trans ?_ | exact hput_s _ _ _ | assumption) rfl ?_
    refine g_iload_n q_X2_isTaken_24 rfl ?_
    refine g_callSN (rc' := 0) (rs' := 0) (As := [_, _, _]) cs_X2_53 q_X2_isTaken_25 (sp_indexOf hΓ (g + 3) 5 carts z GO hn (by decide) h3 (fun k _ => by have := (hG k).1; exact ⟨by omega, by omega⟩) hz) rfl rfl rfl (Nat.le_of_ble_eq_true rfl) (by decide) (by decide) (by decide) (fun _ _ h => h.elim) (k_ri ?_)
    refine g_iconst q_X2_isTaken_28 ?_
    refine g_icmp_eq (tgt := 36) q_X2_isTaken_29 (by decide) ⟨by omega, by omega⟩ ⟨by omega, by omega⟩ (fun e2 => ?_) (fun e2 => ?_)
    · refine g_iconst q_X2_isTaken_36 ?_
      unfold tkn
      rw [decide_eq_false (fun ⟨k, hk, q⟩ => q.elim (fun q => absurd e1 (fst_ex.mpr ⟨k, hk, q⟩)) (fun q => absurd e2 (fst_ex.mpr ⟨k, hk, q⟩)))]
      refine g_zreturn q_X2_isTaken_37.1 rfl (by first | exact Or.inl rfl | exact Or.inr rfl | omega) ?_
      exact ⟨rfl, rfl⟩
    · obtain ⟨k, hk, e⟩ := fst_ex.mp e2
      exact hyes ⟨k, hk, Or.inr e⟩
theorem sp_swapGoals (hΓ : Gd Γ) (h0 : σ.2 g = some (sco g cols rows carts)) (h3 : σ.2 (g + 3) = some (ai 5 GO)) (c d : Nat) (hc : c < 5) (hd : d < 5) : Sp Γ miX2_swapGoals 0 0 [.ref g, .int (ii c), .int (ii d)] σ (rv (hput σ (g + 3) (ai 5 (va_up (va_up GO c (GO d)) d (GO c))))) noX := by
  refine Sp_of (L := [_, _, _, _]) hΓ (by decide +kernel) rfl (Nat.le_of_ble_eq_true rfl) rfl ?_
  refine g_aload_n q_X2_swapGoals_0 rfl ?_
  refine g_get fl_X2_28 q_X2_swapGoals_1 (by repeat first | with_reducible assumption | with_reducible exact hput_s _ _ _ | refine (hput_n _ _ (by omega)).trans ?_ | exact hput_s _ _ _ | assumption) rfl ?_
  refine g_iload_n q_X2_swapGoals_4 rfl ?_
  refine g_iaload q_X2_swapGoals_5 (by repeat first | with_reducible assumption | with_reducible exact hput_s _ _ _ | refine (hput_n _ _ (by omega)).trans ?_ | exact hput_s _ _ _ | assumption) (by omega) (by omega) ?_
  refine g_istore_n (L' := [_, _, _, _]) q_X2_swapGoals_6 (by decide) rfl ?_
  refine g_aload_n q_X2_swapGoals_7 rfl ?_
  refine g_get fl_X2_28 q_X2_swapGoals_8 (by repeat first | with_reducible assumption | with_reducible exact hput_s _ _ _ | refine (hput_n _ _ (by omega)).trans ?_ | exact hput_s _ _ _ | assumption) rfl ?_
  refine g_iload_n q_X2_swapGoals_11 rfl ?_
  refine g_aload_n q_X2_swapGoals_12 rfl ?_
  refine g_get fl_X2_28 q_X2_swapGoals_13 (by repeat first | with_reducible assumption | with_reducible exact hput_s _ _ _ | refine (hput_n _ _ (by omega)).trans ?_ | exact hput_s _ _ _ | assumption) rfl ?_
  refine g_iload_n q_X2_swapGoals_16 rfl ?_
  refine g_iaload q_X2_swapGoals_17 (by repeat first | with_reducible assumption | with_reducible exact hput_s _ _ _ | refine (hput_n _ _ (by omega)).trans ?_ | exact hput_s _ _ _ | assumption) (by omega) (by omega) ?_
  refine g_iastore q_X2_swapGoals_18 (by repeat first | with_reducible assumption | with_reducible exact hput_s _ _ _ | refine (hput_n _ _ (by omega)).trans ?_ | exact hput_s _ _ _ | assumption) (by omega) (by omega) ?_
  refine g_aload_n q_X2_swapGoals_19 rfl ?_
  refine g_get fl_X2_28 q_X2_swapGoals_20 (by repeat first | with_reducible assumption | with_reducible exact hput_s _ _ _ | refine (hput_n _ _ (by omega)).trans ?_ | exact hput_s _ _ _ | assumption) rfl ?_
  refine g_iload_n q_X2_swapGoals_23 rfl ?_
  refine g_iload_n q_X2_swapGoals_24 rfl ?_
  refine g_iastore q_X2_swapGoals_25 (by repeat first | with_reducible assumption | with_reducible exact hput_s _ _ _ | refine (hput_n _ _ (by omega)).trans ?_ | exact hput_s _ _ _ | assumption) (by omega) (by omega) ?_
  rw [hput_hput]
  refine g_return q_X2_swapGoals_26.1 rfl ?_
  exact ⟨rfl, rfl⟩
def frX (SO : Nat → Int) (y x : Nat) : Int := cntN (fun x => decide (SO (6 * y + x) ≠ 1)) x
theorem sp_countFree (hΓ : Gd Γ) (hS : SCo σ g cols rows carts SO PL GO LE NL lv) (hc : cols ≤ 6) (hr : rows ≤ 6) (hO : okS SO) : Sp Γ miX2_countFree 0 0 [.ref g] σ (ri (sumN (fun y => frX SO y cols) rows) σ) noX := by
  obtain ⟨h0, h1, -⟩ := hS
  refine Sp_of (L := [_, _, _, _]) hΓ (by decide +kernel) rfl (Nat.le_of_ble_eq_true rfl) rfl ?_
  refine g_iconst q_X2_countFree_0 ?_
  refine g_istore_n (L' := [_, _, _, _]) q_X2_countFree_1 (by decide) rfl ?_
  refine g_iconst q_X2_countFree_2 ?_
  refine g_istore_n (L' := [_, _, _, _]) q_X2_countFree_3 (by decide) rfl ?_
  refine g_loop (fun k => k ≤ rows) (fun k : Nat => G Γ _ cX2_countFree _ _ 0 0 4 [some (.ref g), some (.int (ii (sumN (fun y => frX SO y cols) k))), some (.int (ii k)), none] [] σ) (fun k => rows - k) ?_ 0 (Nat.zero_le _)
  intro y hy ih
  refine g_iload_n q_X2_countFree_4 rfl ?_
  refine g_aload_n q_X2_countFree_5 rfl ?_
  refine g_get fl_X2_15 q_X2_countFree_6 (by repeat first | with_reducible assumption | with_reducible exact hput_s _ _ _ | refine (hput_n _ _ (by omega)).trans ?_ | exact hput_s _ _ _ | assumption) rfl ?_
  refine g_icmp_ge (tgt := 52) q_X2_countFree_9 (by decide) ⟨by omega, by omega⟩ ⟨by omega, by omega⟩ (fun hx => ?_) (fun hx => ?_)
  · have e : y = rows := by omega
    subst e
    refine g_iload_n q_X2_countFree_52 rfl ?_
    refine g_ireturn q_X2_countFree_53.1 rfl ?_
    exact ⟨rfl, rfl⟩
  · refine g_iconst q_X2_countFree_12 ?_
    refine g_istore_n (L' := [_, _, _, _]) q_X2_countFree_13 (by decide) rfl ?_
    refine g_add0 (fun x => G Γ _ cX2_countFree _ _ 0 0 14 [some (.ref g), some (.int (ii x)), some (.int (ii y)), some (.int (ii 0))] [] σ) ?_
    refine g_loop (fun x => x ≤ cols) (fun x : Nat => G Γ _ cX2_countFree _ _ 0 0 14 [some (.ref g), some (.int (ii (sumN (fun y => frX SO y cols) y + frX SO y x))), some (.int (ii y)), some (.int (ii x))] [] σ) (fun x => cols - x) ?_ 0 (Nat.zero_le _)
    intro x hx ih2
    refine g_iload_n q_X2_countFree_14 rfl ?_
    refine g_aload_n q_X2_countFree_15 rfl ?_
    refine g_get fl_X2_9 q_X2_countFree_16 (by repeat first | with_reducible assumption | with_reducible exact hput_s _ _ _ | refine (hput_n _ _ (by omega)).trans ?_ | exact hput_s _ _ _ | assumption) rfl ?_
    refine g_icmp_ge (tgt := 46) q_X2_countFree_19 (by decide) ⟨by omega, by omega⟩ ⟨by omega, by omega⟩ (fun hx => ?_) (fun hx => ?_)
    · have e : x = cols := by omega
      subst e
      refine g_iinc (L' := [_, _, _, _]) q_X2_countFree_46 rfl rfl ?_
      refine g_goto (tgt := 4) q_X2_countFree_49 (by decide) ?_
      exact g_fl (ih (y + 1) (by omega) (by omega)) ⟨rfl, rfl, rfl, trivial⟩
    · have ho := hO (6 * y + x)
      refine g_aload_n q_X2_countFree_22 rfl ?_
      refine g_get fl_X2_18 q_X2_countFree_23 (by repeat first | with_reducible assumption | with_reducible exact hput_s _ _ _ | refine (hput_n _ _ (by omega)).trans ?_ | exact hput_s _ _ _ | assumption) rfl ?_
      refine g_bipush q_X2_countFree_26 bp_6 ?_
      refine g_iload_n q_X2_countFree_28 rfl ?_
      refine g_imul q_X2_countFree_29 ?_
      refine g_iload_n q_X2_countFree_30 rfl ?_
      refine g_iadd q_X2_countFree_31 ?_
      refine g_iaload q_X2_countFree_32 (by repeat first | with_reducible assumption | with_reducible exact hput_s _ _ _ | refine (hput_n _ _ (by omega)).trans ?_ | exact hput_s _ _ _ | assumption) (by omega) (by omega) ?_
      refine g_topi (b := SO (6 * y + x)) rfl ?_
      refine g_iconst q_X2_countFree_33 ?_
      have hnx := ih2 (x + 1) (by omega) (by omega)
      rw [show frX SO y (x + 1) = frX SO y x + bi (decide (SO (6 * y + x) ≠ 1)) from rfl, ← Int.add_assoc] at hnx
      refine g_icmp_eq (tgt := 40) q_X2_countFree_34 (by decide) ⟨by omega, by omega⟩ ⟨by omega, by omega⟩ (fun hd => ?_) (fun hd => ?_)
      · rw [show decide (SO (6 * y + x) ≠ 1) = false from decide_eq_false (fun q => q hd)] at hnx
        refine g_iinc (L' := [_, _, _, _]) q_X2_countFree_40 rfl rfl ?_
        refine g_goto (tgt := 14) q_X2_countFree_43 (by decide) ?_
        simp only [bi, Bool.false_eq_true, if_false, Int.add_zero] at hnx
        exact hnx
      · rw [decide_eq_true hd] at hnx
        refine g_iinc (L' := [_, _, _, _]) q_X2_countFree_37 rfl rfl ?_
        refine g_iinc (L' := [_, _, _, _]) q_X2_countFree_40 rfl rfl ?_
        refine g_goto (tgt := 14) q_X2_countFree_43 (by decide) ?_
        exact hnx
theorem sp_lets (hΓ : Gd Γ) (hS : SCo σ g cols rows carts SO PL GO LE NL lv) (hc : cols ≤ 6) (hr : rows ≤ 6) (hO : okS SO) (x y m : Nat) (hx : x < cols) (hy : y < rows) (hm : m < 4) : Sp Γ miX2_lets 0 0 [.ref g, .int (ii x), .int (ii y), .int (ii m)] σ (rb (ltb SO cols rows x y m) σ) noX := by
  have h0 := hS.1
  have h1 := hS.2.1
  obtain ⟨tA, hzA, hrA⟩ := st_ACROSS hΓ
  obtain ⟨tD, hzD, hrD⟩ := st_DOWN hΓ
  have ho := hO (6 * y + x)
  have ra := t_acr_rg m
  have rd := t_dwn_rg m
  obtain ⟨tx, htx⟩ : ∃ tx, tx = (x : Int) + t_acr m := ⟨_, rfl⟩
  obtain ⟨ty, hty⟩ : ∃ ty, ty = (y : Int) + t_dwn m := ⟨_, rfl⟩
  unfold ltb
  rw [← htx, ← hty]
  refine Sp_of (L := [_, _, _, _, _, _, _, _]) hΓ (by decide +kernel) rfl (Nat.le_of_ble_eq_true rfl) rfl ?_
  refine g_aload_n q_X2_lets_0 rfl ?_
  refine g_get fl_X2_18 q_X2_lets_1 (by repeat first | with_reducible assumption | with_reducible exact hput_s _ _ _ | refine (hput_n _ _ (by omega)).trans ?_ | exact hput_s _ _ _ | assumption) rfl ?_
  refine g_bipush q_X2_lets_4 bp_6 ?_
  refine g_iload_n q_X2_lets_6 rfl ?_
  refine g_imul q_X2_lets_7 ?_
  refine g_iload_n q_X2_lets_8 rfl ?_
  refine g_iadd q_X2_lets_9 ?_
  refine g_iaload q_X2_lets_10 (by repeat first | with_reducible assumption | with_reducible exact hput_s _ _ _ | refine (hput_n _ _ (by omega)).trans ?_ | exact hput_s _ _ _ | assumption) (by omega) (by omega) ?_
  refine g_topi (b := SO (6 * y + x)) rfl ?_
  refine g_istore (L' := [_, _, _, _, _, _, _, _]) q_X2_lets_11 (by decide) rfl ?_
  refine g_iload_n q_X2_lets_13 rfl ?_
  refine g_getst ls_X2_61 hzA q_X2_lets_14 ?_
  refine g_iload_n q_X2_lets_17 rfl ?_
  refine g_iaload_ro q_X2_lets_18 (by assumption) (by omega) (by omega) (by decide) ?_
  refine g_topi (b := t_acr m) rfl ?_
  refine g_iadd q_X2_lets_19 ?_
  refine g_topi (b := tx) (by exact htx.symm) ?_
  refine g_istore (L' := [_, _, _, _, _, _, _, _]) q_X2_lets_20 (by decide) rfl ?_
  refine g_iload_n q_X2_lets_22 rfl ?_
  refine g_getst ls_X2_64 hzD q_X2_lets_23 ?_
  refine g_iload_n q_X2_lets_26 rfl ?_
  refine g_iaload_ro q_X2_lets_27 (by assumption) (by omega) (by omega) (by decide) ?_
  refine g_topi (b := t_dwn m) rfl ?_
  refine g_iadd q_X2_lets_28 ?_
  refine g_topi (b := ty) (by exact hty.symm) ?_
  refine g_istore (L' := [_, _, _, _, _, _, _, _]) q_X2_lets_29 (by decide) rfl ?_
  refine g_iload q_X2_lets_31 rfl ?_
  have hno : ∀ (b : Bool) z, b = false → G Γ miX2_lets cX2_lets (rb b σ) noX 0 0 88 [some (.ref g), some (.int (ii x)), some (.int (ii y)), some (.int (ii m)), some (.int (ii (SO (6 * y + x)))), some (.int (ii tx)), some (.int (ii ty)), z] [] σ := by
    intro b z hb
    subst hb
    refine g_iconst q_X2_lets_88 ?_
    refine g_zreturn q_X2_lets_89.1 rfl (by first | exact Or.inl rfl | exact Or.inr rfl | omega) ?_
    exact ⟨rfl, rfl⟩
  have hyes : (SO (6 * y + x) = 0 ∨ SO (6 * y + x) = 2 + m) → G Γ miX2_lets cX2_lets (rb ((decide (SO (6 * y + x) = 0) || decide (SO (6 * y + x) = 2 + m)) && (decide (0 ≤ tx ∧ tx < cols ∧ 0 ≤ ty ∧ ty < rows) && decide (SO (6 * ty + tx).toNat ≠ 1))) σ) noX 0 0 44 [some (.ref g), some (.int (ii x)), some (.int (ii y)), some (.int (ii m)), some (.int (ii (SO (6 * y + x)))), some (.int (ii tx)), some (.int (ii ty)), none] [] σ := by
    intro hor
    have hb : (decide (SO (6 * y + x) = 0) || decide (SO (6 * y + x) = 2 + m)) = true := by rcases hor with h | h <;> simp [h]
    rw [hb, Bool.true_and]
    refine g_iconst q_X2_lets_44 ?_
    refine g_goto (tgt := 49) q_X2_lets_45 (by decide) ?_
    refine g_istore (L' := [_, _, _, _, _, _, _, _]) q_X2_lets_49 (by decide) rfl ?_
    refine g_iload q_X2_lets_51 rfl ?_
    refine g_if_eq (tgt := 88) q_X2_lets_53 (by decide) ⟨by omega, by omega⟩ (fun z1 => ?_) (fun z1 => ?_)
    · exact absurd z1 (by decide)
    · refine g_aload_n q_X2_lets_56 rfl ?_
      refine g_iload q_X2_lets_57 rfl ?_
      refine g_iload q_X2_lets_59 rfl ?_
      refine g_callV (rc' := 0) (rs' := 0) (As := [_, _]) cs_X2_67 q_X2_lets_61 (sp_has hΓ hS hc hr tx ty ⟨by omega, by omega⟩ ⟨by omega, by omega⟩) rfl (by repeat first | with_reducible assumption | with_reducible exact hput_s _ _ _ | refine (hput_n _ _ (by omega)).trans ?_ | exact hput_s _ _ _ | assumption) rfl rfl rfl rfl (Nat.le_of_ble_eq_true rfl) (by decide) (by decide) (by decide) (fun _ _ h => h.elim) (k_rb ?_)
      refine g_if_eq (tgt := 88) q_X2_lets_64 (by decide) (bi_rg _) (fun z2 => ?_) (fun z2 => ?_)
      · refine hno _ _ ?_
        rw [bi_f z2, Bool.false_and]
      · have hin : 0 ≤ tx ∧ tx < cols ∧ 0 ≤ ty ∧ ty < rows := of_decide_eq_true (bi_t z2)
        rw [decide_eq_true hin, Bool.true_and]
        have ho2 := hO (6 * ty + tx).toNat
        refine g_aload_n q_X2_lets_67 rfl ?_
        refine g_get fl_X2_18 q_X2_lets_68 (by repeat first | with_reducible assumption | with_reducible exact hput_s _ _ _ | refine (hput_n _ _ (by omega)).trans ?_ | exact hput_s _ _ _ | assumption) rfl ?_
        refine g_bipush q_X2_lets_71 bp_6 ?_
        refine g_iload q_X2_lets_73 rfl ?_
        refine g_imul q_X2_lets_75 ?_
        refine g_iload q_X2_lets_76 rfl ?_
        refine g_iadd q_X2_lets_78 ?_
        refine g_iaload q_X2_lets_79 (by repeat first | with_reducible assumption | with_reducible exact hput_s _ _ _ | refine (hput_n _ _ (by omega)).trans ?_ | exact hput_s _ _ _ | assumption) (by omega) (by omega) ?_
        refine g_iconst q_X2_lets_80 ?_
        refine g_icmp_eq (tgt := 88) q_X2_lets_81 (by decide) ⟨by omega, by omega⟩ ⟨by omega, by omega⟩ (fun z3 => ?_) (fun z3 => ?_)
        · exact hno _ _ (decide_eq_false (fun q => q z3))
        · refine g_iconst q_X2_lets_84 ?_
          refine g_goto (tgt := 89) q_X2_lets_85 (by decide) ?_
          rw [decide_eq_true z3]
          refine g_zreturn q_X2_lets_89.1 rfl (by first | exact Or.inl rfl | exact Or.inr rfl | omega) ?_
          exact ⟨rfl, rfl⟩
  refine g_if_eq (tgt := 44) q_X2_lets_33 (by decide) ⟨by omega, by omega⟩ (fun e1 => ?_) (fun e1 => ?_)
  · exact hyes (Or.inl e1)
  · refine g_iload q_X2_lets_36 rfl ?_
    refine g_iconst q_X2_lets_38 ?_
    refine g_iload_n q_X2_lets_39 rfl ?_
    refine g_iadd q_X2_lets_40 ?_
    refine g_icmp_ne (tgt := 48) q_X2_lets_41 (by decide) ⟨by omega, by omega⟩ ⟨by omega, by omega⟩ (fun e2 => ?_) (fun e2 => ?_)
    · refine g_iconst q_X2_lets_48 ?_
      refine g_istore (L' := [_, _, _, _, _, _, _, _]) q_X2_lets_49 (by decide) rfl ?_
      refine g_iload q_X2_lets_51 rfl ?_
      refine g_if_eq (tgt := 88) q_X2_lets_53 (by decide) ⟨by omega, by omega⟩ (fun z1 => ?_) (fun z1 => ?_)
      · refine hno _ _ ?_
        rw [decide_eq_false e1, decide_eq_false e2]
        rfl
      · exact absurd rfl z1
    · exact hyes (Or.inr e2)
theorem sp_refresh (hΓ : Gd Γ) (hS : SCo σ g cols rows carts SO PL GO LE NL lv) (hc : cols ≤ 6) (hr : rows ≤ 6) (hO : okS SO) : Sp Γ miX2_refresh 0 0 [.ref g] σ (rv (hput σ (g + 6) (al 4 (lvF SO cols rows)))) noX := by
  refine Sp_of (L := [_, _, _, _, _, _]) hΓ (by decide +kernel) rfl (Nat.le_of_ble_eq_true rfl) rfl ?_
  refine g_iconst q_X2_refresh_0 ?_
  refine g_istore_n (L' := [_, _, _, _, _, _]) q_X2_refresh_1 (by decide) rfl ?_
  have hS0 := hS
  obtain ⟨h0, h1, h2, h3, h4, h5, h6⟩ := hS0
  refine g_eq (σ2 := hput σ (g + 6) (al 4 lv)) rfl rfl (hput_id h6).symm ?_
  refine g_loop2 (fun (m : Nat) (lw : Nat → BitVec 64) => m ≤ 4 ∧ ∀ j, j < m → lw j = lvF SO cols rows j) (fun m lw => G Γ _ cX2_refresh _ _ 0 0 2 [some (.ref g), some (.int (ii m)), none, none, none, none] [] (hput σ (g + 6) (al 4 lw))) (fun m _ => 4 - m) ?_ 0 lv ⟨Nat.zero_le _, fun j h => absurd h (Nat.not_lt_zero j)⟩
  rintro m lw ⟨hm, hlw⟩ ih
  have hS1 : SCo (hput σ (g + 6) (al 4 lw)) g cols rows carts SO PL GO LE NL lw := ⟨(by repeat first | with_reducible assumption | with_reducible exact hput_s _ _ _ | refine (hput_n _ _ (by omega)).trans ?_ | exact hput_s _ _ _ | assumption), (by repeat first | with_reducible assumption | with_reducible exact hput_s _ _ _ | refine (hput_n _ _ (by omega)).trans ?_ | exact hput_s _ _ _ | assumption), (by repeat first | with_reducible assumption | with_reducible exact hput_s _ _ _ | refine (hput_n _ _ (by omega)).trans ?_ | exact hput_s _ _ _ | assumption), (by repeat first | with_reducible assumption | with_reducible exact hput_s _ _ _ | refine (hput_n _ _ (by omega)).trans ?_ | exact hput_s _ _ _ | assumption), (by repeat first | with_reducible assumption | with_reducible exact hput_s _ _ _ | refine (hput_n _ _ (by omega)).trans ?_ | exact hput_s _ _ _ | assumption), (by repeat first | with_reducible assumption | with_reducible exact hput_s _ _ _ | refine (hput_n _ _ (by omega)).trans ?_ | exact hput_s _ _ _ | assumption), hput_s _ _ _⟩
  refine g_iload_n q_X2_refresh_2 rfl ?_
  refine g_iconst q_X2_refresh_3 ?_
  refine g_icmp_ge (tgt := 83) q_X2_refresh_4 (by decide) ⟨by omega, by omega⟩ ⟨by omega, by omega⟩ (fun hx => ?_) (fun hx => ?_)
  · refine g_repJ (f' := lvF SO cols rows) (hput_s _ _ _) (fun j hj => hlw j (by omega)) ?_
    rw [hput_hput]
    refine g_return q_X2_refresh_83.1 rfl ?_
    exact ⟨rfl, rfl⟩
  · refine g_lconst q_X2_refresh_7 ?_
    refine g_lstore_n (L' := [_, _, _, _, _, _]) q_X2_refresh_8 (by decide) rfl ?_
    refine g_iconst q_X2_refresh_9 ?_
    refine g_istore (L' := [_, _, _, _, _, _]) q_X2_refresh_10 (by decide) rfl ?_
    refine g_loop (fun y => y ≤ rows) (fun y : Nat => G Γ _ cX2_refresh _ _ 0 0 12 [some (.ref g), some (.int (ii m)), some (.long (lb (lvY SO cols rows m y))), none, some (.int (ii y)), none] [] (hput σ (g + 6) (al 4 lw))) (fun y => rows - y) ?_ 0 (Nat.zero_le _)
    intro y hy ih2
    refine g_iload q_X2_refresh_12 rfl ?_
    refine g_aload_n q_X2_refresh_14 rfl ?_
    refine g_get fl_X2_15 q_X2_refresh_15 (by repeat first | with_reducible assumption | with_reducible exact hput_s _ _ _ | refine (hput_n _ _ (by omega)).trans ?_ | exact hput_s _ _ _ | assumption) rfl ?_
    refine g_icmp_ge (tgt := 70) q_X2_refresh_18 (by decide) ⟨by omega, by omega⟩ ⟨by omega, by omega⟩ (fun hx => ?_) (fun hx => ?_)
    · have e : y = rows := by omega
      subst e
      refine g_aload_n q_X2_refresh_70 rfl ?_
      refine g_get fl_X2_37 q_X2_refresh_71 (by repeat first | with_reducible assumption | with_reducible exact hput_s _ _ _ | refine (hput_n _ _ (by omega)).trans ?_ | exact hput_s _ _ _ | assumption) rfl ?_
      refine g_iload_n q_X2_refresh_74 rfl ?_
      refine g_lload_n q_X2_refresh_75 rfl ?_
      refine g_lastore q_X2_refresh_76 (by repeat first | with_reducible assumption | with_reducible exact hput_s _ _ _ | refine (hput_n _ _ (by omega)).trans ?_ | exact hput_s _ _ _ | assumption) (by omega) (by omega) ?_
      refine g_iinc (L' := [_, _, _, _, _, _]) q_X2_refresh_77 rfl rfl ?_
      refine g_goto (tgt := 2) q_X2_refresh_80 (by decide) ?_
      rw [hput_hput]
      refine g_fl (ih (m + 1) _ ⟨by omega, fun j hj => ?_⟩ (by omega)) ⟨rfl, rfl, trivial⟩
      unfold va_up
      by_cases q : j = m
      · rw [show ((m : Nat) : Int).toNat = m from rfl, if_pos q, q]; rfl
      · rw [show ((m : Nat) : Int).toNat = m from rfl, if_neg q]; exact hlw j (by omega)
    · refine g_iconst q_X2_refresh_21 ?_
      refine g_istore (L' := [_, _, _, _, _, _]) q_X2_refresh_22 (by decide) rfl ?_
      refine g_loop (fun x => x ≤ cols) (fun x : Nat => G Γ _ cX2_refresh _ _ 0 0 24 [some (.ref g), some (.int (ii m)), some (.long (lb (lvX SO cols rows m y (lvY SO cols rows m y) x))), none, some (.int (ii y)), some (.int (ii x))] [] (hput σ (g + 6) (al 4 lw))) (fun x => cols - x) ?_ 0 (Nat.zero_le _)
      intro x hx ih3
      refine g_iload q_X2_refresh_24 rfl ?_
      refine g_aload_n q_X2_refresh_26 rfl ?_
      refine g_get fl_X2_9 q_X2_refresh_27 (by repeat first | with_reducible assumption | with_reducible exact hput_s _ _ _ | refine (hput_n _ _ (by omega)).trans ?_ | exact hput_s _ _ _ | assumption) rfl ?_
      refine g_icmp_ge (tgt := 64) q_X2_refresh_30 (by decide) ⟨by omega, by omega⟩ ⟨by omega, by omega⟩ (fun hx => ?_) (fun hx => ?_)
      · have e : x = cols := by omega
        subst e
        refine g_iinc (L' := [_, _, _, _, _, _]) q_X2_refresh_64 rfl rfl ?_
        refine g_goto (tgt := 12) q_X2_refresh_67 (by decide) ?_
        exact g_fl (ih2 (y + 1) (by omega) (by omega)) ⟨rfl, rfl, rfl, rfl, trivial⟩
      · refine g_aload_n q_X2_refresh_33 rfl ?_
        refine g_iload q_X2_refresh_34 rfl ?_
        refine g_iload q_X2_refresh_36 rfl ?_
        refine g_iload_n q_X2_refresh_38 rfl ?_
        refine g_callV (rc' := 0) (rs' := 0) (As := [_, _, _]) cs_X2_57 q_X2_refresh_39 (sp_lets hΓ hS1 hc hr hO x y m (by omega) (by omega) (by omega)) rfl (by repeat first | with_reducible assumption | with_reducible exact hput_s _ _ _ | refine (hput_n _ _ (by omega)).trans ?_ | exact hput_s _ _ _ | assumption) rfl rfl rfl rfl (Nat.le_of_ble_eq_true rfl) (by decide) (by decide) (by decide) (fun _ _ h => h.elim) (k_rb ?_)
        have hnx := ih3 (x + 1) (by omega) (by omega)
        refine g_if_eq (tgt := 58) q_X2_refresh_42 (by decide) (bi_rg _) (fun hd => ?_) (fun hd => ?_)
        · have hb : ltb SO cols rows x y m = false := bi_f hd
          rw [show lvX SO cols rows m y (lvY SO cols rows m y) (x + 1) = lvX SO cols rows m y (lvY SO cols rows m y) x by rw [lvX, hb]; rfl] at hnx
          refine g_iinc (L' := [_, _, _, _, _, _]) q_X2_refresh_58 rfl rfl ?_
          refine g_goto (tgt := 24) q_X2_refresh_61 (by decide) ?_
          exact hnx
        · have hb : ltb SO cols rows x y m = true := bi_t hd
          rw [show lvX SO cols rows m y (lvY SO cols rows m y) (x + 1) = lvX SO cols rows m y (lvY SO cols rows m y) x ||| bt1 (6 * y + x) by rw [lvX, hb]; rfl] at hnx
          refine g_lload_n q_X2_refresh_45 rfl ?_
          refine g_lconst q_X2_refresh_46 ?_
          refine g_bipush q_X2_refresh_47 bp_6 ?_
          refine g_iload q_X2_refresh_49 rfl ?_
          refine g_imul q_X2_refresh_51 ?_
          refine g_iload q_X2_refresh_52 rfl ?_
          refine g_iadd q_X2_refresh_54 ?_
          refine g_lshl q_X2_refresh_55 (by omega) (by omega) ?_
          refine g_lor q_X2_refresh_56 ?_
          refine g_lstore_n (L' := [_, _, _, _, _, _]) q_X2_refresh_57 (by decide) rfl ?_
          refine g_iinc (L' := [_, _, _, _, _, _]) q_X2_refresh_58 rfl rfl ?_
          refine g_goto (tgt := 24) q_X2_refresh_61 (by decide) ?_
          exact hnx
theorem sp_reachedFrom (hΓ : Gd Γ) (hS : SCo σ g cols rows carts SO PL GO LE NL lv) (pl : Nat) (hp : pl < 36) : Sp Γ miX2_reachedFrom 0 0 [.ref g, .int (ii pl)] σ (fun r σ' => r = some (.long (lb (rcN lv pl 36))) ∧ σ' = σ) noX := by
  obtain ⟨h0, h1, h2, h3, h4, h5, h6⟩ := hS
  refine Sp_of (L := [_, _, _, _, _]) hΓ (by decide +kernel) rfl (Nat.le_of_ble_eq_true rfl) rfl ?_
  refine g_lconst q_X2_reachedFrom_0 ?_
  refine g_iload_n q_X2_reachedFrom_1 rfl ?_
  refine g_lshl q_X2_reachedFrom_2 (by omega) (by omega) ?_
  refine g_lstore_n (L' := [_, _, _, _, _]) q_X2_reachedFrom_3 (by decide) rfl ?_
  refine g_iconst q_X2_reachedFrom_4 ?_
  refine g_istore (L' := [_, _, _, _, _]) q_X2_reachedFrom_5 (by decide) rfl ?_
  refine g_loop (fun k => k ≤ 36) (fun k : Nat => G Γ _ cX2_reachedFrom _ _ 0 0 7 [some (.ref g), some (.int (ii pl)), some (.long (lb (rcN lv pl k))), none, some (.int (ii k))] [] σ) (fun k => 36 - k) ?_ 0 (Nat.zero_le _)
  intro k hk ih
  refine g_iload q_X2_reachedFrom_7 rfl ?_
  refine g_bipush q_X2_reachedFrom_9 bp_36 ?_
  refine g_icmp_ge (tgt := 68) q_X2_reachedFrom_11 (by decide) ⟨by omega, by omega⟩ ⟨by omega, by omega⟩ (fun hx => ?_) (fun hx => ?_)
  · have e : k = 36 := by omega
    subst e
    refine g_lload_n q_X2_reachedFrom_68 rfl ?_
    refine g_lreturn q_X2_reachedFrom_69.1 rfl ?_
    exact ⟨rfl, rfl⟩
  · refine g_lload_n q_X2_reachedFrom_14 rfl ?_
    refine g_lload_n q_X2_reachedFrom_15 rfl ?_
    refine g_aload_n q_X2_reachedFrom_16 rfl ?_
    refine g_get fl_X2_37 q_X2_reachedFrom_17 (by repeat first | with_reducible assumption | with_reducible exact hput_s _ _ _ | refine (hput_n _ _ (by omega)).trans ?_ | exact hput_s _ _ _ | assumption) rfl ?_
    refine g_iconst q_X2_reachedFrom_20 ?_
    refine g_laload q_X2_reachedFrom_21 (by repeat first | with_reducible assumption | with_reducible exact hput_s _ _ _ | refine (hput_n _ _ (by omega)).trans ?_ | exact hput_s _ _ _ | assumption) (by omega) (by omega) ?_
    refine g_land q_X2_reachedFrom_22 ?_
    refine g_bipush q_X2_reachedFrom_23 bp_6 ?_
    refine g_lushr q_X2_reachedFrom_25 (by omega) (by omega) ?_
    refine g_lload_n q_X2_reachedFrom_26 rfl ?_
    refine g_aload_n q_X2_reachedFrom_27 rfl ?_
    refine g_get fl_X2_37 q_X2_reachedFrom_28 (by repeat first | with_reducible assumption | with_reducible exact hput_s _ _ _ | refine (hput_n _ _ (by omega)).trans ?_ | exact hput_s _ _ _ | assumption) rfl ?_
    refine g_iconst q_X2_reachedFrom_31 ?_
    refine g_laload q_X2_reachedFrom_32 (by repeat first | with_reducible assumption | with_reducible exact hput_s _ _ _ | refine (hput_n _ _ (by omega)).trans ?_ | exact hput_s _ _ _ | assumption) (by omega) (by omega) ?_
    refine g_land q_X2_reachedFrom_33 ?_
    refine g_iconst q_X2_reachedFrom_34 ?_
    refine g_lshl q_X2_reachedFrom_35 (by omega) (by omega) ?_
    refine g_lor q_X2_reachedFrom_36 ?_
    refine g_lload_n q_X2_reachedFrom_37 rfl ?_
    refine g_aload_n q_X2_reachedFrom_38 rfl ?_
    refine g_get fl_X2_37 q_X2_reachedFrom_39 (by repeat first | with_reducible assumption | with_reducible exact hput_s _ _ _ | refine (hput_n _ _ (by omega)).trans ?_ | exact hput_s _ _ _ | assumption) rfl ?_
    refine g_iconst q_X2_reachedFrom_42 ?_
    refine g_laload q_X2_reachedFrom_43 (by repeat first | with_reducible assumption | with_reducible exact hput_s _ _ _ | refine (hput_n _ _ (by omega)).trans ?_ | exact hput_s _ _ _ | assumption) (by omega) (by omega) ?_
    refine g_land q_X2_reachedFrom_44 ?_
    refine g_bipush q_X2_reachedFrom_45 bp_6 ?_
    refine g_lshl q_X2_reachedFrom_47 (by omega) (by omega) ?_
    refine g_lor q_X2_reachedFrom_48 ?_
    refine g_lload_n q_X2_reachedFrom_49 rfl ?_
    refine g_aload_n q_X2_reachedFrom_50 rfl ?_
    refine g_get fl_X2_37 q_X2_reachedFrom_51 (by repeat first | with_reducible assumption | with_reducible exact hput_s _ _ _ | refine (hput_n _ _ (by omega)).trans ?_ | exact hput_s _ _ _ | assumption) rfl ?_
    refine g_iconst q_X2_reachedFrom_54 ?_
    refine g_laload q_X2_reachedFrom_55 (by repeat first | with_reducible assumption | with_reducible exact hput_s _ _ _ | refine (hput_n _ _ (by omega)).trans ?_ | exact hput_s _ _ _ | assumption) (by omega) (by omega) ?_
    refine g_land q_X2_reachedFrom_56 ?_
    refine g_iconst q_X2_reachedFrom_57 ?_
    refine g_lushr q_X2_reachedFrom_58 (by omega) (by omega) ?_
    refine g_lor q_X2_reachedFrom_59 ?_
    refine g_lor q_X2_reachedFrom_60 ?_
    refine g_lstore_n (L' := [_, _, _, _, _]) q_X2_reachedFrom_61 (by decide) rfl ?_
    refine g_iinc (L' := [_, _, _, _, _]) q_X2_reachedFrom_62 rfl rfl ?_
    refine g_goto (tgt := 7) q_X2_reachedFrom_65 (by decide) ?_
    exact ih (k + 1) (by omega) (by omega)
theorem sp_empty (hΓ : Gd Γ) (hS : SCo σ g cols rows carts SO PL GO LE NL lv) : Sp Γ miX2_empty 0 0 [.ref g] σ (fun r σ' => r = none ∧ SCo σ' g 0 0 0 (fun _ => 0) PL GO LE NL lv ∧ eqOff σ σ' (inb g 7)) noX := by
  obtain ⟨h0, h1, h2, h3, h4, h5, h6⟩ := hS
  refine Sp_of (L := [_]) hΓ (by decide +kernel) rfl (Nat.le_of_ble_eq_true rfl) rfl ?_
  refine g_aload_n q_X2_empty_0 rfl ?_
  refine g_iconst q_X2_empty_1 ?_
  refine g_put fp_X2_9 q_X2_empty_2 (by repeat first | with_reducible assumption | with_reducible exact hput_s _ _ _ | refine (hput_n _ _ (by omega)).trans ?_ | exact hput_s _ _ _ | assumption) rfl rfl ?_
  refine g_aload_n q_X2_empty_5 rfl ?_
  refine g_iconst q_X2_empty_6 ?_
  refine g_put fp_X2_15 q_X2_empty_7 (by repeat first | with_reducible assumption | with_reducible exact hput_s _ _ _ | refine (hput_n _ _ (by omega)).trans ?_ | exact hput_s _ _ _ | assumption) rfl rfl ?_
  refine g_aload_n q_X2_empty_10 rfl ?_
  refine g_iconst q_X2_empty_11 ?_
  refine g_put fp_X2_22 q_X2_empty_12 (by repeat first | with_reducible assumption | with_reducible exact hput_s _ _ _ | refine (hput_n _ _ (by omega)).trans ?_ | exact hput_s _ _ _ | assumption) rfl rfl ?_
  refine g_aload_n q_X2_empty_15 rfl ?_
  refine g_get fl_X2_18 q_X2_empty_16 (by repeat first | with_reducible assumption | with_reducible exact hput_s _ _ _ | refine (hput_n _ _ (by omega)).trans ?_ | exact hput_s _ _ _ | assumption) rfl ?_
  refine g_iconst q_X2_empty_19 ?_
  refine g_callS (rc' := 0) (rs' := 0) (As := [_, _]) cs_X2_41 q_X2_empty_20 (sp_fillI hΓ 0 (by decide) ((hput_n _ _ (by omega)).trans ((hput_n _ _ (by omega)).trans ((hput_n _ _ (by omega)).trans h1)))) rfl rfl rfl (Nat.le_of_ble_eq_true rfl) (by decide) (by decide) (by decide) (fun _ _ h => h.elim) (k_rv ?_)
  refine g_return q_X2_empty_23.1 rfl ?_
  refine ⟨rfl, ⟨?_, hput_s _ _ _, (by repeat first | with_reducible assumption | with_reducible exact hput_s _ _ _ | refine (hput_n _ _ (by omega)).trans ?_ | exact hput_s _ _ _ | assumption), (by repeat first | with_reducible assumption | with_reducible exact hput_s _ _ _ | refine (hput_n _ _ (by omega)).trans ?_ | exact hput_s _ _ _ | assumption), (by repeat first | with_reducible assumption | with_reducible exact hput_s _ _ _ | refine (hput_n _ _ (by omega)).trans ?_ | exact hput_s _ _ _ | assumption), (by repeat first | with_reducible assumption | with_reducible exact hput_s _ _ _ | refine (hput_n _ _ (by omega)).trans ?_ | exact hput_s _ _ _ | assumption), (by repeat first | with_reducible assumption | with_reducible exact hput_s _ _ _ | refine (hput_n _ _ (by omega)).trans ?_ | exact hput_s _ _ _ | assumption)⟩, (((eqOff.rfl'.put ⟨by omega, by omega⟩ _).put ⟨by omega, by omega⟩ _).put ⟨by omega, by omega⟩ _).put ⟨by omega, by omega⟩ _⟩
  rw [hput_n _ _ (by omega)]
  exact hput_s _ _ _
end SC

