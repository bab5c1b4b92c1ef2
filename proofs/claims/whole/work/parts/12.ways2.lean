/-! Ways: counts, clashes -/
def vsN (f : Nat → Int) : Nat → BitVec 64
  | 0 => 0
  | t + 1 => vsN f t ||| (bt1 (f t).toNat)
def soc (P : Nat → Int) (a b t : Nat) : Int := if P (41 * a + (t + 1)) = P (41 * b + (t + 1)) then 0 else if P (41 * a + (t + 1)) = P (41 * b + t) ∧ P (41 * b + (t + 1)) = P (41 * a + t) then 1 else -1
theorem soc_rg (P : Nat → Int) (a b t : Nat) : soc P a b t = -1 ∨ soc P a b t = 0 ∨ soc P a b t = 1 := by
  unfold soc
  split
  · exact Or.inr (Or.inl rfl)
  · split
    · exact Or.inr (Or.inr rfl)
    · exact Or.inl rfl
def lvN (P : Nat → Int) (z : Int) (c t : Nat) : Int := cntN (fun t => decide (P (41 * c + t) = z) && decide (P (41 * c + (t + 1)) ≠ P (41 * c + t))) t
theorem g_add0 {x : Int} (J : Int → Prop) (h : J (x + 0)) : J x := by rw [Int.add_zero] at h; exact h
def ccN (P : Nat → Int) (n last : Nat) : Int := sumN (fun a => sumN (fun j => cntN (fun t => decide (soc P a (a + 1 + j) t ≠ -1)) last) (n - 1 - a)) n
def mvs (d : Int) : Int := if d = -6 then 0 else if d = 1 then 1 else if d = 6 then 2 else if d = -1 then 3 else 4
def adf (a b : Int) : Int := if b ≤ a then a - b else b - a
def aprt (a b : Int) : Int := adf (a % 6) (b % 6) + adf (a / 6) (b / 6)
/-- no pair of the first n clashes by sort s between the times t and t + 1 -/
def noS (P : Nat → Int) (n t : Nat) (s : Int) : Prop := ∀ a b, a < b → b < n → soc P a b t ≠ s
def fsS (P : Nat → Int) (n t : Nat) (s : Int) (a b : Nat) : Prop := a < b ∧ b < n ∧ soc P a b t = s ∧ ∀ a' b', a' < b' → b' < n → (a' < a ∨ a' = a ∧ b' < b) → soc P a' b' t ≠ s
/-- the first clash: between t and t + 1, of sort s -/
def fsC (P : Nat → Int) (n t : Nat) (s : Int) (a b : Nat) : Prop := (s = 0 ∨ s = 1 ∧ noS P n t 0) ∧ fsS P n t s a b ∧ ∀ t', t' < t → noS P n t' 0 ∧ noS P n t' 1
section WY2
variable {Γ : GT} {σ : AH} {w n : Nat} {P C : Nat → Int} {ct cs cl co : Int}
theorem sp_visitedBy (hΓ : Gd Γ) (hP : okP P) (h0 : σ.2 w = some (wyo w n ct cs cl co)) (h1 : σ.2 (w + 1) = some (ai 205 P)) (c : Nat) (hc : c < 5) : Sp Γ miX8_visitedBy 0 0 [.ref w, .int (ii c)] σ (fun r σ' => r = some (.long (lb (vsN (fun t => P (41 * c + t)) 41))) ∧ σ' = σ) noX := by
  refine Sp_of (L := [_, _, _, _, _]) hΓ (by decide +kernel) rfl (Nat.le_of_ble_eq_true rfl) rfl ?_
  refine g_lconst q_X8_visitedBy_0 ?_
  refine g_lstore_n (L' := [_, _, _, _, _]) q_X8_visitedBy_1 (by decide) rfl ?_
  refine g_iconst q_X8_visitedBy_2 ?_
  refine g_istore (L' := [_, _, _, _, _]) q_X8_visitedBy_3 (by decide) rfl ?_
  refine g_loop (fun k => k ≤ 41) (fun k : Nat => G Γ _ cX8_visitedBy _ _ 0 0 5 [some (.ref w), some (.int (ii c)), some (.long (lb (vsN (fun t => P (41 * c + t)) k))), none, some (.int (ii k))] [] σ) (fun k => 41 - k) ?_ 0 (Nat.zero_le _)
  intro k hk ih
  refine g_iload q_X8_visitedBy_5 rfl ?_
  refine g_bipush q_X8_visitedBy_7 bp_40 ?_
  refine g_icmp_gt (tgt := 30) q_X8_visitedBy_9 (by decide) ⟨by omega, by omega⟩ ⟨by omega, by omega⟩ (fun hx => ?_) (fun hx => ?_)
  · have e : k = 41 := by omega
    subst e
    refine g_lload_n q_X8_visitedBy_30 rfl ?_
    refine g_lreturn q_X8_visitedBy_31.1 rfl ?_
    exact ⟨rfl, rfl⟩
  · have hPk := hP (41 * c + k)
    refine g_lload_n q_X8_visitedBy_12 rfl ?_
    refine g_lconst q_X8_visitedBy_13 ?_
    refine g_aload_n q_X8_visitedBy_14 rfl ?_
    refine g_iload_n q_X8_visitedBy_15 rfl ?_
    refine g_iload q_X8_visitedBy_16 rfl ?_
    refine g_callV (rc' := 0) (rs' := 0) (As := [_, _]) cs_X8_56 q_X8_visitedBy_18 (sp_cellOf hΓ h0 h1 c k hc (by omega)) rfl (by repeat first | with_reducible assumption | with_reducible exact hput_s _ _ _ | refine (hput_n _ _ (by omega)).trans ?_ | exact hput_s _ _ _ | assumption) rfl rfl rfl rfl (Nat.le_of_ble_eq_true rfl) (by decide) (by decide) (by decide) (fun _ _ h => h.elim) (k_ri ?_)
    refine g_lshl q_X8_visitedBy_21 (by omega) (by omega) ?_
    refine g_lor q_X8_visitedBy_22 ?_
    refine g_lstore_n (L' := [_, _, _, _, _]) q_X8_visitedBy_23 (by decide) rfl ?_
    refine g_iinc (L' := [_, _, _, _, _]) q_X8_visitedBy_24 rfl rfl ?_
    refine g_goto (tgt := 5) q_X8_visitedBy_27 (by decide) ?_
    exact ih (k + 1) (by omega) (by omega)
theorem sp_countVisitors (hΓ : Gd Γ) (hn : n ≤ 5) (hP : okP P) (h0 : σ.2 w = some (wyo w n ct cs cl co)) (h1 : σ.2 (w + 1) = some (ai 205 P)) (z : Int) (hz : rg z) : Sp Γ miX8_countVisitors 0 0 [.ref w, .int (ii z)] σ (ri (cntN (fun c => decide (fstN (fun t => decide (P (41 * c + t) = z)) 41 ≠ -1)) n) σ) noX := by
  refine Sp_of (L := [_, _, _, _]) hΓ (by decide +kernel) rfl (Nat.le_of_ble_eq_true rfl) rfl ?_
  refine g_iconst q_X8_countVisitors_0 ?_
  refine g_istore_n (L' := [_, _, _, _]) q_X8_countVisitors_1 (by decide) rfl ?_
  refine g_iconst q_X8_countVisitors_2 ?_
  refine g_istore_n (L' := [_, _, _, _]) q_X8_countVisitors_3 (by decide) rfl ?_
  refine g_loop (fun k => k ≤ n) (fun k : Nat => G Γ _ cX8_countVisitors _ _ 0 0 4 [some (.ref w), some (.int (ii z)), some (.int (ii (cntN (fun c => decide (fstN (fun t => decide (P (41 * c + t) = z)) 41 ≠ -1)) k))), some (.int (ii k))] [] σ) (fun k => n - k) ?_ 0 (Nat.zero_le _)
  intro k hk ih
  refine g_iload_n q_X8_countVisitors_4 rfl ?_
  refine g_aload_n q_X8_countVisitors_5 rfl ?_
  refine g_get fl_X8_18 q_X8_countVisitors_6 (by repeat first | with_reducible assumption | with_reducible exact hput_s _ _ _ | refine (hput_n _ _ (by omega)).trans ?_ | exact hput_s _ _ _ | assumption) rfl ?_
  refine g_icmp_ge (tgt := 36) q_X8_countVisitors_9 (by decide) ⟨by omega, by omega⟩ ⟨by omega, by omega⟩ (fun hx => ?_) (fun hx => ?_)
  · have e : k = n := by omega
    subst e
    refine g_iload_n q_X8_countVisitors_36 rfl ?_
    refine g_ireturn q_X8_countVisitors_37.1 rfl ?_
    exact ⟨rfl, rfl⟩
  · refine g_iload_n q_X8_countVisitors_12 rfl ?_
    refine g_aload_n q_X8_countVisitors_13 rfl ?_
    refine g_iload_n q_X8_countVisitors_14 rfl ?_
    refine g_iload_n q_X8_countVisitors_15 rfl ?_
    refine g_callV (rc' := 0) (rs' := 0) (As := [_, _]) cs_X8_63 q_X8_countVisitors_16 (sp_firstTimeIn hΓ hP h0 h1 k (by omega) z hz) rfl (by repeat first | with_reducible assumption | with_reducible exact hput_s _ _ _ | refine (hput_n _ _ (by omega)).trans ?_ | exact hput_s _ _ _ | assumption) rfl rfl rfl rfl (Nat.le_of_ble_eq_true rfl) (by decide) (by decide) (by decide) (fun _ _ h => h.elim) (k_ri ?_)
    refine g_iconst q_X8_countVisitors_19 ?_
    have hr := fstN_rg (fun t => decide (P (41 * k + t) = z)) 41
    have := ih (k + 1) (by omega) (by omega)
    rw [cntN_succ] at this
    refine g_icmp_ne (tgt := 27) q_X8_countVisitors_20 (by decide) ⟨by omega, by omega⟩ ⟨by omega, by omega⟩ (fun hd => ?_) (fun hd => ?_)
    · rw [decide_eq_true hd] at this
      refine g_iconst q_X8_countVisitors_27 ?_
      refine g_iadd q_X8_countVisitors_28 ?_
      refine g_istore_n (L' := [_, _, _, _]) q_X8_countVisitors_29 (by decide) rfl ?_
      refine g_iinc (L' := [_, _, _, _]) q_X8_countVisitors_30 rfl rfl ?_
      refine g_goto (tgt := 4) q_X8_countVisitors_33 (by decide) ?_
      exact this
    · rw [show decide (fstN (fun t => decide (P (41 * k + t) = z)) 41 ≠ -1) = false from decide_eq_false (fun q => q hd)] at this
      refine g_iconst q_X8_countVisitors_23 ?_
      refine g_goto (tgt := 28) q_X8_countVisitors_24 (by decide) ?_
      refine g_iadd q_X8_countVisitors_28 ?_
      refine g_istore_n (L' := [_, _, _, _]) q_X8_countVisitors_29 (by decide) rfl ?_
      refine g_iinc (L' := [_, _, _, _]) q_X8_countVisitors_30 rfl rfl ?_
      refine g_goto (tgt := 4) q_X8_countVisitors_33 (by decide) ?_
      exact this
theorem sp_countSteps (hΓ : Gd Γ) (hP : okP P) (h0 : σ.2 w = some (wyo w n ct cs cl co)) (h1 : σ.2 (w + 1) = some (ai 205 P)) (c : Nat) (hc : c < 5) : Sp Γ miX8_countSteps 0 0 [.ref w, .int (ii c)] σ (ri (cntN (fun t => decide (P (41 * c + (t + 1)) ≠ P (41 * c + t))) 40) σ) noX := by
  refine Sp_of (L := [_, _, _, _]) hΓ (by decide +kernel) rfl (Nat.le_of_ble_eq_true rfl) rfl ?_
  refine g_iconst q_X8_countSteps_0 ?_
  refine g_istore_n (L' := [_, _, _, _]) q_X8_countSteps_1 (by decide) rfl ?_
  refine g_iconst q_X8_countSteps_2 ?_
  refine g_istore_n (L' := [_, _, _, _]) q_X8_countSteps_3 (by decide) rfl ?_
  refine g_loop (fun k => k ≤ 40) (fun k : Nat => G Γ _ cX8_countSteps _ _ 0 0 4 [some (.ref w), some (.int (ii c)), some (.int (ii (cntN (fun t => decide (P (41 * c + (t + 1)) ≠ P (41 * c + t))) k))), some (.int (ii ((k + 1 : Nat) : Int)))] [] σ) (fun k => 40 - k) ?_ 0 (Nat.zero_le _)
  intro k hk ih
  refine g_iload_n q_X8_countSteps_4 rfl ?_
  refine g_bipush q_X8_countSteps_5 bp_40 ?_
  refine g_icmp_gt (tgt := 33) q_X8_countSteps_7 (by decide) ⟨by omega, by omega⟩ ⟨by omega, by omega⟩ (fun hx => ?_) (fun hx => ?_)
  · have e : k = 40 := by omega
    subst e
    refine g_iload_n q_X8_countSteps_33 rfl ?_
    refine g_ireturn q_X8_countSteps_34.1 rfl ?_
    exact ⟨rfl, rfl⟩
  · refine g_iload_n q_X8_countSteps_10 rfl ?_
    refine g_aload_n q_X8_countSteps_11 rfl ?_
    refine g_iload_n q_X8_countSteps_12 rfl ?_
    refine g_iload_n q_X8_countSteps_13 rfl ?_
    refine g_callV (rc' := 0) (rs' := 0) (As := [_, _]) cs_X8_66 q_X8_countSteps_14 (sp_comes hΓ hP h0 h1 c k hc (by omega)) rfl (by repeat first | with_reducible assumption | with_reducible exact hput_s _ _ _ | refine (hput_n _ _ (by omega)).trans ?_ | exact hput_s _ _ _ | assumption) rfl rfl rfl rfl (Nat.le_of_ble_eq_true rfl) (by decide) (by decide) (by decide) (fun _ _ h => h.elim) (k_rb ?_)
    have := ih (k + 1) (by omega) (by omega)
    rw [cntN_succ _ k] at this
    refine g_if_eq (tgt := 24) q_X8_countSteps_17 (by decide) (bi_rg _) (fun hd => ?_) (fun hd => ?_)
    · rw [hd] at this
      refine g_iconst q_X8_countSteps_24 ?_
      refine g_iadd q_X8_countSteps_25 ?_
      refine g_istore_n (L' := [_, _, _, _]) q_X8_countSteps_26 (by decide) rfl ?_
      refine g_iinc (L' := [_, _, _, _]) q_X8_countSteps_27 rfl rfl ?_
      refine g_goto (tgt := 4) q_X8_countSteps_30 (by decide) ?_
      exact this
    · have e : bi (decide (P (41 * c + (k + 1)) ≠ P (41 * c + k))) = 1 := by
        have := bi_01 (decide (P (41 * c + (k + 1)) ≠ P (41 * c + k)))
        omega
      rw [e] at this
      refine g_iconst q_X8_countSteps_20 ?_
      refine g_goto (tgt := 25) q_X8_countSteps_21 (by decide) ?_
      refine g_iadd q_X8_countSteps_25 ?_
      refine g_istore_n (L' := [_, _, _, _]) q_X8_countSteps_26 (by decide) rfl ?_
      refine g_iinc (L' := [_, _, _, _]) q_X8_countSteps_27 rfl rfl ?_
      refine g_goto (tgt := 4) q_X8_countSteps_30 (by decide) ?_
      exact this
theorem sp_countLeaving (hΓ : Gd Γ) (hn : n ≤ 5) (hP : okP P) (h0 : σ.2 w = some (wyo w n ct cs cl co)) (h1 : σ.2 (w + 1) = some (ai 205 P)) (z : Int) (hz : rg z) : Sp Γ miX8_countLeaving 0 0 [.ref w, .int (ii z)] σ (ri (sumN (fun c => lvN P z c 40) n) σ) noX := by
  refine Sp_of (L := [_, _, _, _, _]) hΓ (by decide +kernel) rfl (Nat.le_of_ble_eq_true rfl) rfl ?_
  refine g_iconst q_X8_countLeaving_0 ?_
  refine g_istore_n (L' := [_, _, _, _, _]) q_X8_countLeaving_1 (by decide) rfl ?_
  refine g_iconst q_X8_countLeaving_2 ?_
  refine g_istore_n (L' := [_, _, _, _, _]) q_X8_countLeaving_3 (by decide) rfl ?_
  refine g_loop (fun k => k ≤ n) (fun k : Nat => G Γ _ cX8_countLeaving _ _ 0 0 4 [some (.ref w), some (.int (ii z)), some (.int (ii (sumN (fun c => lvN P z c 40) k))), some (.int (ii k)), none] [] σ) (fun k => n - k) ?_ 0 (Nat.zero_le _)
  intro k hk ih
  refine g_iload_n q_X8_countLeaving_4 rfl ?_
  refine g_aload_n q_X8_countLeaving_5 rfl ?_
  refine g_get fl_X8_18 q_X8_countLeaving_6 (by repeat first | with_reducible assumption | with_reducible exact hput_s _ _ _ | refine (hput_n _ _ (by omega)).trans ?_ | exact hput_s _ _ _ | assumption) rfl ?_
  refine g_icmp_ge (tgt := 60) q_X8_countLeaving_9 (by decide) ⟨by omega, by omega⟩ ⟨by omega, by omega⟩ (fun hx => ?_) (fun hx => ?_)
  · have e : k = n := by omega
    subst e
    refine g_iload_n q_X8_countLeaving_60 rfl ?_
    refine g_ireturn q_X8_countLeaving_61.1 rfl ?_
    exact ⟨rfl, rfl⟩
  · refine g_iconst q_X8_countLeaving_12 ?_
    refine g_istore (L' := [_, _, _, _, _]) q_X8_countLeaving_13 (by decide) rfl ?_
    refine g_add0 (fun x => G Γ _ cX8_countLeaving _ _ 0 0 15 [some (.ref w), some (.int (ii z)), some (.int (ii x)), some (.int (ii k)), some (.int (ii 1))] [] σ) ?_
    refine g_loop (fun t => t ≤ 40) (fun t : Nat => G Γ _ cX8_countLeaving _ _ 0 0 15 [some (.ref w), some (.int (ii z)), some (.int (ii (sumN (fun c => lvN P z c 40) k + lvN P z k t))), some (.int (ii k)), some (.int (ii ((t + 1 : Nat) : Int)))] [] σ) (fun t => 40 - t) ?_ 0 (Nat.zero_le _)
    intro t ht ih2
    refine g_iload q_X8_countLeaving_15 rfl ?_
    refine g_bipush q_X8_countLeaving_17 bp_40 ?_
    refine g_icmp_gt (tgt := 54) q_X8_countLeaving_19 (by decide) ⟨by omega, by omega⟩ ⟨by omega, by omega⟩ (fun hx => ?_) (fun hx => ?_)
    · have e : t = 40 := by omega
      subst e
      refine g_iinc (L' := [_, _, _, _, _]) q_X8_countLeaving_54 rfl rfl ?_
      refine g_goto (tgt := 4) q_X8_countLeaving_57 (by decide) ?_
      exact g_fl (ih (k + 1) (by omega) (by omega)) ⟨rfl, rfl, rfl, rfl, trivial⟩
    · have hPk := hP (41 * k + t)
      refine g_aload_n q_X8_countLeaving_22 rfl ?_
      refine g_iload_n q_X8_countLeaving_23 rfl ?_
      refine g_iload q_X8_countLeaving_24 rfl ?_
      refine g_iconst q_X8_countLeaving_26 ?_
      refine g_isub q_X8_countLeaving_27 ?_
      refine g_topi (b := ((t : Nat) : Int)) (by omega) ?_
      refine g_callV (rc' := 0) (rs' := 0) (As := [_, _]) cs_X8_56 q_X8_countLeaving_28 (sp_cellOf hΓ h0 h1 k t (by omega) (by omega)) rfl (by repeat first | with_reducible assumption | with_reducible exact hput_s _ _ _ | refine (hput_n _ _ (by omega)).trans ?_ | exact hput_s _ _ _ | assumption) rfl rfl rfl rfl (Nat.le_of_ble_eq_true rfl) (by decide) (by decide) (by decide) (fun _ _ h => h.elim) (k_ri ?_)
      refine g_iload_n q_X8_countLeaving_31 rfl ?_
      have hnx := ih2 (t + 1) (by omega) (by omega)
      rw [show lvN P z k (t + 1) = lvN P z k t + bi (decide (P (41 * k + t) = z) && decide (P (41 * k + (t + 1)) ≠ P (41 * k + t))) from rfl] at hnx
      refine g_icmp_ne (tgt := 48) q_X8_countLeaving_32 (by decide) ⟨by omega, by omega⟩ hz (fun hd => ?_) (fun hd => ?_)
      · refine g_iinc (L' := [_, _, _, _, _]) q_X8_countLeaving_48 rfl rfl ?_
        refine g_goto (tgt := 15) q_X8_countLeaving_51 (by decide) ?_
        rw [show decide (P (41 * k + t) = z) = false from decide_eq_false hd] at hnx
        simp only [Bool.false_and, bi, Bool.false_eq_true, if_false, Int.add_zero] at hnx
        exact hnx
      · refine g_aload_n q_X8_countLeaving_35 rfl ?_
        refine g_iload_n q_X8_countLeaving_36 rfl ?_
        refine g_iload q_X8_countLeaving_37 rfl ?_
        refine g_callV (rc' := 0) (rs' := 0) (As := [_, _]) cs_X8_66 q_X8_countLeaving_39 (sp_comes hΓ hP h0 h1 k t (by omega) (by omega)) rfl (by repeat first | with_reducible assumption | with_reducible exact hput_s _ _ _ | refine (hput_n _ _ (by omega)).trans ?_ | exact hput_s _ _ _ | assumption) rfl rfl rfl rfl (Nat.le_of_ble_eq_true rfl) (by decide) (by decide) (by decide) (fun _ _ h => h.elim) (k_rb ?_)
        rw [show decide (P (41 * k + t) = z) = true from decide_eq_true hd, Bool.true_and] at hnx
        refine g_if_eq (tgt := 48) q_X8_countLeaving_42 (by decide) (bi_rg _) (fun hd2 => ?_) (fun hd2 => ?_)
        · refine g_iinc (L' := [_, _, _, _, _]) q_X8_countLeaving_48 rfl rfl ?_
          refine g_goto (tgt := 15) q_X8_countLeaving_51 (by decide) ?_
          rw [hd2, Int.add_zero] at hnx
          exact hnx
        · have e : bi (decide (P (41 * k + (t + 1)) ≠ P (41 * k + t))) = 1 := by
            have := bi_01 (decide (P (41 * k + (t + 1)) ≠ P (41 * k + t)))
            omega
          refine g_iinc (L' := [_, _, _, _, _]) q_X8_countLeaving_45 rfl rfl ?_
          refine g_iinc (L' := [_, _, _, _, _]) q_X8_countLeaving_48 rfl rfl ?_
          refine g_goto (tgt := 15) q_X8_countLeaving_51 (by decide) ?_
          rw [e, ← Int.add_assoc] at hnx
          exact hnx
theorem sp_apart (hΓ : Gd Γ) (hP : okP P) (h0 : σ.2 w = some (wyo w n ct cs cl co)) (h1 : σ.2 (w + 1) = some (ai 205 P)) (c d t : Nat) (hc : c < 5) (hd : d < 5) (ht : t < 41) : Sp Γ miX8_apart 0 0 [.ref w, .int (ii c), .int (ii d), .int (ii t)] σ (ri (aprt (P (41 * c + t)) (P (41 * d + t))) σ) noX := by
  have b1 := hP (41 * c + t)
  have b2 := hP (41 * d + t)
  refine Sp_of (L := [_, _, _, _, _, _]) hΓ (by decide +kernel) rfl (Nat.le_of_ble_eq_true rfl) rfl ?_
  refine g_aload_n q_X8_apart_0 rfl ?_
  refine g_iload_n q_X8_apart_1 rfl ?_
  refine g_iload_n q_X8_apart_2 rfl ?_
  refine g_callV (rc' := 0) (rs' := 0) (As := [_, _]) cs_X8_56 q_X8_apart_3 (sp_cellOf hΓ h0 h1 c t hc ht) rfl (by repeat first | with_reducible assumption | with_reducible exact hput_s _ _ _ | refine (hput_n _ _ (by omega)).trans ?_ | exact hput_s _ _ _ | assumption) rfl rfl rfl rfl (Nat.le_of_ble_eq_true rfl) (by decide) (by decide) (by decide) (fun _ _ h => h.elim) (k_ri ?_)
  refine g_istore (L' := [_, _, _, _, _, _]) q_X8_apart_6 (by decide) rfl ?_
  refine g_aload_n q_X8_apart_8 rfl ?_
  refine g_iload_n q_X8_apart_9 rfl ?_
  refine g_iload_n q_X8_apart_10 rfl ?_
  refine g_callV (rc' := 0) (rs' := 0) (As := [_, _]) cs_X8_56 q_X8_apart_11 (sp_cellOf hΓ h0 h1 d t hd ht) rfl (by repeat first | with_reducible assumption | with_reducible exact hput_s _ _ _ | refine (hput_n _ _ (by omega)).trans ?_ | exact hput_s _ _ _ | assumption) rfl rfl rfl rfl (Nat.le_of_ble_eq_true rfl) (by decide) (by decide) (by decide) (fun _ _ h => h.elim) (k_ri ?_)
  have e1 : (P (41 * c + t)).tmod 6 = P (41 * c + t) % 6 := Int.tmod_eq_emod_of_nonneg b1.1
  have e2 : (P (41 * d + t)).tmod 6 = P (41 * d + t) % 6 := Int.tmod_eq_emod_of_nonneg b2.1
  have e3 : (P (41 * c + t)).tdiv 6 = P (41 * c + t) / 6 := Int.tdiv_eq_ediv_of_nonneg b1.1
  have e4 : (P (41 * d + t)).tdiv 6 = P (41 * d + t) / 6 := Int.tdiv_eq_ediv_of_nonneg b2.1
  refine g_istore (L' := [_, _, _, _, _, _]) q_X8_apart_14 (by decide) rfl ?_
  refine g_iload q_X8_apart_16 rfl ?_
  refine g_bipush q_X8_apart_18 bp_6 ?_
  refine g_irem q_X8_apart_20 ⟨by omega, by omega⟩ ⟨by omega, by omega⟩ (by omega) ?_
  refine g_topi (b := P (41 * c + t) % 6) (by exact e1) ?_
  refine g_iload q_X8_apart_21 rfl ?_
  refine g_bipush q_X8_apart_23 bp_6 ?_
  refine g_irem q_X8_apart_25 ⟨by omega, by omega⟩ ⟨by omega, by omega⟩ (by omega) ?_
  refine g_topi (b := P (41 * d + t) % 6) (by exact e2) ?_
  refine g_isub q_X8_apart_26 ?_
  refine g_abs lk_X8_70 q_X8_apart_27 (by decide) (Nat.le_of_ble_eq_true rfl) ⟨by omega, by omega⟩ ?_
  refine g_topi (b := adf (P (41 * c + t) % 6) (P (41 * d + t) % 6)) (by unfold adf; split <;> split <;> omega) ?_
  refine g_iload q_X8_apart_30 rfl ?_
  refine g_bipush q_X8_apart_32 bp_6 ?_
  refine g_idiv q_X8_apart_34 ⟨by omega, by omega⟩ ⟨by omega, by omega⟩ (by omega) ?_
  refine g_topi (b := P (41 * c + t) / 6) (by exact e3) ?_
  refine g_iload q_X8_apart_35 rfl ?_
  refine g_bipush q_X8_apart_37 bp_6 ?_
  refine g_idiv q_X8_apart_39 ⟨by omega, by omega⟩ ⟨by omega, by omega⟩ (by omega) ?_
  refine g_topi (b := P (41 * d + t) / 6) (by exact e4) ?_
  refine g_isub q_X8_apart_40 ?_
  refine g_abs lk_X8_70 q_X8_apart_41 (by decide) (Nat.le_of_ble_eq_true rfl) ⟨by omega, by omega⟩ ?_
  refine g_topi (b := adf (P (41 * c + t) / 6) (P (41 * d + t) / 6)) (by unfold adf; split <;> split <;> omega) ?_
  refine g_iadd q_X8_apart_44 ?_
  refine g_ireturn q_X8_apart_45.1 rfl ?_
  exact ⟨rfl, rfl⟩
theorem sp_moveOf (hΓ : Gd Γ) (hP : okP P) (h0 : σ.2 w = some (wyo w n ct cs cl co)) (h1 : σ.2 (w + 1) = some (ai 205 P)) (c t : Nat) (hc : c < 5) (ht : t < 40) : Sp Γ miX8_moveOf 0 0 [.ref w, .int (ii c), .int (ii t)] σ (ri (mvs (P (41 * c + (t + 1)) - P (41 * c + t))) σ) noX := by
  have b1 := hP (41 * c + (t + 1))
  have b2 := hP (41 * c + t)
  obtain ⟨tH, hzH, hrH⟩ := st_AHEAD hΓ
  refine Sp_of (L := [_, _, _, _, _]) hΓ (by decide +kernel) rfl (Nat.le_of_ble_eq_true rfl) rfl ?_
  refine g_aload_n q_X8_moveOf_0 rfl ?_
  refine g_iload_n q_X8_moveOf_1 rfl ?_
  refine g_iload_n q_X8_moveOf_2 rfl ?_
  refine g_iconst q_X8_moveOf_3 ?_
  refine g_iadd q_X8_moveOf_4 ?_
  refine g_callV (rc' := 0) (rs' := 0) (As := [_, _]) cs_X8_56 q_X8_moveOf_5 (sp_cellOf hΓ h0 h1 c (t + 1) hc (by omega)) rfl (by repeat first | with_reducible assumption | with_reducible exact hput_s _ _ _ | refine (hput_n _ _ (by omega)).trans ?_ | exact hput_s _ _ _ | assumption) rfl rfl rfl rfl (Nat.le_of_ble_eq_true rfl) (by decide) (by decide) (by decide) (fun _ _ h => h.elim) (k_ri ?_)
  refine g_aload_n q_X8_moveOf_8 rfl ?_
  refine g_iload_n q_X8_moveOf_9 rfl ?_
  refine g_iload_n q_X8_moveOf_10 rfl ?_
  refine g_callV (rc' := 0) (rs' := 0) (As := [_, _]) cs_X8_56 q_X8_moveOf_11 (sp_cellOf hΓ h0 h1 c t hc (by omega)) rfl (by repeat first | with_reducible assumption | with_reducible exact hput_s _ _ _ | refine (hput_n _ _ (by omega)).trans ?_ | exact hput_s _ _ _ | assumption) rfl rfl rfl rfl (Nat.le_of_ble_eq_true rfl) (by decide) (by decide) (by decide) (fun _ _ h => h.elim) (k_ri ?_)
  refine g_isub q_X8_moveOf_14 ?_
  refine g_istore_n (L' := [_, _, _, _, _]) q_X8_moveOf_15 (by decide) rfl ?_
  refine g_getst ls_X8_60 hzH q_X8_moveOf_16 ?_
  refine g_iconst q_X8_moveOf_19 ?_
  refine g_iload_n q_X8_moveOf_20 rfl ?_
  have hr : ∀ k, k < 4 → rg (t_ahd k) := fun k hk => by
    match k, hk with
    | 0, _ => exact ⟨by decide, by decide⟩
    | 1, _ => exact ⟨by decide, by decide⟩
    | 2, _ => exact ⟨by decide, by decide⟩
    | 3, _ => exact ⟨by decide, by decide⟩
    | k + 4, h => exact absurd h (by omega)
  refine g_callSN (rc' := 0) (rs' := 0) (As := [_, _, _]) cs_X8_52 q_X8_moveOf_21 (sp_indexOf_ro hΓ tH 4 4 (P (41 * c + (t + 1)) - P (41 * c + t)) t_ahd (by decide) (by decide) hrH hr ⟨by omega, by omega⟩) rfl rfl rfl (Nat.le_of_ble_eq_true rfl) (by decide) (by decide) (by decide) (fun _ _ h => h.elim) (k_ri ?_)
  generalize P (41 * c + (t + 1)) - P (41 * c + t) = dd
  have hm : (fstN (fun k => decide (t_ahd k = dd)) 4 = -1 ∧ mvs dd = 4) ∨ (fstN (fun k => decide (t_ahd k = dd)) 4 = mvs dd ∧ 0 ≤ mvs dd ∧ mvs dd < 4) := by
    have e : fstN (fun k => decide (t_ahd k = dd)) 4 = if -6 = dd then 0 else if 1 = dd then 1 else if 6 = dd then 2 else if -1 = dd then 3 else -1 := by
      have e0 : List.range 4 = [0, 1, 2, 3] := rfl
      unfold fstN
      rw [e0]
      simp only [List.find?, t_ahd]
      by_cases q1 : -6 = dd
      · subst q1; rfl
      by_cases q2 : 1 = dd
      · subst q2; rfl
      by_cases q3 : 6 = dd
      · subst q3; rfl
      by_cases q4 : -1 = dd
      · subst q4; rfl
      · simp [q1, q2, q3, q4]
    rw [e]
    unfold mvs
    repeat' split
    all_goals omega
  refine g_istore (L' := [_, _, _, _, _]) q_X8_moveOf_24 (by decide) rfl ?_
  refine g_iload q_X8_moveOf_26 rfl ?_
  refine g_iconst q_X8_moveOf_28 ?_
  have hrr : rg (fstN (fun k => decide (t_ahd k = dd)) 4) := by rcases hm with h | h <;> exact ⟨by omega, by omega⟩
  refine g_icmp_ne (tgt := 36) q_X8_moveOf_29 (by decide) hrr ⟨by omega, by omega⟩ (fun hd => ?_) (fun hd => ?_)
  · refine g_iload q_X8_moveOf_36 rfl ?_
    refine g_ireturn q_X8_moveOf_38.1 rfl ?_
    refine ⟨?_, rfl⟩
    rcases hm with h | h
    · exact absurd h.1 hd
    · rw [h.1]
  · refine g_iconst q_X8_moveOf_32 ?_
    refine g_goto (tgt := 38) q_X8_moveOf_33 (by decide) ?_
    refine g_ireturn q_X8_moveOf_38.1 rfl ?_
    refine ⟨?_, rfl⟩
    rcases hm with h | h
    · rw [h.2]
    · omega
theorem sp_sortOfClash (hΓ : Gd Γ) (hP : okP P) (h0 : σ.2 w = some (wyo w n ct cs cl co)) (h1 : σ.2 (w + 1) = some (ai 205 P)) (a b t : Nat) (ha : a < 5) (hb : b < 5) (ht : t < 40) : Sp Γ miX8_sortOfClash 0 0 [.ref w, .int (ii a), .int (ii b), .int (ii ((t + 1 : Nat) : Int))] σ (ri (soc P a b t) σ) noX := by
  have b1 := hP (41 * a + (t + 1))
  have b2 := hP (41 * b + (t + 1))
  have b3 := hP (41 * b + t)
  have b4 := hP (41 * a + t)
  refine Sp_of (L := [_, _, _, _, _, _]) hΓ (by decide +kernel) rfl (Nat.le_of_ble_eq_true rfl) rfl ?_
  refine g_bipush q_X8_sortOfClash_0 bp_41 ?_
  refine g_iload_n q_X8_sortOfClash_2 rfl ?_
  refine g_imul q_X8_sortOfClash_3 ?_
  refine g_iload_n q_X8_sortOfClash_4 rfl ?_
  refine g_iadd q_X8_sortOfClash_5 ?_
  refine g_istore (L' := [_, _, _, _, _, _]) q_X8_sortOfClash_6 (by decide) rfl ?_
  refine g_bipush q_X8_sortOfClash_8 bp_41 ?_
  refine g_iload_n q_X8_sortOfClash_10 rfl ?_
  refine g_imul q_X8_sortOfClash_11 ?_
  refine g_iload_n q_X8_sortOfClash_12 rfl ?_
  refine g_iadd q_X8_sortOfClash_13 ?_
  refine g_istore (L' := [_, _, _, _, _, _]) q_X8_sortOfClash_14 (by decide) rfl ?_
  refine g_aload_n q_X8_sortOfClash_16 rfl ?_
  refine g_get fl_X8_9 q_X8_sortOfClash_17 (by repeat first | with_reducible assumption | with_reducible exact hput_s _ _ _ | refine (hput_n _ _ (by omega)).trans ?_ | exact hput_s _ _ _ | assumption) rfl ?_
  refine g_iload q_X8_sortOfClash_20 rfl ?_
  refine g_iaload q_X8_sortOfClash_22 (by repeat first | with_reducible assumption | with_reducible exact hput_s _ _ _ | refine (hput_n _ _ (by omega)).trans ?_ | exact hput_s _ _ _ | assumption) (by omega) (by omega) ?_
  refine g_topi (b := P (41 * a + (t + 1))) rfl ?_
  refine g_aload_n q_X8_sortOfClash_23 rfl ?_
  refine g_get fl_X8_9 q_X8_sortOfClash_24 (by repeat first | with_reducible assumption | with_reducible exact hput_s _ _ _ | refine (hput_n _ _ (by omega)).trans ?_ | exact hput_s _ _ _ | assumption) rfl ?_
  refine g_iload q_X8_sortOfClash_27 rfl ?_
  refine g_iaload q_X8_sortOfClash_29 (by repeat first | with_reducible assumption | with_reducible exact hput_s _ _ _ | refine (hput_n _ _ (by omega)).trans ?_ | exact hput_s _ _ _ | assumption) (by omega) (by omega) ?_
  refine g_topi (b := P (41 * b + (t + 1))) rfl ?_
  refine g_icmp_ne (tgt := 35) q_X8_sortOfClash_30 (by decide) ⟨by omega, by omega⟩ ⟨by omega, by omega⟩ (fun hd => ?_) (fun hd => ?_)
  · have e3 : (41 * (b : Int) + ((t + 1 : Nat) : Int) - 1) = ((41 * b + t : Nat) : Int) := by omega
    have e4 : (41 * (a : Int) + ((t + 1 : Nat) : Int) - 1) = ((41 * a + t : Nat) : Int) := by omega
    refine g_aload_n q_X8_sortOfClash_35 rfl ?_
    refine g_get fl_X8_9 q_X8_sortOfClash_36 (by repeat first | with_reducible assumption | with_reducible exact hput_s _ _ _ | refine (hput_n _ _ (by omega)).trans ?_ | exact hput_s _ _ _ | assumption) rfl ?_
    refine g_iload q_X8_sortOfClash_39 rfl ?_
    refine g_iaload q_X8_sortOfClash_41 (by repeat first | with_reducible assumption | with_reducible exact hput_s _ _ _ | refine (hput_n _ _ (by omega)).trans ?_ | exact hput_s _ _ _ | assumption) (by omega) (by omega) ?_
    refine g_topi (b := P (41 * a + (t + 1))) rfl ?_
    refine g_aload_n q_X8_sortOfClash_42 rfl ?_
    refine g_get fl_X8_9 q_X8_sortOfClash_43 (by repeat first | with_reducible assumption | with_reducible exact hput_s _ _ _ | refine (hput_n _ _ (by omega)).trans ?_ | exact hput_s _ _ _ | assumption) rfl ?_
    refine g_iload q_X8_sortOfClash_46 rfl ?_
    refine g_iconst q_X8_sortOfClash_48 ?_
    refine g_isub q_X8_sortOfClash_49 ?_
    refine g_topi (b := ((41 * b + t : Nat) : Int)) (by exact e3) ?_
    refine g_iaload q_X8_sortOfClash_50 (by repeat first | with_reducible assumption | with_reducible exact hput_s _ _ _ | refine (hput_n _ _ (by omega)).trans ?_ | exact hput_s _ _ _ | assumption) (by omega) (by omega) ?_
    refine g_topi (b := P (41 * b + t)) rfl ?_
    refine g_icmp_ne (tgt := 77) q_X8_sortOfClash_51 (by decide) ⟨by omega, by omega⟩ ⟨by omega, by omega⟩ (fun hd2 => ?_) (fun hd2 => ?_)
    · refine g_iconst q_X8_sortOfClash_77 ?_
      refine g_ireturn q_X8_sortOfClash_78.1 rfl ?_
      refine ⟨?_, rfl⟩
      unfold soc
      rw [if_neg hd, if_neg (fun q => hd2 q.1)]
    · refine g_aload_n q_X8_sortOfClash_54 rfl ?_
      refine g_get fl_X8_9 q_X8_sortOfClash_55 (by repeat first | with_reducible assumption | with_reducible exact hput_s _ _ _ | refine (hput_n _ _ (by omega)).trans ?_ | exact hput_s _ _ _ | assumption) rfl ?_
      refine g_iload q_X8_sortOfClash_58 rfl ?_
      refine g_iaload q_X8_sortOfClash_60 (by repeat first | with_reducible assumption | with_reducible exact hput_s _ _ _ | refine (hput_n _ _ (by omega)).trans ?_ | exact hput_s _ _ _ | assumption) (by omega) (by omega) ?_
      refine g_topi (b := P (41 * b + (t + 1))) rfl ?_
      refine g_aload_n q_X8_sortOfClash_61 rfl ?_
      refine g_get fl_X8_9 q_X8_sortOfClash_62 (by repeat first | with_reducible assumption | with_reducible exact hput_s _ _ _ | refine (hput_n _ _ (by omega)).trans ?_ | exact hput_s _ _ _ | assumption) rfl ?_
      refine g_iload q_X8_sortOfClash_65 rfl ?_
      refine g_iconst q_X8_sortOfClash_67 ?_
      refine g_isub q_X8_sortOfClash_68 ?_
      refine g_topi (b := ((41 * a + t : Nat) : Int)) (by exact e4) ?_
      refine g_iaload q_X8_sortOfClash_69 (by repeat first | with_reducible assumption | with_reducible exact hput_s _ _ _ | refine (hput_n _ _ (by omega)).trans ?_ | exact hput_s _ _ _ | assumption) (by omega) (by omega) ?_
      refine g_topi (b := P (41 * a + t)) rfl ?_
      refine g_icmp_ne (tgt := 77) q_X8_sortOfClash_70 (by decide) ⟨by omega, by omega⟩ ⟨by omega, by omega⟩ (fun hd3 => ?_) (fun hd3 => ?_)
      · refine g_iconst q_X8_sortOfClash_77 ?_
        refine g_ireturn q_X8_sortOfClash_78.1 rfl ?_
        refine ⟨?_, rfl⟩
        unfold soc
        rw [if_neg hd, if_neg (fun q => hd3 q.2)]
      · refine g_iconst q_X8_sortOfClash_73 ?_
        refine g_goto (tgt := 78) q_X8_sortOfClash_74 (by decide) ?_
        refine g_ireturn q_X8_sortOfClash_78.1 rfl ?_
        refine ⟨?_, rfl⟩
        unfold soc
        rw [if_neg hd, if_pos ⟨hd2, hd3⟩]
  · refine g_iconst q_X8_sortOfClash_33 ?_
    refine g_ireturn q_X8_sortOfClash_34.1 rfl ?_
    refine ⟨?_, rfl⟩
    unfold soc
    rw [if_pos hd]
end WY2

