/-! Ways: all clashes, the first one -/
def ccB (P : Nat → Int) (a b t : Nat) : Int := cntN (fun t => decide (soc P a b t ≠ -1)) t
def ccA (P : Nat → Int) (last a j : Nat) : Int := sumN (fun j => ccB P a (a + 1 + j) last) j
theorem ccN_eq (P : Nat → Int) (n last : Nat) : ccN P n last = sumN (fun a => ccA P last a (n - 1 - a)) n := rfl
theorem ccB_succ (P : Nat → Int) (a b t : Nat) : ccB P a b (t + 1) = ccB P a b t + bi (decide (soc P a b t ≠ -1)) := rfl
section WY3
variable {Γ : GT} {σ : AH} {w n : Nat} {P C : Nat → Int} {ct cs cl co : Int}
theorem sp_countClashes (hΓ : Gd Γ) (hn : n ≤ 5) (hP : okP P) (hC : okC C) (h0 : σ.2 w = some (wyo w n ct cs cl co)) (h1 : σ.2 (w + 1) = some (ai 205 P)) (h2 : σ.2 (w + 2) = some (ai 5 C)) : Sp Γ miX8_countClashes 0 0 [.ref w] σ (ri (ccN P n (mxN C n).toNat) σ) noX := by
  have hm := mxN_rg (C := C) (b := 40) (by omega) (n := n) (fun j _ => (hC j).2)
  obtain ⟨last, hlast⟩ : ∃ l : Nat, mxN C n = l := ⟨(mxN C n).toNat, by omega⟩
  rw [hlast]
  rw [hlast] at hm
  rw [show ((last : Nat) : Int).toNat = last from rfl, ccN_eq]
  refine Sp_of (L := [_, _, _, _, _, _]) hΓ (by decide +kernel) rfl (Nat.le_of_ble_eq_true rfl) rfl ?_
  refine g_iconst q_X8_countClashes_0 ?_
  refine g_istore_n (L' := [_, _, _, _, _, _]) q_X8_countClashes_1 (by decide) rfl ?_
  refine g_aload_n q_X8_countClashes_2 rfl ?_
  refine g_callV (rc' := 0) (rs' := 0) (As := []) cs_X8_76 q_X8_countClashes_3 (sp_lastEnd hΓ hn h0 h2 hC) rfl (by repeat first | with_reducible assumption | with_reducible exact hput_s _ _ _ | refine (hput_n _ _ (by omega)).trans ?_ | exact hput_s _ _ _ | assumption) rfl rfl rfl rfl (Nat.le_of_ble_eq_true rfl) (by decide) (by decide) (by decide) (fun _ _ h => h.elim) (k_ri ?_)
  refine g_topi (b := (last : Int)) hlast ?_
  refine g_istore_n (L' := [_, _, _, _, _, _]) q_X8_countClashes_6 (by decide) rfl ?_
  refine g_iconst q_X8_countClashes_7 ?_
  refine g_istore_n (L' := [_, _, _, _, _, _]) q_X8_countClashes_8 (by decide) rfl ?_
  refine g_loop (fun k => k ≤ n) (fun k : Nat => G Γ _ cX8_countClashes _ _ 0 0 9 [some (.ref w), some (.int (ii (sumN (fun a => ccA P last a (n - 1 - a)) k))), some (.int (ii last)), some (.int (ii k)), none, none] [] σ) (fun k => n - k) ?_ 0 (Nat.zero_le _)
  intro a hk ih
  refine g_iload_n q_X8_countClashes_9 rfl ?_
  refine g_aload_n q_X8_countClashes_10 rfl ?_
  refine g_get fl_X8_18 q_X8_countClashes_11 (by repeat first | with_reducible assumption | with_reducible exact hput_s _ _ _ | refine (hput_n _ _ (by omega)).trans ?_ | exact hput_s _ _ _ | assumption) rfl ?_
  refine g_icmp_ge (tgt := 79) q_X8_countClashes_14 (by decide) ⟨by omega, by omega⟩ ⟨by omega, by omega⟩ (fun hx => ?_) (fun hx => ?_)
  · have e : a = n := by omega
    subst e
    refine g_iload_n q_X8_countClashes_79 rfl ?_
    refine g_ireturn q_X8_countClashes_80.1 rfl ?_
    exact ⟨rfl, rfl⟩
  · refine g_iload_n q_X8_countClashes_17 rfl ?_
    refine g_iconst q_X8_countClashes_18 ?_
    refine g_iadd q_X8_countClashes_19 ?_
    refine g_istore (L' := [_, _, _, _, _, _]) q_X8_countClashes_20 (by decide) rfl ?_
    refine g_add0 (fun x => G Γ _ cX8_countClashes _ _ 0 0 22 [some (.ref w), some (.int (ii x)), some (.int (ii last)), some (.int (ii a)), some (.int (ii ((a + 1 : Nat) : Int))), none] [] σ) ?_
    refine g_loop (fun j => j ≤ n - 1 - a) (fun j : Nat => G Γ _ cX8_countClashes _ _ 0 0 22 [some (.ref w), some (.int (ii (sumN (fun a => ccA P last a (n - 1 - a)) a + ccA P last a j))), some (.int (ii last)), some (.int (ii a)), some (.int (ii ((a + 1 + j : Nat) : Int))), none] [] σ) (fun j => n - j) ?_ 0 (Nat.zero_le _)
    intro j hj ih2
    refine g_iload q_X8_countClashes_22 rfl ?_
    refine g_aload_n q_X8_countClashes_24 rfl ?_
    refine g_get fl_X8_18 q_X8_countClashes_25 (by repeat first | with_reducible assumption | with_reducible exact hput_s _ _ _ | refine (hput_n _ _ (by omega)).trans ?_ | exact hput_s _ _ _ | assumption) rfl ?_
    refine g_icmp_ge (tgt := 73) q_X8_countClashes_28 (by decide) ⟨by omega, by omega⟩ ⟨by omega, by omega⟩ (fun hx => ?_) (fun hx => ?_)
    · have e : j = n - 1 - a := by omega
      subst e
      refine g_iinc (L' := [_, _, _, _, _, _]) q_X8_countClashes_73 rfl rfl ?_
      refine g_goto (tgt := 9) q_X8_countClashes_76 (by decide) ?_
      exact g_fl (ih (a + 1) (by omega) (by omega)) ⟨rfl, rfl, rfl, rfl, trivial⟩
    · refine g_iconst q_X8_countClashes_31 ?_
      refine g_istore (L' := [_, _, _, _, _, _]) q_X8_countClashes_32 (by decide) rfl ?_
      refine g_add0 (fun x => G Γ _ cX8_countClashes _ _ 0 0 34 [some (.ref w), some (.int (ii x)), some (.int (ii last)), some (.int (ii a)), some (.int (ii ((a + 1 + j : Nat) : Int))), some (.int (ii 1))] [] σ) ?_
      refine g_loop (fun t => t ≤ last) (fun t : Nat => G Γ _ cX8_countClashes _ _ 0 0 34 [some (.ref w), some (.int (ii (sumN (fun a => ccA P last a (n - 1 - a)) a + ccA P last a j + ccB P a (a + 1 + j) t))), some (.int (ii last)), some (.int (ii a)), some (.int (ii ((a + 1 + j : Nat) : Int))), some (.int (ii ((t + 1 : Nat) : Int)))] [] σ) (fun t => last - t) ?_ 0 (Nat.zero_le _)
      intro t ht ih3
      refine g_iload q_X8_countClashes_34 rfl ?_
      refine g_iload_n q_X8_countClashes_36 rfl ?_
      refine g_icmp_gt (tgt := 67) q_X8_countClashes_37 (by decide) ⟨by omega, by omega⟩ ⟨by omega, by omega⟩ (fun hx => ?_) (fun hx => ?_)
      · have e : t = last := by omega
        subst e
        refine g_iinc (L' := [_, _, _, _, _, _]) q_X8_countClashes_67 rfl rfl ?_
        refine g_goto (tgt := 22) q_X8_countClashes_70 (by decide) ?_
        have := ih2 (j + 1) (by omega) (by omega)
        rw [show ccA P t a (j + 1) = ccA P t a j + ccB P a (a + 1 + j) t from rfl, ← Int.add_assoc] at this
        exact g_fl this ⟨rfl, rfl, rfl, rfl, rfl, trivial⟩
      · refine g_iload_n q_X8_countClashes_40 rfl ?_
        refine g_aload_n q_X8_countClashes_41 rfl ?_
        refine g_iload_n q_X8_countClashes_42 rfl ?_
        refine g_iload q_X8_countClashes_43 rfl ?_
        refine g_iload q_X8_countClashes_45 rfl ?_
        refine g_callV (rc' := 0) (rs' := 0) (As := [_, _, _]) cs_X8_80 q_X8_countClashes_47 (sp_sortOfClash hΓ hP h0 h1 a (a + 1 + j) t (by omega) (by omega) (by omega)) rfl (by repeat first | with_reducible assumption | with_reducible exact hput_s _ _ _ | refine (hput_n _ _ (by omega)).trans ?_ | exact hput_s _ _ _ | assumption) rfl rfl rfl rfl (Nat.le_of_ble_eq_true rfl) (by decide) (by decide) (by decide) (fun _ _ h => h.elim) (k_ri ?_)
        refine g_iconst q_X8_countClashes_50 ?_
        have hs := soc_rg P a (a + 1 + j) t
        have := ih3 (t + 1) (by omega) (by omega)
        rw [ccB_succ, ← Int.add_assoc] at this
        refine g_icmp_ne (tgt := 58) q_X8_countClashes_51 (by decide) ⟨by omega, by omega⟩ ⟨by omega, by omega⟩ (fun hd => ?_) (fun hd => ?_)
        · rw [decide_eq_true hd] at this
          refine g_iconst q_X8_countClashes_58 ?_
          refine g_iadd q_X8_countClashes_59 ?_
          refine g_istore_n (L' := [_, _, _, _, _, _]) q_X8_countClashes_60 (by decide) rfl ?_
          refine g_iinc (L' := [_, _, _, _, _, _]) q_X8_countClashes_61 rfl rfl ?_
          refine g_goto (tgt := 34) q_X8_countClashes_64 (by decide) ?_
          exact this
        · rw [show decide (soc P a (a + 1 + j) t ≠ -1) = false from decide_eq_false (fun q => q hd)] at this
          refine g_iconst q_X8_countClashes_54 ?_
          refine g_goto (tgt := 59) q_X8_countClashes_55 (by decide) ?_
          refine g_iadd q_X8_countClashes_59 ?_
          refine g_istore_n (L' := [_, _, _, _, _, _]) q_X8_countClashes_60 (by decide) rfl ?_
          refine g_iinc (L' := [_, _, _, _, _, _]) q_X8_countClashes_61 rfl rfl ?_
          refine g_goto (tgt := 34) q_X8_countClashes_64 (by decide) ?_
          exact this
theorem sp_keepClash (hΓ : Gd Γ) (h0 : σ.2 w = some (wyo w n ct cs cl co)) (a b c d : Int) : Sp Γ miX8_keepClash 0 0 [.ref w, .int (ii a), .int (ii b), .int (ii c), .int (ii d)] σ (rv (hput σ w (wyo w n a b c d))) noX := by
  refine Sp_of (L := [_, _, _, _, _]) hΓ (by decide +kernel) rfl (Nat.le_of_ble_eq_true rfl) rfl ?_
  refine g_aload_n q_X8_keepClash_0 rfl ?_
  refine g_iload_n q_X8_keepClash_1 rfl ?_
  refine g_put fp_X8_22 q_X8_keepClash_2 (by repeat first | with_reducible assumption | with_reducible exact hput_s _ _ _ | refine (hput_n _ _ (by omega)).trans ?_ | exact hput_s _ _ _ | assumption) rfl rfl ?_
  refine g_aload_n q_X8_keepClash_5 rfl ?_
  refine g_iload_n q_X8_keepClash_6 rfl ?_
  refine g_put fp_X8_25 q_X8_keepClash_7 (by repeat first | with_reducible assumption | with_reducible exact hput_s _ _ _ | refine (hput_n _ _ (by omega)).trans ?_ | exact hput_s _ _ _ | assumption) rfl rfl ?_
  refine g_aload_n q_X8_keepClash_10 rfl ?_
  refine g_iload_n q_X8_keepClash_11 rfl ?_
  refine g_put fp_X8_28 q_X8_keepClash_12 (by repeat first | with_reducible assumption | with_reducible exact hput_s _ _ _ | refine (hput_n _ _ (by omega)).trans ?_ | exact hput_s _ _ _ | assumption) rfl rfl ?_
  refine g_aload_n q_X8_keepClash_15 rfl ?_
  refine g_iload q_X8_keepClash_16 rfl ?_
  refine g_put fp_X8_31 q_X8_keepClash_18 (by repeat first | with_reducible assumption | with_reducible exact hput_s _ _ _ | refine (hput_n _ _ (by omega)).trans ?_ | exact hput_s _ _ _ | assumption) rfl rfl ?_
  refine g_return q_X8_keepClash_21.1 rfl ?_
  refine ⟨rfl, ?_⟩
  simp only [hput_hput, List.set]
theorem sp_findClashAt (hΓ : Gd Γ) (hn : n ≤ 5) (hP : okP P) (h0 : σ.2 w = some (wyo w n ct cs cl co)) (h1 : σ.2 (w + 1) = some (ai 205 P)) (t : Nat) (ht : t < 40) (s : Int) (hs : s = 0 ∨ s = 1) : Sp Γ miX8_findClashAt 0 0 [.ref w, .int (ii ((t + 1 : Nat) : Int)), .int (ii s)] σ (fun r σ' => r = none ∧ ((noS P n t s ∧ σ' = σ) ∨ ∃ a b : Nat, fsS P n t s a b ∧ σ' = hput σ w (wyo w n ((t + 1 : Nat) : Int) s a b))) noX := by
  have hsr : rg s := by rcases hs with rfl | rfl <;> exact ⟨by decide, by decide⟩
  refine Sp_of (L := [_, _, _, _, _]) hΓ (by decide +kernel) rfl (Nat.le_of_ble_eq_true rfl) rfl ?_
  refine g_iconst q_X8_findClashAt_0 ?_
  refine g_istore_n (L' := [_, _, _, _, _]) q_X8_findClashAt_1 (by decide) rfl ?_
  refine g_loop (fun a => a ≤ n ∧ ∀ a' b', a' < b' → b' < n → a' < a → soc P a' b' t ≠ s) (fun a : Nat => G Γ _ cX8_findClashAt _ _ 0 0 2 [some (.ref w), some (.int (ii ((t + 1 : Nat) : Int))), some (.int (ii s)), some (.int (ii a)), none] [] σ) (fun a => n - a) ?_ 0 ⟨Nat.zero_le _, fun a' b' _ _ h => absurd h (Nat.not_lt_zero a')⟩
  intro a ⟨ha, hno⟩ ih
  refine g_iload_n q_X8_findClashAt_2 rfl ?_
  refine g_aload_n q_X8_findClashAt_3 rfl ?_
  refine g_get fl_X8_18 q_X8_findClashAt_4 (by repeat first | with_reducible assumption | with_reducible exact hput_s _ _ _ | refine (hput_n _ _ (by omega)).trans ?_ | exact hput_s _ _ _ | assumption) rfl ?_
  refine g_icmp_ge (tgt := 58) q_X8_findClashAt_7 (by decide) ⟨by omega, by omega⟩ ⟨by omega, by omega⟩ (fun hx => ?_) (fun hx => ?_)
  · refine g_return q_X8_findClashAt_58.1 rfl ?_
    exact ⟨rfl, Or.inl ⟨fun a' b' g1 g2 => hno a' b' g1 g2 (by omega), rfl⟩⟩
  · refine g_iload_n q_X8_findClashAt_10 rfl ?_
    refine g_iconst q_X8_findClashAt_11 ?_
    refine g_iadd q_X8_findClashAt_12 ?_
    refine g_istore (L' := [_, _, _, _, _]) q_X8_findClashAt_13 (by decide) rfl ?_
    refine g_loop (fun b => a < b ∧ b ≤ n ∧ ∀ b', a < b' → b' < b → soc P a b' t ≠ s) (fun b : Nat => G Γ _ cX8_findClashAt _ _ 0 0 15 [some (.ref w), some (.int (ii ((t + 1 : Nat) : Int))), some (.int (ii s)), some (.int (ii a)), some (.int (ii b))] [] σ) (fun b => n - b) ?_ (a + 1) ⟨by omega, by omega, fun b' h1 h2 => absurd h2 (by omega)⟩
    intro b ⟨hb1, hb2, hno2⟩ ih2
    refine g_iload q_X8_findClashAt_15 rfl ?_
    refine g_aload_n q_X8_findClashAt_17 rfl ?_
    refine g_get fl_X8_18 q_X8_findClashAt_18 (by repeat first | with_reducible assumption | with_reducible exact hput_s _ _ _ | refine (hput_n _ _ (by omega)).trans ?_ | exact hput_s _ _ _ | assumption) rfl ?_
    refine g_icmp_ge (tgt := 52) q_X8_findClashAt_21 (by decide) ⟨by omega, by omega⟩ ⟨by omega, by omega⟩ (fun hx => ?_) (fun hx => ?_)
    · refine g_iinc (L' := [_, _, _, _, _]) q_X8_findClashAt_52 rfl rfl ?_
      refine g_goto (tgt := 2) q_X8_findClashAt_55 (by decide) ?_
      refine g_fl (ih (a + 1) ⟨by omega, fun a' b' g1 g2 g3 => ?_⟩ (by omega)) ⟨rfl, rfl, rfl, rfl, trivial⟩
      rcases Nat.lt_or_ge a' a with q | q
      · exact hno a' b' g1 g2 q
      · rw [show a' = a by omega]
        exact hno2 b' (by omega) (by omega)
    · refine g_aload_n q_X8_findClashAt_24 rfl ?_
      refine g_iload_n q_X8_findClashAt_25 rfl ?_
      refine g_iload q_X8_findClashAt_26 rfl ?_
      refine g_iload_n q_X8_findClashAt_28 rfl ?_
      refine g_callV (rc' := 0) (rs' := 0) (As := [_, _, _]) cs_X8_80 q_X8_findClashAt_29 (sp_sortOfClash hΓ hP h0 h1 a b t (by omega) (by omega) ht) rfl (by repeat first | with_reducible assumption | with_reducible exact hput_s _ _ _ | refine (hput_n _ _ (by omega)).trans ?_ | exact hput_s _ _ _ | assumption) rfl rfl rfl rfl (Nat.le_of_ble_eq_true rfl) (by decide) (by decide) (by decide) (fun _ _ h => h.elim) (k_ri ?_)
      refine g_iload_n q_X8_findClashAt_32 rfl ?_
      have hsc := soc_rg P a b t
      refine g_icmp_ne (tgt := 46) q_X8_findClashAt_33 (by decide) ⟨by omega, by omega⟩ hsr (fun hd => ?_) (fun hd => ?_)
      · refine g_iinc (L' := [_, _, _, _, _]) q_X8_findClashAt_46 rfl rfl ?_
        refine g_goto (tgt := 15) q_X8_findClashAt_49 (by decide) ?_
        refine ih2 (b + 1) ⟨by omega, by omega, fun b' g1 g2 => ?_⟩ (by omega)
        rcases Nat.lt_or_ge b' b with q | q
        · exact hno2 b' g1 q
        · rw [show b' = b by omega]; exact hd
      · refine g_aload_n q_X8_findClashAt_36 rfl ?_
        refine g_iload_n q_X8_findClashAt_37 rfl ?_
        refine g_iload_n q_X8_findClashAt_38 rfl ?_
        refine g_iload_n q_X8_findClashAt_39 rfl ?_
        refine g_iload q_X8_findClashAt_40 rfl ?_
        refine g_callV (rc' := 0) (rs' := 0) (As := [_, _, _, _]) cs_X8_84 q_X8_findClashAt_42 (sp_keepClash hΓ h0 ((t + 1 : Nat) : Int) s a b) rfl (by repeat first | with_reducible assumption | with_reducible exact hput_s _ _ _ | refine (hput_n _ _ (by omega)).trans ?_ | exact hput_s _ _ _ | assumption) rfl rfl rfl rfl (Nat.le_of_ble_eq_true rfl) (by decide) (by decide) (by decide) (fun _ _ h => h.elim) (k_rv ?_)
        refine g_return q_X8_findClashAt_45.1 rfl ?_
        refine ⟨rfl, Or.inr ⟨a, b, ⟨hb1, by omega, hd, fun a' b' g1 g2 g3 => ?_⟩, rfl⟩⟩
        rcases g3 with q | ⟨q1, q2⟩
        · exact hno a' b' g1 g2 q
        · subst q1
          exact hno2 b' g1 q2
theorem sp_findFirstClash (hΓ : Gd Γ) (hn : n ≤ 5) (hP : okP P) (hC : okC C) (h0 : σ.2 w = some (wyo w n ct cs cl co)) (h1 : σ.2 (w + 1) = some (ai 205 P)) (h2 : σ.2 (w + 2) = some (ai 5 C)) : Sp Γ miX8_findFirstClash 0 0 [.ref w] σ (fun r σ' => r = none ∧ (((∀ t, t < (mxN C n).toNat → noS P n t 0 ∧ noS P n t 1) ∧ σ' = hput σ w (wyo w n (-1) (-1) (-1) (-1))) ∨ ∃ (t : Nat) (s : Int) (a b : Nat), t < (mxN C n).toNat ∧ fsC P n t s a b ∧ σ' = hput σ w (wyo w n ((t + 1 : Nat) : Int) s a b))) noX := by
  have hm := mxN_rg (C := C) (b := 40) (by omega) (n := n) (fun j _ => (hC j).2)
  obtain ⟨last, hlast⟩ : ∃ l : Nat, mxN C n = l := ⟨(mxN C n).toNat, by omega⟩
  rw [hlast]
  rw [hlast] at hm
  rw [show ((last : Nat) : Int).toNat = last from rfl]
  refine Sp_of (L := [_, _, _]) hΓ (by decide +kernel) rfl (Nat.le_of_ble_eq_true rfl) rfl ?_
  refine g_aload_n q_X8_findFirstClash_0 rfl ?_
  refine g_iconst q_X8_findFirstClash_1 ?_
  refine g_iconst q_X8_findFirstClash_2 ?_
  refine g_iconst q_X8_findFirstClash_3 ?_
  refine g_iconst q_X8_findFirstClash_4 ?_
  refine g_callV (rc' := 0) (rs' := 0) (As := [_, _, _, _]) cs_X8_84 q_X8_findFirstClash_5 (sp_keepClash hΓ h0 (-1) (-1) (-1) (-1)) rfl (by repeat first | with_reducible assumption | with_reducible exact hput_s _ _ _ | refine (hput_n _ _ (by omega)).trans ?_ | exact hput_s _ _ _ | assumption) rfl rfl rfl rfl (Nat.le_of_ble_eq_true rfl) (by decide) (by decide) (by decide) (fun _ _ h => h.elim) (k_rv ?_)
  obtain ⟨τ, hτ⟩ : ∃ τ, τ = hput σ w (wyo w n (-1) (-1) (-1) (-1)) := ⟨_, rfl⟩
  have g0 : τ.2 w = some (wyo w n (-1) (-1) (-1) (-1)) := by rw [hτ]; exact hput_s _ _ _
  have g1 : τ.2 (w + 1) = some (ai 205 P) := by rw [hτ, hput_n _ _ (by omega)]; exact h1
  have g2 : τ.2 (w + 2) = some (ai 5 C) := by rw [hτ, hput_n _ _ (by omega)]; exact h2
  have hput2 : ∀ e, hput τ w e = hput σ w e := fun e => by rw [hτ, hput_hput]
  rw [← hτ]
  refine g_aload_n q_X8_findFirstClash_8 rfl ?_
  refine g_callV (rc' := 0) (rs' := 0) (As := []) cs_X8_76 q_X8_findFirstClash_9 (sp_lastEnd hΓ hn g0 g2 hC) rfl (by repeat first | with_reducible assumption | with_reducible exact hput_s _ _ _ | refine (hput_n _ _ (by omega)).trans ?_ | exact hput_s _ _ _ | assumption) rfl rfl rfl rfl (Nat.le_of_ble_eq_true rfl) (by decide) (by decide) (by decide) (fun _ _ h => h.elim) (k_ri ?_)
  refine g_topi (b := (last : Int)) hlast ?_
  refine g_istore_n (L' := [_, _, _]) q_X8_findFirstClash_12 (by decide) rfl ?_
  refine g_iconst q_X8_findFirstClash_13 ?_
  refine g_istore_n (L' := [_, _, _]) q_X8_findFirstClash_14 (by decide) rfl ?_
  refine g_loop (fun t => t ≤ last ∧ ∀ t', t' < t → noS P n t' 0 ∧ noS P n t' 1) (fun t : Nat => G Γ _ cX8_findFirstClash _ _ 0 0 15 [some (.ref w), some (.int (ii last)), some (.int (ii ((t + 1 : Nat) : Int)))] [] τ) (fun t => last - t) ?_ 0 ⟨Nat.zero_le _, fun t' h => absurd h (Nat.not_lt_zero t')⟩
  intro t ⟨ht, hno⟩ ih
  have hend : ∀ (t9 s : Int) (a b : Nat) (L3 : Int), rg L3 → 0 ≤ t9 → t9 < 1000 → (fun r σ' => r = none ∧ (((∀ t, t < last → noS P n t 0 ∧ noS P n t 1) ∧ σ' = τ) ∨ ∃ (t : Nat) (s : Int) (a b : Nat), t < last ∧ fsC P n t s a b ∧ σ' = hput σ w (wyo w n ((t + 1 : Nat) : Int) s a b)) : Option Value → AH → Prop) none (hput τ w (wyo w n t9 s a b)) → G Γ miX8_findFirstClash cX8_findFirstClash (fun r σ' => r = none ∧ (((∀ t, t < last → noS P n t 0 ∧ noS P n t 1) ∧ σ' = τ) ∨ ∃ (t : Nat) (s : Int) (a b : Nat), t < last ∧ fsC P n t s a b ∧ σ' = hput σ w (wyo w n ((t + 1 : Nat) : Int) s a b))) noX 0 0 15 [some (.ref w), some (.int (ii last)), some (.int (ii L3))] [] (hput τ w (wyo w n t9 s a b)) := by
    intro t9 s a b L3 hL3 q0 q1 hq
    refine g_iload_n q_X8_findFirstClash_15 rfl ?_
    refine g_iload_n q_X8_findFirstClash_16 rfl ?_
    refine g_icmp_gt (tgt := 54) q_X8_findFirstClash_17 (by decide) hL3 ⟨by omega, by omega⟩ (fun hx => ?_) (fun hx => ?_)
    · refine g_return q_X8_findFirstClash_54.1 rfl ?_
      exact hq
    · refine g_aload_n q_X8_findFirstClash_20 rfl ?_
      refine g_get fl_X8_22 q_X8_findFirstClash_21 (by repeat first | with_reducible assumption | with_reducible exact hput_s _ _ _ | refine (hput_n _ _ (by omega)).trans ?_ | exact hput_s _ _ _ | assumption) rfl ?_
      refine g_iconst q_X8_findFirstClash_24 ?_
      refine g_icmp_ne (tgt := 54) q_X8_findFirstClash_25 (by decide) ⟨by omega, by omega⟩ ⟨by omega, by omega⟩ (fun hx => ?_) (fun hx => ?_)
      · refine g_return q_X8_findFirstClash_54.1 rfl ?_
        exact hq
      · omega
  refine g_iload_n q_X8_findFirstClash_15 rfl ?_
  refine g_iload_n q_X8_findFirstClash_16 rfl ?_
  refine g_icmp_gt (tgt := 54) q_X8_findFirstClash_17 (by decide) ⟨by omega, by omega⟩ ⟨by omega, by omega⟩ (fun hx => ?_) (fun hx => ?_)
  · refine g_return q_X8_findFirstClash_54.1 rfl ?_
    exact ⟨rfl, Or.inl ⟨fun t' h => hno t' (by omega), rfl⟩⟩
  · refine g_aload_n q_X8_findFirstClash_20 rfl ?_
    refine g_get fl_X8_22 q_X8_findFirstClash_21 (by repeat first | with_reducible assumption | with_reducible exact hput_s _ _ _ | refine (hput_n _ _ (by omega)).trans ?_ | exact hput_s _ _ _ | assumption) rfl ?_
    refine g_iconst q_X8_findFirstClash_24 ?_
    refine g_icmp_ne (tgt := 54) q_X8_findFirstClash_25 (by decide) ⟨by omega, by omega⟩ ⟨by omega, by omega⟩ (fun hd => ?_) (fun hd => ?_)
    · exact absurd rfl hd
    · refine g_aload_n q_X8_findFirstClash_28 rfl ?_
      refine g_iload_n q_X8_findFirstClash_29 rfl ?_
      refine g_iconst q_X8_findFirstClash_30 ?_
      refine g_callV (rc' := 0) (rs' := 0) (As := [_, _]) cs_X8_88 q_X8_findFirstClash_31 (sp_findClashAt hΓ hn hP g0 g1 t (by omega) 0 (Or.inl rfl)) rfl (by repeat first | with_reducible assumption | with_reducible exact hput_s _ _ _ | refine (hput_n _ _ (by omega)).trans ?_ | exact hput_s _ _ _ | assumption) rfl rfl rfl rfl (Nat.le_of_ble_eq_true rfl) (by decide) (by decide) (by decide) (fun _ _ h => h.elim) (fun v σ' hq => ?_)
      obtain ⟨rfl, ⟨hn0, rfl⟩ | ⟨a, b, hf, rfl⟩⟩ := hq
      · refine g_aload_n q_X8_findFirstClash_34 rfl ?_
        refine g_get fl_X8_22 q_X8_findFirstClash_35 (by repeat first | with_reducible assumption | with_reducible exact hput_s _ _ _ | refine (hput_n _ _ (by omega)).trans ?_ | exact hput_s _ _ _ | assumption) rfl ?_
        refine g_iconst q_X8_findFirstClash_38 ?_
        refine g_icmp_ne (tgt := 48) q_X8_findFirstClash_39 (by decide) ⟨by omega, by omega⟩ ⟨by omega, by omega⟩ (fun hd2 => ?_) (fun hd2 => ?_)
        · exact absurd rfl hd2
        · refine g_aload_n q_X8_findFirstClash_42 rfl ?_
          refine g_iload_n q_X8_findFirstClash_43 rfl ?_
          refine g_iconst q_X8_findFirstClash_44 ?_
          refine g_callV (rc' := 0) (rs' := 0) (As := [_, _]) cs_X8_88 q_X8_findFirstClash_45 (sp_findClashAt hΓ hn hP g0 g1 t (by omega) 1 (Or.inr rfl)) rfl (by repeat first | with_reducible assumption | with_reducible exact hput_s _ _ _ | refine (hput_n _ _ (by omega)).trans ?_ | exact hput_s _ _ _ | assumption) rfl rfl rfl rfl (Nat.le_of_ble_eq_true rfl) (by decide) (by decide) (by decide) (fun _ _ h => h.elim) (fun v σ' hq => ?_)
          obtain ⟨rfl, ⟨hn1, rfl⟩ | ⟨a, b, hf, rfl⟩⟩ := hq
          · refine g_iinc (L' := [_, _, _]) q_X8_findFirstClash_48 rfl rfl ?_
            refine g_goto (tgt := 15) q_X8_findFirstClash_51 (by decide) ?_
            refine ih (t + 1) ⟨by omega, fun t' h => ?_⟩ (by omega)
            rcases Nat.lt_or_ge t' t with q | q
            · exact hno t' q
            · rw [show t' = t by omega]; exact ⟨hn0, hn1⟩
          · refine g_iinc (L' := [_, _, _]) q_X8_findFirstClash_48 rfl rfl ?_
            refine g_goto (tgt := 15) q_X8_findFirstClash_51 (by decide) ?_
            exact hend _ _ _ _ _ ⟨by omega, by omega⟩ (by omega) (by omega) ⟨rfl, Or.inr ⟨t, 1, a, b, by omega, ⟨Or.inr ⟨rfl, hn0⟩, hf, hno⟩, by rw [hput2]⟩⟩
      · refine g_aload_n q_X8_findFirstClash_34 rfl ?_
        refine g_get fl_X8_22 q_X8_findFirstClash_35 (by repeat first | with_reducible assumption | with_reducible exact hput_s _ _ _ | refine (hput_n _ _ (by omega)).trans ?_ | exact hput_s _ _ _ | assumption) rfl ?_
        refine g_iconst q_X8_findFirstClash_38 ?_
        refine g_icmp_ne (tgt := 48) q_X8_findFirstClash_39 (by decide) ⟨by omega, by omega⟩ ⟨by omega, by omega⟩ (fun hx => ?_) (fun hx => ?_)
        · refine g_iinc (L' := [_, _, _]) q_X8_findFirstClash_48 rfl rfl ?_
          refine g_goto (tgt := 15) q_X8_findFirstClash_51 (by decide) ?_
          exact hend _ _ _ _ _ ⟨by omega, by omega⟩ (by omega) (by omega) ⟨rfl, Or.inr ⟨t, 0, a, b, by omega, ⟨Or.inl rfl, hf, hno⟩, by rw [hput2]⟩⟩
        · omega
theorem sp_put (hΓ : Gd Γ) (h0 : σ.2 w = some (wyo w n ct cs cl co)) (h1 : σ.2 (w + 1) = some (ai 205 P)) (h2 : σ.2 (w + 2) = some (ai 5 C)) (c ra st N : Nat) (R : Nat → Int) (k : Int) (hc : c < 5) (hr : σ.2 ra = some (ai N R)) (hN : st + 41 ≤ N) : Sp Γ miX8_put 0 0 [.ref w, .int (ii c), .ref ra, .int (ii st), .int (ii k)] σ (rv (hput (hput σ (w + 1) (ai 205 (va_cpy R P st (41 * c) 41))) (w + 2) (ai 5 (va_up C c k)))) noX := by
  refine Sp_of (L := [_, _, _, _, _]) hΓ (by decide +kernel) rfl (Nat.le_of_ble_eq_true rfl) rfl ?_
  refine g_aload_n q_X8_put_0 rfl ?_
  refine g_iload_n q_X8_put_1 rfl ?_
  refine g_aload_n q_X8_put_2 rfl ?_
  refine g_get fl_X8_9 q_X8_put_3 (by repeat first | with_reducible assumption | with_reducible exact hput_s _ _ _ | refine (hput_n _ _ (by omega)).trans ?_ | exact hput_s _ _ _ | assumption) rfl ?_
  refine g_bipush q_X8_put_6 bp_41 ?_
  refine g_iload_n q_X8_put_8 rfl ?_
  refine g_imul q_X8_put_9 ?_
  refine g_bipush q_X8_put_10 bp_41 ?_
  refine g_copy lk_X8_46 q_X8_put_12 (by decide) (Nat.le_of_ble_eq_true rfl) (by repeat first | with_reducible assumption | with_reducible exact hput_s _ _ _ | refine (hput_n _ _ (by omega)).trans ?_ | exact hput_s _ _ _ | assumption) (by repeat first | with_reducible assumption | with_reducible exact hput_s _ _ _ | refine (hput_n _ _ (by omega)).trans ?_ | exact hput_s _ _ _ | assumption) (by omega) (by omega) (by omega) (by omega) (by omega) ?_
  refine g_aload_n q_X8_put_15 rfl ?_
  refine g_get fl_X8_15 q_X8_put_16 (by repeat first | with_reducible assumption | with_reducible exact hput_s _ _ _ | refine (hput_n _ _ (by omega)).trans ?_ | exact hput_s _ _ _ | assumption) rfl ?_
  refine g_iload_n q_X8_put_19 rfl ?_
  refine g_iload q_X8_put_20 rfl ?_
  refine g_iastore q_X8_put_22 (by repeat first | with_reducible assumption | with_reducible exact hput_s _ _ _ | refine (hput_n _ _ (by omega)).trans ?_ | exact hput_s _ _ _ | assumption) (by omega) (by omega) ?_
  refine g_return q_X8_put_23.1 rfl ?_
  exact ⟨rfl, rfl⟩
end WY3

