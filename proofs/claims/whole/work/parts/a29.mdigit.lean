/-! the reference reads: isDigit, digit, rowLine, spot -/
section MDg
variable {Γ : GT} {σ : AH} {m : Nat} {I : Nat → Int} {tx : Nat → Int} {len pos : Nat} {f : Int}
theorem sp_isDigit (hΓ : Gd Γ) {J : Nat → Int} (h0 : σ.2 m = some (mdo m J)) (h1 : σ.2 (m + 1) = some (ai 400 tx)) (oX : okX tx) (h3 : J 3 = len) (hl : len ≤ 400) (k : Nat) (hk : k ≤ 500) : Sp Γ miX10_isDigit 0 0 [.ref m, .int (ii k)] σ (rb (decide (k < len) && pDi (tx k)) σ) noX := by
  have hx := oX k
  have bad : (decide (k < len) && pDi (tx k)) = false → G Γ miX10_isDigit cX10_isDigit (rb (decide (k < len) && pDi (tx k)) σ) noX 0 0 34 [some (.ref m), some (.int (ii k))] [] σ := by
    intro hb
    rw [hb]
    refine g_iconst q_X10_isDigit_34 ?_
    refine g_zreturn q_X10_isDigit_35.1 rfl (by first | exact Or.inl rfl | exact Or.inr rfl | omega) ?_
    exact ⟨rfl, rfl⟩
  refine Sp_of (L := [_, _]) hΓ (by decide +kernel) rfl (Nat.le_of_ble_eq_true rfl) rfl ?_
  refine g_iload_n q_X10_isDigit_0 rfl ?_
  refine g_aload_n q_X10_isDigit_1 rfl ?_
  refine g_get fl_X10_128 q_X10_isDigit_2 (by repeat first | with_reducible assumption | with_reducible exact hput_s _ _ _ | refine (hput_n _ _ (by omega)).trans ?_ | exact hput_s _ _ _ | assumption) rfl ?_
  refine g_topi (b := (len : Int)) (by exact h3) ?_
  refine g_icmp_ge (tgt := 34) q_X10_isDigit_5 (by decide) ⟨by omega, by omega⟩ ⟨by omega, by omega⟩ (fun b1 => ?_) (fun b1 => ?_)
  · exact bad (by rw [decide_eq_false (by omega), Bool.false_and])
  refine g_aload_n q_X10_isDigit_8 rfl ?_
  refine g_get fl_X10_7 q_X10_isDigit_9 (by repeat first | with_reducible assumption | with_reducible exact hput_s _ _ _ | refine (hput_n _ _ (by omega)).trans ?_ | exact hput_s _ _ _ | assumption) rfl ?_
  refine g_iload_n q_X10_isDigit_12 rfl ?_
  refine g_iaload q_X10_isDigit_13 (by repeat first | with_reducible assumption | with_reducible exact hput_s _ _ _ | refine (hput_n _ _ (by omega)).trans ?_ | exact hput_s _ _ _ | assumption) (by omega) (by omega) ?_
  refine g_topi (b := tx k) (by rfl) ?_
  refine g_bipush q_X10_isDigit_14 bp_48 ?_
  refine g_icmp_lt (tgt := 34) q_X10_isDigit_16 (by decide) ⟨by omega, by omega⟩ ⟨by omega, by omega⟩ (fun b2 => ?_) (fun b2 => ?_)
  · exact bad (by rw [show pDi (tx k) = false from decide_eq_false (by omega), Bool.and_false])
  refine g_aload_n q_X10_isDigit_19 rfl ?_
  refine g_get fl_X10_7 q_X10_isDigit_20 (by repeat first | with_reducible assumption | with_reducible exact hput_s _ _ _ | refine (hput_n _ _ (by omega)).trans ?_ | exact hput_s _ _ _ | assumption) rfl ?_
  refine g_iload_n q_X10_isDigit_23 rfl ?_
  refine g_iaload q_X10_isDigit_24 (by repeat first | with_reducible assumption | with_reducible exact hput_s _ _ _ | refine (hput_n _ _ (by omega)).trans ?_ | exact hput_s _ _ _ | assumption) (by omega) (by omega) ?_
  refine g_topi (b := tx k) (by rfl) ?_
  refine g_bipush q_X10_isDigit_25 bp_57 ?_
  refine g_icmp_gt (tgt := 34) q_X10_isDigit_27 (by decide) ⟨by omega, by omega⟩ ⟨by omega, by omega⟩ (fun b3 => ?_) (fun b3 => ?_)
  · exact bad (by rw [show pDi (tx k) = false from decide_eq_false (by omega), Bool.and_false])
  rw [decide_eq_true (by omega), show pDi (tx k) = true from decide_eq_true (by omega)]
  refine g_iconst q_X10_isDigit_30 ?_
  refine g_goto (tgt := 35) q_X10_isDigit_31 (by decide) ?_
  refine g_zreturn q_X10_isDigit_35.1 rfl (by first | exact Or.inl rfl | exact Or.inr rfl | omega) ?_
  exact ⟨rfl, rfl⟩
/-- one digit alone -/
theorem tnP_one (q : Nat) (hq : q ≤ len) : avn pDi tx len q = q + 1 ↔ (decide (q < len) && pDi (tx q)) = true ∧ ¬ (decide (q + 1 < len) && pDi (tx (q + 1))) = true := by
  constructor
  · intro h
    have h1 := avn_mv (p := pDi) (tx := tx) (len := len) (i := q) (by omega)
    refine ⟨by rw [decide_eq_true h1.1, h1.2]; rfl, fun h2 => ?_⟩
    rw [Bool.and_eq_true] at h2
    have h3 := of_decide_eq_true h2.1
    rw [avn_go h1.1 h1.2, avn_go h3 h2.2] at h
    have := (avn_rg (p := pDi) (tx := tx) (len := len) (i := q + 1 + 1) (by omega)).1
    omega
  · rintro ⟨h1, h2⟩
    rw [Bool.and_eq_true] at h1
    rw [avn_go (of_decide_eq_true h1.1) h1.2]
    exact avn_no fun q3 => h2 (by rw [decide_eq_true q3.1, q3.2]; rfl)
theorem sp_digit (hΓ : Gd Γ) (h0 : σ.2 m = some (mdo m (pI I pos f))) (h1 : σ.2 (m + 1) = some (ai 400 tx)) (oX : okX tx) (h3 : I 3 = len) (hl : len ≤ 400) (hp : pos ≤ len) (hfr : rg f) (lim : Int) (hlim : 0 ≤ lim ∧ lim ≤ 6) : Sp Γ miX10_digit 0 0 [.ref m, .int (ii (lim - 1))] σ (fun r σ' => (f ≠ -1 ∧ r = some (.int (ii 0)) ∧ σ' = σ) ∨ (f = -1 ∧ tnV tx len lim pos = -1 ∧ r = some (.int (ii 0)) ∧ σ' = hput σ m (mdo m (pI I (tnS tx len pos) (tnS tx len pos)))) ∨ (f = -1 ∧ tnV tx len lim pos ≠ -1 ∧ r = some (.int (ii (tnV tx len lim pos))) ∧ σ' = hput σ m (mdo m (pI I (tnP tx len pos) f)))) noX := by
  have hr1 := avn_rg (p := pBl) (tx := tx) hp
  refine Sp_of (L := [_, _, _]) hΓ (by decide +kernel) rfl (Nat.le_of_ble_eq_true rfl) rfl ?_
  refine g_aload_n q_X10_digit_0 rfl ?_
  refine g_get fl_X10_13 q_X10_digit_1 (by repeat first | with_reducible assumption | with_reducible exact hput_s _ _ _ | refine (hput_n _ _ (by omega)).trans ?_ | exact hput_s _ _ _ | assumption) rfl ?_
  refine g_topi (b := f) (by rfl) ?_
  refine g_iconst q_X10_digit_4 ?_
  refine g_icmp_eq (tgt := 10) q_X10_digit_5 (by decide) hfr ⟨by omega, by omega⟩ (fun b1 => ?_) (fun b1 => ?_)
  case refine_2 =>
    refine g_iconst q_X10_digit_8 ?_
    refine g_ireturn q_X10_digit_9.1 rfl ?_
    exact Or.inl ⟨b1, rfl, rfl⟩
  have hf1 : f = -1 := by omega
  subst hf1
  refine g_aload_n q_X10_digit_10 rfl ?_
  refine g_callV (rc' := 0) (rs' := 0) (As := []) cs_X10_131 q_X10_digit_11 (sp_here hΓ h0 h1 oX h3 hl hp) rfl (by repeat first | with_reducible assumption | with_reducible exact hput_s _ _ _ | refine (hput_n _ _ (by omega)).trans ?_ | exact hput_s _ _ _ | assumption) rfl rfl rfl rfl (Nat.le_of_ble_eq_true rfl) (by decide) (by decide) (by decide) (fun _ _ h => h.elim) (k_ri ?_)
  unfold tnV tnP tnS
  obtain ⟨p1, hp1⟩ : ∃ z, z = avn pBl tx len pos := ⟨_, rfl⟩
  rw [← hp1] at hr1 ⊢
  have hcr := chA_rg oX len p1
  have h1p := tnP_one (tx := tx) p1 hr1.2
  have hx := oX p1
  obtain ⟨τ, hτ⟩ : ∃ τ, τ = hput σ m (mdo m (pI I p1 (-1))) := ⟨_, rfl⟩
  have t0 : τ.2 m = some (mdo m (pI I p1 (-1))) := by rw [hτ]; exact hput_s _ _ _
  have t1 : τ.2 (m + 1) = some (ai 400 tx) := by rw [hτ]; exact (hput_n _ _ (by omega)).trans h1
  have tp : ∀ e, hput τ m e = hput σ m e := fun e => by rw [hτ, hput_hput]
  refine g_eq (σ2 := τ) rfl rfl hτ.symm ?_
  obtain ⟨Q, hQ⟩ : ∃ Q : Option Value → AH → Prop, Q = fun r σ' => ((-1 : Int) ≠ -1 ∧ r = some (.int (ii 0)) ∧ σ' = σ) ∨ ((-1 : Int) = -1 ∧ (if avn pDi tx len p1 = p1 + 1 ∧ tx p1 - 48 < lim then tx p1 - 48 else -1) = -1 ∧ r = some (.int (ii 0)) ∧ σ' = hput σ m (mdo m (pI I p1 p1))) ∨ ((-1 : Int) = -1 ∧ (if avn pDi tx len p1 = p1 + 1 ∧ tx p1 - 48 < lim then tx p1 - 48 else -1) ≠ -1 ∧ r = some (.int (ii (if avn pDi tx len p1 = p1 + 1 ∧ tx p1 - 48 < lim then tx p1 - 48 else -1))) ∧ σ' = hput σ m (mdo m (pI I (avn pDi tx len p1) (-1)))) := ⟨_, rfl⟩
  rw [← hQ]
  have bad : ¬ (avn pDi tx len p1 = p1 + 1 ∧ tx p1 - 48 < lim) → G Γ miX10_digit cX10_digit Q noX 0 0 52 [some (.ref m), some (.int (ii (lim - 1))), some (.int (ii (chA tx len p1)))] [] τ := by
    intro hn
    rw [hQ, if_neg hn]
    refine g_aload_n q_X10_digit_52 rfl ?_
    refine g_callV (rc' := 0) (rs' := 0) (As := []) cs_X10_151 q_X10_digit_53 (sp_mwrong hΓ t0 ⟨by decide, by decide⟩) rfl (by repeat first | with_reducible assumption | with_reducible exact hput_s _ _ _ | refine (hput_n _ _ (by omega)).trans ?_ | exact hput_s _ _ _ | assumption) rfl rfl rfl rfl (Nat.le_of_ble_eq_true rfl) (by decide) (by decide) (by decide) (fun _ _ h => h.elim) (k_rv ?_)
    rw [if_pos rfl, tp]
    refine g_aload_n q_X10_digit_56 rfl ?_
    refine g_get fl_X10_13 q_X10_digit_57 (by repeat first | with_reducible assumption | with_reducible exact hput_s _ _ _ | refine (hput_n _ _ (by omega)).trans ?_ | exact hput_s _ _ _ | assumption) rfl ?_
    refine g_topi (b := (p1 : Int)) (by rfl) ?_
    refine g_iconst q_X10_digit_60 ?_
    refine g_icmp_eq (tgt := 66) q_X10_digit_61 (by decide) ⟨by omega, by omega⟩ ⟨by omega, by omega⟩ (fun b2 => ?_) (fun b2 => ?_)
    · omega
    · refine g_iconst q_X10_digit_64 ?_
      refine g_ireturn q_X10_digit_65.1 rfl ?_
      exact Or.inr (Or.inl ⟨rfl, rfl, rfl, rfl⟩)
  refine g_istore_n (L' := [_, _, _]) q_X10_digit_14 (by decide) rfl ?_
  refine g_iload_n q_X10_digit_15 rfl ?_
  refine g_iconst q_X10_digit_16 ?_
  refine g_icmp_eq (tgt := 52) q_X10_digit_17 (by decide) ⟨by omega, by omega⟩ ⟨by omega, by omega⟩ (fun b2 => ?_) (fun b2 => ?_)
  · refine bad (fun q => ?_)
    have := (h1p.mp q.1).1
    rw [Bool.and_eq_true] at this
    exact (chA_n oX).mp b2 (of_decide_eq_true this.1)
  refine g_aload_n q_X10_digit_20 rfl ?_
  refine g_aload_n q_X10_digit_21 rfl ?_
  refine g_get fl_X10_125 q_X10_digit_22 (by repeat first | with_reducible assumption | with_reducible exact hput_s _ _ _ | refine (hput_n _ _ (by omega)).trans ?_ | exact hput_s _ _ _ | assumption) rfl ?_
  refine g_topi (b := (p1 : Int)) (by rfl) ?_
  refine g_callV (rc' := 0) (rs' := 0) (As := [_]) cs_X10_169 q_X10_digit_25 (sp_isDigit hΓ t0 t1 oX h3 hl p1 (by omega)) rfl (by repeat first | with_reducible assumption | with_reducible exact hput_s _ _ _ | refine (hput_n _ _ (by omega)).trans ?_ | exact hput_s _ _ _ | assumption) rfl rfl rfl rfl (Nat.le_of_ble_eq_true rfl) (by decide) (by decide) (by decide) (fun _ _ h => h.elim) (k_rb ?_)
  refine g_if_eq (tgt := 52) q_X10_digit_28 (by decide) (bi_rg _) (fun b3 => ?_) (fun b3 => ?_)
  · exact bad (fun q => by have := (h1p.mp q.1).1; rw [bi_f b3] at this; cases this)
  refine g_aload_n q_X10_digit_31 rfl ?_
  refine g_aload_n q_X10_digit_32 rfl ?_
  refine g_get fl_X10_125 q_X10_digit_33 (by repeat first | with_reducible assumption | with_reducible exact hput_s _ _ _ | refine (hput_n _ _ (by omega)).trans ?_ | exact hput_s _ _ _ | assumption) rfl ?_
  refine g_topi (b := (p1 : Int)) (by rfl) ?_
  refine g_iconst q_X10_digit_36 ?_
  refine g_iadd q_X10_digit_37 ?_
  refine g_topi (b := ((p1 + 1 : Nat) : Int)) (by omega) ?_
  refine g_callV (rc' := 0) (rs' := 0) (As := [_]) cs_X10_169 q_X10_digit_38 (sp_isDigit hΓ t0 t1 oX h3 hl (p1 + 1) (by omega)) rfl (by repeat first | with_reducible assumption | with_reducible exact hput_s _ _ _ | refine (hput_n _ _ (by omega)).trans ?_ | exact hput_s _ _ _ | assumption) rfl rfl rfl rfl (Nat.le_of_ble_eq_true rfl) (by decide) (by decide) (by decide) (fun _ _ h => h.elim) (k_rb ?_)
  refine g_if_ne (tgt := 52) q_X10_digit_41 (by decide) (bi_rg _) (fun b4 => ?_) (fun b4 => ?_)
  · exact bad (fun q => (h1p.mp q.1).2 (bi_t b4))
  have hd := bi_t b3
  have he := h1p.mpr ⟨hd, by rw [bi_f (show bi (decide (p1 + 1 < len) && pDi (tx (p1 + 1))) = 0 by omega)]; decide⟩
  rw [Bool.and_eq_true] at hd
  have hlt := of_decide_eq_true hd.1
  have hdi := of_decide_eq_true hd.2
  have ec : chA tx len p1 = tx p1 := if_pos hlt
  rw [ec] at bad ⊢
  refine g_iload_n q_X10_digit_44 rfl ?_
  refine g_bipush q_X10_digit_45 bp_48 ?_
  refine g_isub q_X10_digit_47 ?_
  refine g_iload_n q_X10_digit_48 rfl ?_
  refine g_icmp_le (tgt := 56) q_X10_digit_49 (by decide) ⟨by omega, by omega⟩ ⟨by omega, by omega⟩ (fun b5 => ?_) (fun b5 => ?_)
  case refine_2 => exact bad (fun q => by have := q.2; omega)
  have hg : avn pDi tx len p1 = p1 + 1 ∧ tx p1 - 48 < lim := ⟨he, by omega⟩
  rw [hQ, if_pos hg, he]
  clear bad hQ
  refine g_aload_n q_X10_digit_56 rfl ?_
  refine g_get fl_X10_13 q_X10_digit_57 (by repeat first | with_reducible assumption | with_reducible exact hput_s _ _ _ | refine (hput_n _ _ (by omega)).trans ?_ | exact hput_s _ _ _ | assumption) rfl ?_
  refine g_topi (b := (-1 : Int)) (by rfl) ?_
  refine g_iconst q_X10_digit_60 ?_
  refine g_icmp_eq (tgt := 66) q_X10_digit_61 (by decide) ⟨by omega, by omega⟩ ⟨by omega, by omega⟩ (fun b6 => ?_) (fun b6 => ?_)
  case refine_2 => exact absurd rfl b6
  refine g_aload_n q_X10_digit_66 rfl ?_
  refine g_dup q_X10_digit_67 rfl ?_
  refine g_get fl_X10_125 q_X10_digit_68 (by repeat first | with_reducible assumption | with_reducible exact hput_s _ _ _ | refine (hput_n _ _ (by omega)).trans ?_ | exact hput_s _ _ _ | assumption) rfl ?_
  refine g_topi (b := (p1 : Int)) (by rfl) ?_
  refine g_iconst q_X10_digit_71 ?_
  refine g_iadd q_X10_digit_72 ?_
  refine g_topi (b := ((p1 + 1 : Nat) : Int)) (by omega) ?_
  refine g_putM fp_X10_125 q_X10_digit_73 (by repeat first | with_reducible assumption | with_reducible exact hput_s _ _ _ | refine (hput_n _ _ (by omega)).trans ?_ | exact hput_s _ _ _ | assumption) rfl rfl mset_4 ?_
  rw [tp, pI_4]
  refine g_iload_n q_X10_digit_76 rfl ?_
  refine g_bipush q_X10_digit_77 bp_48 ?_
  refine g_isub q_X10_digit_79 ?_
  refine g_ireturn q_X10_digit_80.1 rfl ?_
  exact Or.inr (Or.inr ⟨rfl, by omega, rfl, rfl⟩)
end MDg

