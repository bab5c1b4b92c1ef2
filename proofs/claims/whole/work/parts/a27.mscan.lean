/-! the reference reads: wrong, here, wordSize, is, takes, must, isName, named, isDigit, digit -/
/-- the scalars with the place p and the fault f -/
def pI (I : Nat → Int) (p f : Int) : Nat → Int := va_up (va_up I 4 p) 5 f
theorem pI_4 {I : Nat → Int} {p f v : Int} : va_up (pI I p f) 4 v = pI I v f := by
  funext k
  unfold pI va_up
  by_cases h5 : k = 5
  · rw [if_neg (by omega), if_pos h5, if_pos h5]
  · by_cases h4 : k = 4
    · rw [if_pos h4, if_neg h5, if_pos h4]
    · rw [if_neg h4, if_neg h5, if_neg h4, if_neg h5, if_neg h4]
theorem pI_5 {I : Nat → Int} {p f v : Int} : va_up (pI I p f) 5 v = pI I p v := by
  funext k
  unfold pI va_up
  by_cases h5 : k = 5
  · rw [if_pos h5, if_pos h5]
  · rw [if_neg h5, if_neg h5, if_neg h5]
theorem pI_s {I : Nat → Int} {p f : Int} (h4 : I 4 = p) (h5 : I 5 = f) : pI I p f = I := by
  funext k
  unfold pI va_up
  by_cases e5 : k = 5
  · rw [if_pos e5, e5, h5]
  · rw [if_neg e5]
    by_cases e4 : k = 4
    · rw [if_pos e4, e4, h4]
    · rw [if_neg e4]
/-- the octet at a place; -1: none -/
def chA (tx : Nat → Int) (len p : Nat) : Int := if p < len then tx p else -1
theorem chA_rg {tx : Nat → Int} (oX : okX tx) (len p : Nat) : -1 ≤ chA tx len p ∧ chA tx len p < 256 := by
  unfold chA
  have := oX p
  split <;> omega
theorem chA_n {tx : Nat → Int} (oX : okX tx) {len p : Nat} : chA tx len p = -1 ↔ ¬ p < len := by
  unfold chA
  have := oX p
  split
  · constructor
    · intro q; omega
    · intro q; omega
  · constructor
    · intro _; assumption
    · intro _; rfl
section MSc
variable {Γ : GT} {σ : AH} {m : Nat} {I : Nat → Int} {tx : Nat → Int} {len pos : Nat} {f : Int} {a v n : Nat} {fs : Nat → Int}
theorem sp_mwrong (hΓ : Gd Γ) (h0 : σ.2 m = some (mdo m (pI I pos f))) (hf : rg f) : Sp Γ miX10_wrong 0 0 [.ref m] σ (rv (hput σ m (mdo m (pI I pos (if f = -1 then pos else f))))) noX := by
  refine Sp_of (L := [_]) hΓ (by decide +kernel) rfl (Nat.le_of_ble_eq_true rfl) rfl ?_
  refine g_aload_n q_X10_wrong_0 rfl ?_
  refine g_get fl_X10_13 q_X10_wrong_1 (by repeat first | with_reducible assumption | with_reducible exact hput_s _ _ _ | refine (hput_n _ _ (by omega)).trans ?_ | exact hput_s _ _ _ | assumption) rfl ?_
  refine g_topi (b := f) (by rfl) ?_
  refine g_iconst q_X10_wrong_4 ?_
  refine g_icmp_ne (tgt := 16) q_X10_wrong_5 (by decide) hf ⟨by omega, by omega⟩ (fun b1 => ?_) (fun b1 => ?_)
  · refine g_return q_X10_wrong_16.1 rfl ?_
    rw [if_neg b1, hput_id h0]
    exact ⟨rfl, rfl⟩
  · refine g_aload_n q_X10_wrong_8 rfl ?_
    refine g_aload_n q_X10_wrong_9 rfl ?_
    refine g_get fl_X10_125 q_X10_wrong_10 (by repeat first | with_reducible assumption | with_reducible exact hput_s _ _ _ | refine (hput_n _ _ (by omega)).trans ?_ | exact hput_s _ _ _ | assumption) rfl ?_
    refine g_topi (b := (pos : Int)) (by rfl) ?_
    refine g_putM fp_X10_13 q_X10_wrong_13 (by repeat first | with_reducible assumption | with_reducible exact hput_s _ _ _ | refine (hput_n _ _ (by omega)).trans ?_ | exact hput_s _ _ _ | assumption) rfl rfl mset_5 ?_
    rw [pI_5]
    refine g_return q_X10_wrong_16.1 rfl ?_
    rw [if_pos (by omega)]
    exact ⟨rfl, rfl⟩
theorem sp_here (hΓ : Gd Γ) (h0 : σ.2 m = some (mdo m (pI I pos f))) (h1 : σ.2 (m + 1) = some (ai 400 tx)) (oX : okX tx) (h3 : I 3 = len) (hl : len ≤ 400) (hp : pos ≤ len) : Sp Γ miX10_here 0 0 [.ref m] σ (ri (chA tx len (avn pBl tx len pos)) (hput σ m (mdo m (pI I (avn pBl tx len pos) f)))) noX := by
  refine Sp_of (L := [_]) hΓ (by decide +kernel) rfl (Nat.le_of_ble_eq_true rfl) rfl ?_
  refine g_eq (σ2 := hput σ m (mdo m (pI I pos f))) rfl rfl (hput_id h0).symm ?_
  have hr0 := avn_rg (p := pBl) (tx := tx) hp
  have key : ∀ i : Nat, i ≤ len → avn pBl tx len i = avn pBl tx len pos → G Γ miX10_here cX10_here (ri (chA tx len (avn pBl tx len pos)) (hput σ m (mdo m (pI I (avn pBl tx len pos) f)))) noX 0 0 0 [some (.ref m)] [] (hput σ m (mdo m (pI I i f))) := by
    intro i0 hi0 ha0
    refine g_loop (fun i : Nat => i ≤ len ∧ avn pBl tx len i = avn pBl tx len pos) (fun i : Nat => G Γ miX10_here cX10_here (ri (chA tx len (avn pBl tx len pos)) (hput σ m (mdo m (pI I (avn pBl tx len pos) f)))) noX 0 0 0 [some (.ref m)] [] (hput σ m (mdo m (pI I i f)))) (fun i => len - i) ?_ i0 ⟨hi0, ha0⟩
    rintro i ⟨hi, ha⟩ ih
    have k1 : (hput σ m (mdo m (pI I i f))).2 (m + 1) = some (ai 400 tx) := (hput_n _ _ (by omega)).trans h1
    have hx := oX i
    have out : ¬ (i < len ∧ pBl (tx i) = true) → G Γ miX10_here cX10_here (ri (chA tx len (avn pBl tx len pos)) (hput σ m (mdo m (pI I (avn pBl tx len pos) f)))) noX 0 0 66 [some (.ref m)] [] (hput σ m (mdo m (pI I i f))) := by
      intro hn
      rw [avn_no hn] at ha
      rw [← ha]
      refine g_aload_n q_X10_here_66 rfl ?_
      refine g_get fl_X10_125 q_X10_here_67 (by repeat first | with_reducible assumption | with_reducible exact hput_s _ _ _ | refine (hput_n _ _ (by omega)).trans ?_ | exact hput_s _ _ _ | assumption) rfl ?_
      refine g_topi (b := (i : Int)) (by rfl) ?_
      refine g_aload_n q_X10_here_70 rfl ?_
      refine g_get fl_X10_128 q_X10_here_71 (by repeat first | with_reducible assumption | with_reducible exact hput_s _ _ _ | refine (hput_n _ _ (by omega)).trans ?_ | exact hput_s _ _ _ | assumption) rfl ?_
      refine g_topi (b := (len : Int)) (by exact h3) ?_
      refine g_icmp_ge (tgt := 89) q_X10_here_74 (by decide) ⟨by omega, by omega⟩ ⟨by omega, by omega⟩ (fun b1 => ?_) (fun b1 => ?_)
      · refine g_iconst q_X10_here_89 ?_
        refine g_ireturn q_X10_here_90.1 rfl ?_
        unfold chA
        rw [if_neg (by omega)]
        exact ⟨rfl, rfl⟩
      · refine g_aload_n q_X10_here_77 rfl ?_
        refine g_get fl_X10_7 q_X10_here_78 (by repeat first | with_reducible assumption | with_reducible exact hput_s _ _ _ | refine (hput_n _ _ (by omega)).trans ?_ | exact hput_s _ _ _ | assumption) rfl ?_
        refine g_aload_n q_X10_here_81 rfl ?_
        refine g_get fl_X10_125 q_X10_here_82 (by repeat first | with_reducible assumption | with_reducible exact hput_s _ _ _ | refine (hput_n _ _ (by omega)).trans ?_ | exact hput_s _ _ _ | assumption) rfl ?_
        refine g_topi (b := (i : Int)) (by rfl) ?_
        refine g_iaload q_X10_here_85 (by repeat first | with_reducible assumption | with_reducible exact hput_s _ _ _ | refine (hput_n _ _ (by omega)).trans ?_ | exact hput_s _ _ _ | assumption) (by omega) (by omega) ?_
        refine g_topi (b := tx i) (by rfl) ?_
        refine g_goto (tgt := 90) q_X10_here_86 (by decide) ?_
        refine g_ireturn q_X10_here_90.1 rfl ?_
        unfold chA
        rw [if_pos (by omega)]
        exact ⟨rfl, rfl⟩
    have go : i < len → pBl (tx i) = true → G Γ miX10_here cX10_here (ri (chA tx len (avn pBl tx len pos)) (hput σ m (mdo m (pI I (avn pBl tx len pos) f)))) noX 0 0 53 [some (.ref m)] [] (hput σ m (mdo m (pI I i f))) := by
      intro hi2 hb
      have hnx := ih (i + 1) ⟨by omega, by rw [← avn_go hi2 hb]; exact ha⟩ (by omega)
      refine g_aload_n q_X10_here_53 rfl ?_
      refine g_dup q_X10_here_54 rfl ?_
      refine g_get fl_X10_125 q_X10_here_55 (by repeat first | with_reducible assumption | with_reducible exact hput_s _ _ _ | refine (hput_n _ _ (by omega)).trans ?_ | exact hput_s _ _ _ | assumption) rfl ?_
      refine g_topi (b := (i : Int)) (by rfl) ?_
      refine g_iconst q_X10_here_58 ?_
      refine g_iadd q_X10_here_59 ?_
      refine g_topi (b := ((i + 1 : Nat) : Int)) (by omega) ?_
      refine g_putM fp_X10_125 q_X10_here_60 (by repeat first | with_reducible assumption | with_reducible exact hput_s _ _ _ | refine (hput_n _ _ (by omega)).trans ?_ | exact hput_s _ _ _ | assumption) rfl rfl mset_4 ?_
      rw [hput_hput, pI_4]
      refine g_goto (tgt := 0) q_X10_here_63 (by decide) ?_
      exact hnx
    refine g_aload_n q_X10_here_0 rfl ?_
    refine g_get fl_X10_125 q_X10_here_1 (by repeat first | with_reducible assumption | with_reducible exact hput_s _ _ _ | refine (hput_n _ _ (by omega)).trans ?_ | exact hput_s _ _ _ | assumption) rfl ?_
    refine g_topi (b := (i : Int)) (by rfl) ?_
    refine g_aload_n q_X10_here_4 rfl ?_
    refine g_get fl_X10_128 q_X10_here_5 (by repeat first | with_reducible assumption | with_reducible exact hput_s _ _ _ | refine (hput_n _ _ (by omega)).trans ?_ | exact hput_s _ _ _ | assumption) rfl ?_
    refine g_topi (b := (len : Int)) (by exact h3) ?_
    refine g_icmp_ge (tgt := 66) q_X10_here_8 (by decide) ⟨by omega, by omega⟩ ⟨by omega, by omega⟩ (fun b1 => ?_) (fun b1 => ?_)
    · exact out (fun q => by omega)
    refine g_aload_n q_X10_here_11 rfl ?_
    refine g_get fl_X10_7 q_X10_here_12 (by repeat first | with_reducible assumption | with_reducible exact hput_s _ _ _ | refine (hput_n _ _ (by omega)).trans ?_ | exact hput_s _ _ _ | assumption) rfl ?_
    refine g_aload_n q_X10_here_15 rfl ?_
    refine g_get fl_X10_125 q_X10_here_16 (by repeat first | with_reducible assumption | with_reducible exact hput_s _ _ _ | refine (hput_n _ _ (by omega)).trans ?_ | exact hput_s _ _ _ | assumption) rfl ?_
    refine g_topi (b := (i : Int)) (by rfl) ?_
    refine g_iaload q_X10_here_19 (by repeat first | with_reducible assumption | with_reducible exact hput_s _ _ _ | refine (hput_n _ _ (by omega)).trans ?_ | exact hput_s _ _ _ | assumption) (by omega) (by omega) ?_
    refine g_topi (b := tx i) (by rfl) ?_
    refine g_bipush q_X10_here_20 bp_32 ?_
    refine g_icmp_eq (tgt := 53) q_X10_here_22 (by decide) ⟨by omega, by omega⟩ ⟨by omega, by omega⟩ (fun b2 => ?_) (fun b2 => ?_)
    · exact go (by omega) (decide_eq_true (by omega))
    refine g_aload_n q_X10_here_25 rfl ?_
    refine g_get fl_X10_7 q_X10_here_26 (by repeat first | with_reducible assumption | with_reducible exact hput_s _ _ _ | refine (hput_n _ _ (by omega)).trans ?_ | exact hput_s _ _ _ | assumption) rfl ?_
    refine g_aload_n q_X10_here_29 rfl ?_
    refine g_get fl_X10_125 q_X10_here_30 (by repeat first | with_reducible assumption | with_reducible exact hput_s _ _ _ | refine (hput_n _ _ (by omega)).trans ?_ | exact hput_s _ _ _ | assumption) rfl ?_
    refine g_topi (b := (i : Int)) (by rfl) ?_
    refine g_iaload q_X10_here_33 (by repeat first | with_reducible assumption | with_reducible exact hput_s _ _ _ | refine (hput_n _ _ (by omega)).trans ?_ | exact hput_s _ _ _ | assumption) (by omega) (by omega) ?_
    refine g_topi (b := tx i) (by rfl) ?_
    refine g_bipush q_X10_here_34 bp_9 ?_
    refine g_icmp_eq (tgt := 53) q_X10_here_36 (by decide) ⟨by omega, by omega⟩ ⟨by omega, by omega⟩ (fun b3 => ?_) (fun b3 => ?_)
    · exact go (by omega) (decide_eq_true (by omega))
    refine g_aload_n q_X10_here_39 rfl ?_
    refine g_get fl_X10_7 q_X10_here_40 (by repeat first | with_reducible assumption | with_reducible exact hput_s _ _ _ | refine (hput_n _ _ (by omega)).trans ?_ | exact hput_s _ _ _ | assumption) rfl ?_
    refine g_aload_n q_X10_here_43 rfl ?_
    refine g_get fl_X10_125 q_X10_here_44 (by repeat first | with_reducible assumption | with_reducible exact hput_s _ _ _ | refine (hput_n _ _ (by omega)).trans ?_ | exact hput_s _ _ _ | assumption) rfl ?_
    refine g_topi (b := (i : Int)) (by rfl) ?_
    refine g_iaload q_X10_here_47 (by repeat first | with_reducible assumption | with_reducible exact hput_s _ _ _ | refine (hput_n _ _ (by omega)).trans ?_ | exact hput_s _ _ _ | assumption) (by omega) (by omega) ?_
    refine g_topi (b := tx i) (by rfl) ?_
    refine g_bipush q_X10_here_48 bp_10 ?_
    refine g_icmp_ne (tgt := 66) q_X10_here_50 (by decide) ⟨by omega, by omega⟩ ⟨by omega, by omega⟩ (fun b4 => ?_) (fun b4 => ?_)
    · exact out (fun q => by have := of_decide_eq_true q.2; omega)
    · exact go (by omega) (decide_eq_true (by omega))
  exact key pos hp rfl
theorem sp_wordSize (hΓ : Gd Γ) (h0 : σ.2 m = some (mdo m (pI I pos f))) (h1 : σ.2 (m + 1) = some (ai 400 tx)) (oX : okX tx) (h3 : I 3 = len) (hl : len ≤ 400) (hp : pos ≤ len) : Sp Γ miX10_wordSize 0 0 [.ref m] σ (ri ((avn pLe tx len (avn pBl tx len pos) - avn pBl tx len pos : Nat) : Int) (hput σ m (mdo m (pI I (avn pBl tx len pos) f)))) noX := by
  have hr1 := avn_rg (p := pBl) (tx := tx) hp
  have hr2 := avn_rg (p := pLe) (tx := tx) hr1.2
  refine Sp_of (L := [_, _, _]) hΓ (by decide +kernel) rfl (Nat.le_of_ble_eq_true rfl) rfl ?_
  refine g_aload_n q_X10_wordSize_0 rfl ?_
  refine g_callV (rc' := 0) (rs' := 0) (As := []) cs_X10_131 q_X10_wordSize_1 (sp_here hΓ h0 h1 oX h3 hl hp) rfl (by repeat first | with_reducible assumption | with_reducible exact hput_s _ _ _ | refine (hput_n _ _ (by omega)).trans ?_ | exact hput_s _ _ _ | assumption) rfl rfl rfl rfl (Nat.le_of_ble_eq_true rfl) (by decide) (by decide) (by decide) (fun _ _ h => h.elim) (k_ri ?_)
  obtain ⟨p1, hp1⟩ : ∃ z, z = avn pBl tx len pos := ⟨_, rfl⟩
  rw [← hp1] at hr1 hr2 ⊢
  have k1 : (hput σ m (mdo m (pI I p1 f))).2 (m + 1) = some (ai 400 tx) := (hput_n _ _ (by omega)).trans h1
  have hcr := chA_rg oX len p1
  refine g_istore_n (L' := [_, _, _]) q_X10_wordSize_4 (by decide) rfl ?_
  refine g_aload_n q_X10_wordSize_5 rfl ?_
  refine g_get fl_X10_125 q_X10_wordSize_6 (by repeat first | with_reducible assumption | with_reducible exact hput_s _ _ _ | refine (hput_n _ _ (by omega)).trans ?_ | exact hput_s _ _ _ | assumption) rfl ?_
  refine g_topi (b := (p1 : Int)) (by rfl) ?_
  refine g_istore_n (L' := [_, _, _]) q_X10_wordSize_9 (by decide) rfl ?_
  refine g_loop (fun i : Nat => p1 ≤ i ∧ i ≤ len ∧ avn pLe tx len i = avn pLe tx len p1) (fun i : Nat => G Γ miX10_wordSize cX10_wordSize (ri ((avn pLe tx len p1 - p1 : Nat) : Int) (hput σ m (mdo m (pI I p1 f)))) noX 0 0 10 [some (.ref m), some (.int (ii (chA tx len p1))), some (.int (ii i))] [] (hput σ m (mdo m (pI I p1 f)))) (fun i => len - i) ?_ p1 ⟨Nat.le_refl _, hr1.2, rfl⟩
  rintro i ⟨hi1, hi, ha⟩ ih
  have hx := oX i
  have out : ¬ (i < len ∧ pLe (tx i) = true) → G Γ miX10_wordSize cX10_wordSize (ri ((avn pLe tx len p1 - p1 : Nat) : Int) (hput σ m (mdo m (pI I p1 f)))) noX 0 0 51 [some (.ref m), some (.int (ii (chA tx len p1))), some (.int (ii i))] [] (hput σ m (mdo m (pI I p1 f))) := by
    intro hn
    rw [avn_no hn] at ha
    rw [← ha]
    refine g_iload_n q_X10_wordSize_51 rfl ?_
    refine g_aload_n q_X10_wordSize_52 rfl ?_
    refine g_get fl_X10_125 q_X10_wordSize_53 (by repeat first | with_reducible assumption | with_reducible exact hput_s _ _ _ | refine (hput_n _ _ (by omega)).trans ?_ | exact hput_s _ _ _ | assumption) rfl ?_
    refine g_topi (b := (p1 : Int)) (by rfl) ?_
    refine g_isub q_X10_wordSize_56 ?_
    refine g_topi (b := ((i - p1 : Nat) : Int)) (by omega) ?_
    refine g_ireturn q_X10_wordSize_57.1 rfl ?_
    exact ⟨rfl, rfl⟩
  refine g_iload_n q_X10_wordSize_10 rfl ?_
  refine g_iconst q_X10_wordSize_11 ?_
  refine g_icmp_eq (tgt := 51) q_X10_wordSize_12 (by decide) ⟨by omega, by omega⟩ ⟨by omega, by omega⟩ (fun b0 => ?_) (fun b0 => ?_)
  · exact out (fun q => (chA_n oX).mp b0 (by omega))
  refine g_iload_n q_X10_wordSize_15 rfl ?_
  refine g_aload_n q_X10_wordSize_16 rfl ?_
  refine g_get fl_X10_128 q_X10_wordSize_17 (by repeat first | with_reducible assumption | with_reducible exact hput_s _ _ _ | refine (hput_n _ _ (by omega)).trans ?_ | exact hput_s _ _ _ | assumption) rfl ?_
  refine g_topi (b := (len : Int)) (by exact h3) ?_
  refine g_icmp_ge (tgt := 51) q_X10_wordSize_20 (by decide) ⟨by omega, by omega⟩ ⟨by omega, by omega⟩ (fun b1 => ?_) (fun b1 => ?_)
  · exact out (fun q => by omega)
  refine g_aload_n q_X10_wordSize_23 rfl ?_
  refine g_get fl_X10_7 q_X10_wordSize_24 (by repeat first | with_reducible assumption | with_reducible exact hput_s _ _ _ | refine (hput_n _ _ (by omega)).trans ?_ | exact hput_s _ _ _ | assumption) rfl ?_
  refine g_iload_n q_X10_wordSize_27 rfl ?_
  refine g_iaload q_X10_wordSize_28 (by repeat first | with_reducible assumption | with_reducible exact hput_s _ _ _ | refine (hput_n _ _ (by omega)).trans ?_ | exact hput_s _ _ _ | assumption) (by omega) (by omega) ?_
  refine g_topi (b := tx i) (by rfl) ?_
  refine g_bipush q_X10_wordSize_29 bp_97 ?_
  refine g_icmp_lt (tgt := 51) q_X10_wordSize_31 (by decide) ⟨by omega, by omega⟩ ⟨by omega, by omega⟩ (fun b2 => ?_) (fun b2 => ?_)
  · exact out (fun q => by have := of_decide_eq_true q.2; omega)
  refine g_aload_n q_X10_wordSize_34 rfl ?_
  refine g_get fl_X10_7 q_X10_wordSize_35 (by repeat first | with_reducible assumption | with_reducible exact hput_s _ _ _ | refine (hput_n _ _ (by omega)).trans ?_ | exact hput_s _ _ _ | assumption) rfl ?_
  refine g_iload_n q_X10_wordSize_38 rfl ?_
  refine g_iaload q_X10_wordSize_39 (by repeat first | with_reducible assumption | with_reducible exact hput_s _ _ _ | refine (hput_n _ _ (by omega)).trans ?_ | exact hput_s _ _ _ | assumption) (by omega) (by omega) ?_
  refine g_topi (b := tx i) (by rfl) ?_
  refine g_bipush q_X10_wordSize_40 bp_122 ?_
  refine g_icmp_gt (tgt := 51) q_X10_wordSize_42 (by decide) ⟨by omega, by omega⟩ ⟨by omega, by omega⟩ (fun b3 => ?_) (fun b3 => ?_)
  · exact out (fun q => by have := of_decide_eq_true q.2; omega)
  have hnx := ih (i + 1) ⟨by omega, by omega, by rw [← avn_go (by omega) (decide_eq_true (by omega))]; exact ha⟩ (by omega)
  refine g_iinc (L' := [_, _, _]) q_X10_wordSize_45 rfl rfl ?_
  refine g_goto (tgt := 10) q_X10_wordSize_48 (by decide) ?_
  exact hnx
theorem sp_mis (hΓ : Gd Γ) (h0 : σ.2 m = some (mdo m (pI I pos f))) (h1 : σ.2 (m + 1) = some (ai 400 tx)) (oX : okX tx) (h3 : I 3 = len) (hl : len ≤ 400) (hp : pos ≤ len) (hs : ST Γ a v n fs) (hf : ∀ j, j < n → 0 ≤ fs j ∧ fs j < 128) (hn : n < 8) : Sp Γ miX10_is 0 0 [.ref m, .ref a] σ (rb (isW tx (avn pBl tx len pos) (avn pLe tx len (avn pBl tx len pos)) n fs) (hput σ m (mdo m (pI I (avn pBl tx len pos) f)))) noX := by
  have hr1 := avn_rg (p := pBl) (tx := tx) hp
  have hr2 := avn_rg (p := pLe) (tx := tx) hr1.2
  refine Sp_of (L := [_, _, _]) hΓ (by decide +kernel) rfl (Nat.le_of_ble_eq_true rfl) rfl ?_
  refine g_aload_n q_X10_is_0 rfl ?_
  refine g_callV (rc' := 0) (rs' := 0) (As := []) cs_X10_135 q_X10_is_1 (sp_wordSize hΓ h0 h1 oX h3 hl hp) rfl (by repeat first | with_reducible assumption | with_reducible exact hput_s _ _ _ | refine (hput_n _ _ (by omega)).trans ?_ | exact hput_s _ _ _ | assumption) rfl rfl rfl rfl (Nat.le_of_ble_eq_true rfl) (by decide) (by decide) (by decide) (fun _ _ h => h.elim) (k_ri ?_)
  obtain ⟨p1, hp1⟩ : ∃ z, z = avn pBl tx len pos := ⟨_, rfl⟩
  rw [← hp1] at hr1 hr2 ⊢
  obtain ⟨p2, hp2⟩ : ∃ z, z = avn pLe tx len p1 := ⟨_, rfl⟩
  rw [← hp2] at hr2 ⊢
  have k0 : (hput σ m (mdo m (pI I p1 f))).2 m = some (mdo m (pI I p1 f)) := hput_s _ _ _
  have k1 : (hput σ m (mdo m (pI I p1 f))).2 (m + 1) = some (ai 400 tx) := (hput_n _ _ (by omega)).trans h1
  refine g_aload_n q_X10_is_4 rfl ?_
  refine g_callVS (rc' := 0) (rs' := 0) (As := []) cs_X10_138 q_X10_is_5 (sp_length hΓ hs hn) rfl hs.1 rfl rfl (Nat.le_of_ble_eq_true rfl) (by decide) (by decide) (by decide) (fun _ _ h => h.elim) (k_ri ?_)
  refine g_icmp_eq (tgt := 13) q_X10_is_8 (by decide) ⟨by omega, by omega⟩ ⟨by omega, by omega⟩ (fun e1 => ?_) (fun e1 => ?_)
  · refine g_iconst q_X10_is_13 ?_
    refine g_istore_n (L' := [_, _, _]) q_X10_is_14 (by decide) rfl ?_
    refine g_loop (fun k => k ≤ n ∧ ∀ i, i < k → tx (p1 + i) = fs i) (fun k : Nat => G Γ _ cX10_is _ _ 0 0 15 [some (.ref m), some (.ref a), some (.int (ii k))] [] (hput σ m (mdo m (pI I p1 f)))) (fun k => n - k) ?_ 0 ⟨Nat.zero_le _, fun i hi => absurd hi (Nat.not_lt_zero i)⟩
    intro k ⟨hk, heq⟩ ih
    refine g_iload_n q_X10_is_15 rfl ?_
    refine g_aload_n q_X10_is_16 rfl ?_
    refine g_callVS (rc' := 0) (rs' := 0) (As := []) cs_X10_138 q_X10_is_17 (sp_length hΓ hs hn) rfl hs.1 rfl rfl (Nat.le_of_ble_eq_true rfl) (by decide) (by decide) (by decide) (fun _ _ h => h.elim) (k_ri ?_)
    refine g_icmp_ge (tgt := 50) q_X10_is_20 (by decide) ⟨by omega, by omega⟩ ⟨by omega, by omega⟩ (fun e2 => ?_) (fun e2 => ?_)
    · have e : k = n := by omega
      subst e
      rw [show isW tx p1 p2 k fs = true from decide_eq_true ⟨by omega, heq⟩]
      refine g_iconst q_X10_is_50 ?_
      refine g_zreturn q_X10_is_51.1 rfl (by first | exact Or.inl rfl | exact Or.inr rfl | omega) ?_
      exact ⟨rfl, rfl⟩
    have hx := oX (p1 + k)
    have hfk := hf k (by omega)
    refine g_aload_n q_X10_is_23 rfl ?_
    refine g_get fl_X10_7 q_X10_is_24 (by repeat first | with_reducible assumption | with_reducible exact hput_s _ _ _ | refine (hput_n _ _ (by omega)).trans ?_ | exact hput_s _ _ _ | assumption) rfl ?_
    refine g_aload_n q_X10_is_27 rfl ?_
    refine g_get fl_X10_125 q_X10_is_28 (by repeat first | with_reducible assumption | with_reducible exact hput_s _ _ _ | refine (hput_n _ _ (by omega)).trans ?_ | exact hput_s _ _ _ | assumption) rfl ?_
    refine g_topi (b := (p1 : Int)) (by rfl) ?_
    refine g_iload_n q_X10_is_31 rfl ?_
    refine g_iadd q_X10_is_32 ?_
    refine g_topi (b := ((p1 + k : Nat) : Int)) (by omega) ?_
    refine g_iaload q_X10_is_33 (by repeat first | with_reducible assumption | with_reducible exact hput_s _ _ _ | refine (hput_n _ _ (by omega)).trans ?_ | exact hput_s _ _ _ | assumption) (by omega) (by omega) ?_
    refine g_topi (b := tx (p1 + k)) (by rfl) ?_
    refine g_aload_n q_X10_is_34 rfl ?_
    refine g_iload_n q_X10_is_35 rfl ?_
    refine g_callVS (rc' := 0) (rs' := 0) (As := [_]) cs_X10_143 q_X10_is_36 (sp_charAt hΓ hs hf k (by omega) hn) rfl hs.1 rfl rfl (Nat.le_of_ble_eq_true rfl) (by decide) (by decide) (by decide) (fun _ _ h => h.elim) (k_ri ?_)
    refine g_icmp_eq (tgt := 44) q_X10_is_39 (by decide) ⟨by omega, by omega⟩ ⟨by omega, by omega⟩ (fun e3 => ?_) (fun e3 => ?_)
    · refine g_iinc (L' := [_, _, _]) q_X10_is_44 rfl rfl ?_
      refine g_goto (tgt := 15) q_X10_is_47 (by decide) ?_
      refine ih (k + 1) ⟨by omega, fun i hi => ?_⟩ (by omega)
      by_cases q : i = k
      · rw [q]; exact e3
      · exact heq i (by omega)
    · rw [show isW tx p1 p2 n fs = false from decide_eq_false (fun q => e3 (q.2 k (by omega)))]
      refine g_iconst q_X10_is_42 ?_
      refine g_zreturn q_X10_is_43.1 rfl (by first | exact Or.inl rfl | exact Or.inr rfl | omega) ?_
      exact ⟨rfl, rfl⟩
  · rw [show isW tx p1 p2 n fs = false from decide_eq_false (fun q => e1 (by have := q.1; omega))]
    refine g_iconst q_X10_is_11 ?_
    refine g_zreturn q_X10_is_12.1 rfl (by first | exact Or.inl rfl | exact Or.inr rfl | omega) ?_
    exact ⟨rfl, rfl⟩
theorem sp_takes (hΓ : Gd Γ) (h0 : σ.2 m = some (mdo m (pI I pos f))) (h1 : σ.2 (m + 1) = some (ai 400 tx)) (oX : okX tx) (h3 : I 3 = len) (hl : len ≤ 400) (hp : pos ≤ len) (hfr : rg f) (hs : ST Γ a v n fs) (hf : ∀ j, j < n → 0 ≤ fs j ∧ fs j < 128) (hn : n < 8) : Sp Γ miX10_takes 0 0 [.ref m, .ref a] σ (fun r σ' => (f ≠ -1 ∧ r = some (.int (ii (bi false))) ∧ σ' = σ) ∨ (f = -1 ∧ r = some (.int (ii (bi (isW tx (avn pBl tx len pos) (avn pLe tx len (avn pBl tx len pos)) n fs)))) ∧ σ' = hput σ m (mdo m (pI I (if isW tx (avn pBl tx len pos) (avn pLe tx len (avn pBl tx len pos)) n fs = true then ((avn pLe tx len (avn pBl tx len pos) : Nat) : Int) else ((avn pBl tx len pos : Nat) : Int)) f)))) noX := by
  have hr1 := avn_rg (p := pBl) (tx := tx) hp
  have hr2 := avn_rg (p := pLe) (tx := tx) hr1.2
  refine Sp_of (L := [_, _]) hΓ (by decide +kernel) rfl (Nat.le_of_ble_eq_true rfl) rfl ?_
  refine g_aload_n q_X10_takes_0 rfl ?_
  refine g_get fl_X10_13 q_X10_takes_1 (by repeat first | with_reducible assumption | with_reducible exact hput_s _ _ _ | refine (hput_n _ _ (by omega)).trans ?_ | exact hput_s _ _ _ | assumption) rfl ?_
  refine g_topi (b := f) (by rfl) ?_
  refine g_iconst q_X10_takes_4 ?_
  refine g_icmp_ne (tgt := 16) q_X10_takes_5 (by decide) hfr ⟨by omega, by omega⟩ (fun b1 => ?_) (fun b1 => ?_)
  · refine g_iconst q_X10_takes_16 ?_
    refine g_zreturn q_X10_takes_17.1 rfl (by first | exact Or.inl rfl | exact Or.inr rfl | omega) ?_
    exact Or.inl ⟨b1, rfl, rfl⟩
  have hf1 : f = -1 := by omega
  refine g_aload_n q_X10_takes_8 rfl ?_
  refine g_aload_n q_X10_takes_9 rfl ?_
  refine g_callV (rc' := 0) (rs' := 0) (As := [_]) cs_X10_147 q_X10_takes_10 (sp_mis hΓ h0 h1 oX h3 hl hp hs hf hn) rfl (by repeat first | with_reducible assumption | with_reducible exact hput_s _ _ _ | refine (hput_n _ _ (by omega)).trans ?_ | exact hput_s _ _ _ | assumption) rfl rfl rfl rfl (Nat.le_of_ble_eq_true rfl) (by decide) (by decide) (by decide) (fun _ _ h => h.elim) (k_rb ?_)
  obtain ⟨p1, hp1⟩ : ∃ z, z = avn pBl tx len pos := ⟨_, rfl⟩
  rw [← hp1] at hr1 hr2 ⊢
  obtain ⟨p2, hp2⟩ : ∃ z, z = avn pLe tx len p1 := ⟨_, rfl⟩
  rw [← hp2] at hr2 ⊢
  refine g_if_ne (tgt := 18) q_X10_takes_13 (by decide) (bi_rg _) (fun b2 => ?_) (fun b2 => ?_)
  · have hw := bi_t b2
    have hw1 := (of_decide_eq_true hw).1
    refine g_aload_n q_X10_takes_18 rfl ?_
    refine g_dup q_X10_takes_19 rfl ?_
    refine g_get fl_X10_125 q_X10_takes_20 (by repeat first | with_reducible assumption | with_reducible exact hput_s _ _ _ | refine (hput_n _ _ (by omega)).trans ?_ | exact hput_s _ _ _ | assumption) rfl ?_
    refine g_topi (b := (p1 : Int)) (by rfl) ?_
    refine g_aload_n q_X10_takes_23 rfl ?_
    refine g_callVS (rc' := 0) (rs' := 0) (As := []) cs_X10_138 q_X10_takes_24 (sp_length hΓ hs hn) rfl hs.1 rfl rfl (Nat.le_of_ble_eq_true rfl) (by decide) (by decide) (by decide) (fun _ _ h => h.elim) (k_ri ?_)
    refine g_iadd q_X10_takes_27 ?_
    refine g_topi (b := (p2 : Int)) (by omega) ?_
    refine g_putM fp_X10_125 q_X10_takes_28 (by repeat first | with_reducible assumption | with_reducible exact hput_s _ _ _ | refine (hput_n _ _ (by omega)).trans ?_ | exact hput_s _ _ _ | assumption) rfl rfl mset_4 ?_
    rw [hput_hput, pI_4]
    refine g_iconst q_X10_takes_31 ?_
    refine g_zreturn q_X10_takes_32.1 rfl (by first | exact Or.inl rfl | exact Or.inr rfl | omega) ?_
    refine Or.inr ⟨hf1, by rw [hw]; rfl, ?_⟩
    rw [if_pos hw]
  · have hw := bi_f (show bi (isW tx p1 p2 n fs) = 0 by omega)
    refine g_iconst q_X10_takes_16 ?_
    refine g_zreturn q_X10_takes_17.1 rfl (by first | exact Or.inl rfl | exact Or.inr rfl | omega) ?_
    refine Or.inr ⟨hf1, by rw [hw]; rfl, ?_⟩
    rw [hw, if_neg Bool.false_ne_true]
theorem sp_must (hΓ : Gd Γ) (h0 : σ.2 m = some (mdo m (pI I pos f))) (h1 : σ.2 (m + 1) = some (ai 400 tx)) (oX : okX tx) (h3 : I 3 = len) (hl : len ≤ 400) (hp : pos ≤ len) (hfr : rg f) : Sp Γ miX10_must 0 0 [.ref m, .int (ii 59)] σ (fun r σ' => r = none ∧ ((f ≠ -1 ∧ σ' = σ) ∨ (f = -1 ∧ σ' = hput σ m (mdo m (if avn pBl tx len pos < len ∧ tx (avn pBl tx len pos) = 59 then pI I ((avn pBl tx len pos + 1 : Nat) : Int) f else pI I (avn pBl tx len pos) ((avn pBl tx len pos : Nat) : Int)))))) noX := by
  have hr1 := avn_rg (p := pBl) (tx := tx) hp
  refine Sp_of (L := [_, _]) hΓ (by decide +kernel) rfl (Nat.le_of_ble_eq_true rfl) rfl ?_
  refine g_aload_n q_X10_must_0 rfl ?_
  refine g_get fl_X10_13 q_X10_must_1 (by repeat first | with_reducible assumption | with_reducible exact hput_s _ _ _ | refine (hput_n _ _ (by omega)).trans ?_ | exact hput_s _ _ _ | assumption) rfl ?_
  refine g_topi (b := f) (by rfl) ?_
  refine g_iconst q_X10_must_4 ?_
  refine g_icmp_eq (tgt := 9) q_X10_must_5 (by decide) hfr ⟨by omega, by omega⟩ (fun b1 => ?_) (fun b1 => ?_)
  case refine_2 =>
    refine g_return q_X10_must_8.1 rfl ?_
    exact ⟨rfl, Or.inl ⟨b1, rfl⟩⟩
  have hf1 : f = -1 := by omega
  refine g_aload_n q_X10_must_9 rfl ?_
  refine g_callV (rc' := 0) (rs' := 0) (As := []) cs_X10_131 q_X10_must_10 (sp_here hΓ h0 h1 oX h3 hl hp) rfl (by repeat first | with_reducible assumption | with_reducible exact hput_s _ _ _ | refine (hput_n _ _ (by omega)).trans ?_ | exact hput_s _ _ _ | assumption) rfl rfl rfl rfl (Nat.le_of_ble_eq_true rfl) (by decide) (by decide) (by decide) (fun _ _ h => h.elim) (k_ri ?_)
  obtain ⟨p1, hp1⟩ : ∃ z, z = avn pBl tx len pos := ⟨_, rfl⟩
  rw [← hp1] at hr1 ⊢
  have hcr := chA_rg oX len p1
  have k0 : (hput σ m (mdo m (pI I p1 f))).2 m = some (mdo m (pI I p1 f)) := hput_s _ _ _
  refine g_iload_n q_X10_must_13 rfl ?_
  refine g_icmp_ne (tgt := 30) q_X10_must_14 (by decide) ⟨by omega, by omega⟩ ⟨by omega, by omega⟩ (fun b2 => ?_) (fun b2 => ?_)
  · refine g_aload_n q_X10_must_30 rfl ?_
    refine g_callV (rc' := 0) (rs' := 0) (As := []) cs_X10_151 q_X10_must_31 (sp_mwrong hΓ k0 hfr) rfl (by repeat first | with_reducible assumption | with_reducible exact hput_s _ _ _ | refine (hput_n _ _ (by omega)).trans ?_ | exact hput_s _ _ _ | assumption) rfl rfl rfl rfl (Nat.le_of_ble_eq_true rfl) (by decide) (by decide) (by decide) (fun _ _ h => h.elim) (k_rv ?_)
    refine g_return q_X10_must_34.1 rfl ?_
    rw [hput_hput, if_pos hf1, if_neg (fun q => b2 (by unfold chA; rw [if_pos q.1]; exact q.2))]
    exact ⟨rfl, Or.inr ⟨hf1, rfl⟩⟩
  · have hp1l : p1 < len := Classical.byContradiction fun q => by
      have := (chA_n oX (tx := tx) (len := len) (p := p1)).mpr q
      omega
    have ht : tx p1 = 59 := by
      have : chA tx len p1 = tx p1 := by unfold chA; rw [if_pos hp1l]
      omega
    refine g_aload_n q_X10_must_17 rfl ?_
    refine g_dup q_X10_must_18 rfl ?_
    refine g_get fl_X10_125 q_X10_must_19 (by repeat first | with_reducible assumption | with_reducible exact hput_s _ _ _ | refine (hput_n _ _ (by omega)).trans ?_ | exact hput_s _ _ _ | assumption) rfl ?_
    refine g_topi (b := (p1 : Int)) (by rfl) ?_
    refine g_iconst q_X10_must_22 ?_
    refine g_iadd q_X10_must_23 ?_
    refine g_topi (b := ((p1 + 1 : Nat) : Int)) (by omega) ?_
    refine g_putM fp_X10_125 q_X10_must_24 (by repeat first | with_reducible assumption | with_reducible exact hput_s _ _ _ | refine (hput_n _ _ (by omega)).trans ?_ | exact hput_s _ _ _ | assumption) rfl rfl mset_4 ?_
    refine g_goto (tgt := 34) q_X10_must_27 (by decide) ?_
    rw [hput_hput, pI_4]
    refine g_return q_X10_must_34.1 rfl ?_
    rw [if_pos ⟨hp1l, ht⟩]
    exact ⟨rfl, Or.inr ⟨hf1, rfl⟩⟩
theorem sp_isName (hΓ : Gd Γ) (h0 : σ.2 m = some (mdo m (pI I pos f))) (h1 : σ.2 (m + 1) = some (ai 400 tx)) (oX : okX tx) (h3 : I 3 = len) (hl : len ≤ 400) (hp : pos ≤ len) : Sp Γ miX10_isName 0 0 [.ref m] σ (rb (decide (1 ≤ avn pLe tx len (avn pBl tx len pos) - avn pBl tx len pos ∧ avn pLe tx len (avn pBl tx len pos) - avn pBl tx len pos ≤ 6) && !rsW tx (avn pBl tx len pos) (avn pLe tx len (avn pBl tx len pos))) (hput σ m (mdo m (pI I (avn pBl tx len pos) f)))) noX := by
  have hr1 := avn_rg (p := pBl) (tx := tx) hp
  have hr2 := avn_rg (p := pLe) (tx := tx) hr1.2
  have hid := avn_idem (p := pBl) (tx := tx) (len := len) (a := pos)
  obtain ⟨q1, u1, kr, sr⟩ := str_X10_154 hΓ
  obtain ⟨q2, u2, kc, sc⟩ := str_X10_156 hΓ
  obtain ⟨q3, u3, ka, sa⟩ := str_X10_158 hΓ
  obtain ⟨q4, u4, kt, st⟩ := str_X10_159 hΓ
  refine Sp_of (L := [_, _]) hΓ (by decide +kernel) rfl (Nat.le_of_ble_eq_true rfl) rfl ?_
  refine g_aload_n q_X10_isName_0 rfl ?_
  refine g_callV (rc' := 0) (rs' := 0) (As := []) cs_X10_135 q_X10_isName_1 (sp_wordSize hΓ h0 h1 oX h3 hl hp) rfl (by repeat first | with_reducible assumption | with_reducible exact hput_s _ _ _ | refine (hput_n _ _ (by omega)).trans ?_ | exact hput_s _ _ _ | assumption) rfl rfl rfl rfl (Nat.le_of_ble_eq_true rfl) (by decide) (by decide) (by decide) (fun _ _ h => h.elim) (k_ri ?_)
  obtain ⟨p1, hp1⟩ : ∃ z, z = avn pBl tx len pos := ⟨_, rfl⟩
  rw [← hp1] at hr1 hr2 hid ⊢
  obtain ⟨p2, hp2⟩ : ∃ z, z = avn pLe tx len p1 := ⟨_, rfl⟩
  rw [← hp2] at hr2 ⊢
  obtain ⟨τ, hτ⟩ : ∃ τ, τ = hput σ m (mdo m (pI I p1 f)) := ⟨_, rfl⟩
  have t0 : τ.2 m = some (mdo m (pI I p1 f)) := by rw [hτ]; exact hput_s _ _ _
  have t1 : τ.2 (m + 1) = some (ai 400 tx) := by rw [hτ]; exact (hput_n _ _ (by omega)).trans h1
  have ti : hput τ m (mdo m (pI I p1 f)) = τ := hput_id t0
  rw [← hτ]
  have sp9 : ∀ {a v n : Nat} {fs : Nat → Int}, ST Γ a v n fs → (∀ j, j < n → 0 ≤ fs j ∧ fs j < 128) → n < 8 → Sp Γ miX10_is 0 0 [.ref m, .ref a] τ (rb (isW tx p1 p2 n fs) τ) noX := by
    intro a v n fs hs hf hn
    have := sp_mis hΓ t0 t1 oX h3 hl hr1.2 hs hf hn
    rw [hid, ← hp2, ti] at this
    exact this
  have bad : ∀ b : Bool, b = false → ∀ l, G Γ miX10_isName cX10_isName (rb b τ) noX 0 0 55 [some (.ref m), some (.int (ii l))] [] τ := by
    intro b hb l
    rw [hb]
    refine g_iconst q_X10_isName_55 ?_
    refine g_zreturn q_X10_isName_56.1 rfl (by first | exact Or.inl rfl | exact Or.inr rfl | omega) ?_
    exact ⟨rfl, rfl⟩
  refine g_istore_n (L' := [_, _]) q_X10_isName_4 (by decide) rfl ?_
  refine g_iload_n q_X10_isName_5 rfl ?_
  refine g_if_le (tgt := 55) q_X10_isName_6 (by decide) ⟨by omega, by omega⟩ (fun b1 => ?_) (fun b1 => ?_)
  · exact bad _ (by rw [decide_eq_false (by omega), Bool.false_and]) _
  refine g_iload_n q_X10_isName_9 rfl ?_
  refine g_bipush q_X10_isName_10 bp_6 ?_
  refine g_icmp_gt (tgt := 55) q_X10_isName_12 (by decide) ⟨by omega, by omega⟩ ⟨by omega, by omega⟩ (fun b2 => ?_) (fun b2 => ?_)
  · exact bad _ (by rw [decide_eq_false (by omega), Bool.false_and]) _
  rw [decide_eq_true (show 1 ≤ p2 - p1 ∧ p2 - p1 ≤ 6 by omega), Bool.true_and]
  unfold rsW
  refine g_aload_n q_X10_isName_15 rfl ?_
  refine g_ldcS rfl kr q_X10_isName_16 ?_
  refine g_callV (rc' := 0) (rs' := 0) (As := [_]) cs_X10_147 q_X10_isName_18 (sp9 sr kr_row (by decide)) rfl (by repeat first | with_reducible assumption | with_reducible exact hput_s _ _ _ | refine (hput_n _ _ (by omega)).trans ?_ | exact hput_s _ _ _ | assumption) rfl rfl rfl rfl (Nat.le_of_ble_eq_true rfl) (by decide) (by decide) (by decide) (fun _ _ h => h.elim) (k_rb ?_)
  refine g_if_ne (tgt := 55) q_X10_isName_21 (by decide) (bi_rg _) (fun b3 => ?_) (fun b3 => ?_)
  · exact bad _ (by rw [bi_t b3]; rfl) _
  rw [bi_f (show bi (isW tx p1 p2 3 k_row) = 0 by omega), Bool.false_or]
  refine g_aload_n q_X10_isName_24 rfl ?_
  refine g_ldcS rfl kc q_X10_isName_25 ?_
  refine g_callV (rc' := 0) (rs' := 0) (As := [_]) cs_X10_147 q_X10_isName_27 (sp9 sc kr_cart (by decide)) rfl (by repeat first | with_reducible assumption | with_reducible exact hput_s _ _ _ | refine (hput_n _ _ (by omega)).trans ?_ | exact hput_s _ _ _ | assumption) rfl rfl rfl rfl (Nat.le_of_ble_eq_true rfl) (by decide) (by decide) (by decide) (fun _ _ h => h.elim) (k_rb ?_)
  refine g_if_ne (tgt := 55) q_X10_isName_30 (by decide) (bi_rg _) (fun b4 => ?_) (fun b4 => ?_)
  · exact bad _ (by rw [bi_t b4]; rfl) _
  rw [bi_f (show bi (isW tx p1 p2 4 k_cart) = 0 by omega), Bool.false_or]
  refine g_aload_n q_X10_isName_33 rfl ?_
  refine g_ldcS rfl ka q_X10_isName_34 ?_
  refine g_callV (rc' := 0) (rs' := 0) (As := [_]) cs_X10_147 q_X10_isName_36 (sp9 sa kr_at (by decide)) rfl (by repeat first | with_reducible assumption | with_reducible exact hput_s _ _ _ | refine (hput_n _ _ (by omega)).trans ?_ | exact hput_s _ _ _ | assumption) rfl rfl rfl rfl (Nat.le_of_ble_eq_true rfl) (by decide) (by decide) (by decide) (fun _ _ h => h.elim) (k_rb ?_)
  refine g_if_ne (tgt := 55) q_X10_isName_39 (by decide) (bi_rg _) (fun b5 => ?_) (fun b5 => ?_)
  · exact bad _ (by rw [bi_t b5]; rfl) _
  rw [bi_f (show bi (isW tx p1 p2 2 k_at) = 0 by omega), Bool.false_or]
  refine g_aload_n q_X10_isName_42 rfl ?_
  refine g_ldcS rfl kt q_X10_isName_43 ?_
  refine g_callV (rc' := 0) (rs' := 0) (As := [_]) cs_X10_147 q_X10_isName_45 (sp9 st kr_to (by decide)) rfl (by repeat first | with_reducible assumption | with_reducible exact hput_s _ _ _ | refine (hput_n _ _ (by omega)).trans ?_ | exact hput_s _ _ _ | assumption) rfl rfl rfl rfl (Nat.le_of_ble_eq_true rfl) (by decide) (by decide) (by decide) (fun _ _ h => h.elim) (k_rb ?_)
  refine g_if_ne (tgt := 55) q_X10_isName_48 (by decide) (bi_rg _) (fun b6 => ?_) (fun b6 => ?_)
  · exact bad _ (by rw [bi_t b6]; rfl) _
  rw [bi_f (show bi (isW tx p1 p2 2 k_to) = 0 by omega)]
  refine g_iconst q_X10_isName_51 ?_
  refine g_goto (tgt := 56) q_X10_isName_52 (by decide) ?_
  refine g_zreturn q_X10_isName_56.1 rfl (by first | exact Or.inl rfl | exact Or.inr rfl | omega) ?_
  exact ⟨rfl, rfl⟩
end MSc

