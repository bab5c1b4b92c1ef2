/-! TextReader r: object r, text r + 1, scene r + 2 .. r + 8 -/
abbrev rdo (r len pos : Nat) (fa : Int) (ws : Nat) : AE := ob 5 [.ref (r + 1), .int (ii len), .int (ii pos), .int (ii fa), .int (ii ws), .ref (r + 2)]
def adv (p : Int → Bool) (tx : Nat → Int) (len : Nat) : Nat → Nat → Nat
  | 0, i => i
  | f + 1, i => if i < len ∧ p (tx i) = true then adv p tx len f (i + 1) else i
/-- the first place from i on that is not of p -/
def avn (p : Int → Bool) (tx : Nat → Int) (len i : Nat) : Nat := adv p tx len (len - i) i
theorem avn_go {p : Int → Bool} {tx : Nat → Int} {len i : Nat} (h1 : i < len) (h2 : p (tx i) = true) : avn p tx len i = avn p tx len (i + 1) := by
  unfold avn
  rw [show len - i = (len - (i + 1)) + 1 by omega, adv, if_pos ⟨h1, h2⟩]
theorem avn_no {p : Int → Bool} {tx : Nat → Int} {len i : Nat} (h : ¬ (i < len ∧ p (tx i) = true)) : avn p tx len i = i := by
  unfold avn
  cases h9 : len - i with
  | zero => rfl
  | succ f => rw [adv, if_neg h]
theorem avn_rg {p : Int → Bool} {tx : Nat → Int} {len : Nat} : ∀ {i : Nat}, i ≤ len → i ≤ avn p tx len i ∧ avn p tx len i ≤ len := by
  have key : ∀ (d i : Nat), len - i = d → i ≤ len → i ≤ avn p tx len i ∧ avn p tx len i ≤ len := by
    intro d
    induction d with
    | zero =>
      intro i h1 h2
      rw [avn_no (fun q => by omega)]
      omega
    | succ d ih =>
      intro i h1 h2
      by_cases h : i < len ∧ p (tx i) = true
      · rw [avn_go h.1 h.2]
        have := ih (i + 1) (by omega) (by omega)
        omega
      · rw [avn_no h]; omega
  exact fun {i} h => key _ i rfl h
def okX (tx : Nat → Int) : Prop := ∀ k, 0 ≤ tx k ∧ tx k < 256
def pBl (z : Int) : Bool := decide (z = 9 ∨ z = 10 ∨ z = 32)
def pLe (z : Int) : Bool := decide (97 ≤ z ∧ z ≤ 122)
def pDi (z : Int) : Bool := decide (48 ≤ z ∧ z ≤ 57)
section TXT
variable {Γ : GT} {σ : AH} {r len pos ws : Nat} {fa : Int} {tx : Nat → Int}
theorem sp_failAt (hΓ : Gd Γ) (h0 : σ.2 r = some (rdo r len pos fa ws)) (z : Int) : Sp Γ miX5_failAt 0 0 [.ref r, .int (ii z)] σ (rb false (hput σ r (rdo r len pos z ws))) noX := by
  refine Sp_of (L := [_, _]) hΓ (by decide +kernel) rfl (Nat.le_of_ble_eq_true rfl) rfl ?_
  refine g_aload_n q_X5_failAt_0 rfl ?_
  refine g_iload_n q_X5_failAt_1 rfl ?_
  refine g_put fp_X5_22 q_X5_failAt_2 (by repeat first | with_reducible assumption | with_reducible exact hput_s _ _ _ | refine (hput_n _ _ (by omega)).trans ?_ | exact hput_s _ _ _ | assumption) rfl rfl ?_
  refine g_iconst q_X5_failAt_5 ?_
  refine g_zreturn q_X5_failAt_6.1 rfl (by first | exact Or.inl rfl | exact Or.inr rfl | omega) ?_
  exact ⟨rfl, rfl⟩
theorem sp_skipBlanks (hΓ : Gd Γ) (h0 : σ.2 r = some (rdo r len pos fa ws)) (h1 : σ.2 (r + 1) = some (ai 400 tx)) (oX : okX tx) (hl : len ≤ 400) (hp : pos ≤ len) : Sp Γ miX5_skipBlanks 0 0 [.ref r] σ (rv (hput σ r (rdo r len (avn pBl tx len pos) fa ws))) noX := by
  refine Sp_of (L := [_, _, _]) hΓ (by decide +kernel) rfl (Nat.le_of_ble_eq_true rfl) rfl ?_
  refine g_iconst q_X5_skipBlanks_0 ?_
  refine g_istore_n (L' := [_, _, _]) q_X5_skipBlanks_1 (by decide) rfl ?_
  refine g_iconst q_X5_skipBlanks_2 ?_
  refine g_istore_n (L' := [_, _, _]) q_X5_skipBlanks_3 (by decide) rfl ?_
  refine g_eq (σ2 := hput σ r (rdo r len (pos + 0) fa ws)) rfl rfl (hput_id h0).symm ?_
  refine g_loop (fun k => pos + k ≤ len ∧ avn pBl tx len (pos + k) = avn pBl tx len pos) (fun k : Nat => G Γ _ cX5_skipBlanks _ _ 0 0 4 [some (.ref r), some (.int (ii 1)), some (.int (ii k))] [] (hput σ r (rdo r len (pos + k) fa ws))) (fun k => len - k) ?_ 0 ⟨hp, rfl⟩
  intro k ⟨hk, hav⟩ ih
  have hx := oX (pos + k)
  have stop : avn pBl tx len (pos + k) = pos + k → G Γ miX5_skipBlanks cX5_skipBlanks (rv (hput σ r (rdo r len (avn pBl tx len pos) fa ws))) noX 0 0 72 [some (.ref r), some (.int (ii 1)), some (.int (ii k))] [] (hput σ r (rdo r len (pos + k) fa ws)) := by
    intro h
    refine g_iconst q_X5_skipBlanks_72 ?_
    refine g_istore_n (L' := [_, _, _]) q_X5_skipBlanks_73 (by decide) rfl ?_
    refine g_aload_n q_X5_skipBlanks_74 rfl ?_
    refine g_dup q_X5_skipBlanks_75 rfl ?_
    refine g_get fl_X5_19 q_X5_skipBlanks_76 (by repeat first | with_reducible assumption | with_reducible exact hput_s _ _ _ | refine (hput_n _ _ (by omega)).trans ?_ | exact hput_s _ _ _ | assumption) rfl ?_
    refine g_iload_n q_X5_skipBlanks_79 rfl ?_
    refine g_if_eq (tgt := 87) q_X5_skipBlanks_80 (by decide) ⟨by omega, by omega⟩ (fun z1 => ?_) (fun z1 => ?_)
    · refine g_iconst q_X5_skipBlanks_87 ?_
      refine g_iadd q_X5_skipBlanks_88 ?_
      refine g_topi (b := ((pos + k : Nat) : Int)) (by omega) ?_
      refine g_put fp_X5_19 q_X5_skipBlanks_89 (by repeat first | with_reducible assumption | with_reducible exact hput_s _ _ _ | refine (hput_n _ _ (by omega)).trans ?_ | exact hput_s _ _ _ | assumption) rfl rfl ?_
      refine g_iinc (L' := [_, _, _]) q_X5_skipBlanks_92 rfl rfl ?_
      refine g_goto (tgt := 4) q_X5_skipBlanks_95 (by decide) ?_
      refine g_iload_n q_X5_skipBlanks_4 rfl ?_
      refine g_if_eq (tgt := 98) q_X5_skipBlanks_5 (by decide) ⟨by omega, by omega⟩ (fun z2 => ?_) (fun z2 => ?_)
      · refine g_return q_X5_skipBlanks_98.1 rfl ?_
        rw [hput_hput, ← hav, h]
        exact ⟨rfl, rfl⟩
      · exact absurd rfl z2
    · exact absurd rfl z1
  have go : pos + k < len → pBl (tx (pos + k)) = true → G Γ miX5_skipBlanks cX5_skipBlanks (rv (hput σ r (rdo r len (avn pBl tx len pos) fa ws))) noX 0 0 68 [some (.ref r), some (.int (ii 1)), some (.int (ii k))] [] (hput σ r (rdo r len (pos + k) fa ws)) := by
    intro h h2
    have hnx := ih (k + 1) ⟨by omega, by rw [← hav, avn_go h h2]; rfl⟩ (by omega)
    refine g_iconst q_X5_skipBlanks_68 ?_
    refine g_goto (tgt := 73) q_X5_skipBlanks_69 (by decide) ?_
    refine g_istore_n (L' := [_, _, _]) q_X5_skipBlanks_73 (by decide) rfl ?_
    refine g_aload_n q_X5_skipBlanks_74 rfl ?_
    refine g_dup q_X5_skipBlanks_75 rfl ?_
    refine g_get fl_X5_19 q_X5_skipBlanks_76 (by repeat first | with_reducible assumption | with_reducible exact hput_s _ _ _ | refine (hput_n _ _ (by omega)).trans ?_ | exact hput_s _ _ _ | assumption) rfl ?_
    refine g_iload_n q_X5_skipBlanks_79 rfl ?_
    refine g_if_eq (tgt := 87) q_X5_skipBlanks_80 (by decide) ⟨by omega, by omega⟩ (fun z1 => ?_) (fun z1 => ?_)
    · exact absurd z1 (by decide)
    · refine g_iconst q_X5_skipBlanks_83 ?_
      refine g_goto (tgt := 88) q_X5_skipBlanks_84 (by decide) ?_
      refine g_iadd q_X5_skipBlanks_88 ?_
      refine g_put fp_X5_19 q_X5_skipBlanks_89 (by repeat first | with_reducible assumption | with_reducible exact hput_s _ _ _ | refine (hput_n _ _ (by omega)).trans ?_ | exact hput_s _ _ _ | assumption) rfl rfl ?_
      refine g_iinc (L' := [_, _, _]) q_X5_skipBlanks_92 rfl rfl ?_
      refine g_goto (tgt := 4) q_X5_skipBlanks_95 (by decide) ?_
      rw [hput_hput]
      exact hnx
  refine g_iload_n q_X5_skipBlanks_4 rfl ?_
  refine g_if_eq (tgt := 98) q_X5_skipBlanks_5 (by decide) ⟨by omega, by omega⟩ (fun e1 => ?_) (fun e1 => ?_)
  · exact absurd e1 (by decide)
  refine g_iload_n q_X5_skipBlanks_8 rfl ?_
  refine g_sipush q_X5_skipBlanks_9 sp_400 ?_
  refine g_icmp_gt (tgt := 98) q_X5_skipBlanks_12 (by decide) ⟨by omega, by omega⟩ ⟨by omega, by omega⟩ (fun e2 => ?_) (fun e2 => ?_)
  · exact absurd hk (by omega)
  refine g_aload_n q_X5_skipBlanks_15 rfl ?_
  refine g_get fl_X5_19 q_X5_skipBlanks_16 (by repeat first | with_reducible assumption | with_reducible exact hput_s _ _ _ | refine (hput_n _ _ (by omega)).trans ?_ | exact hput_s _ _ _ | assumption) rfl ?_
  refine g_aload_n q_X5_skipBlanks_19 rfl ?_
  refine g_get fl_X5_15 q_X5_skipBlanks_20 (by repeat first | with_reducible assumption | with_reducible exact hput_s _ _ _ | refine (hput_n _ _ (by omega)).trans ?_ | exact hput_s _ _ _ | assumption) rfl ?_
  refine g_icmp_ge (tgt := 72) q_X5_skipBlanks_23 (by decide) ⟨by omega, by omega⟩ ⟨by omega, by omega⟩ (fun e3 => ?_) (fun e3 => ?_)
  · exact stop (avn_no (fun q => by omega))
  refine g_aload_n q_X5_skipBlanks_26 rfl ?_
  refine g_get fl_X5_9 q_X5_skipBlanks_27 (by repeat first | with_reducible assumption | with_reducible exact hput_s _ _ _ | refine (hput_n _ _ (by omega)).trans ?_ | exact hput_s _ _ _ | assumption) rfl ?_
  refine g_aload_n q_X5_skipBlanks_30 rfl ?_
  refine g_get fl_X5_19 q_X5_skipBlanks_31 (by repeat first | with_reducible assumption | with_reducible exact hput_s _ _ _ | refine (hput_n _ _ (by omega)).trans ?_ | exact hput_s _ _ _ | assumption) rfl ?_
  refine g_iaload q_X5_skipBlanks_34 (by repeat first | with_reducible assumption | with_reducible exact hput_s _ _ _ | refine (hput_n _ _ (by omega)).trans ?_ | exact hput_s _ _ _ | assumption) (by omega) (by omega) ?_
  refine g_topi (b := tx (pos + k)) rfl ?_
  refine g_bipush q_X5_skipBlanks_35 bp_9 ?_
  refine g_icmp_eq (tgt := 68) q_X5_skipBlanks_37 (by decide) ⟨by omega, by omega⟩ ⟨by omega, by omega⟩ (fun e4 => ?_) (fun e4 => ?_)
  · exact go (by omega) (by unfold pBl; exact decide_eq_true (Or.inl e4))
  refine g_aload_n q_X5_skipBlanks_40 rfl ?_
  refine g_get fl_X5_9 q_X5_skipBlanks_41 (by repeat first | with_reducible assumption | with_reducible exact hput_s _ _ _ | refine (hput_n _ _ (by omega)).trans ?_ | exact hput_s _ _ _ | assumption) rfl ?_
  refine g_aload_n q_X5_skipBlanks_44 rfl ?_
  refine g_get fl_X5_19 q_X5_skipBlanks_45 (by repeat first | with_reducible assumption | with_reducible exact hput_s _ _ _ | refine (hput_n _ _ (by omega)).trans ?_ | exact hput_s _ _ _ | assumption) rfl ?_
  refine g_iaload q_X5_skipBlanks_48 (by repeat first | with_reducible assumption | with_reducible exact hput_s _ _ _ | refine (hput_n _ _ (by omega)).trans ?_ | exact hput_s _ _ _ | assumption) (by omega) (by omega) ?_
  refine g_topi (b := tx (pos + k)) rfl ?_
  refine g_bipush q_X5_skipBlanks_49 bp_10 ?_
  refine g_icmp_eq (tgt := 68) q_X5_skipBlanks_51 (by decide) ⟨by omega, by omega⟩ ⟨by omega, by omega⟩ (fun e5 => ?_) (fun e5 => ?_)
  · exact go (by omega) (by unfold pBl; exact decide_eq_true (Or.inr (Or.inl e5)))
  refine g_aload_n q_X5_skipBlanks_54 rfl ?_
  refine g_get fl_X5_9 q_X5_skipBlanks_55 (by repeat first | with_reducible assumption | with_reducible exact hput_s _ _ _ | refine (hput_n _ _ (by omega)).trans ?_ | exact hput_s _ _ _ | assumption) rfl ?_
  refine g_aload_n q_X5_skipBlanks_58 rfl ?_
  refine g_get fl_X5_19 q_X5_skipBlanks_59 (by repeat first | with_reducible assumption | with_reducible exact hput_s _ _ _ | refine (hput_n _ _ (by omega)).trans ?_ | exact hput_s _ _ _ | assumption) rfl ?_
  refine g_iaload q_X5_skipBlanks_62 (by repeat first | with_reducible assumption | with_reducible exact hput_s _ _ _ | refine (hput_n _ _ (by omega)).trans ?_ | exact hput_s _ _ _ | assumption) (by omega) (by omega) ?_
  refine g_topi (b := tx (pos + k)) rfl ?_
  refine g_bipush q_X5_skipBlanks_63 bp_32 ?_
  refine g_icmp_ne (tgt := 72) q_X5_skipBlanks_65 (by decide) ⟨by omega, by omega⟩ ⟨by omega, by omega⟩ (fun e6 => ?_) (fun e6 => ?_)
  · exact stop (avn_no (fun q => by have h9 := q.2; unfold pBl at h9; have := of_decide_eq_true h9; omega))
  · exact go (by omega) (by unfold pBl; exact decide_eq_true (Or.inr (Or.inr e6)))
theorem sp_takeWord (hΓ : Gd Γ) (h0 : σ.2 r = some (rdo r len pos fa ws)) (h1 : σ.2 (r + 1) = some (ai 400 tx)) (oX : okX tx) (hl : len ≤ 400) (hp : pos ≤ len) : Sp Γ miX5_takeWord 0 0 [.ref r] σ (rv (hput σ r (rdo r len (avn pLe tx len (avn pBl tx len pos)) fa (avn pBl tx len pos)))) noX := by
  refine Sp_of (L := [_, _]) hΓ (by decide +kernel) rfl (Nat.le_of_ble_eq_true rfl) rfl ?_
  refine g_aload_n q_X5_takeWord_0 rfl ?_
  refine g_callV (rc' := 0) (rs' := 0) (As := []) cs_X5_45 q_X5_takeWord_1 (sp_skipBlanks hΓ h0 h1 oX hl hp) rfl (by repeat first | with_reducible assumption | with_reducible exact hput_s _ _ _ | refine (hput_n _ _ (by omega)).trans ?_ | exact hput_s _ _ _ | assumption) rfl rfl rfl rfl (Nat.le_of_ble_eq_true rfl) (by decide) (by decide) (by decide) (fun _ _ h => h.elim) (k_rv ?_)
  obtain ⟨p1, hp1⟩ : ∃ z, z = avn pBl tx len pos := ⟨_, rfl⟩
  have hr := avn_rg (p := pBl) (tx := tx) hp
  rw [← hp1] at hr ⊢
  refine g_aload_n q_X5_takeWord_4 rfl ?_
  refine g_aload_n q_X5_takeWord_5 rfl ?_
  refine g_get fl_X5_19 q_X5_takeWord_6 (by repeat first | with_reducible assumption | with_reducible exact hput_s _ _ _ | refine (hput_n _ _ (by omega)).trans ?_ | exact hput_s _ _ _ | assumption) rfl ?_
  refine g_put fp_X5_25 q_X5_takeWord_9 (by repeat first | with_reducible assumption | with_reducible exact hput_s _ _ _ | refine (hput_n _ _ (by omega)).trans ?_ | exact hput_s _ _ _ | assumption) rfl rfl ?_
  refine g_iconst q_X5_takeWord_12 ?_
  refine g_istore_n (L' := [_, _]) q_X5_takeWord_13 (by decide) rfl ?_
  rw [hput_hput]
  refine g_loop (fun k => p1 + k ≤ len ∧ avn pLe tx len (p1 + k) = avn pLe tx len p1) (fun k : Nat => G Γ _ cX5_takeWord _ _ 0 0 14 [some (.ref r), some (.int (ii k))] [] (hput σ r (rdo r len (p1 + k) fa p1))) (fun k => len - k) ?_ 0 ⟨by omega, rfl⟩
  intro k ⟨hk, hav⟩ ih
  have hx := oX (p1 + k)
  have stop : avn pLe tx len (p1 + k) = p1 + k → G Γ miX5_takeWord cX5_takeWord (rv (hput σ r (rdo r len (avn pLe tx len p1) fa p1))) noX 0 0 76 [some (.ref r), some (.int (ii k))] [] (hput σ r (rdo r len (p1 + k) fa p1)) := by
    intro h
    refine g_return q_X5_takeWord_76.1 rfl ?_
    rw [← hav, h]
    exact ⟨rfl, rfl⟩
  refine g_iload_n q_X5_takeWord_14 rfl ?_
  refine g_sipush q_X5_takeWord_15 sp_400 ?_
  refine g_icmp_gt (tgt := 76) q_X5_takeWord_18 (by decide) ⟨by omega, by omega⟩ ⟨by omega, by omega⟩ (fun e2 => ?_) (fun e2 => ?_)
  · exact absurd hk (by omega)
  refine g_aload_n q_X5_takeWord_21 rfl ?_
  refine g_get fl_X5_19 q_X5_takeWord_22 (by repeat first | with_reducible assumption | with_reducible exact hput_s _ _ _ | refine (hput_n _ _ (by omega)).trans ?_ | exact hput_s _ _ _ | assumption) rfl ?_
  refine g_aload_n q_X5_takeWord_25 rfl ?_
  refine g_get fl_X5_15 q_X5_takeWord_26 (by repeat first | with_reducible assumption | with_reducible exact hput_s _ _ _ | refine (hput_n _ _ (by omega)).trans ?_ | exact hput_s _ _ _ | assumption) rfl ?_
  refine g_icmp_ge (tgt := 76) q_X5_takeWord_29 (by decide) ⟨by omega, by omega⟩ ⟨by omega, by omega⟩ (fun e3 => ?_) (fun e3 => ?_)
  · exact stop (avn_no (fun q => by omega))
  refine g_aload_n q_X5_takeWord_32 rfl ?_
  refine g_get fl_X5_9 q_X5_takeWord_33 (by repeat first | with_reducible assumption | with_reducible exact hput_s _ _ _ | refine (hput_n _ _ (by omega)).trans ?_ | exact hput_s _ _ _ | assumption) rfl ?_
  refine g_aload_n q_X5_takeWord_36 rfl ?_
  refine g_get fl_X5_19 q_X5_takeWord_37 (by repeat first | with_reducible assumption | with_reducible exact hput_s _ _ _ | refine (hput_n _ _ (by omega)).trans ?_ | exact hput_s _ _ _ | assumption) rfl ?_
  refine g_iaload q_X5_takeWord_40 (by repeat first | with_reducible assumption | with_reducible exact hput_s _ _ _ | refine (hput_n _ _ (by omega)).trans ?_ | exact hput_s _ _ _ | assumption) (by omega) (by omega) ?_
  refine g_topi (b := tx (p1 + k)) rfl ?_
  refine g_bipush q_X5_takeWord_41 bp_97 ?_
  refine g_icmp_lt (tgt := 76) q_X5_takeWord_43 (by decide) ⟨by omega, by omega⟩ ⟨by omega, by omega⟩ (fun e4 => ?_) (fun e4 => ?_)
  · exact stop (avn_no (fun q => by have h9 := q.2; unfold pLe at h9; have := of_decide_eq_true h9; omega))
  refine g_aload_n q_X5_takeWord_46 rfl ?_
  refine g_get fl_X5_9 q_X5_takeWord_47 (by repeat first | with_reducible assumption | with_reducible exact hput_s _ _ _ | refine (hput_n _ _ (by omega)).trans ?_ | exact hput_s _ _ _ | assumption) rfl ?_
  refine g_aload_n q_X5_takeWord_50 rfl ?_
  refine g_get fl_X5_19 q_X5_takeWord_51 (by repeat first | with_reducible assumption | with_reducible exact hput_s _ _ _ | refine (hput_n _ _ (by omega)).trans ?_ | exact hput_s _ _ _ | assumption) rfl ?_
  refine g_iaload q_X5_takeWord_54 (by repeat first | with_reducible assumption | with_reducible exact hput_s _ _ _ | refine (hput_n _ _ (by omega)).trans ?_ | exact hput_s _ _ _ | assumption) (by omega) (by omega) ?_
  refine g_topi (b := tx (p1 + k)) rfl ?_
  refine g_bipush q_X5_takeWord_55 bp_122 ?_
  refine g_icmp_gt (tgt := 76) q_X5_takeWord_57 (by decide) ⟨by omega, by omega⟩ ⟨by omega, by omega⟩ (fun e5 => ?_) (fun e5 => ?_)
  · exact stop (avn_no (fun q => by have h9 := q.2; unfold pLe at h9; have := of_decide_eq_true h9; omega))
  have hnx := ih (k + 1) ⟨by omega, by rw [← hav, avn_go (i := p1 + k) (by omega) (by unfold pLe; exact decide_eq_true ⟨by omega, by omega⟩)]; rfl⟩ (by omega)
  refine g_aload_n q_X5_takeWord_60 rfl ?_
  refine g_dup q_X5_takeWord_61 rfl ?_
  refine g_get fl_X5_19 q_X5_takeWord_62 (by repeat first | with_reducible assumption | with_reducible exact hput_s _ _ _ | refine (hput_n _ _ (by omega)).trans ?_ | exact hput_s _ _ _ | assumption) rfl ?_
  refine g_iconst q_X5_takeWord_65 ?_
  refine g_iadd q_X5_takeWord_66 ?_
  refine g_put fp_X5_19 q_X5_takeWord_67 (by repeat first | with_reducible assumption | with_reducible exact hput_s _ _ _ | refine (hput_n _ _ (by omega)).trans ?_ | exact hput_s _ _ _ | assumption) rfl rfl ?_
  refine g_iinc (L' := [_, _]) q_X5_takeWord_70 rfl rfl ?_
  refine g_goto (tgt := 14) q_X5_takeWord_73 (by decide) ?_
  rw [hput_hput]
  exact hnx
theorem sp_takeSemicolon (hΓ : Gd Γ) (h0 : σ.2 r = some (rdo r len pos fa ws)) (h1 : σ.2 (r + 1) = some (ai 400 tx)) (oX : okX tx) (hl : len ≤ 400) (hp : pos ≤ len) : Sp Γ miX5_takeSemicolon 0 0 [.ref r] σ (fun v σ' => (avn pBl tx len pos < len ∧ tx (avn pBl tx len pos) = 59 ∧ v = some (.int (ii (bi true))) ∧ σ' = hput σ r (rdo r len (avn pBl tx len pos + 1) fa ws)) ∨ (¬ (avn pBl tx len pos < len ∧ tx (avn pBl tx len pos) = 59) ∧ v = some (.int (ii (bi false))) ∧ σ' = hput σ r (rdo r len (avn pBl tx len pos) (avn pBl tx len pos) ws))) noX := by
  refine Sp_of (L := [_]) hΓ (by decide +kernel) rfl (Nat.le_of_ble_eq_true rfl) rfl ?_
  refine g_aload_n q_X5_takeSemicolon_0 rfl ?_
  refine g_callV (rc' := 0) (rs' := 0) (As := []) cs_X5_45 q_X5_takeSemicolon_1 (sp_skipBlanks hΓ h0 h1 oX hl hp) rfl (by repeat first | with_reducible assumption | with_reducible exact hput_s _ _ _ | refine (hput_n _ _ (by omega)).trans ?_ | exact hput_s _ _ _ | assumption) rfl rfl rfl rfl (Nat.le_of_ble_eq_true rfl) (by decide) (by decide) (by decide) (fun _ _ h => h.elim) (k_rv ?_)
  obtain ⟨p1, hp1⟩ : ∃ z, z = avn pBl tx len pos := ⟨_, rfl⟩
  have hr := avn_rg (p := pBl) (tx := tx) hp
  rw [← hp1] at hr ⊢
  have hx := oX p1
  have bad : ¬ (p1 < len ∧ tx p1 = 59) → G Γ miX5_takeSemicolon cX5_takeSemicolon (fun v σ' => (p1 < len ∧ tx p1 = 59 ∧ v = some (.int (ii (bi true))) ∧ σ' = hput σ r (rdo r len (p1 + 1) fa ws)) ∨ (¬ (p1 < len ∧ tx p1 = 59) ∧ v = some (.int (ii (bi false))) ∧ σ' = hput σ r (rdo r len p1 p1 ws))) noX 0 0 29 [some (.ref r)] [] (hput σ r (rdo r len p1 fa ws)) := by
    intro h
    refine g_aload_n q_X5_takeSemicolon_29 rfl ?_
    refine g_aload_n q_X5_takeSemicolon_30 rfl ?_
    refine g_get fl_X5_19 q_X5_takeSemicolon_31 (by repeat first | with_reducible assumption | with_reducible exact hput_s _ _ _ | refine (hput_n _ _ (by omega)).trans ?_ | exact hput_s _ _ _ | assumption) rfl ?_
    refine g_callV (rc' := 0) (rs' := 0) (As := [_]) cs_X5_71 q_X5_takeSemicolon_34 (sp_failAt hΓ (hput_s _ _ _) p1) rfl (by repeat first | with_reducible assumption | with_reducible exact hput_s _ _ _ | refine (hput_n _ _ (by omega)).trans ?_ | exact hput_s _ _ _ | assumption) rfl rfl rfl rfl (Nat.le_of_ble_eq_true rfl) (by decide) (by decide) (by decide) (fun _ _ h => h.elim) (k_rb ?_)
    rw [hput_hput]
    refine g_zreturn q_X5_takeSemicolon_37.1 rfl (by first | exact Or.inl rfl | exact Or.inr rfl | omega) ?_
    exact Or.inr ⟨h, rfl, rfl⟩
  refine g_aload_n q_X5_takeSemicolon_4 rfl ?_
  refine g_get fl_X5_19 q_X5_takeSemicolon_5 (by repeat first | with_reducible assumption | with_reducible exact hput_s _ _ _ | refine (hput_n _ _ (by omega)).trans ?_ | exact hput_s _ _ _ | assumption) rfl ?_
  refine g_aload_n q_X5_takeSemicolon_8 rfl ?_
  refine g_get fl_X5_15 q_X5_takeSemicolon_9 (by repeat first | with_reducible assumption | with_reducible exact hput_s _ _ _ | refine (hput_n _ _ (by omega)).trans ?_ | exact hput_s _ _ _ | assumption) rfl ?_
  refine g_icmp_ge (tgt := 29) q_X5_takeSemicolon_12 (by decide) ⟨by omega, by omega⟩ ⟨by omega, by omega⟩ (fun e1 => ?_) (fun e1 => ?_)
  · exact bad (fun q => by omega)
  refine g_aload_n q_X5_takeSemicolon_15 rfl ?_
  refine g_get fl_X5_9 q_X5_takeSemicolon_16 (by repeat first | with_reducible assumption | with_reducible exact hput_s _ _ _ | refine (hput_n _ _ (by omega)).trans ?_ | exact hput_s _ _ _ | assumption) rfl ?_
  refine g_aload_n q_X5_takeSemicolon_19 rfl ?_
  refine g_get fl_X5_19 q_X5_takeSemicolon_20 (by repeat first | with_reducible assumption | with_reducible exact hput_s _ _ _ | refine (hput_n _ _ (by omega)).trans ?_ | exact hput_s _ _ _ | assumption) rfl ?_
  refine g_iaload q_X5_takeSemicolon_23 (by repeat first | with_reducible assumption | with_reducible exact hput_s _ _ _ | refine (hput_n _ _ (by omega)).trans ?_ | exact hput_s _ _ _ | assumption) (by omega) (by omega) ?_
  refine g_topi (b := tx p1) rfl ?_
  refine g_bipush q_X5_takeSemicolon_24 bp_59 ?_
  refine g_icmp_eq (tgt := 38) q_X5_takeSemicolon_26 (by decide) ⟨by omega, by omega⟩ ⟨by omega, by omega⟩ (fun e2 => ?_) (fun e2 => ?_)
  · refine g_aload_n q_X5_takeSemicolon_38 rfl ?_
    refine g_dup q_X5_takeSemicolon_39 rfl ?_
    refine g_get fl_X5_19 q_X5_takeSemicolon_40 (by repeat first | with_reducible assumption | with_reducible exact hput_s _ _ _ | refine (hput_n _ _ (by omega)).trans ?_ | exact hput_s _ _ _ | assumption) rfl ?_
    refine g_iconst q_X5_takeSemicolon_43 ?_
    refine g_iadd q_X5_takeSemicolon_44 ?_
    refine g_put fp_X5_19 q_X5_takeSemicolon_45 (by repeat first | with_reducible assumption | with_reducible exact hput_s _ _ _ | refine (hput_n _ _ (by omega)).trans ?_ | exact hput_s _ _ _ | assumption) rfl rfl ?_
    refine g_iconst q_X5_takeSemicolon_48 ?_
    rw [hput_hput]
    refine g_zreturn q_X5_takeSemicolon_49.1 rfl (by first | exact Or.inl rfl | exact Or.inr rfl | omega) ?_
    exact Or.inl ⟨by omega, e2, rfl, rfl⟩
  · exact bad (fun q => e2 q.2)
end TXT

