/-! TextReader: takeNumber, takeCell, isToldName, append -/
def tnS (tx : Nat → Int) (len pos : Nat) : Nat := avn pBl tx len pos
def tnP (tx : Nat → Int) (len pos : Nat) : Nat := avn pDi tx len (avn pBl tx len pos)
def tnV (tx : Nat → Int) (len : Nat) (lim : Int) (pos : Nat) : Int := if tnP tx len pos = tnS tx len pos + 1 ∧ tx (tnS tx len pos) - 48 < lim then tx (tnS tx len pos) - 48 else -1
theorem avn_mv {p : Int → Bool} {tx : Nat → Int} {len i : Nat} (h : avn p tx len i ≠ i) : i < len ∧ p (tx i) = true := by
  by_cases q : i < len ∧ p (tx i) = true
  · exact q
  · exact absurd (avn_no q) h
theorem tnV_rg {tx : Nat → Int} {len pos : Nat} {lim : Int} (hl : 0 ≤ lim ∧ lim ≤ 6) : tnV tx len lim pos = -1 ∨ 0 ≤ tnV tx len lim pos ∧ tnV tx len lim pos < lim := by
  unfold tnV
  split
  · rename_i h
    have h2 := (avn_mv (p := pDi) (tx := tx) (len := len) (i := tnS tx len pos) (by have := h.1; unfold tnP at this; show avn pDi tx len (avn pBl tx len pos) ≠ tnS tx len pos; omega)).2
    unfold pDi at h2
    have := of_decide_eq_true h2
    omega
  · exact Or.inl rfl
/-- a cell: its number or -1, the place behind it, the fault -/
def tcR (tx : Nat → Int) (len cols rows carts : Nat) (SO OT : Nat → Int) (pos : Nat) (fa : Int) : Int × Nat × Int :=
  if tnV tx len cols pos = -1 then (-1, tnP tx len pos, (tnS tx len pos : Int))
  else if tnV tx len rows (tnP tx len pos) = -1 then (-1, tnP tx len (tnP tx len pos), (tnS tx len (tnP tx len pos) : Int))
  else if SO (6 * tnV tx len rows (tnP tx len pos) + tnV tx len cols pos).toNat = 1 ∨ fstN (fun k => decide (OT k = 6 * tnV tx len rows (tnP tx len pos) + tnV tx len cols pos)) carts ≠ -1 then (-1, tnP tx len (tnP tx len pos), (tnP tx len (tnP tx len pos) : Int) - 1)
  else (6 * tnV tx len rows (tnP tx len pos) + tnV tx len cols pos, tnP tx len (tnP tx len pos), fa)
theorem tnP_rg {tx : Nat → Int} {len pos : Nat} (h : pos ≤ len) : pos ≤ tnP tx len pos ∧ tnP tx len pos ≤ len := by
  have h1 := avn_rg (p := pBl) (tx := tx) h
  have h2 := avn_rg (p := pDi) (tx := tx) h1.2
  unfold tnP
  omega
section TX2
variable {Γ : GT} {σ : AH} {r len pos ws : Nat} {fa : Int} {tx : Nat → Int}
theorem sp_takeNumber (hΓ : Gd Γ) (h0 : σ.2 r = some (rdo r len pos fa ws)) (h1 : σ.2 (r + 1) = some (ai 400 tx)) (oX : okX tx) (hl : len ≤ 400) (hp : pos ≤ len) (lim : Int) (hlim : 0 ≤ lim ∧ lim ≤ 6) : Sp Γ miX5_takeNumber 0 0 [.ref r, .int (ii lim)] σ (ri (tnV tx len lim pos) (hput σ r (rdo r len (tnP tx len pos) (if tnV tx len lim pos = -1 then (tnS tx len pos : Int) else fa) ws))) noX := by
  refine Sp_of (L := [_, _, _, _]) hΓ (by decide +kernel) rfl (Nat.le_of_ble_eq_true rfl) rfl ?_
  refine g_aload_n q_X5_takeNumber_0 rfl ?_
  refine g_callV (rc' := 0) (rs' := 0) (As := []) cs_X5_45 q_X5_takeNumber_1 (sp_skipBlanks hΓ h0 h1 oX hl hp) rfl (by repeat first | with_reducible assumption | with_reducible exact hput_s _ _ _ | refine (hput_n _ _ (by omega)).trans ?_ | exact hput_s _ _ _ | assumption) rfl rfl rfl rfl (Nat.le_of_ble_eq_true rfl) (by decide) (by decide) (by decide) (fun _ _ h => h.elim) (k_rv ?_)
  obtain ⟨p1, hp1⟩ : ∃ z, z = tnS tx len pos := ⟨_, rfl⟩
  have hp1' : avn pBl tx len pos = p1 := hp1.symm
  have hr := avn_rg (p := pBl) (tx := tx) hp
  have eP : tnP tx len pos = avn pDi tx len p1 := by rw [← hp1']; rfl
  rw [hp1'] at hr ⊢
  rw [← hp1, eP]
  refine g_aload_n q_X5_takeNumber_4 rfl ?_
  refine g_get fl_X5_19 q_X5_takeNumber_5 (by repeat first | with_reducible assumption | with_reducible exact hput_s _ _ _ | refine (hput_n _ _ (by omega)).trans ?_ | exact hput_s _ _ _ | assumption) rfl ?_
  refine g_istore_n (L' := [_, _, _, _]) q_X5_takeNumber_8 (by decide) rfl ?_
  refine g_iconst q_X5_takeNumber_9 ?_
  refine g_istore_n (L' := [_, _, _, _]) q_X5_takeNumber_10 (by decide) rfl ?_
  refine g_loop (fun k => p1 + k ≤ len ∧ avn pDi tx len (p1 + k) = avn pDi tx len p1) (fun k : Nat => G Γ _ cX5_takeNumber _ _ 0 0 11 [some (.ref r), some (.int (ii lim)), some (.int (ii p1)), some (.int (ii k))] [] (hput σ r (rdo r len (p1 + k) fa ws))) (fun k => len - k) ?_ 0 ⟨by omega, rfl⟩
  intro k ⟨hk, hav⟩ ih
  have hx := oX (p1 + k)
  have hx1 := oX p1
  have stop : avn pDi tx len (p1 + k) = p1 + k → G Γ miX5_takeNumber cX5_takeNumber (ri (tnV tx len lim pos) (hput σ r (rdo r len (avn pDi tx len p1) (if tnV tx len lim pos = -1 then (p1 : Int) else fa) ws))) noX 0 0 73 [some (.ref r), some (.int (ii lim)), some (.int (ii p1)), some (.int (ii k))] [] (hput σ r (rdo r len (p1 + k) fa ws)) := by
    intro h
    have e9 : avn pDi tx len p1 = p1 + k := by rw [← hav, h]
    have bad : tnV tx len lim pos = -1 → G Γ miX5_takeNumber cX5_takeNumber (ri (tnV tx len lim pos) (hput σ r (rdo r len (avn pDi tx len p1) (if tnV tx len lim pos = -1 then (p1 : Int) else fa) ws))) noX 0 0 96 [some (.ref r), some (.int (ii lim)), some (.int (ii p1)), some (.int (ii k))] [] (hput σ r (rdo r len (p1 + k) fa ws)) := by
      intro hv
      rw [hv, if_pos rfl, e9]
      refine g_aload_n q_X5_takeNumber_96 rfl ?_
      refine g_iload_n q_X5_takeNumber_97 rfl ?_
      refine g_callV (rc' := 0) (rs' := 0) (As := [_]) cs_X5_71 q_X5_takeNumber_98 (sp_failAt hΓ (hput_s _ _ _) p1) rfl (by repeat first | with_reducible assumption | with_reducible exact hput_s _ _ _ | refine (hput_n _ _ (by omega)).trans ?_ | exact hput_s _ _ _ | assumption) rfl rfl rfl rfl (Nat.le_of_ble_eq_true rfl) (by decide) (by decide) (by decide) (fun _ _ h => h.elim) (k_rb ?_)
      rw [hput_hput]
      refine g_pop q_X5_takeNumber_101 rfl ?_
      refine g_iconst q_X5_takeNumber_102 ?_
      refine g_ireturn q_X5_takeNumber_103.1 rfl ?_
      exact ⟨rfl, rfl⟩
    refine g_aload_n q_X5_takeNumber_73 rfl ?_
    refine g_get fl_X5_19 q_X5_takeNumber_74 (by repeat first | with_reducible assumption | with_reducible exact hput_s _ _ _ | refine (hput_n _ _ (by omega)).trans ?_ | exact hput_s _ _ _ | assumption) rfl ?_
    refine g_iload_n q_X5_takeNumber_77 rfl ?_
    refine g_isub q_X5_takeNumber_78 ?_
    refine g_iconst q_X5_takeNumber_79 ?_
    refine g_icmp_ne (tgt := 96) q_X5_takeNumber_80 (by decide) ⟨by omega, by omega⟩ ⟨by omega, by omega⟩ (fun z1 => ?_) (fun z1 => ?_)
    · exact bad (by unfold tnV; rw [if_neg (fun q => by have := q.1; rw [eP, ← hp1, e9] at this; omega)])
    · have hk1 : k = 1 := by omega
      subst hk1
      refine g_aload_n q_X5_takeNumber_83 rfl ?_
      refine g_get fl_X5_9 q_X5_takeNumber_84 (by repeat first | with_reducible assumption | with_reducible exact hput_s _ _ _ | refine (hput_n _ _ (by omega)).trans ?_ | exact hput_s _ _ _ | assumption) rfl ?_
      refine g_iload_n q_X5_takeNumber_87 rfl ?_
      refine g_iaload q_X5_takeNumber_88 (by repeat first | with_reducible assumption | with_reducible exact hput_s _ _ _ | refine (hput_n _ _ (by omega)).trans ?_ | exact hput_s _ _ _ | assumption) (by omega) (by omega) ?_
      refine g_topi (b := tx p1) rfl ?_
      refine g_bipush q_X5_takeNumber_89 bp_48 ?_
      refine g_isub q_X5_takeNumber_91 ?_
      refine g_iload_n q_X5_takeNumber_92 rfl ?_
      refine g_icmp_lt (tgt := 104) q_X5_takeNumber_93 (by decide) ⟨by omega, by omega⟩ ⟨by omega, by omega⟩ (fun z2 => ?_) (fun z2 => ?_)
      · have hv : tnV tx len lim pos = tx p1 - 48 := by unfold tnV; rw [← hp1, if_pos ⟨by rw [eP, e9], z2⟩]
        have hdi := (avn_mv (p := pDi) (tx := tx) (len := len) (i := p1) (by omega)).2
        unfold pDi at hdi
        have := of_decide_eq_true hdi
        rw [hv, if_neg (by omega), e9]
        refine g_aload_n q_X5_takeNumber_104 rfl ?_
        refine g_get fl_X5_9 q_X5_takeNumber_105 (by repeat first | with_reducible assumption | with_reducible exact hput_s _ _ _ | refine (hput_n _ _ (by omega)).trans ?_ | exact hput_s _ _ _ | assumption) rfl ?_
        refine g_iload_n q_X5_takeNumber_108 rfl ?_
        refine g_iaload q_X5_takeNumber_109 (by repeat first | with_reducible assumption | with_reducible exact hput_s _ _ _ | refine (hput_n _ _ (by omega)).trans ?_ | exact hput_s _ _ _ | assumption) (by omega) (by omega) ?_
        refine g_topi (b := tx p1) rfl ?_
        refine g_bipush q_X5_takeNumber_110 bp_48 ?_
        refine g_isub q_X5_takeNumber_112 ?_
        refine g_ireturn q_X5_takeNumber_113.1 rfl ?_
        exact ⟨rfl, rfl⟩
      · exact bad (by unfold tnV; rw [← hp1, if_neg (fun q => by have := q.2; omega)])
  refine g_iload_n q_X5_takeNumber_11 rfl ?_
  refine g_sipush q_X5_takeNumber_12 sp_400 ?_
  refine g_icmp_gt (tgt := 73) q_X5_takeNumber_15 (by decide) ⟨by omega, by omega⟩ ⟨by omega, by omega⟩ (fun e2 => ?_) (fun e2 => ?_)
  · exact absurd hk (by omega)
  refine g_aload_n q_X5_takeNumber_18 rfl ?_
  refine g_get fl_X5_19 q_X5_takeNumber_19 (by repeat first | with_reducible assumption | with_reducible exact hput_s _ _ _ | refine (hput_n _ _ (by omega)).trans ?_ | exact hput_s _ _ _ | assumption) rfl ?_
  refine g_aload_n q_X5_takeNumber_22 rfl ?_
  refine g_get fl_X5_15 q_X5_takeNumber_23 (by repeat first | with_reducible assumption | with_reducible exact hput_s _ _ _ | refine (hput_n _ _ (by omega)).trans ?_ | exact hput_s _ _ _ | assumption) rfl ?_
  refine g_icmp_ge (tgt := 73) q_X5_takeNumber_26 (by decide) ⟨by omega, by omega⟩ ⟨by omega, by omega⟩ (fun e3 => ?_) (fun e3 => ?_)
  · exact stop (avn_no (fun q => by omega))
  refine g_aload_n q_X5_takeNumber_29 rfl ?_
  refine g_get fl_X5_9 q_X5_takeNumber_30 (by repeat first | with_reducible assumption | with_reducible exact hput_s _ _ _ | refine (hput_n _ _ (by omega)).trans ?_ | exact hput_s _ _ _ | assumption) rfl ?_
  refine g_aload_n q_X5_takeNumber_33 rfl ?_
  refine g_get fl_X5_19 q_X5_takeNumber_34 (by repeat first | with_reducible assumption | with_reducible exact hput_s _ _ _ | refine (hput_n _ _ (by omega)).trans ?_ | exact hput_s _ _ _ | assumption) rfl ?_
  refine g_iaload q_X5_takeNumber_37 (by repeat first | with_reducible assumption | with_reducible exact hput_s _ _ _ | refine (hput_n _ _ (by omega)).trans ?_ | exact hput_s _ _ _ | assumption) (by omega) (by omega) ?_
  refine g_topi (b := tx (p1 + k)) rfl ?_
  refine g_bipush q_X5_takeNumber_38 bp_48 ?_
  refine g_icmp_lt (tgt := 73) q_X5_takeNumber_40 (by decide) ⟨by omega, by omega⟩ ⟨by omega, by omega⟩ (fun e4 => ?_) (fun e4 => ?_)
  · exact stop (avn_no (fun q => by have h9 := q.2; unfold pDi at h9; have := of_decide_eq_true h9; omega))
  refine g_aload_n q_X5_takeNumber_43 rfl ?_
  refine g_get fl_X5_9 q_X5_takeNumber_44 (by repeat first | with_reducible assumption | with_reducible exact hput_s _ _ _ | refine (hput_n _ _ (by omega)).trans ?_ | exact hput_s _ _ _ | assumption) rfl ?_
  refine g_aload_n q_X5_takeNumber_47 rfl ?_
  refine g_get fl_X5_19 q_X5_takeNumber_48 (by repeat first | with_reducible assumption | with_reducible exact hput_s _ _ _ | refine (hput_n _ _ (by omega)).trans ?_ | exact hput_s _ _ _ | assumption) rfl ?_
  refine g_iaload q_X5_takeNumber_51 (by repeat first | with_reducible assumption | with_reducible exact hput_s _ _ _ | refine (hput_n _ _ (by omega)).trans ?_ | exact hput_s _ _ _ | assumption) (by omega) (by omega) ?_
  refine g_topi (b := tx (p1 + k)) rfl ?_
  refine g_bipush q_X5_takeNumber_52 bp_57 ?_
  refine g_icmp_gt (tgt := 73) q_X5_takeNumber_54 (by decide) ⟨by omega, by omega⟩ ⟨by omega, by omega⟩ (fun e5 => ?_) (fun e5 => ?_)
  · exact stop (avn_no (fun q => by have h9 := q.2; unfold pDi at h9; have := of_decide_eq_true h9; omega))
  have hnx := ih (k + 1) ⟨by omega, by rw [← hav, avn_go (i := p1 + k) (by omega) (by unfold pDi; exact decide_eq_true ⟨by omega, by omega⟩)]; rfl⟩ (by omega)
  refine g_aload_n q_X5_takeNumber_57 rfl ?_
  refine g_dup q_X5_takeNumber_58 rfl ?_
  refine g_get fl_X5_19 q_X5_takeNumber_59 (by repeat first | with_reducible assumption | with_reducible exact hput_s _ _ _ | refine (hput_n _ _ (by omega)).trans ?_ | exact hput_s _ _ _ | assumption) rfl ?_
  refine g_iconst q_X5_takeNumber_62 ?_
  refine g_iadd q_X5_takeNumber_63 ?_
  refine g_put fp_X5_19 q_X5_takeNumber_64 (by repeat first | with_reducible assumption | with_reducible exact hput_s _ _ _ | refine (hput_n _ _ (by omega)).trans ?_ | exact hput_s _ _ _ | assumption) rfl rfl ?_
  refine g_iinc (L' := [_, _, _, _]) q_X5_takeNumber_67 rfl rfl ?_
  refine g_goto (tgt := 11) q_X5_takeNumber_70 (by decide) ?_
  rw [hput_hput]
  exact hnx
theorem sp_takeCell (hΓ : Gd Γ) {cols rows carts : Nat} {SO OT : Nat → Int} {a : Nat} (h0 : σ.2 r = some (rdo r len pos fa ws)) (h1 : σ.2 (r + 1) = some (ai 400 tx)) (oX : okX tx) (hl : len ≤ 400) (hp : pos ≤ len) (hg : σ.2 (r + 2) = some (sco (r + 2) cols rows carts)) (hg1 : σ.2 (r + 2 + 1) = some (ai 36 SO)) (oS : ∀ k, rg (SO k)) (hOT : σ.2 a = some (ai 5 OT)) (ha : a ≠ r) (oO : ∀ k, rg (OT k)) (hc : cols ≤ 6) (hr : rows ≤ 6) (hn : carts ≤ 5) : Sp Γ miX5_takeCell 0 0 [.ref r, .ref a] σ (ri (tcR tx len cols rows carts SO OT pos fa).1 (hput σ r (rdo r len (tcR tx len cols rows carts SO OT pos fa).2.1 (tcR tx len cols rows carts SO OT pos fa).2.2 ws))) noX := by
  obtain ⟨x, hx⟩ : ∃ z, z = tnV tx len cols pos := ⟨_, rfl⟩
  obtain ⟨p1, hp1⟩ : ∃ z, z = tnP tx len pos := ⟨_, rfl⟩
  obtain ⟨y, hy⟩ : ∃ z, z = tnV tx len rows p1 := ⟨_, rfl⟩
  obtain ⟨p2, hp2⟩ : ∃ z, z = tnP tx len p1 := ⟨_, rfl⟩
  have hxr := tnV_rg (tx := tx) (len := len) (pos := pos) (lim := cols) ⟨by omega, by omega⟩
  have hyr := tnV_rg (tx := tx) (len := len) (pos := p1) (lim := rows) ⟨by omega, by omega⟩
  have hp1r := tnP_rg (tx := tx) hp
  rw [← hp1] at hp1r
  have hp2r := tnP_rg (tx := tx) hp1r.2
  rw [← hp2] at hp2r
  rw [← hx] at hxr
  rw [← hy] at hyr
  unfold tcR
  rw [← hp1, ← hx, ← hy, ← hp2]
  refine Sp_of (L := [_, _, _, _, _]) hΓ (by decide +kernel) rfl (Nat.le_of_ble_eq_true rfl) rfl ?_
  refine g_aload_n q_X5_takeCell_0 rfl ?_
  refine g_aload_n q_X5_takeCell_1 rfl ?_
  refine g_get fl_X5_31 q_X5_takeCell_2 (by repeat first | with_reducible assumption | with_reducible exact hput_s _ _ _ | refine (hput_n _ _ (by omega)).trans ?_ | exact hput_s _ _ _ | assumption) rfl ?_
  refine g_get fl_X5_90 q_X5_takeCell_5 (by repeat first | with_reducible assumption | with_reducible exact hput_s _ _ _ | refine (hput_n _ _ (by omega)).trans ?_ | exact hput_s _ _ _ | assumption) rfl ?_
  refine g_callV (rc' := 0) (rs' := 0) (As := [_]) cs_X5_125 q_X5_takeCell_8 (sp_takeNumber hΓ h0 h1 oX hl hp cols ⟨by omega, by omega⟩) rfl (by repeat first | with_reducible assumption | with_reducible exact hput_s _ _ _ | refine (hput_n _ _ (by omega)).trans ?_ | exact hput_s _ _ _ | assumption) rfl rfl rfl rfl (Nat.le_of_ble_eq_true rfl) (by decide) (by decide) (by decide) (fun _ _ h => h.elim) (k_ri ?_)
  rw [← hp1, ← hx]
  refine g_istore_n (L' := [_, _, _, _, _]) q_X5_takeCell_11 (by decide) rfl ?_
  refine g_iload_n q_X5_takeCell_12 rfl ?_
  refine g_iconst q_X5_takeCell_13 ?_
  refine g_icmp_ne (tgt := 21) q_X5_takeCell_14 (by decide) ⟨by omega, by omega⟩ ⟨by omega, by omega⟩ (fun e1 => ?_) (fun e1 => ?_)
  · rw [if_neg e1, if_neg e1]
    refine g_aload_n q_X5_takeCell_21 rfl ?_
    refine g_aload_n q_X5_takeCell_22 rfl ?_
    refine g_get fl_X5_31 q_X5_takeCell_23 (by repeat first | with_reducible assumption | with_reducible exact hput_s _ _ _ | refine (hput_n _ _ (by omega)).trans ?_ | exact hput_s _ _ _ | assumption) rfl ?_
    refine g_get fl_X5_42 q_X5_takeCell_26 (by repeat first | with_reducible assumption | with_reducible exact hput_s _ _ _ | refine (hput_n _ _ (by omega)).trans ?_ | exact hput_s _ _ _ | assumption) rfl ?_
    refine g_callV (rc' := 0) (rs' := 0) (As := [_]) cs_X5_125 q_X5_takeCell_29 (sp_takeNumber hΓ (hput_s _ _ _) ((hput_n _ _ (by omega)).trans h1) oX hl hp1r.2 rows ⟨by omega, by omega⟩) rfl (by repeat first | with_reducible assumption | with_reducible exact hput_s _ _ _ | refine (hput_n _ _ (by omega)).trans ?_ | exact hput_s _ _ _ | assumption) rfl rfl rfl rfl (Nat.le_of_ble_eq_true rfl) (by decide) (by decide) (by decide) (fun _ _ h => h.elim) (k_ri ?_)
    rw [hput_hput, ← hp2, ← hy]
    refine g_istore_n (L' := [_, _, _, _, _]) q_X5_takeCell_32 (by decide) rfl ?_
    refine g_iload_n q_X5_takeCell_33 rfl ?_
    refine g_iconst q_X5_takeCell_34 ?_
    refine g_icmp_ne (tgt := 40) q_X5_takeCell_35 (by decide) ⟨by omega, by omega⟩ ⟨by omega, by omega⟩ (fun e2 => ?_) (fun e2 => ?_)
    · rw [if_neg e2, if_neg e2]
      obtain ⟨z, hz⟩ : ∃ z, z = 6 * y + x := ⟨_, rfl⟩
      have bad : (SO z.toNat = 1 ∨ fstN (fun k => decide (OT k = z)) carts ≠ -1) → G Γ miX5_takeCell cX5_takeCell (ri (-1) (hput σ r (rdo r len p2 ((p2 : Int) - 1) ws))) noX 0 0 79 [some (.ref r), some (.ref a), some (.int (ii x)), some (.int (ii y)), some (.int (ii z))] [] (hput σ r (rdo r len p2 fa ws)) := by
        intro _
        refine g_aload_n q_X5_takeCell_79 rfl ?_
        refine g_aload_n q_X5_takeCell_80 rfl ?_
        refine g_get fl_X5_19 q_X5_takeCell_81 (by repeat first | with_reducible assumption | with_reducible exact hput_s _ _ _ | refine (hput_n _ _ (by omega)).trans ?_ | exact hput_s _ _ _ | assumption) rfl ?_
        refine g_iconst q_X5_takeCell_84 ?_
        refine g_isub q_X5_takeCell_85 ?_
        refine g_callV (rc' := 0) (rs' := 0) (As := [_]) cs_X5_71 q_X5_takeCell_86 (sp_failAt hΓ (hput_s _ _ _) ((p2 : Int) - 1)) rfl (by repeat first | with_reducible assumption | with_reducible exact hput_s _ _ _ | refine (hput_n _ _ (by omega)).trans ?_ | exact hput_s _ _ _ | assumption) rfl rfl rfl rfl (Nat.le_of_ble_eq_true rfl) (by decide) (by decide) (by decide) (fun _ _ h => h.elim) (k_rb ?_)
        rw [hput_hput]
        refine g_pop q_X5_takeCell_89 rfl ?_
        refine g_iconst q_X5_takeCell_90 ?_
        refine g_ireturn q_X5_takeCell_91.1 rfl ?_
        exact ⟨rfl, rfl⟩
      have hSz := oS z.toNat
      rw [← hz]
      refine g_bipush q_X5_takeCell_40 bp_6 ?_
      refine g_iload_n q_X5_takeCell_42 rfl ?_
      refine g_imul q_X5_takeCell_43 ?_
      refine g_iload_n q_X5_takeCell_44 rfl ?_
      refine g_iadd q_X5_takeCell_45 ?_
      rw [← hz]
      refine g_istore (L' := [_, _, _, _, _]) q_X5_takeCell_46 (by decide) rfl ?_
      refine g_aload_n q_X5_takeCell_48 rfl ?_
      refine g_get fl_X5_31 q_X5_takeCell_49 (by repeat first | with_reducible assumption | with_reducible exact hput_s _ _ _ | refine (hput_n _ _ (by omega)).trans ?_ | exact hput_s _ _ _ | assumption) rfl ?_
      refine g_get fl_X5_93 q_X5_takeCell_52 (by repeat first | with_reducible assumption | with_reducible exact hput_s _ _ _ | refine (hput_n _ _ (by omega)).trans ?_ | exact hput_s _ _ _ | assumption) rfl ?_
      refine g_iload q_X5_takeCell_55 rfl ?_
      refine g_iaload q_X5_takeCell_57 (by repeat first | with_reducible assumption | with_reducible exact hput_s _ _ _ | refine (hput_n _ _ (by omega)).trans ?_ | exact hput_s _ _ _ | assumption) (by omega) (by omega) ?_
      refine g_topi (b := SO z.toNat) rfl ?_
      refine g_iconst q_X5_takeCell_58 ?_
      refine g_icmp_eq (tgt := 79) q_X5_takeCell_59 (by decide) hSz ⟨by omega, by omega⟩ (fun e3 => ?_) (fun e3 => ?_)
      · rw [if_pos (Or.inl e3)]
        exact bad (Or.inl e3)
      · refine g_aload_n q_X5_takeCell_62 rfl ?_
        refine g_aload_n q_X5_takeCell_63 rfl ?_
        refine g_get fl_X5_31 q_X5_takeCell_64 (by repeat first | with_reducible assumption | with_reducible exact hput_s _ _ _ | refine (hput_n _ _ (by omega)).trans ?_ | exact hput_s _ _ _ | assumption) rfl ?_
        refine g_get fl_X5_57 q_X5_takeCell_67 (by repeat first | with_reducible assumption | with_reducible exact hput_s _ _ _ | refine (hput_n _ _ (by omega)).trans ?_ | exact hput_s _ _ _ | assumption) rfl ?_
        refine g_iload q_X5_takeCell_70 rfl ?_
        refine g_callSN (rc' := 0) (rs' := 0) (As := [_, _, _]) cs_X5_128 q_X5_takeCell_72 (sp_indexOf hΓ a 5 carts z OT hn (by decide) ((hput_n _ _ ha).trans hOT) (fun k _ => oO k) ⟨by omega, by omega⟩) rfl rfl rfl (Nat.le_of_ble_eq_true rfl) (by decide) (by decide) (by decide) (fun _ _ h => h.elim) (k_ri ?_)
        have hfr := fstN_rg (fun k => decide (OT k = z)) carts
        refine g_iconst q_X5_takeCell_75 ?_
        refine g_icmp_eq (tgt := 92) q_X5_takeCell_76 (by decide) ⟨by omega, by omega⟩ ⟨by omega, by omega⟩ (fun e4 => ?_) (fun e4 => ?_)
        · rw [if_neg (fun q => by rcases q with q | q; exact e3 q; exact q e4)]
          refine g_iload q_X5_takeCell_92 rfl ?_
          refine g_ireturn q_X5_takeCell_94.1 rfl ?_
          exact ⟨rfl, rfl⟩
        · rw [if_pos (Or.inr e4)]
          exact bad (Or.inr e4)
    · rw [if_pos e2, if_pos e2, e2]
      refine g_iconst q_X5_takeCell_38 ?_
      refine g_ireturn q_X5_takeCell_39.1 rfl ?_
      exact ⟨rfl, rfl⟩
  · rw [if_pos e1, if_pos e1]
    refine g_iconst q_X5_takeCell_17 ?_
    refine g_goto (tgt := 32) q_X5_takeCell_18 (by decide) ?_
    refine g_istore_n (L' := [_, _, _, _, _]) q_X5_takeCell_32 (by decide) rfl ?_
    refine g_iload_n q_X5_takeCell_33 rfl ?_
    refine g_iconst q_X5_takeCell_34 ?_
    refine g_icmp_ne (tgt := 40) q_X5_takeCell_35 (by decide) ⟨by omega, by omega⟩ ⟨by omega, by omega⟩ (fun e2 => ?_) (fun e2 => ?_)
    · exact absurd rfl e2
    · refine g_iconst q_X5_takeCell_38 ?_
      refine g_ireturn q_X5_takeCell_39.1 rfl ?_
      exact ⟨rfl, rfl⟩
end TX2

