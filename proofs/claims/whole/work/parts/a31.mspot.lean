/-! the reference reads: spot -/
section MSp
variable {Γ : GT} {σ : AH} {m : Nat} {J : Nat → Int} {tx : Nat → Int} {len pos a : Nat} {f : Int} {cols rows carts : Nat} {so SO OT OZ : Nat → Int}
def spB (so OZ : Nat → Int) (its k : Nat) : Bool := decide (so its ≠ 1 ∧ ∀ j, j < k → OZ j ≠ its)
/-- behind spot -/
def spQ (σ : AH) (m : Nat) (J : Nat → Int) (len : Nat) (f : Int) (y : Int × Nat × Int) : Option Value → AH → Prop := fun r σ' => (f ≠ -1 ∧ ∃ v p' : Nat, p' ≤ len ∧ r = some (.int (ii (v : Int))) ∧ v < 36 ∧ σ' = hput σ m (mdo m (pI J p' f))) ∨ (f = -1 ∧ y.1 = -1 ∧ ∃ v p' : Nat, p' ≤ len ∧ v < 36 ∧ r = some (.int (ii (v : Int))) ∧ σ' = hput σ m (mdo m (pI J p' y.2.2))) ∨ (f = -1 ∧ y.1 ≠ -1 ∧ r = some (.int (ii y.1)) ∧ σ' = hput σ m (mdo m (pI J y.2.1 (-1))))
theorem tnV_ne {lim : Int} (hl : 0 ≤ lim ∧ lim ≤ 6) (h : tnV tx len lim pos ≠ -1) : tnP tx len pos = tnS tx len pos + 1 ∧ 0 ≤ tnV tx len lim pos ∧ tnV tx len lim pos < lim := by
  have := (tnV_rg (tx := tx) (len := len) (pos := pos) hl).resolve_left h
  refine ⟨?_, this⟩
  unfold tnV at h
  split at h
  · rename_i q; exact q.1
  · exact absurd rfl h
theorem tn_idem {lim : Int} : tnV tx len lim (avn pBl tx len pos) = tnV tx len lim pos ∧ tnP tx len (avn pBl tx len pos) = tnP tx len pos ∧ tnS tx len (avn pBl tx len pos) = tnS tx len pos := by
  have e : avn pBl tx len (avn pBl tx len pos) = avn pBl tx len pos := avn_idem
  have e1 : tnS tx len (avn pBl tx len pos) = tnS tx len pos := e
  have e2 : tnP tx len (avn pBl tx len pos) = tnP tx len pos := by unfold tnP; rw [e]
  exact ⟨by unfold tnV; rw [e1, e2], e2, e1⟩
theorem sp_spot (hΓ : Gd Γ) (h0 : σ.2 m = some (mdo m (pI J pos f))) (h1 : σ.2 (m + 1) = some (ai 400 tx)) (h2 : σ.2 (m + 2) = some (ai 36 so)) (hO : σ.2 a = some (ai 5 OT)) (ham : a ≠ m) (oX : okX tx) (h3 : J 3 = len) (hl : len ≤ 400) (hp : pos ≤ len) (hfr : rg f) (j6 : J 6 = cols) (j7 : J 7 = rows) (j8 : J 8 = carts) (c6 : cols ≤ 6) (r6 : rows ≤ 6) (n5 : carts ≤ 5) (hso : ∀ c, gIn cols rows c → so c = SO c) (oS : okS so) (hOT : ∀ k, k < carts → OT k = OZ k ∧ rg (OZ k)) : Sp Γ miX10_spot 0 0 [.ref m, .ref a] σ (spQ σ m J len f (tcR tx len cols rows carts SO OZ pos (-1))) noX := by
  have hr1 := avn_rg (p := pBl) (tx := tx) hp
  have hcl : 0 ≤ (cols : Int) ∧ (cols : Int) ≤ 6 := ⟨by omega, by omega⟩
  have hrl : 0 ≤ (rows : Int) ∧ (rows : Int) ≤ 6 := ⟨by omega, by omega⟩
  -- a fault stands: the rest changes the place alone
  have rest : ∀ (τ : AH) (p : Nat) (g : Int) (l2 : Int), g ≠ -1 → rg g → p ≤ len → (∀ e, hput τ m e = hput σ m e) → τ.2 m = some (mdo m (pI J p g)) → τ.2 (m + 1) = some (ai 400 tx) → (∀ p' : Nat, p' ≤ len → spQ σ m J len f (tcR tx len cols rows carts SO OZ pos (-1)) (some (.int (ii ((0 : Nat) : Int)))) (hput σ m (mdo m (pI J p' g)))) → G Γ miX10_spot cX10_spot (spQ σ m J len f (tcR tx len cols rows carts SO OZ pos (-1))) noX 0 0 10 [some (.ref m), some (.ref a), none, none, none, none, none, none, none] [.int (ii l2)] τ := by
    intro τ p g l2 hg hgr hpl tp t0 t1 hQ
    have q1 := avn_rg (p := pBl) (tx := tx) hpl
    refine g_istore_n (L' := [_, _, _, _, _, _, _, _, _]) q_X10_spot_10 (by decide) rfl ?_
    refine g_aload_n q_X10_spot_11 rfl ?_
    refine g_callV (rc' := 0) (rs' := 0) (As := []) cs_X10_131 q_X10_spot_12 (sp_here hΓ t0 t1 oX h3 hl hpl) rfl (by repeat first | with_reducible assumption | with_reducible exact hput_s _ _ _ | refine (hput_n _ _ (by omega)).trans ?_ | exact hput_s _ _ _ | assumption) rfl rfl rfl rfl (Nat.le_of_ble_eq_true rfl) (by decide) (by decide) (by decide) (fun _ _ h => h.elim) (k_ri ?_)
    rw [tp]
    obtain ⟨p2, hp2⟩ : ∃ z, z = avn pBl tx len p := ⟨_, rfl⟩
    rw [← hp2] at q1 ⊢
    obtain ⟨ρ, hρ⟩ : ∃ ρ, ρ = hput σ m (mdo m (pI J (p2 : Int) g)) := ⟨_, rfl⟩
    have u0 : ρ.2 m = some (mdo m (pI J (p2 : Int) g)) := by rw [hρ]; exact hput_s _ _ _
    have u1 : ρ.2 (m + 1) = some (ai 400 tx) := by rw [hρ]; exact (hput_n _ _ (by omega)).trans h1
    rw [← hρ]
    refine g_istore_n (L' := [_, _, _, _, _, _, _, _, _]) q_X10_spot_15 (by decide) rfl ?_
    refine g_aload_n q_X10_spot_16 rfl ?_
    refine g_get fl_X10_125 q_X10_spot_17 (by repeat first | with_reducible assumption | with_reducible exact hput_s _ _ _ | refine (hput_n _ _ (by omega)).trans ?_ | exact hput_s _ _ _ | assumption) rfl ?_
    refine g_topi (b := (p2 : Int)) (by rfl) ?_
    refine g_istore (L' := [_, _, _, _, _, _, _, _, _]) q_X10_spot_20 (by decide) rfl ?_
    refine g_aload_n q_X10_spot_22 rfl ?_
    refine g_aload_n q_X10_spot_23 rfl ?_
    refine g_get fl_X10_173 q_X10_spot_24 (by repeat first | with_reducible assumption | with_reducible exact hput_s _ _ _ | refine (hput_n _ _ (by omega)).trans ?_ | exact hput_s _ _ _ | assumption) rfl ?_
    refine g_topi (b := (rows : Int)) (by exact j7) ?_
    refine g_iconst q_X10_spot_27 ?_
    refine g_isub q_X10_spot_28 ?_
    refine g_callV (rc' := 0) (rs' := 0) (As := [_]) cs_X10_186 q_X10_spot_29 (sp_digit hΓ u0 u1 oX h3 hl q1.2 hgr (rows : Int) hrl) rfl (by repeat first | with_reducible assumption | with_reducible exact hput_s _ _ _ | refine (hput_n _ _ (by omega)).trans ?_ | exact hput_s _ _ _ | assumption) rfl rfl rfl rfl (Nat.le_of_ble_eq_true rfl) (by decide) (by decide) (by decide) (fun _ _ h => h.elim) (fun v ρ' hq => ?_)
    rcases hq with ⟨-, rfl, rfl⟩ | ⟨q, -⟩ | ⟨q, -⟩
    · refine g_istore (L' := [_, _, _, _, _, _, _, _, _]) q_X10_spot_32 (by decide) rfl ?_
      refine g_aload_n q_X10_spot_34 rfl ?_
      refine g_get fl_X10_13 q_X10_spot_35 (by repeat first | with_reducible assumption | with_reducible exact hput_s _ _ _ | refine (hput_n _ _ (by omega)).trans ?_ | exact hput_s _ _ _ | assumption) rfl ?_
      refine g_topi (b := g) (by rfl) ?_
      refine g_iconst q_X10_spot_38 ?_
      refine g_icmp_eq (tgt := 44) q_X10_spot_39 (by decide) hgr ⟨by omega, by omega⟩ (fun b2 => ?_) (fun b2 => ?_)
      · exact absurd b2 hg
      · refine g_iconst q_X10_spot_42 ?_
        refine g_ireturn q_X10_spot_43.1 rfl ?_
        rw [hρ]
        exact hQ p2 q1.2
    · exact absurd q hg
    · exact absurd q hg
  refine Sp_of (L := [_, _, _, _, _, _, _, _, _]) hΓ (by decide +kernel) rfl (Nat.le_of_ble_eq_true rfl) rfl ?_
  refine g_aload_n q_X10_spot_0 rfl ?_
  refine g_aload_n q_X10_spot_1 rfl ?_
  refine g_get fl_X10_183 q_X10_spot_2 (by repeat first | with_reducible assumption | with_reducible exact hput_s _ _ _ | refine (hput_n _ _ (by omega)).trans ?_ | exact hput_s _ _ _ | assumption) rfl ?_
  refine g_topi (b := (cols : Int)) (by exact j6) ?_
  refine g_iconst q_X10_spot_5 ?_
  refine g_isub q_X10_spot_6 ?_
  refine g_callV (rc' := 0) (rs' := 0) (As := [_]) cs_X10_186 q_X10_spot_7 (sp_digit hΓ h0 h1 oX h3 hl hp hfr (cols : Int) hcl) rfl (by repeat first | with_reducible assumption | with_reducible exact hput_s _ _ _ | refine (hput_n _ _ (by omega)).trans ?_ | exact hput_s _ _ _ | assumption) rfl rfl rfl rfl (Nat.le_of_ble_eq_true rfl) (by decide) (by decide) (by decide) (fun _ _ h => h.elim) (fun v τ hq => ?_)
  rcases hq with ⟨q, rfl, rfl⟩ | ⟨q, hv, rfl, rfl⟩ | ⟨q, hv, rfl, rfl⟩
  · exact rest τ pos f 0 q hfr hp (fun _ => rfl) h0 h1 (fun p' hp' => Or.inl ⟨q, 0, p', hp', rfl, by omega, rfl⟩)
  · have hs1 : tnS tx len pos ≤ len := hr1.2
    refine rest _ (tnS tx len pos) (tnS tx len pos : Int) 0 (by omega) ⟨by omega, by omega⟩ hs1 (fun e => hput_hput _ _ _ _) (hput_s _ _ _) ((hput_n _ _ (by omega)).trans h1) (fun p' hp' => Or.inr (Or.inl ⟨q, ?_, 0, p', hp', by omega, rfl, ?_⟩))
    · unfold tcR; rw [if_pos hv]
    · unfold tcR; rw [if_pos hv]
  clear rest
  obtain ⟨e1, x0, x6⟩ := tnV_ne hcl hv
  have hP1 := tnP_rg (tx := tx) hp
  obtain ⟨τ, hτ⟩ : ∃ τ, τ = hput σ m (mdo m (pI J (tnP tx len pos) f)) := ⟨_, rfl⟩
  have t0 : τ.2 m = some (mdo m (pI J (tnP tx len pos) f)) := by rw [hτ]; exact hput_s _ _ _
  have t1 : τ.2 (m + 1) = some (ai 400 tx) := by rw [hτ]; exact (hput_n _ _ (by omega)).trans h1
  have tp : ∀ e, hput τ m e = hput σ m e := fun e => by rw [hτ, hput_hput]
  rw [← hτ]
  refine g_istore_n (L' := [_, _, _, _, _, _, _, _, _]) q_X10_spot_10 (by decide) rfl ?_
  refine g_aload_n q_X10_spot_11 rfl ?_
  refine g_callV (rc' := 0) (rs' := 0) (As := []) cs_X10_131 q_X10_spot_12 (sp_here hΓ t0 t1 oX h3 hl hP1.2) rfl (by repeat first | with_reducible assumption | with_reducible exact hput_s _ _ _ | refine (hput_n _ _ (by omega)).trans ?_ | exact hput_s _ _ _ | assumption) rfl rfl rfl rfl (Nat.le_of_ble_eq_true rfl) (by decide) (by decide) (by decide) (fun _ _ h => h.elim) (k_ri ?_)
  rw [tp]
  clear tp t1 t0 hτ
  have hr2 := avn_rg (p := pBl) (tx := tx) hP1.2
  obtain ⟨i1, i2, i3⟩ := tn_idem (tx := tx) (len := len) (pos := tnP tx len pos) (lim := (rows : Int))
  have i4 : tnS tx len (tnP tx len pos) = avn pBl tx len (tnP tx len pos) := rfl
  obtain ⟨p2, hp2⟩ : ∃ z, z = avn pBl tx len (tnP tx len pos) := ⟨_, rfl⟩
  rw [← hp2] at hr2 i1 i2 i3 i4 ⊢
  obtain ⟨ρ, hρ⟩ : ∃ ρ, ρ = hput σ m (mdo m (pI J (p2 : Int) f)) := ⟨_, rfl⟩
  have u0 : ρ.2 m = some (mdo m (pI J (p2 : Int) f)) := by rw [hρ]; exact hput_s _ _ _
  have u1 : ρ.2 (m + 1) = some (ai 400 tx) := by rw [hρ]; exact (hput_n _ _ (by omega)).trans h1
  have up : ∀ e, hput ρ m e = hput σ m e := fun e => by rw [hρ, hput_hput]
  rw [← hρ]
  have hcr := chA_rg oX len p2
  refine g_istore_n (L' := [_, _, _, _, _, _, _, _, _]) q_X10_spot_15 (by decide) rfl ?_
  refine g_aload_n q_X10_spot_16 rfl ?_
  refine g_get fl_X10_125 q_X10_spot_17 (by repeat first | with_reducible assumption | with_reducible exact hput_s _ _ _ | refine (hput_n _ _ (by omega)).trans ?_ | exact hput_s _ _ _ | assumption) rfl ?_
  refine g_topi (b := (p2 : Int)) (by rfl) ?_
  refine g_istore (L' := [_, _, _, _, _, _, _, _, _]) q_X10_spot_20 (by decide) rfl ?_
  refine g_aload_n q_X10_spot_22 rfl ?_
  refine g_aload_n q_X10_spot_23 rfl ?_
  refine g_get fl_X10_173 q_X10_spot_24 (by repeat first | with_reducible assumption | with_reducible exact hput_s _ _ _ | refine (hput_n _ _ (by omega)).trans ?_ | exact hput_s _ _ _ | assumption) rfl ?_
  refine g_topi (b := (rows : Int)) (by exact j7) ?_
  refine g_iconst q_X10_spot_27 ?_
  refine g_isub q_X10_spot_28 ?_
  refine g_callV (rc' := 0) (rs' := 0) (As := [_]) cs_X10_186 q_X10_spot_29 (sp_digit hΓ u0 u1 oX h3 hl hr2.2 hfr (rows : Int) hrl) rfl (by repeat first | with_reducible assumption | with_reducible exact hput_s _ _ _ | refine (hput_n _ _ (by omega)).trans ?_ | exact hput_s _ _ _ | assumption) rfl rfl rfl rfl (Nat.le_of_ble_eq_true rfl) (by decide) (by decide) (by decide) (fun _ _ h => h.elim) (fun v ρ' hq => ?_)
  rcases hq with ⟨q2, -⟩ | ⟨-, hv2, rfl, rfl⟩ | ⟨-, hv2, rfl, rfl⟩
  · exact absurd q q2
  · rw [up, i3, i4]
    rw [i1] at hv2
    refine g_istore (L' := [_, _, _, _, _, _, _, _, _]) q_X10_spot_32 (by decide) rfl ?_
    refine g_aload_n q_X10_spot_34 rfl ?_
    refine g_get fl_X10_13 q_X10_spot_35 (by repeat first | with_reducible assumption | with_reducible exact hput_s _ _ _ | refine (hput_n _ _ (by omega)).trans ?_ | exact hput_s _ _ _ | assumption) rfl ?_
    refine g_topi (b := (p2 : Int)) (by rfl) ?_
    refine g_iconst q_X10_spot_38 ?_
    refine g_icmp_eq (tgt := 44) q_X10_spot_39 (by decide) ⟨by omega, by omega⟩ ⟨by omega, by omega⟩ (fun b2 => ?_) (fun b2 => ?_)
    · omega
    · refine g_iconst q_X10_spot_42 ?_
      refine g_ireturn q_X10_spot_43.1 rfl ?_
      refine Or.inr (Or.inl ⟨q, ?_, 0, p2, hr2.2, by omega, rfl, ?_⟩)
      · unfold tcR; rw [if_neg hv, if_pos hv2]
      · unfold tcR; rw [if_neg hv, if_pos hv2, i4]
  rw [up, i1, i2]
  rw [i1] at hv2
  obtain ⟨e2, y0, y6⟩ := tnV_ne hrl hv2
  rw [i4] at e2
  subst q
  obtain ⟨X, hX⟩ : ∃ X : Nat, tnV tx len cols pos = X := ⟨(tnV tx len cols pos).toNat, by omega⟩
  obtain ⟨Y, hY⟩ : ∃ Y : Nat, tnV tx len rows (tnP tx len pos) = Y := ⟨(tnV tx len rows (tnP tx len pos)).toNat, by omega⟩
  obtain ⟨its, hits⟩ : ∃ its, its = 6 * Y + X := ⟨_, rfl⟩
  have hg : gIn cols rows its := ⟨by omega, by omega⟩
  have hi36 : its < 36 := gIn_36 r6 hg
  have heI : 6 * tnV tx len rows (tnP tx len pos) + tnV tx len cols pos = (its : Int) := by omega
  have eT : tcR tx len cols rows carts SO OZ pos (-1) = if SO its = 1 ∨ fstN (fun k => decide (OZ k = (its : Int))) carts ≠ -1 then (-1, p2 + 1, (p2 : Int)) else ((its : Int), p2 + 1, -1) := by
    unfold tcR
    rw [if_neg hv, if_neg hv2, heI, e2, Int.toNat_natCast, show ((p2 + 1 : Nat) : Int) - 1 = (p2 : Int) by omega]
  rw [e2, hX, hY]
  have hP2 : p2 + 1 ≤ len := by
    have := tnP_rg (tx := tx) hP1.2
    omega
  obtain ⟨ω, hω⟩ : ∃ ω, ω = hput σ m (mdo m (pI J ((p2 + 1 : Nat) : Int) (-1))) := ⟨_, rfl⟩
  have w0 : ω.2 m = some (mdo m (pI J ((p2 + 1 : Nat) : Int) (-1))) := by rw [hω]; exact hput_s _ _ _
  have w2 : ω.2 (m + 2) = some (ai 36 so) := by rw [hω]; exact (hput_n _ _ (by omega)).trans h2
  have wO : ω.2 a = some (ai 5 OT) := by rw [hω]; exact (hput_n _ _ ham).trans hO
  have wp : ∀ e, hput ω m e = hput σ m e := fun e => by rw [hω, hput_hput]
  refine g_eq (σ2 := ω) rfl rfl hω.symm ?_
  have hsi := hso its hg
  have hsr := oS its
  refine g_istore (L' := [_, _, _, _, _, _, _, _, _]) q_X10_spot_32 (by decide) rfl ?_
  refine g_aload_n q_X10_spot_34 rfl ?_
  refine g_get fl_X10_13 q_X10_spot_35 (by repeat first | with_reducible assumption | with_reducible exact hput_s _ _ _ | refine (hput_n _ _ (by omega)).trans ?_ | exact hput_s _ _ _ | assumption) rfl ?_
  refine g_topi (b := (-1 : Int)) (by rfl) ?_
  refine g_iconst q_X10_spot_38 ?_
  refine g_icmp_eq (tgt := 44) q_X10_spot_39 (by decide) ⟨by omega, by omega⟩ ⟨by omega, by omega⟩ (fun b2 => ?_) (fun b2 => ?_)
  case refine_2 => exact absurd rfl b2
  refine g_bipush q_X10_spot_44 bp_6 ?_
  refine g_iload q_X10_spot_46 rfl ?_
  refine g_imul q_X10_spot_48 ?_
  refine g_iload_n q_X10_spot_49 rfl ?_
  refine g_iadd q_X10_spot_50 ?_
  refine g_topi (b := (its : Int)) (by omega) ?_
  refine g_istore (L' := [_, _, _, _, _, _, _, _, _]) q_X10_spot_51 (by decide) rfl ?_
  have loop : ∀ b : Bool, b = decide (so its ≠ 1) → G Γ miX10_spot cX10_spot (spQ σ m J len (-1) (tcR tx len cols rows carts SO OZ pos (-1))) noX 0 0 74 [some (.ref m), some (.ref a), some (.int (ii X)), some (.int (ii (chA tx len p2))), some (.int (ii p2)), some (.int (ii Y)), some (.int (ii its)), none, none] [.int (ii (bi b))] ω := by
    intro b hb
    refine g_istore (L' := [_, _, _, _, _, _, _, _, _]) q_X10_spot_74 (by decide) rfl ?_
    refine g_iconst q_X10_spot_76 ?_
    refine g_istore (L' := [_, _, _, _, _, _, _, _, _]) q_X10_spot_77 (by decide) rfl ?_
    refine g_eq (L2 := [some (.ref m), some (.ref a), some (.int (ii X)), some (.int (ii (chA tx len p2))), some (.int (ii p2)), some (.int (ii Y)), some (.int (ii its)), some (.int (ii (bi (spB so OZ its 0)))), some (.int (ii ((0 : Nat) : Int)))]) ?_ rfl rfl ?_
    · rw [hb, show decide (so its ≠ 1) = spB so OZ its 0 from decide_eq_decide.mpr ⟨fun q => ⟨q, fun j hj => absurd hj (Nat.not_lt_zero j)⟩, fun q => q.1⟩]
      rfl
    refine g_loop (fun k => k ≤ carts) (fun k : Nat => G Γ miX10_spot cX10_spot (spQ σ m J len (-1) (tcR tx len cols rows carts SO OZ pos (-1))) noX 0 0 79 [some (.ref m), some (.ref a), some (.int (ii X)), some (.int (ii (chA tx len p2))), some (.int (ii p2)), some (.int (ii Y)), some (.int (ii its)), some (.int (ii (bi (spB so OZ its k)))), some (.int (ii k))] [] ω) (fun k => carts - k) ?_ 0 (Nat.zero_le _)
    intro k hk ih
    refine g_iload q_X10_spot_79 rfl ?_
    refine g_aload_n q_X10_spot_81 rfl ?_
    refine g_get fl_X10_176 q_X10_spot_82 (by repeat first | with_reducible assumption | with_reducible exact hput_s _ _ _ | refine (hput_n _ _ (by omega)).trans ?_ | exact hput_s _ _ _ | assumption) rfl ?_
    refine g_topi (b := (carts : Int)) (by exact j8) ?_
    refine g_icmp_ge (tgt := 115) q_X10_spot_85 (by decide) ⟨by omega, by omega⟩ ⟨by omega, by omega⟩ (fun b3 => ?_) (fun b3 => ?_)
    · have e : k = carts := by omega
      subst e
      refine g_iload q_X10_spot_115 rfl ?_
      refine g_if_ne (tgt := 130) q_X10_spot_117 (by decide) (bi_rg _) (fun b4 => ?_) (fun b4 => ?_)
      · have hok := of_decide_eq_true (bi_t b4)
        have eT2 : tcR tx len cols rows k SO OZ pos (-1) = ((its : Int), p2 + 1, -1) := by
          rw [eT, if_neg]
          rintro (q | q)
          · exact hok.1 (hsi.trans q)
          · exact q (fstN_none fun j hj => decide_eq_false (hok.2 j hj))
        refine g_iload q_X10_spot_130 rfl ?_
        refine g_ireturn q_X10_spot_132.1 rfl ?_
        refine Or.inr (Or.inr ⟨rfl, ?_, ?_, ?_⟩)
        · rw [eT2]; show (its : Int) ≠ -1; omega
        · rw [eT2]
        · rw [eT2, hω]
      · have hno := of_decide_eq_false (bi_f (show bi (spB so OZ its k) = 0 by omega))
        have eT2 : tcR tx len cols rows k SO OZ pos (-1) = (-1, p2 + 1, (p2 : Int)) := by
          rw [eT, if_pos]
          refine Classical.byContradiction fun q => hno ⟨fun q2 => q (Or.inl (hsi.symm.trans q2)), fun j hj q2 => q (Or.inr fun q3 => ?_)⟩
          rcases fstN_cases (fun k => decide (OZ k = (its : Int))) k with ⟨-, q4⟩ | ⟨i, q5, q6, -⟩
          · exact of_decide_eq_false (q4 j hj) q2
          · omega
        refine g_aload_n q_X10_spot_120 rfl ?_
        refine g_iload q_X10_spot_121 rfl ?_
        refine g_putM fp_X10_125 q_X10_spot_123 (by repeat first | with_reducible assumption | with_reducible exact hput_s _ _ _ | refine (hput_n _ _ (by omega)).trans ?_ | exact hput_s _ _ _ | assumption) rfl rfl mset_4 ?_
        rw [wp, pI_4]
        have z0 : (hput σ m (mdo m (pI J (p2 : Int) (-1)))).2 m = some (mdo m (pI J (p2 : Int) (-1))) := hput_s _ _ _
        refine g_aload_n q_X10_spot_126 rfl ?_
        refine g_callV (rc' := 0) (rs' := 0) (As := []) cs_X10_151 q_X10_spot_127 (sp_mwrong hΓ z0 ⟨by decide, by decide⟩) rfl (by repeat first | with_reducible assumption | with_reducible exact hput_s _ _ _ | refine (hput_n _ _ (by omega)).trans ?_ | exact hput_s _ _ _ | assumption) rfl rfl rfl rfl (Nat.le_of_ble_eq_true rfl) (by decide) (by decide) (by decide) (fun _ _ h => h.elim) (k_rv ?_)
        rw [if_pos rfl, hput_hput]
        refine g_iload q_X10_spot_130 rfl ?_
        refine g_ireturn q_X10_spot_132.1 rfl ?_
        refine Or.inr (Or.inl ⟨rfl, ?_, its, p2, by omega, hi36, rfl, ?_⟩)
        · rw [eT2]
        · rw [eT2]
    · obtain ⟨o1, o2⟩ := hOT k (by omega)
      have hnx := ih (k + 1) (by omega) (by omega)
      have step : ∀ b : Bool, b = spB so OZ its (k + 1) → G Γ miX10_spot cX10_spot (spQ σ m J len (-1) (tcR tx len cols rows carts SO OZ pos (-1))) noX 0 0 107 [some (.ref m), some (.ref a), some (.int (ii X)), some (.int (ii (chA tx len p2))), some (.int (ii p2)), some (.int (ii Y)), some (.int (ii its)), some (.int (ii (bi (spB so OZ its k)))), some (.int (ii k))] [.int (ii (bi b))] ω := by
        intro b hb
        rw [hb]
        refine g_istore (L' := [_, _, _, _, _, _, _, _, _]) q_X10_spot_107 (by decide) rfl ?_
        refine g_iinc (L' := [_, _, _, _, _, _, _, _, _]) q_X10_spot_109 rfl rfl ?_
        refine g_goto (tgt := 79) q_X10_spot_112 (by decide) ?_
        exact hnx
      refine g_iload q_X10_spot_88 rfl ?_
      refine g_if_eq (tgt := 106) q_X10_spot_90 (by decide) (bi_rg _) (fun b4 => ?_) (fun b4 => ?_)
      · have hno := of_decide_eq_false (bi_f b4)
        refine g_iconst q_X10_spot_106 ?_
        exact step false (show spB so OZ its (k + 1) = false from decide_eq_false (fun q => hno ⟨q.1, fun j hj => q.2 j (by omega)⟩)).symm
      have hok := of_decide_eq_true (bi_t b4)
      refine g_aload_n q_X10_spot_93 rfl ?_
      refine g_iload q_X10_spot_94 rfl ?_
      refine g_iaload q_X10_spot_96 (by repeat first | with_reducible assumption | with_reducible exact hput_s _ _ _ | refine (hput_n _ _ (by omega)).trans ?_ | exact hput_s _ _ _ | assumption) (by omega) (by omega) ?_
      refine g_topi (b := OZ k) (by exact o1) ?_
      refine g_iload q_X10_spot_97 rfl ?_
      refine g_icmp_eq (tgt := 106) q_X10_spot_99 (by decide) o2 ⟨by omega, by omega⟩ (fun b5 => ?_) (fun b5 => ?_)
      · refine g_iconst q_X10_spot_106 ?_
        exact step false (show spB so OZ its (k + 1) = false from decide_eq_false (fun q => q.2 k (by omega) b5)).symm
      · refine g_iconst q_X10_spot_102 ?_
        refine g_goto (tgt := 107) q_X10_spot_103 (by decide) ?_
        exact step true (show spB so OZ its (k + 1) = true from decide_eq_true ⟨hok.1, fun j hj => by
          by_cases ej : j = k
          · rw [ej]; exact b5
          · exact hok.2 j (by omega)⟩).symm
  refine g_aload_n q_X10_spot_53 rfl ?_
  refine g_get fl_X10_17 q_X10_spot_54 (by repeat first | with_reducible assumption | with_reducible exact hput_s _ _ _ | refine (hput_n _ _ (by omega)).trans ?_ | exact hput_s _ _ _ | assumption) rfl ?_
  refine g_iload q_X10_spot_57 rfl ?_
  refine g_iaload q_X10_spot_59 (by repeat first | with_reducible assumption | with_reducible exact hput_s _ _ _ | refine (hput_n _ _ (by omega)).trans ?_ | exact hput_s _ _ _ | assumption) (by omega) (by omega) ?_
  refine g_topi (b := so its) (by rfl) ?_
  refine g_iconst q_X10_spot_60 ?_
  refine g_icmp_eq (tgt := 73) q_X10_spot_61 (by decide) ⟨by omega, by omega⟩ ⟨by omega, by omega⟩ (fun b3 => ?_) (fun b3 => ?_)
  · refine g_iconst q_X10_spot_73 ?_
    exact loop false (decide_eq_false (fun q => q b3)).symm
  refine g_iload_n q_X10_spot_64 rfl ?_
  refine g_iconst q_X10_spot_65 ?_
  refine g_icmp_eq (tgt := 73) q_X10_spot_66 (by decide) ⟨by omega, by omega⟩ ⟨by omega, by omega⟩ (fun b4 => ?_) (fun b4 => ?_)
  · exact absurd ((chA_n oX).mp b4) (by omega)
  · refine g_iconst q_X10_spot_69 ?_
    refine g_goto (tgt := 74) q_X10_spot_70 (by decide) ?_
    exact loop true (decide_eq_true b3).symm
end MSp

