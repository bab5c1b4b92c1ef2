/-! CartPaths: read; what a text that is read gives -/
theorem lnS_wf {tx : Nat → Int} {len : Nat} {x : PS} (oX : okX tx) (hp : zPo x ≤ len) (h : WFz x) (hs : (lnS tx len x).1 = 0) : WFz (lnS tx len x).2.2 := by
  have hok := (lnS_ok oX ⟨hp, h.1⟩ hs).1.2
  obtain ⟨hg, h4, h5, h6⟩ := h
  have hr1 := avn_rg (p := pBl) (tx := tx) hp
  have hr2 := avn_rg (p := pLe) (tx := tx) hr1.2
  have hr3 := avn_rg (p := pBl) (tx := tx) hr2.2
  have hr4 := avn_rg (p := pSg) (tx := tx) hr3.2
  unfold lnS lnS1 at hs hok ⊢
  obtain ⟨p1, hp1⟩ : ∃ z, z = avn pBl tx len (zPo x) := ⟨_, rfl⟩
  rw [← hp1] at hr1 hr2 hr3 hr4 hs hok ⊢
  obtain ⟨p2, hp2⟩ : ∃ z, z = avn pLe tx len p1 := ⟨_, rfl⟩
  rw [← hp2] at hr2 hr3 hr4 hs hok ⊢
  split at hs
  · cases hs
  rename_i e0
  rw [if_neg e0] at hok ⊢
  split at hs
  · rename_i e1
    rw [if_pos e1] at hok ⊢
    unfold lnR lnR1 at hs hok ⊢
    split at hs
    · cases hs
    rename_i e2
    rw [if_neg e2] at hok ⊢
    obtain ⟨w1, w2, w3⟩ := lnE_ok hr4.2 hs
    rw [w1] at hok ⊢
    have hca : zCa x = 0 := e1.2.2
    exact ⟨hok, fun k hk => absurd (show k < zCa x from hk) (by omega), fun i j _ hj => absurd (show j < zCa x from hj) (by omega), fun k hk => absurd (show k < zCa x from hk) (by omega)⟩
  · rename_i e1
    rw [if_neg e1] at hok ⊢
    split at hs
    · rename_i e5
      rw [if_pos e5] at hok ⊢
      unfold lnC lnC1 at hs hok ⊢
      split at hs
      · rename_i e2
        rw [if_pos e2] at hok ⊢
        obtain ⟨q1, q2, q3, q4, q5⟩ := cu_rg hg.1.1 hg.1.2.1 hr2.2 e2
        obtain ⟨w1, w2, w3⟩ := lnE_ok q3 hs
        rw [w1] at hok ⊢
        obtain ⟨Y, hY⟩ : ∃ Y, Y = cuR tx len (zCo x) (zRo x) (zCa x) (zSO x) (zPL x) (zGO x) (zLE x) (zNL x) p2 := ⟨_, rfl⟩
        rw [← hY] at q4 q5 hok ⊢
        obtain ⟨r1, hr1e⟩ : ∃ z, z = avn pBl tx len p2 := ⟨_, rfl⟩
        rw [← hr1e] at q1 hok ⊢
        obtain ⟨r2, hr2e⟩ : ∃ z, z = avn pLe tx len r1 := ⟨_, rfl⟩
        rw [← hr2e] at q1 hok ⊢
        unfold okNm at q1
        simp only [Bool.and_eq_true] at q1
        have hm := of_decide_eq_true q1.1.1
        refine ⟨hok, fun k hk => ?_, fun i j hij hj => ?_, fun k hk => ?_⟩
        · have hk' : k < zCa x + 1 := hk
          show inGr x (va_up (zPL x) (zCa x) Y.2.2.1 k) ∧ zSO x (va_up (zPL x) (zCa x) Y.2.2.1 k).toNat ≠ 1 ∧ inGr x (va_up (zGO x) (zCa x) Y.2.2.2 k) ∧ zSO x (va_up (zGO x) (zCa x) Y.2.2.2 k).toNat ≠ 1
          unfold va_up
          by_cases e : k = zCa x
          · rw [if_pos e, if_pos e]
            exact ⟨⟨q4.1.1, q4.2.1, q4.2.2.1⟩, q4.2.2.2.1, ⟨q5.1.1, q5.2.1, q5.2.2.1⟩, q5.2.2.2.1⟩
          · rw [if_neg e, if_neg e]
            exact h4 k (by omega)
        · have hj' : j < zCa x + 1 := hj
          show va_up (zPL x) (zCa x) Y.2.2.1 i ≠ va_up (zPL x) (zCa x) Y.2.2.1 j ∧ va_up (zGO x) (zCa x) Y.2.2.2 i ≠ va_up (zGO x) (zCa x) Y.2.2.2 j
          unfold va_up
          have hi : i ≠ zCa x := by omega
          rw [if_neg hi, if_neg hi]
          by_cases e : j = zCa x
          · rw [if_pos e, if_pos e]
            exact ⟨q4.2.2.2.2 i (by omega), q5.2.2.2.2 i (by omega)⟩
          · rw [if_neg e, if_neg e]
            exact h5 i j hij (by omega)
        · have hk' : k < zCa x + 1 := hk
          show 1 ≤ va_up (zNL x) (zCa x) ((r2 - r1 : Nat) : Int) k ∧ ∀ j : Nat, (j : Int) < va_up (zNL x) (zCa x) ((r2 - r1 : Nat) : Int) k → 97 ≤ va_cpy tx (zLE x) r1 (6 * zCa x) (r2 - r1) (6 * k + j) ∧ va_cpy tx (zLE x) r1 (6 * zCa x) (r2 - r1) (6 * k + j) ≤ 122
          have hnl := hg.2.2.2.2.2 k
          unfold va_up
          by_cases e : k = zCa x
          · rw [if_pos e]
            refine ⟨by omega, fun j hj => ?_⟩
            unfold va_cpy
            rw [if_pos (by omega)]
            have h8 := (avn_all (p := pLe) (tx := tx) (len := len) _ r1 rfl (r1 + (6 * k + j - 6 * zCa x)) (by omega) (by omega)).2
            unfold pLe at h8
            exact of_decide_eq_true h8
          · rw [if_neg e]
            refine ⟨(h6 k (by omega)).1, fun j hj => ?_⟩
            unfold va_cpy
            rw [if_neg (by omega)]
            exact (h6 k (by omega)).2 j hj
      · cases hs
    · cases hs
theorem psN_wf {tx : Nat → Int} {len : Nat} (oX : okX tx) : ∀ (f : Nat) (x : PS), zPo x ≤ len → WFz x → (psN tx len f x).1 = -1 → WFz (psN tx len f x).2
  | 0, x, _, h, _ => h
  | f + 1, x, hp, h, hs => by
    unfold psN at hs ⊢
    by_cases e : (lnS tx len x).1 = 0
    · rw [if_pos e] at hs ⊢
      exact psN_wf oX f _ (lnS_ok oX ⟨hp, h.1⟩ e).1.1 (lnS_wf oX hp h e) hs
    · rw [if_neg e] at hs ⊢
      split <;> exact h
/-- what lies in rows behind the last cart -/
def gbg (PL GO LE NL : Nat → Int) : Prop := okQ 0 PL ∧ okQ 0 GO ∧ (∀ k, rg (LE k)) ∧ ∀ k, 0 ≤ NL k ∧ NL k ≤ 6
/-- the scene that a text tells -/
def prZ (tx : Nat → Int) (len : Nat) (PL GO LE NL : Nat → Int) : PS := (0, (prR tx len PL GO LE NL).2.2)
theorem prZ_wf {tx : Nat → Int} {len : Nat} {PL GO LE NL : Nat → Int} (oX : okX tx) (h : gbg PL GO LE NL) (hf : prF tx len PL GO LE NL = -1) : WFz (prZ tx len PL GO LE NL) := by
  have h1 : (prR tx len PL GO LE NL).1 = -1 := by
    unfold prF at hf
    split at hf
    · omega
    · exact hf
  exact psN_wf oX 401 (prS PL GO LE NL) (Nat.zero_le _) ⟨⟨⟨Nat.zero_le _, Nat.zero_le _, Nat.zero_le _⟩, fun k => ⟨Int.le_refl 0, by show (0 : Int) < 6; decide⟩, h.1, h.2.1, h.2.2.1, h.2.2.2⟩, fun k hk => absurd hk (Nat.not_lt_zero k), fun i j _ hj => absurd hj (Nat.not_lt_zero j), fun k hk => absurd hk (Nat.not_lt_zero k)⟩ h1
section X9D
variable {Γ : GT} {σ : AH} {x lo N : Nat} {R : Nat → Nat} {len : Nat} {tx : Nat → Int} {fa : Int} {z : PS} {l : List (Int × Int × Int)} {wl : Nat} {wr : Nat → Int}
theorem sp_read (hΓ : Gd Γ) (hN : N < 1000) (hX : CX σ x lo N R len tx fa z l wl wr) : Sp Γ miX9_read 8 48 [.ref x] σ (fun v σ' => ∃ PL GO LE NL, gbg PL GO LE NL ∧ prF tx len PL GO LE NL = -1 ∧ v = some (.int (ii (zCa (prZ tx len PL GO LE NL)))) ∧ SX σ x lo (N + 1) R 0 tx (-1) (prZ tx len PL GO LE NL) [] wl wr σ') (fun E σ' => ∃ PL GO LE NL, gbg PL GO LE NL ∧ prF tx len PL GO LE NL ≠ -1 ∧ E = xIAE ∧ SX σ x lo (N + 1) R 0 tx (prF tx len PL GO LE NL) z l wl wr σ') := by
  have hX' := hX
  obtain ⟨ve, av, hh⟩ := hX'
  have hh' := hh
  obtain ⟨h1, h2, h3, h4, h5, q1, q2, ⟨y, lv, y1, yR⟩, q4, q5, q6, -⟩ := hh'
  have hlen := h1.2.2.2.1
  have hgb : gbg (zPL y) (zGO y) (zLE y) (zNL y) := ⟨okQ_0 y1.2.2.1, okQ_0 y1.2.2.2.1, y1.2.2.2.2.1, y1.2.2.2.2.2⟩
  have yR' := yR
  obtain ⟨⟨ws, y2⟩, -⟩ := yR'
  refine Sp_of (L := [_]) hΓ (by decide +kernel) rfl (Nat.le_of_ble_eq_true rfl) rfl ?_
  refine g_aload_n q_X9_read_0 rfl ?_
  refine g_get fl_X9_10 q_X9_read_1 (by repeat first | with_reducible assumption | with_reducible exact hput_s _ _ _ | refine (hput_n _ _ (by omega)).trans ?_ | exact hput_s _ _ _ | assumption) rfl ?_
  refine g_callVN (rc' := 8) (rs' := 48) (As := []) cs_X9_93 q_X9_read_4 (sp_parse hΓ yR h2 hlen y1) rfl (by repeat first | with_reducible assumption | with_reducible exact hput_s _ _ _ | refine (hput_n _ _ (by omega)).trans ?_ | exact hput_s _ _ _ | assumption) rfl rfl rfl rfl (Nat.le_of_ble_eq_true rfl) (by decide) (by decide) (by decide) (fun _ _ h => h.elim) (fun v σ1 hq => ?_)
  obtain ⟨rfl, hE, w, w1, ⟨⟨ws2, w2⟩, w3, w4⟩, w5, w6⟩ := hq
  have eF : (if (prR tx len (zPL y) (zGO y) (zLE y) (zNL y)).1 = -1 ∧ zRo (prR tx len (zPL y) (zGO y) (zLE y) (zNL y)).2 = 0 then (len : Int) else (prR tx len (zPL y) (zGO y) (zLE y) (zNL y)).1) = prF tx len (zPL y) (zGO y) (zLE y) (zNL y) := rfl
  rw [eF] at w2 w5 w6
  obtain ⟨F, hF⟩ : ∃ F, F = prF tx len (zPL y) (zGO y) (zLE y) (zNL y) := ⟨_, rfl⟩
  rw [← hF] at w2 w5 w6
  have kx : σ1.2 x = some (cpo x av wl ve) := (hE.2 x (by rintro (h | ⟨h, -⟩) <;> omega)).trans q2
  have hE1 : eqOff σ σ1 (inb (x + 1) 9) := eqOff.rfl'.trans hE (fun a i => by rcases i with i | i <;> (unfold inb at *; omega))
  refine g_aload_n q_X9_read_7 rfl ?_
  refine g_get fl_X9_10 q_X9_read_8 (by repeat first | with_reducible assumption | with_reducible exact hput_s _ _ _ | refine (hput_n _ _ (by omega)).trans ?_ | exact hput_s _ _ _ | assumption) rfl ?_
  refine g_iconst q_X9_read_11 ?_
  refine g_put fp_X9_86 q_X9_read_12 (by repeat first | with_reducible assumption | with_reducible exact hput_s _ _ _ | refine (hput_n _ _ (by omega)).trans ?_ | exact hput_s _ _ _ | assumption) rfl rfl ?_
  obtain ⟨σ2, hσ2⟩ : ∃ τ, τ = hput σ1 (x + 1) (rdo (x + 1) 0 (zPo w) F ws2) := ⟨_, rfl⟩
  have k0 : σ2.2 (x + 1) = some (rdo (x + 1) 0 (zPo w) F ws2) := by rw [hσ2]; exact (by repeat first | with_reducible assumption | with_reducible exact hput_s _ _ _ | refine (hput_n _ _ (by omega)).trans ?_ | exact hput_s _ _ _ | assumption)
  have kx2 : σ2.2 x = some (cpo x av wl ve) := by rw [hσ2]; exact (by repeat first | with_reducible assumption | with_reducible exact hput_s _ _ _ | refine (hput_n _ _ (by omega)).trans ?_ | exact hput_s _ _ _ | assumption)
  have hE2 : eqOff σ σ2 (inb (x + 1) 9) := by rw [hσ2]; exact hE1.put ⟨by omega, by omega⟩ _
  have k3 : σ2.2 (x + 1 + 1) = some (ai 400 tx) := by rw [hσ2]; exact (by repeat first | with_reducible assumption | with_reducible exact hput_s _ _ _ | refine (hput_n _ _ (by omega)).trans ?_ | exact hput_s _ _ _ | assumption)
  have k4 : SCo σ2 (x + 1 + 2) (zCo w) (zRo w) (zCa w) (zSO w) (zPL w) (zGO w) (zLE w) (zNL w) lv := by rw [hσ2]; exact w4.keep (fun a i => hput_n _ _ (by unfold inb at i; omega))
  have hh2 : CXh σ2 x lo N R 0 tx F z l wl wr ve av := hh.k1 hE2 ⟨w, lv, w1.2, ⟨ws2, k0⟩, k3, k4⟩ (by omega) h2 ⟨by omega, by omega⟩
  refine g_eq (σ2 := σ2) rfl rfl hσ2.symm ?_
  have heG : eqG σ σ2 (fX x lo) := eqG_fX hE2 (fun a i => by unfold inb at i ⊢; omega)
  clear hσ2
  refine g_aload_n q_X9_read_15 rfl ?_
  refine g_get fl_X9_10 q_X9_read_16 (by repeat first | with_reducible assumption | with_reducible exact hput_s _ _ _ | refine (hput_n _ _ (by omega)).trans ?_ | exact hput_s _ _ _ | assumption) rfl ?_
  refine g_get fl_X9_96 q_X9_read_19 (by repeat first | with_reducible assumption | with_reducible exact hput_s _ _ _ | refine (hput_n _ _ (by omega)).trans ?_ | exact hput_s _ _ _ | assumption) rfl ?_
  refine g_iconst q_X9_read_22 ?_
  refine g_icmp_eq (tgt := 34) q_X9_read_23 (by decide) ⟨by omega, by omega⟩ ⟨by omega, by omega⟩ (fun b1 => ?_) (fun b1 => ?_)
  · have q6' := hh2.2.2.2.2.2.2.2.2.2.2.1
    have q4' := hh2.2.2.2.2.2.2.2.2.1
    have g0 := q4'.1
    refine g_aload_n q_X9_read_34 rfl ?_
    refine g_get fl_X9_19 q_X9_read_35 (by repeat first | with_reducible assumption | with_reducible exact hput_s _ _ _ | refine (hput_n _ _ (by omega)).trans ?_ | exact hput_s _ _ _ | assumption) rfl ?_
    refine g_aload_n q_X9_read_38 rfl ?_
    refine g_get fl_X9_10 q_X9_read_39 (by repeat first | with_reducible assumption | with_reducible exact hput_s _ _ _ | refine (hput_n _ _ (by omega)).trans ?_ | exact hput_s _ _ _ | assumption) rfl ?_
    refine g_get fl_X9_102 q_X9_read_42 (by repeat first | with_reducible assumption | with_reducible exact hput_s _ _ _ | refine (hput_n _ _ (by omega)).trans ?_ | exact hput_s _ _ _ | assumption) rfl ?_
    refine g_callVN (rc' := 8) (rs' := 48) (As := [_]) cs_X9_103 q_X9_read_45 (sp_copyFrom hΓ q4' k4 (Or.inl (by omega))) rfl (by repeat first | with_reducible assumption | with_reducible exact hput_s _ _ _ | refine (hput_n _ _ (by omega)).trans ?_ | exact hput_s _ _ _ | assumption) rfl rfl rfl rfl (Nat.le_of_ble_eq_true rfl) (by decide) (by decide) (by decide) (fun _ _ h => h.elim) (fun v σ3 hq => ?_)
    obtain ⟨rfl, m1, m2⟩ := hq
    have kx3 : σ3.2 x = some (cpo x av wl ve) := (m2.2 x (by unfold inb; omega)).trans kx2
    have qA := q6'.keep (σ' := σ3) (fun a i => m2.2 a (by unfold inb at i ⊢; omega))
    have qA0 := qA.2.1
    refine g_aload_n q_X9_read_48 rfl ?_
    refine g_get fl_X9_29 q_X9_read_49 (by repeat first | with_reducible assumption | with_reducible exact hput_s _ _ _ | refine (hput_n _ _ (by omega)).trans ?_ | exact hput_s _ _ _ | assumption) rfl ?_
    refine g_callVN (rc' := 8) (rs' := 48) (As := []) cs_X9_107 q_X9_read_52 (sp_acts_clear hΓ qA) rfl (by repeat first | with_reducible assumption | with_reducible exact hput_s _ _ _ | refine (hput_n _ _ (by omega)).trans ?_ | exact hput_s _ _ _ | assumption) rfl rfl rfl rfl (Nat.le_of_ble_eq_true rfl) (by decide) (by decide) (by decide) (fun _ _ h => h.elim) (fun v σ4 hq => ?_)
    obtain ⟨rfl, n1, n2⟩ := hq
    have kx4 : σ4.2 x = some (cpo x av wl ve) := (n2.2 x (by unfold inb; omega)).trans kx3
    have hz2 : w.2 = (prR tx len (zPL y) (zGO y) (zLE y) (zNL y)).2.2 := w5 b1
    obtain ⟨Z, hZ⟩ : ∃ Z, Z = prZ tx len (zPL y) (zGO y) (zLE y) (zNL y) := ⟨_, rfl⟩
    have hwZ : (0, w.2) = Z := by rw [hZ]; unfold prZ; rw [hz2]
    have mS : SCz σ4 (x + 10) Z (lvZ z) := by
      rw [← hwZ]
      exact m1.keep (fun a i => n2.2 a (by unfold inb at i ⊢; omega))
    have hw : WFz Z := by rw [hZ]; exact prZ_wf h2 hgb (hF.symm.trans b1)
    have mS0 := mS.1
    refine g_aload_n q_X9_read_55 rfl ?_
    refine g_callV (rc' := 8) (rs' := 48) (As := []) cs_X9_110 q_X9_read_56 (sp_sceneChanged hΓ kx4 mS hw.1) rfl (by repeat first | with_reducible assumption | with_reducible exact hput_s _ _ _ | refine (hput_n _ _ (by omega)).trans ?_ | exact hput_s _ _ _ | assumption) rfl rfl rfl rfl (Nat.le_of_ble_eq_true rfl) (by decide) (by decide) (by decide) (fun _ _ h => h.elim) (k_rv ?_)
    refine g_aload_n q_X9_read_59 rfl ?_
    refine g_get fl_X9_19 q_X9_read_60 (by repeat first | with_reducible assumption | with_reducible exact hput_s _ _ _ | refine (hput_n _ _ (by omega)).trans ?_ | exact hput_s _ _ _ | assumption) rfl ?_
    refine g_get fl_X9_113 q_X9_read_63 (by repeat first | with_reducible assumption | with_reducible exact hput_s _ _ _ | refine (hput_n _ _ (by omega)).trans ?_ | exact hput_s _ _ _ | assumption) rfl ?_
    refine g_ireturn q_X9_read_66.1 rfl ?_
    have hE4 : eqOff σ2 σ4 (fun a => a = x ∨ inb (x + 10) 7 a ∨ inb (x + 24) 4 a) := (eqOff.rfl'.trans m2 (fun a i => Or.inr (Or.inl i))).trans n2 (fun a i => Or.inr (Or.inr i))
    refine ⟨zPL y, zGO y, zLE y, zNL y, hgb, hF.symm.trans b1, by rw [← hZ], ?_⟩
    rw [← hZ]
    rw [b1] at hh2
    refine SX.tr heG ⟨hh2.zch hN ((hE4.put (Or.inr (Or.inl ⟨by omega, by omega⟩)) _).put (Or.inl rfl) _) (hput_s _ _ _) ?_ ?_ hw trivial, ?_⟩
    · obtain ⟨g0, g1, g2, g3, g4, g5, g6⟩ := mS
      exact ⟨(by repeat first | with_reducible assumption | with_reducible exact hput_s _ _ _ | refine (hput_n _ _ (by omega)).trans ?_ | exact hput_s _ _ _ | assumption), (by repeat first | with_reducible assumption | with_reducible exact hput_s _ _ _ | refine (hput_n _ _ (by omega)).trans ?_ | exact hput_s _ _ _ | assumption), (by repeat first | with_reducible assumption | with_reducible exact hput_s _ _ _ | refine (hput_n _ _ (by omega)).trans ?_ | exact hput_s _ _ _ | assumption), (by repeat first | with_reducible assumption | with_reducible exact hput_s _ _ _ | refine (hput_n _ _ (by omega)).trans ?_ | exact hput_s _ _ _ | assumption), (by repeat first | with_reducible assumption | with_reducible exact hput_s _ _ _ | refine (hput_n _ _ (by omega)).trans ?_ | exact hput_s _ _ _ | assumption), (by repeat first | with_reducible assumption | with_reducible exact hput_s _ _ _ | refine (hput_n _ _ (by omega)).trans ?_ | exact hput_s _ _ _ | assumption), (by repeat first | with_reducible assumption | with_reducible exact hput_s _ _ _ | refine (hput_n _ _ (by omega)).trans ?_ | exact hput_s _ _ _ | assumption)⟩
    · exact n1.keep (fun a i => (hput_n _ _ (by unfold inb at i; omega)).trans (hput_n _ _ (by unfold inb at i; omega)))
    · exact eqG_fX ((hE4.put (Or.inr (Or.inl ⟨by omega, by omega⟩)) _).put (Or.inl rfl) _) (fun a i => by rcases i with i | i | i <;> (unfold inb at *; omega))
  · refine g_throw th_IAE q_X9_read_26.1 q_X9_read_29.1 q_X9_read_30.1 q_X9_read_33.1 rfl (by decide) (Nat.le_of_ble_eq_true rfl) (by decide) (by decide) (fun z hz => ?_)
    refine ⟨zPL y, zGO y, zLE y, zNL y, hgb, fun q => b1 (hF.trans q), rfl, ?_⟩
    rw [← hF]
    exact SX.tr heG (SX.gr ⟨ve, av, hh2⟩ hN ⟨_, hz, rfl⟩)
end X9D

