/-! TextReader: takeLine, parse -/
theorem avn_all {p : Int → Bool} {tx : Nat → Int} {len : Nat} : ∀ (m a : Nat), len - a = m → ∀ i, a ≤ i → i < avn p tx len a → i < len ∧ p (tx i) = true
  | 0, a, hm, i, h1, h2 => by
    rw [avn_no (fun q => by omega)] at h2
    omega
  | m + 1, a, hm, i, h1, h2 => by
    by_cases hq : a < len ∧ p (tx a) = true
    · by_cases e : i = a
      · rw [e]; exact hq
      · rw [avn_go hq.1 hq.2] at h2
        exact avn_all m (a + 1) (by omega) i (by omega) h2
    · rw [avn_no hq] at h2
      omega
theorem avn_end {p : Int → Bool} {tx : Nat → Int} {len : Nat} : ∀ (m a : Nat), len - a = m → ¬ (avn p tx len a < len ∧ p (tx (avn p tx len a)) = true)
  | 0, a, hm => by
    have h9 : ¬ (a < len ∧ p (tx a) = true) := fun q => by omega
    rw [avn_no h9]
    exact h9
  | m + 1, a, hm => by
    by_cases hq : a < len ∧ p (tx a) = true
    · rw [avn_go hq.1 hq.2]
      exact avn_end m (a + 1) (by omega)
    · rw [avn_no hq]; exact hq
theorem avn_idem {p : Int → Bool} {tx : Nat → Int} {len a : Nat} : avn p tx len (avn p tx len a) = avn p tx len a := avn_no (avn_end _ a rfl)
abbrev PS : Type := Nat × Nat × Nat × Nat × (Nat → Int) × (Nat → Int) × (Nat → Int) × (Nat → Int) × (Nat → Int)
def zPo (x : PS) : Nat := x.1
def zCo (x : PS) : Nat := x.2.1
def zRo (x : PS) : Nat := x.2.2.1
def zCa (x : PS) : Nat := x.2.2.2.1
def zSO (x : PS) : Nat → Int := x.2.2.2.2.1
def zPL (x : PS) : Nat → Int := x.2.2.2.2.2.1
def zGO (x : PS) : Nat → Int := x.2.2.2.2.2.2.1
def zLE (x : PS) : Nat → Int := x.2.2.2.2.2.2.2.1
def zNL (x : PS) : Nat → Int := x.2.2.2.2.2.2.2.2
def lnE (tx : Nat → Int) (len q : Nat) (x : Nat → PS) : Nat × Int × PS := if avn pBl tx len q < len ∧ tx (avn pBl tx len q) = 59 then (0, -1, x (avn pBl tx len q + 1)) else (2, (avn pBl tx len q : Nat), x 0)
def lnR1 (tx : Nat → Int) (len : Nat) (x : PS) (q1 q2 : Nat) : Nat × Int × PS := if okRw (zCo x) (zRo x) (q2 - q1) = false then (2, (q1 : Int), x) else lnE tx len q2 (fun p => (p, q2 - q1, zRo x + 1, zCa x, va_cpy (fun i => sgn (tx i)) (zSO x) q1 (6 * zRo x) (q2 - q1), zPL x, zGO x, zLE x, zNL x))
def lnR (tx : Nat → Int) (len : Nat) (x : PS) (p2 : Nat) : Nat × Int × PS := lnR1 tx len x (avn pBl tx len p2) (avn pSg tx len (avn pBl tx len p2))
def lnC1 (tx : Nat → Int) (len : Nat) (x : PS) (p2 : Nat) (y : Int × Nat × Int × Int) : Nat × Int × PS := if y.1 = -1 then lnE tx len y.2.1 (fun p => (p, zCo x, zRo x, zCa x + 1, zSO x, va_up (zPL x) (zCa x) y.2.2.1, va_up (zGO x) (zCa x) y.2.2.2, va_cpy tx (zLE x) (avn pBl tx len p2) (6 * zCa x) (avn pLe tx len (avn pBl tx len p2) - avn pBl tx len p2), va_up (zNL x) (zCa x) ((avn pLe tx len (avn pBl tx len p2) - avn pBl tx len p2 : Nat) : Int))) else (2, y.1, x)
def lnC (tx : Nat → Int) (len : Nat) (x : PS) (p2 : Nat) : Nat × Int × PS := lnC1 tx len x p2 (cuR tx len (zCo x) (zRo x) (zCa x) (zSO x) (zPL x) (zGO x) (zLE x) (zNL x) p2)
def lnS1 (tx : Nat → Int) (len : Nat) (x : PS) (p1 p2 : Nat) : Nat × Int × PS :=
  if ¬ p1 < len then (1, -1, x)
  else if isW tx p1 p2 3 k_row = true ∧ zRo x < 6 ∧ zCa x = 0 then lnR tx len x p2
  else if isW tx p1 p2 4 k_cart = true ∧ 0 < zRo x ∧ zCa x < 5 then lnC tx len x p2
  else (2, (p1 : Int), x)
/-- one line: 0 goes on, 1 the text has ended, 2 a fault; the fault; what there is then -/
def lnS (tx : Nat → Int) (len : Nat) (x : PS) : Nat × Int × PS := lnS1 tx len x (avn pBl tx len (zPo x)) (avn pLe tx len (avn pBl tx len (zPo x)))
def okZ (len : Nat) (x : PS) : Prop := zPo x ≤ len ∧ okG (zCo x) (zRo x) (zCa x) (zSO x) (zPL x) (zGO x) (zLE x) (zNL x)
def RDo (σ : AH) (r len : Nat) (tx : Nat → Int) (lv : Nat → BitVec 64) (fa : Int) (x : PS) : Prop := (∃ ws, σ.2 r = some (rdo r len (zPo x) fa ws)) ∧ σ.2 (r + 1) = some (ai 400 tx) ∧ SCo σ (r + 2) (zCo x) (zRo x) (zCa x) (zSO x) (zPL x) (zGO x) (zLE x) (zNL x) lv
def rdF (r a : Nat) : Prop := a = r ∨ inb (r + 2) 7 a
def lnQ (σ : AH) (r len : Nat) (tx : Nat → Int) (lv : Nat → BitVec 64) (x : PS) (y : Nat × Int × PS) : Option Value → AH → Prop := fun v σ' => eqOff σ σ' (rdF r) ∧ ((y.1 = 0 ∧ v = some (.int (ii (bi true))) ∧ RDo σ' r len tx lv (-1) y.2.2) ∨ (y.1 = 1 ∧ v = some (.int (ii (bi false))) ∧ ∃ p', p' ≤ len ∧ RDo σ' r len tx lv (-1) (p', x.2)) ∨ (y.1 = 2 ∧ y.2.1 ≠ -1 ∧ v = some (.int (ii (bi false))) ∧ ∃ z, okZ len z ∧ RDo σ' r len tx lv y.2.1 z))
theorem lnE_ok {tx : Nat → Int} {len q : Nat} {x : Nat → PS} (hq : q ≤ len) (h : (lnE tx len q x).1 = 0) : (lnE tx len q x).2.2 = x (avn pBl tx len q + 1) ∧ avn pBl tx len q + 1 ≤ len ∧ q < avn pBl tx len q + 1 := by
  have := avn_rg (p := pBl) (tx := tx) hq
  unfold lnE at h ⊢
  split
  · exact ⟨rfl, by omega, by omega⟩
  · rename_i h2
    rw [if_neg h2] at h
    cases h
theorem cu_rg {tx : Nat → Int} {len cols rows carts : Nat} {SO PL GO LE NL : Nat → Int} {pos : Nat} (hc : cols ≤ 6) (hr : rows ≤ 6) (hp : pos ≤ len) (h : (cuR tx len cols rows carts SO PL GO LE NL pos).1 = -1) : okNm NL LE tx carts (avn pBl tx len pos) (avn pLe tx len (avn pBl tx len pos)) = true ∧ pos ≤ (cuR tx len cols rows carts SO PL GO LE NL pos).2.1 ∧ (cuR tx len cols rows carts SO PL GO LE NL pos).2.1 ≤ len ∧ ((0 ≤ (cuR tx len cols rows carts SO PL GO LE NL pos).2.2.1 ∧ (cuR tx len cols rows carts SO PL GO LE NL pos).2.2.1 < 36) ∧ (cuR tx len cols rows carts SO PL GO LE NL pos).2.2.1 % 6 < cols ∧ (cuR tx len cols rows carts SO PL GO LE NL pos).2.2.1 / 6 < rows ∧ SO (cuR tx len cols rows carts SO PL GO LE NL pos).2.2.1.toNat ≠ 1 ∧ ∀ k, k < carts → PL k ≠ (cuR tx len cols rows carts SO PL GO LE NL pos).2.2.1) ∧ (0 ≤ (cuR tx len cols rows carts SO PL GO LE NL pos).2.2.2 ∧ (cuR tx len cols rows carts SO PL GO LE NL pos).2.2.2 < 36) ∧ (cuR tx len cols rows carts SO PL GO LE NL pos).2.2.2 % 6 < cols ∧ (cuR tx len cols rows carts SO PL GO LE NL pos).2.2.2 / 6 < rows ∧ SO (cuR tx len cols rows carts SO PL GO LE NL pos).2.2.2.toNat ≠ 1 ∧ ∀ k, k < carts → GO k ≠ (cuR tx len cols rows carts SO PL GO LE NL pos).2.2.2 := by
  obtain ⟨Y, hY⟩ : ∃ Y, Y = cuR tx len cols rows carts SO PL GO LE NL pos := ⟨_, rfl⟩
  rw [← hY] at h ⊢
  unfold cuR cu3 cu4 at hY
  have hr1 := avn_rg (p := pBl) (tx := tx) hp
  obtain ⟨p1, hp1⟩ : ∃ z, z = avn pBl tx len pos := ⟨_, rfl⟩
  rw [← hp1] at hr1 hY ⊢
  have hr2 := avn_rg (p := pLe) (tx := tx) hr1.2
  obtain ⟨p2, hp2⟩ : ∃ z, z = avn pLe tx len p1 := ⟨_, rfl⟩
  rw [← hp2] at hr2 hY ⊢
  have hr3 := avn_rg (p := pBl) (tx := tx) hr2.2
  obtain ⟨p3, hp3⟩ : ∃ z, z = avn pBl tx len p2 := ⟨_, rfl⟩
  rw [← hp3] at hr3 hY
  have hr4 := avn_rg (p := pLe) (tx := tx) hr3.2
  obtain ⟨p4, hp4⟩ : ∃ z, z = avn pLe tx len p3 := ⟨_, rfl⟩
  rw [← hp4] at hr4 hY
  have t1 := tcR_rg (tx := tx) (carts := carts) (SO := SO) (OT := PL) (fa := -1) hc hr hr4.2
  obtain ⟨T1, hT1⟩ : ∃ z, z = tcR tx len cols rows carts SO PL p4 (-1) := ⟨_, rfl⟩
  rw [← hT1] at t1 hY
  have hr5 := avn_rg (p := pBl) (tx := tx) t1.2.2
  obtain ⟨p5, hp5⟩ : ∃ z, z = avn pBl tx len T1.2.1 := ⟨_, rfl⟩
  rw [← hp5] at hr5 hY
  have hr6 := avn_rg (p := pLe) (tx := tx) hr5.2
  obtain ⟨p6, hp6⟩ : ∃ z, z = avn pLe tx len p5 := ⟨_, rfl⟩
  rw [← hp6] at hr6 hY
  have t2 := tcR_rg (tx := tx) (carts := carts) (SO := SO) (OT := GO) (fa := -1) hc hr hr6.2
  obtain ⟨T2, hT2⟩ : ∃ z, z = tcR tx len cols rows carts SO GO p6 (-1) := ⟨_, rfl⟩
  rw [← hT2] at t2 hY
  clear hT1 hT2 hp1 hp2 hp3 hp4 hp5 hp6
  split at hY
  · rw [hY] at h; exact absurd h (by show (p1 : Int) ≠ -1; omega)
  rename_i e0
  split at hY
  · rw [hY] at h; exact absurd h (by show (p3 : Int) ≠ -1; omega)
  split at hY
  · rw [hY] at h; exact absurd h (by show T1.2.2 ≠ -1; omega)
  rename_i e2
  split at hY
  · rw [hY] at h; exact absurd h (by show (p5 : Int) ≠ -1; omega)
  split at hY
  · rw [hY] at h; exact absurd h (by show T2.2.2 ≠ -1; omega)
  rename_i e4
  rw [hY]
  rcases t1.1 with q1 | q1
  · exact absurd q1.1 e2
  rcases t2.1 with q2 | q2
  · exact absurd q2.1 e4
  refine ⟨by cases hb : okNm NL LE tx carts p1 p2 with | true => rfl | false => exact absurd hb e0, ?_, t2.2.2, ⟨⟨q1.1, q1.2.1⟩, q1.2.2.2⟩, ⟨q2.1, q2.2.1⟩, q2.2.2.2⟩
  show pos ≤ T2.2.1
  omega
theorem okS_cpy {tx SO : Nat → Int} {len q1 q2 b : Nat} (h : okS SO) (hq : q2 = avn pSg tx len q1) : okS (va_cpy (fun i => sgn (tx i)) SO q1 b (q2 - q1)) := fun k => by
  unfold va_cpy
  split
  · rename_i h9
    have h8 := (avn_all (p := pSg) (tx := tx) (len := len) _ q1 rfl (q1 + (k - b)) (by omega) (by omega)).2
    unfold pSg at h8
    have h7 := of_decide_eq_true h8
    have h6 := fstN_rg (fun k' => decide (k_sgn k' = tx (q1 + (k - b)))) 6
    exact ⟨h7, by show fstN (fun k' => decide (k_sgn k' = tx (q1 + (k - b)))) 6 < 6; omega⟩
  · exact h k
theorem lnS_ok {tx : Nat → Int} {len : Nat} {x : PS} (oX : okX tx) (h : okZ len x) (hs : (lnS tx len x).1 = 0) : okZ len (lnS tx len x).2.2 ∧ zPo x < zPo (lnS tx len x).2.2 := by
  obtain ⟨hp, ⟨c6, r6, n5⟩, oS, oP, oG, oL, oN⟩ := h
  have hr1 := avn_rg (p := pBl) (tx := tx) hp
  have hr2 := avn_rg (p := pLe) (tx := tx) hr1.2
  have hr3 := avn_rg (p := pBl) (tx := tx) hr2.2
  have hr4 := avn_rg (p := pSg) (tx := tx) hr3.2
  unfold lnS lnS1 at hs ⊢
  split at hs
  · cases hs
  rename_i e0
  rw [if_neg e0]
  split at hs
  · rename_i e1
    rw [if_pos e1]
    unfold lnR lnR1 at hs ⊢
    split at hs
    · cases hs
    rename_i e2
    rw [if_neg e2]
    obtain ⟨w1, w2, w3⟩ := lnE_ok hr4.2 hs
    rw [w1]
    have e3 : okRw (zCo x) (zRo x) (avn pSg tx len (avn pBl tx len (avn pLe tx len (avn pBl tx len (zPo x)))) - avn pBl tx len (avn pLe tx len (avn pBl tx len (zPo x)))) = true := by
      cases hb : okRw (zCo x) (zRo x) (avn pSg tx len (avn pBl tx len (avn pLe tx len (avn pBl tx len (zPo x)))) - avn pBl tx len (avn pLe tx len (avn pBl tx len (zPo x)))) with
      | true => rfl
      | false => exact absurd hb e2
    have e4 := of_decide_eq_true e3
    exact ⟨⟨w2, ⟨e4.2.1, by show zRo x + 1 ≤ 6; omega, n5⟩, okS_cpy oS rfl, oP, oG, oL, oN⟩, by show zPo x < avn pBl tx len (avn pSg tx len (avn pBl tx len (avn pLe tx len (avn pBl tx len (zPo x))))) + 1; omega⟩
  · rename_i e1
    rw [if_neg e1]
    split at hs
    · rename_i e5
      rw [if_pos e5]
      unfold lnC lnC1 at hs ⊢
      split at hs
      · rename_i e2
        rw [if_pos e2]
        obtain ⟨q1, q2, q3, q4, q5⟩ := cu_rg c6 r6 hr2.2 e2
        obtain ⟨w1, w2, w3⟩ := lnE_ok q3 hs
        rw [w1]
        have hm6 : avn pLe tx len (avn pBl tx len (avn pLe tx len (avn pBl tx len (zPo x)))) - avn pBl tx len (avn pLe tx len (avn pBl tx len (zPo x))) ≤ 6 := by
          unfold okNm at q1
          simp only [Bool.and_eq_true] at q1
          exact (of_decide_eq_true q1.1.1).2
        exact ⟨⟨w2, ⟨c6, r6, e5.2.2⟩, oS, okQ_s oP q4.1, okQ_s oG q5.1, rg_cpy oX oL _ _ _, nl_up oN hm6⟩, by show zPo x < avn pBl tx len (cuR tx len _ _ _ _ _ _ _ _ _).2.1 + 1; omega⟩
      · cases hs
    · cases hs
section TX8
variable {Γ : GT} {σ : AH} {r len : Nat} {tx : Nat → Int} {lv : Nat → BitVec 64} {x : PS}
theorem sp_takeLine (hΓ : Gd Γ) (hR : RDo σ r len tx lv (-1) x) (oX : okX tx) (hl : len ≤ 400) (hz : okZ len x) : Sp Γ miX5_takeLine 0 0 [.ref r] σ (lnQ σ r len tx lv x (lnS tx len x)) noX := by
  obtain ⟨⟨ws, h0⟩, h1, hS⟩ := hR
  have hz' := hz
  obtain ⟨hp, ⟨c6, r6, n5⟩, oS, oP, oG, oL, oN⟩ := hz'
  have hr1 := avn_rg (p := pBl) (tx := tx) hp
  have hr2 := avn_rg (p := pLe) (tx := tx) hr1.2
  obtain ⟨q1, u1, kr, sr⟩ := str_X5_51 hΓ
  obtain ⟨q2, u2, kc, sc⟩ := str_X5_66 hΓ
  obtain ⟨g0, g1, g2, g3, g4, g5, g6⟩ := hS
  have hid := avn_idem (p := pBl) (tx := tx) (len := len) (a := zPo x)
  unfold lnS
  obtain ⟨p1, hp1⟩ : ∃ z, z = avn pBl tx len (zPo x) := ⟨_, rfl⟩
  rw [← hp1] at hr1 hr2 hid ⊢
  obtain ⟨p2, hp2⟩ : ∃ z, z = avn pLe tx len p1 := ⟨_, rfl⟩
  rw [← hp2] at hr2 ⊢
  refine Sp_of (L := [_]) hΓ (by decide +kernel) rfl (Nat.le_of_ble_eq_true rfl) rfl ?_
  refine g_aload_n q_X5_takeLine_0 rfl ?_
  refine g_callV (rc' := 0) (rs' := 0) (As := []) cs_X5_45 q_X5_takeLine_1 (sp_skipBlanks hΓ h0 h1 oX hl hp) rfl (by repeat first | with_reducible assumption | with_reducible exact hput_s _ _ _ | refine (hput_n _ _ (by omega)).trans ?_ | exact hput_s _ _ _ | assumption) rfl rfl rfl rfl (Nat.le_of_ble_eq_true rfl) (by decide) (by decide) (by decide) (fun _ _ h => h.elim) (k_rv ?_)
  rw [← hp1]
  refine g_aload_n q_X5_takeLine_4 rfl ?_
  refine g_get fl_X5_19 q_X5_takeLine_5 (by repeat first | with_reducible assumption | with_reducible exact hput_s _ _ _ | refine (hput_n _ _ (by omega)).trans ?_ | exact hput_s _ _ _ | assumption) rfl ?_
  refine g_aload_n q_X5_takeLine_8 rfl ?_
  refine g_get fl_X5_15 q_X5_takeLine_9 (by repeat first | with_reducible assumption | with_reducible exact hput_s _ _ _ | refine (hput_n _ _ (by omega)).trans ?_ | exact hput_s _ _ _ | assumption) rfl ?_
  unfold lnS1
  refine g_icmp_lt (tgt := 17) q_X5_takeLine_12 (by decide) ⟨by omega, by omega⟩ ⟨by omega, by omega⟩ (fun e0 => ?_) (fun e0 => ?_)
  case refine_2 =>
    rw [if_pos (by omega)]
    refine g_iconst q_X5_takeLine_15 ?_
    refine g_zreturn q_X5_takeLine_16.1 rfl (by first | exact Or.inl rfl | exact Or.inr rfl | omega) ?_
    refine ⟨eqOff.rfl'.put (Or.inl rfl) _, Or.inr (Or.inl ⟨rfl, rfl, p1, hr1.2, ⟨ws, hput_s _ _ _⟩, (by repeat first | with_reducible assumption | with_reducible exact hput_s _ _ _ | refine (hput_n _ _ (by omega)).trans ?_ | exact hput_s _ _ _ | assumption), ?_⟩)⟩
    exact ⟨(by repeat first | with_reducible assumption | with_reducible exact hput_s _ _ _ | refine (hput_n _ _ (by omega)).trans ?_ | exact hput_s _ _ _ | assumption), (by repeat first | with_reducible assumption | with_reducible exact hput_s _ _ _ | refine (hput_n _ _ (by omega)).trans ?_ | exact hput_s _ _ _ | assumption), (by repeat first | with_reducible assumption | with_reducible exact hput_s _ _ _ | refine (hput_n _ _ (by omega)).trans ?_ | exact hput_s _ _ _ | assumption), (by repeat first | with_reducible assumption | with_reducible exact hput_s _ _ _ | refine (hput_n _ _ (by omega)).trans ?_ | exact hput_s _ _ _ | assumption), (by repeat first | with_reducible assumption | with_reducible exact hput_s _ _ _ | refine (hput_n _ _ (by omega)).trans ?_ | exact hput_s _ _ _ | assumption), (by repeat first | with_reducible assumption | with_reducible exact hput_s _ _ _ | refine (hput_n _ _ (by omega)).trans ?_ | exact hput_s _ _ _ | assumption), (by repeat first | with_reducible assumption | with_reducible exact hput_s _ _ _ | refine (hput_n _ _ (by omega)).trans ?_ | exact hput_s _ _ _ | assumption)⟩
  rw [if_neg (by omega)]
  refine g_aload_n q_X5_takeLine_17 rfl ?_
  refine g_callV (rc' := 0) (rs' := 0) (As := []) cs_X5_48 q_X5_takeLine_18 (sp_takeWord hΓ (hput_s _ _ _) ((hput_n _ _ (by omega)).trans h1) oX hl hr1.2) rfl (by repeat first | with_reducible assumption | with_reducible exact hput_s _ _ _ | refine (hput_n _ _ (by omega)).trans ?_ | exact hput_s _ _ _ | assumption) rfl rfl rfl rfl (Nat.le_of_ble_eq_true rfl) (by decide) (by decide) (by decide) (fun _ _ h => h.elim) (k_rv ?_)
  rw [hid, ← hp2, hput_hput]
  obtain ⟨τ, hτ⟩ : ∃ τ, τ = hput σ r (rdo r len p2 (-1) p1) := ⟨_, rfl⟩
  have t0 : τ.2 r = some (rdo r len p2 (-1) p1) := by rw [hτ]; exact hput_s _ _ _
  have t1 : τ.2 (r + 1) = some (ai 400 tx) := by rw [hτ]; exact (by repeat first | with_reducible assumption | with_reducible exact hput_s _ _ _ | refine (hput_n _ _ (by omega)).trans ?_ | exact hput_s _ _ _ | assumption)
  have tS : SCo τ (r + 2) (zCo x) (zRo x) (zCa x) (zSO x) (zPL x) (zGO x) (zLE x) (zNL x) lv := by rw [hτ]; exact ⟨(by repeat first | with_reducible assumption | with_reducible exact hput_s _ _ _ | refine (hput_n _ _ (by omega)).trans ?_ | exact hput_s _ _ _ | assumption), (by repeat first | with_reducible assumption | with_reducible exact hput_s _ _ _ | refine (hput_n _ _ (by omega)).trans ?_ | exact hput_s _ _ _ | assumption), (by repeat first | with_reducible assumption | with_reducible exact hput_s _ _ _ | refine (hput_n _ _ (by omega)).trans ?_ | exact hput_s _ _ _ | assumption), (by repeat first | with_reducible assumption | with_reducible exact hput_s _ _ _ | refine (hput_n _ _ (by omega)).trans ?_ | exact hput_s _ _ _ | assumption), (by repeat first | with_reducible assumption | with_reducible exact hput_s _ _ _ | refine (hput_n _ _ (by omega)).trans ?_ | exact hput_s _ _ _ | assumption), (by repeat first | with_reducible assumption | with_reducible exact hput_s _ _ _ | refine (hput_n _ _ (by omega)).trans ?_ | exact hput_s _ _ _ | assumption), (by repeat first | with_reducible assumption | with_reducible exact hput_s _ _ _ | refine (hput_n _ _ (by omega)).trans ?_ | exact hput_s _ _ _ | assumption)⟩
  have hE : eqOff σ τ (rdF r) := by rw [hτ]; exact eqOff.rfl'.put (Or.inl rfl) _
  refine g_eq (σ2 := τ) rfl rfl hτ.symm ?_
  clear hτ g0 g1 g2 g3 g4 g5 g6
  have hz2 : ∀ p, p ≤ len → okZ len (p, x.2) := fun p hq => ⟨hq, hz.2⟩
  have gone : G Γ miX5_takeLine cX5_takeLine (lnQ σ r len tx lv x (2, (p1 : Int), x)) noX 0 0 122 [some (.ref r)] [] τ := by
    refine g_aload_n q_X5_takeLine_122 rfl ?_
    refine g_aload_n q_X5_takeLine_123 rfl ?_
    refine g_get fl_X5_25 q_X5_takeLine_124 (by repeat first | with_reducible assumption | with_reducible exact hput_s _ _ _ | refine (hput_n _ _ (by omega)).trans ?_ | exact hput_s _ _ _ | assumption) rfl ?_
    refine g_callV (rc' := 0) (rs' := 0) (As := [_]) cs_X5_71 q_X5_takeLine_127 (sp_failAt hΓ t0 p1) rfl (by repeat first | with_reducible assumption | with_reducible exact hput_s _ _ _ | refine (hput_n _ _ (by omega)).trans ?_ | exact hput_s _ _ _ | assumption) rfl rfl rfl rfl (Nat.le_of_ble_eq_true rfl) (by decide) (by decide) (by decide) (fun _ _ h => h.elim) (k_rb ?_)
    refine g_zreturn q_X5_takeLine_130.1 rfl (by first | exact Or.inl rfl | exact Or.inr rfl | omega) ?_
    refine ⟨hE.put (Or.inl rfl) _, Or.inr (Or.inr ⟨rfl, by show (p1 : Int) ≠ -1; omega, rfl, (p2, x.2), hz2 p2 hr2.2, ⟨p1, hput_s _ _ _⟩, (by repeat first | with_reducible assumption | with_reducible exact hput_s _ _ _ | refine (hput_n _ _ (by omega)).trans ?_ | exact hput_s _ _ _ | assumption), ?_⟩)⟩
    obtain ⟨g0, g1, g2, g3, g4, g5, g6⟩ := tS
    exact ⟨(by repeat first | with_reducible assumption | with_reducible exact hput_s _ _ _ | refine (hput_n _ _ (by omega)).trans ?_ | exact hput_s _ _ _ | assumption), (by repeat first | with_reducible assumption | with_reducible exact hput_s _ _ _ | refine (hput_n _ _ (by omega)).trans ?_ | exact hput_s _ _ _ | assumption), (by repeat first | with_reducible assumption | with_reducible exact hput_s _ _ _ | refine (hput_n _ _ (by omega)).trans ?_ | exact hput_s _ _ _ | assumption), (by repeat first | with_reducible assumption | with_reducible exact hput_s _ _ _ | refine (hput_n _ _ (by omega)).trans ?_ | exact hput_s _ _ _ | assumption), (by repeat first | with_reducible assumption | with_reducible exact hput_s _ _ _ | refine (hput_n _ _ (by omega)).trans ?_ | exact hput_s _ _ _ | assumption), (by repeat first | with_reducible assumption | with_reducible exact hput_s _ _ _ | refine (hput_n _ _ (by omega)).trans ?_ | exact hput_s _ _ _ | assumption), (by repeat first | with_reducible assumption | with_reducible exact hput_s _ _ _ | refine (hput_n _ _ (by omega)).trans ?_ | exact hput_s _ _ _ | assumption)⟩
  have semi : ∀ (pc : Nat) (τ2 : AH) (q : Nat) (y : Nat → PS), eqOff σ τ2 (rdF r) → q ≤ len → RDo τ2 r len tx lv (-1) (q, (y 0).2) → (∀ p, y p = (p, (y 0).2)) → (∀ p, p ≤ len → okZ len (y p)) → (pc = 59 ∨ pc = 109) → G Γ miX5_takeLine cX5_takeLine (lnQ σ r len tx lv x (lnE tx len q y)) noX 0 0 pc [some (.ref r)] [] τ2 := by
    intro pc τ2 q y hE2 hq ⟨⟨ws2, s0⟩, s1, s2⟩ hy hyk hpc
    have hrq := avn_rg (p := pBl) (tx := tx) hq
    unfold lnE
    obtain ⟨q3, hq3⟩ : ∃ z, z = avn pBl tx len q := ⟨_, rfl⟩
    have s0' : τ2.2 r = some (rdo r len q (-1) ws2) := s0
    obtain ⟨g0, g1, g2, g3, g4, g5, g6⟩ := s2
    have fin1 : q3 < len ∧ tx q3 = 59 → lnQ σ r len tx lv x (if q3 < len ∧ tx q3 = 59 then (0, -1, y (q3 + 1)) else (2, (q3 : Int), y 0)) (some (.int (ii (bi true)))) (hput τ2 r (rdo r len (q3 + 1) (-1) ws2)) := by
      intro h9
      rw [if_pos h9]
      refine ⟨hE2.put (Or.inl rfl) _, Or.inl ⟨rfl, rfl, ?_⟩⟩
      rw [hy (q3 + 1)]
      refine ⟨⟨ws2, hput_s _ _ _⟩, (by repeat first | with_reducible assumption | with_reducible exact hput_s _ _ _ | refine (hput_n _ _ (by omega)).trans ?_ | exact hput_s _ _ _ | assumption), ?_⟩
      exact ⟨(by repeat first | with_reducible assumption | with_reducible exact hput_s _ _ _ | refine (hput_n _ _ (by omega)).trans ?_ | exact hput_s _ _ _ | assumption), (by repeat first | with_reducible assumption | with_reducible exact hput_s _ _ _ | refine (hput_n _ _ (by omega)).trans ?_ | exact hput_s _ _ _ | assumption), (by repeat first | with_reducible assumption | with_reducible exact hput_s _ _ _ | refine (hput_n _ _ (by omega)).trans ?_ | exact hput_s _ _ _ | assumption), (by repeat first | with_reducible assumption | with_reducible exact hput_s _ _ _ | refine (hput_n _ _ (by omega)).trans ?_ | exact hput_s _ _ _ | assumption), (by repeat first | with_reducible assumption | with_reducible exact hput_s _ _ _ | refine (hput_n _ _ (by omega)).trans ?_ | exact hput_s _ _ _ | assumption), (by repeat first | with_reducible assumption | with_reducible exact hput_s _ _ _ | refine (hput_n _ _ (by omega)).trans ?_ | exact hput_s _ _ _ | assumption), (by repeat first | with_reducible assumption | with_reducible exact hput_s _ _ _ | refine (hput_n _ _ (by omega)).trans ?_ | exact hput_s _ _ _ | assumption)⟩
    have fin2 : ¬ (q3 < len ∧ tx q3 = 59) → lnQ σ r len tx lv x (if q3 < len ∧ tx q3 = 59 then (0, -1, y (q3 + 1)) else (2, (q3 : Int), y 0)) (some (.int (ii (bi false)))) (hput τ2 r (rdo r len q3 q3 ws2)) := by
      intro h9
      rw [if_neg h9]
      refine ⟨hE2.put (Or.inl rfl) _, Or.inr (Or.inr ⟨rfl, by show (q3 : Int) ≠ -1; omega, rfl, y q3, hyk q3 (by omega), ?_⟩)⟩
      rw [hy q3]
      refine ⟨⟨ws2, hput_s _ _ _⟩, (by repeat first | with_reducible assumption | with_reducible exact hput_s _ _ _ | refine (hput_n _ _ (by omega)).trans ?_ | exact hput_s _ _ _ | assumption), ?_⟩
      exact ⟨(by repeat first | with_reducible assumption | with_reducible exact hput_s _ _ _ | refine (hput_n _ _ (by omega)).trans ?_ | exact hput_s _ _ _ | assumption), (by repeat first | with_reducible assumption | with_reducible exact hput_s _ _ _ | refine (hput_n _ _ (by omega)).trans ?_ | exact hput_s _ _ _ | assumption), (by repeat first | with_reducible assumption | with_reducible exact hput_s _ _ _ | refine (hput_n _ _ (by omega)).trans ?_ | exact hput_s _ _ _ | assumption), (by repeat first | with_reducible assumption | with_reducible exact hput_s _ _ _ | refine (hput_n _ _ (by omega)).trans ?_ | exact hput_s _ _ _ | assumption), (by repeat first | with_reducible assumption | with_reducible exact hput_s _ _ _ | refine (hput_n _ _ (by omega)).trans ?_ | exact hput_s _ _ _ | assumption), (by repeat first | with_reducible assumption | with_reducible exact hput_s _ _ _ | refine (hput_n _ _ (by omega)).trans ?_ | exact hput_s _ _ _ | assumption), (by repeat first | with_reducible assumption | with_reducible exact hput_s _ _ _ | refine (hput_n _ _ (by omega)).trans ?_ | exact hput_s _ _ _ | assumption)⟩
    rw [← hq3]
    rcases hpc with rfl | rfl
    · refine g_aload_n q_X5_takeLine_59 rfl ?_
      refine g_callV (rc' := 0) (rs' := 0) (As := []) cs_X5_63 q_X5_takeLine_60 (sp_takeSemicolon hΓ s0' s1 oX hl hq) rfl (by repeat first | with_reducible assumption | with_reducible exact hput_s _ _ _ | refine (hput_n _ _ (by omega)).trans ?_ | exact hput_s _ _ _ | assumption) rfl rfl rfl rfl (Nat.le_of_ble_eq_true rfl) (by decide) (by decide) (by decide) (fun _ _ h => h.elim) (fun v σ3 hq4 => ?_)
      rw [← hq3] at hq4
      obtain ⟨k1, k2, rfl, rfl⟩ | ⟨k1, rfl, rfl⟩ := hq4
      · refine g_if_eq (tgt := 70) q_X5_takeLine_63 (by decide) (bi_rg _) (fun e9 => ?_) (fun e9 => ?_)
        · exact absurd e9 (by decide)
        · refine g_iconst q_X5_takeLine_66 ?_
          refine g_goto (tgt := 71) q_X5_takeLine_67 (by decide) ?_
          refine g_zreturn q_X5_takeLine_71.1 rfl (by first | exact Or.inl rfl | exact Or.inr rfl | omega) ?_
          exact fin1 ⟨k1, k2⟩
      · refine g_if_eq (tgt := 70) q_X5_takeLine_63 (by decide) (bi_rg _) (fun e9 => ?_) (fun e9 => ?_)
        · refine g_iconst q_X5_takeLine_70 ?_
          refine g_zreturn q_X5_takeLine_71.1 rfl (by first | exact Or.inl rfl | exact Or.inr rfl | omega) ?_
          exact fin2 k1
        · exact absurd rfl e9
    · refine g_aload_n q_X5_takeLine_109 rfl ?_
      refine g_callV (rc' := 0) (rs' := 0) (As := []) cs_X5_63 q_X5_takeLine_110 (sp_takeSemicolon hΓ s0' s1 oX hl hq) rfl (by repeat first | with_reducible assumption | with_reducible exact hput_s _ _ _ | refine (hput_n _ _ (by omega)).trans ?_ | exact hput_s _ _ _ | assumption) rfl rfl rfl rfl (Nat.le_of_ble_eq_true rfl) (by decide) (by decide) (by decide) (fun _ _ h => h.elim) (fun v σ3 hq4 => ?_)
      rw [← hq3] at hq4
      obtain ⟨k1, k2, rfl, rfl⟩ | ⟨k1, rfl, rfl⟩ := hq4
      · refine g_if_eq (tgt := 120) q_X5_takeLine_113 (by decide) (bi_rg _) (fun e9 => ?_) (fun e9 => ?_)
        · exact absurd e9 (by decide)
        · refine g_iconst q_X5_takeLine_116 ?_
          refine g_goto (tgt := 121) q_X5_takeLine_117 (by decide) ?_
          refine g_zreturn q_X5_takeLine_121.1 rfl (by first | exact Or.inl rfl | exact Or.inr rfl | omega) ?_
          exact fin1 ⟨k1, k2⟩
      · refine g_if_eq (tgt := 120) q_X5_takeLine_113 (by decide) (bi_rg _) (fun e9 => ?_) (fun e9 => ?_)
        · refine g_iconst q_X5_takeLine_120 ?_
          refine g_zreturn q_X5_takeLine_121.1 rfl (by first | exact Or.inl rfl | exact Or.inr rfl | omega) ?_
          exact fin2 k1
        · exact absurd rfl e9
  have tc : ¬ (isW tx p1 p2 3 k_row = true ∧ zRo x < 6 ∧ zCa x = 0) → G Γ miX5_takeLine cX5_takeLine (lnQ σ r len tx lv x (if isW tx p1 p2 3 k_row = true ∧ zRo x < 6 ∧ zCa x = 0 then lnR tx len x p2 else if isW tx p1 p2 4 k_cart = true ∧ 0 < zRo x ∧ zCa x < 5 then lnC tx len x p2 else (2, (p1 : Int), x))) noX 0 0 72 [some (.ref r)] [] τ := by
    intro hno
    rw [if_neg hno]
    have tS' := tS
    obtain ⟨g0, g1, g2, g3, g4, g5, g6⟩ := tS'
    refine g_aload_n q_X5_takeLine_72 rfl ?_
    refine g_ldcS rfl kc q_X5_takeLine_73 ?_
    refine g_callV (rc' := 0) (rs' := 0) (As := [_]) cs_X5_53 q_X5_takeLine_75 (sp_wordIs hΓ t0 t1 oX hl hr2 sc kr_cart (by decide)) rfl (by repeat first | with_reducible assumption | with_reducible exact hput_s _ _ _ | refine (hput_n _ _ (by omega)).trans ?_ | exact hput_s _ _ _ | assumption) rfl rfl rfl rfl (Nat.le_of_ble_eq_true rfl) (by decide) (by decide) (by decide) (fun _ _ h => h.elim) (k_rb ?_)
    refine g_if_eq (tgt := 122) q_X5_takeLine_78 (by decide) (bi_rg _) (fun e1 => ?_) (fun e1 => ?_)
    · rw [if_neg (fun q => by rw [bi_f e1] at q; exact absurd q.1 (by decide))]
      exact gone
    refine g_aload_n q_X5_takeLine_81 rfl ?_
    refine g_get fl_X5_31 q_X5_takeLine_82 (by repeat first | with_reducible assumption | with_reducible exact hput_s _ _ _ | refine (hput_n _ _ (by omega)).trans ?_ | exact hput_s _ _ _ | assumption) rfl ?_
    refine g_get fl_X5_42 q_X5_takeLine_85 (by repeat first | with_reducible assumption | with_reducible exact hput_s _ _ _ | refine (hput_n _ _ (by omega)).trans ?_ | exact hput_s _ _ _ | assumption) rfl ?_
    refine g_if_le (tgt := 122) q_X5_takeLine_88 (by decide) ⟨by omega, by omega⟩ (fun e2 => ?_) (fun e2 => ?_)
    · rw [if_neg (fun q => by omega)]
      exact gone
    refine g_aload_n q_X5_takeLine_91 rfl ?_
    refine g_get fl_X5_31 q_X5_takeLine_92 (by repeat first | with_reducible assumption | with_reducible exact hput_s _ _ _ | refine (hput_n _ _ (by omega)).trans ?_ | exact hput_s _ _ _ | assumption) rfl ?_
    refine g_get fl_X5_57 q_X5_takeLine_95 (by repeat first | with_reducible assumption | with_reducible exact hput_s _ _ _ | refine (hput_n _ _ (by omega)).trans ?_ | exact hput_s _ _ _ | assumption) rfl ?_
    refine g_iconst q_X5_takeLine_98 ?_
    refine g_icmp_ge (tgt := 122) q_X5_takeLine_99 (by decide) ⟨by omega, by omega⟩ ⟨by omega, by omega⟩ (fun e3 => ?_) (fun e3 => ?_)
    · rw [if_neg (fun q => by omega)]
      exact gone
    rw [if_pos ⟨bi_t e1, by omega, by omega⟩]
    refine g_aload_n q_X5_takeLine_102 rfl ?_
    refine g_callV (rc' := 0) (rs' := 0) (As := []) cs_X5_68 q_X5_takeLine_103 (sp_takeCart hΓ t0 t1 oX hl hr2.2 tS hz.2 (by omega)) rfl (by repeat first | with_reducible assumption | with_reducible exact hput_s _ _ _ | refine (hput_n _ _ (by omega)).trans ?_ | exact hput_s _ _ _ | assumption) rfl rfl rfl rfl (Nat.le_of_ble_eq_true rfl) (by decide) (by decide) (by decide) (fun _ _ h => h.elim) (fun v σ3 hq => ?_)
    unfold lnC lnC1
    obtain ⟨Y, hY⟩ : ∃ Y, Y = cuR tx len (zCo x) (zRo x) (zCa x) (zSO x) (zPL x) (zGO x) (zLE x) (zNL x) p2 := ⟨_, rfl⟩
    have hcr := cu_rg (tx := tx) (len := len) (carts := zCa x) (SO := zSO x) (PL := zPL x) (GO := zGO x) (LE := zLE x) (NL := zNL x) c6 r6 hr2.2
    rw [← hY] at hq hcr ⊢
    obtain ⟨hE3, ⟨y1, rfl, ⟨ws', y2⟩, y3⟩ | ⟨y1, rfl, pos', ws', PL', GO', LE', NL', y2, y3, y4, y5⟩⟩ := hq
    · rw [if_pos y1]
      obtain ⟨z1, z2, z3, z4, z5⟩ := hcr y1
      have hE4 : eqOff σ σ3 (rdF r) := hE.trans hE3 (fun a h => h)
      refine g_if_eq (tgt := 120) q_X5_takeLine_106 (by decide) (bi_rg _) (fun e4 => ?_) (fun e4 => ?_)
      · exact absurd e4 (by decide)
      have hm6 : avn pLe tx len (avn pBl tx len p2) - avn pBl tx len p2 ≤ 6 := by
        unfold okNm at z1
        simp only [Bool.and_eq_true] at z1
        exact (of_decide_eq_true z1.1.1).2
      refine semi 109 σ3 Y.2.1 _ hE4 z3 ⟨⟨ws', y2⟩, (hE3.2 (r + 1) (by rintro (h | ⟨h, -⟩) <;> omega)).trans t1, y3⟩ (fun _ => rfl) (fun p hp => ⟨hp, ⟨c6, r6, by show zCa x + 1 ≤ 5; omega⟩, oS, okQ_s oP z4.1, okQ_s oG z5.1, rg_cpy oX oL _ _ _, nl_up oN hm6⟩) (Or.inr rfl)
    · rw [if_neg y1]
      refine g_if_eq (tgt := 120) q_X5_takeLine_106 (by decide) (bi_rg _) (fun e4 => ?_) (fun e4 => ?_)
      · refine g_iconst q_X5_takeLine_120 ?_
        refine g_zreturn q_X5_takeLine_121.1 rfl (by first | exact Or.inl rfl | exact Or.inr rfl | omega) ?_
        exact ⟨hE.trans hE3 (fun a h => h), Or.inr (Or.inr ⟨rfl, y1, rfl, (pos', zCo x, zRo x, zCa x, zSO x, PL', GO', LE', NL'), ⟨y2, y5⟩, ⟨ws', y3⟩, (hE3.2 (r + 1) (by rintro (h | ⟨h, -⟩) <;> omega)).trans t1, y4⟩)⟩
      · exact absurd rfl e4
  obtain ⟨g0, g1, g2, g3, g4, g5, g6⟩ := tS
  refine g_aload_n q_X5_takeLine_21 rfl ?_
  refine g_ldcS rfl kr q_X5_takeLine_22 ?_
  refine g_callV (rc' := 0) (rs' := 0) (As := [_]) cs_X5_53 q_X5_takeLine_24 (sp_wordIs hΓ t0 t1 oX hl hr2 sr kr_row (by decide)) rfl (by repeat first | with_reducible assumption | with_reducible exact hput_s _ _ _ | refine (hput_n _ _ (by omega)).trans ?_ | exact hput_s _ _ _ | assumption) rfl rfl rfl rfl (Nat.le_of_ble_eq_true rfl) (by decide) (by decide) (by decide) (fun _ _ h => h.elim) (k_rb ?_)
  refine g_if_eq (tgt := 72) q_X5_takeLine_27 (by decide) (bi_rg _) (fun e1 => ?_) (fun e1 => ?_)
  · exact tc (fun q => by rw [bi_f e1] at q; exact absurd q.1 (by decide))
  refine g_aload_n q_X5_takeLine_30 rfl ?_
  refine g_get fl_X5_31 q_X5_takeLine_31 (by repeat first | with_reducible assumption | with_reducible exact hput_s _ _ _ | refine (hput_n _ _ (by omega)).trans ?_ | exact hput_s _ _ _ | assumption) rfl ?_
  refine g_get fl_X5_42 q_X5_takeLine_34 (by repeat first | with_reducible assumption | with_reducible exact hput_s _ _ _ | refine (hput_n _ _ (by omega)).trans ?_ | exact hput_s _ _ _ | assumption) rfl ?_
  refine g_bipush q_X5_takeLine_37 bp_6 ?_
  refine g_icmp_ge (tgt := 72) q_X5_takeLine_39 (by decide) ⟨by omega, by omega⟩ ⟨by omega, by omega⟩ (fun e2 => ?_) (fun e2 => ?_)
  · exact tc (fun q => by omega)
  refine g_aload_n q_X5_takeLine_42 rfl ?_
  refine g_get fl_X5_31 q_X5_takeLine_43 (by repeat first | with_reducible assumption | with_reducible exact hput_s _ _ _ | refine (hput_n _ _ (by omega)).trans ?_ | exact hput_s _ _ _ | assumption) rfl ?_
  refine g_get fl_X5_57 q_X5_takeLine_46 (by repeat first | with_reducible assumption | with_reducible exact hput_s _ _ _ | refine (hput_n _ _ (by omega)).trans ?_ | exact hput_s _ _ _ | assumption) rfl ?_
  refine g_if_ne (tgt := 72) q_X5_takeLine_49 (by decide) ⟨by omega, by omega⟩ (fun e3 => ?_) (fun e3 => ?_)
  · exact tc (fun q => by omega)
  rw [if_pos ⟨bi_t e1, by omega, by omega⟩]
  refine g_aload_n q_X5_takeLine_52 rfl ?_
  refine g_callV (rc' := 0) (rs' := 0) (As := []) cs_X5_60 q_X5_takeLine_53 (sp_takeRow hΓ t0 t1 oX hl hr2.2 g0 g1 ⟨c6, by omega⟩) rfl (by repeat first | with_reducible assumption | with_reducible exact hput_s _ _ _ | refine (hput_n _ _ (by omega)).trans ?_ | exact hput_s _ _ _ | assumption) rfl rfl rfl rfl (Nat.le_of_ble_eq_true rfl) (by decide) (by decide) (by decide) (fun _ _ h => h.elim) (fun v σ3 hq => ?_)
  have hr3 := avn_rg (p := pBl) (tx := tx) hr2.2
  have hr4 := avn_rg (p := pSg) (tx := tx) hr3.2
  unfold lnR lnR1
  obtain ⟨q1', hq1⟩ : ∃ z, z = avn pBl tx len p2 := ⟨_, rfl⟩
  rw [← hq1] at hq hr3 hr4 ⊢
  obtain ⟨q2', hq2⟩ : ∃ z, z = avn pSg tx len q1' := ⟨_, rfl⟩
  rw [← hq2] at hq hr4 ⊢
  obtain ⟨y1, rfl, y2⟩ | ⟨y1, rfl, y2⟩ := hq
  · rw [if_neg (by rw [y1]; decide)]
    have e4 := of_decide_eq_true y1
    have hE3 : eqOff σ σ3 (rdF r) := by rw [y2]; exact ((hE.put (Or.inl rfl) _).put (Or.inr ⟨by omega, by omega⟩) _).put (Or.inr ⟨by omega, by omega⟩) _
    refine g_if_eq (tgt := 70) q_X5_takeLine_56 (by decide) (bi_rg _) (fun e5 => ?_) (fun e5 => ?_)
    · exact absurd e5 (by decide)
    refine semi 59 σ3 q2' _ hE3 hr4.2 ?_ (fun _ => rfl) (fun p hp => ⟨hp, ⟨e4.2.1, by show zRo x + 1 ≤ 6; omega, n5⟩, okS_cpy oS hq2, oP, oG, oL, oN⟩) (Or.inl rfl)
    rw [y2]
    exact ⟨⟨p1, (by repeat first | with_reducible assumption | with_reducible exact hput_s _ _ _ | refine (hput_n _ _ (by omega)).trans ?_ | exact hput_s _ _ _ | assumption)⟩, (by repeat first | with_reducible assumption | with_reducible exact hput_s _ _ _ | refine (hput_n _ _ (by omega)).trans ?_ | exact hput_s _ _ _ | assumption), ⟨(by repeat first | with_reducible assumption | with_reducible exact hput_s _ _ _ | refine (hput_n _ _ (by omega)).trans ?_ | exact hput_s _ _ _ | assumption), (by repeat first | with_reducible assumption | with_reducible exact hput_s _ _ _ | refine (hput_n _ _ (by omega)).trans ?_ | exact hput_s _ _ _ | assumption), (by repeat first | with_reducible assumption | with_reducible exact hput_s _ _ _ | refine (hput_n _ _ (by omega)).trans ?_ | exact hput_s _ _ _ | assumption), (by repeat first | with_reducible assumption | with_reducible exact hput_s _ _ _ | refine (hput_n _ _ (by omega)).trans ?_ | exact hput_s _ _ _ | assumption), (by repeat first | with_reducible assumption | with_reducible exact hput_s _ _ _ | refine (hput_n _ _ (by omega)).trans ?_ | exact hput_s _ _ _ | assumption), (by repeat first | with_reducible assumption | with_reducible exact hput_s _ _ _ | refine (hput_n _ _ (by omega)).trans ?_ | exact hput_s _ _ _ | assumption), (by repeat first | with_reducible assumption | with_reducible exact hput_s _ _ _ | refine (hput_n _ _ (by omega)).trans ?_ | exact hput_s _ _ _ | assumption)⟩⟩
  · rw [if_pos y1]
    refine g_if_eq (tgt := 70) q_X5_takeLine_56 (by decide) (bi_rg _) (fun e5 => ?_) (fun e5 => ?_)
    · refine g_iconst q_X5_takeLine_70 ?_
      refine g_zreturn q_X5_takeLine_71.1 rfl (by first | exact Or.inl rfl | exact Or.inr rfl | omega) ?_
      rw [y2]
      refine ⟨hE.put (Or.inl rfl) _, Or.inr (Or.inr ⟨rfl, by show (q1' : Int) ≠ -1; omega, rfl, (q2', x.2), hz2 q2' hr4.2, ⟨p1, hput_s _ _ _⟩, (by repeat first | with_reducible assumption | with_reducible exact hput_s _ _ _ | refine (hput_n _ _ (by omega)).trans ?_ | exact hput_s _ _ _ | assumption), ?_⟩)⟩
      exact ⟨(by repeat first | with_reducible assumption | with_reducible exact hput_s _ _ _ | refine (hput_n _ _ (by omega)).trans ?_ | exact hput_s _ _ _ | assumption), (by repeat first | with_reducible assumption | with_reducible exact hput_s _ _ _ | refine (hput_n _ _ (by omega)).trans ?_ | exact hput_s _ _ _ | assumption), (by repeat first | with_reducible assumption | with_reducible exact hput_s _ _ _ | refine (hput_n _ _ (by omega)).trans ?_ | exact hput_s _ _ _ | assumption), (by repeat first | with_reducible assumption | with_reducible exact hput_s _ _ _ | refine (hput_n _ _ (by omega)).trans ?_ | exact hput_s _ _ _ | assumption), (by repeat first | with_reducible assumption | with_reducible exact hput_s _ _ _ | refine (hput_n _ _ (by omega)).trans ?_ | exact hput_s _ _ _ | assumption), (by repeat first | with_reducible assumption | with_reducible exact hput_s _ _ _ | refine (hput_n _ _ (by omega)).trans ?_ | exact hput_s _ _ _ | assumption), (by repeat first | with_reducible assumption | with_reducible exact hput_s _ _ _ | refine (hput_n _ _ (by omega)).trans ?_ | exact hput_s _ _ _ | assumption)⟩
    · exact absurd rfl e5
end TX8

