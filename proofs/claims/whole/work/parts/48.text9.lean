/-! TextReader: parse -/
def psN (tx : Nat → Int) (len : Nat) : Nat → PS → Int × PS
  | 0, x => (-1, x)
  | f + 1, x => if (lnS tx len x).1 = 0 then psN tx len f (lnS tx len x).2.2 else if (lnS tx len x).1 = 1 then (-1, x) else ((lnS tx len x).2.1, x)
def prS (PL GO LE NL : Nat → Int) : PS := (0, 0, 0, 0, fun _ => 0, PL, GO, LE, NL)
def prR (tx : Nat → Int) (len : Nat) (PL GO LE NL : Nat → Int) : Int × PS := psN tx len 401 (prS PL GO LE NL)
/-- the fault of the text; -1: none -/
def prF (tx : Nat → Int) (len : Nat) (PL GO LE NL : Nat → Int) : Int := if (prR tx len PL GO LE NL).1 = -1 ∧ zRo (prR tx len PL GO LE NL).2 = 0 then (len : Int) else (prR tx len PL GO LE NL).1
theorem okQ_0 {n : Nat} {P : Nat → Int} (h : okQ n P) : okQ 0 P := fun k => ⟨(h k).1, fun q => absurd q (Nat.not_lt_zero k)⟩
theorem tcR_frg {tx : Nat → Int} {len cols rows carts : Nat} {SO OT : Nat → Int} {pos : Nat} (hp : pos ≤ len) : -1 ≤ (tcR tx len cols rows carts SO OT pos (-1)).2.2 ∧ (tcR tx len cols rows carts SO OT pos (-1)).2.2 ≤ len := by
  have hp1r := tnP_rg (tx := tx) hp
  have hp2r := tnP_rg (tx := tx) hp1r.2
  have h3 := avn_rg (p := pBl) (tx := tx) hp
  have h4 := avn_rg (p := pBl) (tx := tx) hp1r.2
  unfold tcR
  split
  · show -1 ≤ ((avn pBl tx len pos : Nat) : Int) ∧ ((avn pBl tx len pos : Nat) : Int) ≤ len
    omega
  · split
    · show -1 ≤ ((avn pBl tx len (tnP tx len pos) : Nat) : Int) ∧ ((avn pBl tx len (tnP tx len pos) : Nat) : Int) ≤ len
      omega
    · split
      · show -1 ≤ (tnP tx len (tnP tx len pos) : Int) - 1 ∧ (tnP tx len (tnP tx len pos) : Int) - 1 ≤ len
        omega
      · show (-1 : Int) ≤ -1 ∧ (-1 : Int) ≤ len
        omega
theorem cuR_frg {tx : Nat → Int} {len cols rows carts : Nat} {SO PL GO LE NL : Nat → Int} {pos : Nat} (hc : cols ≤ 6) (hr : rows ≤ 6) (hp : pos ≤ len) : -1 ≤ (cuR tx len cols rows carts SO PL GO LE NL pos).1 ∧ (cuR tx len cols rows carts SO PL GO LE NL pos).1 ≤ len := by
  obtain ⟨Y, hY⟩ : ∃ Y, Y = cuR tx len cols rows carts SO PL GO LE NL pos := ⟨_, rfl⟩
  rw [← hY]
  unfold cuR cu3 cu4 at hY
  have hr1 := avn_rg (p := pBl) (tx := tx) hp
  obtain ⟨p1, hp1⟩ : ∃ z, z = avn pBl tx len pos := ⟨_, rfl⟩
  rw [← hp1] at hr1 hY
  have hr2 := avn_rg (p := pLe) (tx := tx) hr1.2
  obtain ⟨p2, hp2⟩ : ∃ z, z = avn pLe tx len p1 := ⟨_, rfl⟩
  rw [← hp2] at hr2 hY
  have hr3 := avn_rg (p := pBl) (tx := tx) hr2.2
  obtain ⟨p3, hp3⟩ : ∃ z, z = avn pBl tx len p2 := ⟨_, rfl⟩
  rw [← hp3] at hr3 hY
  have hr4 := avn_rg (p := pLe) (tx := tx) hr3.2
  obtain ⟨p4, hp4⟩ : ∃ z, z = avn pLe tx len p3 := ⟨_, rfl⟩
  rw [← hp4] at hr4 hY
  have t1 := tcR_rg (tx := tx) (carts := carts) (SO := SO) (OT := PL) (fa := -1) hc hr hr4.2
  obtain ⟨T1, hT1⟩ : ∃ z, z = tcR tx len cols rows carts SO PL p4 (-1) := ⟨_, rfl⟩
  rw [← hT1] at t1 hY
  have hr5 := avn_rg (p := pBl) (tx := tx) t1.2.2
  obtain ⟨p5, hp5⟩ : ∃ z, z = avn pBl tx len T1.2.1 := ⟨_, rfl⟩
  rw [← hp5] at hr5 hY
  have hr6 := avn_rg (p := pLe) (tx := tx) hr5.2
  obtain ⟨p6, hp6⟩ : ∃ z, z = avn pLe tx len p5 := ⟨_, rfl⟩
  rw [← hp6] at hr6 hY
  have t2 := tcR_rg (tx := tx) (carts := carts) (SO := SO) (OT := GO) (fa := -1) hc hr hr6.2
  obtain ⟨T2, hT2⟩ : ∃ z, z = tcR tx len cols rows carts SO GO p6 (-1) := ⟨_, rfl⟩
  rw [← hT2] at t2 hY
  have f1 := tcR_frg (tx := tx) (cols := cols) (rows := rows) (carts := carts) (SO := SO) (OT := PL) hr4.2
  have f2 := tcR_frg (tx := tx) (cols := cols) (rows := rows) (carts := carts) (SO := SO) (OT := GO) hr6.2
  rw [← hT1] at f1
  rw [← hT2] at f2
  clear hT1 hT2 hp1 hp2 hp3 hp4 hp5 hp6
  split at hY
  · rw [hY]; show -1 ≤ (p1 : Int) ∧ (p1 : Int) ≤ len; omega
  split at hY
  · rw [hY]; show -1 ≤ (p3 : Int) ∧ (p3 : Int) ≤ len; omega
  split at hY
  · rw [hY]; exact f1
  split at hY
  · rw [hY]; show -1 ≤ (p5 : Int) ∧ (p5 : Int) ≤ len; omega
  split at hY
  · rw [hY]; exact f2
  · rw [hY]; show (-1 : Int) ≤ -1 ∧ (-1 : Int) ≤ len; omega
theorem lnE_frg {tx : Nat → Int} {len q : Nat} {y : Nat → PS} (hq : q ≤ len) : -1 ≤ (lnE tx len q y).2.1 ∧ (lnE tx len q y).2.1 ≤ len := by
  have hr := avn_rg (p := pBl) (tx := tx) hq
  unfold lnE
  split
  · show (-1 : Int) ≤ -1 ∧ (-1 : Int) ≤ len
    omega
  · show -1 ≤ ((avn pBl tx len q : Nat) : Int) ∧ ((avn pBl tx len q : Nat) : Int) ≤ len
    omega
theorem lnS_frg {tx : Nat → Int} {len : Nat} {x : PS} (h : okZ len x) : -1 ≤ (lnS tx len x).2.1 ∧ (lnS tx len x).2.1 ≤ len := by
  obtain ⟨hp, ⟨c6, r6, n5⟩, -⟩ := h
  have hr1 := avn_rg (p := pBl) (tx := tx) hp
  have hr2 := avn_rg (p := pLe) (tx := tx) hr1.2
  have hr3 := avn_rg (p := pBl) (tx := tx) hr2.2
  have hr4 := avn_rg (p := pSg) (tx := tx) hr3.2
  unfold lnS lnS1
  split
  · show (-1 : Int) ≤ -1 ∧ (-1 : Int) ≤ len
    omega
  split
  · unfold lnR lnR1
    split
    · show -1 ≤ ((avn pBl tx len (avn pLe tx len (avn pBl tx len (zPo x))) : Nat) : Int) ∧ ((avn pBl tx len (avn pLe tx len (avn pBl tx len (zPo x))) : Nat) : Int) ≤ (len : Int)
      omega
    · exact lnE_frg hr4.2
  split
  · unfold lnC lnC1
    split
    · rename_i e2
      exact lnE_frg (cu_rg c6 r6 hr2.2 e2).2.2.1
    · exact cuR_frg c6 r6 hr2.2
  · show -1 ≤ ((avn pBl tx len (zPo x) : Nat) : Int) ∧ ((avn pBl tx len (zPo x) : Nat) : Int) ≤ len
    omega
section TX9
variable {Γ : GT} {σ : AH} {r len : Nat} {tx : Nat → Int} {lv : Nat → BitVec 64} {x : PS} {fa : Int}
def psQ (σ : AH) (r len : Nat) (tx : Nat → Int) (lv : Nat → BitVec 64) (y : Int × PS) : Option Value → AH → Prop := fun v σ' => v = none ∧ eqOff σ σ' (rdF r) ∧ ∃ z, okZ len z ∧ RDo σ' r len tx lv (if y.1 = -1 ∧ zRo y.2 = 0 then (len : Int) else y.1) z ∧ ((if y.1 = -1 ∧ zRo y.2 = 0 then (len : Int) else y.1) = -1 → z.2 = y.2.2) ∧ -1 ≤ (if y.1 = -1 ∧ zRo y.2 = 0 then (len : Int) else y.1) ∧ (if y.1 = -1 ∧ zRo y.2 = 0 then (len : Int) else y.1) ≤ len
theorem sp_parse (hΓ : Gd Γ) (hR : RDo σ r len tx lv fa x) (oX : okX tx) (hl : len ≤ 400) (hz : okG (zCo x) (zRo x) (zCa x) (zSO x) (zPL x) (zGO x) (zLE x) (zNL x)) : Sp Γ miX5_parse 0 0 [.ref r] σ (psQ σ r len tx lv (prR tx len (zPL x) (zGO x) (zLE x) (zNL x))) noX := by
  obtain ⟨⟨ws, h0⟩, h1, hS⟩ := hR
  have hS' := hS
  obtain ⟨g0, g1, g2, g3, g4, g5, g6⟩ := hS'
  obtain ⟨⟨c6, r6, n5⟩, oS, oP, oG, oL, oN⟩ := hz
  refine Sp_of (L := [_, _, _]) hΓ (by decide +kernel) rfl (Nat.le_of_ble_eq_true rfl) rfl ?_
  refine g_aload_n q_X5_parse_0 rfl ?_
  refine g_iconst q_X5_parse_1 ?_
  refine g_put fp_X5_19 q_X5_parse_2 (by repeat first | with_reducible assumption | with_reducible exact hput_s _ _ _ | refine (hput_n _ _ (by omega)).trans ?_ | exact hput_s _ _ _ | assumption) rfl rfl ?_
  refine g_aload_n q_X5_parse_5 rfl ?_
  refine g_iconst q_X5_parse_6 ?_
  refine g_put fp_X5_22 q_X5_parse_7 (by repeat first | with_reducible assumption | with_reducible exact hput_s _ _ _ | refine (hput_n _ _ (by omega)).trans ?_ | exact hput_s _ _ _ | assumption) rfl rfl ?_
  refine g_aload_n q_X5_parse_10 rfl ?_
  refine g_get fl_X5_31 q_X5_parse_11 (by repeat first | with_reducible assumption | with_reducible exact hput_s _ _ _ | refine (hput_n _ _ (by omega)).trans ?_ | exact hput_s _ _ _ | assumption) rfl ?_
  obtain ⟨τ, hτ⟩ : ∃ τ, τ = hput (hput σ r (rdo r len 0 fa ws)) r (rdo r len 0 (-1) ws) := ⟨_, rfl⟩
  have t0 : τ.2 r = some (rdo r len 0 (-1) ws) := by rw [hτ]; exact hput_s _ _ _
  have t1 : τ.2 (r + 1) = some (ai 400 tx) := by rw [hτ]; exact (by repeat first | with_reducible assumption | with_reducible exact hput_s _ _ _ | refine (hput_n _ _ (by omega)).trans ?_ | exact hput_s _ _ _ | assumption)
  have tS : SCo τ (r + 2) (zCo x) (zRo x) (zCa x) (zSO x) (zPL x) (zGO x) (zLE x) (zNL x) lv := by rw [hτ]; exact ⟨(by repeat first | with_reducible assumption | with_reducible exact hput_s _ _ _ | refine (hput_n _ _ (by omega)).trans ?_ | exact hput_s _ _ _ | assumption), (by repeat first | with_reducible assumption | with_reducible exact hput_s _ _ _ | refine (hput_n _ _ (by omega)).trans ?_ | exact hput_s _ _ _ | assumption), (by repeat first | with_reducible assumption | with_reducible exact hput_s _ _ _ | refine (hput_n _ _ (by omega)).trans ?_ | exact hput_s _ _ _ | assumption), (by repeat first | with_reducible assumption | with_reducible exact hput_s _ _ _ | refine (hput_n _ _ (by omega)).trans ?_ | exact hput_s _ _ _ | assumption), (by repeat first | with_reducible assumption | with_reducible exact hput_s _ _ _ | refine (hput_n _ _ (by omega)).trans ?_ | exact hput_s _ _ _ | assumption), (by repeat first | with_reducible assumption | with_reducible exact hput_s _ _ _ | refine (hput_n _ _ (by omega)).trans ?_ | exact hput_s _ _ _ | assumption), (by repeat first | with_reducible assumption | with_reducible exact hput_s _ _ _ | refine (hput_n _ _ (by omega)).trans ?_ | exact hput_s _ _ _ | assumption)⟩
  have hE : eqOff σ τ (rdF r) := by rw [hτ]; exact (eqOff.rfl'.put (Or.inl rfl) _).put (Or.inl rfl) _
  refine g_eq (σ2 := τ) rfl rfl hτ.symm ?_
  clear hτ
  have tS0 := tS.1
  refine g_callVN (rc' := 0) (rs' := 0) (As := []) cs_X5_35 q_X5_parse_14 (sp_empty hΓ tS) rfl (by repeat first | with_reducible assumption | with_reducible exact hput_s _ _ _ | refine (hput_n _ _ (by omega)).trans ?_ | exact hput_s _ _ _ | assumption) rfl rfl rfl rfl (Nat.le_of_ble_eq_true rfl) (by decide) (by decide) (by decide) (fun _ _ h => h.elim) (fun v τ1 hq => ?_)
  obtain ⟨rfl, hS1, hE1⟩ := hq
  have hE2 : eqOff σ τ1 (rdF r) := hE.trans hE1 (fun a h => Or.inr h)
  have hR1 : RDo τ1 r len tx lv (-1) (prS (zPL x) (zGO x) (zLE x) (zNL x)) := ⟨⟨ws, (hE1.2 r (by rintro ⟨h, -⟩; omega)).trans t0⟩, (hE1.2 (r + 1) (by rintro ⟨h, -⟩; omega)).trans t1, hS1⟩
  have hz1 : okZ len (prS (zPL x) (zGO x) (zLE x) (zNL x)) := ⟨Nat.zero_le _, ⟨Nat.zero_le _, Nat.zero_le _, Nat.zero_le _⟩, fun k => ⟨Int.le_refl 0, by show (0 : Int) < 6; decide⟩, okQ_0 oP, okQ_0 oG, oL, oN⟩
  unfold prR
  obtain ⟨x0, hx0⟩ : ∃ x0, x0 = prS (zPL x) (zGO x) (zLE x) (zNL x) := ⟨_, rfl⟩
  rw [← hx0] at hR1 hz1 ⊢
  obtain ⟨Y, hY⟩ : ∃ Y, Y = psN tx len 401 x0 := ⟨_, rfl⟩
  rw [← hY]
  have fin : ∀ (τ2 : AH) (z : PS) (fa2 : Int) (l1 l2 : Option Value), fa2 = Y.1 → okZ len z → (fa2 = -1 → z.2 = Y.2.2) → eqOff σ τ2 (rdF r) → (-1 ≤ fa2 ∧ fa2 ≤ len) → RDo τ2 r len tx lv fa2 z → G Γ miX5_parse cX5_parse (psQ σ r len tx lv Y) noX 0 0 43 [some (.ref r), l1, l2] [] τ2 := by
    intro τ2 z fa2 l1 l2 e1 e2 e3 e4 erg ⟨⟨ws2, s0⟩, s1, s2⟩
    refine g_fl (L2 := [some (.ref r), none, none]) ?_ ⟨rfl, trivial⟩
    have s2' := s2
    obtain ⟨g0, g1, g2, g3, g4, g5, g6⟩ := s2'
    have hzr := e2.2.1
    refine g_aload_n q_X5_parse_43 rfl ?_
    refine g_get fl_X5_22 q_X5_parse_44 (by repeat first | with_reducible assumption | with_reducible exact hput_s _ _ _ | refine (hput_n _ _ (by omega)).trans ?_ | exact hput_s _ _ _ | assumption) rfl ?_
    refine g_iconst q_X5_parse_47 ?_
    refine g_icmp_ne (tgt := 69) q_X5_parse_48 (by decide) ⟨by omega, by omega⟩ ⟨by omega, by omega⟩ (fun b1 => ?_) (fun b1 => ?_)
    · refine g_return q_X5_parse_69.1 rfl ?_
      have hne : ¬ (Y.1 = -1 ∧ zRo Y.2 = 0) := fun q => b1 (e1.trans q.1)
      refine ⟨rfl, e4, z, e2, ?_, ?_, by rw [if_neg hne, ← e1]; exact erg⟩
      · rw [if_neg hne, ← e1]; exact ⟨⟨ws2, s0⟩, s1, s2⟩
      · rw [if_neg hne, ← e1]; exact e3
    have hYr : zRo z = zRo Y.2 := by
      have h9 := e3 (by omega)
      show z.2.2.1 = Y.2.2.2.1
      rw [h9]
    refine g_aload_n q_X5_parse_51 rfl ?_
    refine g_get fl_X5_31 q_X5_parse_52 (by repeat first | with_reducible assumption | with_reducible exact hput_s _ _ _ | refine (hput_n _ _ (by omega)).trans ?_ | exact hput_s _ _ _ | assumption) rfl ?_
    refine g_get fl_X5_42 q_X5_parse_55 (by repeat first | with_reducible assumption | with_reducible exact hput_s _ _ _ | refine (hput_n _ _ (by omega)).trans ?_ | exact hput_s _ _ _ | assumption) rfl ?_
    refine g_if_ne (tgt := 69) q_X5_parse_58 (by decide) ⟨by omega, by omega⟩ (fun b2 => ?_) (fun b2 => ?_)
    · refine g_return q_X5_parse_69.1 rfl ?_
      have hne : ¬ (Y.1 = -1 ∧ zRo Y.2 = 0) := fun q => by omega
      refine ⟨rfl, e4, z, e2, ?_, ?_, by rw [if_neg hne, ← e1]; exact erg⟩
      · rw [if_neg hne, ← e1]; exact ⟨⟨ws2, s0⟩, s1, s2⟩
      · rw [if_neg hne, ← e1]; exact e3
    · refine g_aload_n q_X5_parse_61 rfl ?_
      refine g_aload_n q_X5_parse_62 rfl ?_
      refine g_get fl_X5_15 q_X5_parse_63 (by repeat first | with_reducible assumption | with_reducible exact hput_s _ _ _ | refine (hput_n _ _ (by omega)).trans ?_ | exact hput_s _ _ _ | assumption) rfl ?_
      refine g_put fp_X5_22 q_X5_parse_66 (by repeat first | with_reducible assumption | with_reducible exact hput_s _ _ _ | refine (hput_n _ _ (by omega)).trans ?_ | exact hput_s _ _ _ | assumption) rfl rfl ?_
      refine g_return q_X5_parse_69.1 rfl ?_
      have hne : Y.1 = -1 ∧ zRo Y.2 = 0 := ⟨by omega, by omega⟩
      refine ⟨rfl, e4.put (Or.inl rfl) _, z, e2, ?_, ?_, by rw [if_pos hne]; omega⟩
      · rw [if_pos hne]
        exact ⟨⟨ws2, hput_s _ _ _⟩, (by repeat first | with_reducible assumption | with_reducible exact hput_s _ _ _ | refine (hput_n _ _ (by omega)).trans ?_ | exact hput_s _ _ _ | assumption), (by repeat first | with_reducible assumption | with_reducible exact hput_s _ _ _ | refine (hput_n _ _ (by omega)).trans ?_ | exact hput_s _ _ _ | assumption), (by repeat first | with_reducible assumption | with_reducible exact hput_s _ _ _ | refine (hput_n _ _ (by omega)).trans ?_ | exact hput_s _ _ _ | assumption), (by repeat first | with_reducible assumption | with_reducible exact hput_s _ _ _ | refine (hput_n _ _ (by omega)).trans ?_ | exact hput_s _ _ _ | assumption), (by repeat first | with_reducible assumption | with_reducible exact hput_s _ _ _ | refine (hput_n _ _ (by omega)).trans ?_ | exact hput_s _ _ _ | assumption), (by repeat first | with_reducible assumption | with_reducible exact hput_s _ _ _ | refine (hput_n _ _ (by omega)).trans ?_ | exact hput_s _ _ _ | assumption), (by repeat first | with_reducible assumption | with_reducible exact hput_s _ _ _ | refine (hput_n _ _ (by omega)).trans ?_ | exact hput_s _ _ _ | assumption), (by repeat first | with_reducible assumption | with_reducible exact hput_s _ _ _ | refine (hput_n _ _ (by omega)).trans ?_ | exact hput_s _ _ _ | assumption)⟩
      · rw [if_pos hne]; intro h9; omega
  refine g_iconst q_X5_parse_17 ?_
  refine g_istore_n (L' := [_, _, _]) q_X5_parse_18 (by decide) rfl ?_
  refine g_iconst q_X5_parse_19 ?_
  refine g_istore_n (L' := [_, _, _]) q_X5_parse_20 (by decide) rfl ?_
  refine g_loop3 (fun (k : Nat) (y : PS) (τ2 : AH) => k ≤ 401 ∧ psN tx len (401 - k) y = Y ∧ okZ len y ∧ eqOff σ τ2 (rdF r) ∧ RDo τ2 r len tx lv (-1) y) (fun k y τ2 => G Γ _ cX5_parse _ _ 0 0 21 [some (.ref r), some (.int (ii 1)), some (.int (ii k))] [] τ2) (fun k y τ2 => 401 - k) ?_ 0 x0 τ1 ⟨by omega, hY.symm, hz1, hE2, hR1⟩
  intro k y τ2 ⟨hk, hps, hzy, hE3, hR3⟩ ih
  refine g_iload_n q_X5_parse_21 rfl ?_
  refine g_if_eq (tgt := 43) q_X5_parse_22 (by decide) ⟨by omega, by omega⟩ (fun b0 => ?_) (fun b0 => ?_)
  · exact absurd b0 (by decide)
  refine g_iload_n q_X5_parse_25 rfl ?_
  refine g_sipush q_X5_parse_26 sp_400 ?_
  refine g_icmp_gt (tgt := 43) q_X5_parse_29 (by decide) ⟨by omega, by omega⟩ ⟨by omega, by omega⟩ (fun b1 => ?_) (fun b1 => ?_)
  · have e : k = 401 := by omega
    subst e
    have hps' : (-1, y) = Y := hps
    exact fin τ2 y (-1) _ _ (by rw [← hps']) hzy (fun _ => by rw [← hps']) hE3 ⟨by decide, by omega⟩ hR3
  refine g_aload_n q_X5_parse_32 rfl ?_
  have hR3' := hR3
  obtain ⟨⟨wsy, r3⟩, -⟩ := hR3'
  refine g_callV (rc' := 0) (rs' := 0) (As := []) cs_X5_38 q_X5_parse_33 (sp_takeLine hΓ hR3 oX hl hzy) rfl (by repeat first | with_reducible assumption | with_reducible exact hput_s _ _ _ | refine (hput_n _ _ (by omega)).trans ?_ | exact hput_s _ _ _ | assumption) rfl rfl rfl rfl (Nat.le_of_ble_eq_true rfl) (by decide) (by decide) (by decide) (fun _ _ h => h.elim) (fun v τ3 hq => ?_)
  obtain ⟨f, hf⟩ : ∃ f, 401 - k = f + 1 := ⟨400 - k, by omega⟩
  rw [hf] at hps
  have hps2 : (if (lnS tx len y).1 = 0 then psN tx len f (lnS tx len y).2.2 else if (lnS tx len y).1 = 1 then (-1, y) else ((lnS tx len y).2.1, y)) = Y := hps
  obtain ⟨hE4, ⟨y1, rfl, y2⟩ | ⟨y1, rfl, p', y2, y3⟩ | ⟨y1, y2, rfl, z, y3, y4⟩⟩ := hq
  · rw [if_pos y1] at hps2
    refine g_istore_n (L' := [_, _, _]) q_X5_parse_36 (by decide) rfl ?_
    refine g_iinc (L' := [_, _, _]) q_X5_parse_37 rfl rfl ?_
    refine g_goto (tgt := 21) q_X5_parse_40 (by decide) ?_
    exact ih (k + 1) (lnS tx len y).2.2 τ3 ⟨by omega, by rw [show 401 - (k + 1) = f by omega]; exact hps2, (lnS_ok oX hzy y1).1, hE3.trans hE4 (fun a h => h), y2⟩ (by omega)
  · rw [if_neg (by omega), if_pos y1] at hps2
    refine g_istore_n (L' := [_, _, _]) q_X5_parse_36 (by decide) rfl ?_
    refine g_iinc (L' := [_, _, _]) q_X5_parse_37 rfl rfl ?_
    refine g_goto (tgt := 21) q_X5_parse_40 (by decide) ?_
    refine g_iload_n q_X5_parse_21 rfl ?_
    refine g_if_eq (tgt := 43) q_X5_parse_22 (by decide) (bi_rg _) (fun b9 => ?_) (fun b9 => ?_)
    · exact fin τ3 (p', y.2) (-1) _ _ (by rw [← hps2]) ⟨y2, hzy.2⟩ (fun _ => by rw [← hps2]) (hE3.trans hE4 (fun a h => h)) ⟨by decide, by omega⟩ y3
    · exact absurd rfl b9
  · rw [if_neg (by omega), if_neg (by omega)] at hps2
    refine g_istore_n (L' := [_, _, _]) q_X5_parse_36 (by decide) rfl ?_
    refine g_iinc (L' := [_, _, _]) q_X5_parse_37 rfl rfl ?_
    refine g_goto (tgt := 21) q_X5_parse_40 (by decide) ?_
    refine g_iload_n q_X5_parse_21 rfl ?_
    refine g_if_eq (tgt := 43) q_X5_parse_22 (by decide) (bi_rg _) (fun b9 => ?_) (fun b9 => ?_)
    · exact fin τ3 z (lnS tx len y).2.1 _ _ (by rw [← hps2]) y3 (fun q => absurd q y2) (hE3.trans hE4 (fun a h => h)) (lnS_frg hzy) y4
    · exact absurd rfl b9
end TX9

