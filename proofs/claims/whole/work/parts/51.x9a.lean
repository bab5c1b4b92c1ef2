/-! CartPaths: what must be, texts, plain reads -/
abbrev xIOB : String := "java/lang/IndexOutOfBoundsException"
abbrev xIAE : String := "java/lang/IllegalArgumentException"
abbrev xISE : String := "java/lang/IllegalStateException"
abbrev xNSE : String := "java/util/NoSuchElementException"
def gro (σ σ' : AH) : Prop := ∃ s, σ.1 ≤ s ∧ σ' = (s, σ.2)
def qN (p : Prop) (σ : AH) : Option Value → AH → Prop := fun v σ' => v = none ∧ p ∧ σ' = σ
def qX (E0 : String) (p : Prop) (σ : AH) : String → AH → Prop := fun E σ' => E = E0 ∧ ¬ p ∧ gro σ σ'
def oQ (e : Nat) (a : Int) (S : AH → Prop) : Option Value → AH → Prop := fun v σ' => e = 0 ∧ v = some (.int (ii a)) ∧ S σ'
def oX (xs : List String) (e : Nat) (S : AH → Prop) : String → AH → Prop := fun E σ' => e ≠ 0 ∧ xs[e - 1]? = some E ∧ S σ'
/-- the state behind a call -/
def SX (σ : AH) (x lo N : Nat) (R : Nat → Nat) (len : Nat) (tx : Nat → Int) (fa : Int) (z : PS) (l : List (Int × Int × Int)) (wl : Nat) (wr : Nat → Int) : AH → Prop := fun σ' => CX σ' x lo N R len tx fa z l wl wr ∧ eqG σ σ' (fX x lo)
theorem gro_eqG {σ σ' : AH} {F : Nat → Prop} (h : gro σ σ') : eqG σ σ' F := by
  obtain ⟨s, h1, rfl⟩ := h
  exact ⟨h1, fun _ _ _ => rfl⟩
section X9A
variable {Γ : GT} {σ : AH} {x lo N : Nat} {R : Nat → Nat} {len : Nat} {tx : Nat → Int} {fa : Int} {z : PS} {l : List (Int × Int × Int)} {wl : Nat} {wr : Nat → Int}
theorem SX.of (h : CX σ x lo N R len tx fa z l wl wr) (hN : N < 1000) : SX σ x lo (N + 1) R len tx fa z l wl wr σ := ⟨h.up (Nat.le_succ N) hN, eqG.rfl'⟩
theorem SX.gr (h : CX σ x lo N R len tx fa z l wl wr) (hN : N < 1000) {σ' : AH} (g : gro σ σ') : SX σ x lo (N + 1) R len tx fa z l wl wr σ' := by
  obtain ⟨s, h1, rfl⟩ := g
  exact ⟨(h.grow h1).up (Nat.le_succ N) hN, ⟨h1, fun _ _ _ => rfl⟩⟩
theorem SX.tr {σ' : AH} {N' : Nat} {R' : Nat → Nat} {len' : Nat} {tx' : Nat → Int} {fa' : Int} {z' : PS} {l' : List (Int × Int × Int)} {wl' : Nat} {wr' : Nat → Int} (e : eqG σ σ' (fX x lo)) {σ2 : AH} (h : SX σ' x lo N' R' len' tx' fa' z' l' wl' wr' σ2) : SX σ x lo N' R' len' tx' fa' z' l' wl' wr' σ2 := ⟨h.1, e.trans h.2 (fun _ _ h => h)⟩
theorem sp_needTime (hΓ : Gd Γ) (t : Int) (ht : rg t) : Sp Γ miX9_needTime 1 6 [.int (ii t)] σ (qN (0 ≤ t ∧ t ≤ 40) σ) (qX xIAE (0 ≤ t ∧ t ≤ 40) σ) := by
  refine Sp_of (L := [_]) hΓ (by decide +kernel) rfl (Nat.le_of_ble_eq_true rfl) rfl ?_
  refine g_iload_n q_X9_needTime_0 rfl ?_
  refine g_if_lt (tgt := 10) q_X9_needTime_1 (by decide) ht (fun e1 => ?_) (fun e1 => ?_)
  · refine g_throw th_IAE q_X9_needTime_10.1 q_X9_needTime_13.1 q_X9_needTime_14.1 q_X9_needTime_17.1 rfl (by decide) (Nat.le_of_ble_eq_true rfl) (by decide) (by decide) (fun z hz => ?_)
    exact ⟨rfl, by omega, z, hz, rfl⟩
  refine g_iload_n q_X9_needTime_4 rfl ?_
  refine g_bipush q_X9_needTime_5 bp_40 ?_
  refine g_icmp_le (tgt := 18) q_X9_needTime_7 (by decide) ht ⟨by omega, by omega⟩ (fun e2 => ?_) (fun e2 => ?_)
  · refine g_return q_X9_needTime_18.1 rfl ?_
    exact ⟨rfl, by omega, rfl⟩
  · refine g_throw th_IAE q_X9_needTime_10.1 q_X9_needTime_13.1 q_X9_needTime_14.1 q_X9_needTime_17.1 rfl (by decide) (Nat.le_of_ble_eq_true rfl) (by decide) (by decide) (fun z hz => ?_)
    exact ⟨rfl, by omega, z, hz, rfl⟩
theorem sp_needStop (hΓ : Gd Γ) (t : Int) (ht : rg t) : Sp Γ miX9_needStop 1 6 [.int (ii t)] σ (qN (1 ≤ t ∧ t ≤ 20) σ) (qX xIAE (1 ≤ t ∧ t ≤ 20) σ) := by
  refine Sp_of (L := [_]) hΓ (by decide +kernel) rfl (Nat.le_of_ble_eq_true rfl) rfl ?_
  refine g_iload_n q_X9_needStop_0 rfl ?_
  refine g_iconst q_X9_needStop_1 ?_
  refine g_icmp_lt (tgt := 11) q_X9_needStop_2 (by decide) ht ⟨by omega, by omega⟩ (fun e1 => ?_) (fun e1 => ?_)
  · refine g_throw th_IAE q_X9_needStop_11.1 q_X9_needStop_14.1 q_X9_needStop_15.1 q_X9_needStop_18.1 rfl (by decide) (Nat.le_of_ble_eq_true rfl) (by decide) (by decide) (fun z hz => ?_)
    exact ⟨rfl, by omega, z, hz, rfl⟩
  refine g_iload_n q_X9_needStop_5 rfl ?_
  refine g_bipush q_X9_needStop_6 bp_20 ?_
  refine g_icmp_le (tgt := 19) q_X9_needStop_8 (by decide) ht ⟨by omega, by omega⟩ (fun e2 => ?_) (fun e2 => ?_)
  · refine g_return q_X9_needStop_19.1 rfl ?_
    exact ⟨rfl, by omega, rfl⟩
  · refine g_throw th_IAE q_X9_needStop_11.1 q_X9_needStop_14.1 q_X9_needStop_15.1 q_X9_needStop_18.1 rfl (by decide) (Nat.le_of_ble_eq_true rfl) (by decide) (by decide) (fun z hz => ?_)
    exact ⟨rfl, by omega, z, hz, rfl⟩
theorem sp_needTwo (hΓ : Gd Γ) (c d : Int) (hc : rg c) (hd : rg d) : Sp Γ miX9_needTwo 1 6 [.int (ii c), .int (ii d)] σ (qN (c ≠ d) σ) (qX xIAE (c ≠ d) σ) := by
  refine Sp_of (L := [_, _]) hΓ (by decide +kernel) rfl (Nat.le_of_ble_eq_true rfl) rfl ?_
  refine g_iload_n q_X9_needTwo_0 rfl ?_
  refine g_iload_n q_X9_needTwo_1 rfl ?_
  refine g_icmp_ne (tgt := 13) q_X9_needTwo_2 (by decide) hc hd (fun e1 => ?_) (fun e1 => ?_)
  · refine g_return q_X9_needTwo_13.1 rfl ?_
    exact ⟨rfl, e1, rfl⟩
  · refine g_throw th_IAE q_X9_needTwo_5.1 q_X9_needTwo_8.1 q_X9_needTwo_9.1 q_X9_needTwo_12.1 rfl (by decide) (Nat.le_of_ble_eq_true rfl) (by decide) (by decide) (fun z hz => ?_)
    exact ⟨rfl, by omega, z, hz, rfl⟩
theorem sp_needCart (hΓ : Gd Γ) (hX : CX σ x lo N R len tx fa z l wl wr) (c : Int) (hc : rg c) : Sp Γ miX9_needCart 1 6 [.ref x, .int (ii c)] σ (qN (0 ≤ c ∧ c < zCa z) σ) (qX xIOB (0 ≤ c ∧ c < zCa z) σ) := by
  obtain ⟨ve, av, h1, h2, h3, h4, h5, q1, q2, q3, q4, -⟩ := hX
  have hn := h4.1.1
  obtain ⟨g0, -⟩ := q4
  refine Sp_of (L := [_, _]) hΓ (by decide +kernel) rfl (Nat.le_of_ble_eq_true rfl) rfl ?_
  refine g_iload_n q_X9_needCart_0 rfl ?_
  refine g_if_lt (tgt := 15) q_X9_needCart_1 (by decide) hc (fun e1 => ?_) (fun e1 => ?_)
  · refine g_throw th_IOB q_X9_needCart_15.1 q_X9_needCart_18.1 q_X9_needCart_19.1 q_X9_needCart_22.1 rfl (by decide) (Nat.le_of_ble_eq_true rfl) (by decide) (by decide) (fun z hz => ?_)
    exact ⟨rfl, by omega, z, hz, rfl⟩
  refine g_iload_n q_X9_needCart_4 rfl ?_
  refine g_aload_n q_X9_needCart_5 rfl ?_
  refine g_get fl_X9_19 q_X9_needCart_6 (by repeat first | with_reducible assumption | with_reducible exact hput_s _ _ _ | refine (hput_n _ _ (by omega)).trans ?_ | exact hput_s _ _ _ | assumption) rfl ?_
  refine g_get fl_X9_113 q_X9_needCart_9 (by repeat first | with_reducible assumption | with_reducible exact hput_s _ _ _ | refine (hput_n _ _ (by omega)).trans ?_ | exact hput_s _ _ _ | assumption) rfl ?_
  refine g_icmp_lt (tgt := 23) q_X9_needCart_12 (by decide) hc ⟨by omega, by omega⟩ (fun e2 => ?_) (fun e2 => ?_)
  · refine g_return q_X9_needCart_23.1 rfl ?_
    exact ⟨rfl, by omega, rfl⟩
  · refine g_throw th_IOB q_X9_needCart_15.1 q_X9_needCart_18.1 q_X9_needCart_19.1 q_X9_needCart_22.1 rfl (by decide) (Nat.le_of_ble_eq_true rfl) (by decide) (by decide) (fun z hz => ?_)
    exact ⟨rfl, by omega, z, hz, rfl⟩
abbrev inXY (z : PS) (a b : Int) : Prop := 0 ≤ a ∧ a < zCo z ∧ 0 ≤ b ∧ b < zRo z
theorem sp_needCell (hΓ : Gd Γ) (hX : CX σ x lo N R len tx fa z l wl wr) (a b : Int) (ha : rg a) (hb : rg b) : Sp Γ miX9_needCell 1 6 [.ref x, .int (ii a), .int (ii b)] σ (fun v σ' => inXY z a b ∧ v = some (.int (ii (6 * b + a))) ∧ σ' = σ) (qX xIOB (inXY z a b) σ) := by
  obtain ⟨ve, av, h1, h2, h3, h4, h5, q1, q2, q3, q4, -⟩ := hX
  have hn := h4.1.1
  have q4' := q4
  obtain ⟨g0, -⟩ := q4'
  refine Sp_of (L := [_, _, _]) hΓ (by decide +kernel) rfl (Nat.le_of_ble_eq_true rfl) rfl ?_
  refine g_aload_n q_X9_needCell_0 rfl ?_
  refine g_get fl_X9_19 q_X9_needCell_1 (by repeat first | with_reducible assumption | with_reducible exact hput_s _ _ _ | refine (hput_n _ _ (by omega)).trans ?_ | exact hput_s _ _ _ | assumption) rfl ?_
  refine g_iload_n q_X9_needCell_4 rfl ?_
  refine g_iload_n q_X9_needCell_5 rfl ?_
  refine g_callVN (rc' := 1) (rs' := 6) (As := [_, _]) cs_X9_119 q_X9_needCell_6 (sp_has hΓ q4 hn.1 hn.2.1 a b ha hb) rfl (by repeat first | with_reducible assumption | with_reducible exact hput_s _ _ _ | refine (hput_n _ _ (by omega)).trans ?_ | exact hput_s _ _ _ | assumption) rfl rfl rfl rfl (Nat.le_of_ble_eq_true rfl) (by decide) (by decide) (by decide) (fun _ _ h => h.elim) (k_rb ?_)
  refine g_if_ne (tgt := 20) q_X9_needCell_9 (by decide) (bi_rg _) (fun e1 => ?_) (fun e1 => ?_)
  · have e2 := of_decide_eq_true (bi_t e1)
    refine g_bipush q_X9_needCell_20 bp_6 ?_
    refine g_iload_n q_X9_needCell_22 rfl ?_
    refine g_imul q_X9_needCell_23 ?_
    refine g_iload_n q_X9_needCell_24 rfl ?_
    refine g_iadd q_X9_needCell_25 ?_
    refine g_ireturn q_X9_needCell_26.1 rfl ?_
    exact ⟨e2, rfl, rfl⟩
  · have e2 := of_decide_eq_false (bi_f (by omega))
    refine g_throw th_IOB q_X9_needCell_12.1 q_X9_needCell_15.1 q_X9_needCell_16.1 q_X9_needCell_19.1 rfl (by decide) (Nat.le_of_ble_eq_true rfl) (by decide) (by decide) (fun z hz => ?_)
    exact ⟨rfl, e2, z, hz, rfl⟩
theorem sp_fault (hΓ : Gd Γ) (hN : N < 1000) (hX : CX σ x lo N R len tx fa z l wl wr) : Sp Γ miX9_fault 8 48 [.ref x] σ (oQ 0 fa (SX σ x lo (N + 1) R len tx fa z l wl wr)) noX := by
  have hS := SX.of hX hN
  obtain ⟨ve, av, h1, h2, h3, h4, h5, q1, q2, ⟨y, lv, y1, ⟨ws, y2⟩, -⟩, -⟩ := hX
  refine Sp_of (L := [_]) hΓ (by decide +kernel) rfl (Nat.le_of_ble_eq_true rfl) rfl ?_
  refine g_aload_n q_X9_fault_0 rfl ?_
  refine g_get fl_X9_10 q_X9_fault_1 (by repeat first | with_reducible assumption | with_reducible exact hput_s _ _ _ | refine (hput_n _ _ (by omega)).trans ?_ | exact hput_s _ _ _ | assumption) rfl ?_
  refine g_get fl_X9_96 q_X9_fault_4 (by repeat first | with_reducible assumption | with_reducible exact hput_s _ _ _ | refine (hput_n _ _ (by omega)).trans ?_ | exact hput_s _ _ _ | assumption) rfl ?_
  refine g_ireturn q_X9_fault_7.1 rfl ?_
  exact ⟨rfl, rfl, hS⟩
theorem sp_octet (hΓ : Gd Γ) (hN : N < 1000) (hX : CX σ x lo N R len tx fa z l wl wr) (k : Int) (hk : rg k) : Sp Γ miX9_octet 8 48 [.ref x, .int (ii k)] σ (oQ 0 (if 0 ≤ k ∧ k < wl then wr k.toNat else -1) (SX σ x lo (N + 1) R len tx fa z l wl wr)) noX := by
  have hS := SX.of hX hN
  obtain ⟨ve, av, h1, h2, h3, h4, h5, q1, q2, q3, q4, q5, q6, q7, q8, q9, q10, q11, q12⟩ := hX
  refine Sp_of (L := [_, _]) hΓ (by decide +kernel) rfl (Nat.le_of_ble_eq_true rfl) rfl ?_
  refine g_iload_n q_X9_octet_0 rfl ?_
  refine g_if_lt (tgt := 12) q_X9_octet_1 (by decide) hk (fun e1 => ?_) (fun e1 => ?_)
  · refine g_iconst q_X9_octet_12 ?_
    refine g_goto (tgt := 22) q_X9_octet_13 (by decide) ?_
    refine g_ireturn q_X9_octet_22.1 rfl ?_
    rw [if_neg (by omega)]
    exact ⟨rfl, rfl, hS⟩
  refine g_iload_n q_X9_octet_4 rfl ?_
  refine g_aload_n q_X9_octet_5 rfl ?_
  refine g_get fl_X9_80 q_X9_octet_6 (by repeat first | with_reducible assumption | with_reducible exact hput_s _ _ _ | refine (hput_n _ _ (by omega)).trans ?_ | exact hput_s _ _ _ | assumption) rfl ?_
  refine g_icmp_lt (tgt := 16) q_X9_octet_9 (by decide) hk ⟨by omega, by omega⟩ (fun e2 => ?_) (fun e2 => ?_)
  · rw [if_pos (by omega)]
    refine g_aload_n q_X9_octet_16 rfl ?_
    refine g_get fl_X9_76 q_X9_octet_17 (by repeat first | with_reducible assumption | with_reducible exact hput_s _ _ _ | refine (hput_n _ _ (by omega)).trans ?_ | exact hput_s _ _ _ | assumption) rfl ?_
    refine g_iload_n q_X9_octet_20 rfl ?_
    refine g_iaload q_X9_octet_21 (by repeat first | with_reducible assumption | with_reducible exact hput_s _ _ _ | refine (hput_n _ _ (by omega)).trans ?_ | exact hput_s _ _ _ | assumption) (by omega) (by omega) ?_
    refine g_ireturn q_X9_octet_22.1 rfl ?_
    exact ⟨rfl, rfl, hS⟩
  · refine g_iconst q_X9_octet_12 ?_
    refine g_goto (tgt := 22) q_X9_octet_13 (by decide) ?_
    refine g_ireturn q_X9_octet_22.1 rfl ?_
    rw [if_neg (by omega)]
    exact ⟨rfl, rfl, hS⟩
def eCell (z : PS) (a b : Int) : Nat := if inXY z a b then 0 else 1
theorem sp_cell (hΓ : Gd Γ) (hN : N < 1000) (hX : CX σ x lo N R len tx fa z l wl wr) (a b : Int) (ha : rg a) (hb : rg b) : Sp Γ miX9_cell 8 48 [.ref x, .int (ii a), .int (ii b)] σ (oQ (eCell z a b) (zSO z (6 * b + a).toNat) (SX σ x lo (N + 1) R len tx fa z l wl wr)) (oX [xIOB] (eCell z a b) (SX σ x lo (N + 1) R len tx fa z l wl wr)) := by
  have hX' := hX
  obtain ⟨ve, av, h1, h2, h3, h4, h5, q1, q2, q3, q4, -⟩ := hX'
  have hn := h4.1.1
  obtain ⟨g0, g1, -⟩ := q4
  refine Sp_of (L := [_, _, _]) hΓ (by decide +kernel) rfl (Nat.le_of_ble_eq_true rfl) rfl ?_
  refine g_aload_n q_X9_cell_0 rfl ?_
  refine g_get fl_X9_19 q_X9_cell_1 (by repeat first | with_reducible assumption | with_reducible exact hput_s _ _ _ | refine (hput_n _ _ (by omega)).trans ?_ | exact hput_s _ _ _ | assumption) rfl ?_
  refine g_get fl_X9_126 q_X9_cell_4 (by repeat first | with_reducible assumption | with_reducible exact hput_s _ _ _ | refine (hput_n _ _ (by omega)).trans ?_ | exact hput_s _ _ _ | assumption) rfl ?_
  refine g_aload_n q_X9_cell_7 rfl ?_
  refine g_iload_n q_X9_cell_8 rfl ?_
  refine g_iload_n q_X9_cell_9 rfl ?_
  refine g_callV (rc' := 7) (rs' := 42) (As := [_, _]) cs_X9_129 q_X9_cell_10 (sp_needCell hΓ hX a b ha hb) rfl (by repeat first | with_reducible assumption | with_reducible exact hput_s _ _ _ | refine (hput_n _ _ (by omega)).trans ?_ | exact hput_s _ _ _ | assumption) rfl rfl rfl rfl (Nat.le_of_ble_eq_true rfl) (by decide) (by decide) (by decide) (fun E σ' h => ⟨by unfold eCell; rw [if_neg h.2.1]; decide, by unfold eCell; rw [if_neg h.2.1, h.1]; rfl, SX.gr hX hN h.2.2⟩) (fun v σ' hq => ?_)
  obtain ⟨e1, rfl, rfl⟩ := hq
  have e2 := e1
  unfold inXY at e2
  refine g_iaload q_X9_cell_13 (by repeat first | with_reducible assumption | with_reducible exact hput_s _ _ _ | refine (hput_n _ _ (by omega)).trans ?_ | exact hput_s _ _ _ | assumption) (by omega) (by omega) ?_
  refine g_ireturn q_X9_cell_14.1 rfl ?_
  exact ⟨by unfold eCell; rw [if_pos e1], rfl, SX.of hX hN⟩
def eCart (z : PS) (c w : Int) : Nat := if ¬ (0 ≤ c ∧ c < zCa z) then 1 else if w = 0 ∨ w = 1 then 0 else 2
theorem sp_cart (hΓ : Gd Γ) (hN : N < 1000) (hX : CX σ x lo N R len tx fa z l wl wr) (c w : Int) (hc : rg c) (hw : rg w) : Sp Γ miX9_cart 8 48 [.ref x, .int (ii c), .int (ii w)] σ (oQ (eCart z c w) (if w = 0 then zPL z c.toNat else zGO z c.toNat) (SX σ x lo (N + 1) R len tx fa z l wl wr)) (oX [xIOB, xNSE] (eCart z c w) (SX σ x lo (N + 1) R len tx fa z l wl wr)) := by
  have hX' := hX
  obtain ⟨ve, av, h1, h2, h3, h4, h5, q1, q2, q3, q4, -⟩ := hX'
  have hn := h4.1.1
  obtain ⟨g0, g1, g2, g3, -⟩ := q4
  refine Sp_of (L := [_, _, _]) hΓ (by decide +kernel) rfl (Nat.le_of_ble_eq_true rfl) rfl ?_
  refine g_aload_n q_X9_cart_0 rfl ?_
  refine g_iload_n q_X9_cart_1 rfl ?_
  refine g_callV (rc' := 7) (rs' := 42) (As := [_]) cs_X9_133 q_X9_cart_2 (sp_needCart hΓ hX c hc) rfl (by repeat first | with_reducible assumption | with_reducible exact hput_s _ _ _ | refine (hput_n _ _ (by omega)).trans ?_ | exact hput_s _ _ _ | assumption) rfl rfl rfl rfl (Nat.le_of_ble_eq_true rfl) (by decide) (by decide) (by decide) (fun E σ' h => ⟨by unfold eCart; rw [if_pos h.2.1]; decide, by unfold eCart; rw [if_pos h.2.1, h.1]; rfl, SX.gr hX hN h.2.2⟩) (fun v σ' hq => ?_)
  obtain ⟨rfl, e1, rfl⟩ := hq
  refine g_iload_n q_X9_cart_5 rfl ?_
  by_cases w0 : w = 0
  · subst w0
    refine g_lsw (off := 26) (tgt := 32) q_X9_cart_6 ⟨by decide, by decide⟩ (by decide) rfl (by decide) ?_
    refine g_aload_n q_X9_cart_32 rfl ?_
    refine g_get fl_X9_19 q_X9_cart_33 (by repeat first | with_reducible assumption | with_reducible exact hput_s _ _ _ | refine (hput_n _ _ (by omega)).trans ?_ | exact hput_s _ _ _ | assumption) rfl ?_
    refine g_get fl_X9_136 q_X9_cart_36 (by repeat first | with_reducible assumption | with_reducible exact hput_s _ _ _ | refine (hput_n _ _ (by omega)).trans ?_ | exact hput_s _ _ _ | assumption) rfl ?_
    refine g_iload_n q_X9_cart_39 rfl ?_
    refine g_iaload q_X9_cart_40 (by repeat first | with_reducible assumption | with_reducible exact hput_s _ _ _ | refine (hput_n _ _ (by omega)).trans ?_ | exact hput_s _ _ _ | assumption) (by omega) (by omega) ?_
    refine g_ireturn q_X9_cart_41.1 rfl ?_
    exact ⟨by unfold eCart; rw [if_neg (by omega), if_pos (Or.inl rfl)], by rw [if_pos rfl], SX.of hX hN⟩
  · by_cases w1 : w = 1
    · subst w1
      refine g_lsw (off := 36) (tgt := 42) q_X9_cart_6 ⟨by decide, by decide⟩ (by decide) rfl (by decide) ?_
      refine g_aload_n q_X9_cart_42 rfl ?_
      refine g_get fl_X9_19 q_X9_cart_43 (by repeat first | with_reducible assumption | with_reducible exact hput_s _ _ _ | refine (hput_n _ _ (by omega)).trans ?_ | exact hput_s _ _ _ | assumption) rfl ?_
      refine g_get fl_X9_139 q_X9_cart_46 (by repeat first | with_reducible assumption | with_reducible exact hput_s _ _ _ | refine (hput_n _ _ (by omega)).trans ?_ | exact hput_s _ _ _ | assumption) rfl ?_
      refine g_iload_n q_X9_cart_49 rfl ?_
      refine g_iaload q_X9_cart_50 (by repeat first | with_reducible assumption | with_reducible exact hput_s _ _ _ | refine (hput_n _ _ (by omega)).trans ?_ | exact hput_s _ _ _ | assumption) (by omega) (by omega) ?_
      refine g_ireturn q_X9_cart_51.1 rfl ?_
      exact ⟨by unfold eCart; rw [if_neg (by omega), if_pos (Or.inr rfl)], by rw [if_neg (by decide)], SX.of hX hN⟩
    · refine g_lsw (off := 46) (tgt := 52) q_X9_cart_6 hw (by decide) (by simp [Op.lookupswitch.offset, List.find?, w0, w1, Ne.symm w0, Ne.symm w1]) (by decide) ?_
      refine g_throw th_NSE q_X9_cart_52.1 q_X9_cart_55.1 q_X9_cart_56.1 q_X9_cart_59.1 rfl (by decide) (Nat.le_of_ble_eq_true rfl) (by decide) (by decide) (fun z hz => ?_)
      exact ⟨by unfold eCart; rw [if_neg (by omega), if_neg (by omega)]; decide, by unfold eCart; rw [if_neg (by omega), if_neg (by omega)]; rfl, SX.gr hX hN ⟨z, hz, rfl⟩⟩
def e1C (z : PS) (c : Int) : Nat := if 0 ≤ c ∧ c < zCa z then 0 else 1
theorem e1C_0 {z : PS} {c : Int} (h : 0 ≤ c ∧ c < zCa z) : e1C z c = 0 := if_pos h
theorem e1C_1 {z : PS} {c : Int} (h : ¬ (0 ≤ c ∧ c < zCa z)) : e1C z c = 1 := if_neg h
theorem sp_name (hΓ : Gd Γ) (hN : N < 1000) (hX : CX σ x lo N R len tx fa z l wl wr) (c k : Int) (hc : rg c) (hk : rg k) : Sp Γ miX9_name 8 48 [.ref x, .int (ii c), .int (ii k)] σ (oQ (e1C z c) (if 0 ≤ k ∧ k < zNL z c.toNat then zLE z (6 * c + k).toNat else -1) (SX σ x lo (N + 1) R len tx fa z l wl wr)) (oX [xIOB] (e1C z c) (SX σ x lo (N + 1) R len tx fa z l wl wr)) := by
  have hX' := hX
  obtain ⟨ve, av, h1, h2, h3, h4, h5, q1, q2, q3, q4, -⟩ := hX'
  have hn := h4.1.1
  have hnl := h4.1.2.2.2.2.2 c.toNat
  obtain ⟨g0, g1, g2, g3, g4, g5, -⟩ := q4
  refine Sp_of (L := [_, _, _]) hΓ (by decide +kernel) rfl (Nat.le_of_ble_eq_true rfl) rfl ?_
  refine g_aload_n q_X9_name_0 rfl ?_
  refine g_iload_n q_X9_name_1 rfl ?_
  refine g_callV (rc' := 7) (rs' := 42) (As := [_]) cs_X9_133 q_X9_name_2 (sp_needCart hΓ hX c hc) rfl (by repeat first | with_reducible assumption | with_reducible exact hput_s _ _ _ | refine (hput_n _ _ (by omega)).trans ?_ | exact hput_s _ _ _ | assumption) rfl rfl rfl rfl (Nat.le_of_ble_eq_true rfl) (by decide) (by decide) (by decide) (fun E σ' h => ⟨by rw [e1C_1 h.2.1]; decide, by rw [e1C_1 h.2.1, h.1]; rfl, SX.gr hX hN h.2.2⟩) (fun v σ' hq => ?_)
  obtain ⟨rfl, e1, rfl⟩ := hq
  refine g_iload_n q_X9_name_5 rfl ?_
  refine g_if_lt (tgt := 22) q_X9_name_6 (by decide) hk (fun e2 => ?_) (fun e2 => ?_)
  · refine g_iconst q_X9_name_22 ?_
    refine g_ireturn q_X9_name_23.1 rfl ?_
    rw [if_neg (by omega)]
    exact ⟨e1C_0 e1, rfl, SX.of hX hN⟩
  refine g_iload_n q_X9_name_9 rfl ?_
  refine g_aload_n q_X9_name_10 rfl ?_
  refine g_get fl_X9_19 q_X9_name_11 (by repeat first | with_reducible assumption | with_reducible exact hput_s _ _ _ | refine (hput_n _ _ (by omega)).trans ?_ | exact hput_s _ _ _ | assumption) rfl ?_
  refine g_get fl_X9_145 q_X9_name_14 (by repeat first | with_reducible assumption | with_reducible exact hput_s _ _ _ | refine (hput_n _ _ (by omega)).trans ?_ | exact hput_s _ _ _ | assumption) rfl ?_
  refine g_iload_n q_X9_name_17 rfl ?_
  refine g_iaload q_X9_name_18 (by repeat first | with_reducible assumption | with_reducible exact hput_s _ _ _ | refine (hput_n _ _ (by omega)).trans ?_ | exact hput_s _ _ _ | assumption) (by omega) (by omega) ?_
  refine g_icmp_lt (tgt := 24) q_X9_name_19 (by decide) hk ⟨by omega, by omega⟩ (fun e3 => ?_) (fun e3 => ?_)
  · refine g_aload_n q_X9_name_24 rfl ?_
    refine g_get fl_X9_19 q_X9_name_25 (by repeat first | with_reducible assumption | with_reducible exact hput_s _ _ _ | refine (hput_n _ _ (by omega)).trans ?_ | exact hput_s _ _ _ | assumption) rfl ?_
    refine g_get fl_X9_148 q_X9_name_28 (by repeat first | with_reducible assumption | with_reducible exact hput_s _ _ _ | refine (hput_n _ _ (by omega)).trans ?_ | exact hput_s _ _ _ | assumption) rfl ?_
    refine g_bipush q_X9_name_31 bp_6 ?_
    refine g_iload_n q_X9_name_33 rfl ?_
    refine g_imul q_X9_name_34 ?_
    refine g_iload_n q_X9_name_35 rfl ?_
    refine g_iadd q_X9_name_36 ?_
    refine g_iaload q_X9_name_37 (by repeat first | with_reducible assumption | with_reducible exact hput_s _ _ _ | refine (hput_n _ _ (by omega)).trans ?_ | exact hput_s _ _ _ | assumption) (by omega) (by omega) ?_
    refine g_ireturn q_X9_name_38.1 rfl ?_
    rw [if_pos (by omega)]
    exact ⟨e1C_0 e1, rfl, SX.of hX hN⟩
  · refine g_iconst q_X9_name_22 ?_
    refine g_ireturn q_X9_name_23.1 rfl ?_
    rw [if_neg (by omega)]
    exact ⟨e1C_0 e1, rfl, SX.of hX hN⟩
end X9A

