/-! Stop: object p, come at p + 1 (5), left at p + 2 (36) -/
abbrev sto (p : Nat) : AE := ob 4 [.ref (p + 1), .ref (p + 2)]
def mx2 (a b : Int) : Int := if a < b then b else a
def cmz (P : Nat → Int) (k t : Nat) : Bool := decide (P (41 * k + (t + 1)) ≠ P (41 * k + t))
/-- behind 'comes' at time t + 1, of the first j carts -/
def so1 (P : Nat → Int) (t : Nat) (cm : Nat → Int) (j : Nat) : Nat → Int := fun k => if k < j ∧ cmz P k t = true then mx2 ((t + 1 : Nat) : Int) (cm k + 1) else cm k
def so2 (P : Nat → Int) (n t : Nat) (lf cm : Nat → Int) (k : Nat) : Nat → Int := if cmz P k t = true then va_up cm k (mx2 (cm k) (if fstN (fun c => decide (P (41 * c + t) = P (41 * k + (t + 1)))) n = -1 then lf (P (41 * k + (t + 1))).toNat else cm (fstN (fun c => decide (P (41 * c + t) = P (41 * k + (t + 1)))) n).toNat)) else cm
def so3 (P : Nat → Int) (n t : Nat) (lf cm : Nat → Int) : Nat → (Nat → Int)
  | 0 => cm
  | k + 1 => so2 P n t lf (so3 P n t lf cm k) k
def so4 (P : Nat → Int) (n t : Nat) (lf cm : Nat → Int) : Nat → (Nat → Int)
  | 0 => cm
  | r + 1 => so3 P n t lf (so4 P n t lf cm r) n
def so5 (P : Nat → Int) (t : Nat) (lf cm : Nat → Int) : Nat → (Nat → Int)
  | 0 => lf
  | k + 1 => if cmz P k t = true then va_up (so5 P t lf cm k) (P (41 * k + t)).toNat (cm k) else so5 P t lf cm k
/-- what has come of all at time t: still waiting, come, left -/
def so6 (P : Nat → Int) (n sd ti nn : Nat) : Nat → (Bool × (Nat → Int) × (Nat → Int))
  | 0 => (true, (fun _ => 0), (fun _ => 0))
  | t + 1 =>
    let q := so6 P n sd ti nn t
    let c1 := so1 P t q.2.1 n
    let st := q.1 && (decide (ti < t + 1) && cmz P sd t)
    let c2 := if st = true then va_up c1 sd (mx2 (c1 sd) ((ti + nn + 1 : Nat) : Int)) else c1
    let c3 := so4 P n t q.2.2 c2 n
    (q.1 && !st, c3, so5 P t q.2.2 c3 n)
def bdT (t : Int) (f : Nat → Int) : Prop := ∀ k, 0 ≤ f k ∧ f k ≤ t
theorem bdT.up {t x : Int} {f : Nat → Int} (h : bdT t f) (k : Nat) (hx : 0 ≤ x ∧ x ≤ t) : bdT t (va_up f k x) := fun j => by
  unfold va_up
  split
  · exact hx
  · exact h j
theorem mx2_rg {a b t : Int} (ha : 0 ≤ a ∧ a ≤ t) (hb : 0 ≤ b ∧ b ≤ t) : 0 ≤ mx2 a b ∧ mx2 a b ≤ t := by
  unfold mx2
  split <;> omega
theorem bdT_so1 {P cm : Nat → Int} {t j : Nat} {B : Int} (h : bdT B cm) (hB : (t : Int) ≤ B) : bdT (B + 1) (so1 P t cm j) := fun k => by
  unfold so1
  have := h k
  split
  · exact mx2_rg ⟨by omega, by omega⟩ ⟨by omega, by omega⟩
  · omega
theorem bdT_so2 {P lf cm : Nat → Int} {n t k : Nat} {B : Int} (h : bdT B cm) (hl : bdT B lf) : bdT B (so2 P n t lf cm k) := by
  unfold so2
  split
  · refine h.up k (mx2_rg (h k) ?_)
    split
    · exact hl _
    · exact h _
  · exact h
theorem bdT_so3 {P lf cm : Nat → Int} {n t : Nat} {B : Int} (h : bdT B cm) (hl : bdT B lf) : ∀ k, bdT B (so3 P n t lf cm k)
  | 0 => h
  | k + 1 => bdT_so2 (bdT_so3 h hl k) hl
theorem bdT_so4 {P lf cm : Nat → Int} {n t : Nat} {B : Int} (h : bdT B cm) (hl : bdT B lf) : ∀ k, bdT B (so4 P n t lf cm k)
  | 0 => h
  | k + 1 => bdT_so3 (bdT_so4 h hl k) hl n
theorem bdT_so5 {P lf cm : Nat → Int} {t : Nat} {B : Int} (h : bdT B cm) (hl : bdT B lf) : ∀ k, bdT B (so5 P t lf cm k)
  | 0 => hl
  | k + 1 => by
    unfold so5
    split
    · exact (bdT_so5 h hl k).up _ (h k)
    · exact bdT_so5 h hl k
theorem bdT_so6 {P : Nat → Int} {n sd ti nn : Nat} (h1 : ti ≤ 40) (h2 : nn ≤ 20) : ∀ t : Nat, bdT (61 + t) (so6 P n sd ti nn t).2.1 ∧ bdT (61 + t) (so6 P n sd ti nn t).2.2
  | 0 => ⟨fun k => ⟨by show (0 : Int) ≤ 0; decide, by show (0 : Int) ≤ 61 + (0 : Nat); decide⟩, fun k => ⟨by show (0 : Int) ≤ 0; decide, by show (0 : Int) ≤ 61 + (0 : Nat); decide⟩⟩
  | t + 1 => by
    obtain ⟨i1, i2⟩ := bdT_so6 (P := P) (n := n) (sd := sd) h1 h2 t
    have e : (61 : Int) + ((t + 1 : Nat) : Int) = 61 + t + 1 := by omega
    rw [e]
    have j1 : bdT (61 + t + 1) (so1 P t (so6 P n sd ti nn t).2.1 n) := bdT_so1 i1 (by omega)
    have j2 : bdT (61 + (t : Int) + 1) (so6 P n sd ti nn t).2.2 := fun k => by have := i2 k; omega
    have j3 : bdT (61 + t + 1) (if ((so6 P n sd ti nn t).1 && (decide (ti < t + 1) && cmz P sd t)) = true then va_up (so1 P t (so6 P n sd ti nn t).2.1 n) sd (mx2 ((so1 P t (so6 P n sd ti nn t).2.1 n) sd) ((ti + nn + 1 : Nat) : Int)) else so1 P t (so6 P n sd ti nn t).2.1 n) := by
      split
      · exact j1.up _ (mx2_rg (j1 sd) ⟨by omega, by omega⟩)
      · exact j1
    exact ⟨bdT_so4 j3 j2 n, bdT_so5 (bdT_so4 j3 j2 n) j2 n⟩
def STo (σ : AH) (p : Nat) (cm lf : Nat → Int) : Prop := σ.2 p = some (sto p) ∧ σ.2 (p + 1) = some (ai 5 cm) ∧ σ.2 (p + 2) = some (ai 36 lf)
section ST
variable {Γ : GT} {σ : AH} {p w n : Nat} {P C cm lf : Nat → Int}
theorem sp_delay (hΓ : Gd Γ) (hT : STo σ p cm lf) (hW : WYo σ w n P C) (c : Nat) (hc : c < 5) : Sp Γ miX4_delay 0 0 [.ref p, .ref w, .int (ii c)] σ (ri (cm c - C c) σ) noX := by
  obtain ⟨h0, h1, h2⟩ := hT
  obtain ⟨⟨ct, cs, cl, co, w0⟩, w1, w2⟩ := hW
  refine Sp_of (L := [_, _, _]) hΓ (by decide +kernel) rfl (Nat.le_of_ble_eq_true rfl) rfl ?_
  refine g_aload_n q_X4_delay_0 rfl ?_
  refine g_get fl_X4_9 q_X4_delay_1 (by repeat first | with_reducible assumption | with_reducible exact hput_s _ _ _ | refine (hput_n _ _ (by omega)).trans ?_ | exact hput_s _ _ _ | assumption) rfl ?_
  refine g_iload_n q_X4_delay_4 rfl ?_
  refine g_iaload q_X4_delay_5 (by repeat first | with_reducible assumption | with_reducible exact hput_s _ _ _ | refine (hput_n _ _ (by omega)).trans ?_ | exact hput_s _ _ _ | assumption) (by omega) (by omega) ?_
  refine g_aload_n q_X4_delay_6 rfl ?_
  refine g_get fl_X4_53 q_X4_delay_7 (by repeat first | with_reducible assumption | with_reducible exact hput_s _ _ _ | refine (hput_n _ _ (by omega)).trans ?_ | exact hput_s _ _ _ | assumption) rfl ?_
  refine g_iload_n q_X4_delay_10 rfl ?_
  refine g_iaload q_X4_delay_11 (by repeat first | with_reducible assumption | with_reducible exact hput_s _ _ _ | refine (hput_n _ _ (by omega)).trans ?_ | exact hput_s _ _ _ | assumption) (by omega) (by omega) ?_
  refine g_isub q_X4_delay_12 ?_
  refine g_ireturn q_X4_delay_13.1 rfl ?_
  exact ⟨rfl, rfl⟩
theorem sp_sumDelays (hΓ : Gd Γ) (hn : n ≤ 5) (hT : STo σ p cm lf) (hW : WYo σ w n P C) : Sp Γ miX4_sumDelays 0 0 [.ref p, .ref w] σ (ri (sumN (fun c => cm c - C c) n) σ) noX := by
  have hT0 := hT
  have hW0 := hW
  obtain ⟨h0, h1, h2⟩ := hT
  obtain ⟨⟨ct, cs, cl, co, w0⟩, w1, w2⟩ := hW
  refine Sp_of (L := [_, _, _, _]) hΓ (by decide +kernel) rfl (Nat.le_of_ble_eq_true rfl) rfl ?_
  refine g_iconst q_X4_sumDelays_0 ?_
  refine g_istore_n (L' := [_, _, _, _]) q_X4_sumDelays_1 (by decide) rfl ?_
  refine g_iconst q_X4_sumDelays_2 ?_
  refine g_istore_n (L' := [_, _, _, _]) q_X4_sumDelays_3 (by decide) rfl ?_
  refine g_loop (fun k => k ≤ n) (fun k : Nat => G Γ _ cX4_sumDelays _ _ 0 0 4 [some (.ref p), some (.ref w), some (.int (ii (sumN (fun c => cm c - C c) k))), some (.int (ii k))] [] σ) (fun k => n - k) ?_ 0 (Nat.zero_le _)
  intro k hk ih
  refine g_iload_n q_X4_sumDelays_4 rfl ?_
  refine g_aload_n q_X4_sumDelays_5 rfl ?_
  refine g_get fl_X4_24 q_X4_sumDelays_6 (by repeat first | with_reducible assumption | with_reducible exact hput_s _ _ _ | refine (hput_n _ _ (by omega)).trans ?_ | exact hput_s _ _ _ | assumption) rfl ?_
  refine g_icmp_ge (tgt := 27) q_X4_sumDelays_9 (by decide) ⟨by omega, by omega⟩ ⟨by omega, by omega⟩ (fun hx => ?_) (fun hx => ?_)
  · have e : k = n := by omega
    subst e
    refine g_iload_n q_X4_sumDelays_27 rfl ?_
    refine g_ireturn q_X4_sumDelays_28.1 rfl ?_
    exact ⟨rfl, rfl⟩
  · refine g_iload_n q_X4_sumDelays_12 rfl ?_
    refine g_aload_n q_X4_sumDelays_13 rfl ?_
    refine g_aload_n q_X4_sumDelays_14 rfl ?_
    refine g_iload_n q_X4_sumDelays_15 rfl ?_
    refine g_callV (rc' := 0) (rs' := 0) (As := [_, _]) cs_X4_56 q_X4_sumDelays_16 (sp_delay hΓ hT0 hW0 k (by omega)) rfl (by repeat first | with_reducible assumption | with_reducible exact hput_s _ _ _ | refine (hput_n _ _ (by omega)).trans ?_ | exact hput_s _ _ _ | assumption) rfl rfl rfl rfl (Nat.le_of_ble_eq_true rfl) (by decide) (by decide) (by decide) (fun _ _ h => h.elim) (k_ri ?_)
    refine g_iadd q_X4_sumDelays_19 ?_
    refine g_istore_n (L' := [_, _, _, _]) q_X4_sumDelays_20 (by decide) rfl ?_
    refine g_iinc (L' := [_, _, _, _]) q_X4_sumDelays_21 rfl rfl ?_
    refine g_goto (tgt := 4) q_X4_sumDelays_24 (by decide) ?_
    exact ih (k + 1) (by omega) (by omega)
theorem sp_leaveCells (hΓ : Gd Γ) (hn : n ≤ 5) (hP : okP P) (hT : STo σ p cm lf) (hW : WYo σ w n P C) (hpw : p + 2 < w ∨ w + 2 < p) (t : Nat) (ht : t < 40) : Sp Γ miX4_leaveCells 0 0 [.ref p, .ref w, .int (ii ((t + 1 : Nat) : Int))] σ (rv (hput σ (p + 2) (ai 36 (so5 P t lf cm n)))) noX := by
  obtain ⟨h0, h1, h2⟩ := hT
  obtain ⟨⟨ct, cs, cl, co, w0⟩, w1, w2⟩ := hW
  refine Sp_of (L := [_, _, _, _]) hΓ (by decide +kernel) rfl (Nat.le_of_ble_eq_true rfl) rfl ?_
  refine g_iconst q_X4_leaveCells_0 ?_
  refine g_istore_n (L' := [_, _, _, _]) q_X4_leaveCells_1 (by decide) rfl ?_
  refine g_eq (σ2 := hput σ (p + 2) (ai 36 (so5 P t lf cm 0))) rfl rfl (hput_id h2).symm ?_
  refine g_loop (fun k => k ≤ n) (fun k : Nat => G Γ _ cX4_leaveCells _ _ 0 0 2 [some (.ref p), some (.ref w), some (.int (ii ((t + 1 : Nat) : Int))), some (.int (ii k))] [] (hput σ (p + 2) (ai 36 (so5 P t lf cm k)))) (fun k => n - k) ?_ 0 (Nat.zero_le _)
  intro k hk ih
  have k1 : (hput σ (p + 2) (ai 36 (so5 P t lf cm k))).2 (w + 1) = some (ai 205 P) := (by repeat first | with_reducible assumption | with_reducible exact hput_s _ _ _ | refine (hput_n _ _ (by omega)).trans ?_ | exact hput_s _ _ _ | assumption)
  have k0 : (hput σ (p + 2) (ai 36 (so5 P t lf cm k))).2 w = some (wyo w n ct cs cl co) := (by repeat first | with_reducible assumption | with_reducible exact hput_s _ _ _ | refine (hput_n _ _ (by omega)).trans ?_ | exact hput_s _ _ _ | assumption)
  refine g_iload_n q_X4_leaveCells_2 rfl ?_
  refine g_aload_n q_X4_leaveCells_3 rfl ?_
  refine g_get fl_X4_24 q_X4_leaveCells_4 (by repeat first | with_reducible assumption | with_reducible exact hput_s _ _ _ | refine (hput_n _ _ (by omega)).trans ?_ | exact hput_s _ _ _ | assumption) rfl ?_
  refine g_icmp_ge (tgt := 44) q_X4_leaveCells_7 (by decide) ⟨by omega, by omega⟩ ⟨by omega, by omega⟩ (fun hx => ?_) (fun hx => ?_)
  · have e : k = n := by omega
    subst e
    refine g_return q_X4_leaveCells_44.1 rfl ?_
    exact ⟨rfl, rfl⟩
  · refine g_aload_n q_X4_leaveCells_10 rfl ?_
    refine g_iload_n q_X4_leaveCells_11 rfl ?_
    refine g_iload_n q_X4_leaveCells_12 rfl ?_
    refine g_callVN (rc' := 0) (rs' := 0) (As := [_, _]) cs_X4_30 q_X4_leaveCells_13 (sp_comes hΓ hP k0 k1 k t (by omega) ht) rfl (by repeat first | with_reducible assumption | with_reducible exact hput_s _ _ _ | refine (hput_n _ _ (by omega)).trans ?_ | exact hput_s _ _ _ | assumption) rfl rfl rfl rfl (Nat.le_of_ble_eq_true rfl) (by decide) (by decide) (by decide) (fun _ _ h => h.elim) (k_rb ?_)
    have hnx := ih (k + 1) (by omega) (by omega)
    have hPk := hP (41 * k + t)
    refine g_if_eq (tgt := 38) q_X4_leaveCells_16 (by decide) (bi_rg _) (fun hd => ?_) (fun hd => ?_)
    · rw [show so5 P t lf cm (k + 1) = so5 P t lf cm k by rw [so5, if_neg (by unfold cmz; rw [bi_f hd]; decide)]] at hnx
      refine g_iinc (L' := [_, _, _, _]) q_X4_leaveCells_38 rfl rfl ?_
      refine g_goto (tgt := 2) q_X4_leaveCells_41 (by decide) ?_
      exact hnx
    · rw [show so5 P t lf cm (k + 1) = va_up (so5 P t lf cm k) (P (41 * k + t)).toNat (cm k) by rw [so5, if_pos (by unfold cmz; exact bi_t hd)]] at hnx
      refine g_aload_n q_X4_leaveCells_19 rfl ?_
      refine g_get fl_X4_15 q_X4_leaveCells_20 (by repeat first | with_reducible assumption | with_reducible exact hput_s _ _ _ | refine (hput_n _ _ (by omega)).trans ?_ | exact hput_s _ _ _ | assumption) rfl ?_
      refine g_aload_n q_X4_leaveCells_23 rfl ?_
      refine g_iload_n q_X4_leaveCells_24 rfl ?_
      refine g_iload_n q_X4_leaveCells_25 rfl ?_
      refine g_iconst q_X4_leaveCells_26 ?_
      refine g_isub q_X4_leaveCells_27 ?_
      refine g_topi (b := ((t : Nat) : Int)) (by omega) ?_
      refine g_callVN (rc' := 0) (rs' := 0) (As := [_, _]) cs_X4_47 q_X4_leaveCells_28 (sp_cellOf hΓ k0 k1 k t (by omega) (by omega)) rfl (by repeat first | with_reducible assumption | with_reducible exact hput_s _ _ _ | refine (hput_n _ _ (by omega)).trans ?_ | exact hput_s _ _ _ | assumption) rfl rfl rfl rfl (Nat.le_of_ble_eq_true rfl) (by decide) (by decide) (by decide) (fun _ _ h => h.elim) (k_ri ?_)
      refine g_aload_n q_X4_leaveCells_31 rfl ?_
      refine g_get fl_X4_9 q_X4_leaveCells_32 (by repeat first | with_reducible assumption | with_reducible exact hput_s _ _ _ | refine (hput_n _ _ (by omega)).trans ?_ | exact hput_s _ _ _ | assumption) rfl ?_
      refine g_iload_n q_X4_leaveCells_35 rfl ?_
      refine g_iaload q_X4_leaveCells_36 (by repeat first | with_reducible assumption | with_reducible exact hput_s _ _ _ | refine (hput_n _ _ (by omega)).trans ?_ | exact hput_s _ _ _ | assumption) (by omega) (by omega) ?_
      refine g_iastore q_X4_leaveCells_37 (by repeat first | with_reducible assumption | with_reducible exact hput_s _ _ _ | refine (hput_n _ _ (by omega)).trans ?_ | exact hput_s _ _ _ | assumption) (by omega) (by omega) ?_
      refine g_iinc (L' := [_, _, _, _]) q_X4_leaveCells_38 rfl rfl ?_
      refine g_goto (tgt := 2) q_X4_leaveCells_41 (by decide) ?_
      rw [hput_hput]
      exact hnx
theorem sp_waitForOthers (hΓ : Gd Γ) (hn : n ≤ 5) (hP : okP P) (hT : STo σ p cm lf) (hW : WYo σ w n P C) (hpw : p + 2 < w ∨ w + 2 < p) (t : Nat) (ht : t < 40) {B : Int} (hB : B < 1000) (hcm : bdT B cm) (hlf : bdT B lf) : Sp Γ miX4_waitForOthers 0 0 [.ref p, .ref w, .int (ii ((t + 1 : Nat) : Int))] σ (rv (hput σ (p + 1) (ai 5 (so4 P n t lf cm n)))) noX := by
  obtain ⟨h0, h1, h2⟩ := hT
  obtain ⟨⟨ct, cs, cl, co, w0⟩, w1, w2⟩ := hW
  refine Sp_of (L := [_, _, _, _, _, _, _, _]) hΓ (by decide +kernel) rfl (Nat.le_of_ble_eq_true rfl) rfl ?_
  refine g_iconst q_X4_waitForOthers_0 ?_
  refine g_istore_n (L' := [_, _, _, _, _, _, _, _]) q_X4_waitForOthers_1 (by decide) rfl ?_
  refine g_eq (σ2 := hput σ (p + 1) (ai 5 (so4 P n t lf cm 0))) rfl rfl (hput_id h1).symm ?_
  refine g_loop (fun r => r ≤ n) (fun r : Nat => G Γ _ cX4_waitForOthers _ _ 0 0 2 [some (.ref p), some (.ref w), some (.int (ii ((t + 1 : Nat) : Int))), some (.int (ii r)), none, none, none, none] [] (hput σ (p + 1) (ai 5 (so4 P n t lf cm r)))) (fun r => n - r) ?_ 0 (Nat.zero_le _)
  intro r hr ih
  refine g_iload_n q_X4_waitForOthers_2 rfl ?_
  refine g_aload_n q_X4_waitForOthers_3 rfl ?_
  refine g_get fl_X4_24 q_X4_waitForOthers_4 (by repeat first | with_reducible assumption | with_reducible exact hput_s _ _ _ | refine (hput_n _ _ (by omega)).trans ?_ | exact hput_s _ _ _ | assumption) rfl ?_
  refine g_icmp_ge (tgt := 108) q_X4_waitForOthers_7 (by decide) ⟨by omega, by omega⟩ ⟨by omega, by omega⟩ (fun hx => ?_) (fun hx => ?_)
  · have e : r = n := by omega
    subst e
    refine g_return q_X4_waitForOthers_108.1 rfl ?_
    exact ⟨rfl, rfl⟩
  · refine g_iconst q_X4_waitForOthers_10 ?_
    refine g_istore (L' := [_, _, _, _, _, _, _, _]) q_X4_waitForOthers_11 (by decide) rfl ?_
    have hb4 := bdT_so4 (P := P) (n := n) (t := t) hcm hlf r
    refine g_loop (fun k => k ≤ n) (fun k : Nat => G Γ _ cX4_waitForOthers _ _ 0 0 13 [some (.ref p), some (.ref w), some (.int (ii ((t + 1 : Nat) : Int))), some (.int (ii r)), some (.int (ii k)), none, none, none] [] (hput σ (p + 1) (ai 5 (so3 P n t lf (so4 P n t lf cm r) k)))) (fun k => n - k) ?_ 0 (Nat.zero_le _)
    intro k hk ih2
    obtain ⟨cv, hcv⟩ : ∃ cv, cv = so3 P n t lf (so4 P n t lf cm r) k := ⟨_, rfl⟩
    have hbk : bdT B cv := by rw [hcv]; exact bdT_so3 hb4 hlf k
    have hnx := fun h => ih2 (k + 1) h (by omega)
    rw [show so3 P n t lf (so4 P n t lf cm r) (k + 1) = so2 P n t lf cv k by rw [so3, hcv]] at hnx
    rw [← hcv]
    have k1 : (hput σ (p + 1) (ai 5 cv)).2 (w + 1) = some (ai 205 P) := (by repeat first | with_reducible assumption | with_reducible exact hput_s _ _ _ | refine (hput_n _ _ (by omega)).trans ?_ | exact hput_s _ _ _ | assumption)
    have k0 : (hput σ (p + 1) (ai 5 cv)).2 w = some (wyo w n ct cs cl co) := (by repeat first | with_reducible assumption | with_reducible exact hput_s _ _ _ | refine (hput_n _ _ (by omega)).trans ?_ | exact hput_s _ _ _ | assumption)
    refine g_iload q_X4_waitForOthers_13 rfl ?_
    refine g_aload_n q_X4_waitForOthers_15 rfl ?_
    refine g_get fl_X4_24 q_X4_waitForOthers_16 (by repeat first | with_reducible assumption | with_reducible exact hput_s _ _ _ | refine (hput_n _ _ (by omega)).trans ?_ | exact hput_s _ _ _ | assumption) rfl ?_
    refine g_icmp_ge (tgt := 102) q_X4_waitForOthers_19 (by decide) ⟨by omega, by omega⟩ ⟨by omega, by omega⟩ (fun hx => ?_) (fun hx => ?_)
    · have e : k = n := by omega
      subst e
      refine g_iinc (L' := [_, _, _, _, _, _, _, _]) q_X4_waitForOthers_102 rfl rfl ?_
      refine g_goto (tgt := 2) q_X4_waitForOthers_105 (by decide) ?_
      have := ih (r + 1) (by omega) (by omega)
      rw [so4, ← hcv] at this
      exact g_fl this ⟨rfl, rfl, rfl, rfl, trivial⟩
    · refine g_aload_n q_X4_waitForOthers_22 rfl ?_
      refine g_iload q_X4_waitForOthers_23 rfl ?_
      refine g_iload_n q_X4_waitForOthers_25 rfl ?_
      refine g_callVN (rc' := 0) (rs' := 0) (As := [_, _]) cs_X4_30 q_X4_waitForOthers_26 (sp_comes hΓ hP k0 k1 k t (by omega) ht) rfl (by repeat first | with_reducible assumption | with_reducible exact hput_s _ _ _ | refine (hput_n _ _ (by omega)).trans ?_ | exact hput_s _ _ _ | assumption) rfl rfl rfl rfl (Nat.le_of_ble_eq_true rfl) (by decide) (by decide) (by decide) (fun _ _ h => h.elim) (k_rb ?_)
      refine g_if_eq (tgt := 96) q_X4_waitForOthers_29 (by decide) (bi_rg _) (fun hd => ?_) (fun hd => ?_)
      · have hn2 := hnx (by omega)
        rw [show so2 P n t lf cv k = cv by unfold so2; rw [if_neg (by unfold cmz; rw [bi_f hd]; decide)]] at hn2
        refine g_iinc (L' := [_, _, _, _, _, _, _, _]) q_X4_waitForOthers_96 rfl rfl ?_
        refine g_goto (tgt := 13) q_X4_waitForOthers_99 (by decide) ?_
        exact hn2
      · have hn2 := hnx (by omega)
        have hPk := hP (41 * k + (t + 1))
        obtain ⟨cell, hcell⟩ : ∃ cell : Nat, P (41 * k + (t + 1)) = cell := ⟨(P (41 * k + (t + 1))).toNat, by omega⟩
        refine g_aload_n q_X4_waitForOthers_32 rfl ?_
        refine g_iload q_X4_waitForOthers_33 rfl ?_
        refine g_iload_n q_X4_waitForOthers_35 rfl ?_
        refine g_callVN (rc' := 0) (rs' := 0) (As := [_, _]) cs_X4_47 q_X4_waitForOthers_36 (sp_cellOf hΓ k0 k1 k (t + 1) (by omega) (by omega)) rfl (by repeat first | with_reducible assumption | with_reducible exact hput_s _ _ _ | refine (hput_n _ _ (by omega)).trans ?_ | exact hput_s _ _ _ | assumption) rfl rfl rfl rfl (Nat.le_of_ble_eq_true rfl) (by decide) (by decide) (by decide) (fun _ _ h => h.elim) (k_ri ?_)
        refine g_topi (b := (cell : Int)) hcell ?_
        refine g_istore (L' := [_, _, _, _, _, _, _, _]) q_X4_waitForOthers_39 (by decide) rfl ?_
        refine g_aload_n q_X4_waitForOthers_41 rfl ?_
        refine g_iload q_X4_waitForOthers_42 rfl ?_
        refine g_iload_n q_X4_waitForOthers_44 rfl ?_
        refine g_iconst q_X4_waitForOthers_45 ?_
        refine g_isub q_X4_waitForOthers_46 ?_
        refine g_topi (b := ((t : Nat) : Int)) (by omega) ?_
        refine g_callVN (rc' := 0) (rs' := 0) (As := [_, _]) cs_X4_50 q_X4_waitForOthers_47 (sp_cartIn hΓ hn hP k0 k1 (cell : Int) ⟨by omega, by omega⟩ t (by omega)) rfl (by repeat first | with_reducible assumption | with_reducible exact hput_s _ _ _ | refine (hput_n _ _ (by omega)).trans ?_ | exact hput_s _ _ _ | assumption) rfl rfl rfl rfl (Nat.le_of_ble_eq_true rfl) (by decide) (by decide) (by decide) (fun _ _ h => h.elim) (k_ri ?_)
        have hso : so2 P n t lf cv k = va_up cv k (mx2 (cv k) (if fstN (fun c => decide (P (41 * c + t) = (cell : Int))) n = -1 then lf cell else cv (fstN (fun c => decide (P (41 * c + t) = (cell : Int))) n).toNat)) := by
          unfold so2
          rw [if_pos (by unfold cmz; exact bi_t hd), hcell]
          rfl
        rw [hso] at hn2
        have hrf := fstN_rg (fun c => decide (P (41 * c + t) = (cell : Int))) n
        have hbkk := hbk k
        refine g_istore (L' := [_, _, _, _, _, _, _, _]) q_X4_waitForOthers_50 (by decide) rfl ?_
        refine g_iload q_X4_waitForOthers_52 rfl ?_
        refine g_iconst q_X4_waitForOthers_54 ?_
        refine g_icmp_ne (tgt := 68) q_X4_waitForOthers_55 (by decide) ⟨by omega, by omega⟩ ⟨by omega, by omega⟩ (fun hd2 => ?_) (fun hd2 => ?_)
        · rw [if_neg hd2] at hn2
          have hx9 := hbk (fstN (fun c => decide (P (41 * c + t) = (cell : Int))) n).toNat
          refine g_aload_n q_X4_waitForOthers_68 rfl ?_
          refine g_get fl_X4_9 q_X4_waitForOthers_69 (by repeat first | with_reducible assumption | with_reducible exact hput_s _ _ _ | refine (hput_n _ _ (by omega)).trans ?_ | exact hput_s _ _ _ | assumption) rfl ?_
          refine g_iload q_X4_waitForOthers_72 rfl ?_
          refine g_iaload q_X4_waitForOthers_74 (by repeat first | with_reducible assumption | with_reducible exact hput_s _ _ _ | refine (hput_n _ _ (by omega)).trans ?_ | exact hput_s _ _ _ | assumption) (by omega) (by omega) ?_
          refine g_istore (L' := [_, _, _, _, _, _, _, _]) q_X4_waitForOthers_75 (by decide) rfl ?_
          refine g_aload_n q_X4_waitForOthers_77 rfl ?_
          refine g_get fl_X4_9 q_X4_waitForOthers_78 (by repeat first | with_reducible assumption | with_reducible exact hput_s _ _ _ | refine (hput_n _ _ (by omega)).trans ?_ | exact hput_s _ _ _ | assumption) rfl ?_
          refine g_iload q_X4_waitForOthers_81 rfl ?_
          refine g_aload_n q_X4_waitForOthers_83 rfl ?_
          refine g_get fl_X4_9 q_X4_waitForOthers_84 (by repeat first | with_reducible assumption | with_reducible exact hput_s _ _ _ | refine (hput_n _ _ (by omega)).trans ?_ | exact hput_s _ _ _ | assumption) rfl ?_
          refine g_iload q_X4_waitForOthers_87 rfl ?_
          refine g_iaload q_X4_waitForOthers_89 (by repeat first | with_reducible assumption | with_reducible exact hput_s _ _ _ | refine (hput_n _ _ (by omega)).trans ?_ | exact hput_s _ _ _ | assumption) (by omega) (by omega) ?_
          refine g_topi (b := cv k) rfl ?_
          refine g_iload q_X4_waitForOthers_90 rfl ?_
          refine g_max lk_X4_34 q_X4_waitForOthers_92 (by decide) (Nat.le_of_ble_eq_true rfl) ⟨by omega, by omega⟩ ⟨by omega, by omega⟩ ?_
          refine g_topi (b := mx2 (cv k) (cv (fstN (fun c => decide (P (41 * c + t) = (cell : Int))) n).toNat)) rfl ?_
          refine g_iastore q_X4_waitForOthers_95 (by repeat first | with_reducible assumption | with_reducible exact hput_s _ _ _ | refine (hput_n _ _ (by omega)).trans ?_ | exact hput_s _ _ _ | assumption) (by omega) (by omega) ?_
          refine g_iinc (L' := [_, _, _, _, _, _, _, _]) q_X4_waitForOthers_96 rfl rfl ?_
          refine g_goto (tgt := 13) q_X4_waitForOthers_99 (by decide) ?_
          rw [hput_hput]
          exact g_fl hn2 ⟨rfl, rfl, rfl, rfl, rfl, trivial⟩
        · rw [if_pos hd2] at hn2
          have hx9 := hlf cell
          refine g_aload_n q_X4_waitForOthers_58 rfl ?_
          refine g_get fl_X4_15 q_X4_waitForOthers_59 (by repeat first | with_reducible assumption | with_reducible exact hput_s _ _ _ | refine (hput_n _ _ (by omega)).trans ?_ | exact hput_s _ _ _ | assumption) rfl ?_
          refine g_iload q_X4_waitForOthers_62 rfl ?_
          refine g_iaload q_X4_waitForOthers_64 (by repeat first | with_reducible assumption | with_reducible exact hput_s _ _ _ | refine (hput_n _ _ (by omega)).trans ?_ | exact hput_s _ _ _ | assumption) (by omega) (by omega) ?_
          refine g_topi (b := lf cell) rfl ?_
          refine g_goto (tgt := 75) q_X4_waitForOthers_65 (by decide) ?_
          refine g_istore (L' := [_, _, _, _, _, _, _, _]) q_X4_waitForOthers_75 (by decide) rfl ?_
          refine g_aload_n q_X4_waitForOthers_77 rfl ?_
          refine g_get fl_X4_9 q_X4_waitForOthers_78 (by repeat first | with_reducible assumption | with_reducible exact hput_s _ _ _ | refine (hput_n _ _ (by omega)).trans ?_ | exact hput_s _ _ _ | assumption) rfl ?_
          refine g_iload q_X4_waitForOthers_81 rfl ?_
          refine g_aload_n q_X4_waitForOthers_83 rfl ?_
          refine g_get fl_X4_9 q_X4_waitForOthers_84 (by repeat first | with_reducible assumption | with_reducible exact hput_s _ _ _ | refine (hput_n _ _ (by omega)).trans ?_ | exact hput_s _ _ _ | assumption) rfl ?_
          refine g_iload q_X4_waitForOthers_87 rfl ?_
          refine g_iaload q_X4_waitForOthers_89 (by repeat first | with_reducible assumption | with_reducible exact hput_s _ _ _ | refine (hput_n _ _ (by omega)).trans ?_ | exact hput_s _ _ _ | assumption) (by omega) (by omega) ?_
          refine g_topi (b := cv k) rfl ?_
          refine g_iload q_X4_waitForOthers_90 rfl ?_
          refine g_max lk_X4_34 q_X4_waitForOthers_92 (by decide) (Nat.le_of_ble_eq_true rfl) ⟨by omega, by omega⟩ ⟨by omega, by omega⟩ ?_
          refine g_topi (b := mx2 (cv k) (lf cell)) rfl ?_
          refine g_iastore q_X4_waitForOthers_95 (by repeat first | with_reducible assumption | with_reducible exact hput_s _ _ _ | refine (hput_n _ _ (by omega)).trans ?_ | exact hput_s _ _ _ | assumption) (by omega) (by omega) ?_
          refine g_iinc (L' := [_, _, _, _, _, _, _, _]) q_X4_waitForOthers_96 rfl rfl ?_
          refine g_goto (tgt := 13) q_X4_waitForOthers_99 (by decide) ?_
          rw [hput_hput]
          exact g_fl hn2 ⟨rfl, rfl, rfl, rfl, rfl, trivial⟩
theorem sp_run (hΓ : Gd Γ) (hn : n ≤ 5) (hP : okP P) (hT : STo σ p cm lf) (hW : WYo σ w n P C) (hpw : p + 2 < w ∨ w + 2 < p) (sd ti nn : Nat) (hsd : sd < 5) (hti : ti ≤ 40) (hnn : nn ≤ 20) : Sp Γ miX4_run 0 0 [.ref p, .ref w, .int (ii sd), .int (ii ti), .int (ii nn)] σ (fun r σ' => r = none ∧ STo σ' p (so6 P n sd ti nn 40).2.1 (so6 P n sd ti nn 40).2.2 ∧ eqOff σ σ' (inb p 3)) noX := by
  obtain ⟨h0, h1, h2⟩ := hT
  have hW0 := hW
  obtain ⟨⟨ct, cs, cl, co, w0⟩, w1, w2⟩ := hW
  refine Sp_of (L := [_, _, _, _, _, _, _, _]) hΓ (by decide +kernel) rfl (Nat.le_of_ble_eq_true rfl) rfl ?_
  refine g_aload_n q_X4_run_0 rfl ?_
  refine g_get fl_X4_9 q_X4_run_1 (by repeat first | with_reducible assumption | with_reducible exact hput_s _ _ _ | refine (hput_n _ _ (by omega)).trans ?_ | exact hput_s _ _ _ | assumption) rfl ?_
  refine g_iconst q_X4_run_4 ?_
  refine g_callS (rc' := 0) (rs' := 0) (As := [_, _]) cs_X4_18 q_X4_run_5 (sp_fillI hΓ 0 (by decide) h1) rfl rfl rfl (Nat.le_of_ble_eq_true rfl) (by decide) (by decide) (by decide) (fun _ _ h => h.elim) (k_rv ?_)
  refine g_aload_n q_X4_run_8 rfl ?_
  refine g_get fl_X4_15 q_X4_run_9 (by repeat first | with_reducible assumption | with_reducible exact hput_s _ _ _ | refine (hput_n _ _ (by omega)).trans ?_ | exact hput_s _ _ _ | assumption) rfl ?_
  refine g_iconst q_X4_run_12 ?_
  refine g_callS (rc' := 0) (rs' := 0) (As := [_, _]) cs_X4_18 q_X4_run_13 (sp_fillI hΓ 0 (by decide) ((hput_n _ _ (by omega)).trans h2)) rfl rfl rfl (Nat.le_of_ble_eq_true rfl) (by decide) (by decide) (by decide) (fun _ _ h => h.elim) (k_rv ?_)
  refine g_iconst q_X4_run_16 ?_
  refine g_istore (L' := [_, _, _, _, _, _, _, _]) q_X4_run_17 (by decide) rfl ?_
  refine g_iconst q_X4_run_19 ?_
  refine g_istore (L' := [_, _, _, _, _, _, _, _]) q_X4_run_20 (by decide) rfl ?_
  refine g_loop2 (fun (t : Nat) (τ : AH) => t ≤ 40 ∧ STo τ p (so6 P n sd ti nn t).2.1 (so6 P n sd ti nn t).2.2 ∧ eqOff σ τ (inb p 3)) (fun t τ => G Γ _ cX4_run _ _ 0 0 22 [some (.ref p), some (.ref w), some (.int (ii sd)), some (.int (ii ti)), some (.int (ii nn)), some (.int (ii (bi (so6 P n sd ti nn t).1))), some (.int (ii ((t + 1 : Nat) : Int))), none] [] τ) (fun t _ => 40 - t) ?_ 0 _ ⟨Nat.zero_le _, ⟨(by repeat first | with_reducible assumption | with_reducible exact hput_s _ _ _ | refine (hput_n _ _ (by omega)).trans ?_ | exact hput_s _ _ _ | assumption), (by repeat first | with_reducible assumption | with_reducible exact hput_s _ _ _ | refine (hput_n _ _ (by omega)).trans ?_ | exact hput_s _ _ _ | assumption), (by repeat first | with_reducible assumption | with_reducible exact hput_s _ _ _ | refine (hput_n _ _ (by omega)).trans ?_ | exact hput_s _ _ _ | assumption)⟩, (eqOff.rfl'.put ⟨by omega, by omega⟩ _).put ⟨by omega, by omega⟩ _⟩
  rintro t τ ⟨ht, hT1, hE⟩ ih
  obtain ⟨b6, l6⟩ := bdT_so6 (P := P) (n := n) (sd := sd) hti hnn t
  obtain ⟨wt, c0, l0, hs6⟩ : ∃ wt c0 l0, so6 P n sd ti nn t = (wt, c0, l0) := ⟨_, _, _, rfl⟩
  rw [hs6] at b6 l6 hT1 ⊢
  dsimp only at b6 l6 hT1 ⊢
  obtain ⟨q0, q1, q2⟩ := hT1
  have keepW : ∀ τ2 : AH, eqOff σ τ2 (inb p 3) → WYo τ2 w n P C := fun τ2 h => hW0.keep fun a ha => h.2 a (fun q => by unfold inb at ha q; omega)
  refine g_iload q_X4_run_22 rfl ?_
  refine g_bipush q_X4_run_24 bp_40 ?_
  refine g_icmp_gt (tgt := 144) q_X4_run_26 (by decide) ⟨by omega, by omega⟩ ⟨by omega, by omega⟩ (fun hx => ?_) (fun hx => ?_)
  · have e : t = 40 := by omega
    subst e
    refine g_return q_X4_run_144.1 rfl ?_
    rw [hs6]
    exact ⟨rfl, ⟨q0, q1, q2⟩, hE⟩
  · refine g_iconst q_X4_run_29 ?_
    refine g_istore (L' := [_, _, _, _, _, _, _, _]) q_X4_run_30 (by decide) rfl ?_
    -- the first loop
    refine g_eq (σ2 := hput τ (p + 1) (ai 5 (so1 P t c0 0))) rfl rfl ?_ ?_
    · rw [show so1 P t c0 0 = c0 by funext k; unfold so1; rw [if_neg (by omega)]]; exact (hput_id q1).symm
    refine g_loop (fun k => k ≤ n) (fun k : Nat => G Γ _ cX4_run _ _ 0 0 32 [some (.ref p), some (.ref w), some (.int (ii sd)), some (.int (ii ti)), some (.int (ii nn)), some (.int (ii (bi wt))), some (.int (ii ((t + 1 : Nat) : Int))), some (.int (ii k))] [] (hput τ (p + 1) (ai 5 (so1 P t c0 k)))) (fun k => n - k) ?_ 0 (Nat.zero_le _)
    intro k hk ih2
    obtain ⟨⟨ct1, cs1, cl1, co1, k0⟩, k1, k2⟩ := keepW _ (hE.put (a := p + 1) ⟨by omega, by omega⟩ (ai 5 (so1 P t c0 k)))
    have hb1 := bdT_so1 (P := P) (t := t) (j := k) b6 (by omega)
    refine g_iload q_X4_run_32 rfl ?_
    refine g_aload_n q_X4_run_34 rfl ?_
    refine g_get fl_X4_24 q_X4_run_35 (by repeat first | with_reducible assumption | with_reducible exact hput_s _ _ _ | refine (hput_n _ _ (by omega)).trans ?_ | exact hput_s _ _ _ | assumption) rfl ?_
    refine g_icmp_ge (tgt := 79) q_X4_run_38 (by decide) ⟨by omega, by omega⟩ ⟨by omega, by omega⟩ (fun hx => ?_) (fun hx => ?_)
    · have e : k = n := by omega
      subst e
      -- behind it
      have rest : ∀ (c2 : Nat → Int) (st : Bool) (x : Option Value), bdT (61 + t + 1) c2 → st = (wt && (decide (ti < t + 1) && cmz P sd t)) → c2 = (if st = true then va_up (so1 P t c0 k) sd (mx2 ((so1 P t c0 k) sd) ((ti + nn + 1 : Nat) : Int)) else so1 P t c0 k) → G Γ miX4_run cX4_run (fun r σ' => r = none ∧ STo σ' p (so6 P k sd ti nn 40).2.1 (so6 P k sd ti nn 40).2.2 ∧ eqOff σ σ' (inb p 3)) noX 0 0 124 [some (.ref p), some (.ref w), some (.int (ii sd)), some (.int (ii ti)), some (.int (ii nn)), some (.int (ii (bi (wt && !st)))), some (.int (ii ((t + 1 : Nat) : Int))), x] [] (hput τ (p + 1) (ai 5 c2)) := by
        intro c2 st x hb2 hst hc2
        have hl2 : bdT (61 + (t : Int) + 1) l0 := fun k => by have := l6 k; omega
        have hE2 := hE.put (a := p + 1) ⟨by omega, by omega⟩ (ai 5 c2)
        refine g_aload_n q_X4_run_124 rfl ?_
        refine g_aload_n q_X4_run_125 rfl ?_
        refine g_iload q_X4_run_126 rfl ?_
        refine g_callV (rc' := 0) (rs' := 0) (As := [_, _]) cs_X4_40 q_X4_run_128 (sp_waitForOthers (cm := c2) (lf := l0) hΓ hn hP ⟨(hput_n _ _ (by omega)).trans (by assumption), hput_s _ _ _, (hput_n _ _ (by omega)).trans (by assumption)⟩ (keepW _ hE2) hpw t (by omega) (B := 61 + t + 1) (by omega) hb2 hl2) rfl (by repeat first | with_reducible assumption | with_reducible exact hput_s _ _ _ | refine (hput_n _ _ (by omega)).trans ?_ | exact hput_s _ _ _ | assumption) rfl rfl rfl rfl (Nat.le_of_ble_eq_true rfl) (by decide) (by decide) (by decide) (fun _ _ h => h.elim) (k_rv ?_)
        rw [hput_hput]
        have hE3 := hE.put (a := p + 1) ⟨by omega, by omega⟩ (ai 5 (so4 P k t l0 c2 k))
        refine g_aload_n q_X4_run_131 rfl ?_
        refine g_aload_n q_X4_run_132 rfl ?_
        refine g_iload q_X4_run_133 rfl ?_
        refine g_callV (rc' := 0) (rs' := 0) (As := [_, _]) cs_X4_44 q_X4_run_135 (sp_leaveCells (cm := so4 P k t l0 c2 k) (lf := l0) hΓ hn hP ⟨(hput_n _ _ (by omega)).trans (by assumption), hput_s _ _ _, (hput_n _ _ (by omega)).trans (by assumption)⟩ (keepW _ hE3) hpw t (by omega)) rfl (by repeat first | with_reducible assumption | with_reducible exact hput_s _ _ _ | refine (hput_n _ _ (by omega)).trans ?_ | exact hput_s _ _ _ | assumption) rfl rfl rfl rfl (Nat.le_of_ble_eq_true rfl) (by decide) (by decide) (by decide) (fun _ _ h => h.elim) (k_rv ?_)
        refine g_iinc (L' := [_, _, _, _, _, _, _, _]) q_X4_run_138 rfl rfl ?_
        refine g_goto (tgt := 22) q_X4_run_141 (by decide) ?_
        have h6 : so6 P k sd ti nn (t + 1) = (wt && !st, so4 P k t l0 c2 k, so5 P t l0 (so4 P k t l0 c2 k) k) := by
          rw [so6]
          simp only [hs6]
          rw [← hst, ← hc2]
        have := ih (t + 1) (hput (hput τ (p + 1) (ai 5 (so4 P k t l0 c2 k))) (p + 2) (ai 36 (so5 P t l0 (so4 P k t l0 c2 k) k))) ⟨by omega, ⟨(by repeat first | with_reducible assumption | with_reducible exact hput_s _ _ _ | refine (hput_n _ _ (by omega)).trans ?_ | exact hput_s _ _ _ | assumption), by rw [h6]; exact (by repeat first | with_reducible assumption | with_reducible exact hput_s _ _ _ | refine (hput_n _ _ (by omega)).trans ?_ | exact hput_s _ _ _ | assumption), by rw [h6]; exact hput_s _ _ _⟩, (hE.put ⟨by omega, by omega⟩ _).put ⟨by omega, by omega⟩ _⟩ (by omega)
        rw [h6] at this
        exact g_fl this ⟨rfl, rfl, rfl, rfl, rfl, rfl, rfl, trivial⟩
      have hw1 : wt = (wt && !false) := by cases wt <;> rfl
      refine g_iload q_X4_run_79 rfl ?_
      refine g_if_eq (tgt := 124) q_X4_run_81 (by decide) (bi_rg _) (fun z1 => ?_) (fun z1 => ?_)
      · have := rest (so1 P t c0 k) false (some (.int (ii k))) hb1 (by rw [bi_f z1]; rfl) (by rw [if_neg (by decide)])
        rw [← hw1] at this
        exact this
      · refine g_iload q_X4_run_84 rfl ?_
        refine g_iload_n q_X4_run_86 rfl ?_
        refine g_icmp_le (tgt := 124) q_X4_run_87 (by decide) ⟨by omega, by omega⟩ ⟨by omega, by omega⟩ (fun z2 => ?_) (fun z2 => ?_)
        · have := rest (so1 P t c0 k) false (some (.int (ii k))) hb1 (by rw [decide_eq_false (by omega), Bool.false_and, Bool.and_false]) (by rw [if_neg (by decide)])
          rw [← hw1] at this
          exact this
        · refine g_aload_n q_X4_run_90 rfl ?_
          refine g_iload_n q_X4_run_91 rfl ?_
          refine g_iload q_X4_run_92 rfl ?_
          refine g_callVN (rc' := 0) (rs' := 0) (As := [_, _]) cs_X4_30 q_X4_run_94 (sp_comes hΓ hP k0 k1 sd t hsd (by omega)) rfl (by repeat first | with_reducible assumption | with_reducible exact hput_s _ _ _ | refine (hput_n _ _ (by omega)).trans ?_ | exact hput_s _ _ _ | assumption) rfl rfl rfl rfl (Nat.le_of_ble_eq_true rfl) (by decide) (by decide) (by decide) (fun _ _ h => h.elim) (k_rb ?_)
          refine g_if_eq (tgt := 124) q_X4_run_97 (by decide) (bi_rg _) (fun z3 => ?_) (fun z3 => ?_)
          · have := rest (so1 P t c0 k) false (some (.int (ii k))) hb1 (by unfold cmz; rw [bi_f z3, Bool.and_false, Bool.and_false]) (by rw [if_neg (by decide)])
            rw [← hw1] at this
            exact this
          · have hb9 := hb1 sd
            have hst : true = (wt && (decide (ti < t + 1) && cmz P sd t)) := by unfold cmz; rw [bi_t z1, bi_t z3, decide_eq_true (by omega)]; rfl
            refine g_aload_n q_X4_run_100 rfl ?_
            refine g_get fl_X4_9 q_X4_run_101 (by repeat first | with_reducible assumption | with_reducible exact hput_s _ _ _ | refine (hput_n _ _ (by omega)).trans ?_ | exact hput_s _ _ _ | assumption) rfl ?_
            refine g_iload_n q_X4_run_104 rfl ?_
            refine g_aload_n q_X4_run_105 rfl ?_
            refine g_get fl_X4_9 q_X4_run_106 (by repeat first | with_reducible assumption | with_reducible exact hput_s _ _ _ | refine (hput_n _ _ (by omega)).trans ?_ | exact hput_s _ _ _ | assumption) rfl ?_
            refine g_iload_n q_X4_run_109 rfl ?_
            refine g_iaload q_X4_run_110 (by repeat first | with_reducible assumption | with_reducible exact hput_s _ _ _ | refine (hput_n _ _ (by omega)).trans ?_ | exact hput_s _ _ _ | assumption) (by omega) (by omega) ?_
            refine g_topi (b := so1 P t c0 k sd) rfl ?_
            refine g_iload_n q_X4_run_111 rfl ?_
            refine g_iload q_X4_run_112 rfl ?_
            refine g_iadd q_X4_run_114 ?_
            refine g_iconst q_X4_run_115 ?_
            refine g_iadd q_X4_run_116 ?_
            refine g_max lk_X4_34 q_X4_run_117 (by decide) (Nat.le_of_ble_eq_true rfl) ⟨by omega, by omega⟩ ⟨by omega, by omega⟩ ?_
            refine g_topi (b := mx2 (so1 P t c0 k sd) ((ti + nn + 1 : Nat) : Int)) rfl ?_
            refine g_iastore q_X4_run_120 (by repeat first | with_reducible assumption | with_reducible exact hput_s _ _ _ | refine (hput_n _ _ (by omega)).trans ?_ | exact hput_s _ _ _ | assumption) (by omega) (by omega) ?_
            refine g_iconst q_X4_run_121 ?_
            refine g_istore (L' := [_, _, _, _, _, _, _, _]) q_X4_run_122 (by decide) rfl ?_
            rw [hput_hput]
            have := rest (va_up (so1 P t c0 k) sd (mx2 (so1 P t c0 k sd) ((ti + nn + 1 : Nat) : Int))) true (some (.int (ii k))) (hb1.up _ (mx2_rg hb9 ⟨by omega, by omega⟩)) hst (by rw [if_pos rfl])
            rw [show bi (wt && !true) = 0 by cases wt <;> rfl] at this
            exact this
    · refine g_aload_n q_X4_run_41 rfl ?_
      refine g_iload q_X4_run_42 rfl ?_
      refine g_iload q_X4_run_44 rfl ?_
      refine g_callVN (rc' := 0) (rs' := 0) (As := [_, _]) cs_X4_30 q_X4_run_46 (sp_comes hΓ hP k0 k1 k t (by omega) (by omega)) rfl (by repeat first | with_reducible assumption | with_reducible exact hput_s _ _ _ | refine (hput_n _ _ (by omega)).trans ?_ | exact hput_s _ _ _ | assumption) rfl rfl rfl rfl (Nat.le_of_ble_eq_true rfl) (by decide) (by decide) (by decide) (fun _ _ h => h.elim) (k_rb ?_)
      have hnx := ih2 (k + 1) (by omega) (by omega)
      refine g_if_eq (tgt := 73) q_X4_run_49 (by decide) (bi_rg _) (fun hd => ?_) (fun hd => ?_)
      · have e : so1 P t c0 (k + 1) = so1 P t c0 k := by
          funext j
          unfold so1
          by_cases q : j = k
          · subst q
            rw [if_neg (fun z => by have := z.2; unfold cmz at this; rw [bi_f hd] at this; cases this), if_neg (fun z => by omega)]
          · by_cases q2 : j < k ∧ cmz P j t = true
            · rw [if_pos q2, if_pos ⟨by omega, q2.2⟩]
            · rw [if_neg q2, if_neg (fun z => q2 ⟨by omega, z.2⟩)]
        rw [e] at hnx
        refine g_iinc (L' := [_, _, _, _, _, _, _, _]) q_X4_run_73 rfl rfl ?_
        refine g_goto (tgt := 32) q_X4_run_76 (by decide) ?_
        exact hnx
      · have ek : so1 P t c0 k k = c0 k := by unfold so1; rw [if_neg (fun z => by omega)]
        have hb9 := b6 k
        have e : so1 P t c0 (k + 1) = va_up (so1 P t c0 k) k (mx2 ((t + 1 : Nat) : Int) (c0 k + 1)) := by
          funext j
          unfold so1 va_up
          by_cases q : j = k
          · subst q
            rw [if_pos ⟨by omega, by unfold cmz; exact bi_t hd⟩, if_pos rfl]
          · rw [if_neg q]
            show _ = (if j < k ∧ cmz P j t = true then mx2 ((t + 1 : Nat) : Int) (c0 j + 1) else c0 j)
            by_cases q2 : j < k ∧ cmz P j t = true
            · rw [if_pos q2, if_pos ⟨by omega, q2.2⟩]
            · rw [if_neg q2, if_neg (fun z => q2 ⟨by omega, z.2⟩)]
        rw [e] at hnx
        refine g_aload_n q_X4_run_52 rfl ?_
        refine g_get fl_X4_9 q_X4_run_53 (by repeat first | with_reducible assumption | with_reducible exact hput_s _ _ _ | refine (hput_n _ _ (by omega)).trans ?_ | exact hput_s _ _ _ | assumption) rfl ?_
        refine g_iload q_X4_run_56 rfl ?_
        refine g_iload q_X4_run_58 rfl ?_
        refine g_aload_n q_X4_run_60 rfl ?_
        refine g_get fl_X4_9 q_X4_run_61 (by repeat first | with_reducible assumption | with_reducible exact hput_s _ _ _ | refine (hput_n _ _ (by omega)).trans ?_ | exact hput_s _ _ _ | assumption) rfl ?_
        refine g_iload q_X4_run_64 rfl ?_
        refine g_iaload q_X4_run_66 (by repeat first | with_reducible assumption | with_reducible exact hput_s _ _ _ | refine (hput_n _ _ (by omega)).trans ?_ | exact hput_s _ _ _ | assumption) (by omega) (by omega) ?_
        refine g_topi (b := c0 k) (by exact ek) ?_
        refine g_iconst q_X4_run_67 ?_
        refine g_iadd q_X4_run_68 ?_
        refine g_max lk_X4_34 q_X4_run_69 (by decide) (Nat.le_of_ble_eq_true rfl) ⟨by omega, by omega⟩ ⟨by omega, by omega⟩ ?_
        refine g_topi (b := mx2 ((t + 1 : Nat) : Int) (c0 k + 1)) rfl ?_
        refine g_iastore q_X4_run_72 (by repeat first | with_reducible assumption | with_reducible exact hput_s _ _ _ | refine (hput_n _ _ (by omega)).trans ?_ | exact hput_s _ _ _ | assumption) (by omega) (by omega) ?_
        refine g_iinc (L' := [_, _, _, _, _, _, _, _]) q_X4_run_73 rfl rfl ?_
        refine g_goto (tgt := 32) q_X4_run_76 (by decide) ?_
        rw [hput_hput]
        exact hnx
end ST

