/-! CartPaths: plans -/
noncomputable def pPZ (z : PS) (bd : Int) : Nat → Int := ndP (tQ (bZ z bd)) (alP (lvZ z) (zPL z) (zGO z)) (tP (bZ z bd)).toNat
noncomputable def pCZ (z : PS) (bd : Int) : Nat → Int := ndC (tQ (bZ z bd)) (alc (lvZ z) (zPL z) (zGO z)) (tP (bZ z bd)).toNat
/-- the ways of the plan, as they lie -/
def WYp (σ : AH) (T : Nat) (z : PS) (bd : Int) : Prop := ∃ ct cs cl co P C, σ.2 (T + 5) = some (wyo (T + 5) (zCa z) ct cs cl co) ∧ σ.2 (T + 5 + 1) = some (ai 205 P) ∧ σ.2 (T + 5 + 2) = some (ai 5 C) ∧ okP P ∧ okC C ∧ (∀ c, c < zCa z → C c = pCZ z bd c) ∧ ∀ i, i < 41 * zCa z → P i = pPZ z bd i
noncomputable def eP (pre : Bool) (bd : Int) (z : PS) (n1 n2 : Nat) : Nat := if (pre && bOK bd) = false then n1 else if tP (bZ z bd) = -1 then n2 else 0
theorem eP_0 {pre : Bool} {bd : Int} {z : PS} {n1 n2 : Nat} (h1 : pre = true) (h2 : bOK bd = true) (h3 : tP (bZ z bd) ≠ -1) : eP pre bd z n1 n2 = 0 := by unfold eP; rw [h1, h2, if_neg (by decide), if_neg h3]
theorem eP_1 {pre : Bool} {bd : Int} {z : PS} {n1 n2 : Nat} (h1 : pre = false) : eP pre bd z n1 n2 = n1 := by unfold eP; rw [h1, Bool.false_and, if_pos rfl]
section X9H
variable {Γ : GT} {σ : AH} {x lo N : Nat} {R : Nat → Nat} {len : Nat} {tx : Nat → Int} {fa : Int} {z : PS} {l : List (Int × Int × Int)} {wl : Nat} {wr : Nat → Int} {D E : Nat}
def plQ (σ : AH) (x lo N : Nat) (R : Nat → Nat) (len : Nat) (tx : Nat → Int) (fa : Int) (z : PS) (l : List (Int × Int × Int)) (wl : Nat) (wr : Nat → Int) (bd : Int) : Option Value → AH → Prop := fun v σ' => (bOK bd = true ∧ tP (bZ z bd) ≠ -1) ∧ ∃ T, v = some (.ref (T + 5)) ∧ CX σ' x lo N (rG (bOK bd) R z bd) len tx fa z l wl wr ∧ eqG σ σ' (fX x lo) ∧ lo ≤ T ∧ T + 8 < σ'.1 ∧ WYp σ' T z bd
def plX (σ : AH) (x lo N : Nat) (R : Nat → Nat) (len : Nat) (tx : Nat → Int) (fa : Int) (z : PS) (l : List (Int × Int × Int)) (wl : Nat) (wr : Nat → Int) (bd : Int) : String → AH → Prop := fun E σ' => (bOK bd = false ∧ E = xIAE ∨ bOK bd = true ∧ tP (bZ z bd) = -1 ∧ E = xISE) ∧ CX σ' x lo N (rG (bOK bd) R z bd) len tx fa z l wl wr ∧ eqG σ σ' (fX x lo)
theorem plK {pre : Bool} {bd : Int} {xs : List String} {n1 n2 : Nat} {Ex : String} {σ' : AH} (h : plX σ x lo N R len tx fa z l wl wr bd Ex σ') (hN : N < 1000) (hp : pre = true) (hx1 : n1 ≠ 0 ∧ xs[n1 - 1]? = some xIAE) (hx2 : n2 ≠ 0 ∧ xs[n2 - 1]? = some xISE) : oX xs (eP pre bd z n1 n2) (SX σ x lo (N + 1) (rG (pre && bOK bd) R z bd) len tx fa z l wl wr) Ex σ' := by
  obtain ⟨h1, h2, h3⟩ := h
  subst hp
  refine ⟨?_, ?_, h2.up (Nat.le_succ N) hN, h3⟩
  · unfold eP
    rcases h1 with ⟨w1, -⟩ | ⟨w1, w2, -⟩
    · rw [w1, Bool.and_false, if_pos rfl]; exact hx1.1
    · rw [w1, if_neg (by decide), if_pos w2]; exact hx2.1
  · unfold eP
    rcases h1 with ⟨w1, w3⟩ | ⟨w1, w2, w3⟩
    · rw [w1, Bool.and_false, if_pos rfl, w3]; exact hx1.2
    · rw [w1, if_neg (by decide), if_pos w2, w3]; exact hx2.2
theorem sp_planned (hΓ : Gd Γ) (hX : CX σ x lo N R len tx fa z l wl wr) (bd : Int) (hbd : rg bd) (hD : dC R (rG (bOK bd) R z bd) ≤ D) (hE : dS R (rG (bOK bd) R z bd) ≤ E) : Sp Γ miX9_planned (D + 2) (E + 12) [.ref x, .int (ii bd)] σ (plQ σ x lo N R len tx fa z l wl wr bd) (plX σ x lo N R len tx fa z l wl wr bd) := by
  have hX' := hX
  obtain ⟨ve, av, h1, h2, h3, h4, h5, q1, q2, -⟩ := hX'
  refine Sp_of (L := [_, _, _]) hΓ (by decide +kernel) rfl (Nat.le_of_ble_eq_true rfl) rfl ?_
  refine g_aload_n q_X9_planned_0 rfl ?_
  refine g_iload_n q_X9_planned_1 rfl ?_
  refine g_callV (rc' := 1) (rs' := 6) (As := [_]) cs_X9_239 q_X9_planned_2 (sp_treeOf hΓ hX bd hbd) rfl (by repeat first | with_reducible assumption | with_reducible exact hput_s _ _ _ | refine (hput_n _ _ (by omega)).trans ?_ | exact hput_s _ _ _ | assumption) rfl rfl rfl rfl (Nat.le_of_ble_eq_true rfl) (by decide) (by omega) (by omega) (fun E σ' h => ⟨Or.inl ⟨decide_eq_false h.2.1, h.1⟩, by obtain ⟨s, w1, w2⟩ := h.2.2; rw [rG_f (show bOK bd = false from decide_eq_false h.2.1), w2]; exact hX.grow w1, gro_eqG h.2.2⟩) (fun v σ1 hq => ?_)
  obtain ⟨e1, T, M, ad, tv, rfl, m1, m2, m3, m4, m5⟩ := hq
  obtain ⟨w0, w1, w2, w3⟩ := m5
  have hb : bOK bd = true := decide_eq_true e1
  have hTP : rg (tP (bZ z bd)) := by
    have hb := bld_rg (bd := bd) (okL_z h4.1) h4.1.2.2.1 h4.1.2.2.2.1 h4.1.1.2.2
    unfold bZ
    rcases hb with ⟨h9 | ⟨k, h8, h9⟩, h7, -⟩
    · rw [h9]; exact ⟨by decide, by decide⟩
    · rw [h9]; exact ⟨by omega, by omega⟩
  refine g_astore_n (L' := [_, _, _]) q_X9_planned_5 (by decide) rfl ?_
  refine g_aload_n q_X9_planned_6 rfl ?_
  refine g_get fl_X9_243 q_X9_planned_7 (by repeat first | with_reducible assumption | with_reducible exact hput_s _ _ _ | refine (hput_n _ _ (by omega)).trans ?_ | exact hput_s _ _ _ | assumption) rfl ?_
  refine g_iconst q_X9_planned_10 ?_
  refine g_icmp_ne (tgt := 22) q_X9_planned_11 (by decide) hTP ⟨by omega, by omega⟩ (fun b1 => ?_) (fun b1 => ?_)
  · refine g_aload_n q_X9_planned_22 rfl ?_
    refine g_get fl_X9_246 q_X9_planned_23 (by repeat first | with_reducible assumption | with_reducible exact hput_s _ _ _ | refine (hput_n _ _ (by omega)).trans ?_ | exact hput_s _ _ _ | assumption) rfl ?_
    refine g_areturn q_X9_planned_26.1 rfl (Or.inl ⟨_, rfl⟩) (Or.inr ⟨_, rfl⟩) ?_
    obtain ⟨n2, P2, C2, ⟨⟨ct, cs, cl, co, k0⟩, k1, k2⟩, o1, o2, o3⟩ := w3
    obtain ⟨rfl, o4, o5⟩ := o3 b1
    exact ⟨⟨hb, b1⟩, T, rfl, m1, m2, m3, m4, ct, cs, cl, co, P2, C2, k0, k1, k2, o1, o2, o4, o5⟩
  · refine g_throw th_ISE q_X9_planned_14.1 q_X9_planned_17.1 q_X9_planned_18.1 q_X9_planned_21.1 rfl (by decide) (Nat.le_of_ble_eq_true rfl) (by decide) (by decide) (fun z hz => ?_)
    exact ⟨Or.inr ⟨hb, by omega, rfl⟩, m1.grow hz, ⟨Nat.le_trans m2.1 hz, m2.2⟩⟩
end X9H

