/-! the reference's tree: branches -/
section BR
variable {Γ : GT} {σ : AH} {m : Nat} {I : Nat → Int} {A : Nat → Nat → Int} {N : Nat → Nat → BitVec 64} {z : PS} {pn : Nat → PN} {nc : Nat}
def brA (A : Nat → Nat → Int) (nc : Nat) (par c s ti to fr : Int) : Nat → Nat → Int := va_up (va_up (va_up (va_up (va_up (va_up A 18 (va_up (A 18) nc par)) 21 (va_up (A 21) nc c)) 22 (va_up (A 22) nc s)) 25 (va_up (A 25) nc ti)) 24 (va_up (A 24) nc to)) 23 (va_up (A 23) nc fr)
theorem brA_ne {par c s ti to fr : Int} {k : Nat} (h : k < 18 ∨ k = 19 ∨ k = 20 ∨ 25 < k) : brA A nc par c s ti to fr k = A k := by
  unfold brA
  rw [va_ne (by omega), va_ne (by omega), va_ne (by omega), va_ne (by omega), va_ne (by omega), va_ne (by omega)]
def gN (nc : Nat) : Option PN → Nat
  | none => nc
  | some _ => nc + 1
def gQ (pn : Nat → PN) (nc : Nat) : Option PN → Nat → PN
  | none => pn
  | some q => va_up pn nc q
def brQ (σ : AH) (m : Nat) (I : Nat → Int) (A : Nat → Nat → Int) (N : Nat → Nat → BitVec 64) (z : PS) (nc : Nat) (pn : Nat → PN) (g : Option PN) : Option Value → AH → Prop := fun r σ' => r = none ∧ eqOff σ σ' (inb m 27) ∧ ∃ I' A', MC σ' m I' A' N ∧ (∀ k, k < 28 ∨ 31 < k → k ≠ 34 → I' k = I k) ∧ (∀ k, k < 11 ∨ k = 17 ∨ 26 < k → A' k = A k) ∧ (∀ i, rg (A' 16 i)) ∧ TT z I' A' (gN nc g) (gQ pn nc g)
theorem sp_branches (hΓ : Gd Γ) (h : MC σ m I A N) (hz : MZ I A z) (w : WFz z) (ha : allZ z = true) (hr : ∀ i, rg (A 16 i)) (hT : TT z I A nc pn) (hnc : nc < 301) {par c u s : Nat} (hpar : par < nc) (hc : c < zCa z) (hu : u < 40) (hs : s < 2) {P C : Nat → Int} (hP : P = ndP pn (alPZ z) par) (hC : C = ndC pn (alcZ z) par) (hmv : s = 1 → P (41 * c + (u + 1)) ≠ P (41 * c + u)) : Sp Γ miX10_branches 0 0 [.ref m, .int (ii par), .int (ii c), .int (ii s), .int (ii ((u + 1 : Nat) : Int))] σ (brQ σ m I A N z nc pn (grN (lvZ z) (zPL z) (zGO z) (zCa z) pn nc par c u s P C)) noX := by
  have hT0 := hT
  obtain ⟨h34, hTI, hTG, hTF, hNR⟩ := hT
  have n5 := w.1.1.2.2
  have h15 := hz.1.2.2
  have hOT := hTI.2.2.1
  have hgo := hTG.all w ha hOT par hpar c hc
  rw [← hP] at hgo
  have hgin := hgo.gin w hc
  have hPe : ∀ t, t < 41 → A 16 (205 * par + (41 * c + t)) = P (41 * c + t) := fun t ht => by rw [hP]; exact (hNR par hpar).2.2.2.2.2.1 (41 * c + t) (by omega)
  obtain ⟨fr, hfr⟩ : ∃ fr, fr = grF P c u s := ⟨_, rfl⟩
  obtain ⟨to, hto⟩ : ∃ to, to = P (41 * c + (u + 1)) := ⟨_, rfl⟩
  have hgu : (0 ≤ P (41 * c + u) ∧ P (41 * c + u) < 36) ∧ gIn (zCo z) (zRo z) (P (41 * c + u)).toNat ∧ zSO z (P (41 * c + u)).toNat ≠ 1 := hgin u (by omega)
  have hgu1 : (0 ≤ P (41 * c + (u + 1)) ∧ P (41 * c + (u + 1)) < 36) ∧ _ := hgin (u + 1) (by omega)
  have hlg : lgS z (P (41 * c + u)) (P (41 * c + (u + 1))) := hgo.2.2.2.2.2 u hu
  have hok : okFb z fr to ((u + 1 : Nat) : Int) := by
    refine ⟨⟨by omega, by omega⟩, by rw [hto]; exact hgu1.1, ?_⟩
    rw [hfr, hto]
    unfold grF
    by_cases e : (s : Int) = 0
    · rw [if_pos e]; exact Or.inl rfl
    · rw [if_neg e]
      refine Or.inr ⟨hgu.1, hgu.2.1, hgu.2.2, ?_⟩
      rcases hlg with q | q
      · exact absurd q (hmv (by omega))
      · exact q
  have hfs : (s : Int) = if fr = -1 then 0 else 1 := by
    rw [hfr]
    unfold grF
    by_cases e : (s : Int) = 0
    · rw [if_pos e, if_pos rfl]; exact e
    · rw [if_neg e, if_neg (by omega)]; omega
  obtain ⟨F, hF⟩ : ∃ F, F = grX pn nc par c fr to ((u + 1 : Nat) : Int) := ⟨_, rfl⟩
  obtain ⟨q0, hq0⟩ : ∃ q0 : PN, q0 = (par, (c : Int), ((u + 1 : Nat) : Int), fr, to, 0, 0, 0, 0, false, fun _ => 0) := ⟨_, rfl⟩
  have i1 : pPi q0 = par ∧ pCa q0 = c ∧ pTi q0 = ((u + 1 : Nat) : Int) ∧ pFr q0 = fr ∧ pTo q0 = to := by rw [hq0]; exact ⟨rfl, rfl, rfl, rfl, rfl⟩
  obtain ⟨i1, i2, i3, i4, i5⟩ := i1
  obtain ⟨p2, hp2⟩ : ∃ p2, p2 = va_up pn nc q0 := ⟨_, rfl⟩
  have hFe : fbW p2 c nc nc (fun _ => 0, fun _ => 0) = F := by
    rw [hF, hp2, ← i2, ← i3, ← i4, ← i5]
    exact grX_eq (fun k a b => (hOT k a b).1) hTI.1 hpar i1
  -- a node is none, or new
  have grE : ∀ l : Int, l = lwP z F c → grN (lvZ z) (zPL z) (zGO z) (zCa z) pn nc par c u s P C = if l = -1 then none else some (par, (c : Int), ((u + 1 : Nat) : Int), fr, to, l, pSu (pn par) - C c + l, ccN (va_cpy (lwT z F c) P 0 (41 * c) 41) (zCa z) (mxN (va_up C c l) (zCa z)).toNat, pFo (pn par) + 1, false, lwT z F c) := by
    intro l hl
    rw [hl, hF, hfr, hto]
    rfl
  obtain ⟨gg, hgg⟩ : ∃ gg, gg = grN (lvZ z) (zPL z) (zGO z) (zCa z) pn nc par c u s P C := ⟨_, rfl⟩
  rw [← hgg] at grE ⊢
  have h0 := h.1
  have h18 := h.a18
  have h21 := h.a21
  have h22 := h.a22
  have h25 := h.a25
  refine Sp_of (L := [_, _, _, _, _, _, _]) hΓ (by decide +kernel) rfl (Nat.le_of_ble_eq_true rfl) rfl ?_
  refine g_aload_n q_X10_branches_0 rfl ?_
  refine g_get fl_X10_302 q_X10_branches_1 (by repeat first | with_reducible assumption | with_reducible exact hput_s _ _ _ | refine (hput_n _ _ (by omega)).trans ?_ | exact hput_s _ _ _ | assumption) rfl ?_
  refine g_topi (b := (nc : Int)) (by exact h34) ?_
  refine g_istore (L' := [_, _, _, _, _, _, _]) q_X10_branches_4 (by decide) rfl ?_
  refine g_aload_n q_X10_branches_6 rfl ?_
  refine g_get fl_X10_71 q_X10_branches_7 (by repeat first | with_reducible assumption | with_reducible exact hput_s _ _ _ | refine (hput_n _ _ (by omega)).trans ?_ | exact hput_s _ _ _ | assumption) rfl ?_
  refine g_iload q_X10_branches_10 rfl ?_
  refine g_iload_n q_X10_branches_12 rfl ?_
  refine g_iastore q_X10_branches_13 (by repeat first | with_reducible assumption | with_reducible exact hput_s _ _ _ | refine (hput_n _ _ (by omega)).trans ?_ | exact hput_s _ _ _ | assumption) (by omega) (by omega) ?_
  refine g_aload_n q_X10_branches_14 rfl ?_
  refine g_get fl_X10_80 q_X10_branches_15 (by repeat first | with_reducible assumption | with_reducible exact hput_s _ _ _ | refine (hput_n _ _ (by omega)).trans ?_ | exact hput_s _ _ _ | assumption) rfl ?_
  refine g_iload q_X10_branches_18 rfl ?_
  refine g_iload_n q_X10_branches_20 rfl ?_
  refine g_iastore q_X10_branches_21 (by repeat first | with_reducible assumption | with_reducible exact hput_s _ _ _ | refine (hput_n _ _ (by omega)).trans ?_ | exact hput_s _ _ _ | assumption) (by omega) (by omega) ?_
  refine g_aload_n q_X10_branches_22 rfl ?_
  refine g_get fl_X10_83 q_X10_branches_23 (by repeat first | with_reducible assumption | with_reducible exact hput_s _ _ _ | refine (hput_n _ _ (by omega)).trans ?_ | exact hput_s _ _ _ | assumption) rfl ?_
  refine g_iload q_X10_branches_26 rfl ?_
  refine g_iload_n q_X10_branches_28 rfl ?_
  refine g_iastore q_X10_branches_29 (by repeat first | with_reducible assumption | with_reducible exact hput_s _ _ _ | refine (hput_n _ _ (by omega)).trans ?_ | exact hput_s _ _ _ | assumption) (by omega) (by omega) ?_
  refine g_aload_n q_X10_branches_30 rfl ?_
  refine g_get fl_X10_92 q_X10_branches_31 (by repeat first | with_reducible assumption | with_reducible exact hput_s _ _ _ | refine (hput_n _ _ (by omega)).trans ?_ | exact hput_s _ _ _ | assumption) rfl ?_
  refine g_iload q_X10_branches_34 rfl ?_
  refine g_iload q_X10_branches_36 rfl ?_
  refine g_iastore q_X10_branches_38 (by repeat first | with_reducible assumption | with_reducible exact hput_s _ _ _ | refine (hput_n _ _ (by omega)).trans ?_ | exact hput_s _ _ _ | assumption) (by omega) (by omega) ?_
  obtain ⟨τ, hτ⟩ : ∃ τ, τ = hput (hput (hput (hput σ (m + 18) (ai 302 (va_up (A 18) nc par))) (m + 21) (ai 302 (va_up (A 21) nc c))) (m + 22) (ai 302 (va_up (A 22) nc s))) (m + 25) (ai 302 (va_up (A 25) nc ((u + 1 : Nat) : Int))) := ⟨_, rfl⟩
  refine g_eq (σ2 := τ) rfl rfl hτ.symm ?_
  have hM1 : MC τ m I (va_up (va_up (va_up (va_up A 18 (va_up (A 18) nc par)) 21 (va_up (A 21) nc c)) 22 (va_up (A 22) nc s)) 25 (va_up (A 25) nc ((u + 1 : Nat) : Int))) N := by
    rw [hτ]
    exact (((h.putA 18 (by omega) _).putA 21 (by omega) _).putA 22 (by omega) _).putA 25 (by omega) _
  have hE1 : eqOff σ τ (inb m 27) := by
    rw [hτ]
    exact (((eqOff.rfl'.put ⟨by omega, by omega⟩ _).put ⟨by omega, by omega⟩ _).put ⟨by omega, by omega⟩ _).put ⟨by omega, by omega⟩ _
  clear hτ
  have t0 := hM1.1
  have t24 : τ.2 (m + 24) = some (ai 302 (A 24)) := hM1.a24
  have t23 : τ.2 (m + 23) = some (ai 302 (A 23)) := hM1.a23
  have t16 : τ.2 (m + 16) = some (ai 62115 (A 16)) := hM1.a16
  refine g_aload_n q_X10_branches_39 rfl ?_
  refine g_get fl_X10_89 q_X10_branches_40 (by repeat first | with_reducible assumption | with_reducible exact hput_s _ _ _ | refine (hput_n _ _ (by omega)).trans ?_ | exact hput_s _ _ _ | assumption) rfl ?_
  refine g_iload q_X10_branches_43 rfl ?_
  refine g_aload_n q_X10_branches_45 rfl ?_
  refine g_iload_n q_X10_branches_46 rfl ?_
  refine g_iload_n q_X10_branches_47 rfl ?_
  refine g_iload q_X10_branches_48 rfl ?_
  refine g_callV (rc' := 0) (rs' := 0) (As := [_, _, _]) cs_X10_263 q_X10_branches_50 (sp_wayAt hΓ t0 t16 par c (u + 1) (by omega) (by omega) (by omega)) rfl (by repeat first | with_reducible assumption | with_reducible exact hput_s _ _ _ | refine (hput_n _ _ (by omega)).trans ?_ | exact hput_s _ _ _ | assumption) rfl rfl rfl rfl (Nat.le_of_ble_eq_true rfl) (by decide) (by decide) (by decide) (fun _ _ h => h.elim) (k_ri ?_)
  refine g_topi (b := to) (by rw [hPe _ (by omega), hto]) ?_
  refine g_iastore q_X10_branches_53 (by repeat first | with_reducible assumption | with_reducible exact hput_s _ _ _ | refine (hput_n _ _ (by omega)).trans ?_ | exact hput_s _ _ _ | assumption) (by omega) (by omega) ?_
  obtain ⟨τ2, hτ2⟩ : ∃ τ2, τ2 = hput τ (m + 24) (ai 302 (va_up (A 24) nc to)) := ⟨_, rfl⟩
  refine g_eq (σ2 := τ2) rfl rfl hτ2.symm ?_
  have hM2 := hM1.putA 24 (by omega) (va_up (A 24) nc to)
  rw [← (show τ2 = hput τ (m + 24) (mar 24 (va_up (A 24) nc to) (N 24)) from hτ2)] at hM2
  have hE2 : eqOff σ τ2 (inb m 27) := by rw [hτ2]; exact hE1.put ⟨by omega, by omega⟩ _
  clear hτ2
  have s0 := hM2.1
  have s23 : τ2.2 (m + 23) = some (ai 302 (A 23)) := hM2.a23
  have s16 : τ2.2 (m + 16) = some (ai 62115 (A 16)) := hM2.a16
  clear t0 t24 t23 t16 hE1 hM1
  have go : G Γ miX10_branches cX10_branches (brQ σ m I A N z nc pn gg) noX 0 0 79 [some (.ref m), some (.int (ii par)), some (.int (ii c)), some (.int (ii s)), some (.int (ii ((u + 1 : Nat) : Int))), some (.int (ii nc)), none] [.int (ii fr), .int (ii nc), .ref (m + 23)] τ2 := by
    refine g_iastore q_X10_branches_79 (by repeat first | with_reducible assumption | with_reducible exact hput_s _ _ _ | refine (hput_n _ _ (by omega)).trans ?_ | exact hput_s _ _ _ | assumption) (by omega) (by omega) ?_
    obtain ⟨τ3, hτ3⟩ : ∃ τ3, τ3 = hput τ2 (m + 23) (ai 302 (va_up (A 23) nc fr)) := ⟨_, rfl⟩
    refine g_eq (σ2 := τ3) rfl rfl hτ3.symm ?_
    have hM3 : MC τ3 m I (brA A nc par c s ((u + 1 : Nat) : Int) to fr) N := by rw [hτ3]; exact hM2.putA 23 (by omega) (va_up (A 23) nc fr)
    have hE3 : eqOff σ τ3 (inb m 27) := by rw [hτ3]; exact hE2.put ⟨by omega, by omega⟩ _
    clear hτ3 hM2 hE2 s0 s23 s16
    have t0 := hM3.1
    refine g_aload_n q_X10_branches_80 rfl ?_
    refine g_callV (rc' := 0) (rs' := 0) (As := []) cs_X10_257 q_X10_branches_81 (sp_freesM hΓ hM3) rfl (by repeat first | with_reducible assumption | with_reducible exact hput_s _ _ _ | refine (hput_n _ _ (by omega)).trans ?_ | exact hput_s _ _ _ | assumption) rfl rfl rfl rfl (Nat.le_of_ble_eq_true rfl) (by decide) (by decide) (by decide) (fun _ _ h => h.elim) (fun v τ4 hq => ?_)
    obtain ⟨rfl, hE, hM4⟩ := hq
    have hE4 : eqOff σ τ4 (inb m 27) := hE3.trans hE (fun a i => by unfold inb at *; omega)
    clear hE hE3 hM3 t0
    obtain ⟨B4, hB4⟩ : ∃ B4, B4 = va_up (va_up (brA A nc par c s ((u + 1 : Nat) : Int) to fr) 11 fun _ => 0) 12 fun _ => 0 := ⟨_, rfl⟩
    rw [← hB4] at hM4
    have b0 : ∀ k, k < 11 ∨ 12 < k ∧ k < 18 ∨ k = 19 ∨ k = 20 ∨ 25 < k → B4 k = A k := fun k hk => by rw [hB4, va_ne (by omega), va_ne (by omega), brA_ne (by omega)]
    have b18 : B4 18 = va_up (A 18) nc par := by rw [hB4]; rfl
    have b21 : B4 21 = va_up (A 21) nc c := by rw [hB4]; rfl
    have b22 : B4 22 = va_up (A 22) nc s := by rw [hB4]; rfl
    have b23 : B4 23 = va_up (A 23) nc fr := by rw [hB4]; rfl
    have b24 : B4 24 = va_up (A 24) nc to := by rw [hB4]; rfl
    have b25 : B4 25 = va_up (A 25) nc ((u + 1 : Nat) : Int) := by rw [hB4]; rfl
    have hF0 : FBr z (B4 11) (B4 12) (fun _ => 0, fun _ => 0) := by rw [hB4]; exact FBr.zero
    clear hB4
    have rows : ∀ p, 0 < p → p ≤ nc → B4 18 p = (pPi (p2 p) : Int) ∧ B4 21 p = pCa (p2 p) ∧ B4 22 p = (if pFr (p2 p) = -1 then 0 else 1) ∧ B4 23 p = pFr (p2 p) ∧ B4 24 p = pTo (p2 p) ∧ B4 25 p = pTi (p2 p) ∧ okFb z (pFr (p2 p)) (pTo (p2 p)) (pTi (p2 p)) ∧ pPi (p2 p) < p ∧ 0 ≤ pCa (p2 p) ∧ pCa (p2 p) < 5 := fun p p0 hp => by
      rw [b18, b21, b22, b23, b24, b25, hp2]
      by_cases e : p = nc
      · subst e
        rw [va_eq, va_eq, va_eq, va_eq, va_eq, va_eq, va_eq, i1, i2, i3, i4, i5]
        exact ⟨rfl, rfl, hfs, rfl, rfl, rfl, hok, hpar, by omega, by omega⟩
      · rw [va_ne e, va_ne e, va_ne e, va_ne e, va_ne e, va_ne e, va_ne e]
        obtain ⟨c1, -, -, c4, -, -, c7⟩ := hNR p (by omega)
        obtain ⟨d1, d2, d3, d4⟩ := c7 p0
        rw [if_neg (by omega)] at c1
        obtain ⟨g1, g2, -⟩ := hOT p p0 (by omega)
        exact ⟨c1, c4, d1, d2, d3, d4, hTF p p0 (by omega), g1, by omega, by omega⟩
    -- behind what is forbidden
    have fin : ∀ τ B, eqOff σ τ (inb m 27) → MC τ m I B N → (∀ k, k < 11 ∨ 12 < k → B k = B4 k) → FBr z (B 11) (B 12) F → G Γ miX10_branches cX10_branches (brQ σ m I A N z nc pn gg) noX 0 0 122 [some (.ref m), some (.int (ii par)), some (.int (ii c)), some (.int (ii s)), some (.int (ii ((u + 1 : Nat) : Int))), some (.int (ii nc)), none] [] τ := by
      intro τ B hE hM hB hFB
      have hzB : MZ I B z := hz.cg ⟨rfl, rfl, rfl⟩ ((hB 6 (by omega)).trans (b0 6 (by omega))) ((hB 8 (by omega)).trans (b0 8 (by omega))) ((hB 9 (by omega)).trans (b0 9 (by omega)))
      have t0 := hM.1
      refine g_aload_n q_X10_branches_122 rfl ?_
      refine g_iload_n q_X10_branches_123 rfl ?_
      refine g_callV (rc' := 0) (rs' := 0) (As := [_]) cs_X10_260 q_X10_branches_124 (sp_laysWayF hΓ hM hzB w hFB hc) rfl (by repeat first | with_reducible assumption | with_reducible exact hput_s _ _ _ | refine (hput_n _ _ (by omega)).trans ?_ | exact hput_s _ _ _ | assumption) rfl rfl rfl rfl (Nat.le_of_ble_eq_true rfl) (by decide) (by decide) (by decide) (fun _ _ h => h.elim) (fun v τ5 hq => ?_)
      obtain ⟨rfl, hE5, B5, hM5, hB5, hwy⟩ := hq
      have hE5 : eqOff σ τ5 (inb m 27) := hE.trans hE5 (fun a i => by unfold inb at *; omega)
      have f0 : ∀ k, k < 11 ∨ 16 ≤ k ∧ k < 18 ∨ k = 19 ∨ k = 20 ∨ 25 < k → B5 k = A k := fun k hk => (hB5 k (by omega)).trans ((hB k (by omega)).trans (b0 k (by omega)))
      have f1 : ∀ k, 18 ≤ k → k ≤ 25 → B5 k = B4 k := fun k _ _ => (hB5 k (by omega)).trans (hB k (by omega))
      have hlr : rg (lwP z F c) := by
        have := lcs_rg (lvZ z) F.2 F.1 (zPL z c).toNat (zGO z c).toNat
        unfold lwP rg
        omega
      have g5 := hM5.1
      clear hE hM hB hFB hB5 hzB t0
      refine g_iconst q_X10_branches_127 ?_
      refine g_icmp_ne (tgt := 132) q_X10_branches_128 (by decide) hlr ⟨by omega, by omega⟩ (fun b1 => ?_) (fun b1 => ?_)
      case refine_2 =>
        have e1 : gg = none := by rw [grE _ rfl, if_pos (by omega)]
        refine g_return q_X10_branches_131.1 rfl ?_
        rw [e1]
        refine ⟨rfl, hE5, I, B5, hM5, fun _ _ _ => rfl, fun k hk => f0 k (by omega), by rw [f0 16 (by omega)]; exact hr, hT0.cg w rfl (fun i _ => by rw [f0 16 (by omega)]) (fun k hk => ?_)⟩
        rw [f1 18 (by omega) (by omega), f1 21 (by omega) (by omega), f1 22 (by omega) (by omega), f1 23 (by omega) (by omega), f1 24 (by omega) (by omega), f1 25 (by omega) (by omega), f0 19 (by omega), f0 20 (by omega), f0 26 (by omega), b18, b21, b22, b23, b24, b25, va_ne (by omega), va_ne (by omega), va_ne (by omega), va_ne (by omega), va_ne (by omega), va_ne (by omega)]
        exact ⟨rfl, rfl, rfl, rfl, rfl, rfl, rfl, rfl, rfl⟩
      have hwy := hwy b1
      obtain ⟨q, hgq, k1, k2, k3, k4, k5, k6, k7, k8⟩ : ∃ q : PN, gg = some q ∧ pPi q = par ∧ pCa q = c ∧ pTi q = ((u + 1 : Nat) : Int) ∧ pFr q = fr ∧ pTo q = to ∧ pCo q = lwP z F c ∧ pSp q = false ∧ pRw q = lwT z F c := ⟨_, (grE _ rfl).trans (if_neg b1), rfl, rfl, rfl, rfl, rfl, rfl, rfl, rfl⟩
      have hPL := w.1.2.2.1
      have hGO := w.1.2.2.2.1
      have hL := okL_z w.1
      have hg' : grN (lvZ z) (zPL z) (zGO z) (zCa z) pn nc par c u s (ndP pn (alPZ z) par) (ndC pn (alcZ z) par) = some q := by rw [← hP, ← hC, ← hgg]; exact hgq
      have nTI : TI (alPZ z) (alcZ z) (zCa z) (nc + 1) (va_up pn nc q) := TI_grow hTI hnc hpar hc hu hL hPL hGO (okP_alP hL hPL hGO) hg'
      have nTG : TG z (nc + 1) (va_up pn nc q) := hTG.grow w hOT hc hg'
      have nTF : TF z (nc + 1) (va_up pn nc q) := fun k k0 hk => by
        by_cases e : k = nc
        · subst e
          rw [va_eq, k3, k4, k5]
          exact hok
        · rw [va_ne e]
          exact hTF k k0 (by omega)
      obtain ⟨W, hW⟩ : ∃ W, W = A 16 := ⟨_, rfl⟩
      have h16 : τ5.2 (m + 16) = some (ai 62115 W) := by rw [hW, ← f0 16 (by omega)]; exact hM5.a16
      rw [← hW] at hr
      refine g_iconst q_X10_branches_132 ?_
      refine g_istore (L' := [_, _, _, _, _, _, _]) q_X10_branches_133 (by decide) rfl ?_
      refine g_eq (σ2 := hput τ5 (m + 16) (ai 62115 (va_cpy W W (205 * par) (205 * nc) 0))) rfl rfl (by rw [cpy_0G]; exact (hput_id h16).symm) ?_
      refine g_loop (fun j => j ≤ 205) (fun j : Nat => G Γ _ cX10_branches _ _ 0 0 135 [some (.ref m), some (.int (ii par)), some (.int (ii c)), some (.int (ii s)), some (.int (ii ((u + 1 : Nat) : Int))), some (.int (ii nc)), some (.int (ii j))] [] (hput τ5 (m + 16) (ai 62115 (va_cpy W W (205 * par) (205 * nc) j)))) (fun j => 205 - j) ?_ 0 (Nat.zero_le _)
      intro j hj ih
      refine g_iload q_X10_branches_135 rfl ?_
      refine g_sipush q_X10_branches_137 sp_205 ?_
      refine g_icmp_ge (tgt := 176) q_X10_branches_140 (by decide) ⟨by omega, by omega⟩ ⟨by omega, by omega⟩ (fun b2 => ?_) (fun b2 => ?_)
      case refine_2 =>
        have hnx := ih (j + 1) (by omega) (by omega)
        have er : va_cpy W W (205 * par) (205 * nc) j (205 * par + j) = W (205 * par + j) := by
          unfold va_cpy
          rw [if_neg (by omega)]
        refine g_aload_n q_X10_branches_143 rfl ?_
        refine g_get fl_X10_62 q_X10_branches_144 (by repeat first | with_reducible assumption | with_reducible exact hput_s _ _ _ | refine (hput_n _ _ (by omega)).trans ?_ | exact hput_s _ _ _ | assumption) rfl ?_
        refine g_sipush q_X10_branches_147 sp_205 ?_
        refine g_iload q_X10_branches_150 rfl ?_
        refine g_imul q_X10_branches_152 ?_
        refine g_iload q_X10_branches_153 rfl ?_
        refine g_iadd q_X10_branches_155 ?_
        refine g_aload_n q_X10_branches_156 rfl ?_
        refine g_get fl_X10_62 q_X10_branches_157 (by repeat first | with_reducible assumption | with_reducible exact hput_s _ _ _ | refine (hput_n _ _ (by omega)).trans ?_ | exact hput_s _ _ _ | assumption) rfl ?_
        refine g_sipush q_X10_branches_160 sp_205 ?_
        refine g_iload_n q_X10_branches_163 rfl ?_
        refine g_imul q_X10_branches_164 ?_
        refine g_iload q_X10_branches_165 rfl ?_
        refine g_iadd q_X10_branches_167 ?_
        refine g_iaload q_X10_branches_168 (by repeat first | with_reducible assumption | with_reducible exact hput_s _ _ _ | refine (hput_n _ _ (by omega)).trans ?_ | exact hput_s _ _ _ | assumption) (by omega) (by omega) ?_
        refine g_topi (b := W (205 * par + j)) (by exact er) ?_
        refine g_iastore q_X10_branches_169 (by repeat first | with_reducible assumption | with_reducible exact hput_s _ _ _ | refine (hput_n _ _ (by omega)).trans ?_ | exact hput_s _ _ _ | assumption) (by omega) (by omega) ?_
        rw [hput_hput]
        refine g_eq (σ2 := hput τ5 (m + 16) (ai 62115 (va_cpy W W (205 * par) (205 * nc) (j + 1)))) rfl rfl (by rw [← cpy_upG]; congr 4) ?_
        refine g_iinc (L' := [_, _, _, _, _, _, _]) q_X10_branches_170 rfl rfl ?_
        refine g_goto (tgt := 135) q_X10_branches_173 (by decide) ?_
        exact hnx
      have e : j = 205 := by omega
      subst e
      clear ih hj b2
      obtain ⟨W1, hW1⟩ : ∃ W1, W1 = va_cpy W W (205 * par) (205 * nc) 205 := ⟨_, rfl⟩
      have w1 : ∀ i, W1 i = if 205 * nc ≤ i ∧ i < 205 * nc + 205 then W (205 * par + (i - 205 * nc)) else W i := fun i => by rw [hW1]; rfl
      rw [← hW1]
      obtain ⟨τ6, hτ6⟩ : ∃ τ6, τ6 = hput τ5 (m + 16) (ai 62115 W1) := ⟨_, rfl⟩
      have hM6 : MC τ6 m I (va_up B5 16 W1) N := by rw [hτ6]; exact hM5.putA 16 (by omega) W1
      have hE6 : eqOff σ τ6 (inb m 27) := by rw [hτ6]; exact hE5.put ⟨by omega, by omega⟩ _
      rw [← hτ6]
      clear hτ6 hM5 hE5 hW1 h16
      have t0 := hM6.1
      have t15 : τ6.2 (m + 15) = some (ai 41 (B5 15)) := hM6.a15
      have t16 : τ6.2 (m + 16) = some (ai 62115 W1) := hM6.a16
      refine g_aload_n q_X10_branches_176 rfl ?_
      refine g_iload q_X10_branches_177 rfl ?_
      refine g_iload_n q_X10_branches_179 rfl ?_
      refine g_callV (rc' := 0) (rs' := 0) (As := [_, _]) cs_X10_283 q_X10_branches_180 (sp_keepsWay hΓ t0 t16 t15 nc c (by omega) (by omega)) rfl (by repeat first | with_reducible assumption | with_reducible exact hput_s _ _ _ | refine (hput_n _ _ (by omega)).trans ?_ | exact hput_s _ _ _ | assumption) rfl rfl rfl rfl (Nat.le_of_ble_eq_true rfl) (by decide) (by decide) (by decide) (fun _ _ h => h.elim) (k_rv ?_)
      obtain ⟨W2, hW2⟩ : ∃ W2, W2 = va_cpy (B5 15) W1 0 (205 * nc + 41 * c) 41 := ⟨_, rfl⟩
      have w2 : ∀ i, W2 i = if 205 * nc + 41 * c ≤ i ∧ i < 205 * nc + 41 * c + 41 then B5 15 (0 + (i - (205 * nc + 41 * c))) else W1 i := fun i => by rw [hW2]; rfl
      rw [← hW2]
      obtain ⟨τ7, hτ7⟩ : ∃ τ7, τ7 = hput τ6 (m + 16) (ai 62115 W2) := ⟨_, rfl⟩
      have hM7 : MC τ7 m I (va_up (va_up B5 16 W1) 16 W2) N := by rw [hτ7]; exact hM6.putA 16 (by omega) W2
      have hE7 : eqOff σ τ7 (inb m 27) := by rw [hτ7]; exact hE6.put ⟨by omega, by omega⟩ _
      rw [← hτ7]
      clear hτ7 hM6 hE6 hW2 t0 t15 t16
      have lo : ∀ i, i < 205 * nc → W2 i = W i := fun i hi => by rw [w2, if_neg (by omega), w1, if_neg (by omega)]
      have rgW2 : ∀ i, rg (W2 i) := fun i => by
        rw [w2]
        split
        · rw [hwy _ (by omega)]
          have := wyt_rg (mv := F.2) (ce := F.1) hL (pl := (zPL z c).toNat) (go := (zGO z c).toNat) (by have := (hPL c).1; omega) (by have := (hGO c).1; omega) (0 + (i - (205 * nc + 41 * c)))
          unfold lwT rg
          omega
        · rw [w1]
          split
          · exact hr _
          · exact hr _
      have nrow : ∀ i, i < 41 * zCa z → W2 (205 * nc + i) = ndP (va_up pn nc q) (alPZ z) nc i := fun i hi => by
        rw [(nd_new hOT hTI.1 hpar k1 k2 (alPZ z) (alcZ z)).2, k8, w2]
        unfold va_cpy
        by_cases e : 41 * c ≤ i ∧ i < 41 * c + 41
        · rw [if_pos (by omega), if_pos e, hwy _ (by omega), show 0 + (205 * nc + i - (205 * nc + 41 * c)) = 0 + (i - 41 * c) by omega]
        · rw [if_neg (by omega), if_neg e, w1, if_pos (by omega), show 205 * nc + i - 205 * nc = i by omega, hW]
          exact (hNR par hpar).2.2.2.2.2.1 i hi
      obtain ⟨n1, n2, -⟩ := nd_row w ha nTI nTG (Nat.lt_succ_self nc) nrow
      rw [va_eq] at n1 n2
      have t0 := hM7.1
      have t16 : τ7.2 (m + 16) = some (ai 62115 W2) := hM7.a16
      have t19 : τ7.2 (m + 19) = some (ai 302 (B5 19)) := hM7.a19
      refine g_aload_n q_X10_branches_183 rfl ?_
      refine g_get fl_X10_74 q_X10_branches_184 (by repeat first | with_reducible assumption | with_reducible exact hput_s _ _ _ | refine (hput_n _ _ (by omega)).trans ?_ | exact hput_s _ _ _ | assumption) rfl ?_
      refine g_iload q_X10_branches_187 rfl ?_
      refine g_aload_n q_X10_branches_189 rfl ?_
      refine g_iload q_X10_branches_190 rfl ?_
      refine g_callV (rc' := 0) (rs' := 0) (As := [_]) cs_X10_308 q_X10_branches_192 (sp_sumAt hΓ t0 t16 rgW2 nc (zCa z) (by omega) n5 h15) rfl (by repeat first | with_reducible assumption | with_reducible exact hput_s _ _ _ | refine (hput_n _ _ (by omega)).trans ?_ | exact hput_s _ _ _ | assumption) rfl rfl rfl rfl (Nat.le_of_ble_eq_true rfl) (by decide) (by decide) (by decide) (fun _ _ h => h.elim) (k_ri ?_)
      refine g_topi (b := pSu q) n1 ?_
      refine g_iastore q_X10_branches_195 (by repeat first | with_reducible assumption | with_reducible exact hput_s _ _ _ | refine (hput_n _ _ (by omega)).trans ?_ | exact hput_s _ _ _ | assumption) (by omega) (by omega) ?_
      obtain ⟨τ8, hτ8⟩ : ∃ τ8, τ8 = hput τ7 (m + 19) (ai 302 (va_up (B5 19) nc (pSu q))) := ⟨_, rfl⟩
      refine g_eq (σ2 := τ8) rfl rfl hτ8.symm ?_
      have hM8 : MC τ8 m I (va_up (va_up (va_up B5 16 W1) 16 W2) 19 (va_up (B5 19) nc (pSu q))) N := by rw [hτ8]; exact hM7.putA 19 (by omega) _
      have hE8 : eqOff σ τ8 (inb m 27) := by rw [hτ8]; exact hE7.put ⟨by omega, by omega⟩ _
      clear hτ8 hM7 hE7 t0 t16 t19
      have t0 := hM8.1
      have t16 : τ8.2 (m + 16) = some (ai 62115 W2) := hM8.a16
      refine g_aload_n q_X10_branches_196 rfl ?_
      refine g_get fl_X10_77 q_X10_branches_197 (by repeat first | with_reducible assumption | with_reducible exact hput_s _ _ _ | refine (hput_n _ _ (by omega)).trans ?_ | exact hput_s _ _ _ | assumption) rfl ?_
      refine g_iload q_X10_branches_200 rfl ?_
      refine g_aload_n q_X10_branches_202 rfl ?_
      refine g_iload q_X10_branches_203 rfl ?_
      refine g_callV (rc' := 0) (rs' := 0) (As := [_]) cs_X10_293 q_X10_branches_205 (sp_laysClashes hΓ t0 t16 rgW2 nc (zCa z) (by omega) n5 h15) rfl (by repeat first | with_reducible assumption | with_reducible exact hput_s _ _ _ | refine (hput_n _ _ (by omega)).trans ?_ | exact hput_s _ _ _ | assumption) rfl rfl rfl rfl (Nat.le_of_ble_eq_true rfl) (by decide) (by decide) (by decide) (fun _ _ h => h.elim) (fun v τ9 hq => ?_)
      obtain ⟨rfl, I', rfl, hcl⟩ := hq
      refine g_topi (b := pCl q) n2 ?_
      have hI' : ∀ k, k < 28 ∨ 31 < k → I' k = I k := fun k hk => by
        rcases hcl.2 with ⟨-, q9, -⟩ | ⟨-, a1, a2, a3, a4, -, q9⟩
        · rw [q9]
        · rw [q9]
          unfold up4
          rw [va_ne (by omega), va_ne (by omega), va_ne (by omega), va_ne (by omega)]
      clear hcl
      obtain ⟨τ9, hτ9⟩ : ∃ τ9, τ9 = hput τ8 m (mdo m I') := ⟨_, rfl⟩
      have hM9 := hM8.putI I'
      rw [← hτ9] at hM9
      have hE9 : eqOff σ τ9 (inb m 27) := by rw [hτ9]; exact hE8.put ⟨by omega, by omega⟩ _
      rw [← hτ9]
      clear hτ9 hM8 hE8 t0 t16
      have t0 := hM9.1
      have t20 : τ9.2 (m + 20) = some (ai 302 (B5 20)) := hM9.a20
      have t26 : τ9.2 (m + 26) = some (az 302 (B5 26)) := hM9.a26
      refine g_iastore q_X10_branches_208 (by repeat first | with_reducible assumption | with_reducible exact hput_s _ _ _ | refine (hput_n _ _ (by omega)).trans ?_ | exact hput_s _ _ _ | assumption) (by omega) (by omega) ?_
      refine g_aload_n q_X10_branches_209 rfl ?_
      refine g_get fl_X10_95 q_X10_branches_210 (by repeat first | with_reducible assumption | with_reducible exact hput_s _ _ _ | refine (hput_n _ _ (by omega)).trans ?_ | exact hput_s _ _ _ | assumption) rfl ?_
      refine g_iload q_X10_branches_213 rfl ?_
      refine g_iconst q_X10_branches_215 ?_
      refine g_zastore q_X10_branches_216 (by repeat first | with_reducible assumption | with_reducible exact hput_s _ _ _ | refine (hput_n _ _ (by omega)).trans ?_ | exact hput_s _ _ _ | assumption) (by omega) (by omega) (by first | exact Or.inl rfl | exact Or.inr rfl | omega) ?_
      refine g_aload_n q_X10_branches_217 rfl ?_
      refine g_dup q_X10_branches_218 rfl ?_
      refine g_get fl_X10_302 q_X10_branches_219 (by repeat first | with_reducible assumption | with_reducible exact hput_s _ _ _ | refine (hput_n _ _ (by omega)).trans ?_ | exact hput_s _ _ _ | assumption) rfl ?_
      refine g_topi (b := (nc : Int)) (by exact (hI' 34 (by omega)).trans h34) ?_
      refine g_iconst q_X10_branches_222 ?_
      refine g_iadd q_X10_branches_223 ?_
      refine g_putM fp_X10_302 q_X10_branches_224 (by repeat first | with_reducible assumption | with_reducible exact hput_s _ _ _ | refine (hput_n _ _ (by omega)).trans ?_ | exact hput_s _ _ _ | assumption) rfl rfl mset_34 ?_
      refine g_return q_X10_branches_227.1 rfl ?_
      rw [hgq]
      refine ⟨rfl, ((hE9.put ⟨by omega, by omega⟩ _).put ⟨by omega, by omega⟩ _).put ⟨by omega, by omega⟩ _, va_up I' 34 ((nc : Int) + 1), va_up (va_up (va_up (va_up (va_up B5 16 W1) 16 W2) 19 (va_up (B5 19) nc (pSu q))) 20 (va_up (B5 20) nc (pCl q))) 26 (va_up (B5 26) nc 0), ((hM9.putA 20 (by omega) _).putA 26 (by omega) _).putI _, fun k hk h4 => (va_ne h4).trans (hI' k hk), fun k hk => ?_, rgW2, ?_⟩
      · rw [va_ne (by omega), va_ne (by omega), va_ne (by omega), va_ne (by omega), va_ne (by omega)]
        exact f0 k (by omega)
      · refine ⟨?_, nTI, nTG, nTF, fun k hk => ?_⟩
        · show (nc : Int) + 1 = ((nc + 1 : Nat) : Int)
          omega
        · have x18 : B5 18 = va_up (A 18) nc par := (f1 18 (by omega) (by omega)).trans b18
          have x21 : B5 21 = va_up (A 21) nc c := (f1 21 (by omega) (by omega)).trans b21
          have x22 : B5 22 = va_up (A 22) nc s := (f1 22 (by omega) (by omega)).trans b22
          have x23 : B5 23 = va_up (A 23) nc fr := (f1 23 (by omega) (by omega)).trans b23
          have x24 : B5 24 = va_up (A 24) nc to := (f1 24 (by omega) (by omega)).trans b24
          have x25 : B5 25 = va_up (A 25) nc ((u + 1 : Nat) : Int) := (f1 25 (by omega) (by omega)).trans b25
          show B5 18 k = _ ∧ va_up (B5 19) nc (pSu q) k = _ ∧ va_up (B5 20) nc (pCl q) k = _ ∧ B5 21 k = _ ∧ va_up (B5 26) nc 0 k = _ ∧ (∀ i, i < 41 * zCa z → W2 (205 * k + i) = _) ∧ (0 < k → B5 22 k = _ ∧ B5 23 k = _ ∧ B5 24 k = _ ∧ B5 25 k = _)
          rw [x18, x21, x22, x23, x24, x25, f0 19 (by omega), f0 20 (by omega), f0 26 (by omega)]
          have hk1 : k < nc + 1 := hk
          show _ ∧ _ = pSu (va_up pn nc q k) ∧ _ = pCl (va_up pn nc q k) ∧ _ = pCa (va_up pn nc q k) ∧ _ = bi (pSp (va_up pn nc q k)) ∧ (∀ i, i < 41 * zCa z → _ = ndP (va_up pn nc q) (alPZ z) k i) ∧ (0 < k → _ = (if pFr (va_up pn nc q k) = -1 then 0 else 1) ∧ _ = pFr (va_up pn nc q k) ∧ _ = pTo (va_up pn nc q k) ∧ _ = pTi (va_up pn nc q k))
          by_cases e : k = nc
          · subst e
            have k0 := hTI.1
            have e18 : (if k = 0 then (-1 : Int) else (pPi (va_up pn k q k) : Int)) = (par : Int) := by rw [if_neg (by omega), va_eq, k1]
            refine ⟨?_, ?_⟩
            · rw [va_eq]; exact e18.symm
            · rw [va_eq, va_eq, va_eq, va_eq, va_eq, va_eq, va_eq, va_eq, va_eq, k2, k3, k4, k5, k7]
              exact ⟨rfl, rfl, rfl, rfl, nrow, fun _ => ⟨hfs, rfl, rfl, rfl⟩⟩
          · obtain ⟨c1, c2, c3, c4, c5, c6, c7⟩ := hNR k (by omega)
            have od := (nd_old (pn2 := va_up pn nc q) hOT (fun j hj => by rw [va_ne (by omega)]; exact ⟨rfl, rfl, rfl, rfl⟩) (alPZ z) (alcZ z) k (by omega)).2
            rw [od]
            have ek : va_up pn nc q k = pn k := va_ne e
            refine ⟨?_, ?_⟩
            · rw [va_ne e]
              refine c1.trans ?_
              show _ = (if k = 0 then (-1 : Int) else (pPi (va_up pn nc q k) : Int))
              rw [ek]
            · rw [ek, va_ne e, va_ne e, va_ne e, va_ne e, va_ne e, va_ne e, va_ne e, va_ne e]
              exact ⟨c2, c3, c4, c5, fun i hi => by rw [lo _ (by omega), hW]; exact c6 i hi, c7⟩
    refine g_iload q_X10_branches_84 rfl ?_
    refine g_istore (L' := [_, _, _, _, _, _, _]) q_X10_branches_86 (by decide) rfl ?_
    refine g_loop3 (fun (p : Nat) (τ : AH) (B : Nat → Nat → Int) => p ≤ nc ∧ eqOff σ τ (inb m 27) ∧ MC τ m I B N ∧ (∀ k, k < 11 ∨ 12 < k → B k = B4 k) ∧ ∃ X g, p ≤ g ∧ FBr z (B 11) (B 12) X ∧ fbW p2 c g p X = F) (fun p τ B => G Γ _ cX10_branches _ _ 0 0 88 [some (.ref m), some (.int (ii par)), some (.int (ii c)), some (.int (ii s)), some (.int (ii ((u + 1 : Nat) : Int))), some (.int (ii nc)), some (.int (ii p))] [] τ) (fun p τ B => p) ?_ nc τ4 B4 ⟨Nat.le_refl _, hE4, hM4, fun _ _ => rfl, _, nc, Nat.le_refl _, hF0, hFe⟩
    clear hE4 hM4 hF0 hFe
    rintro p τ B ⟨hp, hE, hM, hB, X, g, hg, hX, hfe⟩ ih
    have t0 := hM.1
    have t18 := hM.a18
    have t21 := hM.a21
    refine g_iload q_X10_branches_88 rfl ?_
    refine g_if_le (tgt := 122) q_X10_branches_90 (by decide) ⟨by omega, by omega⟩ (fun b1 => ?_) (fun b1 => ?_)
    · have e : p = 0 := by omega
      subst e
      have eX : X = F := by
        rw [← hfe]
        cases g with
        | zero => rfl
        | succ g => rw [fbW, if_pos rfl]
      rw [eX] at hX
      exact g_fl (fin τ B hE hM hB hX) ⟨rfl, rfl, rfl, rfl, rfl, rfl, trivial⟩
    obtain ⟨r1, r2, r3, r4, r5, r6, r7, r8, r9, r10⟩ := rows p (by omega) hp
    obtain ⟨g', hg'⟩ : ∃ g', g = g' + 1 := ⟨g - 1, by omega⟩
    subst hg'
    rw [fbW, if_neg (by omega)] at hfe
    have nxt : ∀ τ' B' X', eqOff σ τ' (inb m 27) → MC τ' m I B' N → (∀ k, k < 11 ∨ 12 < k → B' k = B4 k) → FBr z (B' 11) (B' 12) X' → fbW p2 c g' (pPi (p2 p)) X' = F → G Γ miX10_branches cX10_branches (brQ σ m I A N z nc pn gg) noX 0 0 110 [some (.ref m), some (.int (ii par)), some (.int (ii c)), some (.int (ii s)), some (.int (ii ((u + 1 : Nat) : Int))), some (.int (ii nc)), some (.int (ii p))] [] τ' := by
      intro τ' B' X' a1 a2 a3 a4 a5
      have hnx := ih (pPi (p2 p)) τ' B' ⟨by omega, a1, a2, a3, X', g', by omega, a4, a5⟩ r8
      have t0 := a2.1
      have t18 := a2.a18
      refine g_aload_n q_X10_branches_110 rfl ?_
      refine g_get fl_X10_71 q_X10_branches_111 (by repeat first | with_reducible assumption | with_reducible exact hput_s _ _ _ | refine (hput_n _ _ (by omega)).trans ?_ | exact hput_s _ _ _ | assumption) rfl ?_
      refine g_iload q_X10_branches_114 rfl ?_
      refine g_iaload q_X10_branches_116 (by repeat first | with_reducible assumption | with_reducible exact hput_s _ _ _ | refine (hput_n _ _ (by omega)).trans ?_ | exact hput_s _ _ _ | assumption) (by omega) (by omega) ?_
      refine g_topi (b := (pPi (p2 p) : Int)) (by rw [a3 18 (by omega)]; exact r1) ?_
      refine g_istore (L' := [_, _, _, _, _, _, _]) q_X10_branches_117 (by decide) rfl ?_
      refine g_goto (tgt := 88) q_X10_branches_119 (by decide) ?_
      exact hnx
    clear ih fin
    refine g_aload_n q_X10_branches_93 rfl ?_
    refine g_get fl_X10_80 q_X10_branches_94 (by repeat first | with_reducible assumption | with_reducible exact hput_s _ _ _ | refine (hput_n _ _ (by omega)).trans ?_ | exact hput_s _ _ _ | assumption) rfl ?_
    refine g_iload q_X10_branches_97 rfl ?_
    refine g_iaload q_X10_branches_99 (by repeat first | with_reducible assumption | with_reducible exact hput_s _ _ _ | refine (hput_n _ _ (by omega)).trans ?_ | exact hput_s _ _ _ | assumption) (by omega) (by omega) ?_
    refine g_topi (b := pCa (p2 p)) (by rw [hB 21 (by omega)]; exact r2) ?_
    refine g_iload_n q_X10_branches_100 rfl ?_
    refine g_icmp_ne (tgt := 110) q_X10_branches_101 (by decide) ⟨by omega, by omega⟩ ⟨by omega, by omega⟩ (fun b2 => ?_) (fun b2 => ?_)
    · rw [if_neg b2] at hfe
      exact nxt τ B X hE hM hB hX hfe
    · rw [if_pos (by omega)] at hfe
      have hzB : MZ I B z := hz.cg ⟨rfl, rfl, rfl⟩ ((hB 6 (by omega)).trans (b0 6 (by omega))) ((hB 8 (by omega)).trans (b0 8 (by omega))) ((hB 9 (by omega)).trans (b0 9 (by omega)))
      refine g_aload_n q_X10_branches_104 rfl ?_
      refine g_iload q_X10_branches_105 rfl ?_
      refine g_callV (rc' := 0) (rs' := 0) (As := [_]) cs_X10_305 q_X10_branches_107 (sp_forbids hΓ hM hzB w hX p (by omega) r7 (by rw [hB 22 (by omega)]; exact r3) (by rw [hB 23 (by omega)]; exact r4) (by rw [hB 24 (by omega)]; exact r5) (by rw [hB 25 (by omega)]; exact r6)) rfl (by repeat first | with_reducible assumption | with_reducible exact hput_s _ _ _ | refine (hput_n _ _ (by omega)).trans ?_ | exact hput_s _ _ _ | assumption) rfl rfl rfl rfl (Nat.le_of_ble_eq_true rfl) (by decide) (by decide) (by decide) (fun _ _ h => h.elim) (fun v τ' hq => ?_)
      obtain ⟨rfl, a1, B', a2, a3, a4⟩ := hq
      exact nxt τ' B' _ (hE.trans a1 (fun a i => by unfold inb at *; omega)) a2 (fun k hk => (a3 k hk).trans (hB k hk)) a4 hfe
  refine g_aload_n q_X10_branches_54 rfl ?_
  refine g_get fl_X10_86 q_X10_branches_55 (by repeat first | with_reducible assumption | with_reducible exact hput_s _ _ _ | refine (hput_n _ _ (by omega)).trans ?_ | exact hput_s _ _ _ | assumption) rfl ?_
  refine g_iload q_X10_branches_58 rfl ?_
  refine g_iload_n q_X10_branches_60 rfl ?_
  refine g_iconst q_X10_branches_61 ?_
  refine g_icmp_ne (tgt := 78) q_X10_branches_62 (by decide) ⟨by omega, by omega⟩ ⟨by omega, by omega⟩ (fun b1 => ?_) (fun b1 => ?_)
  · have e : s = 0 := by omega
    subst e
    refine g_iconst q_X10_branches_78 ?_
    refine g_topi (b := fr) (by rw [hfr]; rfl) ?_
    exact go
  · have e : s = 1 := by omega
    subst e
    refine g_aload_n q_X10_branches_65 rfl ?_
    refine g_iload_n q_X10_branches_66 rfl ?_
    refine g_iload_n q_X10_branches_67 rfl ?_
    refine g_iload q_X10_branches_68 rfl ?_
    refine g_iconst q_X10_branches_70 ?_
    refine g_isub q_X10_branches_71 ?_
    refine g_topi (b := (u : Int)) (by omega) ?_
    refine g_callV (rc' := 0) (rs' := 0) (As := [_, _, _]) cs_X10_263 q_X10_branches_72 (sp_wayAt hΓ s0 s16 par c u (by omega) (by omega) (by omega)) rfl (by repeat first | with_reducible assumption | with_reducible exact hput_s _ _ _ | refine (hput_n _ _ (by omega)).trans ?_ | exact hput_s _ _ _ | assumption) rfl rfl rfl rfl (Nat.le_of_ble_eq_true rfl) (by decide) (by decide) (by decide) (fun _ _ h => h.elim) (k_ri ?_)
    refine g_topi (b := fr) (by rw [hPe _ (by omega), hfr]; rfl) ?_
    refine g_goto (tgt := 79) q_X10_branches_75 (by decide) ?_
    exact go
end BR

