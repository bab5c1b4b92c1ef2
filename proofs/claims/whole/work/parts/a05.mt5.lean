/-! the reference: a plan as it lies; wrongPlan -/
theorem TG.g {z : PS} {pn : Nat → PN} {nc par c t : Nat} {s : Int} {P C : Nat → Int} (w : WFz z) (h : TG z nc pn) (hc : c < zCa z) : TG z (gN nc (grN (lvZ z) (zPL z) (zGO z) (zCa z) pn nc par c t s P C)) (gQ pn nc (grN (lvZ z) (zPL z) (zGO z) (zCa z) pn nc par c t s P C)) := by
  cases hg : grN (lvZ z) (zPL z) (zGO z) (zCa z) pn nc par c t s P C with
  | none => exact h
  | some q =>
    intro k k0 hk
    show goW z (pCa (va_up pn nc q k)).toNat (pRw (va_up pn nc q k)) (pCo (va_up pn nc q k))
    by_cases e : k = nc
    · subst e
      rw [va_eq]
      unfold grN at hg
      simp only at hg
      split at hg
      · cases hg
      · rename_i hl
        cases hg
        exact goW_wyt w hc _ _ hl
    · rw [va_ne e]
      have : k < nc + 1 := hk
      exact h k k0 (by omega)
theorem bsK_TG {z : PS} (w : WFz z) {nc k tc : Nat} {pn : Nat → PN} (h : TI (alPZ z) (alcZ z) (zCa z) nc pn) (hG : TG z nc pn) (hk : k < nc) (hcl : pCl (pn k) ≠ 0) : TG z (bsK (lvZ z) (zPL z) (zGO z) (alPZ z) (alcZ z) (zCa z) k (nc, pn, tc)).1 (bsK (lvZ z) (zPL z) (zGO z) (alPZ z) (alcZ z) (zCa z) k (nc, pn, tc)).2.1 := by
  obtain ⟨w1, w2, w3⟩ := h.2.2.2.2.2 k hk
  rw [w1] at hcl
  obtain ⟨t, s, a, b, ht, hf⟩ := fcl_ex hcl
  have ef := fcl_eq ht hf
  have hab := hf.2.1.1
  have hbn := hf.2.1.2.1
  have eK : bsK (lvZ z) (zPL z) (zGO z) (alPZ z) (alcZ z) (zCa z) k (nc, pn, tc) = gw1 (lvZ z) (zPL z) (zGO z) (zCa z) (ndP pn (alPZ z) k) (ndC pn (alcZ z) k) k t s b (gw1 (lvZ z) (zPL z) (zGO z) (zCa z) (ndP pn (alPZ z) k) (ndC pn (alcZ z) k) k t s a (nc, va_up pn k (spN (pn k)), tc)) := by
    unfold bsK
    simp only [ef]
  rw [eK]
  obtain ⟨y, hy⟩ : ∃ y, y = gw1 (lvZ z) (zPL z) (zGO z) (zCa z) (ndP pn (alPZ z) k) (ndC pn (alcZ z) k) k t s a (nc, va_up pn k (spN (pn k)), tc) := ⟨_, rfl⟩
  have g1 : TG z y.1 y.2.1 := by
    rw [hy, gw1_g.1, gw1_g.2]
    exact (hG.split k).g w (by omega)
  rw [← hy]
  obtain ⟨ya, yb, yc⟩ := y
  rw [gw1_g.1, gw1_g.2]
  exact TG.g w g1 hbn
theorem bl_TG {z : PS} (w : WFz z) {bd : Int} : ∀ (f : Nat) (x : TS), GS (alPZ z) (alcZ z) (zCa z) x → tS x + f ≤ 302 → TG z (tN x) (tQ x) → TG z (tN (bl (lvZ z) (zPL z) (zGO z) (alPZ z) (alcZ z) (zCa z) bd f x)) (tQ (bl (lvZ z) (zPL z) (zGO z) (alPZ z) (alcZ z) (zCa z) bd f x))
  | 0, x, _, _, h => h
  | f + 1, x, hs, hf, h => by
    obtain ⟨h1, h2, h3, h4⟩ := hs
    have hlw := lwN_rg (h1.okN w.1.1.2.2)
    unfold bl
    by_cases e1 : lwN (tQ x) (tN x) = -1
    · have eb : bst (lvZ z) (zPL z) (zGO z) (alPZ z) (alcZ z) (zCa z) bd x = (false, x) := by unfold bst; rw [if_pos e1]
      rw [eb, if_neg Bool.false_ne_true]
      exact h
    · cases hc : chN (tQ x) bd (lwN (tQ x) (tN x)) (tN x) with
      | none =>
        have eb : bst (lvZ z) (zPL z) (zGO z) (alPZ z) (alcZ z) (zCa z) bd x = (false, (tN x, tS x, lwN (tQ x) (tN x), tP x, tC x, tQ x, tT x)) := by unfold bst; rw [if_neg e1, hc]
        rw [eb, if_neg Bool.false_ne_true]
        exact h
      | some k =>
        have hk := chN_lt hc
        by_cases e2 : pCl (tQ x k) = 0
        · have eb : bst (lvZ z) (zPL z) (zGO z) (alPZ z) (alcZ z) (zCa z) bd x = (false, (tN x, tS x, lwN (tQ x) (tN x), (k : Int), tC x, tQ x, tT x)) := by unfold bst; rw [if_neg e1, hc]; simp only [e2, if_true]
          rw [eb, if_neg Bool.false_ne_true]
          exact h
        · by_cases e3 : 300 ≤ tN x
          · have eb : bst (lvZ z) (zPL z) (zGO z) (alPZ z) (alcZ z) (zCa z) bd x = (false, (tN x, tS x, lwN (tQ x) (tN x), tP x, true, tQ x, tT x)) := by unfold bst; rw [if_neg e1, hc]; simp only [e2, e3, if_true, if_false]
            rw [eb, if_neg Bool.false_ne_true]
            exact h
          · have eb : bst (lvZ z) (zPL z) (zGO z) (alPZ z) (alcZ z) (zCa z) bd x = (true, ((bsK (lvZ z) (zPL z) (zGO z) (alPZ z) (alcZ z) (zCa z) k (tN x, tQ x, tT x)).1, tS x + 1, lwN (tQ x) (tN x), tP x, tC x, (bsK (lvZ z) (zPL z) (zGO z) (alPZ z) (alcZ z) (zCa z) k (tN x, tQ x, tT x)).2.1, (bsK (lvZ z) (zPL z) (zGO z) (alPZ z) (alcZ z) (zCa z) k (tN x, tQ x, tT x)).2.2)) := by unfold bst; rw [if_neg e1, hc]; simp only [e2, e3, if_false]
            rw [eb, if_pos rfl]
            have g := bsK_TI (tc := tT x) (okL_z w.1) w.1.2.2.1 w.1.2.2.2.1 (okP_alP (okL_z w.1) w.1.2.2.1 w.1.2.2.2.1 : okP (alPZ z)) h1 h2 hk (by omega) e2
            exact bl_TG w f _ ⟨g.1, g.2.1, hlw, h4⟩ (by show tS x + 1 + f ≤ 302; omega) (bsK_TG w h1 h hk e2)
theorem bZ_TG {z : PS} (w : WFz z) (ha : allZ z = true) (bd : Int) : TG z (tN (bZ z bd)) (tQ (bZ z bd)) := by
  unfold bZ bld
  rw [if_pos (show decide (∀ k, k < zCa z → alc (lvZ z) (zPL z) (zGO z) k ≠ -1) = true from ha)]
  exact bl_TG w 302 _ (GS_root (of_decide_eq_true ha)) (by show 0 + 302 ≤ 302; omega) (fun k k0 hk => absurd (show k < 1 from hk) (by omega))
/-- a plan as it lies -/
def PLd (I : Nat → Int) (A : Nat → Nat → Int) (z : PS) (bd : Int) : Prop := ∃ k : Nat, k < 302 ∧ I 35 = k ∧ allZ z = true ∧ (∀ i, i < 41 * zCa z → A 16 (205 * k + i) = pPZ z bd i) ∧ (∀ c, c < zCa z → goW z c (fun t => pPZ z bd (41 * c + t)) (pCZ z bd c)) ∧ A 19 k = sumN (pCZ z bd) (zCa z) ∧ A 19 0 = sumN (alcZ z) (zCa z) ∧ (∀ i, i < 41 * zCa z → A 16 i = alPZ z i) ∧ ccN (pPZ z bd) (zCa z) (mxN (pCZ z bd) (zCa z)).toNat = 0
theorem MTb.pl {I : Nat → Int} {A : Nat → Nat → Int} {z : PS} {bd : Int} (w : WFz z) (h : MTb I A z bd) (hp : tP (bZ z bd) ≠ -1) : PLd I A z bd := by
  obtain ⟨h34, h35, h36, h37, h38, hR⟩ := h
  rcases (show (bZ z bd = ts0 ∧ _) ∨ _ from bld_inv (bd := bd) (okL_z w.1) w.1.2.2.1 w.1.2.2.2.1 w.1.1.2.2) with ⟨e, -⟩ | ⟨ha, hG⟩
  · rw [e] at hp
    exact absurd rfl hp
  · have ha' : allZ z = true := decide_eq_true ha
    have hG : GE (alPZ z) (alcZ z) (zCa z) (bZ z bd) := hG
    obtain ⟨hTI, -, -, hk, -⟩ := hG
    obtain ⟨k, hk1, hk2, hk3⟩ := hk.resolve_left hp
    have hTG := bZ_TG w ha' bd
    obtain ⟨r0, -, r19, -, -, -, r16⟩ := hR k hk1
    obtain ⟨s0, -, s19, -, -, -, s16⟩ := hR 0 hTI.1
    obtain ⟨w1, w2, w3⟩ := hTI.2.2.2.2.2 k hk1
    obtain ⟨v1, v2, v3⟩ := hTI.2.2.2.2.2 0 hTI.1
    have eP : pPZ z bd = ndP (tQ (bZ z bd)) (alPZ z) k := by unfold pPZ; rw [hk2]; rfl
    have eC : pCZ z bd = ndC (tQ (bZ z bd)) (alcZ z) k := by unfold pCZ; rw [hk2]; rfl
    refine ⟨k, r0, by rw [h35, hk2], ha', ?_, ?_, ?_, ?_, ?_, ?_⟩
    · rw [eP]; exact r16
    · rw [eP, eC]; exact hTG.all w ha' hTI.2.2.1 k hk1
    · rw [eC, r19, w2]
    · rw [s19, v2]; rfl
    · intro i hi
      have := s16 i hi
      rw [show 205 * 0 + i = i by omega] at this
      exact this
    · rw [eP, eC, ← w1, hk3]
section WP
variable {Γ : GT} {σ : AH} {m : Nat} {I I' : Nat → Int} {A A' : Nat → Nat → Int} {N : Nat → Nat → BitVec 64} {len : Nat} {tx : Nat → Int} {fa : Int} {z : PS} {l : List (Int × Int × Int)} {wl : Nat} {wr : Nat → Int} {bd : Int}
theorem MW.ly (h : MW I A N len tx fa z l wl wr) (hF : lyF I I' A A') (hr : ∀ i, rg (A' 16 i)) (hT : MTr I' A' z) : MW I' A' N len tx fa z l wl wr := by
  obtain ⟨a1, a2, a3, a4, a5, a6, a7, -⟩ := h
  refine ⟨?_, ?_, ⟨a3.1.cg ⟨hF.1 13 (by omega), hF.1 14 (by omega), hF.1 15 (by omega)⟩ (hF.2 6 (by omega)) (hF.2 8 (by omega)) (hF.2 9 (by omega)), a3.2⟩, a4, ?_, hT, ?_, hr⟩
  · rw [hF.1 2 (by omega), hF.2 1 (by omega), hF.2 2 (by omega)]; exact a1
  · rw [hF.1 5 (by omega)]; exact a2
  · rw [hF.1 20 (by omega), hF.2 10 (by omega)]; exact a5
  · rw [hF.1 55 (by omega), hF.2 33 (by omega)]; exact a7
/-- a call of lays -/
theorem sp_laysW (hΓ : Gd Γ) (h : MC σ m I A N) (hW : MW I A N len tx fa z l wl wr) (hb : bOK bd = true) : Sp Γ miX10_lays 0 0 [.ref m, .int (ii bd)] σ (fun r σ' => r = none ∧ eqOff σ σ' (inb m 34) ∧ ∃ I' A', MC σ' m I' A' N ∧ MW I' A' N len tx fa z l wl wr ∧ lyF I I' A A' ∧ MTb I' A' z bd ∧ I' 33 = bd) noX := by
  refine Sp_cons (sp_lays hΓ h hW.2.2.1.1 hW.2.2.1.2 hW.2.2.2.2.2.2.2 hW.2.2.2.2.2.1 hb) ?_ (fun _ _ q => q)
  rintro r σ' ⟨q1, q2, I', A', q3, q4, q5, q6, q7⟩
  exact ⟨q1, eqOff.rfl'.trans q2 (fun a i => by unfold inb at *; omega), I', A', q3, hW.ly q4 q5 (q7.r hb q6), q4, q7, q6⟩
def wpQ (σ : AH) (m : Nat) (N : Nat → Nat → BitVec 64) (len : Nat) (tx : Nat → Int) (fa : Int) (z : PS) (l : List (Int × Int × Int)) (wl : Nat) (wr : Nat → Int) (e : Nat) (bd : Int) : Option Value → AH → Prop := fun r σ' => r = some (.int (ii (e : Int))) ∧ eqOff σ σ' (inb m 34) ∧ ∃ I' A', MC σ' m I' A' N ∧ MW I' A' N len tx fa z l wl wr ∧ (e = 0 → PLd I' A' z bd)
theorem sp_wrongPlan (hΓ : Gd Γ) (h : MC σ m I A N) (hW : MW I A N len tx fa z l wl wr) (g : Bool) (bd : Int) (hbd : rg bd) (n1 n2 : Nat) (h1 : 0 < n1) (h2 : 0 < n2) : Sp Γ miX10_wrongPlan 0 0 [.ref m, .int (ii (bi g)), .int (ii bd), .int (ii (n1 : Int)), .int (ii (n2 : Int))] σ (wpQ σ m N len tx fa z l wl wr (eP g bd z n1 n2) bd) noX := by
  have h0 := h.1
  have bad : (g && bOK bd) = false → G Γ miX10_wrongPlan cX10_wrongPlan (wpQ σ m N len tx fa z l wl wr (eP g bd z n1 n2) bd) noX 0 0 11 [some (.ref m), some (.int (ii (bi g))), some (.int (ii bd)), some (.int (ii (n1 : Int))), some (.int (ii (n2 : Int)))] [] σ := fun q => by
    have e : eP g bd z n1 n2 = n1 := by unfold eP; rw [if_pos q]
    refine g_iload_n q_X10_wrongPlan_11 rfl ?_
    refine g_ireturn q_X10_wrongPlan_12.1 rfl ?_
    rw [e]
    exact ⟨rfl, eqOff.rfl', I, A, h, hW, fun q => by omega⟩
  refine Sp_of (L := [_, _, _, _, _]) hΓ (by decide +kernel) rfl (Nat.le_of_ble_eq_true rfl) rfl ?_
  refine g_iload_n q_X10_wrongPlan_0 rfl ?_
  refine g_if_eq (tgt := 11) q_X10_wrongPlan_1 (by decide) (bi_rg _) (fun b1 => ?_) (fun b1 => ?_)
  · exact bad (by rw [bi_f b1]; rfl)
  have hg := bi_t b1
  refine g_iload_n q_X10_wrongPlan_4 rfl ?_
  refine g_callS (rc' := 0) (rs' := 0) (As := [_]) cs_X10_331 q_X10_wrongPlan_5 (sp_isBound hΓ bd hbd) rfl rfl rfl (Nat.le_of_ble_eq_true rfl) (by decide) (by decide) (by decide) (fun _ _ h => h.elim) (k_rb ?_)
  refine g_if_ne (tgt := 13) q_X10_wrongPlan_8 (by decide) (bi_rg _) (fun b2 => ?_) (fun b2 => ?_)
  case refine_2 => exact bad (by rw [bi_f (show bi (bOK bd) = 0 by omega), Bool.and_false])
  have hb := bi_t b2
  have hbb := of_decide_eq_true hb
  refine g_aload_n q_X10_wrongPlan_13 rfl ?_
  refine g_iload_n q_X10_wrongPlan_14 rfl ?_
  refine g_callV (rc' := 0) (rs' := 0) (As := [_]) cs_X10_334 q_X10_wrongPlan_15 (sp_laysW hΓ h hW hb) rfl (by repeat first | with_reducible assumption | with_reducible exact hput_s _ _ _ | refine (hput_n _ _ (by omega)).trans ?_ | exact hput_s _ _ _ | assumption) rfl rfl rfl rfl (Nat.le_of_ble_eq_true rfl) (by decide) (by decide) (by decide) (fun _ _ h => h.elim) (fun v τ hq => ?_)
  obtain ⟨rfl, hE, J, B, hM, hWB, hF, hT, h33⟩ := hq
  have t0 := hM.1
  have e0 : eP g bd z n1 n2 = if tP (bZ z bd) = -1 then n2 else 0 := by unfold eP; rw [if_neg (by rw [hg, hb]; decide)]
  have hpr : -1 ≤ tP (bZ z bd) ∧ tP (bZ z bd) ≤ 301 := by
    obtain ⟨q1, q2, -⟩ := bld_rg (bd := bd) (okL_z hW.2.2.1.2.1) hW.2.2.1.2.1.2.2.1 hW.2.2.1.2.1.2.2.2.1 hW.2.2.1.2.1.1.2.2
    rcases q1 with q1 | ⟨k, q3, q4⟩
    · have q1 : tP (bZ z bd) = -1 := q1
      omega
    · have q4 : tP (bZ z bd) = k := q4
      omega
  refine g_aload_n q_X10_wrongPlan_18 rfl ?_
  refine g_get fl_X10_314 q_X10_wrongPlan_19 (by repeat first | with_reducible assumption | with_reducible exact hput_s _ _ _ | refine (hput_n _ _ (by omega)).trans ?_ | exact hput_s _ _ _ | assumption) rfl ?_
  refine g_topi (b := tP (bZ z bd)) (by exact hT.2.1) ?_
  refine g_iconst q_X10_wrongPlan_22 ?_
  refine g_icmp_ne (tgt := 31) q_X10_wrongPlan_23 (by decide) ⟨by omega, by omega⟩ ⟨by omega, by omega⟩ (fun b3 => ?_) (fun b3 => ?_)
  · refine g_iconst q_X10_wrongPlan_31 ?_
    refine g_ireturn q_X10_wrongPlan_32.1 rfl ?_
    rw [e0, if_neg b3]
    exact ⟨rfl, hE, J, B, hM, hWB, fun _ => hT.pl hW.2.2.1.2 b3⟩
  · refine g_iload q_X10_wrongPlan_26 rfl ?_
    refine g_goto (tgt := 32) q_X10_wrongPlan_28 (by decide) ?_
    refine g_ireturn q_X10_wrongPlan_32.1 rfl ?_
    rw [e0, if_pos (by omega)]
    exact ⟨rfl, hE, J, B, hM, hWB, fun q => by omega⟩
/-- what was thrown is laid, behind a plan -/
theorem SM.w {J : Nat → Int} {B : Nat → Nat → Int} {τ : AH} (hE : eqOff σ τ (inb m 34)) (hM : MC τ m J B N) (hW : MW J B N len tx fa z l wl wr) (e : Nat) : SM σ m e len tx fa z l wl wr (hput τ m (mdo m (va_up J 0 e))) := ⟨⟨_, B, N, va_eq, hM.putI _, hW.I0 _⟩, hE.put ⟨by omega, by omega⟩ _⟩
theorem PLd.t {J : Nat → Int} {B : Nat → Nat → Int} (h : PLd J B z bd) (v : Int) : PLd (va_up J 0 v) B z bd := h
end WP

