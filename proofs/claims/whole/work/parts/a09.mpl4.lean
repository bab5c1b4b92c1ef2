/-! the reference: plan, node -/
/-- how far a node is from the first -/
def FO (nc : Nat) (pn : Nat → PN) : Prop := pFo (pn 0) = 0 ∧ ∀ k, 0 < k → k < nc → pFo (pn k) = pFo (pn (pPi (pn k))) + 1 ∧ pPi (pn k) < k
theorem FO.g {lv : Nat → BitVec 64} {PL GO P C : Nat → Int} {n nc par c t : Nat} {s : Int} {pn : Nat → PN} (h : FO nc pn) (hpar : par < nc) : FO (gN nc (grN lv PL GO n pn nc par c t s P C)) (gQ pn nc (grN lv PL GO n pn nc par c t s P C)) := by
  cases hg : grN lv PL GO n pn nc par c t s P C with
  | none => exact h
  | some q =>
    have hq : pPi q = par ∧ pFo q = pFo (pn par) + 1 := by
      unfold grN at hg
      simp only at hg
      split at hg
      · cases hg
      · cases hg
        exact ⟨rfl, rfl⟩
    refine ⟨by show pFo (va_up pn nc q 0) = 0; rw [va_ne (by omega)]; exact h.1, fun k k0 hk => ?_⟩
    have hk : k < nc + 1 := hk
    show pFo (va_up pn nc q k) = pFo (va_up pn nc q (pPi (va_up pn nc q k))) + 1 ∧ pPi (va_up pn nc q k) < k
    by_cases e : k = nc
    · rw [e, va_eq, hq.1, va_ne (by omega)]
      exact ⟨hq.2, hpar⟩
    · obtain ⟨q1, q2⟩ := h.2 k k0 (by omega)
      rw [va_ne e, va_ne (by omega)]
      exact ⟨q1, q2⟩
theorem FO.split {nc : Nat} {pn : Nat → PN} (h : FO nc pn) (j : Nat) : FO nc (va_up pn j (spN (pn j))) := by
  have fld : ∀ i, pPi (va_up pn j (spN (pn j)) i) = pPi (pn i) ∧ pFo (va_up pn j (spN (pn j)) i) = pFo (pn i) := fun i => by
    by_cases e : i = j
    · rw [e, va_eq]
      exact ⟨rfl, rfl⟩
    · rw [va_ne e]
      exact ⟨rfl, rfl⟩
  refine ⟨(fld 0).2.trans h.1, fun k k0 hk => ?_⟩
  rw [(fld k).1, (fld k).2, (fld _).2]
  exact h.2 k k0 hk
theorem bl_FO {z : PS} (w : WFz z) {bd : Int} : ∀ (f : Nat) (x : TS), GS (alPZ z) (alcZ z) (zCa z) x → tS x + f ≤ 302 → FO (tN x) (tQ x) → tC x = false → FO (tN (bl (lvZ z) (zPL z) (zGO z) (alPZ z) (alcZ z) (zCa z) bd f x)) (tQ (bl (lvZ z) (zPL z) (zGO z) (alPZ z) (alcZ z) (zCa z) bd f x)) ∧ (tC (bl (lvZ z) (zPL z) (zGO z) (alPZ z) (alcZ z) (zCa z) bd f x) = true → tP (bl (lvZ z) (zPL z) (zGO z) (alPZ z) (alcZ z) (zCa z) bd f x) = -1)
  | 0, x, hs, _, h, hc => ⟨h, fun q => by rw [show tC x = true from q] at hc; cases hc⟩
  | f + 1, x, hs, hf, h, hcx => by
    obtain ⟨h1, h2, h3, h4⟩ := hs
    have hlw := lwN_rg (h1.okN w.1.1.2.2)
    have nc : ∀ q : tC x = true, False := fun q => by rw [q] at hcx; cases hcx
    unfold bl
    by_cases e1 : lwN (tQ x) (tN x) = -1
    · have eb : bst (lvZ z) (zPL z) (zGO z) (alPZ z) (alcZ z) (zCa z) bd x = (false, x) := by unfold bst; rw [if_pos e1]
      rw [eb, if_neg Bool.false_ne_true]
      exact ⟨h, fun q => (nc q).elim⟩
    · cases hc : chN (tQ x) bd (lwN (tQ x) (tN x)) (tN x) with
      | none =>
        have eb : bst (lvZ z) (zPL z) (zGO z) (alPZ z) (alcZ z) (zCa z) bd x = (false, (tN x, tS x, lwN (tQ x) (tN x), tP x, tC x, tQ x, tT x)) := by unfold bst; rw [if_neg e1, hc]
        rw [eb, if_neg Bool.false_ne_true]
        exact ⟨h, fun q => (nc q).elim⟩
      | some k =>
        have hk := chN_lt hc
        by_cases e2 : pCl (tQ x k) = 0
        · have eb : bst (lvZ z) (zPL z) (zGO z) (alPZ z) (alcZ z) (zCa z) bd x = (false, (tN x, tS x, lwN (tQ x) (tN x), (k : Int), tC x, tQ x, tT x)) := by unfold bst; rw [if_neg e1, hc]; simp only [e2, if_true]
          rw [eb, if_neg Bool.false_ne_true]
          exact ⟨h, fun q => (nc q).elim⟩
        · by_cases e3 : 300 ≤ tN x
          · have eb : bst (lvZ z) (zPL z) (zGO z) (alPZ z) (alcZ z) (zCa z) bd x = (false, (tN x, tS x, lwN (tQ x) (tN x), tP x, true, tQ x, tT x)) := by unfold bst; rw [if_neg e1, hc]; simp only [e2, e3, if_true, if_false]
            rw [eb, if_neg Bool.false_ne_true]
            exact ⟨h, fun _ => h4⟩
          · have eb : bst (lvZ z) (zPL z) (zGO z) (alPZ z) (alcZ z) (zCa z) bd x = (true, ((bsK (lvZ z) (zPL z) (zGO z) (alPZ z) (alcZ z) (zCa z) k (tN x, tQ x, tT x)).1, tS x + 1, lwN (tQ x) (tN x), tP x, tC x, (bsK (lvZ z) (zPL z) (zGO z) (alPZ z) (alcZ z) (zCa z) k (tN x, tQ x, tT x)).2.1, (bsK (lvZ z) (zPL z) (zGO z) (alPZ z) (alcZ z) (zCa z) k (tN x, tQ x, tT x)).2.2)) := by unfold bst; rw [if_neg e1, hc]; simp only [e2, e3, if_false]
            rw [eb, if_pos rfl]
            have g := bsK_TI (tc := tT x) (okL_z w.1) w.1.2.2.1 w.1.2.2.2.1 (okP_alP (okL_z w.1) w.1.2.2.1 w.1.2.2.2.1 : okP (alPZ z)) h1 h2 hk (by omega) e2
            refine bl_FO w f _ ⟨g.1, g.2.1, hlw, h4⟩ (by show tS x + 1 + f ≤ 302; omega) ?_ hcx
            show FO (bsK (lvZ z) (zPL z) (zGO z) (alPZ z) (alcZ z) (zCa z) k (tN x, tQ x, tT x)).1 (bsK (lvZ z) (zPL z) (zGO z) (alPZ z) (alcZ z) (zCa z) k (tN x, tQ x, tT x)).2.1
            unfold bsK
            simp only
            obtain ⟨y, hy⟩ : ∃ y, y = gw1 (lvZ z) (zPL z) (zGO z) (zCa z) (ndP (tQ x) (alPZ z) k) (ndC (tQ x) (alcZ z) k) k (fcl (ndP (tQ x) (alPZ z) k) (zCa z) (mxN (ndC (tQ x) (alcZ z) k) (zCa z)).toNat).1 (fcl (ndP (tQ x) (alPZ z) k) (zCa z) (mxN (ndC (tQ x) (alcZ z) k) (zCa z)).toNat).2.1 (fcl (ndP (tQ x) (alPZ z) k) (zCa z) (mxN (ndC (tQ x) (alcZ z) k) (zCa z)).toNat).2.2.1 (tN x, va_up (tQ x) k (spN (tQ x k)), tT x) := ⟨_, rfl⟩
            have g1 : FO y.1 y.2.1 ∧ tN x ≤ y.1 := by
              rw [hy, gw1_g.1, gw1_g.2]
              refine ⟨(h.split k).g hk, ?_⟩
              generalize grN _ _ _ _ _ _ _ _ _ _ _ _ = o
              cases o with
              | none => exact Nat.le_refl _
              | some q => exact Nat.le_succ _
            rw [← hy]
            obtain ⟨ya, yb, yc⟩ := y
            rw [gw1_g.1, gw1_g.2]
            exact FO.g g1.1 (Nat.lt_of_lt_of_le hk g1.2)
theorem bZ_FO {z : PS} (w : WFz z) (bd : Int) : FO (tN (bZ z bd)) (tQ (bZ z bd)) ∧ (tC (bZ z bd) = true → tP (bZ z bd) = -1) := by
  by_cases ha : allZ z = true
  · unfold bZ bld
    rw [if_pos (show decide (∀ k, k < zCa z → alc (lvZ z) (zPL z) (zGO z) k ≠ -1) = true from ha)]
    exact bl_FO w 302 _ (GS_root (of_decide_eq_true ha)) (by show 0 + 302 ≤ 302; omega) ⟨rfl, fun k k0 hk => absurd (show k < 1 from hk) (by omega)⟩ rfl
  · have e : bZ z bd = ts0 := by
      unfold bZ bld
      exact if_neg ha
    rw [e]
    exact ⟨⟨rfl, fun k k0 hk => absurd hk (Nat.not_lt_zero k)⟩, fun q => by cases q⟩
theorem bZ_TI {z : PS} (w : WFz z) {bd : Int} {k : Nat} (hk : k < tN (bZ z bd)) : TI (alPZ z) (alcZ z) (zCa z) (tN (bZ z bd)) (tQ (bZ z bd)) := by
  rcases (show (bZ z bd = ts0 ∧ _) ∨ _ from bld_inv (bd := bd) (okL_z w.1) w.1.2.2.1 w.1.2.2.2.1 w.1.1.2.2) with ⟨e, -⟩ | ⟨ha, hG⟩
  · rw [e] at hk
    exact absurd hk (Nat.not_lt_zero k)
  · exact hG.1
section MPL4
variable {Γ : GT} {σ : AH} {m : Nat} {len : Nat} {tx : Nat → Int} {fa e0 : Int} {z : PS} {l : List (Int × Int × Int)} {wl : Nat} {wr : Nat → Int}
/-- the last end so far -/
def mlN (C : Nat → Int) (k : Nat) : Int := if k = 0 then -1 else mxN C k
theorem mlN_s {C : Nat → Int} {k : Nat} (h : 0 ≤ C k) (h0 : 0 ≤ mxN C k) : mlN C (k + 1) = if mlN C k < C k then C k else mlN C k := by
  unfold mlN
  rw [if_neg (by omega)]
  by_cases e : k = 0
  · subst e
    rw [if_pos rfl, if_pos (by omega)]
    show (if (0 : Int) < C 0 then C 0 else 0) = C 0
    by_cases q : (0 : Int) < C 0
    · rw [if_pos q]
    · rw [if_neg q]; omega
  · rw [if_neg e]
    rfl
set_option maxHeartbeats 1000000 in
theorem sp_mplan (hΓ : Gd Γ) (hX : MX σ m e0 len tx fa z l wl wr) (bd w : Int) (hbd : rg bd) (hw : rg w) : Sp Γ miX10_plan 0 0 [.ref m, .int (ii bd), .int (ii w)] σ (mQ (ePlan bd w) (aPlan z bd w) (SM σ m (ePlan bd w) len tx fa z l wl wr)) noX := by
  obtain ⟨I, A, N, -, h, hW⟩ := hX
  have h0 := h.1
  have hz := hW.2.2.1.1
  have wf := hW.2.2.1.2
  have n5 := wf.1.1.2.2
  have bad : ∀ e : Nat, e ≠ 0 → e < 4 → ePlan bd w = e → G Γ miX10_plan cX10_plan (mQ (ePlan bd w) (aPlan z bd w) (SM σ m (ePlan bd w) len tx fa z l wl wr)) noX 0 0 26 [some (.ref m), some (.int (ii bd)), some (.int (ii w)), none, none] [.int (ii (e : Int)), .ref m] σ := by
    intro e he he4 hE
    refine g_putM fp_X10_122 q_X10_plan_26 (by repeat first | with_reducible assumption | with_reducible exact hput_s _ _ _ | refine (hput_n _ _ (by omega)).trans ?_ | exact hput_s _ _ _ | assumption) rfl rfl mset_0 ?_
    refine g_aload_n q_X10_plan_29 rfl ?_
    refine g_get fl_X10_122 q_X10_plan_30 (by repeat first | with_reducible assumption | with_reducible exact hput_s _ _ _ | refine (hput_n _ _ (by omega)).trans ?_ | exact hput_s _ _ _ | assumption) rfl ?_
    refine g_topi (b := (e : Int)) (by rfl) ?_
    refine g_if_le (tgt := 38) q_X10_plan_33 (by decide) ⟨by omega, by omega⟩ (fun b9 => ?_) (fun b9 => ?_)
    case refine_1 => exact absurd b9 (by omega)
    refine g_iconst q_X10_plan_36 ?_
    refine g_ireturn q_X10_plan_37.1 rfl ?_
    rw [hE]
    exact ⟨by rw [if_neg he], SM.t h hW e⟩
  refine Sp_of (L := [_, _, _, _, _]) hΓ (by decide +kernel) rfl (Nat.le_of_ble_eq_true rfl) rfl ?_
  refine g_aload_n q_X10_plan_0 rfl ?_
  refine g_iload_n q_X10_plan_1 rfl ?_
  refine g_callS (rc' := 0) (rs' := 0) (As := [_]) cs_X10_331 q_X10_plan_2 (sp_isBound hΓ bd hbd) rfl rfl rfl (Nat.le_of_ble_eq_true rfl) (by decide) (by decide) (by decide) (fun _ _ h => h.elim) (k_rb ?_)
  refine g_if_ne (tgt := 12) q_X10_plan_5 (by decide) (bi_rg _) (fun b1 => ?_) (fun b1 => ?_)
  case refine_2 =>
    have q := bi_f (show bi (bOK bd) = 0 by omega)
    refine g_iconst q_X10_plan_8 ?_
    refine g_goto (tgt := 26) q_X10_plan_9 (by decide) ?_
    exact bad 1 (by decide) (by decide) (by unfold ePlan; rw [if_pos q])
  have hb := bi_t b1
  refine g_iload_n q_X10_plan_12 rfl ?_
  refine g_iconst q_X10_plan_13 ?_
  refine g_iconst q_X10_plan_14 ?_
  refine g_callS (rc' := 0) (rs' := 0) (As := [_, _, _]) cs_X10_229 q_X10_plan_15 (sp_isIn hΓ w 0 5 hw ⟨by decide, by decide⟩ ⟨by decide, by decide⟩) rfl rfl rfl (Nat.le_of_ble_eq_true rfl) (by decide) (by decide) (by decide) (fun _ _ h => h.elim) (k_rb ?_)
  refine g_if_ne (tgt := 25) q_X10_plan_18 (by decide) (bi_rg _) (fun b2 => ?_) (fun b2 => ?_)
  case refine_2 =>
    have q := of_decide_eq_false (bi_f (show bi (decide (0 ≤ w ∧ w ≤ 5)) = 0 by omega))
    refine g_iconst q_X10_plan_21 ?_
    refine g_goto (tgt := 26) q_X10_plan_22 (by decide) ?_
    exact bad 2 (by decide) (by decide) (by unfold ePlan; rw [if_neg (by rw [hb]; decide), if_neg q])
  have hw5 := of_decide_eq_true (bi_t b2)
  have eE : ePlan bd w = 0 := by unfold ePlan; rw [if_neg (by rw [hb]; decide), if_pos hw5]
  rw [eE]
  clear bad
  refine g_iconst q_X10_plan_25 ?_
  refine g_putM fp_X10_122 q_X10_plan_26 (by repeat first | with_reducible assumption | with_reducible exact hput_s _ _ _ | refine (hput_n _ _ (by omega)).trans ?_ | exact hput_s _ _ _ | assumption) rfl rfl mset_0 ?_
  refine g_aload_n q_X10_plan_29 rfl ?_
  refine g_get fl_X10_122 q_X10_plan_30 (by repeat first | with_reducible assumption | with_reducible exact hput_s _ _ _ | refine (hput_n _ _ (by omega)).trans ?_ | exact hput_s _ _ _ | assumption) rfl ?_
  refine g_topi (b := (0 : Int)) (by rfl) ?_
  refine g_if_le (tgt := 38) q_X10_plan_33 (by decide) ⟨by omega, by omega⟩ (fun b3 => ?_) (fun b3 => ?_)
  case refine_2 => exact absurd b3 (by decide)
  have hM1 := h.putI (va_up I 0 ((0 : Nat) : Int))
  have hE1 : eqOff σ (hput σ m (mdo m (va_up I 0 ((0 : Nat) : Int)))) (inb m 34) := eqOff.rfl'.put ⟨by omega, by omega⟩ _
  obtain ⟨τ1, hτ1⟩ : ∃ τ1, τ1 = hput σ m (mdo m (va_up I 0 ((0 : Nat) : Int))) := ⟨_, rfl⟩
  refine g_eq (σ2 := τ1) rfl rfl hτ1.symm ?_
  rw [← hτ1] at hM1 hE1
  clear hτ1
  have t0 := hM1.1
  refine g_aload_n q_X10_plan_38 rfl ?_
  refine g_iload_n q_X10_plan_39 rfl ?_
  refine g_callV (rc' := 0) (rs' := 0) (As := [_]) cs_X10_334 q_X10_plan_40 (sp_laysW hΓ hM1 (hW.I0 _) hb) rfl (by repeat first | with_reducible assumption | with_reducible exact hput_s _ _ _ | refine (hput_n _ _ (by omega)).trans ?_ | exact hput_s _ _ _ | assumption) rfl rfl rfl rfl (Nat.le_of_ble_eq_true rfl) (by decide) (by decide) (by decide) (fun _ _ h => h.elim) (fun v τ hq => ?_)
  obtain ⟨rfl, hE, J, B, hM, hWB, hF, hT, h33⟩ := hq
  have hS : SM σ m 0 len tx fa z l wl wr τ := ⟨⟨J, B, N, hF.1 0 (by omega), hM, hWB⟩, hE1.trans hE (fun _ i => i)⟩
  clear hM1 hE1 t0 hE
  have hpr := bld_rg (bd := bd) (okL_z wf.1) wf.1.2.2.1 wf.1.2.2.2.1 n5
  have hpr : (tP (bZ z bd) = -1 ∨ ∃ k : Nat, k < tN (bZ z bd) ∧ tP (bZ z bd) = k) ∧ tN (bZ z bd) ≤ 301 ∧ _ := hpr
  have hcut := (bZ_FO wf bd).2
  have u0 := hM.1
  have u16 := hM.a16
  have u19 := hM.a19
  have j15 : J 15 = zCa z := hWB.2.2.1.1.1.2.2
  have hrB := hWB.2.2.2.2.2.2.2
  obtain ⟨k34, k35, k36, k37, k38, -⟩ := id hT
  unfold mQ
  rw [if_pos rfl]
  have fin : ∀ (la : Int) (l4 : Option Value), la = (if tP (bZ z bd) ≠ -1 ∧ 0 < zCa z then mxN (pCZ z bd) (zCa z) else -1) → G Γ miX10_plan cX10_plan (fun r σ' => r = some (.int (ii (aPlan z bd w))) ∧ SM σ m 0 len tx fa z l wl wr σ') noX 0 0 100 [some (.ref m), some (.int (ii bd)), some (.int (ii w)), some (.int (ii la)), l4] [] τ := by
    intro la l4 hla
    refine g_fl (L2 := [some (.ref m), some (.int (ii bd)), some (.int (ii w)), some (.int (ii la)), none]) ?_ ⟨rfl, rfl, rfl, rfl, trivial⟩
    have : w = 0 ∨ w = 1 ∨ w = 2 ∨ w = 3 ∨ w = 4 ∨ w = 5 := by omega
    clear hw5 b2 eE hw
    rcases this with q | q | q | q | q | q <;> subst q
    · refine g_iload_n q_X10_plan_100 rfl ?_
      refine g_tswIn (off := 35) (tgt := 136) q_X10_plan_101 ⟨by decide, by decide⟩ (by decide) (by decide) rfl (by decide) ?_
      refine g_aload_n q_X10_plan_136 rfl ?_
      refine g_get fl_X10_320 q_X10_plan_137 (by repeat first | with_reducible assumption | with_reducible exact hput_s _ _ _ | refine (hput_n _ _ (by omega)).trans ?_ | exact hput_s _ _ _ | assumption) rfl ?_
      refine g_topi (b := bi (tC (bZ z bd))) (by exact k38) ?_
      refine g_if_eq (tgt := 148) q_X10_plan_140 (by decide) (bi_rg _) (fun b4 => ?_) (fun b4 => ?_)
      case refine_2 =>
        have hc := bi_t b4
        refine g_bipush q_X10_plan_143 bp_m2 ?_
        refine g_goto (tgt := 169) q_X10_plan_145 (by decide) ?_
        refine g_ireturn q_X10_plan_169.1 rfl ?_
        refine ⟨?_, hS⟩
        unfold aPlan
        rw [if_pos rfl, if_neg (fun q => q (hcut hc)), if_pos hc]
      have hc := bi_f (show bi (tC (bZ z bd)) = 0 by omega)
      refine g_aload_n q_X10_plan_148 rfl ?_
      refine g_get fl_X10_314 q_X10_plan_149 (by repeat first | with_reducible assumption | with_reducible exact hput_s _ _ _ | refine (hput_n _ _ (by omega)).trans ?_ | exact hput_s _ _ _ | assumption) rfl ?_
      refine g_topi (b := tP (bZ z bd)) (by exact k35) ?_
      refine g_iconst q_X10_plan_152 ?_
      refine g_icmp_ne (tgt := 160) q_X10_plan_153 (by decide) (by rcases hpr.1 with q | ⟨k, q1, q2⟩ <;> exact ⟨by omega, by omega⟩) ⟨by omega, by omega⟩ (fun b5 => ?_) (fun b5 => ?_)
      case refine_2 =>
        refine g_iconst q_X10_plan_156 ?_
        refine g_goto (tgt := 169) q_X10_plan_157 (by decide) ?_
        refine g_ireturn q_X10_plan_169.1 rfl ?_
        refine ⟨?_, hS⟩
        unfold aPlan
        rw [if_pos rfl, if_neg (fun q => q (by omega)), if_neg (by rw [hc]; decide)]
      obtain ⟨kp, hkp, j35, ha, hrow, hgo, hsum, hsum0, hrow0, hcc⟩ := hT.pl wf b5
      refine g_aload_n q_X10_plan_160 rfl ?_
      refine g_get fl_X10_74 q_X10_plan_161 (by repeat first | with_reducible assumption | with_reducible exact hput_s _ _ _ | refine (hput_n _ _ (by omega)).trans ?_ | exact hput_s _ _ _ | assumption) rfl ?_
      refine g_aload_n q_X10_plan_164 rfl ?_
      refine g_get fl_X10_314 q_X10_plan_165 (by repeat first | with_reducible assumption | with_reducible exact hput_s _ _ _ | refine (hput_n _ _ (by omega)).trans ?_ | exact hput_s _ _ _ | assumption) rfl ?_
      refine g_topi (b := (kp : Int)) (by exact j35) ?_
      refine g_iaload q_X10_plan_168 (by repeat first | with_reducible assumption | with_reducible exact hput_s _ _ _ | refine (hput_n _ _ (by omega)).trans ?_ | exact hput_s _ _ _ | assumption) (by omega) (by omega) ?_
      refine g_topi (b := sumN (pCZ z bd) (zCa z)) (by exact hsum) ?_
      refine g_ireturn q_X10_plan_169.1 rfl ?_
      refine ⟨?_, hS⟩
      unfold aPlan
      rw [if_pos rfl, if_pos b5]
    · refine g_iload_n q_X10_plan_100 rfl ?_
      refine g_tswIn (off := 69) (tgt := 170) q_X10_plan_101 ⟨by decide, by decide⟩ (by decide) (by decide) rfl (by decide) ?_
      refine g_aload_n q_X10_plan_170 rfl ?_
      refine g_get fl_X10_302 q_X10_plan_171 (by repeat first | with_reducible assumption | with_reducible exact hput_s _ _ _ | refine (hput_n _ _ (by omega)).trans ?_ | exact hput_s _ _ _ | assumption) rfl ?_
      refine g_ireturn q_X10_plan_174.1 rfl ?_
      rw [k34]
      exact ⟨rfl, hS⟩
    · refine g_iload_n q_X10_plan_100 rfl ?_
      refine g_tswIn (off := 74) (tgt := 175) q_X10_plan_101 ⟨by decide, by decide⟩ (by decide) (by decide) rfl (by decide) ?_
      refine g_aload_n q_X10_plan_175 rfl ?_
      refine g_get fl_X10_317 q_X10_plan_176 (by repeat first | with_reducible assumption | with_reducible exact hput_s _ _ _ | refine (hput_n _ _ (by omega)).trans ?_ | exact hput_s _ _ _ | assumption) rfl ?_
      refine g_ireturn q_X10_plan_179.1 rfl ?_
      rw [k37]
      exact ⟨rfl, hS⟩
    · refine g_iload_n q_X10_plan_100 rfl ?_
      refine g_tswIn (off := 79) (tgt := 180) q_X10_plan_101 ⟨by decide, by decide⟩ (by decide) (by decide) rfl (by decide) ?_
      refine g_iload_n q_X10_plan_180 rfl ?_
      refine g_ireturn q_X10_plan_181.1 rfl ?_
      rw [hla]
      exact ⟨rfl, hS⟩
    · refine g_iload_n q_X10_plan_100 rfl ?_
      refine g_tswIn (off := 81) (tgt := 182) q_X10_plan_101 ⟨by decide, by decide⟩ (by decide) (by decide) rfl (by decide) ?_
      refine g_aload_n q_X10_plan_182 rfl ?_
      refine g_get fl_X10_311 q_X10_plan_183 (by repeat first | with_reducible assumption | with_reducible exact hput_s _ _ _ | refine (hput_n _ _ (by omega)).trans ?_ | exact hput_s _ _ _ | assumption) rfl ?_
      refine g_ireturn q_X10_plan_186.1 rfl ?_
      rw [k36]
      exact ⟨rfl, hS⟩
    · refine g_iload_n q_X10_plan_100 rfl ?_
      refine g_tswOut (tgt := 187) q_X10_plan_101 ⟨by decide, by decide⟩ (Or.inr (by decide)) (by decide) ?_
      refine g_aload_n q_X10_plan_187 rfl ?_
      refine g_get fl_X10_314 q_X10_plan_188 (by repeat first | with_reducible assumption | with_reducible exact hput_s _ _ _ | refine (hput_n _ _ (by omega)).trans ?_ | exact hput_s _ _ _ | assumption) rfl ?_
      refine g_ireturn q_X10_plan_191.1 rfl ?_
      rw [k35]
      exact ⟨rfl, hS⟩
  by_cases hp : tP (bZ z bd) = -1
  · refine g_iconst q_X10_plan_43 ?_
    refine g_istore_n (L' := [_, _, _, _, _]) q_X10_plan_44 (by decide) rfl ?_
    refine g_iconst q_X10_plan_45 ?_
    refine g_istore (L' := [_, _, _, _, _]) q_X10_plan_46 (by decide) rfl ?_
    refine g_iload q_X10_plan_48 rfl ?_
    refine g_aload_n q_X10_plan_50 rfl ?_
    refine g_get fl_X10_220 q_X10_plan_51 (by repeat first | with_reducible assumption | with_reducible exact hput_s _ _ _ | refine (hput_n _ _ (by omega)).trans ?_ | exact hput_s _ _ _ | assumption) rfl ?_
    refine g_topi (b := (zCa z : Int)) (by exact j15) ?_
    refine g_icmp_ge (tgt := 100) q_X10_plan_54 (by decide) ⟨by omega, by omega⟩ ⟨by omega, by omega⟩ (fun b4 => ?_) (fun b4 => ?_)
    · exact fin _ _ (by rw [if_neg (fun q => q.1 hp)])
    refine g_aload_n q_X10_plan_57 rfl ?_
    refine g_get fl_X10_314 q_X10_plan_58 (by repeat first | with_reducible assumption | with_reducible exact hput_s _ _ _ | refine (hput_n _ _ (by omega)).trans ?_ | exact hput_s _ _ _ | assumption) rfl ?_
    refine g_topi (b := tP (bZ z bd)) (by exact k35) ?_
    refine g_iconst q_X10_plan_61 ?_
    refine g_icmp_eq (tgt := 100) q_X10_plan_62 (by decide) (by rw [hp]; exact ⟨by decide, by decide⟩) ⟨by omega, by omega⟩ (fun b5 => ?_) (fun b5 => ?_)
    · exact fin _ _ (by rw [if_neg (fun q => q.1 hp)])
    · exact absurd hp b5
  obtain ⟨kp, hkp, j35, ha, hrow, hgo, hsum, hsum0, hrow0, hcc⟩ := hT.pl wf hp
  obtain ⟨P, hP⟩ : ∃ P, P = pPZ z bd := ⟨_, rfl⟩
  obtain ⟨C, hC⟩ : ∃ C, C = pCZ z bd := ⟨_, rfl⟩
  rw [← hP] at hrow
  rw [← hP, ← hC] at hgo
  rw [← hC] at fin
  have hct : ∀ c, c < zCa z → (ctN (fun t => B 16 (205 * kp + (41 * c + t))) 40 : Int) = C c := fun c hc => by
    rw [ctN_cg (g := fun t => P (41 * c + t)) (fun t ht => hrow _ (by omega)) 40 (Nat.le_refl _)]
    exact (hgo c hc).2.2.2.2.1
  refine g_iconst q_X10_plan_43 ?_
  refine g_istore_n (L' := [_, _, _, _, _]) q_X10_plan_44 (by decide) rfl ?_
  refine g_iconst q_X10_plan_45 ?_
  refine g_istore (L' := [_, _, _, _, _]) q_X10_plan_46 (by decide) rfl ?_
  refine g_loop (fun k => k ≤ zCa z) (fun k : Nat => G Γ _ cX10_plan _ _ 0 0 48 [some (.ref m), some (.int (ii bd)), some (.int (ii w)), some (.int (ii (mlN C k))), some (.int (ii k))] [] τ) (fun k => zCa z - k) ?_ 0 (Nat.zero_le _)
  intro k hk1 ih
  have hmr := mxN_rg (C := C) (b := 40) (by decide) (n := k) (fun j hj => (hgo j (by omega)).2.2.1)
  have hlr : -1 ≤ mlN C k ∧ mlN C k ≤ 40 := by unfold mlN; split <;> omega
  refine g_iload q_X10_plan_48 rfl ?_
  refine g_aload_n q_X10_plan_50 rfl ?_
  refine g_get fl_X10_220 q_X10_plan_51 (by repeat first | with_reducible assumption | with_reducible exact hput_s _ _ _ | refine (hput_n _ _ (by omega)).trans ?_ | exact hput_s _ _ _ | assumption) rfl ?_
  refine g_topi (b := (zCa z : Int)) (by exact j15) ?_
  refine g_icmp_ge (tgt := 100) q_X10_plan_54 (by decide) ⟨by omega, by omega⟩ ⟨by omega, by omega⟩ (fun b4 => ?_) (fun b4 => ?_)
  · have e : k = zCa z := by omega
    subst e
    refine fin _ _ ?_
    unfold mlN
    by_cases q : zCa z = 0
    · rw [if_pos q, if_neg (fun q2 => by omega)]
    · rw [if_neg q, if_pos ⟨hp, by omega⟩]
  have hnx := ih (k + 1) (by omega) (by omega)
  have hgk := hgo k (by omega)
  have hCk : 0 ≤ C k ∧ C k ≤ 40 := ⟨hgk.2.1, hgk.2.2.1⟩
  rw [mlN_s hCk.1 hmr.1] at hnx
  refine g_aload_n q_X10_plan_57 rfl ?_
  refine g_get fl_X10_314 q_X10_plan_58 (by repeat first | with_reducible assumption | with_reducible exact hput_s _ _ _ | refine (hput_n _ _ (by omega)).trans ?_ | exact hput_s _ _ _ | assumption) rfl ?_
  refine g_topi (b := (kp : Int)) (by exact j35) ?_
  refine g_iconst q_X10_plan_61 ?_
  refine g_icmp_eq (tgt := 100) q_X10_plan_62 (by decide) ⟨by omega, by omega⟩ ⟨by omega, by omega⟩ (fun b5 => ?_) (fun b5 => ?_)
  · exact absurd b5 (by omega)
  refine g_aload_n q_X10_plan_65 rfl ?_
  refine g_aload_n q_X10_plan_66 rfl ?_
  refine g_get fl_X10_314 q_X10_plan_67 (by repeat first | with_reducible assumption | with_reducible exact hput_s _ _ _ | refine (hput_n _ _ (by omega)).trans ?_ | exact hput_s _ _ _ | assumption) rfl ?_
  refine g_topi (b := (kp : Int)) (by exact j35) ?_
  refine g_iload q_X10_plan_70 rfl ?_
  refine g_callV (rc' := 0) (rs' := 0) (As := [_, _]) cs_X10_287 q_X10_plan_72 (sp_costAt hΓ u0 u16 hrB kp k (by omega) (by omega)) rfl (by repeat first | with_reducible assumption | with_reducible exact hput_s _ _ _ | refine (hput_n _ _ (by omega)).trans ?_ | exact hput_s _ _ _ | assumption) rfl rfl rfl rfl (Nat.le_of_ble_eq_true rfl) (by decide) (by decide) (by decide) (fun _ _ h => h.elim) (k_ri ?_)
  refine g_topi (b := C k) (hct k (by omega)) ?_
  refine g_iload_n q_X10_plan_75 rfl ?_
  refine g_icmp_le (tgt := 92) q_X10_plan_76 (by decide) ⟨by omega, by omega⟩ ⟨by omega, by omega⟩ (fun b6 => ?_) (fun b6 => ?_)
  · rw [if_neg (by omega)] at hnx
    refine g_iload_n q_X10_plan_92 rfl ?_
    refine g_istore_n (L' := [_, _, _, _, _]) q_X10_plan_93 (by decide) rfl ?_
    refine g_iinc (L' := [_, _, _, _, _]) q_X10_plan_94 rfl rfl ?_
    refine g_goto (tgt := 48) q_X10_plan_97 (by decide) ?_
    exact hnx
  · rw [if_pos (by omega)] at hnx
    refine g_aload_n q_X10_plan_79 rfl ?_
    refine g_aload_n q_X10_plan_80 rfl ?_
    refine g_get fl_X10_314 q_X10_plan_81 (by repeat first | with_reducible assumption | with_reducible exact hput_s _ _ _ | refine (hput_n _ _ (by omega)).trans ?_ | exact hput_s _ _ _ | assumption) rfl ?_
    refine g_topi (b := (kp : Int)) (by exact j35) ?_
    refine g_iload q_X10_plan_84 rfl ?_
    refine g_callV (rc' := 0) (rs' := 0) (As := [_, _]) cs_X10_287 q_X10_plan_86 (sp_costAt hΓ u0 u16 hrB kp k (by omega) (by omega)) rfl (by repeat first | with_reducible assumption | with_reducible exact hput_s _ _ _ | refine (hput_n _ _ (by omega)).trans ?_ | exact hput_s _ _ _ | assumption) rfl rfl rfl rfl (Nat.le_of_ble_eq_true rfl) (by decide) (by decide) (by decide) (fun _ _ h => h.elim) (k_ri ?_)
    refine g_topi (b := C k) (hct k (by omega)) ?_
    refine g_goto (tgt := 93) q_X10_plan_89 (by decide) ?_
    refine g_istore_n (L' := [_, _, _, _, _]) q_X10_plan_93 (by decide) rfl ?_
    refine g_iinc (L' := [_, _, _, _, _]) q_X10_plan_94 rfl rfl ?_
    refine g_goto (tgt := 48) q_X10_plan_97 (by decide) ?_
    exact hnx
theorem sp_mnode (hΓ : Gd Γ) (hX : MX σ m e0 len tx fa z l wl wr) (bd k w : Int) (hbd : rg bd) (hk : rg k) (hw : rg w) : Sp Γ miX10_node 0 0 [.ref m, .int (ii bd), .int (ii k), .int (ii w)] σ (mQ (eNode z bd k w) (aNode z bd k.toNat w) (SM σ m (eNode z bd k w) len tx fa z l wl wr)) noX := by
  obtain ⟨I, A, N, -, h, hW⟩ := hX
  have h0 := h.1
  have hz := hW.2.2.1.1
  have wf := hW.2.2.1.2
  have n5 := wf.1.1.2.2
  refine Sp_of (L := [_, _, _, _, _, _]) hΓ (by decide +kernel) rfl (Nat.le_of_ble_eq_true rfl) rfl ?_
  refine g_aload_n q_X10_node_0 rfl ?_
  refine g_iload_n q_X10_node_1 rfl ?_
  refine g_callS (rc' := 0) (rs' := 0) (As := [_]) cs_X10_331 q_X10_node_2 (sp_isBound hΓ bd hbd) rfl rfl rfl (Nat.le_of_ble_eq_true rfl) (by decide) (by decide) (by decide) (fun _ _ h => h.elim) (k_rb ?_)
  refine g_if_eq (tgt := 12) q_X10_node_5 (by decide) (bi_rg _) (fun b1 => ?_) (fun b1 => ?_)
  · have q := bi_f b1
    have eE : eNode z bd k w = 1 := by unfold eNode; rw [if_pos q]
    refine g_iconst q_X10_node_12 ?_
    refine g_putM fp_X10_122 q_X10_node_13 (by repeat first | with_reducible assumption | with_reducible exact hput_s _ _ _ | refine (hput_n _ _ (by omega)).trans ?_ | exact hput_s _ _ _ | assumption) rfl rfl mset_0 ?_
    refine g_aload_n q_X10_node_16 rfl ?_
    refine g_get fl_X10_122 q_X10_node_17 (by repeat first | with_reducible assumption | with_reducible exact hput_s _ _ _ | refine (hput_n _ _ (by omega)).trans ?_ | exact hput_s _ _ _ | assumption) rfl ?_
    refine g_topi (b := (1 : Int)) (by rfl) ?_
    refine g_if_le (tgt := 25) q_X10_node_20 (by decide) ⟨by omega, by omega⟩ (fun b2 => ?_) (fun b2 => ?_)
    case refine_1 => exact absurd b2 (by decide)
    refine g_iconst q_X10_node_23 ?_
    refine g_ireturn q_X10_node_24.1 rfl ?_
    rw [eE]
    exact ⟨rfl, SM.t h hW 1⟩
  have hb := bi_t b1
  have eE : eNode z bd k w = if (0 ≤ k ∧ k < tN (bZ z bd)) ∧ (0 ≤ w ∧ w ≤ 5) then 0 else 2 := by unfold eNode; rw [if_neg (by rw [hb]; decide)]
  refine g_iconst q_X10_node_8 ?_
  refine g_goto (tgt := 13) q_X10_node_9 (by decide) ?_
  refine g_putM fp_X10_122 q_X10_node_13 (by repeat first | with_reducible assumption | with_reducible exact hput_s _ _ _ | refine (hput_n _ _ (by omega)).trans ?_ | exact hput_s _ _ _ | assumption) rfl rfl mset_0 ?_
  refine g_aload_n q_X10_node_16 rfl ?_
  refine g_get fl_X10_122 q_X10_node_17 (by repeat first | with_reducible assumption | with_reducible exact hput_s _ _ _ | refine (hput_n _ _ (by omega)).trans ?_ | exact hput_s _ _ _ | assumption) rfl ?_
  refine g_topi (b := (0 : Int)) (by rfl) ?_
  refine g_if_le (tgt := 25) q_X10_node_20 (by decide) ⟨by omega, by omega⟩ (fun b3 => ?_) (fun b3 => ?_)
  case refine_2 => exact absurd b3 (by decide)
  have hM1 := h.putI (va_up I 0 ((0 : Nat) : Int))
  have hE1 : eqOff σ (hput σ m (mdo m (va_up I 0 ((0 : Nat) : Int)))) (inb m 34) := eqOff.rfl'.put ⟨by omega, by omega⟩ _
  obtain ⟨τ1, hτ1⟩ : ∃ τ1, τ1 = hput σ m (mdo m (va_up I 0 ((0 : Nat) : Int))) := ⟨_, rfl⟩
  refine g_eq (σ2 := τ1) rfl rfl hτ1.symm ?_
  rw [← hτ1] at hM1 hE1
  clear hτ1
  have t0 := hM1.1
  refine g_aload_n q_X10_node_25 rfl ?_
  refine g_iload_n q_X10_node_26 rfl ?_
  refine g_callV (rc' := 0) (rs' := 0) (As := [_]) cs_X10_334 q_X10_node_27 (sp_laysW hΓ hM1 (hW.I0 _) hb) rfl (by repeat first | with_reducible assumption | with_reducible exact hput_s _ _ _ | refine (hput_n _ _ (by omega)).trans ?_ | exact hput_s _ _ _ | assumption) rfl rfl rfl rfl (Nat.le_of_ble_eq_true rfl) (by decide) (by decide) (by decide) (fun _ _ h => h.elim) (fun v τ hq => ?_)
  obtain ⟨rfl, hE, J, B, hM, hWB, hF, hT, h33⟩ := hq
  have hE : eqOff σ τ (inb m 34) := hE1.trans hE (fun _ i => i)
  have j0 : J 0 = ((0 : Nat) : Int) := hF.1 0 (by omega)
  have hS : SM σ m 0 len tx fa z l wl wr τ := ⟨⟨J, B, N, j0, hM, hWB⟩, hE⟩
  clear hM1 hE1 t0
  have hpr := bld_rg (bd := bd) (okL_z wf.1) wf.1.2.2.1 wf.1.2.2.2.1 n5
  have hpr : (tP (bZ z bd) = -1 ∨ ∃ k : Nat, k < tN (bZ z bd) ∧ tP (bZ z bd) = k) ∧ tN (bZ z bd) ≤ 301 ∧ _ := hpr
  have n301 := hpr.2.1
  have hFO := (bZ_FO wf bd).1
  have u0 := hM.1
  have u18 := hM.a18
  have u19 := hM.a19
  have u20 := hM.a20
  have u21 := hM.a21
  have u26 := hM.a26
  obtain ⟨k34, k35, k36, k37, k38, hR⟩ := id hT
  have bad : ¬ ((0 ≤ k ∧ k < tN (bZ z bd)) ∧ (0 ≤ w ∧ w ≤ 5)) → G Γ miX10_node cX10_node (mQ (eNode z bd k w) (aNode z bd k.toNat w) (SM σ m (eNode z bd k w) len tx fa z l wl wr)) noX 0 0 53 [some (.ref m), some (.int (ii bd)), some (.int (ii k)), some (.int (ii w)), none, none] [] τ := fun q => by
    rw [if_neg q] at eE
    refine g_aload_n q_X10_node_53 rfl ?_
    refine g_iconst q_X10_node_54 ?_
    refine g_putM fp_X10_122 q_X10_node_55 (by repeat first | with_reducible assumption | with_reducible exact hput_s _ _ _ | refine (hput_n _ _ (by omega)).trans ?_ | exact hput_s _ _ _ | assumption) rfl rfl mset_0 ?_
    refine g_aload_n q_X10_node_58 rfl ?_
    refine g_get fl_X10_122 q_X10_node_59 (by repeat first | with_reducible assumption | with_reducible exact hput_s _ _ _ | refine (hput_n _ _ (by omega)).trans ?_ | exact hput_s _ _ _ | assumption) rfl ?_
    refine g_topi (b := (2 : Int)) (by rfl) ?_
    refine g_if_le (tgt := 67) q_X10_node_62 (by decide) ⟨by omega, by omega⟩ (fun b9 => ?_) (fun b9 => ?_)
    case refine_1 => exact absurd b9 (by decide)
    refine g_iconst q_X10_node_65 ?_
    refine g_ireturn q_X10_node_66.1 rfl ?_
    rw [eE]
    exact ⟨rfl, SM.w hE hM hWB 2⟩
  refine g_iload_n q_X10_node_30 rfl ?_
  refine g_iconst q_X10_node_31 ?_
  refine g_aload_n q_X10_node_32 rfl ?_
  refine g_get fl_X10_302 q_X10_node_33 (by repeat first | with_reducible assumption | with_reducible exact hput_s _ _ _ | refine (hput_n _ _ (by omega)).trans ?_ | exact hput_s _ _ _ | assumption) rfl ?_
  refine g_topi (b := (tN (bZ z bd) : Int)) (by exact k34) ?_
  refine g_iconst q_X10_node_36 ?_
  refine g_isub q_X10_node_37 ?_
  refine g_callS (rc' := 0) (rs' := 0) (As := [_, _, _]) cs_X10_229 q_X10_node_38 (sp_isIn hΓ k 0 ((tN (bZ z bd) : Int) - 1) hk ⟨by decide, by decide⟩ ⟨by omega, by omega⟩) rfl rfl rfl (Nat.le_of_ble_eq_true rfl) (by decide) (by decide) (by decide) (fun _ _ h => h.elim) (k_rb ?_)
  refine g_if_eq (tgt := 53) q_X10_node_41 (by decide) (bi_rg _) (fun b4 => ?_) (fun b4 => ?_)
  · have q := of_decide_eq_false (bi_f b4)
    exact bad (by omega)
  have q4 := of_decide_eq_true (bi_t b4)
  refine g_iload_n q_X10_node_44 rfl ?_
  refine g_iconst q_X10_node_45 ?_
  refine g_iconst q_X10_node_46 ?_
  refine g_callS (rc' := 0) (rs' := 0) (As := [_, _, _]) cs_X10_229 q_X10_node_47 (sp_isIn hΓ w 0 5 hw ⟨by decide, by decide⟩ ⟨by decide, by decide⟩) rfl rfl rfl (Nat.le_of_ble_eq_true rfl) (by decide) (by decide) (by decide) (fun _ _ h => h.elim) (k_rb ?_)
  refine g_if_ne (tgt := 58) q_X10_node_50 (by decide) (bi_rg _) (fun b5 => ?_) (fun b5 => ?_)
  case refine_2 =>
    have q := of_decide_eq_false (bi_f (show bi (decide (0 ≤ w ∧ w ≤ 5)) = 0 by omega))
    exact bad (by omega)
  have q5 := of_decide_eq_true (bi_t b5)
  clear bad
  rw [if_pos (by omega)] at eE
  rw [eE]
  unfold mQ
  rw [if_pos rfl]
  obtain ⟨j, hj⟩ : ∃ j : Nat, k = j := ⟨k.toNat, by omega⟩
  subst hj
  rw [Int.toNat_natCast]
  have hjn : j < tN (bZ z bd) := by omega
  obtain ⟨r0, r18, r19, r20, r21, r26, -⟩ := hR j hjn
  have hTI := bZ_TI wf hjn
  have hFr := hTI.2.2.2.1
  refine g_aload_n q_X10_node_58 rfl ?_
  refine g_get fl_X10_122 q_X10_node_59 (by repeat first | with_reducible assumption | with_reducible exact hput_s _ _ _ | refine (hput_n _ _ (by omega)).trans ?_ | exact hput_s _ _ _ | assumption) rfl ?_
  refine g_topi (b := (0 : Int)) (by exact j0) ?_
  refine g_if_le (tgt := 67) q_X10_node_62 (by decide) ⟨by omega, by omega⟩ (fun b6 => ?_) (fun b6 => ?_)
  case refine_2 => exact absurd b6 (by decide)
  refine g_iconst q_X10_node_67 ?_
  refine g_istore (L' := [_, _, _, _, _, _]) q_X10_node_68 (by decide) rfl ?_
  refine g_iload_n q_X10_node_70 rfl ?_
  refine g_istore (L' := [_, _, _, _, _, _]) q_X10_node_71 (by decide) rfl ?_
  obtain ⟨pn, hpn⟩ : ∃ pn, pn = tQ (bZ z bd) := ⟨_, rfl⟩
  obtain ⟨nc, hnc⟩ : ∃ nc, nc = tN (bZ z bd) := ⟨_, rfl⟩
  rw [← hnc, ← hpn] at hFO hFr hR
  rw [← hnc] at hjn
  have rFo : ∀ p, p < nc → 0 ≤ pFo (pn p) ∧ pFo (pn p) ≤ 301 := fun p hp => by
    have := hFr p hp
    omega
  refine g_eq (L2 := [some (.ref m), some (.int (ii bd)), some (.int (ii (j : Int))), some (.int (ii w)), some (.int (ii (pFo (pn j) - pFo (pn j)))), some (.int (ii (j : Int)))]) (by rw [Int.sub_self]) rfl rfl ?_
  refine g_loop (fun p => p < nc) (fun p : Nat => G Γ _ cX10_node _ _ 0 0 73 [some (.ref m), some (.int (ii bd)), some (.int (ii (j : Int))), some (.int (ii w)), some (.int (ii (pFo (pn j) - pFo (pn p)))), some (.int (ii (p : Int)))] [] τ) (fun p => p) ?_ j hjn
  intro p hp ih
  refine g_iload q_X10_node_73 rfl ?_
  refine g_if_le (tgt := 93) q_X10_node_75 (by decide) ⟨by omega, by omega⟩ (fun b7 => ?_) (fun b7 => ?_)
  case refine_2 =>
    obtain ⟨f1, f2⟩ := hFO.2 p (by omega) hp
    have hnx := ih (pPi (pn p)) (by omega) f2
    obtain ⟨-, s18, -⟩ := hR p hp
    rw [if_neg (by omega)] at s18
    rw [show pFo (pn j) - pFo (pn (pPi (pn p))) = pFo (pn j) - pFo (pn p) + 1 by omega] at hnx
    refine g_iinc (L' := [_, _, _, _, _, _]) q_X10_node_78 rfl rfl ?_
    refine g_aload_n q_X10_node_81 rfl ?_
    refine g_get fl_X10_71 q_X10_node_82 (by repeat first | with_reducible assumption | with_reducible exact hput_s _ _ _ | refine (hput_n _ _ (by omega)).trans ?_ | exact hput_s _ _ _ | assumption) rfl ?_
    refine g_iload q_X10_node_85 rfl ?_
    refine g_iaload q_X10_node_87 (by repeat first | with_reducible assumption | with_reducible exact hput_s _ _ _ | refine (hput_n _ _ (by omega)).trans ?_ | exact hput_s _ _ _ | assumption) (by omega) (by omega) ?_
    refine g_topi (b := (pPi (pn p) : Int)) (by exact s18) ?_
    refine g_istore (L' := [_, _, _, _, _, _]) q_X10_node_88 (by decide) rfl ?_
    refine g_goto (tgt := 73) q_X10_node_90 (by decide) ?_
    exact hnx
  have e : p = 0 := by omega
  subst e
  rw [hFO.1, Int.sub_zero]
  refine g_fl (L2 := [some (.ref m), some (.int (ii bd)), some (.int (ii (j : Int))), some (.int (ii w)), some (.int (ii (pFo (pn j)))), none]) ?_ ⟨rfl, rfl, rfl, rfl, rfl, trivial⟩
  have : w = 0 ∨ w = 1 ∨ w = 2 ∨ w = 3 ∨ w = 4 ∨ w = 5 := by omega
  clear q5 b5 eE hw ih
  rcases this with q | q | q | q | q | q <;> subst q
  · refine g_iload_n q_X10_node_93 rfl ?_
    refine g_tswIn (off := 34) (tgt := 128) q_X10_node_94 ⟨by decide, by decide⟩ (by decide) (by decide) rfl (by decide) ?_
    refine g_aload_n q_X10_node_128 rfl ?_
    refine g_get fl_X10_71 q_X10_node_129 (by repeat first | with_reducible assumption | with_reducible exact hput_s _ _ _ | refine (hput_n _ _ (by omega)).trans ?_ | exact hput_s _ _ _ | assumption) rfl ?_
    refine g_iload_n q_X10_node_132 rfl ?_
    refine g_iaload q_X10_node_133 (by repeat first | with_reducible assumption | with_reducible exact hput_s _ _ _ | refine (hput_n _ _ (by omega)).trans ?_ | exact hput_s _ _ _ | assumption) (by omega) (by omega) ?_
    refine g_topi (b := _) (by exact r18) ?_
    refine g_ireturn q_X10_node_134.1 rfl ?_
    exact ⟨rfl, hS⟩
  · refine g_iload_n q_X10_node_93 rfl ?_
    refine g_tswIn (off := 41) (tgt := 135) q_X10_node_94 ⟨by decide, by decide⟩ (by decide) (by decide) rfl (by decide) ?_
    refine g_aload_n q_X10_node_135 rfl ?_
    refine g_get fl_X10_74 q_X10_node_136 (by repeat first | with_reducible assumption | with_reducible exact hput_s _ _ _ | refine (hput_n _ _ (by omega)).trans ?_ | exact hput_s _ _ _ | assumption) rfl ?_
    refine g_iload_n q_X10_node_139 rfl ?_
    refine g_iaload q_X10_node_140 (by repeat first | with_reducible assumption | with_reducible exact hput_s _ _ _ | refine (hput_n _ _ (by omega)).trans ?_ | exact hput_s _ _ _ | assumption) (by omega) (by omega) ?_
    refine g_topi (b := _) (by exact r19) ?_
    refine g_ireturn q_X10_node_141.1 rfl ?_
    exact ⟨rfl, hS⟩
  · refine g_iload_n q_X10_node_93 rfl ?_
    refine g_tswIn (off := 48) (tgt := 142) q_X10_node_94 ⟨by decide, by decide⟩ (by decide) (by decide) rfl (by decide) ?_
    refine g_aload_n q_X10_node_142 rfl ?_
    refine g_get fl_X10_77 q_X10_node_143 (by repeat first | with_reducible assumption | with_reducible exact hput_s _ _ _ | refine (hput_n _ _ (by omega)).trans ?_ | exact hput_s _ _ _ | assumption) rfl ?_
    refine g_iload_n q_X10_node_146 rfl ?_
    refine g_iaload q_X10_node_147 (by repeat first | with_reducible assumption | with_reducible exact hput_s _ _ _ | refine (hput_n _ _ (by omega)).trans ?_ | exact hput_s _ _ _ | assumption) (by omega) (by omega) ?_
    refine g_topi (b := _) (by exact r20) ?_
    refine g_ireturn q_X10_node_148.1 rfl ?_
    exact ⟨rfl, hS⟩
  · refine g_iload_n q_X10_node_93 rfl ?_
    refine g_tswIn (off := 55) (tgt := 149) q_X10_node_94 ⟨by decide, by decide⟩ (by decide) (by decide) rfl (by decide) ?_
    refine g_aload_n q_X10_node_149 rfl ?_
    refine g_get fl_X10_80 q_X10_node_150 (by repeat first | with_reducible assumption | with_reducible exact hput_s _ _ _ | refine (hput_n _ _ (by omega)).trans ?_ | exact hput_s _ _ _ | assumption) rfl ?_
    refine g_iload_n q_X10_node_153 rfl ?_
    refine g_iaload q_X10_node_154 (by repeat first | with_reducible assumption | with_reducible exact hput_s _ _ _ | refine (hput_n _ _ (by omega)).trans ?_ | exact hput_s _ _ _ | assumption) (by omega) (by omega) ?_
    refine g_topi (b := _) (by exact r21) ?_
    refine g_ireturn q_X10_node_155.1 rfl ?_
    exact ⟨rfl, hS⟩
  · refine g_iload_n q_X10_node_93 rfl ?_
    refine g_tswIn (off := 62) (tgt := 156) q_X10_node_94 ⟨by decide, by decide⟩ (by decide) (by decide) rfl (by decide) ?_
    refine g_iload q_X10_node_156 rfl ?_
    refine g_ireturn q_X10_node_158.1 rfl ?_
    rw [hpn]
    exact ⟨rfl, hS⟩
  · refine g_iload_n q_X10_node_93 rfl ?_
    refine g_tswOut (tgt := 159) q_X10_node_94 ⟨by decide, by decide⟩ (Or.inr (by decide)) (by decide) ?_
    refine g_aload_n q_X10_node_159 rfl ?_
    refine g_get fl_X10_95 q_X10_node_160 (by repeat first | with_reducible assumption | with_reducible exact hput_s _ _ _ | refine (hput_n _ _ (by omega)).trans ?_ | exact hput_s _ _ _ | assumption) rfl ?_
    refine g_iload_n q_X10_node_163 rfl ?_
    refine g_zaload q_X10_node_164 (by repeat first | with_reducible assumption | with_reducible exact hput_s _ _ _ | refine (hput_n _ _ (by omega)).trans ?_ | exact hput_s _ _ _ | assumption) (by omega) (by omega) ?_
    refine g_topi (b := bi (pSp (tQ (bZ z bd) j))) (by exact r26) ?_
    refine g_if_eq (tgt := 172) q_X10_node_165 (by decide) (bi_rg _) (fun b8 => ?_) (fun b8 => ?_)
    · refine g_iconst q_X10_node_172 ?_
      refine g_ireturn q_X10_node_173.1 rfl ?_
      refine ⟨?_, hS⟩
      show _ = some (Value.int (ii (bi (pSp (tQ (bZ z bd) j)))))
      rw [b8]
    · refine g_iconst q_X10_node_168 ?_
      refine g_goto (tgt := 173) q_X10_node_169 (by decide) ?_
      refine g_ireturn q_X10_node_173.1 rfl ?_
      refine ⟨?_, hS⟩
      show _ = some (Value.int (ii (bi (pSp (tQ (bZ z bd) j)))))
      rw [show bi (pSp (tQ (bZ z bd) j)) = 1 by have := bi_le (pSp (tQ (bZ z bd) j)); omega]
end MPL4

