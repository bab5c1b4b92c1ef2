/-! the reference reads: cartLine -/
def ctR1 (tx : Nat → Int) (x : PS) (p1 p2 : Nat) (y : Int × Nat × Int × Int) : Int × PS := if y.1 = -1 then (-1, (y.2.1, zCo x, zRo x, zCa x + 1, zSO x, va_up (zPL x) (zCa x) y.2.2.1, va_up (zGO x) (zCa x) y.2.2.2, va_cpy tx (zLE x) p1 (6 * zCa x) (p2 - p1), va_up (zNL x) (zCa x) ((p2 - p1 : Nat) : Int))) else (y.1, x)
/-- a cart's line, up to its end -/
def ctR (tx : Nat → Int) (len : Nat) (x : PS) : Int × PS := if ¬ (0 < zRo x ∧ zCa x < 5) then ((zPo x : Int), x) else ctR1 tx x (avn pBl tx len (zPo x + 4)) (avn pLe tx len (avn pBl tx len (zPo x + 4))) (cuR tx len (zCo x) (zRo x) (zCa x) (zSO x) (zPL x) (zGO x) (zLE x) (zNL x) (zPo x + 4))
theorem MC.putN {σ : AH} {m : Nat} {I : Nat → Int} {A : Nat → Nat → Int} {N : Nat → Nat → BitVec 64} (h : MC σ m I A N) (g : Nat → BitVec 64) : MC (hput σ (m + 3) (al 5 g)) m I A (va_up N 3 g) := by
  refine ⟨(hput_n _ _ (by omega)).trans h.1, fun k h1 h2 => ?_⟩
  by_cases e : k = 3
  · subst e
    rw [va_eq]
    exact hput_s _ _ _
  · rw [va_ne e, hput_n _ _ (by omega)]
    exact h.2 k h1 h2
/-- within a cart's line: the place p, the fault g -/
def CtS (σ : AH) (m : Nat) (J : Nat → Int) (A : Nat → Nat → Int) (N : Nat → Nat → BitVec 64) (tx : Nat → Int) (len : Nat) (x : PS) (τ : AH) (J' : Nat → Int) (A' : Nat → Nat → Int) (N' : Nat → Nat → BitVec 64) (p : Nat) (g : Int) : Prop := MC τ m J' A' N' ∧ lnF J J' A A' N N' ∧ eqOff σ τ (inb m 34) ∧ (J' 3 = len ∧ J' 4 = p ∧ J' 5 = g ∧ J' 6 = zCo x ∧ J' 7 = zRo x ∧ J' 8 = zCa x) ∧ (A' 1 = tx ∧ A' 2 = A 2) ∧ (∀ k, k < zCa x → A' 4 k = zPL x k ∧ A' 5 k = zGO x k ∧ N' 3 k = BitVec.ofInt 64 (nmV (zLE x) (6 * k) (zNL x k).toNat)) ∧ p ≤ len ∧ rg g
section MCt
variable {Γ : GT} {σ τ : AH} {m : Nat} {J J' : Nat → Int} {A A' : Nat → Nat → Int} {N N' : Nat → Nat → BitVec 64} {tx : Nat → Int} {len : Nat} {x : PS} {p : Nat} {g : Int}
theorem CtS.h0 (h : CtS σ m J A N tx len x τ J' A' N' p g) : τ.2 m = some (mdo m (pI J' p g)) := by
  rw [pI_s h.2.2.2.1.2.1 h.2.2.2.1.2.2.1]
  exact h.1.1
theorem CtS.h1 (h : CtS σ m J A N tx len x τ J' A' N' p g) : τ.2 (m + 1) = some (ai 400 tx) := by
  rw [← h.2.2.2.2.1.1]
  exact h.1.a1
theorem CtS.put (h : CtS σ m J A N tx len x τ J' A' N' p g) {p' : Nat} {g' : Int} (hp : p' ≤ len) (hg : rg g') : CtS σ m J A N tx len x (hput τ m (mdo m (pI J' p' g'))) (pI J' p' g') A' N' p' g' := by
  obtain ⟨c1, c2, c3, c4, c5, c6, c7, c8⟩ := h
  exact ⟨c1.putI _, c2.trans (lnF.pp _ _), c3.put ⟨by omega, by omega⟩ _, ⟨c4.1, rfl, rfl, c4.2.2.2⟩, c5, c6, hp, hg⟩
theorem CtS.p4 (h : CtS σ m J A N tx len x τ J' A' N' p g) (v : Int) : CtS σ m J A N tx len x (hput τ (m + 4) (ai 5 (va_up (A' 4) (zCa x) v))) J' (va_up A' 4 (va_up (A' 4) (zCa x) v)) N' p g := by
  obtain ⟨c1, c2, c3, c4, c5, c6, c7, c8⟩ := h
  refine ⟨c1.putA 4 (by omega) _, ⟨c2.1, fun k a b c => ?_, c2.2.2⟩, c3.put ⟨by omega, by omega⟩ _, c4, ⟨?_, ?_⟩, fun k hk => ?_, c7, c8⟩
  · rw [va_ne b]; exact c2.2.1 k a b c
  · rw [va_ne (by omega)]; exact c5.1
  · rw [va_ne (by omega)]; exact c5.2
  · rw [va_eq, va_ne (show k ≠ zCa x by omega), va_ne (show 5 ≠ 4 by omega)]
    exact c6 k hk
theorem CtS.p5 (h : CtS σ m J A N tx len x τ J' A' N' p g) (v : Int) : CtS σ m J A N tx len x (hput τ (m + 5) (ai 5 (va_up (A' 5) (zCa x) v))) J' (va_up A' 5 (va_up (A' 5) (zCa x) v)) N' p g := by
  obtain ⟨c1, c2, c3, c4, c5, c6, c7, c8⟩ := h
  refine ⟨c1.putA 5 (by omega) _, ⟨c2.1, fun k a b c => ?_, c2.2.2⟩, c3.put ⟨by omega, by omega⟩ _, c4, ⟨?_, ?_⟩, fun k hk => ?_, c7, c8⟩
  · rw [va_ne c]; exact c2.2.1 k a b c
  · rw [va_ne (by omega)]; exact c5.1
  · rw [va_ne (by omega)]; exact c5.2
  · rw [va_eq, va_ne (show k ≠ zCa x by omega), va_ne (show 4 ≠ 5 by omega)]
    exact c6 k hk
theorem CtS.n3 (h : CtS σ m J A N tx len x τ J' A' N' p g) (b : BitVec 64) : CtS σ m J A N tx len x (hput τ (m + 3) (al 5 (va_up (N' 3) (zCa x) b))) J' A' (va_up N' 3 (va_up (N' 3) (zCa x) b)) p g := by
  obtain ⟨c1, c2, c3, c4, c5, c6, c7, c8⟩ := h
  refine ⟨c1.putN _, ⟨c2.1, c2.2.1, fun k a => ?_⟩, c3.put ⟨by omega, by omega⟩ _, c4, c5, fun k hk => ?_, c7, c8⟩
  · rw [va_ne a]; exact c2.2.2 k a
  · rw [va_eq, va_ne (show k ≠ zCa x by omega)]
    exact c6 k hk
/-- the end of a line with a fault -/
theorem CtS.out (h : CtS σ m J A N tx len x τ J' A' N' p g) (oS : okS (A 2)) (hg : g ≠ -1) {y : PS} : lnW σ m J A N tx len (g, y) none τ := by
  obtain ⟨c1, c2, c3, c4, c5, c6, c7, c8⟩ := h
  exact ⟨rfl, c3, J', A', N', c1, c2, by rw [c5.2]; exact oS, c5.1, c4.1, c4.2.2.1, c8, fun e => absurd e hg⟩
theorem CtS.spot4 (hΓ : Gd Γ) (h : CtS σ m J A N tx len x τ J' A' N' p g) (hz : okZ len x) (oS : okS (A 2)) (hA2 : ∀ c, gIn (zCo x) (zRo x) c → A 2 c = zSO x c) (oX : okX tx) (hl : len ≤ 400) : Sp Γ miX10_spot 0 0 [.ref m, .ref (m + 4)] τ (spQ τ m J' len g (tcR tx len (zCo x) (zRo x) (zCa x) (zSO x) (zPL x) p (-1))) noX := by
  have H0 := h.h0
  have H1 := h.h1
  obtain ⟨c1, c2, c3, c4, c5, c6, c7, c8⟩ := h
  obtain ⟨-, ⟨z6, r6, n5⟩, -, oP, oG, -⟩ := hz
  refine sp_spot hΓ H0 H1 c1.a2 c1.a4 (by omega) oX c4.1 hl c7 c8 c4.2.2.2.1 c4.2.2.2.2.1 c4.2.2.2.2.2 z6 r6 n5 (by rw [c5.2]; exact hA2) (by rw [c5.2]; exact oS) (fun k hk => ⟨(c6 k hk).1, ?_⟩)
  have := oP k
  unfold rg
  omega
theorem CtS.spot5 (hΓ : Gd Γ) (h : CtS σ m J A N tx len x τ J' A' N' p g) (hz : okZ len x) (oS : okS (A 2)) (hA2 : ∀ c, gIn (zCo x) (zRo x) c → A 2 c = zSO x c) (oX : okX tx) (hl : len ≤ 400) : Sp Γ miX10_spot 0 0 [.ref m, .ref (m + 5)] τ (spQ τ m J' len g (tcR tx len (zCo x) (zRo x) (zCa x) (zSO x) (zGO x) p (-1))) noX := by
  have H0 := h.h0
  have H1 := h.h1
  obtain ⟨c1, c2, c3, c4, c5, c6, c7, c8⟩ := h
  obtain ⟨-, ⟨z6, r6, n5⟩, -, oP, oG, -⟩ := hz
  refine sp_spot hΓ H0 H1 c1.a2 c1.a5 (by omega) oX c4.1 hl c7 c8 c4.2.2.2.1 c4.2.2.2.2.1 c4.2.2.2.2.2 z6 r6 n5 (by rw [c5.2]; exact hA2) (by rw [c5.2]; exact oS) (fun k hk => ⟨(c6 k hk).2.1, ?_⟩)
  have := oG k
  unfold rg
  omega
/-- the end of a cart's line: one cart more -/
theorem ct_186 (h : CtS σ m J A N tx len x τ J' A' N' p g) (oS : okS (A 2)) (hn : zCa x < 5) {y : Int × PS} (hy : y.1 = g) (hR : g = -1 → PR (va_up J' 8 ((zCa x + 1 : Nat) : Int)) A' N' tx len y.2) : G Γ miX10_cartLine cX10_cartLine (lnW σ m J A N tx len y) noX 0 0 186 [some (.ref m), none] [] τ := by
  obtain ⟨c1, c2, c3, c4, c5, c6, c7, c8⟩ := h
  have h0 := c1.1
  refine g_aload_n q_X10_cartLine_186 rfl ?_
  refine g_dup q_X10_cartLine_187 rfl ?_
  refine g_get fl_X10_176 q_X10_cartLine_188 (by repeat first | with_reducible assumption | with_reducible exact hput_s _ _ _ | refine (hput_n _ _ (by omega)).trans ?_ | exact hput_s _ _ _ | assumption) rfl ?_
  refine g_topi (b := (zCa x : Int)) (by exact c4.2.2.2.2.2) ?_
  refine g_iconst q_X10_cartLine_191 ?_
  refine g_iadd q_X10_cartLine_192 ?_
  refine g_topi (b := ((zCa x + 1 : Nat) : Int)) (by omega) ?_
  refine g_putM fp_X10_176 q_X10_cartLine_193 (by repeat first | with_reducible assumption | with_reducible exact hput_s _ _ _ | refine (hput_n _ _ (by omega)).trans ?_ | exact hput_s _ _ _ | assumption) rfl rfl mset_8 ?_
  refine g_return q_X10_cartLine_196.1 rfl ?_
  refine ⟨rfl, c3.put ⟨by omega, by omega⟩ _, _, A', N', c1.putI _, c2.trans ⟨fun k hk => va_ne (by omega), fun _ _ _ _ => rfl, fun _ _ => rfl⟩, by rw [c5.2]; exact oS, c5.1, c4.1, ?_, by rw [hy]; exact c8, fun e => hR (hy.symm.trans e)⟩
  rw [hy]
  exact c4.2.2.1
/-- with a fault, from the goal on -/
theorem ct_169f (hΓ : Gd Γ) (h : CtS σ m J A N tx len x τ J' A' N' p g) (hz : okZ len x) (oS : okS (A 2)) (hA2 : ∀ c, gIn (zCo x) (zRo x) c → A 2 c = zSO x c) (oX : okX tx) (hl : len ≤ 400) (hn : zCa x < 5) (hg : g ≠ -1) (y : PS) : G Γ miX10_cartLine cX10_cartLine (lnW σ m J A N tx len (g, y)) noX 0 0 169 [some (.ref m), none] [] τ := by
  have t0 := h.1.1
  have t5 := h.1.a5
  have j8 := h.2.2.2.1.2.2.2.2.2
  refine g_aload_n q_X10_cartLine_169 rfl ?_
  refine g_get fl_X10_27 q_X10_cartLine_170 (by repeat first | with_reducible assumption | with_reducible exact hput_s _ _ _ | refine (hput_n _ _ (by omega)).trans ?_ | exact hput_s _ _ _ | assumption) rfl ?_
  refine g_aload_n q_X10_cartLine_173 rfl ?_
  refine g_get fl_X10_176 q_X10_cartLine_174 (by repeat first | with_reducible assumption | with_reducible exact hput_s _ _ _ | refine (hput_n _ _ (by omega)).trans ?_ | exact hput_s _ _ _ | assumption) rfl ?_
  refine g_topi (b := (zCa x : Int)) (by exact j8) ?_
  refine g_aload_n q_X10_cartLine_177 rfl ?_
  refine g_aload_n q_X10_cartLine_178 rfl ?_
  refine g_get fl_X10_27 q_X10_cartLine_179 (by repeat first | with_reducible assumption | with_reducible exact hput_s _ _ _ | refine (hput_n _ _ (by omega)).trans ?_ | exact hput_s _ _ _ | assumption) rfl ?_
  refine g_callV (rc' := 0) (rs' := 0) (As := [_]) cs_X10_200 q_X10_cartLine_182 (h.spot5 hΓ hz oS hA2 oX hl) rfl (by repeat first | with_reducible assumption | with_reducible exact hput_s _ _ _ | refine (hput_n _ _ (by omega)).trans ?_ | exact hput_s _ _ _ | assumption) rfl rfl rfl rfl (Nat.le_of_ble_eq_true rfl) (by decide) (by decide) (by decide) (fun _ _ h => h.elim) (fun v τ' hq => ?_)
  rcases hq with ⟨-, v, p', hp', rfl, hv, rfl⟩ | ⟨q, -⟩ | ⟨q, -⟩
  · have h2 := h.put (p' := p') (g' := g) hp' h.2.2.2.2.2.2.2
    have u5 : (hput τ m (mdo m (pI J' p' g))).2 (m + 5) = some (ai 5 (A' 5)) := (hput_n _ _ (by omega)).trans t5
    refine g_iastore q_X10_cartLine_185 (by repeat first | with_reducible assumption | with_reducible exact hput_s _ _ _ | refine (hput_n _ _ (by omega)).trans ?_ | exact hput_s _ _ _ | assumption) (by omega) (by omega) ?_
    exact ct_186 (h2.p5 (v : Int)) oS hn rfl (fun e => absurd e hg)
  · exact absurd q hg
  · exact absurd q hg
theorem ct_156f (hΓ : Gd Γ) (h : CtS σ m J A N tx len x τ J' A' N' p g) (hz : okZ len x) (oS : okS (A 2)) (hA2 : ∀ c, gIn (zCo x) (zRo x) c → A 2 c = zSO x c) (oX : okX tx) (hl : len ≤ 400) (hn : zCa x < 5) (hg : g ≠ -1) (y : PS) : G Γ miX10_cartLine cX10_cartLine (lnW σ m J A N tx len (g, y)) noX 0 0 156 [some (.ref m), none] [] τ := by
  obtain ⟨q4, u4, kt, st⟩ := str_X10_159 hΓ
  have H0 := h.h0
  have hgr := h.2.2.2.2.2.2.2
  refine g_aload_n q_X10_cartLine_156 rfl ?_
  refine g_ldcS rfl kt q_X10_cartLine_157 ?_
  refine g_callV (rc' := 0) (rs' := 0) (As := [_]) cs_X10_197 q_X10_cartLine_159 (sp_takes hΓ H0 h.h1 oX h.2.2.2.1.1 hl h.2.2.2.2.2.2.1 hgr st kr_to (by decide)) rfl (by repeat first | with_reducible assumption | with_reducible exact hput_s _ _ _ | refine (hput_n _ _ (by omega)).trans ?_ | exact hput_s _ _ _ | assumption) rfl rfl rfl rfl (Nat.le_of_ble_eq_true rfl) (by decide) (by decide) (by decide) (fun _ _ h => h.elim) (fun v τ' hq => ?_)
  rcases hq with ⟨-, rfl, rfl⟩ | ⟨q, -⟩
  · refine g_if_ne (tgt := 169) q_X10_cartLine_162 (by decide) (bi_rg _) (fun b1 => ?_) (fun b1 => ?_)
    · exact absurd b1 (by decide)
    refine g_aload_n q_X10_cartLine_165 rfl ?_
    refine g_callV (rc' := 0) (rs' := 0) (As := []) cs_X10_151 q_X10_cartLine_166 (sp_mwrong hΓ H0 hgr) rfl (by repeat first | with_reducible assumption | with_reducible exact hput_s _ _ _ | refine (hput_n _ _ (by omega)).trans ?_ | exact hput_s _ _ _ | assumption) rfl rfl rfl rfl (Nat.le_of_ble_eq_true rfl) (by decide) (by decide) (by decide) (fun _ _ h => h.elim) (k_rv ?_)
    rw [if_neg hg]
    exact ct_169f hΓ (h.put h.2.2.2.2.2.2.1 hgr) hz oS hA2 oX hl hn hg y
  · exact absurd q hg
theorem ct_139f (hΓ : Gd Γ) (h : CtS σ m J A N tx len x τ J' A' N' p g) (hz : okZ len x) (oS : okS (A 2)) (hA2 : ∀ c, gIn (zCo x) (zRo x) c → A 2 c = zSO x c) (oX : okX tx) (hl : len ≤ 400) (hn : zCa x < 5) (hg : g ≠ -1) (y : PS) : G Γ miX10_cartLine cX10_cartLine (lnW σ m J A N tx len (g, y)) noX 0 0 139 [some (.ref m), none] [] τ := by
  have t0 := h.1.1
  have t4 := h.1.a4
  have j8 := h.2.2.2.1.2.2.2.2.2
  refine g_aload_n q_X10_cartLine_139 rfl ?_
  refine g_get fl_X10_24 q_X10_cartLine_140 (by repeat first | with_reducible assumption | with_reducible exact hput_s _ _ _ | refine (hput_n _ _ (by omega)).trans ?_ | exact hput_s _ _ _ | assumption) rfl ?_
  refine g_aload_n q_X10_cartLine_143 rfl ?_
  refine g_get fl_X10_176 q_X10_cartLine_144 (by repeat first | with_reducible assumption | with_reducible exact hput_s _ _ _ | refine (hput_n _ _ (by omega)).trans ?_ | exact hput_s _ _ _ | assumption) rfl ?_
  refine g_topi (b := (zCa x : Int)) (by exact j8) ?_
  refine g_aload_n q_X10_cartLine_147 rfl ?_
  refine g_aload_n q_X10_cartLine_148 rfl ?_
  refine g_get fl_X10_24 q_X10_cartLine_149 (by repeat first | with_reducible assumption | with_reducible exact hput_s _ _ _ | refine (hput_n _ _ (by omega)).trans ?_ | exact hput_s _ _ _ | assumption) rfl ?_
  refine g_callV (rc' := 0) (rs' := 0) (As := [_]) cs_X10_200 q_X10_cartLine_152 (h.spot4 hΓ hz oS hA2 oX hl) rfl (by repeat first | with_reducible assumption | with_reducible exact hput_s _ _ _ | refine (hput_n _ _ (by omega)).trans ?_ | exact hput_s _ _ _ | assumption) rfl rfl rfl rfl (Nat.le_of_ble_eq_true rfl) (by decide) (by decide) (by decide) (fun _ _ h => h.elim) (fun v τ' hq => ?_)
  rcases hq with ⟨-, v, p', hp', rfl, hv, rfl⟩ | ⟨q, -⟩ | ⟨q, -⟩
  · have h2 := h.put (p' := p') (g' := g) hp' h.2.2.2.2.2.2.2
    have u4 : (hput τ m (mdo m (pI J' p' g))).2 (m + 4) = some (ai 5 (A' 4)) := (hput_n _ _ (by omega)).trans t4
    refine g_iastore q_X10_cartLine_155 (by repeat first | with_reducible assumption | with_reducible exact hput_s _ _ _ | refine (hput_n _ _ (by omega)).trans ?_ | exact hput_s _ _ _ | assumption) (by omega) (by omega) ?_
    exact ct_156f hΓ (h2.p4 (v : Int)) hz oS hA2 oX hl hn hg y
  · exact absurd q hg
  · exact absurd q hg
end MCt

