/-! the reference reads: cartLine, from the name on -/
section MCu
variable {Γ : GT} {σ τ : AH} {m : Nat} {J J' : Nat → Int} {A A' : Nat → Nat → Int} {N N' : Nat → Nat → BitVec 64} {tx : Nat → Int} {len : Nat} {x : PS} {p : Nat} {g : Int}
/-- one cart more is read -/
theorem pr_new (h : CtS σ m J A N tx len x τ J' A' N' p g) (hz : okZ len x) (hA2 : ∀ c, gIn (zCo x) (zRo x) c → A 2 c = zSO x c) {v1 v2 : Int} {p1 w : Nat} (e4 : A' 4 (zCa x) = v1) (e5 : A' 5 (zCa x) = v2) (e3 : N' 3 (zCa x) = BitVec.ofInt 64 (nmV tx p1 w)) : PR (va_up J' 8 ((zCa x + 1 : Nat) : Int)) A' N' tx len (p, zCo x, zRo x, zCa x + 1, zSO x, va_up (zPL x) (zCa x) v1, va_up (zGO x) (zCa x) v2, va_cpy tx (zLE x) p1 (6 * zCa x) w, va_up (zNL x) (zCa x) (w : Int)) := by
  obtain ⟨c1, c2, c3, c4, c5, c6, c7, c8⟩ := h
  refine ⟨⟨c4.1, c4.2.1, c4.2.2.2.1, c4.2.2.2.2.1, rfl⟩, ⟨c5.1, by rw [c5.2]; exact hA2⟩, fun k hk => ?_⟩
  have hk : k < zCa x + 1 := hk
  show A' 4 k = va_up (zPL x) (zCa x) v1 k ∧ A' 5 k = va_up (zGO x) (zCa x) v2 k ∧ N' 3 k = BitVec.ofInt 64 (nmV (va_cpy tx (zLE x) p1 (6 * zCa x) w) (6 * k) (va_up (zNL x) (zCa x) (w : Int) k).toNat)
  by_cases e : k = zCa x
  · rw [e, va_eq, va_eq, va_eq, Int.toNat_natCast, e4, e5, e3]
    refine ⟨rfl, rfl, ?_⟩
    rw [nmV_cg (L := w) (LE := va_cpy tx (zLE x) p1 (6 * zCa x) w) (b := 6 * zCa x) (LE' := tx) (b' := p1) (fun j hj => ?_) w (Nat.le_refl w)]
    unfold va_cpy
    rw [if_pos (by omega), show 6 * zCa x + j - 6 * zCa x = j by omega]
  · rw [va_ne e, va_ne e, va_ne e]
    obtain ⟨q1, q2, q3⟩ := c6 k (by omega)
    have hN := hz.2.2.2.2.2.2 k
    refine ⟨q1, q2, ?_⟩
    rw [q3, nmV_cg (L := (zNL x k).toNat) (LE := va_cpy tx (zLE x) p1 (6 * zCa x) w) (b := 6 * k) (LE' := zLE x) (b' := 6 * k) (fun j hj => ?_) _ (Nat.le_refl _)]
    exact cpy_out _ _ (by omega)
/-- from the goal's word on -/
theorem ct_156g (hΓ : Gd Γ) (h : CtS σ m J A N tx len x τ J' A' N' p (-1)) (hz : okZ len x) (oS : okS (A 2)) (hA2 : ∀ c, gIn (zCo x) (zRo x) c → A 2 c = zSO x c) (oX : okX tx) (hl : len ≤ 400) (hn : zCa x < 5) {v1 : Int} {p1 p2 : Nat} (e4 : A' 4 (zCa x) = v1) (e3 : N' 3 (zCa x) = BitVec.ofInt 64 (nmV tx p1 (p2 - p1))) : G Γ miX10_cartLine cX10_cartLine (lnW σ m J A N tx len (ctR1 tx x p1 p2 (cu4 tx len (zCo x) (zRo x) (zCa x) (zSO x) (zGO x) v1 (avn pBl tx len p) (avn pLe tx len (avn pBl tx len p))))) noX 0 0 156 [some (.ref m), none] [] τ := by
  obtain ⟨q4, u4, kt, st⟩ := str_X10_159 hΓ
  have H0 := h.h0
  have hgr := h.2.2.2.2.2.2.2
  have hpl := h.2.2.2.2.2.2.1
  have hr1 := avn_rg (p := pBl) (tx := tx) hpl
  have hr2 := avn_rg (p := pLe) (tx := tx) hr1.2
  refine g_aload_n q_X10_cartLine_156 rfl ?_
  refine g_ldcS rfl kt q_X10_cartLine_157 ?_
  refine g_callV (rc' := 0) (rs' := 0) (As := [_]) cs_X10_197 q_X10_cartLine_159 (sp_takes hΓ H0 h.h1 oX h.2.2.2.1.1 hl hpl hgr st kr_to (by decide)) rfl (by repeat first | with_reducible assumption | with_reducible exact hput_s _ _ _ | refine (hput_n _ _ (by omega)).trans ?_ | exact hput_s _ _ _ | assumption) rfl rfl rfl rfl (Nat.le_of_ble_eq_true rfl) (by decide) (by decide) (by decide) (fun _ _ h => h.elim) (fun v τ' hq => ?_)
  rcases hq with ⟨q, -⟩ | ⟨-, rfl, rfl⟩
  · exact absurd rfl q
  obtain ⟨p6, hp6⟩ : ∃ z, z = avn pBl tx len p := ⟨_, rfl⟩
  rw [← hp6] at hr1 hr2 ⊢
  obtain ⟨p7, hp7⟩ : ∃ z, z = avn pLe tx len p6 := ⟨_, rfl⟩
  rw [← hp7] at hr2 ⊢
  unfold cu4
  cases hw : isW tx p6 p7 2 k_to with
  | false =>
    rw [if_neg Bool.false_ne_true, if_pos rfl]
    have h2 := h.put (p' := p6) (g' := -1) hr1.2 hgr
    refine g_if_ne (tgt := 169) q_X10_cartLine_162 (by decide) (bi_rg _) (fun b1 => ?_) (fun b1 => ?_)
    · exact absurd b1 (by decide)
    refine g_aload_n q_X10_cartLine_165 rfl ?_
    refine g_callV (rc' := 0) (rs' := 0) (As := []) cs_X10_151 q_X10_cartLine_166 (sp_mwrong hΓ h2.h0 hgr) rfl (by repeat first | with_reducible assumption | with_reducible exact hput_s _ _ _ | refine (hput_n _ _ (by omega)).trans ?_ | exact hput_s _ _ _ | assumption) rfl rfl rfl rfl (Nat.le_of_ble_eq_true rfl) (by decide) (by decide) (by decide) (fun _ _ h => h.elim) (k_rv ?_)
    rw [if_pos rfl]
    have ey : ctR1 tx x p1 p2 ((p6 : Int), 0, 0, 0) = ((p6 : Int), x) := if_neg (by show ¬ (p6 : Int) = -1; omega)
    rw [ey]
    exact ct_169f hΓ (h2.put (p' := p6) (g' := (p6 : Int)) hr1.2 ⟨by omega, by omega⟩) hz oS hA2 oX hl hn (by omega) x
  | true =>
    rw [if_pos rfl, if_neg (by decide)]
    have h2 := h.put (p' := p7) (g' := -1) hr2.2 hgr
    obtain ⟨ρ, hρ⟩ : ∃ ρ, ρ = hput τ m (mdo m (pI J' (p7 : Int) (-1))) := ⟨_, rfl⟩
    rw [← hρ] at h2 ⊢
    have t0 := h2.1.1
    have t5 := h2.1.a5
    have j8 := h2.2.2.2.1.2.2.2.2.2
    refine g_if_ne (tgt := 169) q_X10_cartLine_162 (by decide) (bi_rg _) (fun b1 => ?_) (fun b1 => ?_)
    case refine_2 => exact absurd b1 (by decide)
    refine g_aload_n q_X10_cartLine_169 rfl ?_
    refine g_get fl_X10_27 q_X10_cartLine_170 (by repeat first | with_reducible assumption | with_reducible exact hput_s _ _ _ | refine (hput_n _ _ (by omega)).trans ?_ | exact hput_s _ _ _ | assumption) rfl ?_
    refine g_aload_n q_X10_cartLine_173 rfl ?_
    refine g_get fl_X10_176 q_X10_cartLine_174 (by repeat first | with_reducible assumption | with_reducible exact hput_s _ _ _ | refine (hput_n _ _ (by omega)).trans ?_ | exact hput_s _ _ _ | assumption) rfl ?_
    refine g_topi (b := (zCa x : Int)) (by exact j8) ?_
    refine g_aload_n q_X10_cartLine_177 rfl ?_
    refine g_aload_n q_X10_cartLine_178 rfl ?_
    refine g_get fl_X10_27 q_X10_cartLine_179 (by repeat first | with_reducible assumption | with_reducible exact hput_s _ _ _ | refine (hput_n _ _ (by omega)).trans ?_ | exact hput_s _ _ _ | assumption) rfl ?_
    refine g_callV (rc' := 0) (rs' := 0) (As := [_]) cs_X10_200 q_X10_cartLine_182 (h2.spot5 hΓ hz oS hA2 oX hl) rfl (by repeat first | with_reducible assumption | with_reducible exact hput_s _ _ _ | refine (hput_n _ _ (by omega)).trans ?_ | exact hput_s _ _ _ | assumption) rfl rfl rfl rfl (Nat.le_of_ble_eq_true rfl) (by decide) (by decide) (by decide) (fun _ _ h => h.elim) (fun v τ' hq => ?_)
    rcases hq with ⟨q, -⟩ | ⟨-, hy, v, p', hp', hv, rfl, rfl⟩ | ⟨-, hy, rfl, rfl⟩
    · exact absurd rfl q
    · have hfr := tcR_frg (tx := tx) (len := len) (cols := zCo x) (rows := zRo x) (carts := zCa x) (SO := zSO x) (OT := zGO x) (pos := p7) hr2.2
      have hne : (tcR tx len (zCo x) (zRo x) (zCa x) (zSO x) (zGO x) p7 (-1)).2.2 ≠ -1 := by
        rcases (tcR_rg (tx := tx) (len := len) (SO := zSO x) (OT := zGO x) (carts := zCa x) (pos := p7) (fa := -1) hz.2.1.1 hz.2.1.2.1 hr2.2).1 with q | q
        · have := q.2; omega
        · have := q.1; omega
      rw [if_pos hy]
      obtain ⟨F, hF⟩ : ∃ F, F = (tcR tx len (zCo x) (zRo x) (zCa x) (zSO x) (zGO x) p7 (-1)).2.2 := ⟨_, rfl⟩
      rw [← hF] at hfr hne ⊢
      have ey : ctR1 tx x p1 p2 (F, 0, 0, 0) = (F, x) := if_neg hne
      rw [ey]
      have h3 := h2.put (p' := p') (g' := F) hp' ⟨by omega, by omega⟩
      have u5 : (hput ρ m (mdo m (pI (pI J' (p7 : Int) (-1)) (p' : Int) F))).2 (m + 5) = some (ai 5 (A' 5)) := (hput_n _ _ (by omega)).trans t5
      refine g_iastore q_X10_cartLine_185 (by repeat first | with_reducible assumption | with_reducible exact hput_s _ _ _ | refine (hput_n _ _ (by omega)).trans ?_ | exact hput_s _ _ _ | assumption) (by omega) (by omega) ?_
      exact ct_186 (h3.p5 (v : Int)) oS hn rfl (fun e => absurd e hne)
    · have hrg := (tcR_rg (tx := tx) (len := len) (SO := zSO x) (OT := zGO x) (carts := zCa x) (pos := p7) (fa := -1) hz.2.1.1 hz.2.1.2.1 hr2.2)
      rw [if_neg hy]
      obtain ⟨V, hV⟩ : ∃ V, V = (tcR tx len (zCo x) (zRo x) (zCa x) (zSO x) (zGO x) p7 (-1)).1 := ⟨_, rfl⟩
      obtain ⟨P8, hP8⟩ : ∃ V, V = (tcR tx len (zCo x) (zRo x) (zCa x) (zSO x) (zGO x) p7 (-1)).2.1 := ⟨_, rfl⟩
      rw [← hP8] at hrg
      rw [← hV, ← hP8]
      have ey : ctR1 tx x p1 p2 (-1, P8, v1, V) = (-1, (P8, zCo x, zRo x, zCa x + 1, zSO x, va_up (zPL x) (zCa x) v1, va_up (zGO x) (zCa x) V, va_cpy tx (zLE x) p1 (6 * zCa x) (p2 - p1), va_up (zNL x) (zCa x) ((p2 - p1 : Nat) : Int))) := if_pos rfl
      rw [ey]
      have h3 := h2.put (p' := P8) (g' := -1) hrg.2.2 hgr
      have u5 : (hput ρ m (mdo m (pI (pI J' (p7 : Int) (-1)) (P8 : Int) (-1)))).2 (m + 5) = some (ai 5 (A' 5)) := (hput_n _ _ (by omega)).trans t5
      refine g_iastore q_X10_cartLine_185 (by repeat first | with_reducible assumption | with_reducible exact hput_s _ _ _ | refine (hput_n _ _ (by omega)).trans ?_ | exact hput_s _ _ _ | assumption) (by omega) (by omega) ?_
      exact ct_186 (h3.p5 V) oS hn rfl (fun _ => pr_new (h3.p5 V) hz hA2 (by rw [va_ne (by omega)]; exact e4) (by rw [va_eq, va_eq]) e3)
/-- from the place's word on -/
theorem ct_126 (hΓ : Gd Γ) (h : CtS σ m J A N tx len x τ J' A' N' p (-1)) (hz : okZ len x) (oS : okS (A 2)) (hA2 : ∀ c, gIn (zCo x) (zRo x) c → A 2 c = zSO x c) (oX : okX tx) (hl : len ≤ 400) (hn : zCa x < 5) {p1 p2 : Nat} (e3 : N' 3 (zCa x) = BitVec.ofInt 64 (nmV tx p1 (p2 - p1))) : G Γ miX10_cartLine cX10_cartLine (lnW σ m J A N tx len (ctR1 tx x p1 p2 (cu3 tx len (zCo x) (zRo x) (zCa x) (zSO x) (zPL x) (zGO x) (avn pBl tx len p) (avn pLe tx len (avn pBl tx len p))))) noX 0 0 126 [some (.ref m), none] [] τ := by
  obtain ⟨q4, u4, ka, sa⟩ := str_X10_158 hΓ
  have H0 := h.h0
  have hgr := h.2.2.2.2.2.2.2
  have hpl := h.2.2.2.2.2.2.1
  have hr1 := avn_rg (p := pBl) (tx := tx) hpl
  have hr2 := avn_rg (p := pLe) (tx := tx) hr1.2
  refine g_aload_n q_X10_cartLine_126 rfl ?_
  refine g_ldcS rfl ka q_X10_cartLine_127 ?_
  refine g_callV (rc' := 0) (rs' := 0) (As := [_]) cs_X10_197 q_X10_cartLine_129 (sp_takes hΓ H0 h.h1 oX h.2.2.2.1.1 hl hpl hgr sa kr_at (by decide)) rfl (by repeat first | with_reducible assumption | with_reducible exact hput_s _ _ _ | refine (hput_n _ _ (by omega)).trans ?_ | exact hput_s _ _ _ | assumption) rfl rfl rfl rfl (Nat.le_of_ble_eq_true rfl) (by decide) (by decide) (by decide) (fun _ _ h => h.elim) (fun v τ' hq => ?_)
  rcases hq with ⟨q, -⟩ | ⟨-, rfl, rfl⟩
  · exact absurd rfl q
  obtain ⟨p3, hp3⟩ : ∃ z, z = avn pBl tx len p := ⟨_, rfl⟩
  rw [← hp3] at hr1 hr2 ⊢
  obtain ⟨p4, hp4⟩ : ∃ z, z = avn pLe tx len p3 := ⟨_, rfl⟩
  rw [← hp4] at hr2 ⊢
  unfold cu3
  cases hw : isW tx p3 p4 2 k_at with
  | false =>
    rw [if_neg Bool.false_ne_true, if_pos rfl]
    have h2 := h.put (p' := p3) (g' := -1) hr1.2 hgr
    refine g_if_ne (tgt := 139) q_X10_cartLine_132 (by decide) (bi_rg _) (fun b1 => ?_) (fun b1 => ?_)
    · exact absurd b1 (by decide)
    refine g_aload_n q_X10_cartLine_135 rfl ?_
    refine g_callV (rc' := 0) (rs' := 0) (As := []) cs_X10_151 q_X10_cartLine_136 (sp_mwrong hΓ h2.h0 hgr) rfl (by repeat first | with_reducible assumption | with_reducible exact hput_s _ _ _ | refine (hput_n _ _ (by omega)).trans ?_ | exact hput_s _ _ _ | assumption) rfl rfl rfl rfl (Nat.le_of_ble_eq_true rfl) (by decide) (by decide) (by decide) (fun _ _ h => h.elim) (k_rv ?_)
    rw [if_pos rfl]
    have ey : ctR1 tx x p1 p2 ((p3 : Int), 0, 0, 0) = ((p3 : Int), x) := if_neg (by show ¬ (p3 : Int) = -1; omega)
    rw [ey]
    exact ct_139f hΓ (h2.put (p' := p3) (g' := (p3 : Int)) hr1.2 ⟨by omega, by omega⟩) hz oS hA2 oX hl hn (by omega) x
  | true =>
    rw [if_pos rfl, if_neg (by decide)]
    have h2 := h.put (p' := p4) (g' := -1) hr2.2 hgr
    obtain ⟨ρ, hρ⟩ : ∃ ρ, ρ = hput τ m (mdo m (pI J' (p4 : Int) (-1))) := ⟨_, rfl⟩
    rw [← hρ] at h2 ⊢
    have t0 := h2.1.1
    have t4 := h2.1.a4
    have j8 := h2.2.2.2.1.2.2.2.2.2
    refine g_if_ne (tgt := 139) q_X10_cartLine_132 (by decide) (bi_rg _) (fun b1 => ?_) (fun b1 => ?_)
    case refine_2 => exact absurd b1 (by decide)
    refine g_aload_n q_X10_cartLine_139 rfl ?_
    refine g_get fl_X10_24 q_X10_cartLine_140 (by repeat first | with_reducible assumption | with_reducible exact hput_s _ _ _ | refine (hput_n _ _ (by omega)).trans ?_ | exact hput_s _ _ _ | assumption) rfl ?_
    refine g_aload_n q_X10_cartLine_143 rfl ?_
    refine g_get fl_X10_176 q_X10_cartLine_144 (by repeat first | with_reducible assumption | with_reducible exact hput_s _ _ _ | refine (hput_n _ _ (by omega)).trans ?_ | exact hput_s _ _ _ | assumption) rfl ?_
    refine g_topi (b := (zCa x : Int)) (by exact j8) ?_
    refine g_aload_n q_X10_cartLine_147 rfl ?_
    refine g_aload_n q_X10_cartLine_148 rfl ?_
    refine g_get fl_X10_24 q_X10_cartLine_149 (by repeat first | with_reducible assumption | with_reducible exact hput_s _ _ _ | refine (hput_n _ _ (by omega)).trans ?_ | exact hput_s _ _ _ | assumption) rfl ?_
    refine g_callV (rc' := 0) (rs' := 0) (As := [_]) cs_X10_200 q_X10_cartLine_152 (h2.spot4 hΓ hz oS hA2 oX hl) rfl (by repeat first | with_reducible assumption | with_reducible exact hput_s _ _ _ | refine (hput_n _ _ (by omega)).trans ?_ | exact hput_s _ _ _ | assumption) rfl rfl rfl rfl (Nat.le_of_ble_eq_true rfl) (by decide) (by decide) (by decide) (fun _ _ h => h.elim) (fun v τ' hq => ?_)
    rcases hq with ⟨q, -⟩ | ⟨-, hy, v, p', hp', hv, rfl, rfl⟩ | ⟨-, hy, rfl, rfl⟩
    · exact absurd rfl q
    · have hfr := tcR_frg (tx := tx) (len := len) (cols := zCo x) (rows := zRo x) (carts := zCa x) (SO := zSO x) (OT := zPL x) (pos := p4) hr2.2
      have hne : (tcR tx len (zCo x) (zRo x) (zCa x) (zSO x) (zPL x) p4 (-1)).2.2 ≠ -1 := by
        rcases (tcR_rg (tx := tx) (len := len) (SO := zSO x) (OT := zPL x) (carts := zCa x) (pos := p4) (fa := -1) hz.2.1.1 hz.2.1.2.1 hr2.2).1 with q | q
        · have := q.2; omega
        · have := q.1; omega
      rw [if_pos hy]
      obtain ⟨F, hF⟩ : ∃ F, F = (tcR tx len (zCo x) (zRo x) (zCa x) (zSO x) (zPL x) p4 (-1)).2.2 := ⟨_, rfl⟩
      rw [← hF] at hfr hne ⊢
      have ey : ctR1 tx x p1 p2 (F, 0, 0, 0) = (F, x) := if_neg hne
      rw [ey]
      have h3 := h2.put (p' := p') (g' := F) hp' ⟨by omega, by omega⟩
      have u4 : (hput ρ m (mdo m (pI (pI J' (p4 : Int) (-1)) (p' : Int) F))).2 (m + 4) = some (ai 5 (A' 4)) := (hput_n _ _ (by omega)).trans t4
      refine g_iastore q_X10_cartLine_155 (by repeat first | with_reducible assumption | with_reducible exact hput_s _ _ _ | refine (hput_n _ _ (by omega)).trans ?_ | exact hput_s _ _ _ | assumption) (by omega) (by omega) ?_
      exact ct_156f hΓ (h3.p4 (v : Int)) hz oS hA2 oX hl hn hne x
    · have hrg := (tcR_rg (tx := tx) (len := len) (SO := zSO x) (OT := zPL x) (carts := zCa x) (pos := p4) (fa := -1) hz.2.1.1 hz.2.1.2.1 hr2.2)
      rw [if_neg hy]
      obtain ⟨V, hV⟩ : ∃ V, V = (tcR tx len (zCo x) (zRo x) (zCa x) (zSO x) (zPL x) p4 (-1)).1 := ⟨_, rfl⟩
      obtain ⟨P8, hP8⟩ : ∃ V, V = (tcR tx len (zCo x) (zRo x) (zCa x) (zSO x) (zPL x) p4 (-1)).2.1 := ⟨_, rfl⟩
      rw [← hP8] at hrg
      rw [← hV, ← hP8]
      have h3 := h2.put (p' := P8) (g' := -1) hrg.2.2 hgr
      have u4 : (hput ρ m (mdo m (pI (pI J' (p4 : Int) (-1)) (P8 : Int) (-1)))).2 (m + 4) = some (ai 5 (A' 4)) := (hput_n _ _ (by omega)).trans t4
      refine g_iastore q_X10_cartLine_155 (by repeat first | with_reducible assumption | with_reducible exact hput_s _ _ _ | refine (hput_n _ _ (by omega)).trans ?_ | exact hput_s _ _ _ | assumption) (by omega) (by omega) ?_
      exact ct_156g hΓ (h3.p4 V) hz oS hA2 oX hl hn (by rw [va_eq, va_eq]) e3
/-- two names, as numbers -/
theorem nm_same {LE NL : Nat → Int} {k p1 w : Nat} (h1 : 1 ≤ NL k ∧ NL k ≤ 6) (hL : ∀ j : Nat, (j : Int) < NL k → 97 ≤ LE (6 * k + j) ∧ LE (6 * k + j) ≤ 122) (hw : 1 ≤ w ∧ w ≤ 6) (ht : ∀ j, j < w → 97 ≤ tx (p1 + j) ∧ tx (p1 + j) ≤ 122) : lcm (BitVec.ofInt 64 (nmV LE (6 * k) (NL k).toNat)) (BitVec.ofInt 64 (nmV tx p1 w)) = 0 ↔ sameN NL LE tx p1 w k = true := by
  have hL' : ∀ j, j < (NL k).toNat → 97 ≤ LE (6 * k + j) ∧ LE (6 * k + j) ≤ 122 := fun j hj => hL j (by omega)
  have a1 := nmV_30 hL' (by omega) (j := (NL k).toNat) (Nat.le_refl _)
  have a2 := nmV_30 ht hw.2 (j := w) (Nat.le_refl _)
  have e1 : nmV LE (6 * k) (NL k).toNat = ((nmV LE (6 * k) (NL k).toNat).toNat : Int) := by omega
  have e2 : nmV tx p1 w = ((nmV tx p1 w).toNat : Int) := by omega
  have hc : lcm (BitVec.ofInt 64 (nmV LE (6 * k) (NL k).toNat)) (BitVec.ofInt 64 (nmV tx p1 w)) = 0 ↔ nmV LE (6 * k) (NL k).toNat = nmV tx p1 w := by
    rw [e1, e2, lcm_i (by omega) (by omega)]
    split
    · constructor
      · intro q; omega
      · intro q; omega
    · split
      · constructor
        · intro _; omega
        · intro _; rfl
      · constructor
        · intro q; omega
        · intro q; omega
  rw [hc]
  unfold sameN
  rw [Bool.and_eq_true]
  constructor
  · intro e
    obtain ⟨q1, q2⟩ := nmV_inj hL' ht (NL k).toNat w (Nat.le_refl _) (Nat.le_refl _) e
    exact ⟨decide_eq_true (by omega), decide_eq_true (fun j hj => q2 j (by omega))⟩
  · rintro ⟨q1, q2⟩
    have q1 := of_decide_eq_true q1
    have q2 := of_decide_eq_true q2
    have : (NL k).toNat = w := by omega
    rw [this]
    exact nmV_cg (L := w) q2 w (Nat.le_refl w)
theorem sp_cartLine (hΓ : Gd Γ) (h : MC σ m J A N) (hR : PR J A N tx len x) (j5 : J 5 = -1) (oS : okS (A 2)) (oX : okX tx) (hl : len ≤ 400) (hz : okZ len x) (wf : WFz x) (hp4 : zPo x + 4 ≤ len) : Sp Γ miX10_cartLine 0 0 [.ref m] σ (lnW σ m J A N tx len (ctR tx len x)) noX := by
  obtain ⟨⟨j3, j4, j6, j7, j8⟩, ⟨hA1, hA2⟩, hA4⟩ := hR
  have hS : CtS σ m J A N tx len x σ J A N (zPo x) (-1) := ⟨h, lnF.rfl', eqOff.rfl', ⟨j3, j4, j5, j6, j7, j8⟩, ⟨hA1, rfl⟩, hA4, hz.1, by decide, by decide⟩
  have h0 := hS.h0
  have n5 := hz.2.1.2.2
  have r6 := hz.2.1.2.1
  unfold ctR
  have bad : ¬ (0 < zRo x ∧ zCa x < 5) → G Γ miX10_cartLine cX10_cartLine (lnW σ m J A N tx len (if ¬ (0 < zRo x ∧ zCa x < 5) then ((zPo x : Int), x) else ctR1 tx x (avn pBl tx len (zPo x + 4)) (avn pLe tx len (avn pBl tx len (zPo x + 4))) (cuR tx len (zCo x) (zRo x) (zCa x) (zSO x) (zPL x) (zGO x) (zLE x) (zNL x) (zPo x + 4)))) noX 0 0 15 [some (.ref m), none] [] σ := by
    intro hn
    rw [if_pos hn]
    refine g_aload_n q_X10_cartLine_15 rfl ?_
    refine g_callV (rc' := 0) (rs' := 0) (As := []) cs_X10_151 q_X10_cartLine_16 (sp_mwrong hΓ h0 ⟨by decide, by decide⟩) rfl (by repeat first | with_reducible assumption | with_reducible exact hput_s _ _ _ | refine (hput_n _ _ (by omega)).trans ?_ | exact hput_s _ _ _ | assumption) rfl rfl rfl rfl (Nat.le_of_ble_eq_true rfl) (by decide) (by decide) (by decide) (fun _ _ h => h.elim) (k_rv ?_)
    rw [if_pos rfl]
    refine g_aload_n q_X10_cartLine_19 rfl ?_
    refine g_get fl_X10_13 q_X10_cartLine_20 (by repeat first | with_reducible assumption | with_reducible exact hput_s _ _ _ | refine (hput_n _ _ (by omega)).trans ?_ | exact hput_s _ _ _ | assumption) rfl ?_
    refine g_topi (b := (zPo x : Int)) (by rfl) ?_
    refine g_iconst q_X10_cartLine_23 ?_
    refine g_icmp_eq (tgt := 28) q_X10_cartLine_24 (by decide) ⟨by omega, by omega⟩ ⟨by omega, by omega⟩ (fun b1 => ?_) (fun b1 => ?_)
    · omega
    · refine g_return q_X10_cartLine_27.1 rfl ?_
      exact lnW.f h oS hA1 j3 ⟨by omega, by omega⟩ (by omega)
  refine Sp_of (L := [_, _]) hΓ (by decide +kernel) rfl (Nat.le_of_ble_eq_true rfl) rfl ?_
  refine g_aload_n q_X10_cartLine_0 rfl ?_
  refine g_get fl_X10_176 q_X10_cartLine_1 (by repeat first | with_reducible assumption | with_reducible exact hput_s _ _ _ | refine (hput_n _ _ (by omega)).trans ?_ | exact hput_s _ _ _ | assumption) rfl ?_
  refine g_topi (b := (zCa x : Int)) (by exact j8) ?_
  refine g_iconst q_X10_cartLine_4 ?_
  refine g_icmp_eq (tgt := 15) q_X10_cartLine_5 (by decide) ⟨by omega, by omega⟩ ⟨by omega, by omega⟩ (fun b1 => ?_) (fun b1 => ?_)
  · exact bad (by omega)
  refine g_aload_n q_X10_cartLine_8 rfl ?_
  refine g_get fl_X10_173 q_X10_cartLine_9 (by repeat first | with_reducible assumption | with_reducible exact hput_s _ _ _ | refine (hput_n _ _ (by omega)).trans ?_ | exact hput_s _ _ _ | assumption) rfl ?_
  refine g_topi (b := (zRo x : Int)) (by exact j7) ?_
  refine g_if_ne (tgt := 19) q_X10_cartLine_12 (by decide) ⟨by omega, by omega⟩ (fun b2 => ?_) (fun b2 => ?_)
  case refine_2 => exact bad (by omega)
  rw [if_neg (by omega)]
  clear bad
  have hn : zCa x < 5 := by omega
  refine g_aload_n q_X10_cartLine_19 rfl ?_
  refine g_get fl_X10_13 q_X10_cartLine_20 (by repeat first | with_reducible assumption | with_reducible exact hput_s _ _ _ | refine (hput_n _ _ (by omega)).trans ?_ | exact hput_s _ _ _ | assumption) rfl ?_
  refine g_topi (b := (-1 : Int)) (by rfl) ?_
  refine g_iconst q_X10_cartLine_23 ?_
  refine g_icmp_eq (tgt := 28) q_X10_cartLine_24 (by decide) ⟨by omega, by omega⟩ ⟨by omega, by omega⟩ (fun b3 => ?_) (fun b3 => ?_)
  case refine_2 => exact absurd rfl b3
  refine g_aload_n q_X10_cartLine_28 rfl ?_
  refine g_dup q_X10_cartLine_29 rfl ?_
  refine g_get fl_X10_125 q_X10_cartLine_30 (by repeat first | with_reducible assumption | with_reducible exact hput_s _ _ _ | refine (hput_n _ _ (by omega)).trans ?_ | exact hput_s _ _ _ | assumption) rfl ?_
  refine g_topi (b := (zPo x : Int)) (by rfl) ?_
  refine g_iconst q_X10_cartLine_33 ?_
  refine g_iadd q_X10_cartLine_34 ?_
  refine g_topi (b := ((zPo x + 4 : Nat) : Int)) (by omega) ?_
  refine g_putM fp_X10_125 q_X10_cartLine_35 (by repeat first | with_reducible assumption | with_reducible exact hput_s _ _ _ | refine (hput_n _ _ (by omega)).trans ?_ | exact hput_s _ _ _ | assumption) rfl rfl mset_4 ?_
  rw [pI_4]
  have h1 := hS.put (p' := zPo x + 4) (g' := -1) hp4 ⟨by decide, by decide⟩
  obtain ⟨τ, hτ⟩ : ∃ τ, τ = hput σ m (mdo m (pI J ((zPo x + 4 : Nat) : Int) (-1))) := ⟨_, rfl⟩
  rw [← hτ] at h1 ⊢
  have t00 := h1.1.1
  refine g_aload_n q_X10_cartLine_38 rfl ?_
  refine g_callV (rc' := 0) (rs' := 0) (As := []) cs_X10_189 q_X10_cartLine_39 (sp_isName hΓ h1.h0 h1.h1 oX j3 hl hp4) rfl (by repeat first | with_reducible assumption | with_reducible exact hput_s _ _ _ | refine (hput_n _ _ (by omega)).trans ?_ | exact hput_s _ _ _ | assumption) rfl rfl rfl rfl (Nat.le_of_ble_eq_true rfl) (by decide) (by decide) (by decide) (fun _ _ h => h.elim) (k_rb ?_)
  have hr1 := avn_rg (p := pBl) (tx := tx) hp4
  have hr2 := avn_rg (p := pLe) (tx := tx) hr1.2
  unfold cuR
  obtain ⟨p1, hp1⟩ : ∃ z, z = avn pBl tx len (zPo x + 4) := ⟨_, rfl⟩
  have hid : avn pBl tx len p1 = p1 := by rw [hp1]; exact avn_idem
  rw [← hp1] at hr1 hr2 ⊢
  obtain ⟨p2, hp2⟩ : ∃ z, z = avn pLe tx len p1 := ⟨_, rfl⟩
  rw [← hp2] at hr2 ⊢
  have h2 := h1.put (p' := p1) (g' := -1) hr1.2 ⟨by decide, by decide⟩
  obtain ⟨J2, hJ2⟩ : ∃ J2, J2 = pI (pI J ((zPo x + 4 : Nat) : Int) (-1)) (p1 : Int) (-1) := ⟨_, rfl⟩
  obtain ⟨ρ, hρ⟩ : ∃ ρ, ρ = hput τ m (mdo m J2) := ⟨_, rfl⟩
  rw [← hJ2, ← hρ] at h2
  rw [← hJ2, ← hρ]
  have k0 := h2.h0
  have k00 := h2.1.1
  have k5 : J2 5 = -1 := by rw [hJ2]; rfl
  have k8 := h2.2.2.2.1.2.2.2.2.2
  clear hρ t00 h1 hτ τ
  obtain ⟨Y, hY⟩ : ∃ Y, Y = cu3 tx len (zCo x) (zRo x) (zCa x) (zSO x) (zPL x) (zGO x) (avn pBl tx len p2) (avn pLe tx len (avn pBl tx len p2)) := ⟨_, rfl⟩
  rw [← hY]
  -- a name that can't be
  have at51 : okNm (zNL x) (zLE x) tx (zCa x) p1 p2 = false → ∀ k : Nat, k ≤ 5 → G Γ miX10_cartLine cX10_cartLine (lnW σ m J A N tx len (ctR1 tx x p1 p2 (if okNm (zNL x) (zLE x) tx (zCa x) p1 p2 = false then ((p1 : Nat), 0, 0, 0) else Y))) noX 0 0 51 [some (.ref m), some (.int (ii k))] [] (hput ρ m (mdo m (pI J2 p1 p1))) := by
    intro hb k hk
    rw [if_pos hb, show ctR1 tx x p1 p2 ((p1 : Nat), 0, 0, 0) = ((p1 : Int), x) from if_neg (by show ¬ (p1 : Int) = -1; omega)]
    have h3 := h2.put (p' := p1) (g' := (p1 : Int)) hr1.2 ⟨by omega, by omega⟩
    have e := h3.1.1
    have out : ∀ l, G Γ miX10_cartLine cX10_cartLine (lnW σ m J A N tx len ((p1 : Int), x)) noX 0 0 91 [some (.ref m), some (.int (ii l))] [] (hput ρ m (mdo m (pI J2 p1 p1))) := by
      intro l
      refine g_aload_n q_X10_cartLine_91 rfl ?_
      refine g_get fl_X10_13 q_X10_cartLine_92 (by repeat first | with_reducible assumption | with_reducible exact hput_s _ _ _ | refine (hput_n _ _ (by omega)).trans ?_ | exact hput_s _ _ _ | assumption) rfl ?_
      refine g_topi (b := (p1 : Int)) (by rfl) ?_
      refine g_iconst q_X10_cartLine_95 ?_
      refine g_icmp_eq (tgt := 100) q_X10_cartLine_96 (by decide) ⟨by omega, by omega⟩ ⟨by omega, by omega⟩ (fun b4 => ?_) (fun b4 => ?_)
      · omega
      · refine g_return q_X10_cartLine_99.1 rfl ?_
        exact h3.out oS (by omega)
    refine g_iload_n q_X10_cartLine_51 rfl ?_
    refine g_aload_n q_X10_cartLine_52 rfl ?_
    refine g_get fl_X10_176 q_X10_cartLine_53 (by repeat first | with_reducible assumption | with_reducible exact hput_s _ _ _ | refine (hput_n _ _ (by omega)).trans ?_ | exact hput_s _ _ _ | assumption) rfl ?_
    refine g_topi (b := (zCa x : Int)) (by exact k8) ?_
    refine g_icmp_ge (tgt := 91) q_X10_cartLine_56 (by decide) ⟨by omega, by omega⟩ ⟨by omega, by omega⟩ (fun b4 => ?_) (fun b4 => ?_)
    · exact out _
    refine g_aload_n q_X10_cartLine_59 rfl ?_
    refine g_get fl_X10_13 q_X10_cartLine_60 (by repeat first | with_reducible assumption | with_reducible exact hput_s _ _ _ | refine (hput_n _ _ (by omega)).trans ?_ | exact hput_s _ _ _ | assumption) rfl ?_
    refine g_topi (b := (p1 : Int)) (by rfl) ?_
    refine g_iconst q_X10_cartLine_63 ?_
    refine g_icmp_ne (tgt := 91) q_X10_cartLine_64 (by decide) ⟨by omega, by omega⟩ ⟨by omega, by omega⟩ (fun b5 => ?_) (fun b5 => ?_)
    · exact out _
    · omega
  by_cases hNm : (1 ≤ p2 - p1 ∧ p2 - p1 ≤ 6) ∧ rsW tx p1 p2 = false
  case neg =>
    have e0 : (decide (1 ≤ p2 - p1 ∧ p2 - p1 ≤ 6) && !rsW tx p1 p2) = false := by
      by_cases q : 1 ≤ p2 - p1 ∧ p2 - p1 ≤ 6
      · cases q2 : rsW tx p1 p2 with
        | true => rw [Bool.not_true, Bool.and_false]
        | false => exact absurd ⟨q, q2⟩ hNm
      · rw [decide_eq_false q, Bool.false_and]
    have hb : okNm (zNL x) (zLE x) tx (zCa x) p1 p2 = false := by unfold okNm; rw [e0, Bool.false_and]
    rw [e0]
    refine g_if_ne (tgt := 49) q_X10_cartLine_42 (by decide) (bi_rg _) (fun b4 => ?_) (fun b4 => ?_)
    · exact absurd b4 (by decide)
    refine g_aload_n q_X10_cartLine_45 rfl ?_
    refine g_callV (rc' := 0) (rs' := 0) (As := []) cs_X10_151 q_X10_cartLine_46 (sp_mwrong hΓ k0 ⟨by decide, by decide⟩) rfl (by repeat first | with_reducible assumption | with_reducible exact hput_s _ _ _ | refine (hput_n _ _ (by omega)).trans ?_ | exact hput_s _ _ _ | assumption) rfl rfl rfl rfl (Nat.le_of_ble_eq_true rfl) (by decide) (by decide) (by decide) (fun _ _ h => h.elim) (k_rv ?_)
    rw [if_pos rfl]
    refine g_iconst q_X10_cartLine_49 ?_
    refine g_istore_n (L' := [_, _]) q_X10_cartLine_50 (by decide) rfl ?_
    exact at51 hb 0 (by omega)
  have ht : ∀ j, j < p2 - p1 → 97 ≤ tx (p1 + j) ∧ tx (p1 + j) ≤ 122 := fun j hj => by
    have := avn_all (p := pLe) (tx := tx) (len := len) _ p1 rfl (p1 + j) (by omega) (by rw [← hp2]; omega)
    exact of_decide_eq_true this.2
  rw [show (decide (1 ≤ p2 - p1 ∧ p2 - p1 ≤ 6) && !rsW tx p1 p2) = true by rw [decide_eq_true hNm.1, hNm.2]; rfl]
  refine g_if_ne (tgt := 49) q_X10_cartLine_42 (by decide) (bi_rg _) (fun b4 => ?_) (fun b4 => ?_)
  case refine_2 => exact absurd b4 (by decide)
  refine g_iconst q_X10_cartLine_49 ?_
  refine g_istore_n (L' := [_, _]) q_X10_cartLine_50 (by decide) rfl ?_
  have nm9 : Sp Γ miX10_named 0 0 [.ref m] ρ (fun r σ' => r = some (.long (lb (BitVec.ofInt 64 (nmV tx p1 (p2 - p1))))) ∧ σ' = ρ) noX := by
    have := sp_named hΓ k0 h2.h1 oX h2.2.2.2.1.1 hl hr1.2
    rw [hid, ← hp2, hput_id k0] at this
    exact this
  refine g_loop (fun k : Nat => k ≤ zCa x ∧ ∀ j, j < k → sameN (zNL x) (zLE x) tx p1 (p2 - p1) j = false) (fun k : Nat => G Γ miX10_cartLine cX10_cartLine (lnW σ m J A N tx len (ctR1 tx x p1 p2 (if okNm (zNL x) (zLE x) tx (zCa x) p1 p2 = false then ((p1 : Nat), 0, 0, 0) else Y))) noX 0 0 51 [some (.ref m), some (.int (ii k))] [] ρ) (fun k => zCa x - k) ?_ 0 ⟨Nat.zero_le _, fun j hj => absurd hj (Nat.not_lt_zero j)⟩
  rintro k ⟨hk, hno⟩ ih
  refine g_iload_n q_X10_cartLine_51 rfl ?_
  refine g_aload_n q_X10_cartLine_52 rfl ?_
  refine g_get fl_X10_176 q_X10_cartLine_53 (by repeat first | with_reducible assumption | with_reducible exact hput_s _ _ _ | refine (hput_n _ _ (by omega)).trans ?_ | exact hput_s _ _ _ | assumption) rfl ?_
  refine g_topi (b := (zCa x : Int)) (by exact k8) ?_
  refine g_icmp_ge (tgt := 91) q_X10_cartLine_56 (by decide) ⟨by omega, by omega⟩ ⟨by omega, by omega⟩ (fun b5 => ?_) (fun b5 => ?_)
  · have e : k = zCa x := by omega
    subst e
    have hb : okNm (zNL x) (zLE x) tx (zCa x) p1 p2 = true := by
      unfold okNm
      rw [decide_eq_true hNm.1, hNm.2, decide_eq_false (fun ⟨j, q1, q2⟩ => by rw [hno j q1] at q2; cases q2)]
      rfl
    rw [if_neg (by rw [hb]; decide)]
    refine g_aload_n q_X10_cartLine_91 rfl ?_
    refine g_get fl_X10_13 q_X10_cartLine_92 (by repeat first | with_reducible assumption | with_reducible exact hput_s _ _ _ | refine (hput_n _ _ (by omega)).trans ?_ | exact hput_s _ _ _ | assumption) rfl ?_
    refine g_topi (b := (-1 : Int)) (by exact k5) ?_
    refine g_iconst q_X10_cartLine_95 ?_
    refine g_icmp_eq (tgt := 100) q_X10_cartLine_96 (by decide) ⟨by omega, by omega⟩ ⟨by omega, by omega⟩ (fun b6 => ?_) (fun b6 => ?_)
    case refine_2 => exact absurd rfl b6
    have t3 := h2.1.a3
    refine g_aload_n q_X10_cartLine_100 rfl ?_
    refine g_get fl_X10_20 q_X10_cartLine_101 (by repeat first | with_reducible assumption | with_reducible exact hput_s _ _ _ | refine (hput_n _ _ (by omega)).trans ?_ | exact hput_s _ _ _ | assumption) rfl ?_
    refine g_aload_n q_X10_cartLine_104 rfl ?_
    refine g_get fl_X10_176 q_X10_cartLine_105 (by repeat first | with_reducible assumption | with_reducible exact hput_s _ _ _ | refine (hput_n _ _ (by omega)).trans ?_ | exact hput_s _ _ _ | assumption) rfl ?_
    refine g_topi (b := (zCa x : Int)) (by exact k8) ?_
    refine g_aload_n q_X10_cartLine_108 rfl ?_
    refine g_callV (rc' := 0) (rs' := 0) (As := []) cs_X10_193 q_X10_cartLine_109 (nm9) rfl (by repeat first | with_reducible assumption | with_reducible exact hput_s _ _ _ | refine (hput_n _ _ (by omega)).trans ?_ | exact hput_s _ _ _ | assumption) rfl rfl rfl rfl (Nat.le_of_ble_eq_true rfl) (by decide) (by decide) (by decide) (fun _ _ h => h.elim) (fun v ρ' hq => ?_)
    obtain ⟨rfl, hq2⟩ := hq
    rw [hq2]
    clear hq2 ρ'
    refine g_lastore q_X10_cartLine_112 (by repeat first | with_reducible assumption | with_reducible exact hput_s _ _ _ | refine (hput_n _ _ (by omega)).trans ?_ | exact hput_s _ _ _ | assumption) (by omega) (by omega) ?_
    rw [Int.toNat_natCast]
    have h3 := h2.n3 (BitVec.ofInt 64 (nmV tx p1 (p2 - p1)))
    obtain ⟨ω, hω⟩ : ∃ ω, ω = hput ρ (m + 3) (al 5 (va_up (N 3) (zCa x) (BitVec.ofInt 64 (nmV tx p1 (p2 - p1))))) := ⟨_, rfl⟩
    rw [← hω] at h3 ⊢
    have m0 := h3.h0
    have m00 := h3.1.1
    refine g_aload_n q_X10_cartLine_113 rfl ?_
    refine g_dup q_X10_cartLine_114 rfl ?_
    refine g_get fl_X10_125 q_X10_cartLine_115 (by repeat first | with_reducible assumption | with_reducible exact hput_s _ _ _ | refine (hput_n _ _ (by omega)).trans ?_ | exact hput_s _ _ _ | assumption) rfl ?_
    refine g_topi (b := (p1 : Int)) (by exact h3.2.2.2.1.2.1) ?_
    refine g_aload_n q_X10_cartLine_118 rfl ?_
    refine g_callV (rc' := 0) (rs' := 0) (As := []) cs_X10_135 q_X10_cartLine_119 (sp_wordSize hΓ m0 h3.h1 oX h3.2.2.2.1.1 hl hr1.2) rfl (by repeat first | with_reducible assumption | with_reducible exact hput_s _ _ _ | refine (hput_n _ _ (by omega)).trans ?_ | exact hput_s _ _ _ | assumption) rfl rfl rfl rfl (Nat.le_of_ble_eq_true rfl) (by decide) (by decide) (by decide) (fun _ _ h => h.elim) (k_ri ?_)
    rw [hid, ← hp2, hput_id m0]
    refine g_iadd q_X10_cartLine_122 ?_
    refine g_topi (b := (p2 : Int)) (by omega) ?_
    refine g_eq (σ2 := hput ω m (mdo m (pI J2 p1 (-1)))) rfl rfl (hput_id m0).symm ?_
    have m1 : (hput ω m (mdo m (pI J2 p1 (-1)))).2 m = some (mdo m (pI J2 p1 (-1))) := hput_s _ _ _
    refine g_putM fp_X10_125 q_X10_cartLine_123 (by repeat first | with_reducible assumption | with_reducible exact hput_s _ _ _ | refine (hput_n _ _ (by omega)).trans ?_ | exact hput_s _ _ _ | assumption) rfl rfl mset_4 ?_
    rw [hput_hput, pI_4, hY]
    refine g_fl (L2 := [some (.ref m), none]) ?_ ⟨rfl, trivial⟩
    exact ct_126 hΓ (h3.put (p' := p2) (g' := -1) hr2.2 ⟨by decide, by decide⟩) hz oS hA2 oX hl hn (by rw [va_eq, va_eq])
  refine g_aload_n q_X10_cartLine_59 rfl ?_
  refine g_get fl_X10_13 q_X10_cartLine_60 (by repeat first | with_reducible assumption | with_reducible exact hput_s _ _ _ | refine (hput_n _ _ (by omega)).trans ?_ | exact hput_s _ _ _ | assumption) rfl ?_
  refine g_topi (b := (-1 : Int)) (by exact k5) ?_
  refine g_iconst q_X10_cartLine_63 ?_
  refine g_icmp_ne (tgt := 91) q_X10_cartLine_64 (by decide) ⟨by omega, by omega⟩ ⟨by omega, by omega⟩ (fun b6 => ?_) (fun b6 => ?_)
  · exact absurd rfl b6
  have t3 := h2.1.a3
  have e3 := (hA4 k (by omega)).2.2
  obtain ⟨l1, l2⟩ := wf.2.2.2 k (by omega)
  have hN6 := hz.2.2.2.2.2.2 k
  have hsm := nm_same (tx := tx) (LE := zLE x) (NL := zNL x) (k := k) (p1 := p1) (w := p2 - p1) ⟨l1, hN6.2⟩ l2 hNm.1 ht
  refine g_aload_n q_X10_cartLine_67 rfl ?_
  refine g_get fl_X10_20 q_X10_cartLine_68 (by repeat first | with_reducible assumption | with_reducible exact hput_s _ _ _ | refine (hput_n _ _ (by omega)).trans ?_ | exact hput_s _ _ _ | assumption) rfl ?_
  refine g_iload_n q_X10_cartLine_71 rfl ?_
  refine g_laload q_X10_cartLine_72 (by repeat first | with_reducible assumption | with_reducible exact hput_s _ _ _ | refine (hput_n _ _ (by omega)).trans ?_ | exact hput_s _ _ _ | assumption) (by omega) (by omega) ?_
  refine g_top (v' := .long (lb (BitVec.ofInt 64 (nmV (zLE x) (6 * k) (zNL x k).toNat)))) (congrArg (fun x => Value.long (lb x)) (by rw [← e3]; rfl)) ?_
  refine g_aload_n q_X10_cartLine_73 rfl ?_
  refine g_callV (rc' := 0) (rs' := 0) (As := []) cs_X10_193 q_X10_cartLine_74 (nm9) rfl (by repeat first | with_reducible assumption | with_reducible exact hput_s _ _ _ | refine (hput_n _ _ (by omega)).trans ?_ | exact hput_s _ _ _ | assumption) rfl rfl rfl rfl (Nat.le_of_ble_eq_true rfl) (by decide) (by decide) (by decide) (fun _ _ h => h.elim) (fun v ρ' hq => ?_)
  obtain ⟨rfl, hq2⟩ := hq
  rw [hq2]
  clear hq2 ρ'
  refine g_lcmp q_X10_cartLine_77 ?_
  refine g_if_ne (tgt := 85) q_X10_cartLine_78 (by decide) (lcm_rg _ _) (fun b7 => ?_) (fun b7 => ?_)
  · have hs : sameN (zNL x) (zLE x) tx p1 (p2 - p1) k = false := by
      cases e : sameN (zNL x) (zLE x) tx p1 (p2 - p1) k with
      | false => rfl
      | true => exact absurd (hsm.mpr e) b7
    have hnx := ih (k + 1) ⟨by omega, fun j hj => by
      by_cases ej : j = k
      · rw [ej]; exact hs
      · exact hno j (by omega)⟩ (by omega)
    refine g_iinc (L' := [_, _]) q_X10_cartLine_85 rfl rfl ?_
    refine g_goto (tgt := 51) q_X10_cartLine_88 (by decide) ?_
    exact hnx
  · have hs := hsm.mp b7
    have hb : okNm (zNL x) (zLE x) tx (zCa x) p1 p2 = false := by
      unfold okNm
      rw [decide_eq_true (show ∃ j, j < zCa x ∧ sameN (zNL x) (zLE x) tx p1 (p2 - p1) j = true from ⟨k, by omega, hs⟩), Bool.not_true, Bool.and_false]
    refine g_aload_n q_X10_cartLine_81 rfl ?_
    refine g_callV (rc' := 0) (rs' := 0) (As := []) cs_X10_151 q_X10_cartLine_82 (sp_mwrong hΓ k0 ⟨by decide, by decide⟩) rfl (by repeat first | with_reducible assumption | with_reducible exact hput_s _ _ _ | refine (hput_n _ _ (by omega)).trans ?_ | exact hput_s _ _ _ | assumption) rfl rfl rfl rfl (Nat.le_of_ble_eq_true rfl) (by decide) (by decide) (by decide) (fun _ _ h => h.elim) (k_rv ?_)
    rw [if_pos rfl]
    refine g_iinc (L' := [_, _]) q_X10_cartLine_85 rfl rfl ?_
    refine g_goto (tgt := 51) q_X10_cartLine_88 (by decide) ?_
    exact at51 hb (k + 1) (by omega)
end MCu

