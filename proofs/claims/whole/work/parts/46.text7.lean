/-! TextReader: takeCart -/
def okG (cols rows carts : Nat) (SO PL GO LE NL : Nat → Int) : Prop := (cols ≤ 6 ∧ rows ≤ 6 ∧ carts ≤ 5) ∧ okS SO ∧ okQ carts PL ∧ okQ carts GO ∧ (∀ k, rg (LE k)) ∧ ∀ k, 0 ≤ NL k ∧ NL k ≤ 6
def cu4 (tx : Nat → Int) (len cols rows carts : Nat) (SO GO : Nat → Int) (v1 : Int) (p6 p7 : Nat) : Int × Nat × Int × Int :=
  if isW tx p6 p7 2 k_to = false then ((p6 : Int), 0, 0, 0)
  else if (tcR tx len cols rows carts SO GO p7 (-1)).1 = -1 then ((tcR tx len cols rows carts SO GO p7 (-1)).2.2, 0, 0, 0)
  else (-1, (tcR tx len cols rows carts SO GO p7 (-1)).2.1, v1, (tcR tx len cols rows carts SO GO p7 (-1)).1)
def cu3 (tx : Nat → Int) (len cols rows carts : Nat) (SO PL GO : Nat → Int) (p3 p4 : Nat) : Int × Nat × Int × Int :=
  if isW tx p3 p4 2 k_at = false then ((p3 : Int), 0, 0, 0)
  else if (tcR tx len cols rows carts SO PL p4 (-1)).1 = -1 then ((tcR tx len cols rows carts SO PL p4 (-1)).2.2, 0, 0, 0)
  else cu4 tx len cols rows carts SO GO (tcR tx len cols rows carts SO PL p4 (-1)).1 (avn pBl tx len (tcR tx len cols rows carts SO PL p4 (-1)).2.1) (avn pLe tx len (avn pBl tx len (tcR tx len cols rows carts SO PL p4 (-1)).2.1))
/-- a cart's line behind its first word: the fault or -1, the place behind it, place, goal -/
def cuR (tx : Nat → Int) (len cols rows carts : Nat) (SO PL GO LE NL : Nat → Int) (pos : Nat) : Int × Nat × Int × Int :=
  if okNm NL LE tx carts (avn pBl tx len pos) (avn pLe tx len (avn pBl tx len pos)) = false then ((avn pBl tx len pos : Nat), 0, 0, 0)
  else cu3 tx len cols rows carts SO PL GO (avn pBl tx len (avn pLe tx len (avn pBl tx len pos))) (avn pLe tx len (avn pBl tx len (avn pLe tx len (avn pBl tx len pos))))
theorem tcR_rg {tx : Nat → Int} {len cols rows carts : Nat} {SO OT : Nat → Int} {pos : Nat} {fa : Int} (hc : cols ≤ 6) (hr : rows ≤ 6) (hp : pos ≤ len) : ((tcR tx len cols rows carts SO OT pos fa).1 = -1 ∧ 0 ≤ (tcR tx len cols rows carts SO OT pos fa).2.2 ∨ 0 ≤ (tcR tx len cols rows carts SO OT pos fa).1 ∧ (tcR tx len cols rows carts SO OT pos fa).1 < 36 ∧ (tcR tx len cols rows carts SO OT pos fa).2.2 = fa ∧ (tcR tx len cols rows carts SO OT pos fa).1 % 6 < cols ∧ (tcR tx len cols rows carts SO OT pos fa).1 / 6 < rows ∧ SO (tcR tx len cols rows carts SO OT pos fa).1.toNat ≠ 1 ∧ ∀ k, k < carts → OT k ≠ (tcR tx len cols rows carts SO OT pos fa).1) ∧ pos ≤ (tcR tx len cols rows carts SO OT pos fa).2.1 ∧ (tcR tx len cols rows carts SO OT pos fa).2.1 ≤ len := by
  have hxr := tnV_rg (tx := tx) (len := len) (pos := pos) (lim := cols) ⟨by omega, by omega⟩
  have hp1r := tnP_rg (tx := tx) hp
  have hyr := tnV_rg (tx := tx) (len := len) (pos := tnP tx len pos) (lim := rows) ⟨by omega, by omega⟩
  have hp2r := tnP_rg (tx := tx) hp1r.2
  unfold tcR
  split
  · exact ⟨Or.inl ⟨rfl, Int.natCast_nonneg _⟩, by show pos ≤ tnP tx len pos; omega, hp1r.2⟩
  · split
    · exact ⟨Or.inl ⟨rfl, Int.natCast_nonneg _⟩, by show pos ≤ tnP tx len (tnP tx len pos); omega, hp2r.2⟩
    · rename_i e1 e2
      split
      · have h2 : tnP tx len (tnP tx len pos) = tnS tx len (tnP tx len pos) + 1 := by
          unfold tnV at e2
          split at e2
          · rename_i h9; exact h9.1
          · exact absurd rfl e2
        exact ⟨Or.inl ⟨rfl, by show 0 ≤ (tnP tx len (tnP tx len pos) : Int) - 1; omega⟩, by show pos ≤ tnP tx len (tnP tx len pos); omega, hp2r.2⟩
      · rename_i e3
        have hx : 0 ≤ tnV tx len cols pos ∧ tnV tx len cols pos < cols := by omega
        have hy : 0 ≤ tnV tx len rows (tnP tx len pos) ∧ tnV tx len rows (tnP tx len pos) < rows := by omega
        refine ⟨Or.inr ⟨by show 0 ≤ 6 * tnV tx len rows (tnP tx len pos) + tnV tx len cols pos; omega, by show 6 * tnV tx len rows (tnP tx len pos) + tnV tx len cols pos < 36; omega, rfl, by show (6 * tnV tx len rows (tnP tx len pos) + tnV tx len cols pos) % 6 < cols; omega, by show (6 * tnV tx len rows (tnP tx len pos) + tnV tx len cols pos) / 6 < rows; omega, fun q => e3 (Or.inl q), fun k hk q => e3 (Or.inr ?_)⟩, by show pos ≤ tnP tx len (tnP tx len pos); omega, hp2r.2⟩
        exact fst_ex.mpr ⟨k, hk, q⟩
theorem okQ_up {n c : Nat} {P : Nat → Int} (h : okQ n P) {z : Int} (hz : -1 ≤ z ∧ z < 36) (hc : n ≤ c) : okQ n (va_up P c z) := fun k => by
  have hk := h k
  unfold va_up
  split
  · exact ⟨hz, fun q => by omega⟩
  · exact hk
theorem okQ_s {n : Nat} {P : Nat → Int} (h : okQ n P) {z : Int} (hz : 0 ≤ z ∧ z < 36) : okQ (n + 1) (va_up P n z) := fun k => by
  have hk := h k
  unfold va_up
  split
  · exact ⟨⟨by omega, hz.2⟩, fun _ => hz.1⟩
  · exact ⟨hk.1, fun q => hk.2 (by omega)⟩
theorem rg_cpy {tx LE : Nat → Int} (oX : okX tx) (oL : ∀ k, rg (LE k)) (a b n : Nat) : ∀ k, rg (va_cpy tx LE a b n k) := fun k => by
  unfold va_cpy
  split
  · have := oX (a + (k - b)); exact ⟨by omega, by omega⟩
  · exact oL k
theorem nl_up {NL : Nat → Int} (oN : ∀ k, 0 ≤ NL k ∧ NL k ≤ 6) {c m : Nat} (hm : m ≤ 6) : ∀ k, 0 ≤ va_up NL c (m : Int) k ∧ va_up NL c (m : Int) k ≤ 6 := fun k => by
  have := oN k
  unfold va_up
  split <;> omega
section TX7
variable {Γ : GT} {σ : AH} {r len pos ws : Nat} {tx : Nat → Int} {cols rows carts : Nat} {SO PL GO LE NL : Nat → Int} {lv : Nat → BitVec 64}
def cuQ (σ : AH) (r len cols rows carts : Nat) (SO : Nat → Int) (lv : Nat → BitVec 64) (x : Int × Nat × Int × Int) (PL GO LE NL : Nat → Int) : Option Value → AH → Prop := fun v σ' => eqOff σ σ' (fun a => a = r ∨ inb (r + 2) 7 a) ∧ ((x.1 = -1 ∧ v = some (.int (ii (bi true))) ∧ (∃ ws', σ'.2 r = some (rdo r len x.2.1 (-1) ws')) ∧ SCo σ' (r + 2) cols rows (carts + 1) SO (va_up PL carts x.2.2.1) (va_up GO carts x.2.2.2) LE NL lv) ∨ (x.1 ≠ -1 ∧ v = some (.int (ii (bi false))) ∧ ∃ pos' ws' PL' GO' LE' NL', pos' ≤ len ∧ σ'.2 r = some (rdo r len pos' x.1 ws') ∧ SCo σ' (r + 2) cols rows carts SO PL' GO' LE' NL' lv ∧ okG cols rows carts SO PL' GO' LE' NL'))
theorem sp_takeCart (hΓ : Gd Γ) (h0 : σ.2 r = some (rdo r len pos (-1) ws)) (h1 : σ.2 (r + 1) = some (ai 400 tx)) (oX : okX tx) (hl : len ≤ 400) (hp : pos ≤ len) (hS : SCo σ (r + 2) cols rows carts SO PL GO LE NL lv) (hok : okG cols rows carts SO PL GO LE NL) (hc5 : carts < 5) : Sp Γ miX5_takeCart 0 0 [.ref r] σ (cuQ σ r len cols rows carts SO lv (cuR tx len cols rows carts SO PL GO LE NL pos) PL GO (va_cpy tx LE (avn pBl tx len pos) (6 * carts) (avn pLe tx len (avn pBl tx len pos) - avn pBl tx len pos)) (va_up NL carts ((avn pLe tx len (avn pBl tx len pos) - avn pBl tx len pos : Nat) : Int))) noX := by
  have hr1 := avn_rg (p := pBl) (tx := tx) hp
  have hr2 := avn_rg (p := pLe) (tx := tx) hr1.2
  obtain ⟨q3, u3, ka, sa⟩ := str_X5_99 hΓ
  obtain ⟨q4, u4, kt, st⟩ := str_X5_111 hΓ
  obtain ⟨⟨c6, r6, n5⟩, oS, oP, oG, oL, oN⟩ := hok
  have oSr : ∀ k, rg (SO k) := fun k => by have := oS k; exact ⟨by omega, by omega⟩
  obtain ⟨g0, g1, g2, g3, g4, g5, g6⟩ := hS
  unfold cuR
  obtain ⟨p1, hp1⟩ : ∃ z, z = avn pBl tx len pos := ⟨_, rfl⟩
  rw [← hp1] at hr1 hr2 ⊢
  obtain ⟨p2, hp2⟩ : ∃ z, z = avn pLe tx len p1 := ⟨_, rfl⟩
  rw [← hp2] at hr2 ⊢
  have hr3 := avn_rg (p := pBl) (tx := tx) hr2.2
  obtain ⟨p3, hp3⟩ : ∃ z, z = avn pBl tx len p2 := ⟨_, rfl⟩
  rw [← hp3] at hr3 ⊢
  have hr4 := avn_rg (p := pLe) (tx := tx) hr3.2
  obtain ⟨p4, hp4⟩ : ∃ z, z = avn pLe tx len p3 := ⟨_, rfl⟩
  rw [← hp4] at hr4 ⊢
  refine Sp_of (L := [_, _]) hΓ (by decide +kernel) rfl (Nat.le_of_ble_eq_true rfl) rfl ?_
  refine g_aload_n q_X5_takeCart_0 rfl ?_
  refine g_get fl_X5_31 q_X5_takeCart_1 (by repeat first | with_reducible assumption | with_reducible exact hput_s _ _ _ | refine (hput_n _ _ (by omega)).trans ?_ | exact hput_s _ _ _ | assumption) rfl ?_
  refine g_get fl_X5_57 q_X5_takeCart_4 (by repeat first | with_reducible assumption | with_reducible exact hput_s _ _ _ | refine (hput_n _ _ (by omega)).trans ?_ | exact hput_s _ _ _ | assumption) rfl ?_
  refine g_istore_n (L' := [_, _]) q_X5_takeCart_7 (by decide) rfl ?_
  refine g_aload_n q_X5_takeCart_8 rfl ?_
  refine g_iload_n q_X5_takeCart_9 rfl ?_
  refine g_callV (rc' := 0) (rs' := 0) (As := [_]) cs_X5_96 q_X5_takeCart_10 (sp_takeName hΓ h0 h1 oX hl hp g0 g4 g5 oL oN n5 carts hc5) rfl (by repeat first | with_reducible assumption | with_reducible exact hput_s _ _ _ | refine (hput_n _ _ (by omega)).trans ?_ | exact hput_s _ _ _ | assumption) rfl rfl rfl rfl (Nat.le_of_ble_eq_true rfl) (by decide) (by decide) (by decide) (fun _ _ h => h.elim) (fun v σ1 hq => ?_)
  rw [← hp1, ← hp2] at hq
  obtain ⟨hb, rfl, h1e⟩ | ⟨hb, rfl, h1e⟩ := hq
  case inr =>
    rw [if_pos hb]
    refine g_if_eq (tgt := 25) q_X5_takeCart_13 (by decide) (bi_rg _) (fun e1 => ?_) (fun e1 => ?_)
    · refine g_iconst q_X5_takeCart_25 ?_
      refine g_zreturn q_X5_takeCart_26.1 rfl (by first | exact Or.inl rfl | exact Or.inr rfl | omega) ?_
      rw [h1e]
      refine ⟨eqOff.rfl'.put (Or.inl rfl) _, Or.inr ⟨by show (p1 : Int) ≠ -1; omega, rfl, p2, p1, PL, GO, LE, NL, hr2.2, hput_s _ _ _, ?_, ⟨c6, r6, n5⟩, oS, oP, oG, oL, oN⟩⟩
      exact ⟨(by repeat first | with_reducible assumption | with_reducible exact hput_s _ _ _ | refine (hput_n _ _ (by omega)).trans ?_ | exact hput_s _ _ _ | assumption), (by repeat first | with_reducible assumption | with_reducible exact hput_s _ _ _ | refine (hput_n _ _ (by omega)).trans ?_ | exact hput_s _ _ _ | assumption), (by repeat first | with_reducible assumption | with_reducible exact hput_s _ _ _ | refine (hput_n _ _ (by omega)).trans ?_ | exact hput_s _ _ _ | assumption), (by repeat first | with_reducible assumption | with_reducible exact hput_s _ _ _ | refine (hput_n _ _ (by omega)).trans ?_ | exact hput_s _ _ _ | assumption), (by repeat first | with_reducible assumption | with_reducible exact hput_s _ _ _ | refine (hput_n _ _ (by omega)).trans ?_ | exact hput_s _ _ _ | assumption), (by repeat first | with_reducible assumption | with_reducible exact hput_s _ _ _ | refine (hput_n _ _ (by omega)).trans ?_ | exact hput_s _ _ _ | assumption), (by repeat first | with_reducible assumption | with_reducible exact hput_s _ _ _ | refine (hput_n _ _ (by omega)).trans ?_ | exact hput_s _ _ _ | assumption)⟩
    · exact absurd rfl e1
  rw [if_neg (by rw [hb]; decide)]
  obtain ⟨LE', hLE⟩ : ∃ f, f = va_cpy tx LE p1 (6 * carts) (p2 - p1) := ⟨_, rfl⟩
  obtain ⟨NL', hNL⟩ : ∃ f, f = va_up NL carts ((p2 - p1 : Nat) : Int) := ⟨_, rfl⟩
  have hm6 : p2 - p1 ≤ 6 := by
    unfold okNm at hb
    simp only [Bool.and_eq_true] at hb
    exact (of_decide_eq_true hb.1.1).2
  have oL' : ∀ k, rg (LE' k) := by rw [hLE]; exact rg_cpy oX oL _ _ _
  have oN' : ∀ k, 0 ≤ NL' k ∧ NL' k ≤ 6 := by rw [hNL]; exact nl_up oN hm6
  rw [← hLE, ← hNL] at h1e ⊢
  have k0 : σ1.2 r = some (rdo r len p2 (-1) p1) := by rw [h1e]; exact (by repeat first | with_reducible assumption | with_reducible exact hput_s _ _ _ | refine (hput_n _ _ (by omega)).trans ?_ | exact hput_s _ _ _ | assumption)
  have k1 : σ1.2 (r + 1) = some (ai 400 tx) := by rw [h1e]; exact (by repeat first | with_reducible assumption | with_reducible exact hput_s _ _ _ | refine (hput_n _ _ (by omega)).trans ?_ | exact hput_s _ _ _ | assumption)
  have k2 : SCo σ1 (r + 2) cols rows carts SO PL GO LE' NL' lv := by rw [h1e]; exact ⟨(by repeat first | with_reducible assumption | with_reducible exact hput_s _ _ _ | refine (hput_n _ _ (by omega)).trans ?_ | exact hput_s _ _ _ | assumption), (by repeat first | with_reducible assumption | with_reducible exact hput_s _ _ _ | refine (hput_n _ _ (by omega)).trans ?_ | exact hput_s _ _ _ | assumption), (by repeat first | with_reducible assumption | with_reducible exact hput_s _ _ _ | refine (hput_n _ _ (by omega)).trans ?_ | exact hput_s _ _ _ | assumption), (by repeat first | with_reducible assumption | with_reducible exact hput_s _ _ _ | refine (hput_n _ _ (by omega)).trans ?_ | exact hput_s _ _ _ | assumption), (by repeat first | with_reducible assumption | with_reducible exact hput_s _ _ _ | refine (hput_n _ _ (by omega)).trans ?_ | exact hput_s _ _ _ | assumption), (by repeat first | with_reducible assumption | with_reducible exact hput_s _ _ _ | refine (hput_n _ _ (by omega)).trans ?_ | exact hput_s _ _ _ | assumption), (by repeat first | with_reducible assumption | with_reducible exact hput_s _ _ _ | refine (hput_n _ _ (by omega)).trans ?_ | exact hput_s _ _ _ | assumption)⟩
  have hE1 : eqOff σ σ1 (fun a => a = r ∨ inb (r + 2) 7 a) := by rw [h1e]; exact ((eqOff.rfl'.put (Or.inl rfl) _).put (Or.inr ⟨by omega, by omega⟩) _).put (Or.inr ⟨by omega, by omega⟩) _
  clear h1e
  obtain ⟨g0, g1, g2, g3, g4, g5, g6⟩ := k2
  have bad : ∀ (F : Int) (x : Int × Nat × Int × Int) (σ2 : AH), x.1 = F → F ≠ -1 → eqOff σ σ2 (fun a => a = r ∨ inb (r + 2) 7 a) → (∃ pos' ws' PL' GO' LE' NL', pos' ≤ len ∧ σ2.2 r = some (rdo r len pos' F ws') ∧ SCo σ2 (r + 2) cols rows carts SO PL' GO' LE' NL' lv ∧ okG cols rows carts SO PL' GO' LE' NL') → cuQ σ r len cols rows carts SO lv x PL GO LE' NL' (some (.int (ii (bi false)))) σ2 := by
    intro F x σ2 h1 h2 h3 h4
    refine ⟨h3, Or.inr ⟨by rw [h1]; exact h2, rfl, ?_⟩⟩
    rw [h1]
    exact h4
  refine g_if_eq (tgt := 25) q_X5_takeCart_13 (by decide) (bi_rg _) (fun e1 => ?_) (fun e1 => ?_)
  · exact absurd e1 (by decide)
  refine g_aload_n q_X5_takeCart_16 rfl ?_
  refine g_ldcS rfl ka q_X5_takeCart_17 ?_
  refine g_callV (rc' := 0) (rs' := 0) (As := [_]) cs_X5_101 q_X5_takeCart_19 (sp_takeGiven hΓ k0 k1 oX hl hr2.2 sa kr_at (by decide)) rfl (by repeat first | with_reducible assumption | with_reducible exact hput_s _ _ _ | refine (hput_n _ _ (by omega)).trans ?_ | exact hput_s _ _ _ | assumption) rfl rfl rfl rfl (Nat.le_of_ble_eq_true rfl) (by decide) (by decide) (by decide) (fun _ _ h => h.elim) (k_rb ?_)
  rw [← hp3, ← hp4]
  unfold cu3
  cases hw : isW tx p3 p4 2 k_at with
  | false =>
    rw [if_pos rfl, if_neg (by decide)]
    refine g_if_ne (tgt := 27) q_X5_takeCart_22 (by decide) (bi_rg _) (fun e2 => ?_) (fun e2 => ?_)
    · exact absurd rfl e2
    · refine g_iconst q_X5_takeCart_25 ?_
      refine g_zreturn q_X5_takeCart_26.1 rfl (by first | exact Or.inl rfl | exact Or.inr rfl | omega) ?_
      refine bad p3 _ _ rfl (by omega) (hE1.put (Or.inl rfl) _) ⟨p4, p3, PL, GO, LE', NL', hr4.2, hput_s _ _ _, ?_, ⟨c6, r6, n5⟩, oS, oP, oG, oL', oN'⟩
      exact ⟨(by repeat first | with_reducible assumption | with_reducible exact hput_s _ _ _ | refine (hput_n _ _ (by omega)).trans ?_ | exact hput_s _ _ _ | assumption), (by repeat first | with_reducible assumption | with_reducible exact hput_s _ _ _ | refine (hput_n _ _ (by omega)).trans ?_ | exact hput_s _ _ _ | assumption), (by repeat first | with_reducible assumption | with_reducible exact hput_s _ _ _ | refine (hput_n _ _ (by omega)).trans ?_ | exact hput_s _ _ _ | assumption), (by repeat first | with_reducible assumption | with_reducible exact hput_s _ _ _ | refine (hput_n _ _ (by omega)).trans ?_ | exact hput_s _ _ _ | assumption), (by repeat first | with_reducible assumption | with_reducible exact hput_s _ _ _ | refine (hput_n _ _ (by omega)).trans ?_ | exact hput_s _ _ _ | assumption), (by repeat first | with_reducible assumption | with_reducible exact hput_s _ _ _ | refine (hput_n _ _ (by omega)).trans ?_ | exact hput_s _ _ _ | assumption), (by repeat first | with_reducible assumption | with_reducible exact hput_s _ _ _ | refine (hput_n _ _ (by omega)).trans ?_ | exact hput_s _ _ _ | assumption)⟩
  | true =>
  rw [if_neg (by decide), if_pos rfl]
  obtain ⟨σ2, h2e⟩ : ∃ τ, τ = hput σ1 r (rdo r len p4 (-1) p3) := ⟨_, rfl⟩
  have m0 : σ2.2 r = some (rdo r len p4 (-1) p3) := by rw [h2e]; exact (by repeat first | with_reducible assumption | with_reducible exact hput_s _ _ _ | refine (hput_n _ _ (by omega)).trans ?_ | exact hput_s _ _ _ | assumption)
  have m1 : σ2.2 (r + 1) = some (ai 400 tx) := by rw [h2e]; exact (by repeat first | with_reducible assumption | with_reducible exact hput_s _ _ _ | refine (hput_n _ _ (by omega)).trans ?_ | exact hput_s _ _ _ | assumption)
  have m2 : SCo σ2 (r + 2) cols rows carts SO PL GO LE' NL' lv := by rw [h2e]; exact ⟨(by repeat first | with_reducible assumption | with_reducible exact hput_s _ _ _ | refine (hput_n _ _ (by omega)).trans ?_ | exact hput_s _ _ _ | assumption), (by repeat first | with_reducible assumption | with_reducible exact hput_s _ _ _ | refine (hput_n _ _ (by omega)).trans ?_ | exact hput_s _ _ _ | assumption), (by repeat first | with_reducible assumption | with_reducible exact hput_s _ _ _ | refine (hput_n _ _ (by omega)).trans ?_ | exact hput_s _ _ _ | assumption), (by repeat first | with_reducible assumption | with_reducible exact hput_s _ _ _ | refine (hput_n _ _ (by omega)).trans ?_ | exact hput_s _ _ _ | assumption), (by repeat first | with_reducible assumption | with_reducible exact hput_s _ _ _ | refine (hput_n _ _ (by omega)).trans ?_ | exact hput_s _ _ _ | assumption), (by repeat first | with_reducible assumption | with_reducible exact hput_s _ _ _ | refine (hput_n _ _ (by omega)).trans ?_ | exact hput_s _ _ _ | assumption), (by repeat first | with_reducible assumption | with_reducible exact hput_s _ _ _ | refine (hput_n _ _ (by omega)).trans ?_ | exact hput_s _ _ _ | assumption)⟩
  have hE2 : eqOff σ σ2 (fun a => a = r ∨ inb (r + 2) 7 a) := by rw [h2e]; exact hE1.put (Or.inl rfl) _
  refine g_eq (σ2 := σ2) rfl rfl h2e.symm ?_
  clear h2e g0 g1 g2 g3 g4 g5 g6
  obtain ⟨g0, g1, g2, g3, g4, g5, g6⟩ := m2
  refine g_if_ne (tgt := 27) q_X5_takeCart_22 (by decide) (bi_rg _) (fun e2 => ?_) (fun e2 => ?_)
  case refine_2 => exact absurd e2 (by decide)
  have hT1 := tcR_rg (tx := tx) (len := len) (carts := carts) (SO := SO) (OT := PL) (fa := -1) c6 r6 hr4.2
  obtain ⟨T1, hT1e⟩ : ∃ T, T = tcR tx len cols rows carts SO PL p4 (-1) := ⟨_, rfl⟩
  rw [← hT1e] at hT1 ⊢
  refine g_aload_n q_X5_takeCart_27 rfl ?_
  refine g_get fl_X5_31 q_X5_takeCart_28 (by repeat first | with_reducible assumption | with_reducible exact hput_s _ _ _ | refine (hput_n _ _ (by omega)).trans ?_ | exact hput_s _ _ _ | assumption) rfl ?_
  refine g_get fl_X5_104 q_X5_takeCart_31 (by repeat first | with_reducible assumption | with_reducible exact hput_s _ _ _ | refine (hput_n _ _ (by omega)).trans ?_ | exact hput_s _ _ _ | assumption) rfl ?_
  refine g_iload_n q_X5_takeCart_34 rfl ?_
  refine g_aload_n q_X5_takeCart_35 rfl ?_
  refine g_aload_n q_X5_takeCart_36 rfl ?_
  refine g_get fl_X5_31 q_X5_takeCart_37 (by repeat first | with_reducible assumption | with_reducible exact hput_s _ _ _ | refine (hput_n _ _ (by omega)).trans ?_ | exact hput_s _ _ _ | assumption) rfl ?_
  refine g_get fl_X5_104 q_X5_takeCart_40 (by repeat first | with_reducible assumption | with_reducible exact hput_s _ _ _ | refine (hput_n _ _ (by omega)).trans ?_ | exact hput_s _ _ _ | assumption) rfl ?_
  refine g_callV (rc' := 0) (rs' := 0) (As := [_]) cs_X5_107 q_X5_takeCart_43 (sp_takeCell hΓ m0 m1 oX hl hr4.2 g0 g1 oSr g2 (by omega) (fun k => by have := (oP k).1; exact ⟨by omega, by omega⟩) c6 r6 n5) rfl (by repeat first | with_reducible assumption | with_reducible exact hput_s _ _ _ | refine (hput_n _ _ (by omega)).trans ?_ | exact hput_s _ _ _ | assumption) rfl rfl rfl rfl (Nat.le_of_ble_eq_true rfl) (by decide) (by decide) (by decide) (fun _ _ h => h.elim) (k_ri ?_)
  rw [← hT1e]
  refine g_iastore q_X5_takeCart_46 (by repeat first | with_reducible assumption | with_reducible exact hput_s _ _ _ | refine (hput_n _ _ (by omega)).trans ?_ | exact hput_s _ _ _ | assumption) (by omega) (by omega) ?_
  obtain ⟨σ3, h3e⟩ : ∃ τ, τ = hput (hput σ2 r (rdo r len T1.2.1 T1.2.2 p3)) (r + 2 + 2) (ai 5 (va_up PL carts T1.1)) := ⟨_, rfl⟩
  have m0 : σ3.2 r = some (rdo r len T1.2.1 T1.2.2 p3) := by rw [h3e]; exact (by repeat first | with_reducible assumption | with_reducible exact hput_s _ _ _ | refine (hput_n _ _ (by omega)).trans ?_ | exact hput_s _ _ _ | assumption)
  have m1 : σ3.2 (r + 1) = some (ai 400 tx) := by rw [h3e]; exact (by repeat first | with_reducible assumption | with_reducible exact hput_s _ _ _ | refine (hput_n _ _ (by omega)).trans ?_ | exact hput_s _ _ _ | assumption)
  have m2 : SCo σ3 (r + 2) cols rows carts SO (va_up PL carts T1.1) GO LE' NL' lv := by rw [h3e]; exact ⟨(by repeat first | with_reducible assumption | with_reducible exact hput_s _ _ _ | refine (hput_n _ _ (by omega)).trans ?_ | exact hput_s _ _ _ | assumption), (by repeat first | with_reducible assumption | with_reducible exact hput_s _ _ _ | refine (hput_n _ _ (by omega)).trans ?_ | exact hput_s _ _ _ | assumption), (by repeat first | with_reducible assumption | with_reducible exact hput_s _ _ _ | refine (hput_n _ _ (by omega)).trans ?_ | exact hput_s _ _ _ | assumption), (by repeat first | with_reducible assumption | with_reducible exact hput_s _ _ _ | refine (hput_n _ _ (by omega)).trans ?_ | exact hput_s _ _ _ | assumption), (by repeat first | with_reducible assumption | with_reducible exact hput_s _ _ _ | refine (hput_n _ _ (by omega)).trans ?_ | exact hput_s _ _ _ | assumption), (by repeat first | with_reducible assumption | with_reducible exact hput_s _ _ _ | refine (hput_n _ _ (by omega)).trans ?_ | exact hput_s _ _ _ | assumption), (by repeat first | with_reducible assumption | with_reducible exact hput_s _ _ _ | refine (hput_n _ _ (by omega)).trans ?_ | exact hput_s _ _ _ | assumption)⟩
  have hE3 : eqOff σ σ3 (fun a => a = r ∨ inb (r + 2) 7 a) := by rw [h3e]; exact (hE2.put (Or.inl rfl) _).put (Or.inr ⟨by omega, by omega⟩) _
  refine g_eq (σ2 := σ3) rfl rfl h3e.symm ?_
  clear h3e g0 g1 g2 g3 g4 g5 g6
  have oP3 : okQ carts (va_up PL carts T1.1) := okQ_up oP (by omega) (Nat.le_refl _)
  obtain ⟨g0, g1, g2, g3, g4, g5, g6⟩ := m2
  refine g_aload_n q_X5_takeCart_47 rfl ?_
  refine g_get fl_X5_31 q_X5_takeCart_48 (by repeat first | with_reducible assumption | with_reducible exact hput_s _ _ _ | refine (hput_n _ _ (by omega)).trans ?_ | exact hput_s _ _ _ | assumption) rfl ?_
  refine g_get fl_X5_104 q_X5_takeCart_51 (by repeat first | with_reducible assumption | with_reducible exact hput_s _ _ _ | refine (hput_n _ _ (by omega)).trans ?_ | exact hput_s _ _ _ | assumption) rfl ?_
  refine g_iload_n q_X5_takeCart_54 rfl ?_
  refine g_iaload q_X5_takeCart_55 (by repeat first | with_reducible assumption | with_reducible exact hput_s _ _ _ | refine (hput_n _ _ (by omega)).trans ?_ | exact hput_s _ _ _ | assumption) (by omega) (by omega) ?_
  refine g_topi (b := T1.1) (by unfold va_up; rw [if_pos (Int.toNat_natCast _)]) ?_
  refine g_iconst q_X5_takeCart_56 ?_
  refine g_icmp_eq (tgt := 69) q_X5_takeCart_57 (by decide) ⟨by omega, by omega⟩ ⟨by omega, by omega⟩ (fun e3 => ?_) (fun e3 => ?_)
  · refine g_iconst q_X5_takeCart_69 ?_
    refine g_zreturn q_X5_takeCart_70.1 rfl (by first | exact Or.inl rfl | exact Or.inr rfl | omega) ?_
    rw [if_pos e3]
    exact bad T1.2.2 _ _ rfl (by omega) hE3 ⟨T1.2.1, p3, _, GO, LE', NL', hT1.2.2, m0, ⟨g0, g1, g2, g3, g4, g5, g6⟩, ⟨c6, r6, n5⟩, oS, oP3, oG, oL', oN'⟩
  rw [if_neg e3]
  have hf1 : T1.2.2 = -1 := by omega
  rw [hf1] at m0
  have hr6 := avn_rg (p := pBl) (tx := tx) hT1.2.2
  obtain ⟨p6, hp6⟩ : ∃ z, z = avn pBl tx len T1.2.1 := ⟨_, rfl⟩
  rw [← hp6] at hr6 ⊢
  have hr7 := avn_rg (p := pLe) (tx := tx) hr6.2
  obtain ⟨p7, hp7⟩ : ∃ z, z = avn pLe tx len p6 := ⟨_, rfl⟩
  rw [← hp7] at hr7 ⊢
  unfold cu4
  refine g_aload_n q_X5_takeCart_60 rfl ?_
  refine g_ldcS rfl kt q_X5_takeCart_61 ?_
  refine g_callV (rc' := 0) (rs' := 0) (As := [_]) cs_X5_101 q_X5_takeCart_63 (sp_takeGiven hΓ m0 m1 oX hl hT1.2.2 st kr_to (by decide)) rfl (by repeat first | with_reducible assumption | with_reducible exact hput_s _ _ _ | refine (hput_n _ _ (by omega)).trans ?_ | exact hput_s _ _ _ | assumption) rfl rfl rfl rfl (Nat.le_of_ble_eq_true rfl) (by decide) (by decide) (by decide) (fun _ _ h => h.elim) (k_rb ?_)
  rw [← hp6, ← hp7]
  cases hw2 : isW tx p6 p7 2 k_to with
  | false =>
    rw [if_pos rfl, if_neg (by decide)]
    refine g_if_ne (tgt := 71) q_X5_takeCart_66 (by decide) (bi_rg _) (fun e4 => ?_) (fun e4 => ?_)
    · exact absurd rfl e4
    · refine g_iconst q_X5_takeCart_69 ?_
      refine g_zreturn q_X5_takeCart_70.1 rfl (by first | exact Or.inl rfl | exact Or.inr rfl | omega) ?_
      refine bad p6 _ _ rfl (by omega) (hE3.put (Or.inl rfl) _) ⟨p7, p6, va_up PL carts T1.1, GO, LE', NL', hr7.2, hput_s _ _ _, ?_, ⟨c6, r6, n5⟩, oS, oP3, oG, oL', oN'⟩
      exact ⟨(by repeat first | with_reducible assumption | with_reducible exact hput_s _ _ _ | refine (hput_n _ _ (by omega)).trans ?_ | exact hput_s _ _ _ | assumption), (by repeat first | with_reducible assumption | with_reducible exact hput_s _ _ _ | refine (hput_n _ _ (by omega)).trans ?_ | exact hput_s _ _ _ | assumption), (by repeat first | with_reducible assumption | with_reducible exact hput_s _ _ _ | refine (hput_n _ _ (by omega)).trans ?_ | exact hput_s _ _ _ | assumption), (by repeat first | with_reducible assumption | with_reducible exact hput_s _ _ _ | refine (hput_n _ _ (by omega)).trans ?_ | exact hput_s _ _ _ | assumption), (by repeat first | with_reducible assumption | with_reducible exact hput_s _ _ _ | refine (hput_n _ _ (by omega)).trans ?_ | exact hput_s _ _ _ | assumption), (by repeat first | with_reducible assumption | with_reducible exact hput_s _ _ _ | refine (hput_n _ _ (by omega)).trans ?_ | exact hput_s _ _ _ | assumption), (by repeat first | with_reducible assumption | with_reducible exact hput_s _ _ _ | refine (hput_n _ _ (by omega)).trans ?_ | exact hput_s _ _ _ | assumption)⟩
  | true =>
  rw [if_neg (by decide), if_pos rfl]
  obtain ⟨σ4, h4e⟩ : ∃ τ, τ = hput σ3 r (rdo r len p7 (-1) p6) := ⟨_, rfl⟩
  have m0 : σ4.2 r = some (rdo r len p7 (-1) p6) := by rw [h4e]; exact (by repeat first | with_reducible assumption | with_reducible exact hput_s _ _ _ | refine (hput_n _ _ (by omega)).trans ?_ | exact hput_s _ _ _ | assumption)
  have m1 : σ4.2 (r + 1) = some (ai 400 tx) := by rw [h4e]; exact (by repeat first | with_reducible assumption | with_reducible exact hput_s _ _ _ | refine (hput_n _ _ (by omega)).trans ?_ | exact hput_s _ _ _ | assumption)
  have m2 : SCo σ4 (r + 2) cols rows carts SO (va_up PL carts T1.1) GO LE' NL' lv := by rw [h4e]; exact ⟨(by repeat first | with_reducible assumption | with_reducible exact hput_s _ _ _ | refine (hput_n _ _ (by omega)).trans ?_ | exact hput_s _ _ _ | assumption), (by repeat first | with_reducible assumption | with_reducible exact hput_s _ _ _ | refine (hput_n _ _ (by omega)).trans ?_ | exact hput_s _ _ _ | assumption), (by repeat first | with_reducible assumption | with_reducible exact hput_s _ _ _ | refine (hput_n _ _ (by omega)).trans ?_ | exact hput_s _ _ _ | assumption), (by repeat first | with_reducible assumption | with_reducible exact hput_s _ _ _ | refine (hput_n _ _ (by omega)).trans ?_ | exact hput_s _ _ _ | assumption), (by repeat first | with_reducible assumption | with_reducible exact hput_s _ _ _ | refine (hput_n _ _ (by omega)).trans ?_ | exact hput_s _ _ _ | assumption), (by repeat first | with_reducible assumption | with_reducible exact hput_s _ _ _ | refine (hput_n _ _ (by omega)).trans ?_ | exact hput_s _ _ _ | assumption), (by repeat first | with_reducible assumption | with_reducible exact hput_s _ _ _ | refine (hput_n _ _ (by omega)).trans ?_ | exact hput_s _ _ _ | assumption)⟩
  have hE4 : eqOff σ σ4 (fun a => a = r ∨ inb (r + 2) 7 a) := by rw [h4e]; exact hE3.put (Or.inl rfl) _
  refine g_eq (σ2 := σ4) rfl rfl h4e.symm ?_
  clear h4e g0 g1 g2 g3 g4 g5 g6
  obtain ⟨g0, g1, g2, g3, g4, g5, g6⟩ := m2
  refine g_if_ne (tgt := 71) q_X5_takeCart_66 (by decide) (bi_rg _) (fun e4 => ?_) (fun e4 => ?_)
  case refine_2 => exact absurd e4 (by decide)
  have hT2 := tcR_rg (tx := tx) (len := len) (carts := carts) (SO := SO) (OT := GO) (fa := -1) c6 r6 hr7.2
  obtain ⟨T2, hT2e⟩ : ∃ T, T = tcR tx len cols rows carts SO GO p7 (-1) := ⟨_, rfl⟩
  rw [← hT2e] at hT2 ⊢
  refine g_aload_n q_X5_takeCart_71 rfl ?_
  refine g_get fl_X5_31 q_X5_takeCart_72 (by repeat first | with_reducible assumption | with_reducible exact hput_s _ _ _ | refine (hput_n _ _ (by omega)).trans ?_ | exact hput_s _ _ _ | assumption) rfl ?_
  refine g_get fl_X5_113 q_X5_takeCart_75 (by repeat first | with_reducible assumption | with_reducible exact hput_s _ _ _ | refine (hput_n _ _ (by omega)).trans ?_ | exact hput_s _ _ _ | assumption) rfl ?_
  refine g_iload_n q_X5_takeCart_78 rfl ?_
  refine g_aload_n q_X5_takeCart_79 rfl ?_
  refine g_aload_n q_X5_takeCart_80 rfl ?_
  refine g_get fl_X5_31 q_X5_takeCart_81 (by repeat first | with_reducible assumption | with_reducible exact hput_s _ _ _ | refine (hput_n _ _ (by omega)).trans ?_ | exact hput_s _ _ _ | assumption) rfl ?_
  refine g_get fl_X5_113 q_X5_takeCart_84 (by repeat first | with_reducible assumption | with_reducible exact hput_s _ _ _ | refine (hput_n _ _ (by omega)).trans ?_ | exact hput_s _ _ _ | assumption) rfl ?_
  refine g_callV (rc' := 0) (rs' := 0) (As := [_]) cs_X5_107 q_X5_takeCart_87 (sp_takeCell hΓ m0 m1 oX hl hr7.2 g0 g1 oSr g3 (by omega) (fun k => by have := (oG k).1; exact ⟨by omega, by omega⟩) c6 r6 n5) rfl (by repeat first | with_reducible assumption | with_reducible exact hput_s _ _ _ | refine (hput_n _ _ (by omega)).trans ?_ | exact hput_s _ _ _ | assumption) rfl rfl rfl rfl (Nat.le_of_ble_eq_true rfl) (by decide) (by decide) (by decide) (fun _ _ h => h.elim) (k_ri ?_)
  rw [← hT2e]
  refine g_iastore q_X5_takeCart_90 (by repeat first | with_reducible assumption | with_reducible exact hput_s _ _ _ | refine (hput_n _ _ (by omega)).trans ?_ | exact hput_s _ _ _ | assumption) (by omega) (by omega) ?_
  obtain ⟨σ5, h5e⟩ : ∃ τ, τ = hput (hput σ4 r (rdo r len T2.2.1 T2.2.2 p6)) (r + 2 + 3) (ai 5 (va_up GO carts T2.1)) := ⟨_, rfl⟩
  have m0 : σ5.2 r = some (rdo r len T2.2.1 T2.2.2 p6) := by rw [h5e]; exact (by repeat first | with_reducible assumption | with_reducible exact hput_s _ _ _ | refine (hput_n _ _ (by omega)).trans ?_ | exact hput_s _ _ _ | assumption)
  have m2 : SCo σ5 (r + 2) cols rows carts SO (va_up PL carts T1.1) (va_up GO carts T2.1) LE' NL' lv := by rw [h5e]; exact ⟨(by repeat first | with_reducible assumption | with_reducible exact hput_s _ _ _ | refine (hput_n _ _ (by omega)).trans ?_ | exact hput_s _ _ _ | assumption), (by repeat first | with_reducible assumption | with_reducible exact hput_s _ _ _ | refine (hput_n _ _ (by omega)).trans ?_ | exact hput_s _ _ _ | assumption), (by repeat first | with_reducible assumption | with_reducible exact hput_s _ _ _ | refine (hput_n _ _ (by omega)).trans ?_ | exact hput_s _ _ _ | assumption), (by repeat first | with_reducible assumption | with_reducible exact hput_s _ _ _ | refine (hput_n _ _ (by omega)).trans ?_ | exact hput_s _ _ _ | assumption), (by repeat first | with_reducible assumption | with_reducible exact hput_s _ _ _ | refine (hput_n _ _ (by omega)).trans ?_ | exact hput_s _ _ _ | assumption), (by repeat first | with_reducible assumption | with_reducible exact hput_s _ _ _ | refine (hput_n _ _ (by omega)).trans ?_ | exact hput_s _ _ _ | assumption), (by repeat first | with_reducible assumption | with_reducible exact hput_s _ _ _ | refine (hput_n _ _ (by omega)).trans ?_ | exact hput_s _ _ _ | assumption)⟩
  have hE5 : eqOff σ σ5 (fun a => a = r ∨ inb (r + 2) 7 a) := by rw [h5e]; exact (hE4.put (Or.inl rfl) _).put (Or.inr ⟨by omega, by omega⟩) _
  refine g_eq (σ2 := σ5) rfl rfl h5e.symm ?_
  clear h5e g0 g1 g2 g3 g4 g5 g6
  have oG5 : okQ carts (va_up GO carts T2.1) := okQ_up oG (by omega) (Nat.le_refl _)
  obtain ⟨g0, g1, g2, g3, g4, g5, g6⟩ := m2
  refine g_aload_n q_X5_takeCart_91 rfl ?_
  refine g_get fl_X5_31 q_X5_takeCart_92 (by repeat first | with_reducible assumption | with_reducible exact hput_s _ _ _ | refine (hput_n _ _ (by omega)).trans ?_ | exact hput_s _ _ _ | assumption) rfl ?_
  refine g_get fl_X5_113 q_X5_takeCart_95 (by repeat first | with_reducible assumption | with_reducible exact hput_s _ _ _ | refine (hput_n _ _ (by omega)).trans ?_ | exact hput_s _ _ _ | assumption) rfl ?_
  refine g_iload_n q_X5_takeCart_98 rfl ?_
  refine g_iaload q_X5_takeCart_99 (by repeat first | with_reducible assumption | with_reducible exact hput_s _ _ _ | refine (hput_n _ _ (by omega)).trans ?_ | exact hput_s _ _ _ | assumption) (by omega) (by omega) ?_
  refine g_topi (b := T2.1) (by unfold va_up; rw [if_pos (Int.toNat_natCast _)]) ?_
  refine g_iconst q_X5_takeCart_100 ?_
  refine g_icmp_ne (tgt := 106) q_X5_takeCart_101 (by decide) ⟨by omega, by omega⟩ ⟨by omega, by omega⟩ (fun e5 => ?_) (fun e5 => ?_)
  · rw [if_neg e5]
    have hf2 : T2.2.2 = -1 := by omega
    rw [hf2] at m0
    refine g_aload_n q_X5_takeCart_106 rfl ?_
    refine g_get fl_X5_31 q_X5_takeCart_107 (by repeat first | with_reducible assumption | with_reducible exact hput_s _ _ _ | refine (hput_n _ _ (by omega)).trans ?_ | exact hput_s _ _ _ | assumption) rfl ?_
    refine g_dup q_X5_takeCart_110 rfl ?_
    refine g_get fl_X5_57 q_X5_takeCart_111 (by repeat first | with_reducible assumption | with_reducible exact hput_s _ _ _ | refine (hput_n _ _ (by omega)).trans ?_ | exact hput_s _ _ _ | assumption) rfl ?_
    refine g_iconst q_X5_takeCart_114 ?_
    refine g_iadd q_X5_takeCart_115 ?_
    refine g_put fp_X5_57 q_X5_takeCart_116 (by repeat first | with_reducible assumption | with_reducible exact hput_s _ _ _ | refine (hput_n _ _ (by omega)).trans ?_ | exact hput_s _ _ _ | assumption) rfl rfl ?_
    refine g_iconst q_X5_takeCart_119 ?_
    refine g_zreturn q_X5_takeCart_120.1 rfl (by first | exact Or.inl rfl | exact Or.inr rfl | omega) ?_
    refine ⟨hE5.put (Or.inr ⟨by omega, by omega⟩) _, Or.inl ⟨rfl, rfl, ⟨p6, (by repeat first | with_reducible assumption | with_reducible exact hput_s _ _ _ | refine (hput_n _ _ (by omega)).trans ?_ | exact hput_s _ _ _ | assumption)⟩, ?_⟩⟩
    exact ⟨hput_s _ _ _, (by repeat first | with_reducible assumption | with_reducible exact hput_s _ _ _ | refine (hput_n _ _ (by omega)).trans ?_ | exact hput_s _ _ _ | assumption), (by repeat first | with_reducible assumption | with_reducible exact hput_s _ _ _ | refine (hput_n _ _ (by omega)).trans ?_ | exact hput_s _ _ _ | assumption), (by repeat first | with_reducible assumption | with_reducible exact hput_s _ _ _ | refine (hput_n _ _ (by omega)).trans ?_ | exact hput_s _ _ _ | assumption), (by repeat first | with_reducible assumption | with_reducible exact hput_s _ _ _ | refine (hput_n _ _ (by omega)).trans ?_ | exact hput_s _ _ _ | assumption), (by repeat first | with_reducible assumption | with_reducible exact hput_s _ _ _ | refine (hput_n _ _ (by omega)).trans ?_ | exact hput_s _ _ _ | assumption), (by repeat first | with_reducible assumption | with_reducible exact hput_s _ _ _ | refine (hput_n _ _ (by omega)).trans ?_ | exact hput_s _ _ _ | assumption)⟩
  · refine g_iconst q_X5_takeCart_104 ?_
    refine g_zreturn q_X5_takeCart_105.1 rfl (by first | exact Or.inl rfl | exact Or.inr rfl | omega) ?_
    rw [if_pos (by omega)]
    exact bad T2.2.2 _ _ rfl (by omega) hE5 ⟨T2.2.1, p6, _, _, LE', NL', hT2.2.2, m0, ⟨g0, g1, g2, g3, g4, g5, g6⟩, ⟨c6, r6, n5⟩, oS, oP3, oG5, oL', oN'⟩
end TX7

