/-! Tree: build -/
theorem grQ_out {σ σ' : AH} {T M : Nat} {ad : Nat → Nat} {ve lo pl : Int} {nc spl n : Nat} {cu : Bool} {pn : Nat → PN} {P C : Nat → Int} {s : Nat} {PL GO : Nat → Int} {lv : Nat → BitVec 64} {par c t : Nat} {sr : Int} {r : Option Value} (h : grQ σ T M ad ve lo pl nc spl n cu pn P C s PL GO lv par c t sr r σ') (hM : nc ≤ M) (tc : Nat) : r = none ∧ ∃ ad', NDS σ' T (max M (nc + 1)) ad' (gw1 lv PL GO n P C par t sr c (nc, pn, tc)).1 (gw1 lv PL GO n P C par t sr c (nc, pn, tc)).2.1 ∧ (∀ k, k < M → ad' k = ad k) ∧ (∀ k, M ≤ k → k < max M (nc + 1) → σ.1 ≤ ad' k) ∧ eqG σ σ' (fun a => a = T ∨ a = T + 1 ∨ a = T + 8 ∨ inb s 4 a ∨ ownF ad M a) ∧ SRo σ' s ∧ (∃ SP, σ'.2 (T + 8) = some (ai 41 SP)) ∧ σ'.2 T = some (tro T ve (gw1 lv PL GO n P C par t sr c (nc, pn, tc)).1 spl lo pl cu) := by
  unfold grQ at h
  obtain ⟨h1, ad', h2, h3, h4, h5, h6, h7, h8, h9, h10, h11⟩ := h
  refine ⟨h1, ad', ?_⟩
  rcases h11 with ⟨g1, g2⟩ | ⟨q, g1, g2, g3⟩
  · have e : gw1 lv PL GO n P C par t sr c (nc, pn, tc) = (nc, pn, max tc (nc + 1)) := by unfold gw1; simp only [g1]
    rw [e]
    exact ⟨⟨h2, h5, fun _ => h6, Nat.le_trans hM (Nat.le_max_left _ _), h7⟩, h3, h4, h8, h9, h10, g2⟩
  · have e : gw1 lv PL GO n P C par t sr c (nc, pn, tc) = (nc + 1, va_up pn nc q, max tc (nc + 1)) := by unfold gw1; simp only [g1]
    rw [e]
    refine ⟨⟨h2, h5, fun _ => h6, Nat.le_max_right _ _, fun k hk => ?_⟩, h3, h4, h8, h9, h10, g2⟩
    simp only at hk ⊢
    by_cases z : k = nc
    · subst z
      rw [show va_up pn k q k = q by unfold va_up; rw [if_pos rfl]]; exact g3
    · rw [show va_up pn nc q k = pn k by unfold va_up; rw [if_neg z]]; exact h7 k (by omega)
theorem gw1_TI {lv : Nat → BitVec 64} {PL GO P1 C1 P C : Nat → Int} {n nc par c t : Nat} {s : Int} {pn : Nat → PN} (tc : Nat) (h : TI P1 C1 n nc pn) (hr : rtF (pn 0)) (hnc : nc < 301) (hpar : par < nc) (hc : c < n) (ht : t < 40) (hL : okL lv) (hPL : okP PL) (hGO : okP GO) (o1 : okP P1) (hP : P = ndP pn P1 par) (hC : C = ndC pn C1 par) : TI P1 C1 n (gw1 lv PL GO n P C par t s c (nc, pn, tc)).1 (gw1 lv PL GO n P C par t s c (nc, pn, tc)).2.1 ∧ rtF ((gw1 lv PL GO n P C par t s c (nc, pn, tc)).2.1 0) ∧ nc ≤ (gw1 lv PL GO n P C par t s c (nc, pn, tc)).1 ∧ (gw1 lv PL GO n P C par t s c (nc, pn, tc)).1 ≤ nc + 1 ∧ (∀ k, k < nc → (gw1 lv PL GO n P C par t s c (nc, pn, tc)).2.1 k = pn k) := by
  cases hg : grN lv PL GO n pn nc par c t s P C with
  | none =>
    have e : gw1 lv PL GO n P C par t s c (nc, pn, tc) = (nc, pn, max tc (nc + 1)) := by unfold gw1; simp only [hg]
    rw [e]
    exact ⟨h, hr, Nat.le_refl _, Nat.le_succ _, fun _ _ => rfl⟩
  | some q =>
    have e : gw1 lv PL GO n P C par t s c (nc, pn, tc) = (nc + 1, va_up pn nc q, max tc (nc + 1)) := by unfold gw1; simp only [hg]
    rw [e]
    have u : ∀ k, k < nc → va_up pn nc q k = pn k := fun k hk => by unfold va_up; rw [if_neg (by omega)]
    rw [hP, hC] at hg
    exact ⟨TI_grow h hnc hpar hc ht hL hPL hGO o1 hg, by simp only [u 0 h.1]; exact hr, Nat.le_succ _, Nat.le_refl _, u⟩
theorem gw1_cong {lv : Nat → BitVec 64} {PL GO P C P' C' : Nat → Int} {n par c t : Nat} {s : Int} (hP : ∀ i, i < 41 * n → P i = P' i) (hC : ∀ c, c < n → C c = C' c) (hC4 : ∀ c, c < n → C c ≤ 40) (hc : c < n) (ht : t < 40) (y : Nat × (Nat → PN) × Nat) : gw1 lv PL GO n P C par t s c y = gw1 lv PL GO n P' C' par t s c y := by
  unfold gw1
  rw [grN_cong hP hC hC4 hc ht]
section TRB
variable {Γ : GT} {σ : AH} {T M : Nat} {ad : Nat → Nat} {ve lo0 pl0 : Int} {nc0 spl0 n n1 n2 : Nat} {cu0 : Bool} {P1 C1 P2 C2 : Nat → Int} {s g cols rows : Nat} {PL GO : Nat → Int} {lv : Nat → BitVec 64}
theorem sp_build (hΓ : Gd Γ) (hsg : g + 6 < s) (hsT : s + 3 < T) (hT : T + 8 < σ.1) (h0 : σ.2 T = some (tro T ve nc0 spl0 lo0 pl0 cu0)) (hN : TND σ T M ad) (hG : ∀ k, k < M → NDg σ ad k) (hR : 0 < M → NDr σ ad) (hW1 : WYo σ (T + 2) n1 P1 C1) (o1 : okP P1) (o2 : okC C1) (hW2 : WYo σ (T + 5) n2 P2 C2) (o3 : okP P2) (o4 : okC C2) (w3 : ∃ SP, σ.2 (T + 8) = some (ai 41 SP)) (hS : SRo σ s) (hC : SCg σ g cols rows n PL GO lv) (hL : okL lv) (hPL : okP PL) (hGO : okP GO) (hn : n ≤ 5) (bd : Int) (hbd : 10 ≤ bd ∧ bd ≤ 30) : Sp Γ miX6_build (2 * (max M (tT (bld lv PL GO n bd)) - M)) (53 * (max M (tT (bld lv PL GO n bd)) - M)) [.ref T, .ref g, .ref s, .int (ii bd)] σ (fun r σ' => r = none ∧ BI σ T M ad ve n s PL GO lv (bld lv PL GO n bd) σ' ∧ BW T n PL GO lv (bld lv PL GO n bd) σ') noX := by
  obtain ⟨F, hF⟩ : ∃ F, F = bld lv PL GO n bd := ⟨_, rfl⟩
  rw [← hF]
  obtain ⟨h1, hM1, hinc, hin⟩ := hN
  refine Sp_of (L := [_, _, _, _, _, _, _]) hΓ (by decide +kernel) rfl (Nat.le_of_ble_eq_true rfl) rfl ?_
  refine g_aload_n q_X6_build_0 rfl ?_
  refine g_iconst q_X6_build_1 ?_
  refine g_put fp_X6_35 q_X6_build_2 (by repeat first | with_reducible assumption | with_reducible exact hput_s _ _ _ | refine (hput_n _ _ (by omega)).trans ?_ | exact hput_s _ _ _ | assumption) rfl rfl ?_
  refine g_aload_n q_X6_build_5 rfl ?_
  refine g_iconst q_X6_build_6 ?_
  refine g_put fp_X6_38 q_X6_build_7 (by repeat first | with_reducible assumption | with_reducible exact hput_s _ _ _ | refine (hput_n _ _ (by omega)).trans ?_ | exact hput_s _ _ _ | assumption) rfl rfl ?_
  refine g_aload_n q_X6_build_10 rfl ?_
  refine g_iconst q_X6_build_11 ?_
  refine g_put fp_X6_41 q_X6_build_12 (by repeat first | with_reducible assumption | with_reducible exact hput_s _ _ _ | refine (hput_n _ _ (by omega)).trans ?_ | exact hput_s _ _ _ | assumption) rfl rfl ?_
  refine g_aload_n q_X6_build_15 rfl ?_
  refine g_iconst q_X6_build_16 ?_
  refine g_put fp_X6_44 q_X6_build_17 (by repeat first | with_reducible assumption | with_reducible exact hput_s _ _ _ | refine (hput_n _ _ (by omega)).trans ?_ | exact hput_s _ _ _ | assumption) rfl rfl ?_
  refine g_aload_n q_X6_build_20 rfl ?_
  refine g_iconst q_X6_build_21 ?_
  refine g_put fp_X6_47 q_X6_build_22 (by repeat first | with_reducible assumption | with_reducible exact hput_s _ _ _ | refine (hput_n _ _ (by omega)).trans ?_ | exact hput_s _ _ _ | assumption) rfl rfl ?_
  refine g_aload_n q_X6_build_25 rfl ?_
  refine g_get fl_X6_20 q_X6_build_26 (by repeat first | with_reducible assumption | with_reducible exact hput_s _ _ _ | refine (hput_n _ _ (by omega)).trans ?_ | exact hput_s _ _ _ | assumption) rfl ?_
  refine g_aload_n q_X6_build_29 rfl ?_
  refine g_aload_n q_X6_build_30 rfl ?_
  repeat rw [hput_hput]
  obtain ⟨τ0, hτ0⟩ : ∃ τ0, τ0 = hput σ T (tro T ve 0 0 (-1) (-1) false) := ⟨_, rfl⟩
  have l0 : ∀ b, b ≠ T → τ0.2 b = σ.2 b := fun b hb => by rw [hτ0]; exact hput_n _ _ hb
  have t0 : τ0.2 T = some (tro T ve 0 0 (-1) (-1) false) := by rw [hτ0]; exact hput_s _ _ _
  have z0 : τ0.1 = σ.1 := by rw [hτ0]; rfl
  refine g_eq (σ2 := τ0) rfl rfl hτ0.symm ?_
  have hS0 : SRo τ0 s := by
    obtain ⟨y0, ⟨ce, y1⟩, ⟨mv, y2⟩, bk, y3⟩ := hS
    exact ⟨(l0 _ (by omega)).trans y0, ⟨ce, (l0 _ (by omega)).trans y1⟩, ⟨mv, (l0 _ (by omega)).trans y2⟩, bk, (l0 _ (by omega)).trans y3⟩
  have hC0 : SCg τ0 g cols rows n PL GO lv := by
    obtain ⟨y0, y2, y3, y6⟩ := hC
    exact ⟨(l0 _ (by omega)).trans y0, (l0 _ (by omega)).trans y2, (l0 _ (by omega)).trans y3, (l0 _ (by omega)).trans y6⟩
  have hW0 : WYo τ0 (T + 2) n1 P1 C1 := by
    obtain ⟨⟨c1, c2, c3, c4, y0⟩, y1, y2⟩ := hW1
    exact ⟨⟨c1, c2, c3, c4, (l0 _ (by omega)).trans y0⟩, (l0 _ (by omega)).trans y1, (l0 _ (by omega)).trans y2⟩
  have t02 : ∃ c1 c2 c3 c4, τ0.2 (T + 2) = some (wyo (T + 2) n1 c1 c2 c3 c4) := hW0.1
  obtain ⟨c1, c2, c3, c4, t02⟩ := t02
  obtain ⟨R, hR9⟩ : ∃ R, R = max M (tT F) - M := ⟨_, rfl⟩
  rw [← hR9]
  refine g_callVN (rc' := 2 * R) (rs' := 53 * R) (As := [_, _]) cs_X6_51 q_X6_build_31 (sp_goAlone hΓ hL hS0 hC0 hW0 (Or.inr hsg) (Or.inr (by omega)) (Or.inr (by omega)) hn hPL hGO o1 o2) rfl (by repeat first | with_reducible assumption | with_reducible exact hput_s _ _ _ | refine (hput_n _ _ (by omega)).trans ?_ | exact hput_s _ _ _ | assumption) rfl rfl rfl rfl (Nat.le_of_ble_eq_true rfl) (by decide) (Nat.le_refl _) (Nat.le_refl _) (fun _ _ h => h.elim) (fun v σ1 hq => ?_)
  obtain ⟨rfl, hS1, hE1, P1', C1', hW1', oP1, oC1, hal⟩ := hq
  have l1 : ∀ b, ¬ (inb (T + 2) 3 b ∨ inb s 4 b) → σ1.2 b = τ0.2 b := fun b hb => hE1.2 b hb
  have t1 : σ1.2 T = some (tro T ve 0 0 (-1) (-1) false) := (l1 T (fun q => by unfold inb at q; omega)).trans t0
  have z1 : σ1.1 = σ.1 := hE1.1.trans z0
  have lg1 : ∀ b, T + 4 < b → σ1.2 b = σ.2 b := fun b hb => (l1 b (fun q => by unfold inb at q; omega)).trans (l0 b (by omega))
  have hE1s : eqG σ σ1 (fun a => inb T 9 a ∨ inb s 4 a ∨ ownF ad M a) := ⟨by rw [z1]; exact Nat.le_refl _, fun b hb hf => (l1 b (fun q => hf (by unfold inb at q ⊢; omega))).trans (l0 b (fun q => hf (Or.inl (by unfold inb; omega))))⟩
  have hNDS1 : NDS σ1 T M ad 0 (tQ ts0) := by
    have l18 : ∀ b, T + 8 < b → σ1.2 b = σ.2 b := fun b hb => lg1 b (by omega)
    exact NDS.keep (τ := σ) ⟨⟨h1, hM1, hinc, hin⟩, hG, hR, Nat.zero_le _, fun k hk => absurd hk (Nat.not_lt_zero k)⟩ z1 l18 ((l1 _ (fun q => by unfold inb at q; omega)).trans (l0 _ (by omega)))
  obtain ⟨⟨d1, d2, d3, d4, w0⟩, w1, w2⟩ := hW1'
  refine g_aload_n q_X6_build_34 rfl ?_
  refine g_get fl_X6_20 q_X6_build_35 (by repeat first | with_reducible assumption | with_reducible exact hput_s _ _ _ | refine (hput_n _ _ (by omega)).trans ?_ | exact hput_s _ _ _ | assumption) rfl ?_
  refine g_callVN (rc' := 2 * R) (rs' := 53 * R) (As := []) cs_X6_55 q_X6_build_38 (sp_allGo hΓ hn w0 w2 oC1) rfl (by repeat first | with_reducible assumption | with_reducible exact hput_s _ _ _ | refine (hput_n _ _ (by omega)).trans ?_ | exact hput_s _ _ _ | assumption) rfl rfl rfl rfl (Nat.le_of_ble_eq_true rfl) (by decide) (Nat.le_refl _) (Nat.le_refl _) (fun _ _ h => h.elim) (k_rb ?_)
  have hdec : decide (∀ k, k < n → C1' k ≠ -1) = decide (∀ k, k < n → alc lv PL GO k ≠ -1) := by
    congr 1
    exact propext ⟨fun h k hk => by rw [← (hal k hk).1]; exact h k hk, fun h k hk => by rw [(hal k hk).1]; exact h k hk⟩
  rw [hdec]
  refine g_if_ne (tgt := 45) q_X6_build_41 (by decide) (bi_rg _) (fun e1 => ?_) (fun e1 => ?_)
  · sorry
  · have hF0 : F = ts0 := by rw [hF]; unfold bld; rw [bi_f e1, if_neg (by decide)]
    refine g_return q_X6_build_44.1 rfl ?_
    obtain ⟨SP, w3⟩ := w3
    obtain ⟨⟨e1, e2, e3, e4, y0⟩, y1, y2⟩ := hW2
    refine ⟨rfl, ⟨ad, ?_, fun _ _ => rfl, fun k ha hb => ?_, hE1s, ?_, ⟨SP, (lg1 _ (by omega)).trans w3⟩, hS1, P1', C1', ⟨⟨d1, d2, d3, d4, w0⟩, w1, w2⟩, oP1, oC1, hal⟩, n2, P2, C2, ⟨⟨e1, e2, e3, e4, (lg1 _ (by omega)).trans y0⟩, (lg1 _ (by omega)).trans y1, (lg1 _ (by omega)).trans y2⟩, o3, o4, fun z => ?_⟩
    · rw [hF0]
      show NDS σ1 T (max M 0) ad 0 (tQ ts0)
      rw [Nat.max_eq_left (Nat.zero_le _)]
      exact hNDS1
    · rw [hF0] at hb
      have : max M (tT ts0) = M := Nat.max_eq_left (Nat.zero_le _)
      omega
    · rw [hF0]; exact t1
    · rw [hF0] at z; exact absurd rfl z
end TRB

