/-! Tree: build -/
theorem grQ_out {σ σ' : AH} {T M : Nat} {ad : Nat → Nat} {ve lo pl : Int} {nc spl n : Nat} {cu : Bool} {pn : Nat → PN} {P C : Nat → Int} {s : Nat} {PL GO : Nat → Int} {lv : Nat → BitVec 64} {par c t : Nat} {sr : Int} {r : Option Value} (h : grQ σ T M ad ve lo pl nc spl n cu pn P C s PL GO lv par c t sr r σ') (hM : nc ≤ M) (tc : Nat) : r = none ∧ ∃ ad', NDS σ' T (max M (nc + 1)) ad' (gw1 lv PL GO n P C par t sr c (nc, pn, tc)).1 (gw1 lv PL GO n P C par t sr c (nc, pn, tc)).2.1 ∧ (∀ k, k < M → ad' k = ad k) ∧ (∀ k, M ≤ k → k < max M (nc + 1) → σ.1 ≤ ad' k) ∧ eqG σ σ' (fun a => a = T ∨ a = T + 1 ∨ a = T + 8 ∨ inb s 4 a ∨ ownF ad M a) ∧ SRo σ' s ∧ (∃ SP, σ'.2 (T + 8) = some (ai 41 SP)) ∧ σ'.2 T = some (tro T ve (gw1 lv PL GO n P C par t sr c (nc, pn, tc)).1 spl lo pl cu) := by
  unfold grQ at h
  obtain ⟨h1, ad', h2, h3, h4, h5, h6, h7, h8, h9, h10, h11⟩ := h
  refine ⟨h1, ad', ?_⟩
  rcases h11 with ⟨g1, g2⟩ | ⟨q, g1, g2, g3⟩
  · have e : gw1 lv PL GO n P C par t sr c (nc, pn, tc) = (nc, pn, max tc (nc + 1)) := by unfold gw1; simp only [g1]
    rw [e]
    exact ⟨⟨h2, h5, fun _ => h6, Nat.le_trans hM (Nat.le_max_left _ _), h7⟩, h3, h4, h8, h9, h10, g2⟩
  · have e : gw1 lv PL GO n P C par t sr c (nc, pn, tc) = (nc + 1, va_up pn nc q, max tc (nc + 1)) := by unfold gw1; simp only [g1]
    rw [e]
    refine ⟨⟨h2, h5, fun _ => h6, Nat.le_max_right _ _, fun k hk => ?_⟩, h3, h4, h8, h9, h10, g2⟩
    simp only at hk ⊢
    by_cases z : k = nc
    · subst z
      rw [show va_up pn k q k = q by unfold va_up; rw [if_pos rfl]]; exact g3
    · rw [show va_up pn nc q k = pn k by unfold va_up; rw [if_neg z]]; exact h7 k (by omega)
theorem gw1_TI {lv : Nat → BitVec 64} {PL GO P1 C1 P C : Nat → Int} {n nc par c t : Nat} {s : Int} {pn : Nat → PN} (tc : Nat) (h : TI P1 C1 n nc pn) (hr : rtF (pn 0)) (hnc : nc < 301) (hpar : par < nc) (hc : c < n) (ht : t < 40) (hL : okL lv) (hPL : okQ n PL) (hGO : okQ n GO) (o1 : okP P1) (hP : P = ndP pn P1 par) (hC : C = ndC pn C1 par) : TI P1 C1 n (gw1 lv PL GO n P C par t s c (nc, pn, tc)).1 (gw1 lv PL GO n P C par t s c (nc, pn, tc)).2.1 ∧ rtF ((gw1 lv PL GO n P C par t s c (nc, pn, tc)).2.1 0) ∧ nc ≤ (gw1 lv PL GO n P C par t s c (nc, pn, tc)).1 ∧ (gw1 lv PL GO n P C par t s c (nc, pn, tc)).1 ≤ nc + 1 ∧ (∀ k, k < nc → (gw1 lv PL GO n P C par t s c (nc, pn, tc)).2.1 k = pn k) := by
  cases hg : grN lv PL GO n pn nc par c t s P C with
  | none =>
    have e : gw1 lv PL GO n P C par t s c (nc, pn, tc) = (nc, pn, max tc (nc + 1)) := by unfold gw1; simp only [hg]
    rw [e]
    exact ⟨h, hr, Nat.le_refl _, Nat.le_succ _, fun _ _ => rfl⟩
  | some q =>
    have e : gw1 lv PL GO n P C par t s c (nc, pn, tc) = (nc + 1, va_up pn nc q, max tc (nc + 1)) := by unfold gw1; simp only [hg]
    rw [e]
    have u : ∀ k, k < nc → va_up pn nc q k = pn k := fun k hk => by unfold va_up; rw [if_neg (by omega)]
    rw [hP, hC] at hg
    exact ⟨TI_grow h hnc hpar hc ht hL hPL hGO o1 hg, by simp only [u 0 h.1]; exact hr, Nat.le_succ _, Nat.le_refl _, u⟩
theorem gw1_cong {lv : Nat → BitVec 64} {PL GO P C P' C' : Nat → Int} {n par c t : Nat} {s : Int} (hP : ∀ i, i < 41 * n → P i = P' i) (hC : ∀ c, c < n → C c = C' c) (hC4 : ∀ c, c < n → C c ≤ 40) (hc : c < n) (ht : t < 40) (y : Nat × (Nat → PN) × Nat) : gw1 lv PL GO n P C par t s c y = gw1 lv PL GO n P' C' par t s c y := by
  unfold gw1
  rw [grN_cong hP hC hC4 hc ht]
theorem own_tr {σ : AH} {M M1 : Nat} {ad ad3 : Nat → Nat} (h1 : ∀ k, k < M → ad3 k = ad k) (h2 : ∀ k, M ≤ k → k < M1 → σ.1 ≤ ad3 k) {b : Nat} (hb : b < σ.1) (h : ownF ad3 M1 b) : ownF ad M b := by
  obtain ⟨k, hk, hx⟩ := h
  by_cases z : k < M
  · exact ⟨k, z, by rw [← h1 k z]; exact hx⟩
  · have := h2 k (by omega) hk
    omega
section TRB
variable {Γ : GT} {σ : AH} {T M : Nat} {ad : Nat → Nat} {ve lo0 pl0 : Int} {nc0 spl0 n n1 n2 : Nat} {cu0 : Bool} {P1 C1 P2 C2 : Nat → Int} {s g cols rows : Nat} {PL GO : Nat → Int} {lv : Nat → BitVec 64}
theorem sp_build (hΓ : Gd Γ) (hsg : g + 6 < s) (hsT : s + 3 < T) (hT : T + 8 < σ.1) (h0 : σ.2 T = some (tro T ve nc0 spl0 lo0 pl0 cu0)) (hN : TND σ T M ad) (hG : ∀ k, k < M → NDg σ ad k) (hR : 0 < M → NDr σ ad) (hW1 : WYo σ (T + 2) n1 P1 C1) (o1 : okP P1) (o2 : okC C1) (hW2 : WYo σ (T + 5) n2 P2 C2) (o3 : okP P2) (o4 : okC C2) (w3 : ∃ SP, σ.2 (T + 8) = some (ai 41 SP)) (hS : SRo σ s) (hC : SCg σ g cols rows n PL GO lv) (hL : okL lv) (hPL : okQ n PL) (hGO : okQ n GO) (hn : n ≤ 5) (bd : Int) (hbd : 10 ≤ bd ∧ bd ≤ 30) : Sp Γ miX6_build (2 * (max M (tT (bld lv PL GO n bd)) - M)) (53 * (max M (tT (bld lv PL GO n bd)) - M)) [.ref T, .ref g, .ref s, .int (ii bd)] σ (fun r σ' => r = none ∧ BI σ T M ad ve n s PL GO lv (bld lv PL GO n bd) σ' ∧ BW T n PL GO lv (bld lv PL GO n bd) σ') noX := by
  obtain ⟨F, hF⟩ : ∃ F, F = bld lv PL GO n bd := ⟨_, rfl⟩
  rw [← hF]
  obtain ⟨h1, hM1, hinc, hin⟩ := hN
  refine Sp_of (L := [_, _, _, _, _, _, _]) hΓ (by decide +kernel) rfl (Nat.le_of_ble_eq_true rfl) rfl ?_
  refine g_aload_n q_X6_build_0 rfl ?_
  refine g_iconst q_X6_build_1 ?_
  refine g_put fp_X6_35 q_X6_build_2 (by repeat first | with_reducible assumption | with_reducible exact hput_s _ _ _ | refine (hput_n _ _ (by omega)).trans ?_ | exact hput_s _ _ _ | assumption) rfl rfl ?_
  refine g_aload_n q_X6_build_5 rfl ?_
  refine g_iconst q_X6_build_6 ?_
  refine g_put fp_X6_38 q_X6_build_7 (by repeat first | with_reducible assumption | with_reducible exact hput_s _ _ _ | refine (hput_n _ _ (by omega)).trans ?_ | exact hput_s _ _ _ | assumption) rfl rfl ?_
  refine g_aload_n q_X6_build_10 rfl ?_
  refine g_iconst q_X6_build_11 ?_
  refine g_put fp_X6_41 q_X6_build_12 (by repeat first | with_reducible assumption | with_reducible exact hput_s _ _ _ | refine (hput_n _ _ (by omega)).trans ?_ | exact hput_s _ _ _ | assumption) rfl rfl ?_
  refine g_aload_n q_X6_build_15 rfl ?_
  refine g_iconst q_X6_build_16 ?_
  refine g_put fp_X6_44 q_X6_build_17 (by repeat first | with_reducible assumption | with_reducible exact hput_s _ _ _ | refine (hput_n _ _ (by omega)).trans ?_ | exact hput_s _ _ _ | assumption) rfl rfl ?_
  refine g_aload_n q_X6_build_20 rfl ?_
  refine g_iconst q_X6_build_21 ?_
  refine g_put fp_X6_47 q_X6_build_22 (by repeat first | with_reducible assumption | with_reducible exact hput_s _ _ _ | refine (hput_n _ _ (by omega)).trans ?_ | exact hput_s _ _ _ | assumption) rfl rfl ?_
  refine g_aload_n q_X6_build_25 rfl ?_
  refine g_get fl_X6_20 q_X6_build_26 (by repeat first | with_reducible assumption | with_reducible exact hput_s _ _ _ | refine (hput_n _ _ (by omega)).trans ?_ | exact hput_s _ _ _ | assumption) rfl ?_
  refine g_aload_n q_X6_build_29 rfl ?_
  refine g_aload_n q_X6_build_30 rfl ?_
  repeat rw [hput_hput]
  obtain ⟨τ0, hτ0⟩ : ∃ τ0, τ0 = hput σ T (tro T ve 0 0 (-1) (-1) false) := ⟨_, rfl⟩
  have l0 : ∀ b, b ≠ T → τ0.2 b = σ.2 b := fun b hb => by rw [hτ0]; exact hput_n _ _ hb
  have t0 : τ0.2 T = some (tro T ve 0 0 (-1) (-1) false) := by rw [hτ0]; exact hput_s _ _ _
  have z0 : τ0.1 = σ.1 := by rw [hτ0]; rfl
  refine g_eq (σ2 := τ0) rfl rfl hτ0.symm ?_
  have hS0 : SRo τ0 s := by
    obtain ⟨y0, ⟨ce, y1⟩, ⟨mv, y2⟩, bk, y3⟩ := hS
    exact ⟨(l0 _ (by omega)).trans y0, ⟨ce, (l0 _ (by omega)).trans y1⟩, ⟨mv, (l0 _ (by omega)).trans y2⟩, bk, (l0 _ (by omega)).trans y3⟩
  have hC0 : SCg τ0 g cols rows n PL GO lv := by
    obtain ⟨y0, y2, y3, y6⟩ := hC
    exact ⟨(l0 _ (by omega)).trans y0, (l0 _ (by omega)).trans y2, (l0 _ (by omega)).trans y3, (l0 _ (by omega)).trans y6⟩
  have hW0 : WYo τ0 (T + 2) n1 P1 C1 := by
    obtain ⟨⟨c1, c2, c3, c4, y0⟩, y1, y2⟩ := hW1
    exact ⟨⟨c1, c2, c3, c4, (l0 _ (by omega)).trans y0⟩, (l0 _ (by omega)).trans y1, (l0 _ (by omega)).trans y2⟩
  have t02 : ∃ c1 c2 c3 c4, τ0.2 (T + 2) = some (wyo (T + 2) n1 c1 c2 c3 c4) := hW0.1
  obtain ⟨c1, c2, c3, c4, t02⟩ := t02
  obtain ⟨R, hR9⟩ : ∃ R, R = max M (tT F) - M := ⟨_, rfl⟩
  rw [← hR9]
  refine g_callVN (rc' := 2 * R) (rs' := 53 * R) (As := [_, _]) cs_X6_51 q_X6_build_31 (sp_goAlone hΓ hL hS0 hC0 hW0 (Or.inr hsg) (Or.inr (by omega)) (Or.inr (by omega)) hn hPL hGO o1 o2) rfl (by repeat first | with_reducible assumption | with_reducible exact hput_s _ _ _ | refine (hput_n _ _ (by omega)).trans ?_ | exact hput_s _ _ _ | assumption) rfl rfl rfl rfl (Nat.le_of_ble_eq_true rfl) (by decide) (Nat.le_refl _) (Nat.le_refl _) (fun _ _ h => h.elim) (fun v σ1 hq => ?_)
  obtain ⟨rfl, hS1, hE1, P1', C1', hW1', oP1, oC1, hal⟩ := hq
  have l1 : ∀ b, ¬ (inb (T + 2) 3 b ∨ inb s 4 b) → σ1.2 b = τ0.2 b := fun b hb => hE1.2 b hb
  have t1 : σ1.2 T = some (tro T ve 0 0 (-1) (-1) false) := (l1 T (fun q => by unfold inb at q; omega)).trans t0
  have z1 : σ1.1 = σ.1 := hE1.1.trans z0
  have lg1 : ∀ b, T + 4 < b → σ1.2 b = σ.2 b := fun b hb => (l1 b (fun q => by unfold inb at q; omega)).trans (l0 b (by omega))
  have hE1s : eqG σ σ1 (fun a => inb T 9 a ∨ inb s 4 a ∨ ownF ad M a) := ⟨by rw [z1]; exact Nat.le_refl _, fun b hb hf => (l1 b (fun q => hf (by unfold inb at q ⊢; omega))).trans (l0 b (fun q => hf (Or.inl (by unfold inb; omega))))⟩
  have hNDS1 : NDS σ1 T M ad 0 (tQ ts0) := by
    have l18 : ∀ b, T + 8 < b → σ1.2 b = σ.2 b := fun b hb => lg1 b (by omega)
    exact NDS.keep (τ := σ) ⟨⟨h1, hM1, hinc, hin⟩, hG, hR, Nat.zero_le _, fun k hk => absurd hk (Nat.not_lt_zero k)⟩ z1 l18 ((l1 _ (fun q => by unfold inb at q; omega)).trans (l0 _ (by omega)))
  obtain ⟨⟨d1, d2, d3, d4, w0⟩, w1, w2⟩ := hW1'
  refine g_aload_n q_X6_build_34 rfl ?_
  refine g_get fl_X6_20 q_X6_build_35 (by repeat first | with_reducible assumption | with_reducible exact hput_s _ _ _ | refine (hput_n _ _ (by omega)).trans ?_ | exact hput_s _ _ _ | assumption) rfl ?_
  refine g_callVN (rc' := 2 * R) (rs' := 53 * R) (As := []) cs_X6_55 q_X6_build_38 (sp_allGo hΓ hn w0 w2 oC1) rfl (by repeat first | with_reducible assumption | with_reducible exact hput_s _ _ _ | refine (hput_n _ _ (by omega)).trans ?_ | exact hput_s _ _ _ | assumption) rfl rfl rfl rfl (Nat.le_of_ble_eq_true rfl) (by decide) (Nat.le_refl _) (Nat.le_refl _) (fun _ _ h => h.elim) (k_rb ?_)
  have hdec : decide (∀ k, k < n → C1' k ≠ -1) = decide (∀ k, k < n → alc lv PL GO k ≠ -1) := by
    congr 1
    exact propext ⟨fun h k hk => by rw [← (hal k hk).1]; exact h k hk, fun h k hk => by rw [(hal k hk).1]; exact h k hk⟩
  rw [hdec]
  refine g_if_ne (tgt := 45) q_X6_build_41 (by decide) (bi_rg _) (fun e1 => ?_) (fun e1 => ?_)
  · have hall : ∀ k, k < n → alc lv PL GO k ≠ -1 := of_decide_eq_true (bi_t e1)
    have aC : ∀ c, c < n → C1' c = alc lv PL GO c := fun c hc => (hal c hc).1
    have aP : ∀ i, i < 41 * n → P1' i = alP lv PL GO i := fun i hi => by
      have := (hal (i / 41) (by omega)).2 (hall _ (by omega)) (i % 41) (by omega)
      rw [show 41 * (i / 41) + i % 41 = i by omega] at this
      exact this
    have hA40 : ∀ c, c < n → 0 ≤ alc lv PL GO c ∧ alc lv PL GO c ≤ 40 := fun c hc => by
      have h5 := oC1 c
      have h6 := hall c hc
      rw [aC c hc] at h5
      omega
    have oA : okP (alP lv PL GO) := fun i => wyt_rg hL (by have := (hPL (i / 41)).1; omega) (by have := (hGO (i / 41)).1; omega) (i % 41)
    have hm4 := mxN_rg (C := alc lv PL GO) (b := 40) (by decide) (n := n) (fun j hj => (hA40 j hj).2)
    have hmC : mxN C1' n = mxN (alc lv PL GO) n := mxN_cong aC
    have hrot : rot P1' C1' n = rot (alP lv PL GO) (alc lv PL GO) n := by
      unfold rot
      rw [sumN_cong aC, hmC, ccN_cong aP (by omega)]
    obtain ⟨x0, hx0⟩ : ∃ x0 : TS, x0 = (1, 0, -1, -1, false, fun _ => rot (alP lv PL GO) (alc lv PL GO) n, 1) := ⟨_, rfl⟩
    have hF1 : F = bl lv PL GO (alP lv PL GO) (alc lv PL GO) n bd 302 x0 := by rw [hF, hx0]; unfold bld; rw [bi_t e1, if_pos rfl]
    have hTF : 1 ≤ tT F := by
      have := bl_mono lv PL GO (alP lv PL GO) (alc lv PL GO) n bd 302 x0
      rw [← hF1, hx0] at this
      exact this
    obtain ⟨MF, hMF⟩ : ∃ MF, MF = max M (tT F) := ⟨_, rfl⟩
    rw [← hMF] at hR9
    have mM : M ≤ max M 1 := Nat.le_max_left _ _
    have mF : max M 1 ≤ MF := by rw [hMF]; exact Nat.max_le.mpr ⟨Nat.le_max_left _ _, Nat.le_trans hTF (Nat.le_max_right _ _)⟩
    refine g_aload_n q_X6_build_45 rfl ?_
    refine g_callV (rc' := 2 * (MF - max M 1)) (rs' := 53 * (MF - max M 1)) (As := []) cs_X6_59 q_X6_build_46 (sp_addRoot hΓ (by rw [z1]; exact hT) t1 hNDS1.1 hNDS1.2.1 hNDS1.2.2.1 hn ⟨⟨d1, d2, d3, d4, w0⟩, w1, w2⟩ oP1 oC1) rfl (by repeat first | with_reducible assumption | with_reducible exact hput_s _ _ _ | refine (hput_n _ _ (by omega)).trans ?_ | exact hput_s _ _ _ | assumption) rfl rfl rfl rfl (Nat.le_of_ble_eq_true rfl) (by decide) (by omega) (by omega) (fun _ _ h => h.elim) (fun v σ2 hq => ?_)
    obtain ⟨rfl, ad2, b1, b2, b3, b4, b5, b6, b7, b8⟩ := hq
    rw [hrot] at b6
    have ownT : ∀ b, ownF ad M b → T + 8 < b := fun b ⟨k, hk, hb⟩ => by have := hin k hk; omega
    have l2 : ∀ b, b < σ.1 → b ≠ T → b ≠ T + 1 → ¬ ownF ad M b → σ2.2 b = σ1.2 b := fun b hb q1 q2 q3 => b7.2 b (by rw [z1]; exact hb) (fun q => by rcases q with q | q | q; exact q1 q; exact q2 q; exact q3 q)
    have l2' : ∀ b, b ≤ T + 8 → b ≠ T → b ≠ T + 1 → σ2.2 b = σ1.2 b := fun b hb q1 q2 => l2 b (by omega) q1 q2 (fun q => by have := ownT b q; omega)
    obtain ⟨SP, w3⟩ := w3
    obtain ⟨⟨v1, v2, v3, v4, y0⟩, y1, y2⟩ := hW2
    have hBI0 : BI σ T M ad ve n s PL GO lv x0 σ2 := by
      rw [hx0]
      obtain ⟨s0, ⟨ce, s1⟩, ⟨mv, s2⟩, bk, s3⟩ := hS1
      refine ⟨ad2, ⟨b1, b4, fun _ => b5, Nat.le_max_right _ _, fun k hk => ?_⟩, b2, fun k q1 q2 => ?_, ?_, b8, ⟨SP, ?_⟩, ⟨?_, ⟨ce, ?_⟩, ⟨mv, ?_⟩, bk, ?_⟩, P1', C1', ⟨⟨d1, d2, d3, d4, ?_⟩, ?_, ?_⟩, oP1, oC1, hal⟩
      · have hk1 : k < 1 := hk
        have e : k = 0 := by omega
        subst e
        exact b6
      · have := b3 k q1 q2
        omega
      · exact hE1s.trans b7 (fun b hb q => by rcases q with q | q | q; exact Or.inl (by unfold inb; omega); exact Or.inl (by unfold inb; omega); exact Or.inr (Or.inr q))
      · exact (l2' _ (by omega) (by omega) (by omega)).trans ((lg1 _ (by omega)).trans w3)
      · exact (l2' _ (by omega) (by omega) (by omega)).trans s0
      · exact (l2' _ (by omega) (by omega) (by omega)).trans s1
      · exact (l2' _ (by omega) (by omega) (by omega)).trans s2
      · exact (l2' _ (by omega) (by omega) (by omega)).trans s3
      · exact (l2' _ (by omega) (by omega) (by omega)).trans w0
      · exact (l2' _ (by omega) (by omega) (by omega)).trans w1
      · exact (l2' _ (by omega) (by omega) (by omega)).trans w2
    have hW20 : WYo σ2 (T + 5) n2 P2 C2 := ⟨⟨v1, v2, v3, v4, (l2' _ (by omega) (by omega) (by omega)).trans ((lg1 _ (by omega)).trans y0)⟩, (l2' _ (by omega) (by omega) (by omega)).trans ((lg1 _ (by omega)).trans y1), (l2' _ (by omega) (by omega) (by omega)).trans ((lg1 _ (by omega)).trans y2)⟩
    have hx0T : tT x0 = 1 := by rw [hx0]; rfl
    rw [← hx0T]
    refine g_iconst q_X6_build_49 ?_
    refine g_istore (L' := [_, _, _, _, _, _, _]) q_X6_build_50 (by decide) rfl ?_
    refine g_iconst q_X6_build_52 ?_
    refine g_istore (L' := [_, _, _, _, _, _, _]) q_X6_build_53 (by decide) rfl ?_
    refine g_loop3 (fun (r : Nat) (x : TS) (τ : AH) => r ≤ 302 ∧ bl lv PL GO (alP lv PL GO) (alc lv PL GO) n bd (302 - r) x = F ∧ BI σ T M ad ve n s PL GO lv x τ ∧ TI (alP lv PL GO) (alc lv PL GO) n (tN x) (tQ x) ∧ rtF (tQ x 0) ∧ tN x ≤ tT x ∧ tP x = -1 ∧ ∃ n2 P2 C2, WYo τ (T + 5) n2 P2 C2 ∧ okP P2 ∧ okC C2) (fun r x τ => G Γ _ cX6_build _ _ (2 * (MF - max M (tT x))) (53 * (MF - max M (tT x))) 55 [some (.ref T), some (.ref g), some (.ref s), some (.int (ii bd)), some (.int (ii 1)), some (.int (ii (r : Int))), none] [] τ) (fun r _ _ => 302 - r) ?_ 0 x0 σ2 ⟨by omega, hF1.symm, hBI0, by rw [hx0]; exact TI_root hA40, by rw [hx0]; exact ⟨rfl, rfl, rfl, rfl, rfl, rfl, rfl⟩, by rw [hx0]; exact Nat.le_refl _, by rw [hx0]; rfl, n2, P2, C2, hW20, o3, o4⟩
    rintro r x τ ⟨hr, hfx, hBI, hTI, hrt, hNT, htP, n3, P3, C3, hW3, o5, o6⟩ ih
    obtain ⟨Rx, hRx⟩ : ∃ Rx, Rx = MF - max M (tT x) := ⟨_, rfl⟩
    rw [← hRx]
    refine g_iload q_X6_build_55 rfl ?_
    refine g_if_eq (tgt := 153) q_X6_build_57 (by decide) ⟨by omega, by omega⟩ (fun q1 => ?_) (fun q1 => ?_)
    · exact absurd q1 (by decide)
    refine g_iload q_X6_build_60 rfl ?_
    refine g_sipush q_X6_build_62 sp_301 ?_
    refine g_icmp_gt (tgt := 153) q_X6_build_65 (by decide) ⟨by omega, by omega⟩ ⟨by omega, by omega⟩ (fun q2 => ?_) (fun q2 => ?_)
    · have e : r = 302 := by omega
      subst e
      have hxF : x = F := hfx
      refine g_return q_X6_build_153.1 rfl ?_
      subst hxF
      exact ⟨rfl, hBI, n3, P3, C3, hW3, o5, o6, fun z => absurd htP z⟩
    obtain ⟨f, hf⟩ : ∃ f, 302 - r = f + 1 := ⟨301 - r, by omega⟩
    rw [hf, bl] at hfx
    have stop93 : ∀ (rc rs : Nat) (x' : TS) (τ' : AH) (y : Option Value), x' = F → BI σ T M ad ve n s PL GO lv x' τ' → BW T n PL GO lv x' τ' → G Γ miX6_build cX6_build (fun r σ' => r = none ∧ BI σ T M ad ve n s PL GO lv F σ' ∧ BW T n PL GO lv F σ') noX rc rs 93 [some (.ref T), some (.ref g), some (.ref s), some (.int (ii bd)), some (.int (ii 1)), some (.int (ii (r : Int))), y] [] τ' := by
      intro rc rs x' τ' y hx' g1 g2
      subst hx'
      refine g_fl (L2 := [some (.ref T), some (.ref g), some (.ref s), some (.int (ii bd)), some (.int (ii 1)), some (.int (ii (r : Int))), none]) ?_ ⟨rfl, rfl, rfl, rfl, rfl, rfl, trivial⟩
      refine g_iconst q_X6_build_93 ?_
      refine g_istore (L' := [_, _, _, _, _, _, _]) q_X6_build_94 (by decide) rfl ?_
      refine g_iload q_X6_build_96 rfl ?_
      refine g_if_eq (tgt := 147) q_X6_build_98 (by decide) ⟨by omega, by omega⟩ (fun p1 => ?_) (fun p1 => ?_)
      · refine g_iinc (L' := [_, _, _, _, _, _, _]) q_X6_build_147 rfl rfl ?_
        refine g_goto (tgt := 55) q_X6_build_150 (by decide) ?_
        refine g_iload q_X6_build_55 rfl ?_
        refine g_if_eq (tgt := 153) q_X6_build_57 (by decide) ⟨by omega, by omega⟩ (fun p2 => ?_) (fun p2 => ?_)
        · refine g_return q_X6_build_153.1 rfl ?_
          exact ⟨rfl, g1, g2⟩
        · exact absurd rfl p2
      · exact absurd rfl p1
    have hBI2 := hBI
    obtain ⟨ad3, hND, c2, c3, c4, c5, ⟨SP3, c6⟩, hS3, P4, C4, hW4, o7, o8, hal4⟩ := hBI2
    have hOK := hTI.okN hn
    have hlr := lwN_rg hOK
    refine g_aload_n q_X6_build_68 rfl ?_
    refine g_iload_n q_X6_build_69 rfl ?_
    refine g_callV (rc' := 2 * Rx) (rs' := 53 * Rx) (As := [_]) cs_X6_62 q_X6_build_70 (sp_choose hΓ c5 hND.1 hND.2.2.2.1 hND.2.2.2.2 hOK bd hbd) rfl (by repeat first | with_reducible assumption | with_reducible exact hput_s _ _ _ | refine (hput_n _ _ (by omega)).trans ?_ | exact hput_s _ _ _ | assumption) rfl rfl rfl rfl (Nat.le_of_ble_eq_true rfl) (by decide) (Nat.le_refl _) (Nat.le_refl _) (fun _ _ h => h.elim) (fun v σa hq => ?_)
    rcases hq with ⟨hl, rfl, hσa⟩ | ⟨hl, rfl, hσa⟩
    · have hb : bst lv PL GO (alP lv PL GO) (alc lv PL GO) n bd x = (false, x) := by unfold bst; rw [if_pos hl]
      rw [hb] at hfx
      have hxF : x = F := hfx
      rw [hσa]
      refine g_astoreN (L' := [_, _, _, _, _, _, _]) q_X6_build_73 (by decide) rfl ?_
      refine g_aloadN q_X6_build_75 rfl ?_
      refine g_ifnullN (tgt := 93) q_X6_build_77 (by decide) ?_
      exact stop93 _ _ x τ _ hxF hBI ⟨n3, P3, C3, hW3, o5, o6, fun z => absurd htP z⟩
    · have hBIa : ∀ x' : TS, tL x' = lwN (tQ x) (tN x) → tN x' = tN x → tS x' = tS x → tP x' = tP x → tC x' = tC x → tQ x' = tQ x → tT x' = tT x → BI σ T M ad ve n s PL GO lv x' σa := fun x' a1 a2 a3 a4 a5 a6 a7 => hBI.ch hsT (by rw [hσa, hput_1]) (fun b hb _ => by rw [hσa]; exact hput_n _ _ hb) (by rw [a1, a2, a3, a4, a5, hσa]; exact hput_s _ _ _) a7 a2 a6
      cases hch : chN (tQ x) bd (lwN (tQ x) (tN x)) (tN x) with
      | none =>
        have hb : bst lv PL GO (alP lv PL GO) (alc lv PL GO) n bd x = (false, (tN x, tS x, lwN (tQ x) (tN x), tP x, tC x, tQ x, tT x)) := by unfold bst; rw [if_neg hl, hch]
        rw [hb] at hfx
        have hxF : (tN x, tS x, lwN (tQ x) (tN x), tP x, tC x, tQ x, tT x) = F := hfx
        refine g_astoreN (L' := [_, _, _, _, _, _, _]) q_X6_build_73 (by decide) rfl ?_
        refine g_aloadN q_X6_build_75 rfl ?_
        refine g_ifnullN (tgt := 93) q_X6_build_77 (by decide) ?_
        obtain ⟨⟨c1, c2, c3, c4, y0⟩, y1, y2⟩ := hW3
        have la : ∀ b, b ≠ T → σa.2 b = τ.2 b := fun b hb => by rw [hσa]; exact hput_n _ _ hb
        exact stop93 _ _ _ σa _ hxF (hBIa _ rfl rfl rfl rfl rfl rfl rfl) ⟨n3, P3, C3, ⟨⟨c1, c2, c3, c4, (la _ (by omega)).trans y0⟩, (la _ (by omega)).trans y1, (la _ (by omega)).trans y2⟩, o5, o6, fun z => absurd htP z⟩
      | some k =>
        have hk := chN_lt hch
        have la : ∀ b, b ≠ T → σa.2 b = τ.2 b := fun b hb => by rw [hσa]; exact hput_n _ _ hb
        have ta : σa.2 T = some (tro T ve (tN x) (tS x) (lwN (tQ x) (tN x)) (tP x) (tC x)) := by rw [hσa]; exact hput_s _ _ _
        have hNDa : NDS σa T (max M (tT x)) ad3 (tN x) (tQ x) := hND.keep (by rw [hσa, hput_1]) (fun b hb => la b (by omega)) (la _ (by omega))
        have hW4a : WYo σa (T + 2) n P4 C4 := by
          obtain ⟨⟨c1, c2, c3, c4, y0⟩, y1, y2⟩ := hW4
          exact ⟨⟨c1, c2, c3, c4, (la _ (by omega)).trans y0⟩, (la _ (by omega)).trans y1, (la _ (by omega)).trans y2⟩
        have hW3a : WYo σa (T + 5) n3 P3 C3 := by
          obtain ⟨⟨c1, c2, c3, c4, y0⟩, y1, y2⟩ := hW3
          exact ⟨⟨c1, c2, c3, c4, (la _ (by omega)).trans y0⟩, (la _ (by omega)).trans y1, (la _ (by omega)).trans y2⟩
        have eC : ∀ c, c < n → ndC (tQ x) C4 k c = ndC (tQ x) (alc lv PL GO) k c := fun c hc => by unfold ndC; rw [(hal4 c hc).1]
        have eP : ∀ i, i < 41 * n → ndP (tQ x) P4 k i = ndP (tQ x) (alP lv PL GO) k i := fun i hi => by
          have := (hal4 (i / 41) (by omega)).2 (hall _ (by omega)) (i % 41) (by omega)
          rw [show 41 * (i / 41) + i % 41 = i by omega] at this
          unfold ndP
          rw [this]
          rfl
        obtain ⟨hcl, hsu, hcr⟩ := hTI.2.2.2.2.2 k hk
        have em : mxN (ndC (tQ x) C4 k) n = mxN (ndC (tQ x) (alc lv PL GO) k) n := mxN_cong eC
        have em4 := mxN_rg (C := ndC (tQ x) (alc lv PL GO) k) (b := 40) (by decide) (n := n) (fun j hj => (hcr j hj).2)
        have hcl4 : pCl (tQ x k) = ccN (ndP (tQ x) P4 k) n (mxN (ndC (tQ x) C4 k) n).toNat := by rw [hcl, em, ccN_cong eP (by omega)]
        have hok := hOK k hk
        have hin3 := hNDa.1.2.2.2 k (by have := hNDa.2.2.2.1; omega)
        refine g_astore (x := ad3 k) (L' := [_, _, _, _, _, _, _]) q_X6_build_73 (by decide) rfl ?_
        refine g_aload (x := ad3 k) q_X6_build_75 rfl ?_
        refine g_ifnull q_X6_build_77 ?_
        refine g_fl (L2 := [some (.ref T), some (.ref g), some (.ref s), some (.int (ii bd)), some (.int (ii 1)), some (.int (ii (r : Int))), some (.ref (ad3 k))]) ?_ ⟨rfl, rfl, rfl, rfl, rfl, rfl, rfl, trivial⟩
        refine g_aload_n q_X6_build_80 rfl ?_
        refine g_aload q_X6_build_81 rfl ?_
        refine g_callV (rc' := 2 * Rx) (rs' := 53 * Rx) (As := [_]) cs_X6_66 q_X6_build_83 (sp_goOn hΓ ta hNDa.1 hNDa.2.2.2.1 hNDa.2.2.2.2 hTI.2.2.1 hOK hn hW4a hW3a o7 o8 o5 o6 k hk hcl4) rfl (by repeat first | with_reducible assumption | with_reducible exact hput_s _ _ _ | refine (hput_n _ _ (by omega)).trans ?_ | exact hput_s _ _ _ | assumption) rfl rfl rfl rfl (Nat.le_of_ble_eq_true rfl) (by decide) (Nat.le_refl _) (Nat.le_refl _) (fun _ _ h => h.elim) (fun v σb hq => ?_)
        obtain ⟨hEb, P5, C5, ct, cs, cl, co, u0, u1, u2, oP5, oC5, fC, fP, hq⟩ := hq
        have fC' : ∀ c, c < n → C5 c = ndC (tQ x) (alc lv PL GO) k c := fun c hc => (fC c hc).trans (eC c hc)
        have fP' : ∀ i, i < 41 * n → P5 i = ndP (tQ x) (alP lv PL GO) k i := fun i hi => (fP i hi).trans (eP i hi)
        have zb : σb.1 = τ.1 := by rw [hEb.1, hσa, hput_1]
        have lb9 : ∀ b, b ≠ T → ¬ inb (T + 5) 3 b → σb.2 b = τ.2 b := fun b q1 q2 => (hEb.2 b (fun q => q.elim q1 q2)).trans (la b q1)
        rcases hq with ⟨p1, rfl, tb⟩ | ⟨p1, p2, rfl, tb⟩ | ⟨p1, p2, rfl, tb, t, sr, a, b, ht, ht4, hfs, rfl, rfl, rfl, rfl⟩
        · have hb : bst lv PL GO (alP lv PL GO) (alc lv PL GO) n bd x = (false, (tN x, tS x, lwN (tQ x) (tN x), (k : Int), tC x, tQ x, tT x)) := by unfold bst; rw [if_neg hl, hch]; simp only; rw [if_pos p1]
          rw [hb] at hfx
          have hxF : (tN x, tS x, lwN (tQ x) (tN x), (k : Int), tC x, tQ x, tT x) = F := hfx
          refine g_if_eq (tgt := 93) q_X6_build_86 (by decide) ⟨by omega, by omega⟩ (fun p9 => ?_) (fun p9 => ?_)
          · exact stop93 _ _ _ σb _ hxF (hBI.ch hsT zb lb9 tb rfl rfl rfl) ⟨n, P5, C5, ⟨⟨ct, cs, cl, co, u0⟩, u1, u2⟩, oP5, oC5, fun _ => ⟨rfl, fC', fP'⟩⟩
          · exact absurd rfl p9
        · have hb : bst lv PL GO (alP lv PL GO) (alc lv PL GO) n bd x = (false, (tN x, tS x, lwN (tQ x) (tN x), tP x, true, tQ x, tT x)) := by unfold bst; rw [if_neg hl, hch]; simp only; rw [if_neg p1, if_pos p2]
          rw [hb] at hfx
          have hxF : (tN x, tS x, lwN (tQ x) (tN x), tP x, true, tQ x, tT x) = F := hfx
          refine g_if_eq (tgt := 93) q_X6_build_86 (by decide) ⟨by omega, by omega⟩ (fun p9 => ?_) (fun p9 => ?_)
          · exact stop93 _ _ _ σb _ hxF (hBI.ch hsT zb lb9 tb rfl rfl rfl) ⟨n, P5, C5, ⟨⟨ct, cs, cl, co, u0⟩, u1, u2⟩, oP5, oC5, fun z => absurd htP z⟩
          · exact absurd rfl p9
        · have hb9 : bst lv PL GO (alP lv PL GO) (alc lv PL GO) n bd x = (true, ((bsK lv PL GO (alP lv PL GO) (alc lv PL GO) n k (tN x, tQ x, tT x)).1, tS x + 1, lwN (tQ x) (tN x), tP x, tC x, (bsK lv PL GO (alP lv PL GO) (alc lv PL GO) n k (tN x, tQ x, tT x)).2.1, (bsK lv PL GO (alP lv PL GO) (alc lv PL GO) n k (tN x, tQ x, tT x)).2.2)) := by unfold bst; rw [if_neg hl, hch]; simp only; rw [if_neg p1, if_neg (by omega)]
          have hbT := bl_T lv PL GO (alP lv PL GO) (alc lv PL GO) n bd x
          rw [if_pos (by rw [hb9])] at hfx
          have hbF : tT (bst lv PL GO (alP lv PL GO) (alc lv PL GO) n bd x).2 ≤ tT F := by rw [← hfx]; exact bl_mono _ _ _ _ _ _ _ _ _
          rw [em] at ht ht4
          have hfs2 := fsC_cong eP (by omega) hfs
          have hfc := fcl_eq ht hfs2
          obtain ⟨Pp, hPp⟩ : ∃ z, z = ndP (tQ x) (alP lv PL GO) k := ⟨_, rfl⟩
          obtain ⟨Cp, hCp⟩ : ∃ z, z = ndC (tQ x) (alc lv PL GO) k := ⟨_, rfl⟩
          obtain ⟨pn1, hpn1⟩ : ∃ z, z = va_up (tQ x) k (spN (tQ x k)) := ⟨_, rfl⟩
          have hK : bsK lv PL GO (alP lv PL GO) (alc lv PL GO) n k (tN x, tQ x, tT x) = gw1 lv PL GO n Pp Cp k t cs b (gw1 lv PL GO n Pp Cp k t cs a (tN x, pn1, tT x)) := by
            unfold bsK
            simp only
            rw [hfc, ← hPp, ← hCp, ← hpn1]
          rw [← hPp] at fP'
          rw [← hCp] at fC'
          obtain ⟨hTI1, hnd1⟩ := TI_split hTI k
          rw [← hpn1] at hTI1 hnd1
          have hrt1 : rtF (pn1 0) := by
            rw [hpn1]; unfold va_up
            split
            · rename_i e; rw [← e]; exact hrt
            · exact hrt
          obtain ⟨hab, hbn, -, -⟩ := hfs.2.1
          have hsr : cs = 0 ∨ cs = 1 := hfs.1.elim Or.inl (fun z => Or.inr z.1)
          have hC5 : ∀ c, c < n → C5 c ≤ 40 := fun c _ => (oC5 c).2
          have ht40 : t < 40 := by omega
          have hNDb : NDS σb T (max M (tT x)) ad3 (tN x) (tQ x) := hND.keep zb (fun b hb => lb9 b (by omega) (fun q => by unfold inb at q; omega)) (lb9 _ (by omega) (fun q => by unfold inb at q; omega))
          have nk := (hNDb.2.2.2.2 k hk).1
          have hnc1 := hTI.1
          have hM3 := hNDb.2.2.2.1
          refine g_if_eq (tgt := 93) q_X6_build_86 (by decide) ⟨by omega, by omega⟩ (fun p9 => ?_) (fun p9 => ?_)
          · exact absurd p9 (by decide)
          refine g_iconst q_X6_build_89 ?_
          refine g_goto (tgt := 94) q_X6_build_90 (by decide) ?_
          refine g_istore (L' := [_, _, _, _, _, _, _]) q_X6_build_94 (by decide) rfl ?_
          refine g_iload q_X6_build_96 rfl ?_
          refine g_if_eq (tgt := 147) q_X6_build_98 (by decide) ⟨by omega, by omega⟩ (fun p8 => ?_) (fun p8 => ?_)
          · exact absurd p8 (by decide)
          refine g_aload q_X6_build_101 rfl ?_
          refine g_iconst q_X6_build_103 ?_
          refine g_put fp_X6_70 q_X6_build_104 (by repeat first | with_reducible assumption | with_reducible exact hput_s _ _ _ | refine (hput_n _ _ (by omega)).trans ?_ | exact hput_s _ _ _ | assumption) rfl rfl ?_
          refine g_aload_n q_X6_build_107 rfl ?_
          refine g_dup q_X6_build_108 rfl ?_
          refine g_get fl_X6_38 q_X6_build_109 (by repeat first | with_reducible assumption | with_reducible exact hput_s _ _ _ | refine (hput_n _ _ (by omega)).trans ?_ | exact hput_s _ _ _ | assumption) rfl ?_
          refine g_iconst q_X6_build_112 ?_
          refine g_iadd q_X6_build_113 ?_
          refine g_put fp_X6_38 q_X6_build_114 (by repeat first | with_reducible assumption | with_reducible exact hput_s _ _ _ | refine (hput_n _ _ (by omega)).trans ?_ | exact hput_s _ _ _ | assumption) rfl rfl ?_
          refine g_aload_n q_X6_build_117 rfl ?_
          refine g_aload_n q_X6_build_118 rfl ?_
          refine g_aload_n q_X6_build_119 rfl ?_
          refine g_aload q_X6_build_120 rfl ?_
          refine g_aload_n q_X6_build_122 rfl ?_
          refine g_get fl_X6_24 q_X6_build_123 (by repeat first | with_reducible assumption | with_reducible exact hput_s _ _ _ | refine (hput_n _ _ (by omega)).trans ?_ | exact hput_s _ _ _ | assumption) rfl ?_
          refine g_get fl_X6_73 q_X6_build_126 (by repeat first | with_reducible assumption | with_reducible exact hput_s _ _ _ | refine (hput_n _ _ (by omega)).trans ?_ | exact hput_s _ _ _ | assumption) rfl ?_
          obtain ⟨τ3, hτ3⟩ : ∃ τ3, τ3 = hput (hput σb (ad3 k) (nod (ad3 k) k (if k = 0 then none else some (ad3 (pPi (tQ x k)))) (pCa (tQ x k)) (pTi (tQ x k)) (pFr (tQ x k)) (pTo (tQ x k)) (pCo (tQ x k)) (pSu (tQ x k)) (pCl (tQ x k)) (pFo (tQ x k)) true)) T (tro T ve (tN x) (tS x + 1) (lwN (tQ x) (tN x)) (tP x) (tC x)) := ⟨_, rfl⟩
          refine g_eq (σ2 := τ3) rfl rfl hτ3.symm ?_
          have z3 : τ3.1 = τ.1 := by rw [hτ3, hput_1, hput_1]; exact zb
          have l3 : ∀ b, b ≠ T → b ≠ ad3 k → τ3.2 b = σb.2 b := fun b q1 q2 => by rw [hτ3, hput_n _ _ q1, hput_n _ _ q2]
          have t3 : τ3.2 T = some (tro T ve (tN x) (tS x + 1) (lwN (tQ x) (tN x)) (tP x) (tC x)) := by rw [hτ3]; exact hput_s _ _ _
          have hND3 : NDS τ3 T (max M (tT x)) ad3 (tN x) pn1 := by
            rw [hpn1]
            exact (hNDb.split hrt hk).keep (by rw [hτ3]; rfl) (fun b hb => by rw [hτ3]; exact hput_n _ _ (by omega)) (by rw [hτ3]; exact hput_n _ _ (by omega))
          have l3' : ∀ b, b ≤ T + 8 → b ≠ T → ¬ inb (T + 5) 3 b → τ3.2 b = τ.2 b := fun b q0 q1 q2 => (l3 b q1 (by omega)).trans (lb9 b q1 q2)
          have hT3 : T + 8 < τ3.1 := by rw [z3]; have := c4.1; omega
          have hS33 : SRo τ3 s := by
            obtain ⟨y0, ⟨ce, y1⟩, ⟨mv, y2⟩, bk, y3⟩ := hS3
            exact ⟨(l3' _ (by omega) (by omega) (fun q => by unfold inb at q; omega)).trans y0, ⟨ce, (l3' _ (by omega) (by omega) (fun q => by unfold inb at q; omega)).trans y1⟩, ⟨mv, (l3' _ (by omega) (by omega) (fun q => by unfold inb at q; omega)).trans y2⟩, bk, (l3' _ (by omega) (by omega) (fun q => by unfold inb at q; omega)).trans y3⟩
          have nof : ∀ b, b ≤ g + 6 → ¬ (inb T 9 b ∨ inb s 4 b ∨ ownF ad M b) := fun b hb q => by
            rcases q with q | q | q
            · unfold inb at q; omega
            · unfold inb at q; omega
            · have := ownT b q; omega
          have gl : ∀ b, b ≤ g + 6 → τ3.2 b = σ.2 b := fun b hb => (l3' b (by omega) (by omega) (fun q => by unfold inb at q; omega)).trans (c4.2 b (by omega) (nof b hb))
          have hC3 : SCg τ3 g cols rows n PL GO lv := by
            obtain ⟨y0, y2, y3, y6⟩ := hC
            exact ⟨(gl _ (by omega)).trans y0, (gl _ (by omega)).trans y2, (gl _ (by omega)).trans y3, (gl _ (by omega)).trans y6⟩
          have v0 := (l3 (T + 5) (by omega) (by omega)).trans u0
          have v1 := (l3 (T + 5 + 1) (by omega) (by omega)).trans u1
          have v2 := (l3 (T + 5 + 2) (by omega) (by omega)).trans u2
          have v8 := (l3' (T + 8) (by omega) (by omega) (fun q => by unfold inb at q; omega)).trans c6
          obtain ⟨y1, hy1⟩ : ∃ z, z = gw1 lv PL GO n Pp Cp k t cs a (tN x, pn1, tT x) := ⟨_, rfl⟩
          have g1 := gw1_TI (lv := lv) (PL := PL) (GO := GO) (s := cs) (P := Pp) (C := Cp) (c := a) (t := t) (par := k) (tT x) hTI1 hrt1 (by omega) hk (by omega) ht40 hL hPL hGO oA (by rw [hPp, (hnd1 k hk).2]) (by rw [hCp, (hnd1 k hk).1])
          rw [← hy1] at g1 hK
          obtain ⟨gT, gR, gN1, gN2, gO⟩ := g1
          obtain ⟨y2, hy2⟩ : ∃ z, z = gw1 lv PL GO n Pp Cp k t cs b y1 := ⟨_, rfl⟩
          have hy1t : y1.2.2 = max (tT x) (tN x + 1) := by rw [hy1, gw1_T]
          have hy2t : y2.2.2 = max (max (tT x) (tN x + 1)) (y1.1 + 1) := by rw [hy2, gw1_T, hy1t]
          rw [hb9, hK, ← hy2] at hfx hbF
          have hbF2 : y2.2.2 ≤ tT F := hbF
          obtain ⟨M1, hM1d⟩ : ∃ z, z = max M (tT x) := ⟨_, rfl⟩
          obtain ⟨M2, hM2d⟩ : ∃ z, z = max M1 (tN x + 1) := ⟨_, rfl⟩
          obtain ⟨M3, hM3d⟩ : ∃ z, z = max M2 (y1.1 + 1) := ⟨_, rfl⟩
          have hM3e : M3 = max M y2.2.2 := by rw [hM3d, hM2d, hM1d, hy2t, Nat.max_assoc, Nat.max_assoc, Nat.max_assoc]
          have m12 : M1 ≤ M2 := by rw [hM2d]; exact Nat.le_max_left _ _
          have m23 : M2 ≤ M3 := by rw [hM3d]; exact Nat.le_max_left _ _
          have m3F : M3 ≤ MF := by rw [hM3e, hMF]; exact Nat.max_le.mpr ⟨Nat.le_max_left _ _, Nat.le_trans hbF2 (Nat.le_max_right _ _)⟩
          rw [← hM1d] at hND3 hRx hM3 c3
          have sp1 := sp_grow hΓ hsg hsT hT3 t3 hND3.1 hND3.2.2.2.1 (by omega) hnc1 hND3.2.1 (hND3.2.2.1 (by omega)) hND3.2.2.2.2 hTI1.2.2.1 (hTI1.okN hn) hTI1.2.2.2.1 hTI1.2.2.2.2.1 hn v0 v1 v2 ⟨SP3, v8⟩ oP5 oC5 ht40 hsr hS33 hC3 hL hPL hGO k a hk (by omega)
          rw [← hM2d] at sp1
          refine g_callV (rc' := 2 * (MF - M2)) (rs' := 53 * (MF - M2)) (As := [_, _, _, _]) cs_X6_76 q_X6_build_129 (sp1) rfl (by repeat first | with_reducible assumption | with_reducible exact hput_s _ _ _ | refine (hput_n _ _ (by omega)).trans ?_ | exact hput_s _ _ _ | assumption) rfl rfl rfl rfl (Nat.le_of_ble_eq_true rfl) (by decide) (by omega) (by omega) (fun _ _ h => h.elim) (fun v σ4 hq => ?_)
          obtain ⟨rfl, ad4, hND4, j2, j3, j4, j5, ⟨SP4, j6⟩, j7⟩ := grQ_out hq hND3.2.2.2.1 (tT x)
          rw [gw1_cong fP' fC' hC5 (by omega) ht40, ← hy1] at hND4 j7
          rw [← hM2d] at hND4 j3
          have own3 : ∀ b, ownF ad3 M1 b → T + 8 < b := fun b ⟨j, hj, hb⟩ => by have := hND3.1.2.2.2 j hj; omega
          have own4 : ∀ b, ownF ad4 M2 b → T + 8 < b := fun b ⟨j, hj, hb⟩ => by have := hND4.1.2.2.2 j hj; omega
          have l4 : ∀ b, b ≤ T + 8 → b ≠ T → b ≠ T + 1 → b ≠ T + 8 → ¬ inb s 4 b → σ4.2 b = τ3.2 b := fun b q0 q1 q2 q3 q4 => j4.2 b (by omega) (fun q => by
            rcases q with q | q | q | q | q
            · exact q1 q
            · exact q2 q
            · exact q3 q
            · exact q4 q
            · have := own3 b q; omega)
          have hT4 : T + 8 < σ4.1 := by have := j4.1; omega
          have hC4 : SCg σ4 g cols rows n PL GO lv := by
            obtain ⟨y0, y2, y3, y6⟩ := hC3
            exact ⟨(l4 _ (by omega) (by omega) (by omega) (by omega) (fun q => by unfold inb at q; omega)).trans y0, (l4 _ (by omega) (by omega) (by omega) (by omega) (fun q => by unfold inb at q; omega)).trans y2, (l4 _ (by omega) (by omega) (by omega) (by omega) (fun q => by unfold inb at q; omega)).trans y3, (l4 _ (by omega) (by omega) (by omega) (by omega) (fun q => by unfold inb at q; omega)).trans y6⟩
          have x0 := (l4 (T + 5) (by omega) (by omega) (by omega) (by omega) (fun q => by unfold inb at q; omega)).trans v0
          have x1 := (l4 (T + 5 + 1) (by omega) (by omega) (by omega) (by omega) (fun q => by unfold inb at q; omega)).trans v1
          have x2 := (l4 (T + 5 + 2) (by omega) (by omega) (by omega) (by omega) (fun q => by unfold inb at q; omega)).trans v2
          have hM4 := hND4.2.2.2.1
          have sp2 := sp_grow hΓ hsg hsT hT4 j7 hND4.1 hM4 (by omega) (by omega) hND4.2.1 (hND4.2.2.1 (by omega)) hND4.2.2.2.2 gT.2.2.1 (gT.okN hn) gT.2.2.2.1 gT.2.2.2.2.1 hn x0 x1 x2 ⟨SP4, j6⟩ oP5 oC5 ht40 hsr j5 hC4 hL hPL hGO k b (by omega) hbn
          rw [← hM3d, j2 k (by omega)] at sp2
          refine g_aload_n q_X6_build_132 rfl ?_
          refine g_aload_n q_X6_build_133 rfl ?_
          refine g_aload_n q_X6_build_134 rfl ?_
          refine g_aload q_X6_build_135 rfl ?_
          refine g_aload_n q_X6_build_137 rfl ?_
          refine g_get fl_X6_24 q_X6_build_138 (by repeat first | with_reducible assumption | with_reducible exact hput_s _ _ _ | refine (hput_n _ _ (by omega)).trans ?_ | exact hput_s _ _ _ | assumption) rfl ?_
          refine g_get fl_X6_80 q_X6_build_141 (by repeat first | with_reducible assumption | with_reducible exact hput_s _ _ _ | refine (hput_n _ _ (by omega)).trans ?_ | exact hput_s _ _ _ | assumption) rfl ?_
          refine g_callV (rc' := 2 * (MF - M3)) (rs' := 53 * (MF - M3)) (As := [_, _, _, _]) cs_X6_76 q_X6_build_144 (sp2) rfl (by repeat first | with_reducible assumption | with_reducible exact hput_s _ _ _ | refine (hput_n _ _ (by omega)).trans ?_ | exact hput_s _ _ _ | assumption) rfl rfl rfl rfl (Nat.le_of_ble_eq_true rfl) (by decide) (by omega) (by omega) (fun _ _ h => h.elim) (fun v σ5 hq => ?_)
          obtain ⟨rfl, ad5, hND5, i2, i3, i4, i5, ⟨SP5, i6⟩, i7⟩ := grQ_out hq hM4 y1.2.2
          rw [gw1_cong fP' fC' hC5 (by omega) ht40, show (y1.1, y1.2.1, y1.2.2) = y1 from rfl, ← hy2] at hND5 i7
          rw [← hM3d] at hND5 i3
          have od1 := nd_old (pn2 := y1.2.1) hTI1.2.2.1 (fun j hj => by rw [gO j hj]; exact ⟨rfl, rfl, rfl, rfl⟩) (alP lv PL GO) (alc lv PL GO) k hk
          have g2 := gw1_TI (lv := lv) (PL := PL) (GO := GO) (s := cs) (P := Pp) (C := Cp) (c := b) (t := t) (par := k) y1.2.2 gT gR (by omega) (by omega) hbn ht40 hL hPL hGO oA (by rw [hPp, od1.2, (hnd1 k hk).2]) (by rw [hCp, od1.1, (hnd1 k hk).1])
          rw [show (y1.1, y1.2.1, y1.2.2) = y1 from rfl, ← hy2] at g2
          obtain ⟨hT5, hR5, gN3, gN4, -⟩ := g2
          have had4 : ∀ j, j < M → ad4 j = ad j := fun j hj => by
            have hj1 : j < M1 := by rw [hM1d]; exact Nat.lt_of_lt_of_le hj (Nat.le_max_left _ _)
            rw [j2 j hj1]; exact c2 j hj
          have hs3 : σ.1 ≤ τ3.1 := by rw [z3]; exact c4.1
          have hs4 : σ.1 ≤ σ4.1 := Nat.le_trans hs3 j4.1
          have mM1 : M ≤ M1 := by rw [hM1d]; exact Nat.le_max_left _ _
          have hnw4 : ∀ j, M ≤ j → j < M2 → σ.1 ≤ ad4 j := fun j q1 q2 => by
            by_cases z : j < M1
            · rw [j2 j z]; exact c3 j q1 z
            · exact Nat.le_trans hs3 (j3 j (by omega) q2)
          have l5 : ∀ b, b ≤ T + 8 → b ≠ T → b ≠ T + 1 → b ≠ T + 8 → ¬ inb s 4 b → σ5.2 b = σ4.2 b := fun b q0 q1 q2 q3 q4 => i4.2 b (by omega) (fun q => by
            rcases q with q | q | q | q | q
            · exact q1 q
            · exact q2 q
            · exact q3 q
            · exact q4 q
            · have := own4 b q; omega)
          have hEs3 : eqG σ τ3 (fun a => inb T 9 a ∨ inb s 4 a ∨ ownF ad M a) := ⟨hs3, fun b hb hf9 => by
            have q1 : b ≠ T := fun q => hf9 (Or.inl (by unfold inb; omega))
            have q2 : ¬ inb (T + 5) 3 b := fun q => hf9 (Or.inl (by unfold inb at q ⊢; omega))
            have q3 : b ≠ ad3 k := fun q => hf9 (Or.inr (Or.inr (own_tr c2 c3 hb ⟨k, by omega, Or.inl q⟩)))
            exact ((l3 b q1 q3).trans (lb9 b q1 q2)).trans (c4.2 b hb hf9)⟩
          have hEs4 : eqG σ σ4 (fun a => inb T 9 a ∨ inb s 4 a ∨ ownF ad M a) := hEs3.trans j4 (fun b hb q => by
            rcases q with q | q | q | q | q
            · exact Or.inl (by unfold inb; omega)
            · exact Or.inl (by unfold inb; omega)
            · exact Or.inl (by unfold inb; omega)
            · exact Or.inr (Or.inl q)
            · exact Or.inr (Or.inr (own_tr c2 c3 hb q)))
          have hEs5 : eqG σ σ5 (fun a => inb T 9 a ∨ inb s 4 a ∨ ownF ad M a) := hEs4.trans i4 (fun b hb q => by
            rcases q with q | q | q | q | q
            · exact Or.inl (by unfold inb; omega)
            · exact Or.inl (by unfold inb; omega)
            · exact Or.inl (by unfold inb; omega)
            · exact Or.inr (Or.inl q)
            · exact Or.inr (Or.inr (own_tr had4 hnw4 hb q)))
          have k5 : ∀ b, b ≤ T + 8 → b ≠ T → b ≠ T + 1 → b ≠ T + 8 → ¬ inb s 4 b → ¬ inb (T + 5) 3 b → σ5.2 b = τ.2 b := fun b q0 q1 q2 q3 q4 q5 => ((l5 b q0 q1 q2 q3 q4).trans (l4 b q0 q1 q2 q3 q4)).trans (l3' b q0 q1 q5)
          have hBI5 : BI σ T M ad ve n s PL GO lv (y2.1, tS x + 1, lwN (tQ x) (tN x), tP x, tC x, y2.2.1, y2.2.2) σ5 := by
            obtain ⟨⟨c1, c2', c3', c4', w0⟩, w1, w2⟩ := hW4
            refine ⟨ad5, ?_, fun j hj => ?_, fun j q1 q2 => ?_, hEs5, i7, ⟨SP5, i6⟩, i5, P4, C4, ⟨⟨c1, c2', c3', c4', ?_⟩, ?_, ?_⟩, o7, o8, hal4⟩
            · show NDS σ5 T (max M y2.2.2) ad5 y2.1 y2.2.1
              rw [← hM3e]; exact hND5
            · rw [i2 j (by omega)]; exact had4 j hj
            · have q2' : j < max M y2.2.2 := q2
              rw [← hM3e] at q2'
              by_cases z : j < M2
              · rw [i2 j z]; exact hnw4 j q1 z
              · exact Nat.le_trans hs4 (i3 j (by omega) q2')
            · exact (k5 _ (by omega) (by omega) (by omega) (by omega) (fun q => by unfold inb at q; omega) (fun q => by unfold inb at q; omega)).trans w0
            · exact (k5 _ (by omega) (by omega) (by omega) (by omega) (fun q => by unfold inb at q; omega) (fun q => by unfold inb at q; omega)).trans w1
            · exact (k5 _ (by omega) (by omega) (by omega) (by omega) (fun q => by unfold inb at q; omega) (fun q => by unfold inb at q; omega)).trans w2
          have hgo := ih (r + 1) (y2.1, tS x + 1, lwN (tQ x) (tN x), tP x, tC x, y2.2.1, y2.2.2) σ5 ⟨by omega, by rw [show 302 - (r + 1) = f by omega]; exact hfx, hBI5, hT5, hR5, by have h9 := hND5.2.2.2.1; show y2.1 ≤ y2.2.2; rw [hy2t]; have := Nat.le_max_right (max (tT x) (tN x + 1)) (y1.1 + 1); omega, htP, n, P5, C5, ⟨⟨_, _, _, _, (l5 _ (by omega) (by omega) (by omega) (by omega) (fun q => by unfold inb at q; omega)).trans x0⟩, (l5 _ (by omega) (by omega) (by omega) (by omega) (fun q => by unfold inb at q; omega)).trans x1, (l5 _ (by omega) (by omega) (by omega) (by omega) (fun q => by unfold inb at q; omega)).trans x2⟩, oP5, oC5⟩ (by omega)
          rw [show tT (y2.1, tS x + 1, lwN (tQ x) (tN x), tP x, tC x, y2.2.1, y2.2.2) = y2.2.2 from rfl, ← hM3e] at hgo
          refine g_iinc (L' := [_, _, _, _, _, _, _]) q_X6_build_147 rfl rfl ?_
          refine g_goto (tgt := 55) q_X6_build_150 (by decide) ?_
          exact g_fl hgo ⟨rfl, rfl, rfl, rfl, rfl, rfl, trivial⟩
  · have hF0 : F = ts0 := by rw [hF]; unfold bld; rw [bi_f e1, if_neg (by decide)]
    refine g_return q_X6_build_44.1 rfl ?_
    obtain ⟨SP, w3⟩ := w3
    obtain ⟨⟨e1, e2, e3, e4, y0⟩, y1, y2⟩ := hW2
    refine ⟨rfl, ⟨ad, ?_, fun _ _ => rfl, fun k ha hb => ?_, hE1s, ?_, ⟨SP, (lg1 _ (by omega)).trans w3⟩, hS1, P1', C1', ⟨⟨d1, d2, d3, d4, w0⟩, w1, w2⟩, oP1, oC1, hal⟩, n2, P2, C2, ⟨⟨e1, e2, e3, e4, (lg1 _ (by omega)).trans y0⟩, (lg1 _ (by omega)).trans y1, (lg1 _ (by omega)).trans y2⟩, o3, o4, fun z => ?_⟩
    · rw [hF0]
      show NDS σ1 T (max M 0) ad 0 (tQ ts0)
      rw [Nat.max_eq_left (Nat.zero_le _)]
      exact hNDS1
    · rw [hF0] at hb
      have : max M (tT ts0) = M := Nat.max_eq_left (Nat.zero_le _)
      omega
    · rw [hF0]; exact t1
    · rw [hF0] at z; exact absurd rfl z
end TRB

