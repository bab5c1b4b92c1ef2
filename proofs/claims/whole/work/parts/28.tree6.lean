/-! Tree: grow -/
def okF (pn : Nat → PN) (nc : Nat) : Prop := ∀ k, k < nc → 0 ≤ pFo (pn k) ∧ pFo (pn k) ≤ k
def grQ (σ : AH) (T M : Nat) (ad : Nat → Nat) (ve lo pl : Int) (nc spl n : Nat) (cu : Bool) (pn : Nat → PN) (P C : Nat → Int) (s : Nat) (PL GO : Nat → Int) (lv : Nat → BitVec 64) (par c t : Nat) (sr : Int) : Option Value → AH → Prop := fun r σ' => r = none ∧ ∃ ad', TND σ' T (max M (nc + 1)) ad' ∧ (∀ k, k < M → ad' k = ad k) ∧ (∀ k, M ≤ k → k < max M (nc + 1) → σ.1 ≤ ad' k) ∧ (∀ k, k < max M (nc + 1) → NDg σ' ad' k) ∧ NDr σ' ad' ∧ (∀ k, k < nc → NDp σ' ad' k (pn k)) ∧ eqG σ σ' (fun a => a = T ∨ a = T + 1 ∨ a = T + 8 ∨ inb s 4 a ∨ ownF ad M a) ∧ SRo σ' s ∧ (∃ SP, σ'.2 (T + 8) = some (ai 41 SP)) ∧ ((grN lv PL GO n pn nc par c t sr P C = none ∧ σ'.2 T = some (tro T ve nc spl lo pl cu)) ∨ ∃ q, grN lv PL GO n pn nc par c t sr P C = some q ∧ σ'.2 T = some (tro T ve (nc + 1) spl lo pl cu) ∧ NDp σ' ad' nc q)
section TR6
variable {Γ : GT} {σ : AH} {T M : Nat} {ad : Nat → Nat} {ve lo pl : Int} {nc spl n : Nat} {cu : Bool} {pn : Nat → PN} {P C : Nat → Int} {s g cols rows : Nat} {PL GO : Nat → Int} {lv : Nat → BitVec 64}
theorem sp_grow (hΓ : Gd Γ) (hsg : g + 6 < s) (hsT : s + 3 < T) (hT : T + 8 < σ.1) (h0 : σ.2 T = some (tro T ve nc spl lo pl cu)) (hN : TND σ T M ad) (hM : nc ≤ M) (hnc : nc < 301) (hnc0 : 0 < nc) (hG : ∀ k, k < M → NDg σ ad k) (hR : NDr σ ad) (hk : ∀ k, k < nc → NDp σ ad k (pn k)) (hTt : okT pn nc n) (hO : okN pn nc) (hF : okF pn nc) (hR0 : pCa (pn 0) = -1) (hn : n ≤ 5) {t : Nat} {sr cl co : Int} (w0 : σ.2 (T + 5) = some (wyo (T + 5) n ((t + 1 : Nat) : Int) sr cl co)) (w1 : σ.2 (T + 5 + 1) = some (ai 205 P)) (w2 : σ.2 (T + 5 + 2) = some (ai 5 C)) (w3 : ∃ SP, σ.2 (T + 8) = some (ai 41 SP)) (oP : okP P) (oC : okC C) (ht : t < 40) (hsr : sr = 0 ∨ sr = 1) (hS : SRo σ s) (hC : SCg σ g cols rows n PL GO lv) (hL : okL lv) (hPL : okQ n PL) (hGO : okQ n GO) (par c : Nat) (hpar : par < nc) (hc : c < n) : Sp Γ miX6_grow (2 * (max M (nc + 1) - M)) (53 * (max M (nc + 1) - M)) [.ref T, .ref g, .ref s, .ref (ad par), .int (ii c)] σ (grQ σ T M ad ve lo pl nc spl n cu pn P C s PL GO lv par c t sr) noX := by
  obtain ⟨SP, w3⟩ := w3
  have hpi : ∀ k, 0 < k → k < nc → pPi (pn k) < k := fun k a b => (hTt k a b).1
  have hOp := hO par hpar
  have hFp := hF par hpar
  have hCc := oC c
  have hPt := oP (41 * c + (t + 1))
  have hPt0 := oP (41 * c + t)
  refine Sp_of (L := [_, _, _, _, _, _]) hΓ (by decide +kernel) rfl (Nat.le_of_ble_eq_true rfl) rfl ?_
  refine g_aload_n q_X6_grow_0 rfl ?_
  refine g_callV (rc' := 0) (rs' := 0) (As := []) cs_X6_86 q_X6_grow_1 (sp_nextNode hΓ hT h0 hN hM hnc hG (fun _ => hR)) rfl (by repeat first | with_reducible assumption | with_reducible exact hput_s _ _ _ | refine (hput_n _ _ (by omega)).trans ?_ | exact hput_s _ _ _ | assumption) rfl rfl rfl rfl (Nat.le_of_ble_eq_true rfl) (by decide) (by omega) (by omega) (fun _ _ h => h.elim) (fun v σ1 hq => ?_)
  obtain ⟨ad', rfl, hN1, had, hnw, hG1, hR1, hE1⟩ := hq
  have hsz : σ.1 ≤ σ1.1 := hE1.1
  have hncM : nc < max M (nc + 1) := Nat.lt_of_lt_of_le (Nat.lt_succ_self nc) (Nat.le_max_right _ _)
  have hMM : M ≤ max M (nc + 1) := Nat.le_max_left _ _
  obtain ⟨M', hM'⟩ : ∃ M', M' = max M (nc + 1) := ⟨_, rfl⟩
  rw [← hM'] at hN1 hG1 hncM hMM hnw
  have hN10 := hN1
  obtain ⟨h11, hM11, hinc1, hin1⟩ := hN1
  have hina := hin1 nc hncM
  have hinp := hN.2.2.2 par (by omega)
  have hadp : ad' par = ad par := had par (by omega)
  have hne : ad par + 1 < ad' nc := by rw [← hadp]; exact hinc1 par nc hpar hncM
  obtain ⟨pa, ca, ti, fr, to, kc, su, kl, fo, sp, R, hnd⟩ := hG1 nc hncM
  obtain ⟨a, ha⟩ : ∃ a, a = ad' nc := ⟨_, rfl⟩
  rw [← ha] at hnd hina hne ⊢
  obtain ⟨n0, n1⟩ := hnd
  have lw : ∀ b, b < σ.1 → b ≠ T + 1 → σ1.2 b = σ.2 b := fun b hb hn => hE1.2 b hb hn
  have k0 : σ1.2 T = some (tro T ve nc spl lo pl cu) := (lw T (by omega) (by omega)).trans h0
  have k5 : σ1.2 (T + 5) = some (wyo (T + 5) n ((t + 1 : Nat) : Int) sr cl co) := (lw _ (by omega) (by omega)).trans w0
  have k6 : σ1.2 (T + 5 + 1) = some (ai 205 P) := (lw _ (by omega) (by omega)).trans w1
  have k7 : σ1.2 (T + 5 + 2) = some (ai 5 C) := (lw _ (by omega) (by omega)).trans w2
  have k8 : σ1.2 (T + 8) = some (ai 41 SP) := (lw _ (by omega) (by omega)).trans w3
  have kn1 : ∀ k, k < nc → NDp σ1 ad' k (pn k) := fun k hkk => by
    have := hN.2.2.2 k (by omega)
    exact (hk k hkk).ren had (by omega) (fun z => hpi k z hkk) (lw _ (by omega) (by omega)) (lw _ (by omega) (by omega))
  refine g_astore (L' := [_, _, _, _, _, _]) q_X6_grow_4 (by decide) rfl ?_
  refine g_aload q_X6_grow_6 rfl ?_
  refine g_aload_n q_X6_grow_8 rfl ?_
  refine g_put fp_X6_119 q_X6_grow_9 (by repeat first | with_reducible assumption | with_reducible exact hput_s _ _ _ | refine (hput_n _ _ (by omega)).trans ?_ | exact hput_s _ _ _ | assumption) rfl rfl ?_
  refine g_aload q_X6_grow_12 rfl ?_
  refine g_iload q_X6_grow_14 rfl ?_
  refine g_put fp_X6_123 q_X6_grow_16 (by repeat first | with_reducible assumption | with_reducible exact hput_s _ _ _ | refine (hput_n _ _ (by omega)).trans ?_ | exact hput_s _ _ _ | assumption) rfl rfl ?_
  refine g_aload q_X6_grow_19 rfl ?_
  refine g_aload_n q_X6_grow_21 rfl ?_
  refine g_get fl_X6_24 q_X6_grow_22 (by repeat first | with_reducible assumption | with_reducible exact hput_s _ _ _ | refine (hput_n _ _ (by omega)).trans ?_ | exact hput_s _ _ _ | assumption) rfl ?_
  refine g_get fl_X6_142 q_X6_grow_25 (by repeat first | with_reducible assumption | with_reducible exact hput_s _ _ _ | refine (hput_n _ _ (by omega)).trans ?_ | exact hput_s _ _ _ | assumption) rfl ?_
  refine g_put fp_X6_145 q_X6_grow_28 (by repeat first | with_reducible assumption | with_reducible exact hput_s _ _ _ | refine (hput_n _ _ (by omega)).trans ?_ | exact hput_s _ _ _ | assumption) rfl rfl ?_
  repeat rw [hput_hput]
  obtain ⟨σ2, hσ2⟩ : ∃ σ2, σ2 = hput σ1 a (nod a nc (some (ad par)) c ((t + 1 : Nat) : Int) fr to kc su kl fo sp) := ⟨_, rfl⟩
  have m0 : σ2.2 T = some (tro T ve nc spl lo pl cu) := by rw [hσ2]; exact (by repeat first | with_reducible assumption | with_reducible exact hput_s _ _ _ | refine (hput_n _ _ (by omega)).trans ?_ | exact hput_s _ _ _ | assumption)
  have m5 : σ2.2 (T + 5) = some (wyo (T + 5) n ((t + 1 : Nat) : Int) sr cl co) := by rw [hσ2]; exact (by repeat first | with_reducible assumption | with_reducible exact hput_s _ _ _ | refine (hput_n _ _ (by omega)).trans ?_ | exact hput_s _ _ _ | assumption)
  have m6 : σ2.2 (T + 5 + 1) = some (ai 205 P) := by rw [hσ2]; exact (by repeat first | with_reducible assumption | with_reducible exact hput_s _ _ _ | refine (hput_n _ _ (by omega)).trans ?_ | exact hput_s _ _ _ | assumption)
  have ma : σ2.2 a = some (nod a nc (some (ad par)) c ((t + 1 : Nat) : Int) fr to kc su kl fo sp) := by rw [hσ2]; exact hput_s _ _ _
  refine g_eq (σ2 := σ2) rfl rfl hσ2.symm ?_
  refine g_aload q_X6_grow_31 rfl ?_
  refine g_aload_n q_X6_grow_33 rfl ?_
  refine g_get fl_X6_24 q_X6_grow_34 (by repeat first | with_reducible assumption | with_reducible exact hput_s _ _ _ | refine (hput_n _ _ (by omega)).trans ?_ | exact hput_s _ _ _ | assumption) rfl ?_
  refine g_iload q_X6_grow_37 rfl ?_
  refine g_aload q_X6_grow_39 rfl ?_
  refine g_get fl_X6_145 q_X6_grow_41 (by repeat first | with_reducible assumption | with_reducible exact hput_s _ _ _ | refine (hput_n _ _ (by omega)).trans ?_ | exact hput_s _ _ _ | assumption) rfl ?_
  refine g_callVN (rc' := _) (rs' := _) (As := [_, _]) cs_X6_148 q_X6_grow_44 (sp_cellOf hΓ m5 m6 c (t + 1) (by omega) (by omega)) rfl (by repeat first | with_reducible assumption | with_reducible exact hput_s _ _ _ | refine (hput_n _ _ (by omega)).trans ?_ | exact hput_s _ _ _ | assumption) rfl rfl rfl rfl (Nat.le_of_ble_eq_true rfl) (by decide) (Nat.le_refl _) (Nat.le_refl _) (fun _ _ h => h.elim) (k_ri ?_)
  have fin : ∀ τ : AH, τ.1 = σ1.1 → (∀ b, b ≠ a → b ≠ a + 1 → b ≠ T → b ≠ T + 8 → ¬ inb s 4 b → τ.2 b = σ1.2 b) → (∃ pa ca ti fr to co su cl fo sp rw, NDx τ a nc pa ca ti fr to co su cl fo sp rw) → TND τ T M' ad' ∧ (∀ k, k < M' → NDg τ ad' k) ∧ NDr τ ad' ∧ (∀ k, k < nc → NDp τ ad' k (pn k)) ∧ eqG σ τ (fun a => a = T ∨ a = T + 1 ∨ a = T + 8 ∨ inb s 4 a ∨ ownF ad M a) := by
    intro τ z1 z2 z3
    have z4 : ∀ k, k < M' → k ≠ nc → ∀ b, b = ad' k ∨ b = ad' k + 1 → τ.2 b = σ1.2 b := fun k hkk hkn b hb => by
      have y1 := hin1 k hkk
      have y2 := hN10.inj hkk hncM hkn
      rw [← ha] at y2
      exact z2 b (by omega) (by omega) (by omega) (by omega) (fun q => by unfold inb at q; omega)
    refine ⟨⟨(z2 _ (by omega) (by omega) (by omega) (by omega) (fun q => by unfold inb at q; omega)).trans h11, hM11, hinc1, fun k hkk => by rw [z1]; exact hin1 k hkk⟩, fun k hkk => ?_, ?_, fun k hkk => (kn1 k hkk).keep (z4 k (by omega) (by omega) _ (Or.inl rfl)) (z4 k (by omega) (by omega) _ (Or.inr rfl)), ⟨by rw [z1]; exact hsz, fun b hb hf => ?_⟩⟩
    · by_cases z : k = nc
      · subst z
        unfold NDg
        rw [← ha]
        exact z3
      · obtain ⟨pa, ca, ti, fr, to, co, su, cl, fo, sp, rw, hx⟩ := hG1 k hkk
        exact ⟨pa, ca, ti, fr, to, co, su, cl, fo, sp, rw, hx.keep (z4 k hkk z _ (Or.inl rfl)) (z4 k hkk z _ (Or.inr rfl))⟩
    · obtain ⟨su, cl, sp, hx⟩ := hR1
      exact ⟨su, cl, sp, hx.keep (z4 0 (by omega) (by omega) _ (Or.inl rfl)) (z4 0 (by omega) (by omega) _ (Or.inr rfl))⟩
    · have own : b = a ∨ b = a + 1 → False := fun q => by
        by_cases z : nc < M
        · have := had nc z
          rw [← ha] at this
          exact hf (Or.inr (Or.inr (Or.inr (Or.inr ⟨nc, z, by omega⟩))))
        · have := hnw nc (by omega) hncM
          omega
      exact (z2 b (fun q => own (Or.inl q)) (fun q => own (Or.inr q)) (fun q => hf (Or.inl q)) (fun q => hf (Or.inr (Or.inr (Or.inl q)))) (fun q => hf (Or.inr (Or.inr (Or.inr (Or.inl q)))))).trans (lw b hb (fun q => hf (Or.inr (Or.inl q))))
  have oR : ∀ frv : Int, frv = grF P c t sr → G Γ miX6_grow cX6_grow (grQ σ T M ad ve lo pl nc spl n cu pn P C s PL GO lv par c t sr) noX 0 0 82 [some (.ref T), some (.ref g), some (.ref s), some (.ref (ad par)), some (.int (ii c)), some (.ref a)] [.int (ii frv), .ref a] (hput σ1 a (nod a nc (some (ad par)) c ((t + 1 : Nat) : Int) fr (P (41 * c + (t + 1))) kc su kl fo sp)) := by
    intro frv hfrv
    have hfr : frv = -1 ∨ 0 ≤ frv ∧ frv < 36 := by
      rw [hfrv]; unfold grF
      split
      · exact Or.inl rfl
      · exact Or.inr hPt0
    refine g_put fp_X6_158 q_X6_grow_82 (by repeat first | with_reducible assumption | with_reducible exact hput_s _ _ _ | refine (hput_n _ _ (by omega)).trans ?_ | exact hput_s _ _ _ | assumption) rfl rfl ?_
    refine g_aload_n q_X6_grow_85 rfl ?_
    refine g_aload q_X6_grow_86 rfl ?_
    repeat rw [hput_hput]
    obtain ⟨to2, hto2⟩ : ∃ z, z = P (41 * c + (t + 1)) := ⟨_, rfl⟩
    rw [← hto2] at hPt ⊢
    obtain ⟨σ3, hσ3⟩ : ∃ σ3, σ3 = hput σ1 a (nod a nc (some (ad par)) c ((t + 1 : Nat) : Int) frv to2 kc su kl fo sp) := ⟨_, rfl⟩
    have o3 : ∀ b, b ≠ a → σ3.2 b = σ1.2 b := fun b hb => by rw [hσ3]; exact hput_n _ _ hb
    have a3 : σ3.2 a = some (nod a nc (some (ad par)) c ((t + 1 : Nat) : Int) frv to2 kc su kl fo sp) := by rw [hσ3]; exact hput_s _ _ _
    have l3 : ∀ b, b < T → σ3.2 b = σ.2 b := fun b hb => (o3 b (by omega)).trans (lw b (by omega) (by omega))
    refine g_eq (σ2 := σ3) rfl rfl hσ3.symm ?_
    obtain ⟨q0, hq0⟩ : ∃ q0 : PN, q0 = (par, (c : Int), ((t + 1 : Nat) : Int), frv, to2, kc, su, kl, fo, sp, R) := ⟨_, rfl⟩
    have e1 : pPi q0 = par := by rw [hq0]; rfl
    have e2 : pCa q0 = c := by rw [hq0]; rfl
    have e3 : pTi q0 = ((t + 1 : Nat) : Int) := by rw [hq0]; rfl
    have e4 : pFr q0 = frv := by rw [hq0]; rfl
    have e5 : pTo q0 = to2 := by rw [hq0]; rfl
    have u0 : va_up pn nc q0 nc = q0 := by unfold va_up; rw [if_pos rfl]
    have u1 : ∀ k, k ≠ nc → va_up pn nc q0 k = pn k := fun k hkk => by unfold va_up; rw [if_neg hkk]
    have apart : ∀ k, k < nc → ad' k + 1 < a := fun k hkk => by rw [ha]; exact hinc1 k nc hkk hncM
    have hk3 : ∀ k, k ≤ nc → NDp σ3 ad' k (va_up pn nc q0 k) := fun k hkk => by
      by_cases z : k = nc
      · subst z
        rw [u0]
        unfold NDp
        rw [if_neg (by omega), ← ha, e1, e2, e3, e4, e5, hadp, hq0]
        exact ⟨a3, (o3 _ (by omega)).trans n1⟩
      · rw [u1 k z]
        have := apart k (by omega)
        exact (kn1 k (by omega)).keep (o3 _ (by omega)) (o3 _ (by omega))
    have hB : okB (va_up pn nc q0) nc := fun k z1 z2 => by
      by_cases z : k = nc
      · subst z
        rw [u0, e1, e2, e3, e4, e5]
        exact ⟨hpar, ⟨by omega, by omega⟩, ⟨by omega, by omega⟩, hfr, hPt⟩
      · rw [u1 k z]
        obtain ⟨y1, y2, y3, y4, y5, -⟩ := hTt k z1 (by omega)
        exact ⟨y1, ⟨y2.1, by omega⟩, y3, y4, y5⟩
    obtain ⟨hs0, ⟨ce, hs1⟩, ⟨mv, hs2⟩, ⟨bk, hs3⟩⟩ := hS
    have spF := sp_forbidAll hΓ ((l3 s (by omega)).trans hs0) ((l3 (s + 1) (by omega)).trans hs1) ((l3 (s + 2) (by omega)).trans hs2) (ad := ad') nc c hnc0 (fun k hkk => by have := hin1 k (by omega); omega) hk3 hB (by rw [u1 0 (by omega)]; exact hR0) (by rw [u0]; exact e2)
    rw [← ha] at spF
    refine g_callS (rc' := 0) (rs' := 0) (As := [_, _]) cs_X6_161 q_X6_grow_88 (spF) rfl rfl rfl (Nat.le_of_ble_eq_true rfl) (by decide) (by decide) (by decide) (fun _ _ h => h.elim) (fun v σ4 hq => ?_)
    obtain ⟨rfl, hE4, x1, x2⟩ := hq
    have hgx := grX_eq hpi hnc0 hpar e1
    rw [e2, e3, e4, e5] at hgx
    rw [hgx] at x1 x2
    rw [hfrv, hto2] at x1 x2
    obtain ⟨X, hX⟩ : ∃ X, X = grX pn nc par c (grF P c t sr) (P (41 * c + (t + 1))) ((t + 1 : Nat) : Int) := ⟨_, rfl⟩
    rw [← hX] at x1 x2
    have l4 : ∀ b, ¬ inb (s + 1) 2 b → σ4.2 b = σ3.2 b := fun b hb => hE4.2 b hb
    have l4g : ∀ b, b < T → ¬ inb (s + 1) 2 b → σ4.2 b = σ.2 b := fun b hb hb2 => (l4 b hb2).trans (l3 b hb)
    have hi4 : ∀ b, s + 3 < b → b ≠ a → σ4.2 b = σ1.2 b := fun b hb hb2 => (l4 b (fun q => by unfold inb at q; omega)).trans (o3 b hb2)
    have a4 : σ4.2 a = some (nod a nc (some (ad par)) c ((t + 1 : Nat) : Int) frv to2 kc su kl fo sp) := (l4 a (fun q => by unfold inb at q; omega)).trans a3
    have r4 : σ4.2 (a + 1) = some (ai 41 R) := (hi4 _ (by omega) (by omega)).trans n1
    obtain ⟨g0, g2, g3, g6⟩ := hC
    have nib : ∀ b, b ≤ g + 6 → ¬ inb (s + 1) 2 b := fun b hb q => by unfold inb at q; omega
    have s4 : σ4.2 s = some (sro s) := (l4g s (by omega) (fun q => by unfold inb at q; omega)).trans hs0
    refine g_aload q_X6_grow_91 rfl ?_
    refine g_aload_n q_X6_grow_93 rfl ?_
    refine g_aload_n q_X6_grow_94 rfl ?_
    refine g_iload q_X6_grow_95 rfl ?_
    refine g_aload q_X6_grow_97 rfl ?_
    refine g_get fl_X6_126 q_X6_grow_99 (by repeat first | with_reducible assumption | with_reducible exact hput_s _ _ _ | refine (hput_n _ _ (by omega)).trans ?_ | exact hput_s _ _ _ | assumption) rfl ?_
    refine g_iconst q_X6_grow_102 ?_
    refine g_callVN (rc' := 0) (rs' := 0) (As := [_, _, _, _]) cs_X6_165 q_X6_grow_103 (sp_find hΓ hL ((l4g s (by omega) (fun q => by unfold inb at q; omega)).trans hs0) x1 x2 ((l4g (s + 3) (by omega) (fun q => by unfold inb at q; omega)).trans hs3) ((l4g g (by omega) (nib _ (by omega))).trans g0) ((l4g (g + 2) (by omega) (nib _ (by omega))).trans g2) ((l4g (g + 3) (by omega) (nib _ (by omega))).trans g3) ((l4g (g + 6) (by omega) (nib _ (by omega))).trans g6) (Or.inr hsg) c (a + 1) 41 0 R (by omega) ⟨(hPL c).2 (by omega), (hPL c).1.2⟩ ⟨(hGO c).2 (by omega), (hGO c).1.2⟩ r4 (by omega) (by omega) ⟨Or.inr (by omega), Or.inr (by omega)⟩) rfl (by repeat first | with_reducible assumption | with_reducible exact hput_s _ _ _ | refine (hput_n _ _ (by omega)).trans ?_ | exact hput_s _ _ _ | assumption) rfl rfl rfl rfl (Nat.le_of_ble_eq_true rfl) (by decide) (by decide) (by decide) (fun _ _ h => h.elim) (fun v σ5 hq => ?_)
    obtain ⟨rfl, hq⟩ := hq
    obtain ⟨k9, hk9⟩ : ∃ z, z = lcs lv X.2 X.1 (PL c).toNat (GO c).toNat := ⟨_, rfl⟩
    have hk9r := lcs_rg lv X.2 X.1 (PL c).toNat (GO c).toNat
    rw [← hk9] at hq hk9r ⊢
    rcases hq with ⟨hm1, h5⟩ | ⟨hm1, B, rfl⟩
    · rw [h5]
      refine g_put fp_X6_129 q_X6_grow_106 (by repeat first | with_reducible assumption | with_reducible exact hput_s _ _ _ | refine (hput_n _ _ (by omega)).trans ?_ | exact hput_s _ _ _ | assumption) rfl rfl ?_
      refine g_aload q_X6_grow_109 rfl ?_
      refine g_get fl_X6_129 q_X6_grow_111 (by repeat first | with_reducible assumption | with_reducible exact hput_s _ _ _ | refine (hput_n _ _ (by omega)).trans ?_ | exact hput_s _ _ _ | assumption) rfl ?_
      refine g_iconst q_X6_grow_114 ?_
      repeat rw [hput_hput]
      refine g_icmp_ne (tgt := 119) q_X6_grow_115 (by decide) ⟨by omega, by omega⟩ ⟨by omega, by omega⟩ (fun e9 => ?_) (fun e9 => ?_)
      · exact absurd hm1 e9
      · refine g_return q_X6_grow_118.1 rfl ?_
        obtain ⟨f1, f2, f3, f4, f5⟩ := fin (hput σ4 a (nod a nc (some (ad par)) c ((t + 1 : Nat) : Int) frv to2 k9 su kl fo sp)) (by rw [hput_1, hE4.1, hσ3, hput_1]) (fun b b1 b2 b3 b4 b5 => by rw [hput_n _ _ b1, l4 b (fun q => b5 (by unfold inb at q ⊢; omega))]; exact o3 b b1) ⟨_, _, _, _, _, _, _, _, _, _, _, hput_s _ _ _, (hput_n _ _ (by omega)).trans r4⟩
        unfold grQ
        rw [← hM']
        refine ⟨rfl, ad', f1, had, hnw, f2, f3, f4, f5, ⟨?_, ⟨X.1, ?_⟩, ⟨X.2, ?_⟩, bk, ?_⟩, ⟨SP, ?_⟩, Or.inl ⟨?_, ?_⟩⟩
        · exact (hput_n _ _ (by omega)).trans ((l4g s (by omega) (fun q => by unfold inb at q; omega)).trans hs0)
        · exact (hput_n _ _ (by omega)).trans x1
        · exact (hput_n _ _ (by omega)).trans x2
        · exact (hput_n _ _ (by omega)).trans ((l4g (s + 3) (by omega) (fun q => by unfold inb at q; omega)).trans hs3)
        · exact (hput_n _ _ (by omega)).trans ((hi4 _ (by omega) (by omega)).trans k8)
        · unfold grN
          simp only
          rw [← hX, ← hk9, if_pos hm1]
        · exact (hput_n _ _ (by omega)).trans ((hi4 _ (by omega) (by omega)).trans k0)
    · obtain ⟨W, hW⟩ : ∃ W, W = wyt lv X.2 X.1 (PL c).toNat (GO c).toNat := ⟨_, rfl⟩
      rw [← hW]
      have oW : okP W := by rw [hW]; exact okP_wyt hL (by have := (hPL c).1; omega) (by have := (hGO c).1; omega)
      refine g_repI (f' := W) (hput_s _ _ _) (fun j hj => by have := cpy_at W R (st := 0) hj; rw [Nat.zero_add] at this; exact this) ?_
      rw [hput_hput]
      obtain ⟨σ6, hσ6⟩ : ∃ σ6, σ6 = hput (hput σ4 (s + 3) (al 41 B)) (a + 1) (ai 41 W) := ⟨_, rfl⟩
      have l6 : ∀ b, b ≠ s + 3 → b ≠ a + 1 → σ6.2 b = σ4.2 b := fun b b1 b2 => by rw [hσ6, hput_n _ _ b2, hput_n _ _ b1]
      have r6 : σ6.2 (a + 1) = some (ai 41 W) := by rw [hσ6]; exact hput_s _ _ _
      have b6 : σ6.2 (s + 3) = some (al 41 B) := by rw [hσ6]; exact (by repeat first | with_reducible assumption | with_reducible exact hput_s _ _ _ | refine (hput_n _ _ (by omega)).trans ?_ | exact hput_s _ _ _ | assumption)
      have a6 : σ6.2 a = some (nod a nc (some (ad par)) c ((t + 1 : Nat) : Int) frv to2 kc su kl fo sp) := (l6 a (by omega) (by omega)).trans a4
      have z6 : σ6.1 = σ1.1 := by rw [hσ6, hput_1, hput_1, hE4.1, hσ3, hput_1]
      have hi6 : ∀ b, s + 3 < b → b ≠ a → b ≠ a + 1 → σ6.2 b = σ1.2 b := fun b b1 b2 b3 => (l6 b (by omega) b3).trans (hi4 b b1 b2)
      have np := (kn1 par hpar).1
      rw [hadp] at np
      have p6 := (hi6 (ad par) (by omega) (by omega) (by omega)).trans np
      have t0 := (hi6 T (by omega) (by omega) (by omega)).trans k0
      have t5 := (hi6 (T + 5) (by omega) (by omega) (by omega)).trans k5
      have t6 := (hi6 (T + 5 + 1) (by omega) (by omega) (by omega)).trans k6
      have t7 := (hi6 (T + 5 + 2) (by omega) (by omega) (by omega)).trans k7
      have t8 := (hi6 (T + 8) (by omega) (by omega) (by omega)).trans k8
      refine g_eq (σ2 := σ6) rfl rfl hσ6.symm ?_
      refine g_put fp_X6_129 q_X6_grow_106 (by repeat first | with_reducible assumption | with_reducible exact hput_s _ _ _ | refine (hput_n _ _ (by omega)).trans ?_ | exact hput_s _ _ _ | assumption) rfl rfl ?_
      refine g_aload q_X6_grow_109 rfl ?_
      refine g_get fl_X6_129 q_X6_grow_111 (by repeat first | with_reducible assumption | with_reducible exact hput_s _ _ _ | refine (hput_n _ _ (by omega)).trans ?_ | exact hput_s _ _ _ | assumption) rfl ?_
      refine g_iconst q_X6_grow_114 ?_
      refine g_icmp_ne (tgt := 119) q_X6_grow_115 (by decide) ⟨by omega, by omega⟩ ⟨by omega, by omega⟩ (fun e9 => ?_) (fun e9 => ?_)
      · refine g_aload q_X6_grow_119 rfl ?_
        refine g_aload_n q_X6_grow_121 rfl ?_
        refine g_get fl_X6_94 q_X6_grow_122 (by repeat first | with_reducible assumption | with_reducible exact hput_s _ _ _ | refine (hput_n _ _ (by omega)).trans ?_ | exact hput_s _ _ _ | assumption) rfl ?_
        refine g_aload_n q_X6_grow_125 rfl ?_
        refine g_get fl_X6_24 q_X6_grow_126 (by repeat first | with_reducible assumption | with_reducible exact hput_s _ _ _ | refine (hput_n _ _ (by omega)).trans ?_ | exact hput_s _ _ _ | assumption) rfl ?_
        refine g_get fl_X6_139 q_X6_grow_129 (by repeat first | with_reducible assumption | with_reducible exact hput_s _ _ _ | refine (hput_n _ _ (by omega)).trans ?_ | exact hput_s _ _ _ | assumption) rfl ?_
        refine g_iload q_X6_grow_132 rfl ?_
        refine g_iaload q_X6_grow_134 (by repeat first | with_reducible assumption | with_reducible exact hput_s _ _ _ | refine (hput_n _ _ (by omega)).trans ?_ | exact hput_s _ _ _ | assumption) (by omega) (by omega) ?_
        refine g_topi (b := C c) rfl ?_
        refine g_isub q_X6_grow_135 ?_
        refine g_aload q_X6_grow_136 rfl ?_
        refine g_get fl_X6_129 q_X6_grow_138 (by repeat first | with_reducible assumption | with_reducible exact hput_s _ _ _ | refine (hput_n _ _ (by omega)).trans ?_ | exact hput_s _ _ _ | assumption) rfl ?_
        refine g_iadd q_X6_grow_141 ?_
        refine g_put fp_X6_94 q_X6_grow_142 (by repeat first | with_reducible assumption | with_reducible exact hput_s _ _ _ | refine (hput_n _ _ (by omega)).trans ?_ | exact hput_s _ _ _ | assumption) rfl rfl ?_
        refine g_aload q_X6_grow_145 rfl ?_
        refine g_aload_n q_X6_grow_147 rfl ?_
        refine g_aload q_X6_grow_148 rfl ?_
        repeat rw [hput_hput]
        obtain ⟨σ7, hσ7⟩ : ∃ σ7, σ7 = hput σ6 a (nod a nc (some (ad par)) c ((t + 1 : Nat) : Int) frv to2 k9 (pSu (pn par) - C c + k9) kl fo sp) := ⟨_, rfl⟩
        have l7 : ∀ b, b ≠ a → σ7.2 b = σ6.2 b := fun b hb => by rw [hσ7]; exact hput_n _ _ hb
        have a7 : σ7.2 a = some (nod a nc (some (ad par)) c ((t + 1 : Nat) : Int) frv to2 k9 (pSu (pn par) - C c + k9) kl fo sp) := by rw [hσ7]; exact hput_s _ _ _
        refine g_eq (σ2 := σ7) rfl rfl hσ7.symm ?_
        have t70 := (l7 T (by omega)).trans t0
        refine g_callV (rc' := 0) (rs' := 0) (As := [_]) cs_X6_171 q_X6_grow_150 (sp_clashesWith hΓ ((l7 T (by omega)).trans t0) ((l7 (T + 5) (by omega)).trans t5) ((l7 (T + 5 + 1) (by omega)).trans t6) ((l7 (T + 5 + 2) (by omega)).trans t7) ((l7 (T + 8) (by omega)).trans t8) hn oP oC (by omega) ⟨a7, (l7 (a + 1) (by omega)).trans r6⟩ (by omega) hk9r oW) rfl (by repeat first | with_reducible assumption | with_reducible exact hput_s _ _ _ | refine (hput_n _ _ (by omega)).trans ?_ | exact hput_s _ _ _ | assumption) rfl rfl rfl rfl (Nat.le_of_ble_eq_true rfl) (by decide) (by decide) (by decide) (fun _ _ h => h.elim) (fun v σ8 hq => ?_)
        obtain ⟨rfl, hE8, SP8, s8⟩ := hq
        have l8 : ∀ b, b ≠ a → b ≠ T + 8 → σ8.2 b = σ6.2 b := fun b b1 b2 => (hE8.2 b (fun q => by unfold inb at q; omega)).trans (l7 b b1)
        have a8 := (hE8.2 a (fun q => by unfold inb at q; omega)).trans a7
        have p8 := (l8 (ad par) (by omega) (by omega)).trans p6
        have t80 := (l8 T (by omega) (by omega)).trans t0
        refine g_put fp_X6_100 q_X6_grow_153 (by repeat first | with_reducible assumption | with_reducible exact hput_s _ _ _ | refine (hput_n _ _ (by omega)).trans ?_ | exact hput_s _ _ _ | assumption) rfl rfl ?_
        refine g_aload q_X6_grow_156 rfl ?_
        refine g_aload_n q_X6_grow_158 rfl ?_
        refine g_get fl_X6_175 q_X6_grow_159 (by repeat first | with_reducible assumption | with_reducible exact hput_s _ _ _ | refine (hput_n _ _ (by omega)).trans ?_ | exact hput_s _ _ _ | assumption) rfl ?_
        refine g_iconst q_X6_grow_162 ?_
        refine g_iadd q_X6_grow_163 ?_
        refine g_put fp_X6_175 q_X6_grow_164 (by repeat first | with_reducible assumption | with_reducible exact hput_s _ _ _ | refine (hput_n _ _ (by omega)).trans ?_ | exact hput_s _ _ _ | assumption) rfl rfl ?_
        refine g_aload q_X6_grow_167 rfl ?_
        refine g_iconst q_X6_grow_169 ?_
        refine g_put fp_X6_70 q_X6_grow_170 (by repeat first | with_reducible assumption | with_reducible exact hput_s _ _ _ | refine (hput_n _ _ (by omega)).trans ?_ | exact hput_s _ _ _ | assumption) rfl rfl ?_
        refine g_aload_n q_X6_grow_173 rfl ?_
        refine g_dup q_X6_grow_174 rfl ?_
        refine g_get fl_X6_35 q_X6_grow_175 (by repeat first | with_reducible assumption | with_reducible exact hput_s _ _ _ | refine (hput_n _ _ (by omega)).trans ?_ | exact hput_s _ _ _ | assumption) rfl ?_
        refine g_iconst q_X6_grow_178 ?_
        refine g_iadd q_X6_grow_179 ?_
        refine g_put fp_X6_35 q_X6_grow_180 (by repeat first | with_reducible assumption | with_reducible exact hput_s _ _ _ | refine (hput_n _ _ (by omega)).trans ?_ | exact hput_s _ _ _ | assumption) rfl rfl ?_
        repeat rw [hput_hput]
        refine g_return q_X6_grow_183.1 rfl ?_
        obtain ⟨K8, hK8⟩ : ∃ z, z = ccN (va_cpy W P 0 (41 * c) 41) n (mxN (va_up C c k9) n).toNat := ⟨_, rfl⟩
        rw [← hK8]
        obtain ⟨f1, f2, f3, f4, f5⟩ := fin (hput (hput σ8 a (nod a nc (some (ad par)) c ((t + 1 : Nat) : Int) frv to2 k9 (pSu (pn par) - C c + k9) K8 (pFo (pn par) + 1) false)) T (tro T ve (nc + 1) spl lo pl cu)) (by rw [hput_1, hput_1, hE8.1, hσ7, hput_1, z6]) (fun b b1 b2 b3 b4 b5 => by rw [hput_n _ _ b3, hput_n _ _ b1, l8 b b1 b4, l6 b (fun q => b5 (by unfold inb; omega)) b2, l4 b (fun q => b5 (by unfold inb at q ⊢; omega))]; exact o3 b b1) ⟨_, _, _, _, _, _, _, _, _, _, _, (hput_n _ _ (by omega)).trans (hput_s _ _ _), (hput_n _ _ (by omega)).trans ((hput_n _ _ (by omega)).trans ((l8 _ (by omega) (by omega)).trans r6))⟩
        have lo8 : ∀ b, b < T → b ≠ s + 3 → (hput (hput σ8 a (nod a nc (some (ad par)) c ((t + 1 : Nat) : Int) frv to2 k9 (pSu (pn par) - C c + k9) K8 (pFo (pn par) + 1) false)) T (tro T ve (nc + 1) spl lo pl cu)).2 b = σ4.2 b := fun b b1 b2 => by rw [hput_n _ _ (by omega), hput_n _ _ (by omega), l8 b (by omega) (by omega), l6 b b2 (by omega)]
        unfold grQ
        rw [← hM']
        refine ⟨rfl, ad', f1, had, hnw, f2, f3, f4, f5, ⟨(lo8 _ (by omega) (by omega)).trans s4, ⟨X.1, (lo8 _ (by omega) (by omega)).trans x1⟩, ⟨X.2, (lo8 _ (by omega) (by omega)).trans x2⟩, B, ?_⟩, ⟨SP8, ?_⟩, Or.inr ⟨(par, (c : Int), ((t + 1 : Nat) : Int), frv, to2, k9, pSu (pn par) - C c + k9, K8, pFo (pn par) + 1, false, W), ?_, hput_s _ _ _, ?_⟩⟩
        · exact (hput_n _ _ (by omega)).trans ((hput_n _ _ (by omega)).trans ((l8 _ (by omega) (by omega)).trans b6))
        · exact (hput_n _ _ (by omega)).trans ((hput_n _ _ (by omega)).trans s8)
        · unfold grN
          simp only
          rw [← hX, ← hk9, ← hW, if_neg hm1, ← hfrv, ← hto2, ← hK8]
        · unfold NDp
          rw [if_neg (by omega), ← ha]
          refine ⟨(hput_n _ _ (by omega)).trans ((hput_s _ _ _).trans ?_), (hput_n _ _ (by omega)).trans ((hput_n _ _ (by omega)).trans ((l8 _ (by omega) (by omega)).trans r6))⟩
          rw [show ad' (pPi (par, (c : Int), ((t + 1 : Nat) : Int), frv, to2, k9, pSu (pn par) - C c + k9, K8, pFo (pn par) + 1, false, W)) = ad par from hadp]
          rfl
      · exact absurd e9 hm1
  refine g_put fp_X6_152 q_X6_grow_47 (by repeat first | with_reducible assumption | with_reducible exact hput_s _ _ _ | refine (hput_n _ _ (by omega)).trans ?_ | exact hput_s _ _ _ | assumption) rfl rfl ?_
  refine g_aload q_X6_grow_50 rfl ?_
  refine g_aload_n q_X6_grow_52 rfl ?_
  refine g_get fl_X6_24 q_X6_grow_53 (by repeat first | with_reducible assumption | with_reducible exact hput_s _ _ _ | refine (hput_n _ _ (by omega)).trans ?_ | exact hput_s _ _ _ | assumption) rfl ?_
  refine g_get fl_X6_155 q_X6_grow_56 (by repeat first | with_reducible assumption | with_reducible exact hput_s _ _ _ | refine (hput_n _ _ (by omega)).trans ?_ | exact hput_s _ _ _ | assumption) rfl ?_
  rw [hσ2]
  repeat rw [hput_hput]
  obtain ⟨σ9, hσ9⟩ : ∃ σ9, σ9 = hput σ1 a (nod a nc (some (ad par)) c ((t + 1 : Nat) : Int) fr (P (41 * c + (t + 1))) kc su kl fo sp) := ⟨_, rfl⟩
  rw [← hσ9] at oR
  have v0 : σ9.2 T = some (tro T ve nc spl lo pl cu) := by rw [hσ9]; exact (by repeat first | with_reducible assumption | with_reducible exact hput_s _ _ _ | refine (hput_n _ _ (by omega)).trans ?_ | exact hput_s _ _ _ | assumption)
  have v5 : σ9.2 (T + 5) = some (wyo (T + 5) n ((t + 1 : Nat) : Int) sr cl co) := by rw [hσ9]; exact (by repeat first | with_reducible assumption | with_reducible exact hput_s _ _ _ | refine (hput_n _ _ (by omega)).trans ?_ | exact hput_s _ _ _ | assumption)
  have v6 : σ9.2 (T + 5 + 1) = some (ai 205 P) := by rw [hσ9]; exact (by repeat first | with_reducible assumption | with_reducible exact hput_s _ _ _ | refine (hput_n _ _ (by omega)).trans ?_ | exact hput_s _ _ _ | assumption)
  have va : σ9.2 a = some (nod a nc (some (ad par)) c ((t + 1 : Nat) : Int) fr (P (41 * c + (t + 1))) kc su kl fo sp) := by rw [hσ9]; exact hput_s _ _ _
  refine g_eq (σ2 := σ9) rfl rfl hσ9.symm ?_
  refine g_if_ne (tgt := 66) q_X6_grow_59 (by decide) ⟨by omega, by omega⟩ (fun e7 => ?_) (fun e7 => ?_)
  · refine g_aload_n q_X6_grow_66 rfl ?_
    refine g_get fl_X6_24 q_X6_grow_67 (by repeat first | with_reducible assumption | with_reducible exact hput_s _ _ _ | refine (hput_n _ _ (by omega)).trans ?_ | exact hput_s _ _ _ | assumption) rfl ?_
    refine g_iload q_X6_grow_70 rfl ?_
    refine g_aload q_X6_grow_72 rfl ?_
    refine g_get fl_X6_145 q_X6_grow_74 (by repeat first | with_reducible assumption | with_reducible exact hput_s _ _ _ | refine (hput_n _ _ (by omega)).trans ?_ | exact hput_s _ _ _ | assumption) rfl ?_
    refine g_iconst q_X6_grow_77 ?_
    refine g_isub q_X6_grow_78 ?_
    refine g_topi (b := (t : Int)) (by omega) ?_
    refine g_callVN (rc' := 0) (rs' := 0) (As := [_, _]) cs_X6_148 q_X6_grow_79 (sp_cellOf hΓ v5 v6 c t (by omega) (by omega)) rfl (by repeat first | with_reducible assumption | with_reducible exact hput_s _ _ _ | refine (hput_n _ _ (by omega)).trans ?_ | exact hput_s _ _ _ | assumption) rfl rfl rfl rfl (Nat.le_of_ble_eq_true rfl) (by decide) (by decide) (by decide) (fun _ _ h => h.elim) (k_ri ?_)
    exact oR _ (by unfold grF; rw [if_neg e7])
  · refine g_iconst q_X6_grow_62 ?_
    refine g_goto (tgt := 82) q_X6_grow_63 (by decide) ?_
    exact oR (-1) (by unfold grF; rw [if_pos e7])
end TR6

