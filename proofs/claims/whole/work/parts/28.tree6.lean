/-! Tree: grow -/
def okF (pn : Nat → PN) (nc : Nat) : Prop := ∀ k, k < nc → 0 ≤ pFo (pn k) ∧ pFo (pn k) ≤ k
section TR6
variable {Γ : GT} {σ : AH} {T M : Nat} {ad : Nat → Nat} {ve lo pl : Int} {nc spl n : Nat} {cu : Bool} {pn : Nat → PN} {P C : Nat → Int} {s g cols rows : Nat} {PL GO : Nat → Int} {lv : Nat → BitVec 64}
theorem sp_grow (hΓ : Gd Γ) (hsg : g + 6 < s) (hsT : s + 3 < T) (hT : T + 8 < σ.1) (h0 : σ.2 T = some (tro T ve nc spl lo pl cu)) (hN : TND σ T M ad) (hM : nc ≤ M) (hnc : nc < 301) (hnc0 : 0 < nc) (hG : ∀ k, k < M → NDg σ ad k) (hR : NDr σ ad) (hk : ∀ k, k < nc → NDp σ ad k (pn k)) (hTt : okT pn nc n) (hO : okN pn nc) (hF : okF pn nc) (hR0 : pCa (pn 0) = -1) (hn : n ≤ 5) {t : Nat} {sr cl co : Int} (w0 : σ.2 (T + 5) = some (wyo (T + 5) n ((t + 1 : Nat) : Int) sr cl co)) (w1 : σ.2 (T + 5 + 1) = some (ai 205 P)) (w2 : σ.2 (T + 5 + 2) = some (ai 5 C)) (w3 : ∃ SP, σ.2 (T + 8) = some (ai 41 SP)) (oP : okP P) (oC : okC C) (ht : t < 40) (hsr : sr = 0 ∨ sr = 1) (hS : SRo σ s) (hC : SCg σ g cols rows n PL GO lv) (hL : okL lv) (hPL : okP PL) (hGO : okP GO) (par c : Nat) (hpar : par < nc) (hc : c < n) : Sp Γ miX6_grow (2 * (max M (nc + 1) - M)) (53 * (max M (nc + 1) - M)) [.ref T, .ref g, .ref s, .ref (ad par), .int (ii c)] σ (fun r σ' => r = none ∧ ∃ ad', TND σ' T (max M (nc + 1)) ad' ∧ (∀ k, k < M → ad' k = ad k) ∧ (∀ k, k < max M (nc + 1) → NDg σ' ad' k) ∧ NDr σ' ad' ∧ (∀ k, k < nc → NDp σ' ad' k (pn k)) ∧ eqG σ σ' (fun a => a = T ∨ a = T + 1 ∨ a = T + 8 ∨ inb s 4 a ∨ T + 8 < a) ∧ SRo σ' s ∧ (∃ SP, σ'.2 (T + 8) = some (ai 41 SP)) ∧ ((grN lv PL GO n pn nc par c t sr P C = none ∧ σ'.2 T = some (tro T ve nc spl lo pl cu)) ∨ ∃ q, grN lv PL GO n pn nc par c t sr P C = some q ∧ σ'.2 T = some (tro T ve (nc + 1) spl lo pl cu) ∧ NDp σ' ad' nc q)) noX := by
  obtain ⟨SP, w3⟩ := w3
  have hpi : ∀ k, 0 < k → k < nc → pPi (pn k) < k := fun k a b => (hTt k a b).1
  have hOp := hO par hpar
  have hFp := hF par hpar
  have hCc := oC c
  have hPt := oP (41 * c + (t + 1))
  have hPt0 := oP (41 * c + t)
  refine Sp_of (L := [_, _, _, _, _, _]) hΓ (by decide +kernel) rfl (Nat.le_of_ble_eq_true rfl) rfl ?_
  refine g_aload_n q_X6_grow_0 rfl ?_
  refine g_callV (rc' := 0) (rs' := 0) (As := []) cs_X6_86 q_X6_grow_1 (sp_nextNode hΓ hT h0 hN hM hnc hG (fun _ => hR)) rfl (by repeat first | with_reducible assumption | with_reducible exact hput_s _ _ _ | refine (hput_n _ _ (by omega)).trans ?_ | exact hput_s _ _ _ | assumption) rfl rfl rfl rfl (Nat.le_of_ble_eq_true rfl) (by decide) (by omega) (by omega) (fun _ _ h => h.elim) (fun v σ1 hq => ?_)
  obtain ⟨ad', rfl, hN1, had, hG1, hR1, hE1⟩ := hq
  have hsz : σ.1 ≤ σ1.1 := hE1.1
  have hncM : nc < max M (nc + 1) := Nat.lt_of_lt_of_le (Nat.lt_succ_self nc) (Nat.le_max_right _ _)
  have hMM : M ≤ max M (nc + 1) := Nat.le_max_left _ _
  obtain ⟨M', hM'⟩ : ∃ M', M' = max M (nc + 1) := ⟨_, rfl⟩
  rw [← hM'] at hN1 hG1 hncM hMM ⊢
  have hN10 := hN1
  obtain ⟨h11, hM11, hinc1, hin1⟩ := hN1
  have hina := hin1 nc hncM
  have hinp := hN.2.2.2 par (by omega)
  have hadp : ad' par = ad par := had par (by omega)
  have hne : ad par + 1 < ad' nc := by rw [← hadp]; exact hinc1 par nc hpar hncM
  obtain ⟨pa, ca, ti, fr, to, kc, su, kl, fo, sp, R, hnd⟩ := hG1 nc hncM
  obtain ⟨a, ha⟩ : ∃ a, a = ad' nc := ⟨_, rfl⟩
  rw [← ha] at hnd hina hne ⊢
  obtain ⟨n0, n1⟩ := hnd
  have lw : ∀ b, b < σ.1 → b ≠ T + 1 → σ1.2 b = σ.2 b := fun b hb hn => hE1.2 b hb hn
  have k0 : σ1.2 T = some (tro T ve nc spl lo pl cu) := (lw T (by omega) (by omega)).trans h0
  have k5 : σ1.2 (T + 5) = some (wyo (T + 5) n ((t + 1 : Nat) : Int) sr cl co) := (lw _ (by omega) (by omega)).trans w0
  have k6 : σ1.2 (T + 5 + 1) = some (ai 205 P) := (lw _ (by omega) (by omega)).trans w1
  have k7 : σ1.2 (T + 5 + 2) = some (ai 5 C) := (lw _ (by omega) (by omega)).trans w2
  have k8 : σ1.2 (T + 8) = some (ai 41 SP) := (lw _ (by omega) (by omega)).trans w3
  have kn1 : ∀ k, k < nc → NDp σ1 ad' k (pn k) := fun k hkk => by
    have := hN.2.2.2 k (by omega)
    exact (hk k hkk).ren had (by omega) (fun z => hpi k z hkk) (lw _ (by omega) (by omega)) (lw _ (by omega) (by omega))
  refine g_astore (L' := [_, _, _, _, _, _]) q_X6_grow_4 (by decide) rfl ?_
  refine g_aload q_X6_grow_6 rfl ?_
  refine g_aload_n q_X6_grow_8 rfl ?_
  refine g_put fp_X6_119 q_X6_grow_9 (by repeat first | with_reducible assumption | with_reducible exact hput_s _ _ _ | refine (hput_n _ _ (by omega)).trans ?_ | exact hput_s _ _ _ | assumption) rfl rfl ?_
  refine g_aload q_X6_grow_12 rfl ?_
  refine g_iload q_X6_grow_14 rfl ?_
  refine g_put fp_X6_123 q_X6_grow_16 (by repeat first | with_reducible assumption | with_reducible exact hput_s _ _ _ | refine (hput_n _ _ (by omega)).trans ?_ | exact hput_s _ _ _ | assumption) rfl rfl ?_
  refine g_aload q_X6_grow_19 rfl ?_
  refine g_aload_n q_X6_grow_21 rfl ?_
  refine g_get fl_X6_24 q_X6_grow_22 (by repeat first | with_reducible assumption | with_reducible exact hput_s _ _ _ | refine (hput_n _ _ (by omega)).trans ?_ | exact hput_s _ _ _ | assumption) rfl ?_
  refine g_get fl_X6_142 q_X6_grow_25 (by repeat first | with_reducible assumption | with_reducible exact hput_s _ _ _ | refine (hput_n _ _ (by omega)).trans ?_ | exact hput_s _ _ _ | assumption) rfl ?_
  refine g_put fp_X6_145 q_X6_grow_28 (by repeat first | with_reducible assumption | with_reducible exact hput_s _ _ _ | refine (hput_n _ _ (by omega)).trans ?_ | exact hput_s _ _ _ | assumption) rfl rfl ?_
  repeat rw [hput_hput]
  obtain ⟨σ2, hσ2⟩ : ∃ σ2, σ2 = hput σ1 a (nod a nc (some (ad par)) c ((t + 1 : Nat) : Int) fr to kc su kl fo sp) := ⟨_, rfl⟩
  have m0 : σ2.2 T = some (tro T ve nc spl lo pl cu) := by rw [hσ2]; exact (by repeat first | with_reducible assumption | with_reducible exact hput_s _ _ _ | refine (hput_n _ _ (by omega)).trans ?_ | exact hput_s _ _ _ | assumption)
  have m5 : σ2.2 (T + 5) = some (wyo (T + 5) n ((t + 1 : Nat) : Int) sr cl co) := by rw [hσ2]; exact (by repeat first | with_reducible assumption | with_reducible exact hput_s _ _ _ | refine (hput_n _ _ (by omega)).trans ?_ | exact hput_s _ _ _ | assumption)
  have m6 : σ2.2 (T + 5 + 1) = some (ai 205 P) := by rw [hσ2]; exact (by repeat first | with_reducible assumption | with_reducible exact hput_s _ _ _ | refine (hput_n _ _ (by omega)).trans ?_ | exact hput_s _ _ _ | assumption)
  have ma : σ2.2 a = some (nod a nc (some (ad par)) c ((t + 1 : Nat) : Int) fr to kc su kl fo sp) := by rw [hσ2]; exact hput_s _ _ _
  refine g_eq (σ2 := σ2) rfl rfl hσ2.symm ?_
  refine g_aload q_X6_grow_31 rfl ?_
  refine g_aload_n q_X6_grow_33 rfl ?_
  refine g_get fl_X6_24 q_X6_grow_34 (by repeat first | with_reducible assumption | with_reducible exact hput_s _ _ _ | refine (hput_n _ _ (by omega)).trans ?_ | exact hput_s _ _ _ | assumption) rfl ?_
  refine g_iload q_X6_grow_37 rfl ?_
  refine g_aload q_X6_grow_39 rfl ?_
  refine g_get fl_X6_145 q_X6_grow_41 (by repeat first | with_reducible assumption | with_reducible exact hput_s _ _ _ | refine (hput_n _ _ (by omega)).trans ?_ | exact hput_s _ _ _ | assumption) rfl ?_
  refine g_callVN (rc' := _) (rs' := _) (As := [_, _]) cs_X6_148 q_X6_grow_44 (sp_cellOf hΓ m5 m6 c (t + 1) (by omega) (by omega)) rfl (by repeat first | with_reducible assumption | with_reducible exact hput_s _ _ _ | refine (hput_n _ _ (by omega)).trans ?_ | exact hput_s _ _ _ | assumption) rfl rfl rfl rfl (Nat.le_of_ble_eq_true rfl) (by decide) (Nat.le_refl _) (Nat.le_refl _) (fun _ _ h => h.elim) (k_ri ?_)
  refine g_put fp_X6_152 q_X6_grow_47 (by repeat first | with_reducible assumption | with_reducible exact hput_s _ _ _ | refine (hput_n _ _ (by omega)).trans ?_ | exact hput_s _ _ _ | assumption) rfl rfl ?_
  refine g_aload q_X6_grow_50 rfl ?_
  refine g_aload_n q_X6_grow_52 rfl ?_
  refine g_get fl_X6_24 q_X6_grow_53 (by repeat first | with_reducible assumption | with_reducible exact hput_s _ _ _ | refine (hput_n _ _ (by omega)).trans ?_ | exact hput_s _ _ _ | assumption) rfl ?_
  refine g_get fl_X6_155 q_X6_grow_56 (by repeat first | with_reducible assumption | with_reducible exact hput_s _ _ _ | refine (hput_n _ _ (by omega)).trans ?_ | exact hput_s _ _ _ | assumption) rfl ?_
  sorry
end TR6

