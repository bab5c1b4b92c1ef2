/-! Tree: what holds of all nodes; addRoot -/
theorem okP_nd {pn : Nat → PN} {P1 : Nat → Int} {nc n : Nat} (hT : okT pn nc n) (o : okP P1) : ∀ k, k < nc → okP (ndP pn P1 k) := by
  have hp0 : ∀ k, 0 < k → k < nc → pPi (pn k) < k := fun k a b => (hT k a b).1
  intro k
  induction k using Nat.strongRecOn with
  | ind k ih =>
    intro hk i
    by_cases h0 : k = 0
    · subst h0; exact o i
    · unfold ndP
      rw [fw_s hp0 (by omega) hk]
      split
      · exact (hT k (by omega) hk).2.2.2.2.2.2 _
      · exact ih _ (hp0 k (by omega) hk) (by have := hp0 k (by omega) hk; omega) i
theorem grN_some {lv : Nat → BitVec 64} {PL GO P C : Nat → Int} {n nc par c t : Nat} {s : Int} {pn : Nat → PN} {q : PN} (h : grN lv PL GO n pn nc par c t s P C = some q) (hL : okL lv) (hPL : okQ n PL) (hGO : okQ n GO) (oP : okP P) : pPi q = par ∧ pCa q = c ∧ pTi q = ((t + 1 : Nat) : Int) ∧ (pFr q = -1 ∨ 0 ≤ pFr q ∧ pFr q < 36) ∧ (0 ≤ pTo q ∧ pTo q < 36) ∧ (0 ≤ pCo q ∧ pCo q ≤ 40) ∧ pSu q = pSu (pn par) - C c + pCo q ∧ pCl q = ccN (va_cpy (pRw q) P 0 (41 * c) 41) n (mxN (va_up C c (pCo q)) n).toNat ∧ pFo q = pFo (pn par) + 1 ∧ pSp q = false ∧ okP (pRw q) := by
  unfold grN at h
  simp only at h
  obtain ⟨X, hX⟩ : ∃ X, X = grX pn nc par c (grF P c t s) (P (41 * c + (t + 1))) ((t + 1 : Nat) : Int) := ⟨_, rfl⟩
  rw [← hX] at h
  obtain ⟨k, hk⟩ : ∃ k, k = lcs lv X.2 X.1 (PL c).toNat (GO c).toNat := ⟨_, rfl⟩
  have hr := lcs_rg lv X.2 X.1 (PL c).toNat (GO c).toNat
  have oW : okP (wyt lv X.2 X.1 (PL c).toNat (GO c).toNat) := okP_wyt hL (by have := (hPL c).1; omega) (by have := (hGO c).1; omega)
  rw [← hk] at h hr
  by_cases z : k = -1
  · rw [if_pos z] at h; cases h
  · rw [if_neg z] at h
    cases h
    refine ⟨rfl, rfl, rfl, ?_, oP _, ⟨?_, hr.2⟩, rfl, rfl, rfl, rfl, oW⟩
    · show grF P c t s = -1 ∨ 0 ≤ grF P c t s ∧ grF P c t s < 36
      unfold grF
      split
      · exact Or.inl rfl
      · exact Or.inr (oP _)
    · show 0 ≤ k
      omega
theorem grN_cong {lv : Nat → BitVec 64} {PL GO P C P' C' : Nat → Int} {n nc par c t : Nat} {s : Int} {pn : Nat → PN} (hP : ∀ i, i < 41 * n → P i = P' i) (hC : ∀ c, c < n → C c = C' c) (hC4 : ∀ c, c < n → C c ≤ 40) (hc : c < n) (ht : t < 40) : grN lv PL GO n pn nc par c t s P C = grN lv PL GO n pn nc par c t s P' C' := by
  have e1 : P (41 * c + (t + 1)) = P' (41 * c + (t + 1)) := hP _ (by omega)
  have e2 : grF P c t s = grF P' c t s := by unfold grF; rw [hP _ (by omega)]
  unfold grN
  simp only
  rw [e1, e2, hC c hc]
  obtain ⟨X, hX⟩ : ∃ X, X = grX pn nc par c (grF P' c t s) (P' (41 * c + (t + 1))) ((t + 1 : Nat) : Int) := ⟨_, rfl⟩
  rw [← hX]
  obtain ⟨k, hk⟩ : ∃ k, k = lcs lv X.2 X.1 (PL c).toNat (GO c).toNat := ⟨_, rfl⟩
  have hr := lcs_rg lv X.2 X.1 (PL c).toNat (GO c).toNat
  rw [← hk] at hr ⊢
  have e3 : mxN (va_up C c k) n = mxN (va_up C' c k) n := mxN_cong fun j hj => by unfold va_up; rw [hC j hj]
  have hm := mxN_rg (C := va_up C c k) (b := 40) (by decide) (n := n) (fun j hj => by unfold va_up; split; exact hr.2; exact hC4 j hj)
  rw [ccN_cong (P := va_cpy (wyt lv X.2 X.1 (PL c).toNat (GO c).toNat) P 0 (41 * c) 41) (P' := va_cpy (wyt lv X.2 X.1 (PL c).toNat (GO c).toNat) P' 0 (41 * c) 41) (fun i hi => by unfold va_cpy; rw [hP i hi]) (by omega), e3]
theorem TI_grow {lv : Nat → BitVec 64} {PL GO P1 C1 : Nat → Int} {n nc par c t : Nat} {s : Int} {pn : Nat → PN} {q : PN} (h : TI P1 C1 n nc pn) (hnc : nc < 301) (hpar : par < nc) (hc : c < n) (ht : t < 40) (hL : okL lv) (hPL : okQ n PL) (hGO : okQ n GO) (o1 : okP P1) (hg : grN lv PL GO n pn nc par c t s (ndP pn P1 par) (ndC pn C1 par) = some q) : TI P1 C1 n (nc + 1) (va_up pn nc q) := by
  obtain ⟨t1, t2, t3, t4, t5, t6⟩ := h
  obtain ⟨g1, g2, g3, g4, g5, g6, g7, g8, g9, g10, g11⟩ := grN_some hg hL hPL hGO (okP_nd t3 o1 par hpar)
  have u0 : va_up pn nc q nc = q := by unfold va_up; rw [if_pos rfl]
  have u1 : ∀ k, k < nc → va_up pn nc q k = pn k := fun k hk => by unfold va_up; rw [if_neg (by omega)]
  obtain ⟨n1, n2⟩ := nd_new t3 t1 hpar g1 g2 P1 C1
  have od := nd_old (pn2 := va_up pn nc q) t3 (fun k hk => by rw [u1 k hk]; exact ⟨rfl, rfl, rfl, rfl⟩) P1 C1
  refine ⟨by omega, by omega, fun k k0 hk => ?_, fun k hk => ?_, by rw [u1 0 t1]; exact t5, fun k hk => ?_⟩
  · by_cases z : k = nc
    · subst z
      rw [u0, g1, g2, g3]
      exact ⟨hpar, ⟨by omega, by omega⟩, ⟨by omega, by omega⟩, g4, g5, g6, g11⟩
    · rw [u1 k (by omega)]; exact t3 k k0 (by omega)
  · by_cases z : k = nc
    · subst z
      rw [u0, g9]
      have := t4 par hpar
      omega
    · rw [u1 k (by omega)]; exact t4 k (by omega)
  · by_cases z : k = nc
    · subst z
      rw [u0, n1, n2, g8]
      have hp := t6 par hpar
      refine ⟨rfl, ?_, fun d hd => ?_⟩
      · rw [sumN_up, if_pos hc, g7, hp.2.1]
      · unfold va_up
        split
        · exact g6
        · exact hp.2.2 d hd
    · rw [u1 k (by omega), (od k (by omega)).1, (od k (by omega)).2]
      exact t6 k (by omega)
theorem TI_split {P1 C1 : Nat → Int} {n nc : Nat} {pn : Nat → PN} (h : TI P1 C1 n nc pn) (j : Nat) : TI P1 C1 n nc (va_up pn j (spN (pn j))) ∧ ∀ k, k < nc → ndC (va_up pn j (spN (pn j))) C1 k = ndC pn C1 k ∧ ndP (va_up pn j (spN (pn j))) P1 k = ndP pn P1 k := by
  obtain ⟨t1, t2, t3, t4, t5, t6⟩ := h
  have e : ∀ k, pPi (va_up pn j (spN (pn j)) k) = pPi (pn k) ∧ pCa (va_up pn j (spN (pn j)) k) = pCa (pn k) ∧ pTi (va_up pn j (spN (pn j)) k) = pTi (pn k) ∧ pFr (va_up pn j (spN (pn j)) k) = pFr (pn k) ∧ pTo (va_up pn j (spN (pn j)) k) = pTo (pn k) ∧ pCo (va_up pn j (spN (pn j)) k) = pCo (pn k) ∧ pSu (va_up pn j (spN (pn j)) k) = pSu (pn k) ∧ pCl (va_up pn j (spN (pn j)) k) = pCl (pn k) ∧ pFo (va_up pn j (spN (pn j)) k) = pFo (pn k) ∧ pRw (va_up pn j (spN (pn j)) k) = pRw (pn k) := fun k => by
    unfold va_up
    by_cases z : k = j
    · rw [if_pos z, z]; exact ⟨rfl, rfl, rfl, rfl, rfl, rfl, rfl, rfl, rfl, rfl⟩
    · rw [if_neg z]; exact ⟨rfl, rfl, rfl, rfl, rfl, rfl, rfl, rfl, rfl, rfl⟩
  have od := nd_old (pn2 := va_up pn j (spN (pn j))) t3 (fun k _ => by obtain ⟨e1, e2, e3, e4, e5, e6, e7, e8, e9, e10⟩ := e k; exact ⟨e1, e2, e6, e10⟩) P1 C1
  refine ⟨⟨t1, t2, fun k k0 hk => ?_, fun k hk => ?_, ?_, fun k hk => ?_⟩, od⟩
  · obtain ⟨e1, e2, e3, e4, e5, e6, e7, e8, e9, e10⟩ := e k
    rw [e1, e2, e3, e4, e5, e6, e10]; exact t3 k k0 hk
  · obtain ⟨e1, e2, e3, e4, e5, e6, e7, e8, e9, e10⟩ := e k
    rw [e9]; exact t4 k hk
  · rw [(e 0).2.1]; exact t5
  · obtain ⟨e1, e2, e3, e4, e5, e6, e7, e8, e9, e10⟩ := e k
    rw [(od k hk).1, (od k hk).2, e7, e8]; exact t6 k hk
theorem TI_root {P1 C1 : Nat → Int} {n : Nat} (hC : ∀ c, c < n → 0 ≤ C1 c ∧ C1 c ≤ 40) : TI P1 C1 n 1 (fun _ => rot P1 C1 n) :=
  ⟨by decide, by decide, fun k k0 hk => absurd hk (by omega), fun k hk => ⟨by show (0 : Int) ≤ 0; decide, by show (0 : Int) ≤ k; omega⟩, rfl, fun k hk => by
    have e : k = 0 := by omega
    subst e
    exact ⟨rfl, rfl, hC⟩⟩
section TR8
variable {Γ : GT} {σ : AH} {T M : Nat} {ad : Nat → Nat} {ve lo pl : Int} {spl n : Nat} {cu : Bool} {P C : Nat → Int}
theorem sp_addRoot (hΓ : Gd Γ) (hT : T + 8 < σ.1) (h0 : σ.2 T = some (tro T ve 0 spl lo pl cu)) (hN : TND σ T M ad) (hG : ∀ k, k < M → NDg σ ad k) (hR : 0 < M → NDr σ ad) (hn : n ≤ 5) (hW : WYo σ (T + 2) n P C) (oP : okP P) (oC : okC C) : Sp Γ miX6_addRoot (2 * (max M 1 - M)) (53 * (max M 1 - M)) [.ref T] σ (fun r σ' => r = none ∧ ∃ ad', TND σ' T (max M 1) ad' ∧ (∀ k, k < M → ad' k = ad k) ∧ (∀ k, M ≤ k → k < max M 1 → σ.1 ≤ ad' k) ∧ (∀ k, k < max M 1 → NDg σ' ad' k) ∧ NDr σ' ad' ∧ NDp σ' ad' 0 (rot P C n) ∧ eqG σ σ' (fun a => a = T ∨ a = T + 1 ∨ ownF ad M a) ∧ σ'.2 T = some (tro T ve 1 spl lo pl cu)) noX := by
  have hnx := sp_nextNode hΓ hT h0 hN (Nat.zero_le _) (by decide) hG hR
  rw [Nat.zero_add] at hnx
  refine Sp_of (L := [_, _]) hΓ (by decide +kernel) rfl (Nat.le_of_ble_eq_true rfl) rfl ?_
  refine g_aload_n q_X6_addRoot_0 rfl ?_
  refine g_callV (rc' := 0) (rs' := 0) (As := []) cs_X6_86 q_X6_addRoot_1 (hnx) rfl (by repeat first | with_reducible assumption | with_reducible exact hput_s _ _ _ | refine (hput_n _ _ (by omega)).trans ?_ | exact hput_s _ _ _ | assumption) rfl rfl rfl rfl (Nat.le_of_ble_eq_true rfl) (by decide) (by omega) (by omega) (fun _ _ h => h.elim) (fun v σ1 hq => ?_)
  obtain ⟨ad', rfl, hN1, had, hnw, hG1, hR1, hE1⟩ := hq
  obtain ⟨M', hM'⟩ : ∃ M', M' = max M 1 := ⟨_, rfl⟩
  rw [← hM'] at hN1 hG1 hnw
  have hM1 : 0 < M' := by omega
  have hN10 := hN1
  obtain ⟨h11, hM11, hinc1, hin1⟩ := hN1
  have hina := hin1 0 hM1
  obtain ⟨su, kl, sp, n0, n1⟩ := hR1
  obtain ⟨a, ha⟩ : ∃ a, a = ad' 0 := ⟨_, rfl⟩
  rw [← ha] at n0 n1 hina ⊢
  have hsz : σ.1 ≤ σ1.1 := hE1.1
  obtain ⟨⟨c1, c2, c3, c4, w0⟩, w1, w2⟩ := hW
  have lw : ∀ b, b < σ.1 → b ≠ T + 1 → σ1.2 b = σ.2 b := fun b hb hn => hE1.2 b hb hn
  have k0 : σ1.2 T = some (tro T ve 0 spl lo pl cu) := (lw T (by omega) (by omega)).trans h0
  have k2 := (lw (T + 2) (by omega) (by omega)).trans w0
  have k3 := (lw (T + 2 + 1) (by omega) (by omega)).trans w1
  have k4 := (lw (T + 2 + 2) (by omega) (by omega)).trans w2
  refine g_astore_n (L' := [_, _]) q_X6_addRoot_4 (by decide) rfl ?_
  refine g_aload_n q_X6_addRoot_5 rfl ?_
  refine g_aload_n q_X6_addRoot_6 rfl ?_
  refine g_get fl_X6_20 q_X6_addRoot_7 (by repeat first | with_reducible assumption | with_reducible exact hput_s _ _ _ | refine (hput_n _ _ (by omega)).trans ?_ | exact hput_s _ _ _ | assumption) rfl ?_
  refine g_callVN (rc' := 0) (rs' := 0) (As := []) cs_X6_90 q_X6_addRoot_10 (sp_sumCosts hΓ hn k2 k4) rfl (by repeat first | with_reducible assumption | with_reducible exact hput_s _ _ _ | refine (hput_n _ _ (by omega)).trans ?_ | exact hput_s _ _ _ | assumption) rfl rfl rfl rfl (Nat.le_of_ble_eq_true rfl) (by decide) (by decide) (by decide) (fun _ _ h => h.elim) (k_ri ?_)
  refine g_put fp_X6_94 q_X6_addRoot_13 (by repeat first | with_reducible assumption | with_reducible exact hput_s _ _ _ | refine (hput_n _ _ (by omega)).trans ?_ | exact hput_s _ _ _ | assumption) rfl rfl ?_
  refine g_aload_n q_X6_addRoot_16 rfl ?_
  refine g_aload_n q_X6_addRoot_17 rfl ?_
  refine g_get fl_X6_20 q_X6_addRoot_18 (by repeat first | with_reducible assumption | with_reducible exact hput_s _ _ _ | refine (hput_n _ _ (by omega)).trans ?_ | exact hput_s _ _ _ | assumption) rfl ?_
  obtain ⟨σ2, hσ2⟩ : ∃ σ2, σ2 = hput σ1 a (nod a 0 none (-1) (-1) (-1) (-1) 0 (sumN C n) kl 0 sp) := ⟨_, rfl⟩
  have o2 : ∀ b, b ≠ a → σ2.2 b = σ1.2 b := fun b hb => by rw [hσ2]; exact hput_n _ _ hb
  have a2 : σ2.2 a = some (nod a 0 none (-1) (-1) (-1) (-1) 0 (sumN C n) kl 0 sp) := by rw [hσ2]; exact hput_s _ _ _
  have j2 := (o2 (T + 2) (by omega)).trans k2
  have j3 := (o2 (T + 2 + 1) (by omega)).trans k3
  have j4 := (o2 (T + 2 + 2) (by omega)).trans k4
  have j0 := (o2 T (by omega)).trans k0
  refine g_eq (σ2 := σ2) rfl rfl hσ2.symm ?_
  refine g_callVN (rc' := 0) (rs' := 0) (As := []) cs_X6_97 q_X6_addRoot_21 (sp_countClashes hΓ hn oP oC j2 j3 j4) rfl (by repeat first | with_reducible assumption | with_reducible exact hput_s _ _ _ | refine (hput_n _ _ (by omega)).trans ?_ | exact hput_s _ _ _ | assumption) rfl rfl rfl rfl (Nat.le_of_ble_eq_true rfl) (by decide) (by decide) (by decide) (fun _ _ h => h.elim) (k_ri ?_)
  refine g_put fp_X6_100 q_X6_addRoot_24 (by repeat first | with_reducible assumption | with_reducible exact hput_s _ _ _ | refine (hput_n _ _ (by omega)).trans ?_ | exact hput_s _ _ _ | assumption) rfl rfl ?_
  refine g_aload_n q_X6_addRoot_27 rfl ?_
  refine g_iconst q_X6_addRoot_28 ?_
  refine g_put fp_X6_70 q_X6_addRoot_29 (by repeat first | with_reducible assumption | with_reducible exact hput_s _ _ _ | refine (hput_n _ _ (by omega)).trans ?_ | exact hput_s _ _ _ | assumption) rfl rfl ?_
  refine g_aload_n q_X6_addRoot_32 rfl ?_
  refine g_dup q_X6_addRoot_33 rfl ?_
  refine g_get fl_X6_35 q_X6_addRoot_34 (by repeat first | with_reducible assumption | with_reducible exact hput_s _ _ _ | refine (hput_n _ _ (by omega)).trans ?_ | exact hput_s _ _ _ | assumption) rfl ?_
  refine g_iconst q_X6_addRoot_37 ?_
  refine g_iadd q_X6_addRoot_38 ?_
  refine g_put fp_X6_35 q_X6_addRoot_39 (by repeat first | with_reducible assumption | with_reducible exact hput_s _ _ _ | refine (hput_n _ _ (by omega)).trans ?_ | exact hput_s _ _ _ | assumption) rfl rfl ?_
  rw [hσ2]
  repeat rw [hput_hput]
  obtain ⟨τ, hτ⟩ : ∃ τ, τ = hput (hput σ1 a (nod a 0 none (-1) (-1) (-1) (-1) 0 (sumN C n) (ccN P n (mxN C n).toNat) 0 false)) T (tro T ve 1 spl lo pl cu) := ⟨_, rfl⟩
  have z2 : ∀ b, b ≠ a → b ≠ T → τ.2 b = σ1.2 b := fun b b1 b2 => by rw [hτ, hput_n _ _ b2, hput_n _ _ b1]
  have z1 : τ.1 = σ1.1 := by rw [hτ, hput_1, hput_1]
  have za : τ.2 a = some (nod a 0 none (-1) (-1) (-1) (-1) 0 (sumN C n) (ccN P n (mxN C n).toNat) 0 false) := by rw [hτ, hput_n _ _ (by omega)]; exact hput_s _ _ _
  have zr : τ.2 (a + 1) = some (ai 41 fun _ => 0) := (z2 _ (by omega) (by omega)).trans n1
  refine g_eq (σ2 := τ) rfl rfl hτ.symm ?_
  refine g_return q_X6_addRoot_42.1 rfl ?_
  refine ⟨rfl, ad', ?_⟩
  rw [← hM']
  refine ⟨⟨(z2 _ (by omega) (by omega)).trans h11, hM11, hinc1, fun k hkk => by rw [z1]; exact hin1 k hkk⟩, had, hnw, fun k hkk => ?_, ?_, ?_, ⟨?_, fun b hb hf => ?_⟩, ?_⟩
  · show NDg τ ad' k
    by_cases z : k = 0
    · subst z
      unfold NDg
      rw [← ha]
      exact ⟨_, _, _, _, _, _, _, _, _, _, _, za, zr⟩
    · obtain ⟨pa, ca, ti, fr, to, co, su, cl, fo, sp, rw, hx⟩ := hG1 k hkk
      have y1 := hin1 k hkk
      have y2 := hN10.inj hkk hM1 z
      rw [← ha] at y2
      exact ⟨pa, ca, ti, fr, to, co, su, cl, fo, sp, rw, hx.keep (z2 _ (by omega) (by omega)) (z2 _ (by omega) (by omega))⟩
  · show NDr τ ad'
    unfold NDr
    rw [← ha]
    exact ⟨_, _, _, za, zr⟩
  · show NDp τ ad' 0 _
    unfold NDp
    rw [if_pos rfl, ← ha]
    exact ⟨za, zr⟩
  · show σ.1 ≤ τ.1
    rw [z1]; exact hsz
  · show τ.2 b = σ.2 b
    have own : b ≠ a := fun q => by
      by_cases z : 0 < M
      · have := had 0 z
        rw [← ha] at this
        exact hf (Or.inr (Or.inr ⟨0, z, by omega⟩))
      · have := hnw 0 (by omega) hM1
        omega
    exact (z2 b own (fun q => hf (Or.inl q))).trans (lw b hb (fun q => hf (Or.inr (Or.inl q))))
  · show τ.2 T = _
    rw [hτ]; exact hput_s _ _ _
end TR8

