/-! Tree: forbidAll, clashesWith, goOn -/
theorem fbW_0 (pn : Nat → PN) (c : Int) (g : Nat) (x : (Nat → BitVec 64) × (Nat → BitVec 64)) : fbW pn c g 0 x = x := by
  cases g with
  | zero => rfl
  | succ g => show (if (0 : Nat) = 0 then x else _) = x; exact if_pos rfl
def okB (pn : Nat → PN) (K : Nat) : Prop := ∀ k, 0 < k → k ≤ K → pPi (pn k) < k ∧ (0 ≤ pCa (pn k) ∧ pCa (pn k) < 5) ∧ (1 ≤ pTi (pn k) ∧ pTi (pn k) ≤ 40) ∧ (pFr (pn k) = -1 ∨ 0 ≤ pFr (pn k) ∧ pFr (pn k) < 36) ∧ (0 ≤ pTo (pn k) ∧ pTo (pn k) < 36)
section TR3
variable {Γ : GT} {σ : AH} {s : Nat} {ad : Nat → Nat} {pn : Nat → PN} {ce0 mv0 : Nat → BitVec 64}
theorem sp_forbidAll (hΓ : Gd Γ) (h0 : σ.2 s = some (sro s)) (h1 : σ.2 (s + 1) = some (al 41 ce0)) (h2 : σ.2 (s + 2) = some (al 164 mv0)) (K c : Nat) (hK : 0 < K) (hin : ∀ k, k ≤ K → s + 3 < ad k) (hk : ∀ k, k ≤ K → NDp σ ad k (pn k)) (hT : okB pn K) (hR : pCa (pn 0) = -1) (hc : pCa (pn K) = c) : Sp Γ miX6_forbidAll 0 0 [.ref s, .ref (ad K)] σ (fun r σ' => r = none ∧ eqOff σ σ' (inb (s + 1) 2) ∧ σ'.2 (s + 1) = some (al 41 (fbW pn c K K (fun _ => 0, fun _ => 0)).1) ∧ σ'.2 (s + 2) = some (al 164 (fbW pn c K K (fun _ => 0, fun _ => 0)).2)) noX := by
  have hc5 := (hT K hK (Nat.le_refl _)).2.1
  rw [hc] at hc5
  have fr : ∀ τ : AH, eqOff σ τ (inb (s + 1) 2) → (∀ j, j ≤ K → NDp τ ad j (pn j)) ∧ τ.2 s = some (sro s) := fun τ hE =>
    ⟨fun j hj => (hk j hj).keep (hE.2 _ (fun q => by have := hin j hj; unfold inb at q; omega)) (hE.2 _ (fun q => by have := hin j hj; unfold inb at q; omega)), (hE.2 _ (fun q => by unfold inb at q; omega)).trans h0⟩
  refine Sp_of (L := [_, _, _]) hΓ (by decide +kernel) rfl (Nat.le_of_ble_eq_true rfl) rfl ?_
  refine g_aload_n q_X6_forbidAll_0 rfl ?_
  refine g_callVN (rc' := 0) (rs' := 0) (As := []) cs_X6_178 q_X6_forbidAll_1 (sp_clear hΓ h0 h1 h2) rfl (by repeat first | with_reducible assumption | with_reducible exact hput_s _ _ _ | refine (hput_n _ _ (by omega)).trans ?_ | exact hput_s _ _ _ | assumption) rfl rfl rfl rfl (Nat.le_of_ble_eq_true rfl) (by decide) (by decide) (by decide) (fun _ _ h => h.elim) (k_rv ?_)
  refine g_aload_n q_X6_forbidAll_4 rfl ?_
  refine g_astore_n (L' := [_, _, _]) q_X6_forbidAll_5 (by decide) rfl ?_
  refine g_loop3 (fun (j : Nat) (x : (Nat → BitVec 64) × (Nat → BitVec 64)) (τ : AH) => j ≤ K ∧ (∃ g, j ≤ g ∧ fbW pn c g j x = fbW pn c K K (fun _ => 0, fun _ => 0)) ∧ eqOff σ τ (inb (s + 1) 2) ∧ τ.2 (s + 1) = some (al 41 x.1) ∧ τ.2 (s + 2) = some (al 164 x.2)) (fun j _ τ => G Γ _ cX6_forbidAll _ _ 0 0 6 [some (.ref s), some (.ref (ad K)), some (.ref (ad j))] [] τ) (fun j _ _ => j) ?_ K (fun _ => 0, fun _ => 0) _ ⟨Nat.le_refl _, ⟨K, Nat.le_refl _, rfl⟩, (eqOff.rfl'.put ⟨by omega, by omega⟩ _).put ⟨by omega, by omega⟩ _, (by repeat first | with_reducible assumption | with_reducible exact hput_s _ _ _ | refine (hput_n _ _ (by omega)).trans ?_ | exact hput_s _ _ _ | assumption), hput_s _ _ _⟩
  rintro j ⟨ce, mv⟩ τ ⟨hj, ⟨g, hjg, hX⟩, hE, q1, q2⟩ ih
  obtain ⟨kn, k0⟩ := fr τ hE
  have hnj := (kn j hj).1
  have hnK := (kn K (Nat.le_refl _)).1
  rw [hc] at hnK
  by_cases hj0 : j = 0
  · subst hj0
    rw [if_pos rfl, hR] at hnj
    rw [fbW_0] at hX
    rw [← hX]
    refine g_aload_n q_X6_forbidAll_6 rfl ?_
    refine g_ifnull q_X6_forbidAll_7 ?_
    refine g_aload_n q_X6_forbidAll_10 rfl ?_
    refine g_get fl_X6_123 q_X6_forbidAll_11 (by repeat first | with_reducible assumption | with_reducible exact hput_s _ _ _ | refine (hput_n _ _ (by omega)).trans ?_ | exact hput_s _ _ _ | assumption) rfl ?_
    refine g_aload_n q_X6_forbidAll_14 rfl ?_
    refine g_get fl_X6_123 q_X6_forbidAll_15 (by repeat first | with_reducible assumption | with_reducible exact hput_s _ _ _ | refine (hput_n _ _ (by omega)).trans ?_ | exact hput_s _ _ _ | assumption) rfl ?_
    refine g_icmp_ne (tgt := 60) q_X6_forbidAll_18 (by decide) ⟨by omega, by omega⟩ ⟨by omega, by omega⟩ (fun e => ?_) (fun e => ?_)
    · refine g_aload_n q_X6_forbidAll_60 rfl ?_
      refine g_get fl_X6_119 q_X6_forbidAll_61 (by repeat first | with_reducible assumption | with_reducible exact hput_s _ _ _ | refine (hput_n _ _ (by omega)).trans ?_ | exact hput_s _ _ _ | assumption) rfl ?_
      refine g_astore_nN (L' := [_, _, _]) q_X6_forbidAll_64 (by decide) rfl ?_
      refine g_goto (tgt := 6) q_X6_forbidAll_65 (by decide) ?_
      refine g_aload_nN q_X6_forbidAll_6 rfl ?_
      refine g_ifnullN (tgt := 68) q_X6_forbidAll_7 (by decide) ?_
      refine g_return q_X6_forbidAll_68.1 rfl ?_
      exact ⟨rfl, hE, q1, q2⟩
    · exact absurd e (by omega)
  · obtain ⟨hpj, ⟨hca0, hcan⟩, ⟨ht1, ht4⟩, hfr, ⟨hto0, hto6⟩⟩ := hT j (by omega) hj
    rw [if_neg hj0] at hnj
    obtain ⟨g', rfl⟩ : ∃ g', g = g' + 1 := ⟨g - 1, by omega⟩
    rw [fbW, if_neg hj0] at hX
    have done : ∀ (x : (Nat → BitVec 64) × (Nat → BitVec 64)) (τ2 : AH), x = (if pCa (pn j) = c then fb1 (pFr (pn j)) (pTo (pn j)) (pTi (pn j)) (ce, mv) else (ce, mv)) → eqOff σ τ2 (inb (s + 1) 2) → τ2.2 (s + 1) = some (al 41 x.1) → τ2.2 (s + 2) = some (al 164 x.2) → G Γ miX6_forbidAll cX6_forbidAll (fun r σ' => r = none ∧ eqOff σ σ' (inb (s + 1) 2) ∧ σ'.2 (s + 1) = some (al 41 (fbW pn c K K (fun _ => 0, fun _ => 0)).1) ∧ σ'.2 (s + 2) = some (al 164 (fbW pn c K K (fun _ => 0, fun _ => 0)).2)) noX 0 0 60 [some (.ref s), some (.ref (ad K)), some (.ref (ad j))] [] τ2 := by
      intro x τ2 hx hE2 r1 r2
      have hnj2 := ((fr τ2 hE2).1 j hj).1
      rw [if_neg hj0] at hnj2
      refine g_aload_n q_X6_forbidAll_60 rfl ?_
      refine g_get fl_X6_119 q_X6_forbidAll_61 (by repeat first | with_reducible assumption | with_reducible exact hput_s _ _ _ | refine (hput_n _ _ (by omega)).trans ?_ | exact hput_s _ _ _ | assumption) rfl ?_
      refine g_astore_n (L' := [_, _, _]) q_X6_forbidAll_64 (by decide) rfl ?_
      refine g_goto (tgt := 6) q_X6_forbidAll_65 (by decide) ?_
      exact ih (pPi (pn j)) x τ2 ⟨by omega, ⟨g', by omega, by rw [hx]; exact hX⟩, hE2, r1, r2⟩ hpj
    obtain ⟨to, hto⟩ : ∃ to : Nat, pTo (pn j) = to := ⟨(pTo (pn j)).toNat, by omega⟩
    obtain ⟨ti, hti⟩ : ∃ ti : Nat, pTi (pn j) = ti := ⟨(pTi (pn j)).toNat, by omega⟩
    rw [hto, hti] at hnj
    rw [hto] at hto0 hto6
    rw [hti] at ht1 ht4
    refine g_aload_n q_X6_forbidAll_6 rfl ?_
    refine g_ifnull q_X6_forbidAll_7 ?_
    refine g_aload_n q_X6_forbidAll_10 rfl ?_
    refine g_get fl_X6_123 q_X6_forbidAll_11 (by repeat first | with_reducible assumption | with_reducible exact hput_s _ _ _ | refine (hput_n _ _ (by omega)).trans ?_ | exact hput_s _ _ _ | assumption) rfl ?_
    refine g_aload_n q_X6_forbidAll_14 rfl ?_
    refine g_get fl_X6_123 q_X6_forbidAll_15 (by repeat first | with_reducible assumption | with_reducible exact hput_s _ _ _ | refine (hput_n _ _ (by omega)).trans ?_ | exact hput_s _ _ _ | assumption) rfl ?_
    refine g_icmp_ne (tgt := 60) q_X6_forbidAll_18 (by decide) ⟨by omega, by omega⟩ ⟨by omega, by omega⟩ (fun e1 => ?_) (fun e1 => ?_)
    · exact done (ce, mv) τ (by rw [if_neg e1]) hE q1 q2
    · refine g_aload_n q_X6_forbidAll_21 rfl ?_
      refine g_get fl_X6_158 q_X6_forbidAll_22 (by repeat first | with_reducible assumption | with_reducible exact hput_s _ _ _ | refine (hput_n _ _ (by omega)).trans ?_ | exact hput_s _ _ _ | assumption) rfl ?_
      refine g_iconst q_X6_forbidAll_25 ?_
      refine g_icmp_ne (tgt := 44) q_X6_forbidAll_26 (by decide) ⟨by omega, by omega⟩ ⟨by omega, by omega⟩ (fun e2 => ?_) (fun e2 => ?_)
      · obtain ⟨f, hf⟩ : ∃ f : Nat, pFr (pn j) = f := ⟨(pFr (pn j)).toNat, by omega⟩
        rw [hf] at hnj
        refine g_aload_n q_X6_forbidAll_44 rfl ?_
        refine g_aload_n q_X6_forbidAll_45 rfl ?_
        refine g_get fl_X6_158 q_X6_forbidAll_46 (by repeat first | with_reducible assumption | with_reducible exact hput_s _ _ _ | refine (hput_n _ _ (by omega)).trans ?_ | exact hput_s _ _ _ | assumption) rfl ?_
        refine g_aload_n q_X6_forbidAll_49 rfl ?_
        refine g_get fl_X6_152 q_X6_forbidAll_50 (by repeat first | with_reducible assumption | with_reducible exact hput_s _ _ _ | refine (hput_n _ _ (by omega)).trans ?_ | exact hput_s _ _ _ | assumption) rfl ?_
        refine g_aload_n q_X6_forbidAll_53 rfl ?_
        refine g_get fl_X6_145 q_X6_forbidAll_54 (by repeat first | with_reducible assumption | with_reducible exact hput_s _ _ _ | refine (hput_n _ _ (by omega)).trans ?_ | exact hput_s _ _ _ | assumption) rfl ?_
        refine g_callVN (rc' := 0) (rs' := 0) (As := [_, _, _]) cs_X6_185 q_X6_forbidAll_57 (sp_forbidMove hΓ k0 q2 f to ti (by omega) (by omega) (by omega)) rfl (by repeat first | with_reducible assumption | with_reducible exact hput_s _ _ _ | refine (hput_n _ _ (by omega)).trans ?_ | exact hput_s _ _ _ | assumption) rfl rfl rfl rfl (Nat.le_of_ble_eq_true rfl) (by decide) (by decide) (by decide) (fun _ _ h => h.elim) (k_rv ?_)
        refine done (ce, fbm mv f to ti 4) _ ?_ (hE.put ⟨by omega, by omega⟩ _) (by repeat first | with_reducible assumption | with_reducible exact hput_s _ _ _ | refine (hput_n _ _ (by omega)).trans ?_ | exact hput_s _ _ _ | assumption) (hput_s _ _ _)
        rw [if_pos e1, hf, hto, hti]
        unfold fb1
        rw [if_neg (by omega)]
        rfl
      · refine g_aload_n q_X6_forbidAll_29 rfl ?_
        refine g_aload_n q_X6_forbidAll_30 rfl ?_
        refine g_get fl_X6_152 q_X6_forbidAll_31 (by repeat first | with_reducible assumption | with_reducible exact hput_s _ _ _ | refine (hput_n _ _ (by omega)).trans ?_ | exact hput_s _ _ _ | assumption) rfl ?_
        refine g_aload_n q_X6_forbidAll_34 rfl ?_
        refine g_get fl_X6_145 q_X6_forbidAll_35 (by repeat first | with_reducible assumption | with_reducible exact hput_s _ _ _ | refine (hput_n _ _ (by omega)).trans ?_ | exact hput_s _ _ _ | assumption) rfl ?_
        refine g_callVN (rc' := 0) (rs' := 0) (As := [_, _]) cs_X6_181 q_X6_forbidAll_38 (sp_forbidCell hΓ k0 q1 to ti (by omega) (by omega)) rfl (by repeat first | with_reducible assumption | with_reducible exact hput_s _ _ _ | refine (hput_n _ _ (by omega)).trans ?_ | exact hput_s _ _ _ | assumption) rfl rfl rfl rfl (Nat.le_of_ble_eq_true rfl) (by decide) (by decide) (by decide) (fun _ _ h => h.elim) (k_rv ?_)
        refine g_goto (tgt := 60) q_X6_forbidAll_41 (by decide) ?_
        refine done (va_up ce ti (ce ti ||| bt1 to), mv) _ ?_ (hE.put ⟨by omega, by omega⟩ _) (hput_s _ _ _) (by repeat first | with_reducible assumption | with_reducible exact hput_s _ _ _ | refine (hput_n _ _ (by omega)).trans ?_ | exact hput_s _ _ _ | assumption)
        rw [if_pos e1, hto, hti]
        unfold fb1
        rw [if_pos e2]
        rfl
variable {T M : Nat} {ve lo pl : Int} {nc spl n : Nat} {cu : Bool} {P C : Nat → Int}
theorem sp_clashesWith (hΓ : Gd Γ) (h0 : σ.2 T = some (tro T ve nc spl lo pl cu)) {ct cs cl co : Int} (w0 : σ.2 (T + 5) = some (wyo (T + 5) n ct cs cl co)) (w1 : σ.2 (T + 5 + 1) = some (ai 205 P)) (w2 : σ.2 (T + 5 + 2) = some (ai 5 C)) {SP : Nat → Int} (w3 : σ.2 (T + 8) = some (ai 41 SP)) (hn : n ≤ 5) (oP : okP P) (oC : okC C) {a num : Nat} {pa : Option Nat} {ti fr to kc su kl fo : Int} {sp : Bool} {R : Nat → Int} {c : Nat} (ha : T + 8 < a) (hN : NDx σ a num pa c ti fr to kc su kl fo sp R) (hc : c < 5) (hkc : -1 ≤ kc ∧ kc ≤ 40) (oR : okP R) : Sp Γ miX6_clashesWith 0 0 [.ref T, .ref a] σ (fun r σ' => r = some (.int (ii (ccN (va_cpy R P 0 (41 * c) 41) n (mxN (va_up C c kc) n).toNat))) ∧ eqOff σ σ' (inb (T + 8) 1) ∧ ∃ SP', σ'.2 (T + 8) = some (ai 41 SP')) noX := by
  obtain ⟨n0, n1⟩ := hN
  have hCc := oC c
  refine Sp_of (L := [_, _, _, _]) hΓ (by decide +kernel) rfl (Nat.le_of_ble_eq_true rfl) rfl ?_
  refine g_aload_n q_X6_clashesWith_0 rfl ?_
  refine g_get fl_X6_24 q_X6_clashesWith_1 (by repeat first | with_reducible assumption | with_reducible exact hput_s _ _ _ | refine (hput_n _ _ (by omega)).trans ?_ | exact hput_s _ _ _ | assumption) rfl ?_
  refine g_get fl_X6_139 q_X6_clashesWith_4 (by repeat first | with_reducible assumption | with_reducible exact hput_s _ _ _ | refine (hput_n _ _ (by omega)).trans ?_ | exact hput_s _ _ _ | assumption) rfl ?_
  refine g_aload_n q_X6_clashesWith_7 rfl ?_
  refine g_get fl_X6_123 q_X6_clashesWith_8 (by repeat first | with_reducible assumption | with_reducible exact hput_s _ _ _ | refine (hput_n _ _ (by omega)).trans ?_ | exact hput_s _ _ _ | assumption) rfl ?_
  refine g_iaload q_X6_clashesWith_11 (by repeat first | with_reducible assumption | with_reducible exact hput_s _ _ _ | refine (hput_n _ _ (by omega)).trans ?_ | exact hput_s _ _ _ | assumption) (by omega) (by omega) ?_
  refine g_topi (b := C c) rfl ?_
  refine g_istore_n (L' := [_, _, _, _]) q_X6_clashesWith_12 (by decide) rfl ?_
  refine g_aload_n q_X6_clashesWith_13 rfl ?_
  refine g_get fl_X6_24 q_X6_clashesWith_14 (by repeat first | with_reducible assumption | with_reducible exact hput_s _ _ _ | refine (hput_n _ _ (by omega)).trans ?_ | exact hput_s _ _ _ | assumption) rfl ?_
  refine g_get fl_X6_136 q_X6_clashesWith_17 (by repeat first | with_reducible assumption | with_reducible exact hput_s _ _ _ | refine (hput_n _ _ (by omega)).trans ?_ | exact hput_s _ _ _ | assumption) rfl ?_
  refine g_bipush q_X6_clashesWith_20 bp_41 ?_
  refine g_aload_n q_X6_clashesWith_22 rfl ?_
  refine g_get fl_X6_123 q_X6_clashesWith_23 (by repeat first | with_reducible assumption | with_reducible exact hput_s _ _ _ | refine (hput_n _ _ (by omega)).trans ?_ | exact hput_s _ _ _ | assumption) rfl ?_
  refine g_imul q_X6_clashesWith_26 ?_
  refine g_aload_n q_X6_clashesWith_27 rfl ?_
  refine g_get fl_X6_27 q_X6_clashesWith_28 (by repeat first | with_reducible assumption | with_reducible exact hput_s _ _ _ | refine (hput_n _ _ (by omega)).trans ?_ | exact hput_s _ _ _ | assumption) rfl ?_
  refine g_iconst q_X6_clashesWith_31 ?_
  refine g_bipush q_X6_clashesWith_32 bp_41 ?_
  refine g_copy lk_X6_189 q_X6_clashesWith_34 (by decide) (Nat.le_of_ble_eq_true rfl) (by repeat first | with_reducible assumption | with_reducible exact hput_s _ _ _ | refine (hput_n _ _ (by omega)).trans ?_ | exact hput_s _ _ _ | assumption) (by repeat first | with_reducible assumption | with_reducible exact hput_s _ _ _ | refine (hput_n _ _ (by omega)).trans ?_ | exact hput_s _ _ _ | assumption) (by omega) (by omega) (by omega) (by omega) (by omega) ?_
  refine g_repI (f' := fun t => P (41 * c + t)) (hput_s _ _ _) (fun j hj => ?_) ?_
  · rw [show (0 : Int).toNat = 0 from rfl, show (41 : Int).toNat = 41 from rfl, show (41 * (c : Int)).toNat = 41 * c by omega]
    unfold va_cpy
    rw [if_pos (by omega)]
    rfl
  rw [hput_hput]
  obtain ⟨τ, hτ⟩ : ∃ τ, τ = hput σ (T + 8) (ai 41 (fun t => P (41 * c + t))) := ⟨_, rfl⟩
  have k0 : τ.2 T = some (tro T ve nc spl lo pl cu) := by rw [hτ]; exact (by repeat first | with_reducible assumption | with_reducible exact hput_s _ _ _ | refine (hput_n _ _ (by omega)).trans ?_ | exact hput_s _ _ _ | assumption)
  have k1 : τ.2 (T + 5) = some (wyo (T + 5) n ct cs cl co) := by rw [hτ]; exact (by repeat first | with_reducible assumption | with_reducible exact hput_s _ _ _ | refine (hput_n _ _ (by omega)).trans ?_ | exact hput_s _ _ _ | assumption)
  have k2 : τ.2 (T + 5 + 1) = some (ai 205 P) := by rw [hτ]; exact (by repeat first | with_reducible assumption | with_reducible exact hput_s _ _ _ | refine (hput_n _ _ (by omega)).trans ?_ | exact hput_s _ _ _ | assumption)
  have k3 : τ.2 (T + 5 + 2) = some (ai 5 C) := by rw [hτ]; exact (by repeat first | with_reducible assumption | with_reducible exact hput_s _ _ _ | refine (hput_n _ _ (by omega)).trans ?_ | exact hput_s _ _ _ | assumption)
  have k4 : τ.2 (T + 8) = some (ai 41 (fun t => P (41 * c + t))) := by rw [hτ]; exact hput_s _ _ _
  have k5 : τ.2 a = some (nod a num pa c ti fr to kc su kl fo sp) := by rw [hτ]; exact (by repeat first | with_reducible assumption | with_reducible exact hput_s _ _ _ | refine (hput_n _ _ (by omega)).trans ?_ | exact hput_s _ _ _ | assumption)
  have k6 : τ.2 (a + 1) = some (ai 41 R) := by rw [hτ]; exact (by repeat first | with_reducible assumption | with_reducible exact hput_s _ _ _ | refine (hput_n _ _ (by omega)).trans ?_ | exact hput_s _ _ _ | assumption)
  have hE : eqOff σ τ (inb (T + 8) 1) := by rw [hτ]; exact eqOff.rfl'.put ⟨by omega, by omega⟩ _
  refine g_eq (σ2 := τ) rfl rfl hτ.symm ?_
  refine g_aload_n q_X6_clashesWith_37 rfl ?_
  refine g_get fl_X6_24 q_X6_clashesWith_38 (by repeat first | with_reducible assumption | with_reducible exact hput_s _ _ _ | refine (hput_n _ _ (by omega)).trans ?_ | exact hput_s _ _ _ | assumption) rfl ?_
  refine g_aload_n q_X6_clashesWith_41 rfl ?_
  refine g_get fl_X6_123 q_X6_clashesWith_42 (by repeat first | with_reducible assumption | with_reducible exact hput_s _ _ _ | refine (hput_n _ _ (by omega)).trans ?_ | exact hput_s _ _ _ | assumption) rfl ?_
  refine g_aload_n q_X6_clashesWith_45 rfl ?_
  refine g_get fl_X6_126 q_X6_clashesWith_46 (by repeat first | with_reducible assumption | with_reducible exact hput_s _ _ _ | refine (hput_n _ _ (by omega)).trans ?_ | exact hput_s _ _ _ | assumption) rfl ?_
  refine g_iconst q_X6_clashesWith_49 ?_
  refine g_aload_n q_X6_clashesWith_50 rfl ?_
  refine g_get fl_X6_129 q_X6_clashesWith_51 (by repeat first | with_reducible assumption | with_reducible exact hput_s _ _ _ | refine (hput_n _ _ (by omega)).trans ?_ | exact hput_s _ _ _ | assumption) rfl ?_
  refine g_callVN (rc' := 0) (rs' := 0) (As := [_, _, _, _]) cs_X6_132 q_X6_clashesWith_54 (sp_put hΓ k1 k2 k3 c (a + 1) 0 41 R kc (by omega) k6 (by omega)) rfl (by repeat first | with_reducible assumption | with_reducible exact hput_s _ _ _ | refine (hput_n _ _ (by omega)).trans ?_ | exact hput_s _ _ _ | assumption) rfl rfl rfl rfl (Nat.le_of_ble_eq_true rfl) (by decide) (by decide) (by decide) (fun _ _ h => h.elim) (k_rv ?_)
  obtain ⟨τ2, hτ2⟩ : ∃ τ2, τ2 = hput (hput τ (T + 5 + 1) (ai 205 (va_cpy R P 0 (41 * c) 41))) (T + 5 + 2) (ai 5 (va_up C c kc)) := ⟨_, rfl⟩
  have m0 : τ2.2 T = some (tro T ve nc spl lo pl cu) := by rw [hτ2]; exact (by repeat first | with_reducible assumption | with_reducible exact hput_s _ _ _ | refine (hput_n _ _ (by omega)).trans ?_ | exact hput_s _ _ _ | assumption)
  have m1 : τ2.2 (T + 5) = some (wyo (T + 5) n ct cs cl co) := by rw [hτ2]; exact (by repeat first | with_reducible assumption | with_reducible exact hput_s _ _ _ | refine (hput_n _ _ (by omega)).trans ?_ | exact hput_s _ _ _ | assumption)
  have m2 : τ2.2 (T + 5 + 1) = some (ai 205 (va_cpy R P 0 (41 * c) 41)) := by rw [hτ2]; exact (by repeat first | with_reducible assumption | with_reducible exact hput_s _ _ _ | refine (hput_n _ _ (by omega)).trans ?_ | exact hput_s _ _ _ | assumption)
  have m3 : τ2.2 (T + 5 + 2) = some (ai 5 (va_up C c kc)) := by rw [hτ2]; exact hput_s _ _ _
  have m4 : τ2.2 (T + 8) = some (ai 41 (fun t => P (41 * c + t))) := by rw [hτ2]; exact (by repeat first | with_reducible assumption | with_reducible exact hput_s _ _ _ | refine (hput_n _ _ (by omega)).trans ?_ | exact hput_s _ _ _ | assumption)
  have m5 : τ2.2 a = some (nod a num pa c ti fr to kc su kl fo sp) := by rw [hτ2]; exact (by repeat first | with_reducible assumption | with_reducible exact hput_s _ _ _ | refine (hput_n _ _ (by omega)).trans ?_ | exact hput_s _ _ _ | assumption)
  refine g_eq (σ2 := τ2) rfl rfl hτ2.symm ?_
  refine g_aload_n q_X6_clashesWith_57 rfl ?_
  refine g_get fl_X6_24 q_X6_clashesWith_58 (by repeat first | with_reducible assumption | with_reducible exact hput_s _ _ _ | refine (hput_n _ _ (by omega)).trans ?_ | exact hput_s _ _ _ | assumption) rfl ?_
  refine g_callVN (rc' := 0) (rs' := 0) (As := []) cs_X6_97 q_X6_clashesWith_61 (sp_countClashes hΓ hn (okP_cpy oP oR _ _ _) (okC_up oC _ hkc) m1 m2 m3) rfl (by repeat first | with_reducible assumption | with_reducible exact hput_s _ _ _ | refine (hput_n _ _ (by omega)).trans ?_ | exact hput_s _ _ _ | assumption) rfl rfl rfl rfl (Nat.le_of_ble_eq_true rfl) (by decide) (by decide) (by decide) (fun _ _ h => h.elim) (k_ri ?_)
  refine g_istore_n (L' := [_, _, _, _]) q_X6_clashesWith_64 (by decide) rfl ?_
  refine g_aload_n q_X6_clashesWith_65 rfl ?_
  refine g_get fl_X6_24 q_X6_clashesWith_66 (by repeat first | with_reducible assumption | with_reducible exact hput_s _ _ _ | refine (hput_n _ _ (by omega)).trans ?_ | exact hput_s _ _ _ | assumption) rfl ?_
  refine g_aload_n q_X6_clashesWith_69 rfl ?_
  refine g_get fl_X6_123 q_X6_clashesWith_70 (by repeat first | with_reducible assumption | with_reducible exact hput_s _ _ _ | refine (hput_n _ _ (by omega)).trans ?_ | exact hput_s _ _ _ | assumption) rfl ?_
  refine g_aload_n q_X6_clashesWith_73 rfl ?_
  refine g_get fl_X6_27 q_X6_clashesWith_74 (by repeat first | with_reducible assumption | with_reducible exact hput_s _ _ _ | refine (hput_n _ _ (by omega)).trans ?_ | exact hput_s _ _ _ | assumption) rfl ?_
  refine g_iconst q_X6_clashesWith_77 ?_
  refine g_iload_n q_X6_clashesWith_78 rfl ?_
  refine g_callVN (rc' := 0) (rs' := 0) (As := [_, _, _, _]) cs_X6_132 q_X6_clashesWith_79 (sp_put hΓ m1 m2 m3 c (T + 8) 0 41 (fun t => P (41 * c + t)) (C c) (by omega) m4 (by omega)) rfl (by repeat first | with_reducible assumption | with_reducible exact hput_s _ _ _ | refine (hput_n _ _ (by omega)).trans ?_ | exact hput_s _ _ _ | assumption) rfl rfl rfl rfl (Nat.le_of_ble_eq_true rfl) (by decide) (by decide) (by decide) (fun _ _ h => h.elim) (k_rv ?_)
  have e1 : va_cpy (fun t => P (41 * c + t)) (va_cpy R P 0 (41 * c) 41) 0 (41 * c) 41 = P := by
    funext k
    unfold va_cpy
    by_cases q : 41 * c ≤ k ∧ k < 41 * c + 41
    · rw [if_pos q]; show P (41 * c + (0 + (k - 41 * c))) = P k; congr 1; omega
    · rw [if_neg q, if_neg q]
  have e2 : va_up (va_up C c kc) c (C c) = C := by
    funext k
    unfold va_up
    by_cases q : k = c
    · rw [if_pos q, q]
    · rw [if_neg q, if_neg q]
  rw [e1, e2]
  refine g_iload_n q_X6_clashesWith_82 rfl ?_
  refine g_ireturn q_X6_clashesWith_83.1 rfl ?_
  refine ⟨rfl, ⟨by rw [hput_1, hput_1, hτ2]; exact hE.1, fun b hb => ?_⟩, fun t => P (41 * c + t), ?_⟩
  · by_cases q : b = T + 5 + 2
    · rw [q, hput_s, w2]
    · rw [hput_n _ _ q]
      by_cases q1 : b = T + 5 + 1
      · rw [q1, hput_s, w1]
      · rw [hput_n _ _ q1, hτ2, hput_n _ _ q, hput_n _ _ q1]
        exact hE.2 b hb
  · rw [hput_n _ _ (by omega), hput_n _ _ (by omega)]
    exact m4
end TR3

