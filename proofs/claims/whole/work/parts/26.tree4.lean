/-! Tree: the ways of a node, its first clash; goOn -/
def ndC (pn : Nat → PN) (C1 : Nat → Int) (k : Nat) : Nat → Int := fun c => fw pn pCo (C1 c) c k
def ndP (pn : Nat → PN) (P1 : Nat → Int) (k : Nat) : Nat → Int := fun i => fw pn (fun q => pRw q (i % 41)) (P1 i) (i / 41) k
theorem ndP_at (pn : Nat → PN) (P1 : Nat → Int) (k c t : Nat) (ht : t < 41) : ndP pn P1 k (41 * c + t) = fw pn (fun q => pRw q t) (P1 (41 * c + t)) c k := by
  unfold ndP
  rw [show (41 * c + t) % 41 = t by omega, show (41 * c + t) / 41 = c by omega]
theorem soc_cong {P P' : Nat → Int} {n a b t : Nat} (h : ∀ i, i < 41 * n → P i = P' i) (ha : a < n) (hb : b < n) (ht : t < 40) : soc P a b t = soc P' a b t := by
  unfold soc
  rw [h _ (by omega), h _ (by omega), h _ (by omega), h _ (by omega)]
theorem ccN_cong {P P' : Nat → Int} {n last : Nat} (h : ∀ i, i < 41 * n → P i = P' i) (hl : last ≤ 40) : ccN P n last = ccN P' n last := by
  unfold ccN
  refine sumN_cong fun a ha => sumN_cong fun j hj => cntN_cong fun t ht => ?_
  rw [soc_cong h (by omega) (by omega) (by omega)]
theorem mxN_cong {C D : Nat → Int} : ∀ {n : Nat}, (∀ k, k < n → C k = D k) → mxN C n = mxN D n
  | 0, _ => rfl
  | n + 1, h => by rw [mxN, mxN, mxN_cong (n := n) (fun k hk => h k (by omega)), h n (by omega)]
theorem fsC_cong {P P' : Nat → Int} {n t a b : Nat} {s : Int} (h : ∀ i, i < 41 * n → P i = P' i) (ht : t < 40) (hf : fsC P n t s a b) : fsC P' n t s a b := by
  have hs : ∀ a b t', a < b → b < n → t' ≤ t → soc P a b t' = soc P' a b t' := fun a b t' hab hb ht' => soc_cong h (by omega) hb (by omega)
  obtain ⟨q1, ⟨q2, q3, q4, q5⟩, q6⟩ := hf
  refine ⟨?_, ⟨q2, q3, by rw [← hs a b t q2 q3 (Nat.le_refl _)]; exact q4, fun a' b' hab hb hx => by rw [← hs a' b' t hab hb (Nat.le_refl _)]; exact q5 a' b' hab hb hx⟩, fun t' ht' => ⟨fun a b hab hb => by rw [← hs a b t' hab hb (by omega)]; exact (q6 t' ht').1 a b hab hb, fun a b hab hb => by rw [← hs a b t' hab hb (by omega)]; exact (q6 t' ht').2 a b hab hb⟩⟩
  exact q1.elim Or.inl (fun z => Or.inr ⟨z.1, fun a b hab hb => by rw [← hs a b t hab hb (Nat.le_refl _)]; exact z.2 a b hab hb⟩)
theorem fsC_uni {P : Nat → Int} {n t a b t' a' b' : Nat} {s s' : Int} (h : fsC P n t s a b) (h' : fsC P n t' s' a' b') : t = t' ∧ s = s' ∧ a = a' ∧ b = b' := by
  obtain ⟨q1, ⟨q2, q3, q4, q5⟩, q6⟩ := h
  obtain ⟨r1, ⟨r2, r3, r4, r5⟩, r6⟩ := h'
  have e1 : t = t' := by
    rcases Nat.lt_trichotomy t t' with z | z | z
    · exfalso
      rcases q1 with y | y
      · exact (r6 t z).1 a b q2 q3 (by rw [q4, y])
      · exact (r6 t z).2 a b q2 q3 (by rw [q4, y.1])
    · exact z
    · exfalso
      rcases r1 with y | y
      · exact (q6 t' z).1 a' b' r2 r3 (by rw [r4, y])
      · exact (q6 t' z).2 a' b' r2 r3 (by rw [r4, y.1])
  subst e1
  have e2 : s = s' := by
    rcases q1 with y | y <;> rcases r1 with x | x
    · rw [y, x]
    · exact absurd (q4.trans y) (x.2 a b q2 q3)
    · exact absurd (r4.trans x) (y.2 a' b' r2 r3)
    · rw [y.1, x.1]
  subst e2
  have h1 : ¬ (a' < a ∨ a' = a ∧ b' < b) := fun z => q5 a' b' r2 r3 z r4
  have h2 : ¬ (a < a' ∨ a = a' ∧ b < b') := fun z => r5 a b q2 q3 z q4
  exact ⟨rfl, rfl, by omega, by omega⟩
theorem sumN_zero {f : Nat → Int} : ∀ {n : Nat}, (∀ k, k < n → f k = 0) → sumN f n = 0 := fun {n} h => by
  have := sumN_rg (C := f) (a := 0) (b := 0) (n := n) (fun k hk => by rw [h k hk]; decide)
  omega
theorem ccN_none {P : Nat → Int} {n last : Nat} (h : ∀ t, t < last → noS P n t 0 ∧ noS P n t 1) : ccN P n last = 0 := by
  unfold ccN
  refine sumN_zero fun a ha => sumN_zero fun j hj => ?_
  unfold cntN
  refine sumN_zero fun t ht => ?_
  have h1 := (h t ht).1 a (a + 1 + j) (by omega) (by omega)
  have h2 := (h t ht).2 a (a + 1 + j) (by omega) (by omega)
  rcases soc_rg P a (a + 1 + j) t with q | q | q
  · simp only [q]; rfl
  · exact absurd q h1
  · exact absurd q h2
section TR4
variable {Γ : GT} {σ : AH} {T M : Nat} {ad : Nat → Nat} {ve lo pl : Int} {nc spl n n2 : Nat} {cu : Bool} {pn : Nat → PN} {P1 C1 P2 C2 : Nat → Int}
theorem sp_goOn (hΓ : Gd Γ) (h0 : σ.2 T = some (tro T ve nc spl lo pl cu)) (hN : TND σ T M ad) (hM : nc ≤ M) (hk : ∀ k, k < nc → NDp σ ad k (pn k)) (hT : okT pn nc n) (hO : okN pn nc) (hn : n ≤ 5) (hW1 : WYo σ (T + 2) n P1 C1) (hW2 : WYo σ (T + 5) n2 P2 C2) (o1 : okP P1) (o2 : okC C1) (o3 : okP P2) (o4 : okC C2) (k : Nat) (hkn : k < nc) (hcl : pCl (pn k) = ccN (ndP pn P1 k) n (mxN (ndC pn C1 k) n).toNat) : Sp Γ miX6_goOn 0 0 [.ref T, .ref (ad k)] σ (fun r σ' => eqOff σ σ' (fun a => a = T ∨ inb (T + 5) 3 a) ∧ ∃ P' C' ct cs cl co, σ'.2 (T + 5) = some (wyo (T + 5) n ct cs cl co) ∧ σ'.2 (T + 5 + 1) = some (ai 205 P') ∧ σ'.2 (T + 5 + 2) = some (ai 5 C') ∧ okP P' ∧ okC C' ∧ (∀ c, c < n → C' c = ndC pn C1 k c) ∧ (∀ i, i < 41 * n → P' i = ndP pn P1 k i) ∧ ((pCl (pn k) = 0 ∧ r = some (.int (ii 0)) ∧ σ'.2 T = some (tro T ve nc spl lo k cu)) ∨ (pCl (pn k) ≠ 0 ∧ 300 ≤ nc ∧ r = some (.int (ii 0)) ∧ σ'.2 T = some (tro T ve nc spl lo pl true)) ∨ (pCl (pn k) ≠ 0 ∧ nc < 300 ∧ r = some (.int (ii 1)) ∧ σ'.2 T = some (tro T ve nc spl lo pl cu) ∧ ∃ (t : Nat) (s : Int) (a b : Nat), t < (mxN (ndC pn C1 k) n).toNat ∧ (mxN (ndC pn C1 k) n).toNat ≤ 40 ∧ fsC (ndP pn P1 k) n t s a b ∧ ct = ((t + 1 : Nat) : Int) ∧ cs = s ∧ cl = a ∧ co = b))) noX := by
  have hN0 := hN
  obtain ⟨h1, hM1, hinc, hin⟩ := hN
  have hik := hin k (by omega)
  have hok := hO k hkn
  refine Sp_of (L := [_, _]) hΓ (by decide +kernel) rfl (Nat.le_of_ble_eq_true rfl) rfl ?_
  refine g_aload_n q_X6_goOn_0 rfl ?_
  refine g_aload_n q_X6_goOn_1 rfl ?_
  refine g_callV (rc' := 0) (rs' := 0) (As := [_]) cs_X6_106 q_X6_goOn_2 (sp_load hΓ h0 hN0 hM hk hT hn hW1 hW2 o1 o2 o3 o4 k hkn) rfl (by repeat first | with_reducible assumption | with_reducible exact hput_s _ _ _ | refine (hput_n _ _ (by omega)).trans ?_ | exact hput_s _ _ _ | assumption) rfl rfl rfl rfl (Nat.le_of_ble_eq_true rfl) (by decide) (by decide) (by decide) (fun _ _ h => h.elim) (fun v σ' hq => ?_)
  obtain ⟨rfl, hE, P', C', ⟨⟨ct, cs, cl, co, w0⟩, w1, w2⟩, oP, oC, hPC⟩ := hq
  have eC : ∀ c, c < n → C' c = ndC pn C1 k c := fun c hc => (hPC c hc).1
  have eP : ∀ i, i < 41 * n → P' i = ndP pn P1 k i := fun i hi => by
    have := (hPC (i / 41) (by omega)).2 (i % 41) (by omega)
    rw [show 41 * (i / 41) + i % 41 = i by omega] at this
    exact this
  have hm : mxN C' n = mxN (ndC pn C1 k) n := mxN_cong eC
  have hm4 := mxN_rg (C := C') (b := 40) (by decide) (n := n) (fun j _ => (oC j).2)
  have k0 : σ'.2 T = some (tro T ve nc spl lo pl cu) := (hE.2 _ (fun q => by unfold inb at q; omega)).trans h0
  have hnk := ((hk k hkn).keep (hE.2 _ (fun q => by unfold inb at q; omega)) (hE.2 _ (fun q => by unfold inb at q; omega))).1
  have hE2 : eqOff σ σ' (fun a => a = T ∨ inb (T + 5) 3 a) := ⟨hE.1, fun a ha => hE.2 a (fun q => ha (Or.inr q))⟩
  refine g_aload_n q_X6_goOn_5 rfl ?_
  refine g_get fl_X6_100 q_X6_goOn_6 (by repeat first | with_reducible assumption | with_reducible exact hput_s _ _ _ | refine (hput_n _ _ (by omega)).trans ?_ | exact hput_s _ _ _ | assumption) rfl ?_
  refine g_if_ne (tgt := 22) q_X6_goOn_9 (by decide) ⟨by omega, by omega⟩ (fun e1 => ?_) (fun e1 => ?_)
  · refine g_aload_n q_X6_goOn_22 rfl ?_
    refine g_get fl_X6_35 q_X6_goOn_23 (by repeat first | with_reducible assumption | with_reducible exact hput_s _ _ _ | refine (hput_n _ _ (by omega)).trans ?_ | exact hput_s _ _ _ | assumption) rfl ?_
    refine g_sipush q_X6_goOn_26 sp_300 ?_
    refine g_icmp_lt (tgt := 39) q_X6_goOn_29 (by decide) ⟨by omega, by omega⟩ ⟨by omega, by omega⟩ (fun e2 => ?_) (fun e2 => ?_)
    · refine g_aload_n q_X6_goOn_39 rfl ?_
      refine g_get fl_X6_24 q_X6_goOn_40 (by repeat first | with_reducible assumption | with_reducible exact hput_s _ _ _ | refine (hput_n _ _ (by omega)).trans ?_ | exact hput_s _ _ _ | assumption) rfl ?_
      refine g_callVN (rc' := 0) (rs' := 0) (As := []) cs_X6_113 q_X6_goOn_43 (sp_findFirstClash hΓ hn oP oC w0 w1 w2) rfl (by repeat first | with_reducible assumption | with_reducible exact hput_s _ _ _ | refine (hput_n _ _ (by omega)).trans ?_ | exact hput_s _ _ _ | assumption) rfl rfl rfl rfl (Nat.le_of_ble_eq_true rfl) (by decide) (by decide) (by decide) (fun _ _ h => h.elim) (fun v σ2 hq => ?_)
      obtain ⟨rfl, hq⟩ := hq
      rcases hq with ⟨hno, -⟩ | ⟨t, s, a, b, ht, hf, rfl⟩
      · exact absurd (by rw [hcl, ← hm, ← ccN_cong eP (by omega)]; exact ccN_none hno) e1
      · refine g_iconst q_X6_goOn_46 ?_
        refine g_zreturn q_X6_goOn_47.1 rfl (by first | exact Or.inl rfl | exact Or.inr rfl | omega) ?_
        refine ⟨hE2.put (Or.inr ⟨by omega, by omega⟩) _, P', C', _, _, _, _, hput_s _ _ _, (by repeat first | with_reducible assumption | with_reducible exact hput_s _ _ _ | refine (hput_n _ _ (by omega)).trans ?_ | exact hput_s _ _ _ | assumption), (by repeat first | with_reducible assumption | with_reducible exact hput_s _ _ _ | refine (hput_n _ _ (by omega)).trans ?_ | exact hput_s _ _ _ | assumption), oP, oC, eC, eP, Or.inr (Or.inr ⟨e1, by omega, rfl, (by repeat first | with_reducible assumption | with_reducible exact hput_s _ _ _ | refine (hput_n _ _ (by omega)).trans ?_ | exact hput_s _ _ _ | assumption), t, s, a, b, by omega, by omega, fsC_cong eP (by omega) hf, rfl, rfl, rfl, rfl⟩)⟩
    · refine g_aload_n q_X6_goOn_32 rfl ?_
      refine g_iconst q_X6_goOn_33 ?_
      refine g_put fp_X6_47 q_X6_goOn_34 (by repeat first | with_reducible assumption | with_reducible exact hput_s _ _ _ | refine (hput_n _ _ (by omega)).trans ?_ | exact hput_s _ _ _ | assumption) rfl rfl ?_
      refine g_iconst q_X6_goOn_37 ?_
      refine g_zreturn q_X6_goOn_38.1 rfl (by first | exact Or.inl rfl | exact Or.inr rfl | omega) ?_
      refine ⟨hE2.put (Or.inl rfl) _, P', C', ct, cs, cl, co, (by repeat first | with_reducible assumption | with_reducible exact hput_s _ _ _ | refine (hput_n _ _ (by omega)).trans ?_ | exact hput_s _ _ _ | assumption), (by repeat first | with_reducible assumption | with_reducible exact hput_s _ _ _ | refine (hput_n _ _ (by omega)).trans ?_ | exact hput_s _ _ _ | assumption), (by repeat first | with_reducible assumption | with_reducible exact hput_s _ _ _ | refine (hput_n _ _ (by omega)).trans ?_ | exact hput_s _ _ _ | assumption), oP, oC, eC, eP, Or.inr (Or.inl ⟨e1, by omega, rfl, hput_s _ _ _⟩)⟩
  · refine g_aload_n q_X6_goOn_12 rfl ?_
    refine g_aload_n q_X6_goOn_13 rfl ?_
    refine g_get fl_X6_110 q_X6_goOn_14 (by repeat first | with_reducible assumption | with_reducible exact hput_s _ _ _ | refine (hput_n _ _ (by omega)).trans ?_ | exact hput_s _ _ _ | assumption) rfl ?_
    refine g_put fp_X6_44 q_X6_goOn_17 (by repeat first | with_reducible assumption | with_reducible exact hput_s _ _ _ | refine (hput_n _ _ (by omega)).trans ?_ | exact hput_s _ _ _ | assumption) rfl rfl ?_
    refine g_iconst q_X6_goOn_20 ?_
    refine g_zreturn q_X6_goOn_21.1 rfl (by first | exact Or.inl rfl | exact Or.inr rfl | omega) ?_
    refine ⟨hE2.put (Or.inl rfl) _, P', C', ct, cs, cl, co, (by repeat first | with_reducible assumption | with_reducible exact hput_s _ _ _ | refine (hput_n _ _ (by omega)).trans ?_ | exact hput_s _ _ _ | assumption), (by repeat first | with_reducible assumption | with_reducible exact hput_s _ _ _ | refine (hput_n _ _ (by omega)).trans ?_ | exact hput_s _ _ _ | assumption), (by repeat first | with_reducible assumption | with_reducible exact hput_s _ _ _ | refine (hput_n _ _ (by omega)).trans ?_ | exact hput_s _ _ _ | assumption), oP, oC, eC, eP, Or.inl ⟨e1, rfl, hput_s _ _ _⟩⟩
end TR4

