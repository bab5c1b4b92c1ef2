/-! Tree: build -/
def NDS (τ : AH) (T M : Nat) (ad : Nat → Nat) (nc : Nat) (pn : Nat → PN) : Prop := TND τ T M ad ∧ (∀ k, k < M → NDg τ ad k) ∧ (0 < M → NDr τ ad) ∧ nc ≤ M ∧ ∀ k, k < nc → NDp τ ad k (pn k)
theorem NDS.keep {τ τ' : AH} {T M : Nat} {ad : Nat → Nat} {nc : Nat} {pn : Nat → PN} (h : NDS τ T M ad nc pn) (e1 : τ'.1 = τ.1) (e2 : ∀ b, T + 8 < b → τ'.2 b = τ.2 b) (e3 : τ'.2 (T + 1) = τ.2 (T + 1)) : NDS τ' T M ad nc pn := by
  obtain ⟨⟨h1, h2, h3, h4⟩, h5, h6, h7, h8⟩ := h
  refine ⟨⟨e3.trans h1, h2, h3, fun k hk => by rw [e1]; exact h4 k hk⟩, fun k hk => ?_, fun hM => ?_, h7, fun k hk => ?_⟩
  · obtain ⟨pa, ca, ti, fr, to, co, su, cl, fo, sp, rw, hx⟩ := h5 k hk
    have := h4 k hk
    exact ⟨pa, ca, ti, fr, to, co, su, cl, fo, sp, rw, hx.keep (e2 _ (by omega)) (e2 _ (by omega))⟩
  · obtain ⟨su, cl, sp, hx⟩ := h6 hM
    have := h4 0 hM
    exact ⟨su, cl, sp, hx.keep (e2 _ (by omega)) (e2 _ (by omega))⟩
  · have := h4 k (by omega)
    exact (h8 k hk).keep (e2 _ (by omega)) (e2 _ (by omega))
def rtF (q : PN) : Prop := pCa q = -1 ∧ pTi q = -1 ∧ pFr q = -1 ∧ pTo q = -1 ∧ pCo q = 0 ∧ pFo q = 0 ∧ pRw q = fun _ => 0
theorem NDS.split {τ : AH} {T M : Nat} {ad : Nat → Nat} {nc : Nat} {pn : Nat → PN} (h : NDS τ T M ad nc pn) (hr : rtF (pn 0)) {j : Nat} (hj : j < nc) : NDS (hput τ (ad j) (nod (ad j) j (if j = 0 then none else some (ad (pPi (pn j)))) (pCa (pn j)) (pTi (pn j)) (pFr (pn j)) (pTo (pn j)) (pCo (pn j)) (pSu (pn j)) (pCl (pn j)) (pFo (pn j)) true)) T M ad nc (va_up pn j (spN (pn j))) := by
  obtain ⟨h9, h5, h6, h7, h8⟩ := h
  have h90 := h9
  obtain ⟨h1, h2, h3, h4⟩ := h9
  have hjm := h4 j (by omega)
  have o : ∀ b, b ≠ ad j → (hput τ (ad j) (nod (ad j) j (if j = 0 then none else some (ad (pPi (pn j)))) (pCa (pn j)) (pTi (pn j)) (pFr (pn j)) (pTo (pn j)) (pCo (pn j)) (pSu (pn j)) (pCl (pn j)) (pFo (pn j)) true)).2 b = τ.2 b := fun b hb => hput_n _ _ hb
  have nj := h8 j hj
  refine ⟨⟨(o _ (by omega)).trans h1, h2, h3, h4⟩, fun k hk => ?_, fun hM => ?_, h7, fun k hk => ?_⟩
  · by_cases z : k = j
    · subst z
      exact ⟨_, _, _, _, _, _, _, _, _, _, _, hput_s _ _ _, (o _ (by omega)).trans nj.2⟩
    · obtain ⟨pa, ca, ti, fr, to, co, su, cl, fo, sp, rw, hx⟩ := h5 k hk
      have := h90.inj hk (show j < M by omega) z
      exact ⟨pa, ca, ti, fr, to, co, su, cl, fo, sp, rw, hx.keep (o _ (by omega)) (o _ (by omega))⟩
  · obtain ⟨su, cl, sp, hx⟩ := h6 hM
    by_cases z : 0 = j
    · subst z
      obtain ⟨r1, r2, r3, r4, r5, r6, r7⟩ := hr
      have e2 := nj.2
      rw [r7] at e2
      rw [if_pos rfl, r1, r2, r3, r4, r5, r6] at o ⊢
      exact ⟨_, _, _, hput_s _ _ _, (o _ (by omega)).trans e2⟩
    · have := h90.inj hM (show j < M by omega) z
      exact ⟨su, cl, sp, hx.keep (o _ (by omega)) (o _ (by omega))⟩
  · by_cases z : k = j
    · subst z
      have u0 : va_up pn k (spN (pn k)) k = spN (pn k) := by unfold va_up; rw [if_pos rfl]
      rw [u0]
      exact ⟨hput_s _ _ _, (o _ (by omega)).trans nj.2⟩
    · have u1 : va_up pn j (spN (pn j)) k = pn k := by unfold va_up; rw [if_neg z]
      rw [u1]
      have := h90.inj (show k < M by omega) (show j < M by omega) z
      exact (h8 k hk).keep (o _ (by omega)) (o _ (by omega))
/-- the tree's part of the heap as the words x tell it, since σ -/
def BI (σ : AH) (T M : Nat) (ad : Nat → Nat) (ve : Int) (n s : Nat) (PL GO : Nat → Int) (lv : Nat → BitVec 64) (x : TS) (τ : AH) : Prop := ∃ ad', NDS τ T (max M (tT x)) ad' (tN x) (tQ x) ∧ (∀ k, k < M → ad' k = ad k) ∧ (∀ k, M ≤ k → k < max M (tT x) → σ.1 ≤ ad' k) ∧ eqG σ τ (fun a => inb T 9 a ∨ inb s 4 a ∨ ownF ad M a) ∧ τ.2 T = some (tro T ve (tN x) (tS x) (tL x) (tP x) (tC x)) ∧ (∃ SP, τ.2 (T + 8) = some (ai 41 SP)) ∧ SRo τ s ∧ ∃ P1 C1, WYo τ (T + 2) n P1 C1 ∧ okP P1 ∧ okC C1 ∧ ∀ c, c < n → C1 c = alc lv PL GO c ∧ (alc lv PL GO c ≠ -1 → ∀ t, t < 41 → P1 (41 * c + t) = alw lv PL GO c t)
def BW (T n : Nat) (PL GO : Nat → Int) (lv : Nat → BitVec 64) (x : TS) (τ : AH) : Prop := ∃ n2 P2 C2, WYo τ (T + 5) n2 P2 C2 ∧ okP P2 ∧ okC C2 ∧ (tP x ≠ -1 → n2 = n ∧ (∀ c, c < n → C2 c = ndC (tQ x) (alc lv PL GO) (tP x).toNat c) ∧ ∀ i, i < 41 * n → P2 i = ndP (tQ x) (alP lv PL GO) (tP x).toNat i)
theorem bl_T (lv : Nat → BitVec 64) (PL GO P1 C1 : Nat → Int) (n : Nat) (bd : Int) (x : TS) : tT x ≤ tT (bst lv PL GO P1 C1 n bd x).2 := by
  have g1 : ∀ (P C : Nat → Int) (par t : Nat) (s : Int) (c : Nat) (y : Nat × (Nat → PN) × Nat), (gw1 lv PL GO n P C par t s c y).2.2 = max y.2.2 (y.1 + 1) := fun P C par t s c y => by
    unfold gw1
    split <;> rfl
  unfold bst
  split
  · exact Nat.le_refl _
  · split
    · exact Nat.le_refl _
    · split
      · exact Nat.le_refl _
      · split
        · exact Nat.le_refl _
        · show tT x ≤ (bsK lv PL GO P1 C1 n _ (tN x, tQ x, tT x)).2.2
          unfold bsK
          simp only
          rw [g1, g1]
          exact Nat.le_trans (Nat.le_max_left _ _) (Nat.le_max_left _ _)
theorem bl_mono (lv : Nat → BitVec 64) (PL GO P1 C1 : Nat → Int) (n : Nat) (bd : Int) : ∀ (f : Nat) (x : TS), tT x ≤ tT (bl lv PL GO P1 C1 n bd f x)
  | 0, _ => Nat.le_refl _
  | f + 1, x => by
    rw [bl]
    split
    · exact Nat.le_trans (bl_T lv PL GO P1 C1 n bd x) (bl_mono lv PL GO P1 C1 n bd f _)
    · exact bl_T lv PL GO P1 C1 n bd x
theorem gw1_T (lv : Nat → BitVec 64) (PL GO : Nat → Int) (n : Nat) (P C : Nat → Int) (par t : Nat) (s : Int) (c : Nat) (y : Nat × (Nat → PN) × Nat) : (gw1 lv PL GO n P C par t s c y).2.2 = max y.2.2 (y.1 + 1) := by
  unfold gw1
  split <;> rfl
theorem BI.ch {σ : AH} {T M : Nat} {ad : Nat → Nat} {ve : Int} {n s : Nat} {PL GO : Nat → Int} {lv : Nat → BitVec 64} {x x' : TS} {τ τ' : AH} (h : BI σ T M ad ve n s PL GO lv x τ) (hsT : s + 3 < T) (e1 : τ'.1 = τ.1) (e2 : ∀ b, b ≠ T → ¬ inb (T + 5) 3 b → τ'.2 b = τ.2 b) (e3 : τ'.2 T = some (tro T ve (tN x') (tS x') (tL x') (tP x') (tC x'))) (f1 : tT x' = tT x) (f2 : tN x' = tN x) (f3 : tQ x' = tQ x) : BI σ T M ad ve n s PL GO lv x' τ' := by
  obtain ⟨ad', h1, h2, h3, h4, h5, ⟨SP, h6⟩, ⟨y0, ⟨ce, y1⟩, ⟨mv, y2⟩, bk, y3⟩, P1, C1, ⟨⟨c1, c2, c3, c4, w0⟩, w1, w2⟩, h9⟩ := h
  refine ⟨ad', ?_, h2, ?_, ⟨by rw [e1]; exact h4.1, fun b hb hf => (e2 b (fun q => hf (Or.inl (by unfold inb; omega))) (fun q => hf (Or.inl (by unfold inb at q ⊢; omega)))).trans (h4.2 b hb hf)⟩, e3, ⟨SP, (e2 _ (by omega) (fun q => by unfold inb at q; omega)).trans h6⟩, ⟨(e2 _ (by omega) (fun q => by unfold inb at q; omega)).trans y0, ⟨ce, (e2 _ (by omega) (fun q => by unfold inb at q; omega)).trans y1⟩, ⟨mv, (e2 _ (by omega) (fun q => by unfold inb at q; omega)).trans y2⟩, bk, (e2 _ (by omega) (fun q => by unfold inb at q; omega)).trans y3⟩, P1, C1, ⟨⟨c1, c2, c3, c4, (e2 _ (by omega) (fun q => by unfold inb at q; omega)).trans w0⟩, (e2 _ (by omega) (fun q => by unfold inb at q; omega)).trans w1, (e2 _ (by omega) (fun q => by unfold inb at q; omega)).trans w2⟩, h9⟩
  · rw [f1, f2, f3]
    exact h1.keep e1 (fun b hb => e2 b (by omega) (fun q => by unfold inb at q; omega)) (e2 _ (by omega) (fun q => by unfold inb at q; omega))
  · rw [f1]; exact h3

