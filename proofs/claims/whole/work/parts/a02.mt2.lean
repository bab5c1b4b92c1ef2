/-! the reference's tree: nodes as they lie; a way under what is forbidden -/
theorem cpy_0G {α : Type} (f g : Nat → α) (sp st : Nat) : va_cpy f g sp st 0 = g := by
  funext i
  unfold va_cpy
  rw [if_neg (by omega)]
section NR
variable {z : PS} {pn : Nat → PN} {nc : Nat} {I J : Nat → Int} {A A' : Nat → Nat → Int}
/-- what a row of ways says of a node: its sum, its clashes, its first clash -/
theorem nd_row (w : WFz z) (ha : allZ z = true) (hTI : TI (alPZ z) (alcZ z) (zCa z) nc pn) (hTG : TG z nc pn) {k : Nat} (hk : k < nc) {P : Nat → Int} (hP : ∀ i, i < 41 * zCa z → P i = ndP pn (alPZ z) k i) : sumN (fun c => (ctN (fun t => P (41 * c + t)) 40 : Int)) (zCa z) = pSu (pn k) ∧ fT P (zCa z) 41 = pCl (pn k) ∧ ∀ t s a b : Nat, fsB P (zCa z) t s a b → ∃ u, t = u + 1 ∧ u < 40 ∧ s < 2 ∧ a < b ∧ b < zCa z ∧ fcl (ndP pn (alPZ z) k) (zCa z) (mxN (ndC pn (alcZ z) k) (zCa z)).toNat = (u, (s : Int), a, b) ∧ (s = 1 → ndP pn (alPZ z) k (41 * a + (u + 1)) ≠ ndP pn (alPZ z) k (41 * a + u) ∧ ndP pn (alPZ z) k (41 * b + (u + 1)) ≠ ndP pn (alPZ z) k (41 * b + u)) := by
  obtain ⟨w1, w2, w3⟩ := hTI.2.2.2.2.2 k hk
  have hall := hTG.all w ha hTI.2.2.1 k hk
  have hW : okW z P (ndC pn (alcZ z) k) := (hTG.okW w ha hTI.2.2.1 hk).cg hP
  have hl := hW.last.1
  refine ⟨?_, ?_, fun t s a b hf => ?_⟩
  · rw [w2]
    refine sumN_cong fun c hc => ?_
    rw [ctN_cg (g := fun t => ndP pn (alPZ z) k (41 * c + t)) (fun t ht => hP _ (by omega)) 40 (Nat.le_refl _)]
    exact (hall c hc).2.2.2.2.1
  · rw [hW.cc w, w1]
    exact ccN_cong hP hl
  · have h2 := hf.1.2.1
    obtain ⟨u, e, hu, hC⟩ := hW.fs w hf
    have hC' := fsC_cong hP (by omega) hC
    obtain ⟨q1, q2, q3, -⟩ := hC'.2.1
    refine ⟨u, e, by omega, h2, q1, q2, fcl_eq hu hC', fun hs => ?_⟩
    subst hs
    unfold soc at q3
    split at q3
    · exact absurd q3 (by decide)
    · rename_i n1
      split at q3
      · rename_i n2
        exact ⟨fun q => n1 (q.trans n2.2.symm), fun q => n1 (n2.1.trans q.symm)⟩
      · exact absurd q3 (by decide)
/-- a node as it lies -/
def NR (z : PS) (A : Nat → Nat → Int) (pn : Nat → PN) (k : Nat) : Prop := A 18 k = (if k = 0 then -1 else (pPi (pn k) : Int)) ∧ A 19 k = pSu (pn k) ∧ A 20 k = pCl (pn k) ∧ A 21 k = pCa (pn k) ∧ A 26 k = bi (pSp (pn k)) ∧ (∀ i, i < 41 * zCa z → A 16 (205 * k + i) = ndP pn (alPZ z) k i) ∧ (0 < k → A 22 k = (if pFr (pn k) = -1 then 0 else 1) ∧ A 23 k = pFr (pn k) ∧ A 24 k = pTo (pn k) ∧ A 25 k = pTi (pn k))
def TF (z : PS) (nc : Nat) (pn : Nat → PN) : Prop := ∀ k, 0 < k → k < nc → okFb z (pFr (pn k)) (pTo (pn k)) (pTi (pn k))
/-- the tree as it lies -/
def TT (z : PS) (I : Nat → Int) (A : Nat → Nat → Int) (nc : Nat) (pn : Nat → PN) : Prop := I 34 = nc ∧ TI (alPZ z) (alcZ z) (zCa z) nc pn ∧ TG z nc pn ∧ TF z nc pn ∧ ∀ k, k < nc → NR z A pn k
theorem TT.cg (h : TT z I A nc pn) (w : WFz z) (hJ : J 34 = I 34) (h16 : ∀ i, i < 205 * nc → A' 16 i = A 16 i) (hA : ∀ k, k < nc → A' 18 k = A 18 k ∧ A' 19 k = A 19 k ∧ A' 20 k = A 20 k ∧ A' 21 k = A 21 k ∧ A' 26 k = A 26 k ∧ A' 22 k = A 22 k ∧ A' 23 k = A 23 k ∧ A' 24 k = A 24 k ∧ A' 25 k = A 25 k) : TT z J A' nc pn := by
  have n5 := w.1.1.2.2
  obtain ⟨h1, h2, h3, h4, h5⟩ := h
  refine ⟨hJ.trans h1, h2, h3, h4, fun k hk => ?_⟩
  obtain ⟨a1, a2, a3, a4, a5, a6, a7, a8, a9⟩ := hA k hk
  obtain ⟨b1, b2, b3, b4, b5, b6, b7⟩ := h5 k hk
  refine ⟨a1.trans b1, a2.trans b2, a3.trans b3, a4.trans b4, a5.trans b5, fun i hi => (h16 _ (by omega)).trans (b6 i hi), fun k0 => ?_⟩
  obtain ⟨c1, c2, c3, c4⟩ := b7 k0
  exact ⟨a6.trans c1, a7.trans c2, a8.trans c3, a9.trans c4⟩
theorem TT.ro (h : TT z I A nc pn) : TRo A nc pn := fun k hk => ⟨(h.2.2.2.2 k hk).2.1, (h.2.2.2.2 k hk).2.2.1, (h.2.2.2.2 k hk).2.2.2.2.1⟩
/-- a node is split -/
theorem TT.split (h : TT z I A nc pn) (w : WFz z) (k : Nat) (hk : k < nc) {J : Nat → Int} (hJ : J 34 = I 34) : TT z J (va_up A 26 (va_up (A 26) k 1)) nc (va_up pn k (spN (pn k))) := by
  obtain ⟨h1, h2, h3, h4, h5⟩ := h
  obtain ⟨s1, s2⟩ := TI_split h2 k
  have fld : ∀ j, pPi (va_up pn k (spN (pn k)) j) = pPi (pn j) ∧ pCa (va_up pn k (spN (pn k)) j) = pCa (pn j) ∧ pTi (va_up pn k (spN (pn k)) j) = pTi (pn j) ∧ pFr (va_up pn k (spN (pn k)) j) = pFr (pn j) ∧ pTo (va_up pn k (spN (pn k)) j) = pTo (pn j) ∧ pSu (va_up pn k (spN (pn k)) j) = pSu (pn j) ∧ pCl (va_up pn k (spN (pn k)) j) = pCl (pn j) := fun j => by
    by_cases e : j = k
    · subst e
      rw [va_eq]
      exact ⟨rfl, rfl, rfl, rfl, rfl, rfl, rfl⟩
    · rw [va_ne e]
      exact ⟨rfl, rfl, rfl, rfl, rfl, rfl, rfl⟩
  refine ⟨hJ.trans h1, s1, h3.split k, fun j j0 hj => ?_, fun j hj => ?_⟩
  · obtain ⟨f1, f2, f3, f4, f5, f6, f7⟩ := fld j
    rw [f3, f4, f5]
    exact h4 j j0 hj
  · obtain ⟨f1, f2, f3, f4, f5, f6, f7⟩ := fld j
    obtain ⟨b1, b2, b3, b4, b5, b6, b7⟩ := h5 j hj
    unfold NR
    rw [f1, f2, f3, f4, f5, f6, f7, (s2 j hj).2]
    refine ⟨b1, b2, b3, b4, ?_, b6, b7⟩
    show va_up (A 26) k 1 j = _
    by_cases e : j = k
    · subst e
      rw [va_eq, va_eq]
      rfl
    · rw [va_ne e, va_ne e]
      exact b5
end NR
section LWF
variable {Γ : GT} {σ : AH} {m : Nat} {I : Nat → Int} {A : Nat → Nat → Int} {N : Nat → Nat → BitVec 64} {z : PS} {X : (Nat → BitVec 64) × (Nat → BitVec 64)}
def lwP (z : PS) (X : (Nat → BitVec 64) × (Nat → BitVec 64)) (c : Nat) : Int := lcs (lvZ z) X.2 X.1 (zPL z c).toNat (zGO z c).toNat
def lwT (z : PS) (X : (Nat → BitVec 64) × (Nat → BitVec 64)) (c : Nat) : Nat → Int := wyt (lvZ z) X.2 X.1 (zPL z c).toNat (zGO z c).toNat
theorem sp_laysWayF (hΓ : Gd Γ) (h : MC σ m I A N) (hz : MZ I A z) (w : WFz z) (hF : FBr z (A 11) (A 12) X) {c : Nat} (hc : c < zCa z) : Sp Γ miX10_laysWay 0 0 [.ref m, .int (ii c)] σ (fun r σ' => r = some (.int (ii (lwP z X c))) ∧ eqOff σ σ' (inb (m + 13) 3) ∧ ∃ A', MC σ' m I A' N ∧ (∀ k, k < 13 ∨ 16 ≤ k → A' k = A k) ∧ (lwP z X c ≠ -1 → ∀ t, t < 41 → A' 15 t = lwT z X c t)) noX := by
  obtain ⟨c5, e8, e9, g1, g2, g3, -⟩ := hz.pg w hc
  have hL : LWh σ m I (zCo z) (zRo z) (A 6) (zSO z) (A 11) (A 12) X.2 X.1 (A 8) (A 9) := ⟨hz.g h w, h.a8, h.a9, h.a11, h.a12, hF.1, hF.2.1, ⟨w.1.1.1, w.1.1.2.1⟩, w.1.2.1, hz.2.2.1, hF.2.2.1, hF.2.2.2⟩
  refine Sp_cons (sp_laysWay hΓ hL c5 e8 e9 g3 g1 g2 ⟨_, h.a13⟩ ⟨_, h.a14⟩ ⟨_, h.a15⟩) ?_ (fun _ _ q => q)
  rintro r σ' ⟨q1, q2, ⟨cm, q3⟩, ⟨en, q4⟩, wy, q5, q6⟩
  refine ⟨q1, q2, va_up (va_up (va_up A 13 cm) 14 en) 15 wy, h.frame q2 (by omega) (fun k hk => ?_) (fun k h1 h2 _ => ?_), fun k hk => ?_, fun h9 => q6 h9⟩
  · rw [va_ne (by omega), va_ne (by omega), va_ne (by omega)]
  · have : k = 13 ∨ k = 14 ∨ k = 15 := by omega
    rcases this with e | e | e <;> subst e
    · exact q3
    · exact q4
    · exact q5
  · rw [va_ne (by omega), va_ne (by omega), va_ne (by omega)]
end LWF

