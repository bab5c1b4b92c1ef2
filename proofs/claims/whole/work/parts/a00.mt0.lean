/-! the reference's tree: ways that carts may go, pure -/
section TG
variable {z : PS} {W W' : Nat → Int} {C : Int} {c : Nat}
/-- any bits have rows -/
theorem WHx (w : WFz z) (mv ce : Nat → BitVec 64) : ∃ bc bm, WH (zSO z) (zSO z) (zCo z) (zRo z) bc bm mv ce := by
  refine ⟨fun i => bi ((ce (i / 36)).getLsbD (i % 36)), fun i => if i % 5 = 4 then 0 else bi ((mv (41 * (i % 5) + i / 5 / 36)).getLsbD (i / 5 % 36)), ⟨w.1.1.1, w.1.1.2.1⟩, w.1.2.1, fun _ _ => rfl, fun t c ht hc => ?_, fun t c k ht hc hk _ => ?_, fun t c ht hc => ?_⟩
  · show bi ((ce ((36 * t + c) / 36)).getLsbD ((36 * t + c) % 36)) = _
    rw [show (36 * t + c) / 36 = t by omega, show (36 * t + c) % 36 = c by omega]
  · show (if (5 * (36 * t + c) + k) % 5 = 4 then 0 else bi ((mv (41 * ((5 * (36 * t + c) + k) % 5) + (5 * (36 * t + c) + k) / 5 / 36)).getLsbD ((5 * (36 * t + c) + k) / 5 % 36))) = _
    rw [show (5 * (36 * t + c) + k) % 5 = k by omega, show (5 * (36 * t + c) + k) / 5 = 36 * t + c by omega, show (36 * t + c) / 36 = t by omega, show (36 * t + c) % 36 = c by omega, if_neg (by omega)]
  · show (if (5 * (36 * t + c) + 4) % 5 = 4 then (0 : Int) else _) = 0
    rw [if_pos (by omega)]
/-- a step that the grid lets: it stays, or goes by a move -/
def lgS (z : PS) (a b : Int) : Prop := b = a ∨ ∃ k, k < 4 ∧ (lvZ z k).getLsbD a.toNat = true ∧ b = a + t_ahd k
theorem lgS_lst (w : WFz z) {mv B : Nat → BitVec 64} (fr t : Nat) : lgS z (fr : Int) (lst (lvZ z) mv B fr t : Int) := by
  unfold lst
  rcases fstN_cases (lsm (lvZ z) mv B fr t) 4 with ⟨e, -⟩ | ⟨k, hk, e, hp, -⟩
  · rw [if_pos e]
    exact Or.inl rfl
  · rw [if_neg (by omega), e]
    unfold lsm at hp
    rw [Bool.and_eq_true] at hp
    have h1 := hp.1
    rw [BitVec.getLsbD_and, Bool.and_eq_true] at h1
    have h36 : fr < 36 := lvF_36 w.1.1.1 w.1.1.2.1 h1.1
    have h2 := okL_z w.1 k fr hk h36 h1.1
    refine Or.inr ⟨k, hk, by rw [Int.toNat_natCast]; exact h1.1, ?_⟩
    rw [Int.toNat_natCast]
    omega
/-- a way that a cart may go, and what it costs -/
def goW (z : PS) (c : Nat) (W : Nat → Int) (C : Int) : Prop := W 0 = zPL z c ∧ 0 ≤ C ∧ C ≤ 40 ∧ (∀ t : Nat, C ≤ t → t < 41 → W t = zGO z c) ∧ (ctN W 40 : Int) = C ∧ ∀ t, t < 40 → lgS z (W t) (W (t + 1))
theorem goW.cg (h : goW z c W C) (e : ∀ t, t < 41 → W' t = W t) : goW z c W' C := by
  obtain ⟨h1, h2, h3, h4, h5, h6⟩ := h
  refine ⟨by rw [e 0 (by omega)]; exact h1, h2, h3, fun t q1 q2 => by rw [e t q2]; exact h4 t q1 q2, ?_, fun t ht => by rw [e t (by omega), e (t + 1) (by omega)]; exact h6 t ht⟩
  rw [ctN_cg (fun t ht => e t (by omega)) 40 (Nat.le_refl _)]
  exact h5
theorem goW_wyt (w : WFz z) (hc : c < zCa z) (mv ce : Nat → BitVec 64) (hl : lcs (lvZ z) mv ce (zPL z c).toNat (zGO z c).toNat ≠ -1) : goW z c (wyt (lvZ z) mv ce (zPL z c).toNat (zGO z c).toNat) (lcs (lvZ z) mv ce (zPL z c).toNat (zGO z c).toNat) := by
  obtain ⟨q1, q2, q3, q4⟩ := w.2.1 c hc
  have r6 := w.1.1.2.1
  have hr := lcs_rg (lvZ z) mv ce (zPL z c).toNat (zGO z c).toNat
  obtain ⟨le, hle⟩ : ∃ le : Nat, lcs (lvZ z) mv ce (zPL z c).toNat (zGO z c).toNat = le := ⟨(lcs (lvZ z) mv ce (zPL z c).toNat (zGO z c).toNat).toNat, by omega⟩
  obtain ⟨bc, bm, hw⟩ := WHx w mv ce
  obtain ⟨e1, e2, e3, e4⟩ := wyt_ct hw (gIn_z q1) q2 (gIn_36 r6 (gIn_z q3)) (show lcs (lvF (zSO z) (zCo z) (zRo z)) mv ce (zPL z c).toNat (zGO z c).toNat = le from hle)
  have p1 := q1.1
  have p3 := q3.1
  have e3' : ∀ t, le ≤ t → wyt (lvZ z) mv ce (zPL z c).toNat (zGO z c).toNat t = ((zGO z c).toNat : Int) := e3
  have e4' : wyt (lvZ z) mv ce (zPL z c).toNat (zGO z c).toNat 0 = ((zPL z c).toNat : Int) := e4
  rw [hle]
  refine ⟨by rw [e4']; omega, by omega, by omega, fun t h1 h2 => by rw [e3' t (by omega)]; omega, congrArg Nat.cast e1, fun t ht => ?_⟩
  by_cases h : t < le
  · have f : ∀ u, u ≤ le → wyt (lvZ z) mv ce (zPL z c).toNat (zGO z c).toNat u = (pth (lvZ z) mv (fun u => bkD (lvZ z) mv ce (zGO z c).toNat le (le - u)) (zPL z c).toNat u : Int) := fun u hu => by
      unfold wyt
      rw [hle, Int.toNat_natCast, if_pos hu]
    rw [f t (by omega), f (t + 1) (by omega)]
    exact lgS_lst w _ _
  · rw [e3' t (by omega), e3' (t + 1) (by omega)]
    exact Or.inl rfl
/-- it stays in the grid -/
theorem goW.gin (w : WFz z) (hc : c < zCa z) (h : goW z c W C) : ∀ t, t < 41 → (0 ≤ W t ∧ W t < 36) ∧ gIn (zCo z) (zRo z) (W t).toNat ∧ zSO z (W t).toNat ≠ 1 := by
  obtain ⟨q1, q2, q3, q4⟩ := w.2.1 c hc
  have r6 := w.1.1.2.1
  intro t
  induction t with
  | zero =>
    intro _
    rw [h.1]
    have := gIn_36 r6 (gIn_z q1)
    have p1 := q1.1
    exact ⟨⟨p1, by omega⟩, gIn_z q1, q2⟩
  | succ t ih =>
    intro ht
    obtain ⟨⟨a1, a2⟩, a3, a4⟩ := ih (by omega)
    rcases h.2.2.2.2.2 t (by omega) with e | ⟨k, hk, hl, e⟩
    · rw [e]
      exact ⟨⟨a1, a2⟩, a3, a4⟩
    · obtain ⟨b1, b2, b3⟩ := (nxt_lv w.1.1.1 r6 w.1.2.1 (fun _ _ => rfl) a3 a4 hk).2 hl
      have b4 := gIn_36 r6 b2
      rw [e]
      rw [show ((W t).toNat : Int) + t_ahd k = W t + t_ahd k by omega] at b1 b2 b3 b4
      exact ⟨⟨b1, by omega⟩, b2, b3⟩
end TG
section TH
variable {z : PS} {pn : Nat → PN} {nc : Nat}
theorem nd_s {n : Nat} {P1 C1 : Nat → Int} (hT : okT pn nc n) {k c t : Nat} (h0 : 0 < k) (hk : k < nc) (ht : t < 41) : ndP pn P1 k (41 * c + t) = (if pCa (pn k) = c then pRw (pn k) t else ndP pn P1 (pPi (pn k)) (41 * c + t)) ∧ ndC pn C1 k c = if pCa (pn k) = c then pCo (pn k) else ndC pn C1 (pPi (pn k)) c := by
  have hp : ∀ k, 0 < k → k < nc → pPi (pn k) < k := fun k a b => (hT k a b).1
  constructor
  · unfold ndP
    rw [fw_s hp h0 hk, show (41 * c + t) % 41 = t by omega, show (41 * c + t) / 41 = c by omega]
  · unfold ndC
    rw [fw_s hp h0 hk]
/-- the ways of all nodes but the first -/
def TG (z : PS) (nc : Nat) (pn : Nat → PN) : Prop := ∀ k, 0 < k → k < nc → goW z (pCa (pn k)).toNat (pRw (pn k)) (pCo (pn k))
theorem TG.all (w : WFz z) (ha : allZ z = true) (hT : okT pn nc (zCa z)) (h : TG z nc pn) : ∀ k, k < nc → ∀ c, c < zCa z → goW z c (fun t => ndP pn (alPZ z) k (41 * c + t)) (ndC pn (alcZ z) k c) := by
  intro k
  induction k using Nat.strongRecOn with
  | ind k ih =>
    intro hk c hc
    by_cases h0 : k = 0
    · subst h0
      refine goW.cg (goW_wyt w hc (fun _ => 0) (fun _ => 0) (of_decide_eq_true ha c hc)) (fun t ht => ?_)
      show alw (lvZ z) (zPL z) (zGO z) ((41 * c + t) / 41) ((41 * c + t) % 41) = _
      rw [show (41 * c + t) / 41 = c by omega, show (41 * c + t) % 41 = t by omega]
      rfl
    · have hp := (hT k (by omega) hk).1
      rw [(nd_s (P1 := alPZ z) (C1 := alcZ z) hT (c := c) (t := 0) (by omega) hk (by omega)).2]
      by_cases e : pCa (pn k) = c
      · rw [if_pos e]
        have := h k (by omega) hk
        rw [e, Int.toNat_natCast] at this
        exact this.cg (fun t ht => by rw [(nd_s (P1 := alPZ z) (C1 := alcZ z) hT (c := c) (t := t) (by omega) hk ht).1, if_pos e])
      · rw [if_neg e]
        exact (ih _ hp (by omega) c hc).cg (fun t ht => by rw [(nd_s (P1 := alPZ z) (C1 := alcZ z) hT (c := c) (t := t) (by omega) hk ht).1, if_neg e])
theorem TG.okW (w : WFz z) (ha : allZ z = true) (hT : okT pn nc (zCa z)) (h : TG z nc pn) {k : Nat} (hk : k < nc) : okW z (ndP pn (alPZ z) k) (ndC pn (alcZ z) k) := fun c hc => by
  obtain ⟨q1, q2, q3, q4, -⟩ := h.all w ha hT k hk c hc
  exact ⟨q1, q2, q3, q4⟩
/-- one more node -/
theorem TG.grow (w : WFz z) (hT : okT pn nc (zCa z)) (h : TG z nc pn) {par c t : Nat} {s : Int} {P C : Nat → Int} {q : PN} (hc : c < zCa z) (hg : grN (lvZ z) (zPL z) (zGO z) (zCa z) pn nc par c t s P C = some q) : TG z (nc + 1) (va_up pn nc q) := fun k k0 hk => by
  by_cases e : k = nc
  · subst e
    rw [va_eq]
    unfold grN at hg
    simp only at hg
    split at hg
    · cases hg
    · rename_i hl
      cases hg
      exact goW_wyt w hc _ _ hl
  · rw [va_ne e]
    exact h k k0 (by omega)
theorem TG.split (h : TG z nc pn) (j : Nat) : TG z nc (va_up pn j (spN (pn j))) := fun k k0 hk => by
  by_cases e : k = j
  · subst e
    rw [va_eq]
    exact h k k0 hk
  · rw [va_ne e]
    exact h k k0 hk
end TH

