/-! what holds of a tree that is built -/
theorem fcl_ex {P : Nat → Int} {n last : Nat} (h : ccN P n last ≠ 0) : ∃ (t : Nat) (s : Int) (a b : Nat), t < last ∧ fsC P n t s a b := by
  have h1 : ∃ t, t < last ∧ ¬ (noS P n t 0 ∧ noS P n t 1) := Classical.byContradiction fun q => h (ccN_none fun t ht => Classical.byContradiction fun w => q ⟨t, ht, w⟩)
  obtain ⟨t, ⟨ht, hno⟩, hm⟩ := pk_least _ h1
  have hm' : ∀ t', t' < t → noS P n t' 0 ∧ noS P n t' 1 := fun t' ht' => Classical.byContradiction fun w => hm t' ht' ⟨by omega, w⟩
  have pair : ∀ s, ¬ noS P n t s → ∃ a b, fsS P n t s a b := by
    intro s hs
    have g1 : ∃ a, ∃ b, a < b ∧ b < n ∧ soc P a b t = s := Classical.byContradiction fun q => hs fun a b hab hb e => q ⟨a, b, hab, hb, e⟩
    obtain ⟨a, g2, ga⟩ := pk_least _ g1
    obtain ⟨b, ⟨g3, g4, g5⟩, gb⟩ := pk_least _ g2
    refine ⟨a, b, g3, g4, g5, fun a' b' h1 h2 h3 h4 => ?_⟩
    rcases h3 with h3 | ⟨h3, h5⟩
    · exact ga a' h3 ⟨b', h1, h2, h4⟩
    · subst h3
      exact gb b' h5 ⟨h1, h2, h4⟩
  by_cases h0 : noS P n t 0
  · obtain ⟨a, b, hf⟩ := pair 1 (fun q => hno ⟨h0, q⟩)
    exact ⟨t, 1, a, b, ht, Or.inr ⟨rfl, h0⟩, hf, hm'⟩
  · obtain ⟨a, b, hf⟩ := pair 0 h0
    exact ⟨t, 0, a, b, ht, Or.inl rfl, hf, hm'⟩
section BLI
variable {lv : Nat → BitVec 64} {PL GO P1 C1 : Nat → Int} {n : Nat}
theorem bsK_TI (hL : okL lv) (hPL : okQ n PL) (hGO : okQ n GO) (o1 : okP P1) {nc k tc : Nat} {pn : Nat → PN} (h : TI P1 C1 n nc pn) (hr : rtF (pn 0)) (hk : k < nc) (hnc : nc < 300) (hcl : pCl (pn k) ≠ 0) : TI P1 C1 n (bsK lv PL GO P1 C1 n k (nc, pn, tc)).1 (bsK lv PL GO P1 C1 n k (nc, pn, tc)).2.1 ∧ rtF ((bsK lv PL GO P1 C1 n k (nc, pn, tc)).2.1 0) ∧ nc ≤ (bsK lv PL GO P1 C1 n k (nc, pn, tc)).1 ∧ (bsK lv PL GO P1 C1 n k (nc, pn, tc)).1 ≤ nc + 2 ∧ ∀ j, j < nc → (bsK lv PL GO P1 C1 n k (nc, pn, tc)).2.1 j = va_up pn k (spN (pn k)) j := by
  obtain ⟨w1, w2, w3⟩ := h.2.2.2.2.2 k hk
  obtain ⟨s1, s2⟩ := TI_split h k
  have hr1 : rtF (va_up pn k (spN (pn k)) 0) := by
    unfold va_up
    split
    · rename_i e; rw [← e]; exact hr
    · exact hr
  have hmr := mxN_rg (C := ndC pn C1 k) (b := 40) (by decide) (n := n) (fun j hj => (w3 j hj).2)
  rw [w1] at hcl
  obtain ⟨t, s, a, b, ht, hf⟩ := fcl_ex hcl
  have ef := fcl_eq ht hf
  have hab := hf.2.1.1
  have hbn := hf.2.1.2.1
  have eK : bsK lv PL GO P1 C1 n k (nc, pn, tc) = gw1 lv PL GO n (ndP pn P1 k) (ndC pn C1 k) k t s b (gw1 lv PL GO n (ndP pn P1 k) (ndC pn C1 k) k t s a (nc, va_up pn k (spN (pn k)), tc)) := by
    unfold bsK
    simp only [ef]
  rw [eK]
  have g1 := gw1_TI (lv := lv) (PL := PL) (GO := GO) (s := s) (P := ndP pn P1 k) (C := ndC pn C1 k) (c := a) (t := t) (par := k) tc s1 hr1 (by omega) hk (by omega) (by omega) hL hPL hGO o1 (s2 k hk).2.symm (s2 k hk).1.symm
  obtain ⟨y, hy⟩ : ∃ y, y = gw1 lv PL GO n (ndP pn P1 k) (ndC pn C1 k) k t s a (nc, va_up pn k (spN (pn k)), tc) := ⟨_, rfl⟩
  rw [← hy] at g1 ⊢
  obtain ⟨g1, g2, g3, g4, g5⟩ := g1
  obtain ⟨y1, y2, y3⟩ := y
  have g5 : ∀ j, j < nc → y2 j = va_up pn k (spN (pn k)) j := g5
  have od := nd_old (pn2 := y2) s1.2.2.1 (fun j hj => by rw [g5 j hj]; exact ⟨rfl, rfl, rfl, rfl⟩) P1 C1 k hk
  have g6 := gw1_TI (lv := lv) (PL := PL) (GO := GO) (s := s) (P := ndP pn P1 k) (C := ndC pn C1 k) (c := b) (t := t) (par := k) y3 g1 g2 (by show y1 < 301; have : y1 ≤ nc + 1 := g4; omega) (by show k < y1; have : nc ≤ y1 := g3; omega) hbn (by omega) hL hPL hGO o1 (by rw [od.2]; exact (s2 k hk).2.symm) (by rw [od.1]; exact (s2 k hk).1.symm)
  obtain ⟨g6, g7, g8, g9, g10⟩ := g6
  refine ⟨g6, g7, Nat.le_trans g3 g8, Nat.le_trans g9 (Nat.succ_le_succ g4), fun j hj => ?_⟩
  rw [g10 j (Nat.lt_of_lt_of_le hj g3)]
  exact g5 j hj
/-- a tree whose plan is not found yet -/
def GS (P1 C1 : Nat → Int) (n : Nat) (x : TS) : Prop := TI P1 C1 n (tN x) (tQ x) ∧ rtF (tQ x 0) ∧ (-1 ≤ tL x ∧ tL x ≤ 1000) ∧ tP x = -1
def GE (P1 C1 : Nat → Int) (n : Nat) (x : TS) : Prop := TI P1 C1 n (tN x) (tQ x) ∧ rtF (tQ x 0) ∧ (-1 ≤ tL x ∧ tL x ≤ 1000) ∧ (tP x = -1 ∨ ∃ k : Nat, k < tN x ∧ tP x = k ∧ pCl (tQ x k) = 0) ∧ tS x ≤ 302
theorem bl_inv (hL : okL lv) (hPL : okQ n PL) (hGO : okQ n GO) (o1 : okP P1) (hn : n ≤ 5) {bd : Int} : ∀ (f : Nat) (x : TS), GS P1 C1 n x → tS x + f ≤ 302 → GE P1 C1 n (bl lv PL GO P1 C1 n bd f x)
  | 0, x, h, hs => ⟨h.1, h.2.1, h.2.2.1, Or.inl h.2.2.2, by show tS x ≤ 302; omega⟩
  | f + 1, x, h, hs => by
    obtain ⟨h1, h2, h3, h4⟩ := h
    have hlw := lwN_rg (h1.okN hn)
    unfold bl
    by_cases e1 : lwN (tQ x) (tN x) = -1
    · have eb : bst lv PL GO P1 C1 n bd x = (false, x) := by unfold bst; rw [if_pos e1]
      rw [eb, if_neg Bool.false_ne_true]
      exact ⟨h1, h2, h3, Or.inl h4, by show tS x ≤ 302; omega⟩
    · cases hc : chN (tQ x) bd (lwN (tQ x) (tN x)) (tN x) with
      | none =>
        have eb : bst lv PL GO P1 C1 n bd x = (false, (tN x, tS x, lwN (tQ x) (tN x), tP x, tC x, tQ x, tT x)) := by unfold bst; rw [if_neg e1, hc]
        rw [eb, if_neg Bool.false_ne_true]
        exact ⟨h1, h2, hlw, Or.inl h4, by show tS x ≤ 302; omega⟩
      | some k =>
        have hk := chN_lt hc
        by_cases e2 : pCl (tQ x k) = 0
        · have eb : bst lv PL GO P1 C1 n bd x = (false, (tN x, tS x, lwN (tQ x) (tN x), (k : Int), tC x, tQ x, tT x)) := by unfold bst; rw [if_neg e1, hc]; simp only [e2, if_true]
          rw [eb, if_neg Bool.false_ne_true]
          exact ⟨h1, h2, hlw, Or.inr ⟨k, hk, rfl, e2⟩, by show tS x ≤ 302; omega⟩
        · by_cases e3 : 300 ≤ tN x
          · have eb : bst lv PL GO P1 C1 n bd x = (false, (tN x, tS x, lwN (tQ x) (tN x), tP x, true, tQ x, tT x)) := by unfold bst; rw [if_neg e1, hc]; simp only [e2, e3, if_true, if_false]
            rw [eb, if_neg Bool.false_ne_true]
            exact ⟨h1, h2, hlw, Or.inl h4, by show tS x ≤ 302; omega⟩
          · have eb : bst lv PL GO P1 C1 n bd x = (true, ((bsK lv PL GO P1 C1 n k (tN x, tQ x, tT x)).1, tS x + 1, lwN (tQ x) (tN x), tP x, tC x, (bsK lv PL GO P1 C1 n k (tN x, tQ x, tT x)).2.1, (bsK lv PL GO P1 C1 n k (tN x, tQ x, tT x)).2.2)) := by unfold bst; rw [if_neg e1, hc]; simp only [e2, e3, if_false]
            rw [eb, if_pos rfl]
            have g := bsK_TI (tc := tT x) hL hPL hGO o1 h1 h2 hk (by omega) e2
            exact bl_inv hL hPL hGO o1 hn f _ ⟨g.1, g.2.1, hlw, h4⟩ (by show tS x + 1 + f ≤ 302; omega)
end BLI
theorem okP_alP {lv : Nat → BitVec 64} {PL GO : Nat → Int} {n : Nat} (hL : okL lv) (hPL : okQ n PL) (hGO : okQ n GO) : okP (alP lv PL GO) := fun i => wyt_rg hL (by have := (hPL (i / 41)).1; omega) (by have := (hGO (i / 41)).1; omega) (i % 41)
theorem GS_root {lv : Nat → BitVec 64} {PL GO : Nat → Int} {n : Nat} (h : ∀ k, k < n → alc lv PL GO k ≠ -1) : GS (alP lv PL GO) (alc lv PL GO) n (1, 0, -1, -1, false, fun _ => rot (alP lv PL GO) (alc lv PL GO) n, 1) := by
  refine ⟨TI_root (fun c hc => ?_), ⟨rfl, rfl, rfl, rfl, rfl, rfl, rfl⟩, ⟨by show (-1 : Int) ≤ -1; decide, by show (-1 : Int) ≤ 1000; decide⟩, rfl⟩
  have h1 := lcs_rg lv (fun _ => 0) (fun _ => 0) (PL c).toNat (GO c).toNat
  have h2 := h c hc
  unfold alc at h2 ⊢
  omega
theorem bld_inv {lv : Nat → BitVec 64} {PL GO : Nat → Int} {n : Nat} {bd : Int} (hL : okL lv) (hPL : okQ n PL) (hGO : okQ n GO) (hn : n ≤ 5) : (bld lv PL GO n bd = ts0 ∧ ¬ ∀ k, k < n → alc lv PL GO k ≠ -1) ∨ ((∀ k, k < n → alc lv PL GO k ≠ -1) ∧ GE (alP lv PL GO) (alc lv PL GO) n (bld lv PL GO n bd)) := by
  by_cases h : ∀ k, k < n → alc lv PL GO k ≠ -1
  · refine Or.inr ⟨h, ?_⟩
    unfold bld
    rw [if_pos (decide_eq_true h)]
    exact bl_inv hL hPL hGO (okP_alP hL hPL hGO) hn 302 _ (GS_root h) (by show 0 + 302 ≤ 302; omega)
  · refine Or.inl ⟨?_, h⟩
    unfold bld
    rw [if_neg (fun q => h (of_decide_eq_true q))]
theorem bld_rg {lv : Nat → BitVec 64} {PL GO : Nat → Int} {n : Nat} {bd : Int} (hL : okL lv) (hPL : okQ n PL) (hGO : okQ n GO) (hn : n ≤ 5) : (tP (bld lv PL GO n bd) = -1 ∨ ∃ k : Nat, k < tN (bld lv PL GO n bd) ∧ tP (bld lv PL GO n bd) = k) ∧ tN (bld lv PL GO n bd) ≤ 301 ∧ (-1 ≤ tL (bld lv PL GO n bd) ∧ tL (bld lv PL GO n bd) ≤ 1000) ∧ tS (bld lv PL GO n bd) ≤ 302 := by
  rcases bld_inv (bd := bd) hL hPL hGO hn with ⟨h, -⟩ | ⟨-, h1, h2, h3, h4, h5⟩
  · rw [h]
    exact ⟨Or.inl rfl, Nat.zero_le _, ⟨by show (-1 : Int) ≤ -1; decide, by show (-1 : Int) ≤ 1000; decide⟩, Nat.zero_le _⟩
  · exact ⟨h4.imp id (fun ⟨k, a, b, _⟩ => ⟨k, a, b⟩), h1.2.1, h3, h5⟩

