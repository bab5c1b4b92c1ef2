/-! stops: the class's times are the least ones that keep all that must be kept -/
section SQ
variable {P : Nat → Int} {n sd ti nn t c : Nat}
def cmS (P : Nat → Int) (n sd ti nn t : Nat) : Nat → Int := (so6 P n sd ti nn t).2.1
def lfS (P : Nat → Int) (n sd ti nn t : Nat) : Nat → Int := (so6 P n sd ti nn t).2.2
def wtS (P : Nat → Int) (n sd ti nn t : Nat) : Bool := (so6 P n sd ti nn t).1
def stS (P : Nat → Int) (n sd ti nn t : Nat) : Bool := wtS P n sd ti nn t && (decide (ti < t + 1) && cmz P sd t)
def c2S (P : Nat → Int) (n sd ti nn t : Nat) : Nat → Int := if stS P n sd ti nn t = true then va_up (so1 P t (cmS P n sd ti nn t) n) sd (mx2 (so1 P t (cmS P n sd ti nn t) n sd) ((ti + nn + 1 : Nat) : Int)) else so1 P t (cmS P n sd ti nn t) n
theorem cmS_s : cmS P n sd ti nn (t + 1) = so4 P n t (lfS P n sd ti nn t) (c2S P n sd ti nn t) n := rfl
theorem lfS_s : lfS P n sd ti nn (t + 1) = so5 P t (lfS P n sd ti nn t) (cmS P n sd ti nn (t + 1)) n := rfl
theorem wtS_s : wtS P n sd ti nn (t + 1) = (wtS P n sd ti nn t && !stS P n sd ti nn t) := rfl
theorem c2S_ge : so1 P t (cmS P n sd ti nn t) n c ≤ c2S P n sd ti nn t c := by
  unfold c2S
  split
  · by_cases e : c = sd
    · rw [e, va_eq]
      exact le_mx2.mpr (Or.inl (Int.le_refl _))
    · rw [va_ne e]
      exact Int.le_refl _
  · exact Int.le_refl _
theorem cmS_nz (hz : cmz P c t = false) : cmS P n sd ti nn (t + 1) c = cmS P n sd ti nn t c := by
  rw [cmS_s, so4_nz hz]
  have e1 : so1 P t (cmS P n sd ti nn t) n c = cmS P n sd ti nn t c := by
    unfold so1
    rw [if_neg (fun q => by rw [hz] at q; exact absurd q.2 (by decide))]
  unfold c2S
  split
  · rename_i hs
    have : c ≠ sd := fun q => by
      rw [q] at hz
      unfold stS at hs
      rw [hz, Bool.and_false, Bool.and_false] at hs
      cases hs
    rw [va_ne this]
    exact e1
  · exact e1
theorem cmS_z (hc : c < n) (hz : cmz P c t = true) : ((t + 1 : Nat) : Int) ≤ cmS P n sd ti nn (t + 1) c ∧ cmS P n sd ti nn t c + 1 ≤ cmS P n sd ti nn (t + 1) c := by
  have h1 : so1 P t (cmS P n sd ti nn t) n c = mx2 ((t + 1 : Nat) : Int) (cmS P n sd ti nn t c + 1) := by
    unfold so1
    rw [if_pos ⟨hc, hz⟩]
  have h2 : mx2 ((t + 1 : Nat) : Int) (cmS P n sd ti nn t c + 1) ≤ cmS P n sd ti nn (t + 1) c := by
    rw [← h1, cmS_s]
    exact Int.le_trans c2S_ge (so4_mono n)
  exact mx2_le.mp h2
theorem cmS_un (hc : c < n) (hz : cmz P c t = true) : untN P n t (lfS P n sd ti nn t) (cmS P n sd ti nn (t + 1)) c ≤ cmS P n sd ti nn (t + 1) c := so4_fp hc hz
theorem cmS_st (hs : stS P n sd ti nn t = true) : ((ti + nn + 1 : Nat) : Int) ≤ cmS P n sd ti nn (t + 1) sd := by
  refine Int.le_trans ?_ (so4_mono (P := P) (n := n) (t := t) (lf := lfS P n sd ti nn t) (cm := c2S P n sd ti nn t) (c := sd) n)
  unfold c2S
  rw [if_pos hs, va_eq]
  exact le_mx2.mpr (Or.inr (Int.le_refl _))
theorem cmS_ub {b : Nat → Int} (h1 : ∀ c, c < n → cmz P c t = true → ((t + 1 : Nat) : Int) ≤ b c ∧ cmS P n sd ti nn t c + 1 ≤ b c) (h2 : ∀ c, c < n → cmz P c t = false → cmS P n sd ti nn t c ≤ b c) (h3 : stS P n sd ti nn t = true → ((ti + nn + 1 : Nat) : Int) ≤ b sd) (h4 : ∀ k, k < n → cmz P k t = true → untN P n t (lfS P n sd ti nn t) b k ≤ b k) : ∀ c, c < n → cmS P n sd ti nn (t + 1) c ≤ b c := by
  have e1 : ∀ c, c < n → so1 P t (cmS P n sd ti nn t) n c ≤ b c := by
    intro c hc
    unfold so1
    cases hz : cmz P c t with
    | true =>
      rw [if_pos ⟨hc, rfl⟩]
      exact mx2_le.mpr (h1 c hc hz)
    | false =>
      rw [if_neg (fun q => absurd q.2 (by decide))]
      exact h2 c hc hz
  intro c0 hc0
  rw [cmS_s]
  refine so4_ub (cm := c2S P n sd ti nn t) (fun c hc => ?_) h4 n c0 hc0
  unfold c2S
  split
  · rename_i hs
    by_cases e : c = sd
    · rw [e, va_eq]
      exact mx2_le.mpr ⟨e1 sd (by omega), h3 hs⟩
    · rw [va_ne e]
      exact e1 c hc
  · exact e1 c hc
theorem wtS_t : ∀ t, wtS P n sd ti nn t = true ↔ ∀ s, s < t → ti < s + 1 → cmz P sd s = false
  | 0 => ⟨fun _ s hs => absurd hs (Nat.not_lt_zero s), fun _ => rfl⟩
  | t + 1 => by
    have ih := wtS_t t
    rw [wtS_s]
    unfold stS
    constructor
    · intro h s hs h1
      cases hw : wtS P n sd ti nn t with
      | false => rw [hw] at h; cases h
      | true =>
        by_cases e : s = t
        · rw [hw] at h
          rw [e] at h1
          rw [decide_eq_true h1, Bool.true_and, Bool.true_and, Bool.true_and] at h
          rw [e]
          cases hz : cmz P sd t with
          | false => rfl
          | true => rw [hz] at h; cases h
        · exact ih.mp hw s (by omega) h1
    · intro h
      have hw := ih.mpr (fun s hs => h s (by omega))
      rw [hw]
      by_cases h1 : ti < t + 1
      · rw [h t (by omega) h1, Bool.and_false]
        rfl
      · rw [decide_eq_false h1]
        rfl
/-- visits: cart c comes to its i-th cell at time T c i -/
def VT (P : Nat → Int) (n : Nat) (vn : Nat → Nat) (T : Nat → Nat → Nat) : Prop := ∀ c, c < n → (1 ≤ vn c ∧ vn c ≤ 41) ∧ T c 0 = 0 ∧ (∀ i, i < vn c → T c i ≤ 40) ∧ (∀ i, i + 1 < vn c → T c i < T c (i + 1) ∧ cmz P c (T c (i + 1) - 1) = true) ∧ ∀ i, i < vn c → ∀ s, T c i ≤ s → s < 40 → (i + 1 < vn c → s + 1 < T c (i + 1)) → cmz P c s = false
/-- the latest visit of c at time s -/
def cuV (vn : Nat → Nat) (T : Nat → Nat → Nat) (c s i : Nat) : Prop := i < vn c ∧ T c i ≤ s ∧ (i + 1 < vn c → s < T c (i + 1))
variable {vn : Nat → Nat} {T : Nat → Nat → Nat}
theorem VT.cu (h : VT P n vn T) (hc : c < n) : ∀ s, s ≤ 40 → ∃ i, cuV vn T c s i
  | 0, _ => by
    obtain ⟨h1, h2, h3, h4, h5⟩ := h c hc
    exact ⟨0, by omega, by omega, fun q => by have := (h4 0 q).1; omega⟩
  | s + 1, hs => by
    obtain ⟨i, i1, i2, i3⟩ := VT.cu h hc s (by omega)
    obtain ⟨h1, h2, h3, h4, h5⟩ := h c hc
    by_cases e : i + 1 < vn c ∧ T c (i + 1) = s + 1
    · exact ⟨i + 1, e.1, by omega, fun q => by have := (h4 (i + 1) q).1; omega⟩
    · exact ⟨i, i1, by omega, fun q => by have := i3 q; omega⟩
theorem VT.nz (h : VT P n vn T) (hc : c < n) {s i : Nat} (hi : cuV vn T c s i) (hs : s < 40) (hn : i + 1 < vn c → T c (i + 1) ≠ s + 1) : cmz P c s = false := by
  obtain ⟨h1, h2, h3, h4, h5⟩ := h c hc
  exact h5 i hi.1 s hi.2.1 hs (fun q => by have := hi.2.2 q; have := hn q; omega)
theorem VT.z (h : VT P n vn T) (hc : c < n) {s i : Nat} (hi : cuV vn T c s i) (hs : s < 40) (hz : cmz P c s = true) : i + 1 < vn c ∧ T c (i + 1) = s + 1 := by
  refine Classical.byContradiction fun q => ?_
  have := h.nz hc hi hs (fun q1 q2 => q ⟨q1, q2⟩)
  rw [this] at hz
  cases hz
theorem cmz_f {k : Nat} (h : cmz P k t = false) : P (41 * k + (t + 1)) = P (41 * k + t) := by
  have := of_decide_eq_false h
  omega
/-- where c is at time s -/
theorem VT.at (h : VT P n vn T) (hc : c < n) {i : Nat} : ∀ d, T c i + d ≤ 40 → cuV vn T c (T c i + d) i → P (41 * c + (T c i + d)) = P (41 * c + T c i)
  | 0, _, _ => rfl
  | d + 1, hd, hi => by
    have hi0 : cuV vn T c (T c i + d) i := ⟨hi.1, by omega, fun q => by have := hi.2.2 q; omega⟩
    have hz := h.nz hc hi0 (by omega) (fun q e => by have := hi.2.2 q; omega)
    show P (41 * c + (T c i + d + 1)) = _
    rw [cmz_f hz]
    exact VT.at h hc (i := i) d (by omega) hi0
theorem VT.at' (h : VT P n vn T) (hc : c < n) {i s : Nat} (hs : s ≤ 40) (hi : cuV vn T c s i) : P (41 * c + s) = P (41 * c + T c i) := by
  have h1 := hi.2.1
  have := h.at hc (i := i) (s - T c i) (by omega) (by rw [show T c i + (s - T c i) = s by omega]; exact hi)
  rw [show T c i + (s - T c i) = s by omega] at this
  exact this
theorem VT.lt (h : VT P n vn T) (hc : c < n) {i : Nat} : ∀ d, i + d < vn c → T c i + d ≤ T c (i + d)
  | 0, _ => Nat.le_refl _
  | d + 1, hd => by
    have h1 := VT.lt h hc (i := i) d (by omega)
    have h2 := ((h c hc).2.2.2.1 (i + d) (by omega)).1
    show T c i + (d + 1) ≤ T c (i + d + 1)
    omega
theorem VT.lt' (h : VT P n vn T) (hc : c < n) {i j : Nat} (hij : i < j) (hj : j < vn c) : T c i < T c j := by
  have := h.lt hc (i := i) (j - i) (by omega)
  rw [show i + (j - i) = j by omega] at this
  omega
theorem VT.inj (h : VT P n vn T) (hc : c < n) {i j : Nat} (hi : i < vn c) (hj : j < vn c) (hl : T c i < T c j) : i < j := by
  refine Classical.byContradiction fun q => ?_
  by_cases e : i = j
  · rw [e] at hl; omega
  · have := h.lt' hc (i := j) (j := i) (by omega) hi
    omega
theorem VT.self (h : VT P n vn T) (hc : c < n) {i : Nat} (hi : i < vn c) : cuV vn T c (T c i) i := ⟨hi, Nat.le_refl _, fun q => ((h c hc).2.2.2.1 i q).1⟩
theorem VT.uq (h : VT P n vn T) (hc : c < n) {i j s : Nat} (hi : cuV vn T c s i) (hj : cuV vn T c s j) : i = j := by
  rcases Nat.lt_trichotomy i j with q | q | q
  · have h1 := hi.2.2 (by have := hj.1; omega)
    have h2 : T c (i + 1) ≤ T c j := by
      by_cases e : i + 1 = j
      · rw [e]; omega
      · have := h.lt' hc (i := i + 1) (j := j) (by omega) hj.1; omega
    have := hj.2.1
    omega
  · exact q
  · have h1 := hj.2.2 (by have := hi.1; omega)
    have h2 : T c (j + 1) ≤ T c i := by
      by_cases e : j + 1 = i
      · rw [e]; omega
      · have := h.lt' hc (i := j + 1) (j := i) (by omega) hi.1; omega
    have := hi.2.1
    omega
/-- times that keep all that must be kept -/
def Sol (P : Nat → Int) (n : Nat) (vn : Nat → Nat) (T : Nat → Nat → Nat) (sd ti nn : Nat) (X : Nat → Nat → Int) : Prop := (∀ c, c < n → ∀ i, i < vn c → (T c i : Int) ≤ X c i) ∧ (∀ c, c < n → ∀ i, i + 1 < vn c → X c i + 1 ≤ X c (i + 1)) ∧ (∀ i, i + 1 < vn sd → T sd i ≤ ti → ti < T sd (i + 1) → ((ti + nn + 1 : Nat) : Int) ≤ X sd (i + 1)) ∧ ∀ c, c < n → ∀ o, o < n → o ≠ c → ∀ i, i + 1 < vn c → ∀ j, j + 1 < vn o → P (41 * o + T o j) = P (41 * c + T c (i + 1)) → T o j < T c (i + 1) → X o (j + 1) ≤ X c (i + 1)
theorem Sol.up {X : Nat → Nat → Int} (h : Sol P n vn T sd ti nn X) (hc : c < n) {i : Nat} : ∀ d, i + d < vn c → X c i ≤ X c (i + d)
  | 0, _ => Int.le_refl _
  | d + 1, hd => by
    have h1 := Sol.up h hc (i := i) d (by omega)
    have h2 := h.2.1 c hc (i + d) (by omega)
    show X c i ≤ X c (i + d + 1)
    omega
def NC (P : Nat → Int) (n : Nat) : Prop := (∀ a b t, a < n → b < n → a ≠ b → t < 41 → P (41 * a + t) ≠ P (41 * b + t)) ∧ ∀ c t, c < n → t < 41 → 0 ≤ P (41 * c + t)
/-- the class's times are no later than any such -/
theorem cm_least {X : Nat → Nat → Int} (hV : VT P n vn T) (hN : NC P n) (hs : sd < n) (hX : Sol P n vn T sd ti nn X) : ∀ t, t ≤ 40 → (∀ c, c < n → ∀ i, cuV vn T c t i → cmS P n sd ti nn t c ≤ X c i) ∧ ∀ x, lfS P n sd ti nn t x = 0 ∨ ∃ o j, o < n ∧ j + 1 < vn o ∧ T o (j + 1) ≤ t ∧ (P (41 * o + T o j)).toNat = x ∧ lfS P n sd ti nn t x ≤ X o (j + 1)
  | 0, _ => ⟨fun c hc i hi => by
      have := hX.1 c hc i hi.1
      show (0 : Int) ≤ X c i
      omega, fun x => Or.inl rfl⟩
  | t + 1, ht => by
    obtain ⟨ih1, ih2⟩ := cm_least hV hN hs hX t (by omega)
    -- the bound, by the cart's latest visit
    have hcu : ∀ c, c < n → ∃ i, cuV vn T c (t + 1) i := fun c hc => hV.cu hc (t + 1) (by omega)
    obtain ⟨iv, hiv⟩ : ∃ iv : Nat → Nat, ∀ c, c < n → cuV vn T c (t + 1) (iv c) := by
      refine ⟨fun c => if h : c < n then Classical.choose (hcu c h) else 0, fun c hc => ?_⟩
      show cuV vn T c (t + 1) (if h : c < n then Classical.choose (hcu c h) else 0)
      rw [dif_pos hc]
      exact Classical.choose_spec (hcu c hc)
    -- a cart that comes at t + 1: the index of that visit
    have hcz : ∀ c, c < n → cmz P c t = true → ∃ i, iv c = i + 1 ∧ i + 1 < vn c ∧ T c (i + 1) = t + 1 ∧ cuV vn T c t i := by
      intro c hc hz
      obtain ⟨i, hi⟩ := hV.cu hc t (by omega)
      obtain ⟨q1, q2⟩ := hV.z hc hi (by omega) hz
      have := hV.self hc q1
      rw [q2] at this
      exact ⟨i, hV.uq hc (hiv c hc) this, q1, q2, hi⟩
    have hcn : ∀ c, c < n → cmz P c t = false → cuV vn T c t (iv c) := by
      intro c hc hz
      obtain ⟨i, hi⟩ := hV.cu hc t (by omega)
      have hne : i + 1 < vn c → T c (i + 1) ≠ t + 1 := fun q e => by
        have := ((hV c hc).2.2.2.1 i q).2
        rw [e, show t + 1 - 1 = t by omega, hz] at this
        cases this
      have hi1 : cuV vn T c (t + 1) i := ⟨hi.1, by have := hi.2.1; omega, fun q => by have := hi.2.2 q; have := hne q; omega⟩
      rw [hV.uq hc (hiv c hc) hi1]
      exact hi
    have main : ∀ c, c < n → cmS P n sd ti nn (t + 1) c ≤ X c (iv c) := by
      refine cmS_ub (b := fun c => X c (iv c)) (fun c hc hz => ?_) (fun c hc hz => ih1 c hc _ (hcn c hc hz)) (fun hst => ?_) (fun k hk hz => ?_)
      · obtain ⟨i, e, q1, q2, q3⟩ := hcz c hc hz
        show ((t + 1 : Nat) : Int) ≤ X c (iv c) ∧ _ ≤ X c (iv c)
        rw [e]
        have h1 := hX.1 c hc (i + 1) q1
        have h2 := hX.2.1 c hc i q1
        have h3 := ih1 c hc i q3
        rw [q2] at h1
        exact ⟨h1, by omega⟩
      · unfold stS at hst
        have hw : wtS P n sd ti nn t = true := by
          cases e : wtS P n sd ti nn t with
          | true => rfl
          | false => rw [e] at hst; cases hst
        rw [hw, Bool.true_and] at hst
        have ht1 : ti < t + 1 := by
          refine Classical.byContradiction fun q => ?_
          rw [decide_eq_false q] at hst
          cases hst
        rw [decide_eq_true ht1, Bool.true_and] at hst
        obtain ⟨i, e, q1, q2, q3⟩ := hcz sd hs hst
        show _ ≤ X sd (iv sd)
        rw [e]
        refine hX.2.2.1 i q1 ?_ (by omega)
        -- the visit ahead was no later than ti
        refine Classical.byContradiction fun q => ?_
        have hi := q3.2.1
        have hw2 := (wtS_t t).mp hw
        cases i with
        | zero => have := (hV sd hs).2.1; omega
        | succ i =>
          have hz2 := ((hV sd hs).2.2.2.1 i (by omega)).2
          rw [hw2 (T sd (i + 1) - 1) (by omega) (by omega)] at hz2
          cases hz2
      · obtain ⟨i, e, q1, q2, q3⟩ := hcz k hk hz
        show untN P n t (lfS P n sd ti nn t) (fun c => X c (iv c)) k ≤ X k (iv k)
        rw [e]
        unfold untN
        rcases hdN_rg (P := P) (n := n) (t := t) (k := k) with q | ⟨p1, p2, p3⟩
        · rw [if_pos q]
          rcases ih2 (P (41 * k + (t + 1))).toNat with e0 | ⟨o, j, o1, o2, o3, o4, o5⟩
          · rw [e0]
            have := hX.1 k hk (i + 1) q1
            omega
          · refine Int.le_trans o5 ?_
            by_cases eo : o = k
            · rw [eo] at o2 o3 ⊢
              have hlt := hV.inj hk (i := j + 1) (j := i + 1) o2 q1 (by omega)
              have := hX.up hk (i := j + 1) (i + 1 - (j + 1)) (by omega)
              rw [show j + 1 + (i + 1 - (j + 1)) = i + 1 by omega] at this
              exact this
            · have hTj := ((hV o o1).2.2.2.1 j o2).1
              refine hX.2.2.2 k hk o o1 eo i q1 j o2 ?_ (by omega)
              have r1 := hN.2 o (T o j) o1 (by omega)
              have r2 := hN.2 k (t + 1) hk (by omega)
              rw [q2]
              omega
        · rw [if_neg (by omega)]
          obtain ⟨a, ha⟩ : ∃ a, a = (hdN P n t k).toNat := ⟨_, rfl⟩
          rw [← ha] at p1 p3 ⊢
          -- the one ahead goes on at t + 1
          have hak : a ≠ k := fun q => by
            rw [q] at p3
            have := of_decide_eq_true hz
            omega
          have haz : cmz P a t = true := by
            cases ea : cmz P a t with
            | true => rfl
            | false =>
              have := cmz_f ea
              exact absurd (this.trans p3) (hN.1 a k (t + 1) p1 hk hak (by omega))
          obtain ⟨j, e2, r1, r2, r3⟩ := hcz a p1 haz
          show X a (iv a) ≤ _
          rw [e2]
          refine hX.2.2.2 k hk a p1 hak i q1 j r1 ?_ ?_
          · rw [q2, ← p3]
            exact (hV.at' p1 (by omega) r3).symm
          · have := r3.2.1
            omega
    refine ⟨fun c hc i hi => ?_, fun x => ?_⟩
    · rw [hV.uq hc hi (hiv c hc)]
      exact main c hc
    · rw [lfS_s]
      rcases so5_cases (P := P) (t := t) (lf := lfS P n sd ti nn t) (cm := cmS P n sd ti nn (t + 1)) (x := x) n with ⟨e, -⟩ | ⟨k, hk, hz, hx, e⟩
      · rw [e]
        rcases ih2 x with e0 | ⟨o, j, o1, o2, o3, o4, o5⟩
        · exact Or.inl e0
        · exact Or.inr ⟨o, j, o1, o2, by omega, o4, o5⟩
      · rw [e]
        obtain ⟨i, e1, q1, q2, q3⟩ := hcz k hk hz
        refine Or.inr ⟨k, i, hk, q1, by omega, ?_, ?_⟩
        · rw [← hV.at' hk (by omega) q3]
          exact hx
        · have := main k hk
          rw [e1] at this
          exact this
end SQ

