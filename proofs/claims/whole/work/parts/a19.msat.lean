/-! what can be come to stands still after as many times as there are cells -/
theorem cnt_mono {p q : Nat → Bool} {n : Nat} (h : ∀ c, c < n → p c = true → q c = true) : cntN p n ≤ cntN q n ∧ (cntN p n = cntN q n → ∀ c, c < n → p c = q c) := by
  induction n with
  | zero => exact ⟨Int.le_refl _, fun _ c hc => absurd hc (Nat.not_lt_zero c)⟩
  | succ n ih =>
    obtain ⟨i1, i2⟩ := ih (fun c hc => h c (by omega))
    have e1 : cntN p (n + 1) = cntN p n + bi (p n) := rfl
    have e2 : cntN q (n + 1) = cntN q n + bi (q n) := rfl
    have hn := h n (by omega)
    have b : bi (p n) ≤ bi (q n) ∧ (bi (p n) = bi (q n) → p n = q n) := by
      cases hp : p n with
      | false =>
        cases hq : q n with
        | false => exact ⟨by decide, fun _ => rfl⟩
        | true => exact ⟨by decide, fun k => absurd k (by decide)⟩
      | true =>
        rw [hn hp]
        exact ⟨by decide, fun _ => rfl⟩
    rw [e1, e2]
    refine ⟨by omega, fun k c hc => ?_⟩
    by_cases q1 : c = n
    · rw [q1]
      exact b.2 (by omega)
    · exact i2 (by omega) c (by omega)
theorem sat_all {P : Nat → Nat → Bool} {T n : Nat} (hT : n ≤ T + 1) (hm : ∀ t, t < T → ∀ c, c < n → P t c = true → P (t + 1) c = true) (hs : ∀ t, t + 1 < T → (∀ c, c < n → P t c = P (t + 1) c) → ∀ c, c < n → P (t + 1) c = P (t + 1 + 1) c) (h0 : 1 ≤ cntN (P 0) n) : ∀ t, n ≤ t + 1 → t ≤ T → ∀ c, c < n → P t c = P (n - 1) c := by
  have up : ∀ d s, s + d ≤ T → ∀ c, c < n → P s c = true → P (s + d) c = true := by
    intro d
    induction d with
    | zero => intro s _ c _ h; exact h
    | succ d ih => intro s hsd c hc h; exact hm (s + d) (by omega) c hc (ih s (by omega) c hc h)
  have still : ∀ d s, s + 1 + d ≤ T → (∀ c, c < n → P s c = P (s + 1) c) → ∀ c, c < n → P (s + d) c = P (s + d + 1) c := by
    intro d
    induction d with
    | zero => intro s _ h; exact h
    | succ d ih => intro s hsd h; exact hs (s + d) (by omega) (ih s (by omega) h)
  have grow : ∀ t, t < n → t ≤ T → ((t : Int) + 1 ≤ cntN (P t) n) ∨ ∃ s, s < t ∧ ∀ c, c < n → P s c = P (s + 1) c := by
    intro t
    induction t with
    | zero => intro _ _; exact Or.inl (by omega)
    | succ t ih =>
      intro h1 h2
      rcases ih (by omega) (by omega) with g | ⟨s, s1, s2⟩
      · obtain ⟨m1, m2⟩ := cnt_mono (hm t (by omega))
        by_cases e : cntN (P t) n = cntN (P (t + 1)) n
        · exact Or.inr ⟨t, by omega, m2 e⟩
        · exact Or.inl (by omega)
      · exact Or.inr ⟨s, by omega, s2⟩
  have fixed : ∀ s, s + 1 ≤ T → (∀ c, c < n → P s c = P (s + 1) c) → ∀ t, s ≤ t → t ≤ T → ∀ c, c < n → P t c = P s c := by
    intro s hsT h t hst htT c hc
    obtain ⟨d, hd⟩ : ∃ d, t = s + d := ⟨t - s, by omega⟩
    subst hd
    clear hst
    induction d with
    | zero => rfl
    | succ d ih =>
      have := still d s (by omega) h c hc
      show P (s + d + 1) c = _
      rw [← this]
      exact ih (by omega)
  intro t ht htT c hc
  by_cases et : t = n - 1
  · rw [et]
  have hn1 : 1 ≤ n := by omega
  rcases grow (n - 1) (by omega) (by omega) with g | ⟨s, s1, s2⟩
  · -- all cells are come to
    have full : ∀ s, n - 1 ≤ s → s ≤ T → P s c = true := by
      have f0 : P (n - 1) c = true := by
        have hr := cnt_mono (p := P (n - 1)) (q := fun _ => true) (n := n) (fun _ _ _ => rfl)
        have ha : ∀ k, cntN (fun _ => true) k = (k : Int) := by
          intro k
          induction k with
          | zero => rfl
          | succ k ih =>
            show cntN (fun _ => true) k + 1 = _
            rw [ih]
            omega
        have := hr.1
        rw [ha n] at this hr
        exact hr.2 (by omega) c hc
      intro s h1 h2
      have := up (s - (n - 1)) (n - 1) (by omega) c hc f0
      rw [show n - 1 + (s - (n - 1)) = s by omega] at this
      exact this
    rw [full t (by omega) htT, full (n - 1) (Nat.le_refl _) (by omega)]
  · rw [fixed s (by omega) s2 t (by omega) htT c hc, fixed s (by omega) s2 (n - 1) (by omega) (by omega) c hc]

