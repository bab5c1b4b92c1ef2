/-! stops: the class's words so1 .. so6, what they come to -/
section SO
variable {P lf cm cm' : Nat → Int} {n t k c : Nat} {θ : Int}
/-- the cart ahead: in the cell to which k comes -/
def hdN (P : Nat → Int) (n t k : Nat) : Int := fstN (fun c => decide (P (41 * c + t) = P (41 * k + (t + 1)))) n
def untN (P : Nat → Int) (n t : Nat) (lf cm : Nat → Int) (k : Nat) : Int := if hdN P n t k = -1 then lf (P (41 * k + (t + 1))).toNat else cm (hdN P n t k).toNat
theorem hdN_rg : hdN P n t k = -1 ∨ (hdN P n t k).toNat < n ∧ hdN P n t k = ((hdN P n t k).toNat : Int) ∧ P (41 * (hdN P n t k).toNat + t) = P (41 * k + (t + 1)) := by
  rcases fstN_cases (fun c => decide (P (41 * c + t) = P (41 * k + (t + 1)))) n with ⟨e, -⟩ | ⟨j, hj, e, hp, -⟩
  · exact Or.inl e
  · refine Or.inr ?_
    have e' : hdN P n t k = j := e
    rw [e', Int.toNat_natCast]
    exact ⟨hj, rfl, of_decide_eq_true hp⟩
theorem hdN_no (h : hdN P n t k = -1) : ∀ c, c < n → P (41 * c + t) ≠ P (41 * k + (t + 1)) := by
  intro c hc
  rcases fstN_cases (fun c => decide (P (41 * c + t) = P (41 * k + (t + 1)))) n with ⟨-, hn⟩ | ⟨j, hj, e, -, -⟩
  · exact of_decide_eq_false (hn c hc)
  · have e' : hdN P n t k = j := e
    omega
theorem so2_un : so2 P n t lf cm k = if cmz P k t = true then va_up cm k (mx2 (cm k) (untN P n t lf cm k)) else cm := rfl
theorem mx2_le {a b x : Int} : mx2 a b ≤ x ↔ a ≤ x ∧ b ≤ x := by
  unfold mx2
  split <;> omega
theorem le_mx2 {a b x : Int} : x ≤ mx2 a b ↔ x ≤ a ∨ x ≤ b := by
  unfold mx2
  split <;> omega
theorem so2_mono : cm c ≤ so2 P n t lf cm k c := by
  rw [so2_un]
  split
  · by_cases e : c = k
    · rw [e, va_eq]
      exact le_mx2.mpr (Or.inl (Int.le_refl _))
    · rw [va_ne e]
      exact Int.le_refl _
  · exact Int.le_refl _
theorem so3_mono : ∀ k, cm c ≤ so3 P n t lf cm k c
  | 0 => Int.le_refl _
  | k + 1 => Int.le_trans (so3_mono k) so2_mono
theorem so3_up (k : Nat) : ∀ d, so3 P n t lf cm k c ≤ so3 P n t lf cm (k + d) c
  | 0 => Int.le_refl _
  | d + 1 => Int.le_trans (so3_up k d) so2_mono
theorem so4_mono : ∀ r, cm c ≤ so4 P n t lf cm r c
  | 0 => Int.le_refl _
  | r + 1 => Int.le_trans (so4_mono r) (so3_mono n)
theorem so4_up (r : Nat) : so4 P n t lf cm r c ≤ so4 P n t lf cm (r + 1) c := so3_mono n
theorem so2_th (h : ∀ c, c < n → (θ ≤ cm c ↔ θ ≤ cm' c)) (hk : k < n) : ∀ c, c < n → (θ ≤ so2 P n t lf cm k c ↔ θ ≤ so2 P n t lf cm' k c) := by
  intro c hc
  rw [so2_un, so2_un]
  by_cases e : cmz P k t = true
  · rw [if_pos e, if_pos e]
    by_cases e2 : c = k
    · rw [e2, va_eq, va_eq, le_mx2, le_mx2, h k hk]
      unfold untN
      rcases hdN_rg (P := P) (n := n) (t := t) (k := k) with q | ⟨q1, q2, -⟩
      · rw [if_pos q, if_pos q]
      · rw [if_neg (by omega), if_neg (by omega), h _ q1]
    · rw [va_ne e2, va_ne e2]
      exact h c hc
  · rw [if_neg e, if_neg e]
    exact h c hc
theorem so3_th (h : ∀ c, c < n → (θ ≤ cm c ↔ θ ≤ cm' c)) : ∀ k, k ≤ n → ∀ c, c < n → (θ ≤ so3 P n t lf cm k c ↔ θ ≤ so3 P n t lf cm' k c)
  | 0, _ => h
  | k + 1, hk => so2_th (so3_th h k (by omega)) (by omega)
theorem so4_still (r : Nat) (h : ∀ c, c < n → (θ ≤ so4 P n t lf cm r c ↔ θ ≤ so4 P n t lf cm (r + 1) c)) : ∀ d, ∀ c, c < n → (θ ≤ so4 P n t lf cm (r + d) c ↔ θ ≤ so4 P n t lf cm (r + d + 1) c)
  | 0 => h
  | d + 1 => fun c hc => so3_th (so4_still r h d) n (Nat.le_refl n) c hc
theorem so4_fix (hc : c < n) : so3 P n t lf (so4 P n t lf cm n) n c ≤ so4 P n t lf cm n c := by
  obtain ⟨θ, hθ⟩ : ∃ θ, θ = so4 P n t lf cm (n + 1) c := ⟨_, rfl⟩
  show so4 P n t lf cm (n + 1) c ≤ _
  rw [← hθ]
  have key : ∀ r, r ≤ n → (∀ c, c < n → (θ ≤ so4 P n t lf cm r c ↔ θ ≤ so4 P n t lf cm (r + 1) c)) → θ ≤ so4 P n t lf cm n c := by
    intro r hr h
    have := so4_still r h (n - r) c hc
    rw [show r + (n - r) = n by omega] at this
    exact this.mpr (by rw [hθ]; exact Int.le_refl _)
  by_cases h0 : ∃ a, a < n ∧ θ ≤ so4 P n t lf cm 1 a
  · obtain ⟨a, ha, hta⟩ := h0
    have hm := cnt_mono (p := fun c => decide (c = a)) (q := fun c => decide (θ ≤ so4 P n t lf cm (0 + 1) c)) (n := n) (fun c _ q => by rw [of_decide_eq_true q]; exact decide_eq_true hta)
    have h1 : ∀ n, a < n → 1 ≤ cntN (fun c => decide (c = a)) n := by
      intro n
      induction n with
      | zero => intro q; exact absurd q (Nat.not_lt_zero a)
      | succ n ih =>
        intro q
        have e : cntN (fun c => decide (c = a)) (n + 1) = cntN (fun c => decide (c = a)) n + bi (decide (n = a)) := rfl
        rw [e]
        by_cases q2 : n = a
        · rw [decide_eq_true q2]
          have := (cntN_rg (fun c => decide (c = a)) n).1
          show 1 ≤ _ + 1
          omega
        · have := ih (by omega)
          have b := bi_le (decide (n = a))
          omega
    have h2 := h1 n ha
    have hs := sat_all (P := fun r c => decide (θ ≤ so4 P n t lf cm (r + 1) c)) (T := n) (n := n) (by omega) (fun r _ c _ q => decide_eq_true (Int.le_trans (of_decide_eq_true q) (so4_up (r + 1)))) (fun r _ he c hc => by
      have hh : ∀ c, c < n → (θ ≤ so4 P n t lf cm (r + 1) c ↔ θ ≤ so4 P n t lf cm (r + 1 + 1) c) := fun c hc => decide_eq_decide.mp (he c hc)
      exact decide_eq_decide.mpr (so4_still (r + 1) hh 1 c hc)) (by omega) n (by omega) (Nat.le_refl n) c hc
    have hs2 := decide_eq_decide.mp hs
    rw [show n - 1 + 1 = n by omega] at hs2
    exact hs2.mp (by rw [hθ]; exact Int.le_refl _)
  · refine key 0 (Nat.zero_le n) (fun c hc => ⟨fun q => Int.le_trans q (so4_up 0), fun q => absurd ⟨c, hc, q⟩ h0⟩)
theorem so3_id (h : ∀ c, c < n → so3 P n t lf cm n c ≤ cm c) {j : Nat} (hj : j ≤ n) (hc : c < n) : so3 P n t lf cm j c = cm c := by
  have h1 := so3_mono (P := P) (n := n) (t := t) (lf := lf) (cm := cm) (c := c) j
  have h2 := so3_up (P := P) (n := n) (t := t) (lf := lf) (cm := cm) (c := c) j (n - j)
  rw [show j + (n - j) = n by omega] at h2
  have h3 := h c hc
  omega
/-- behind n rounds nobody comes ahead of the one that it waits for -/
theorem so4_fp (hk : k < n) (hz : cmz P k t = true) : untN P n t lf (so4 P n t lf cm n) k ≤ so4 P n t lf cm n k := by
  obtain ⟨v, hv⟩ : ∃ v, v = so4 P n t lf cm n := ⟨_, rfl⟩
  have hf : ∀ c, c < n → so3 P n t lf v n c ≤ v c := fun c hc => by rw [hv]; exact so4_fix hc
  rw [← hv]
  have h1 := so3_id hf (j := k + 1) (c := k) (by omega) hk
  have e : so3 P n t lf v (k + 1) = so2 P n t lf (so3 P n t lf v k) k := rfl
  rw [e, so2_un, if_pos hz, va_eq] at h1
  have h2 : untN P n t lf (so3 P n t lf v k) k ≤ v k := (mx2_le.mp (Int.le_of_eq h1)).2
  have e2 : untN P n t lf (so3 P n t lf v k) k = untN P n t lf v k := by
    unfold untN
    rcases hdN_rg (P := P) (n := n) (t := t) (k := k) with q | ⟨q1, q2, -⟩
    · rw [if_pos q, if_pos q]
    · rw [if_neg (by omega), if_neg (by omega), so3_id hf (by omega) q1]
  rw [← e2]
  exact h2
theorem so3_nz (hz : cmz P c t = false) : ∀ k, so3 P n t lf cm k c = cm c
  | 0 => rfl
  | k + 1 => by
    show so2 P n t lf (so3 P n t lf cm k) k c = _
    rw [so2_un]
    split
    · rename_i hk
      have : c ≠ k := fun q => by rw [q, hk] at hz; cases hz
      rw [va_ne this]
      exact so3_nz hz k
    · exact so3_nz hz k
theorem so4_nz (hz : cmz P c t = false) : ∀ r, so4 P n t lf cm r c = cm c
  | 0 => rfl
  | r + 1 => by
    show so3 P n t lf (so4 P n t lf cm r) n c = _
    rw [so3_nz hz]
    exact so4_nz hz r
/-- no more than bounds that are kept by who waits for whom -/
theorem so2_ub {b : Nat → Int} (h : ∀ c, c < n → cm c ≤ b c) (hb : ∀ k, k < n → cmz P k t = true → untN P n t lf b k ≤ b k) (hk : k < n) : ∀ c, c < n → so2 P n t lf cm k c ≤ b c := by
  intro c hc
  rw [so2_un]
  split
  · rename_i hz
    by_cases e : c = k
    · rw [e, va_eq]
      refine mx2_le.mpr ⟨h k hk, ?_⟩
      have hbk := hb k hk hz
      unfold untN at hbk ⊢
      rcases hdN_rg (P := P) (n := n) (t := t) (k := k) with q | ⟨q1, q2, -⟩
      · rw [if_pos q] at hbk ⊢
        exact hbk
      · rw [if_neg (by omega)] at hbk ⊢
        exact Int.le_trans (h _ q1) hbk
    · rw [va_ne e]
      exact h c hc
  · exact h c hc
theorem so3_ub {b : Nat → Int} (h : ∀ c, c < n → cm c ≤ b c) (hb : ∀ k, k < n → cmz P k t = true → untN P n t lf b k ≤ b k) : ∀ k, k ≤ n → ∀ c, c < n → so3 P n t lf cm k c ≤ b c
  | 0, _ => h
  | k + 1, hk => so2_ub (so3_ub h hb k (by omega)) hb (by omega)
theorem so4_ub {b : Nat → Int} (h : ∀ c, c < n → cm c ≤ b c) (hb : ∀ k, k < n → cmz P k t = true → untN P n t lf b k ≤ b k) : ∀ r, ∀ c, c < n → so4 P n t lf cm r c ≤ b c
  | 0 => h
  | r + 1 => so3_ub (so4_ub h hb r) hb n (Nat.le_refl n)
theorem so5_cases {x : Nat} : ∀ j, (so5 P t lf cm j x = lf x ∧ ∀ k, k < j → cmz P k t = true → (P (41 * k + t)).toNat ≠ x) ∨ ∃ k, k < j ∧ cmz P k t = true ∧ (P (41 * k + t)).toNat = x ∧ so5 P t lf cm j x = cm k
  | 0 => Or.inl ⟨rfl, fun k hk => absurd hk (Nat.not_lt_zero k)⟩
  | j + 1 => by
    have e : so5 P t lf cm (j + 1) = if cmz P j t = true then va_up (so5 P t lf cm j) (P (41 * j + t)).toNat (cm j) else so5 P t lf cm j := rfl
    rw [e]
    have ih := so5_cases (x := x) j
    by_cases hz : cmz P j t = true
    · rw [if_pos hz]
      by_cases ex : x = (P (41 * j + t)).toNat
      · refine Or.inr ⟨j, by omega, hz, ex.symm, ?_⟩
        rw [ex, va_eq]
      · rw [va_ne ex]
        rcases ih with ⟨q1, q2⟩ | ⟨k, q1, q2, q3, q4⟩
        · refine Or.inl ⟨q1, fun k hk hkz => ?_⟩
          by_cases ek : k = j
          · rw [ek]; exact fun q => ex q.symm
          · exact q2 k (by omega) hkz
        · exact Or.inr ⟨k, by omega, q2, q3, q4⟩
    · rw [if_neg hz]
      rcases ih with ⟨q1, q2⟩ | ⟨k, q1, q2, q3, q4⟩
      · refine Or.inl ⟨q1, fun k hk hkz => ?_⟩
        by_cases ek : k = j
        · rw [ek] at hkz; exact absurd hkz hz
        · exact q2 k (by omega) hkz
      · exact Or.inr ⟨k, by omega, q2, q3, q4⟩
end SO

