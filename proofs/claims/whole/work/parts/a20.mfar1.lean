/-! what can be come to with nothing forbidden -/
section HH
variable {z : PS} {I : Nat → Int} {A : Nat → Nat → Int} {pl : Nat}
def hH (z : PS) (pl t c : Nat) : Bool := (hsN (lvZ z) (fun _ => 0) (fun _ => 0) pl t).getLsbD c
theorem hH_s (w : WFz z) (hz : MZ I A z) (hp : gIn (zCo z) (zRo z) pl) (hp1 : zSO z pl ≠ 1) {t d : Nat} (ht : t + 1 < 41) (hd : d < 36) : hH z pl (t + 1) d = true ↔ hH z pl t d = true ∨ ∃ c k, c < 36 ∧ k < 4 ∧ hH z pl t c = true ∧ nxt (A 6) (zCo z) (zRo z) c k = d := by
  have hs : hH z pl (t + 1) d = true ↔ ∃ c k : Nat, c < 36 ∧ k < 5 ∧ hH z pl t c = true ∧ mgo (A 6) (zCo z) (zRo z) (fun _ => 0) (fun _ => 0) c k (t + 1) = true ∧ nxt (A 6) (zCo z) (zRo z) c k = d := hs_step (hz.w0 w) hp hp1 ht hd
  have n4 : ∀ c, nxt (A 6) (zCo z) (zRo z) c 4 = (c : Int) := fun c => by unfold nxt; rw [if_pos rfl]
  rw [hs]
  constructor
  · rintro ⟨c, k, hc, hk, h1, -, h3⟩
    by_cases q : k = 4
    · rw [q, n4] at h3
      have e : c = d := by omega
      rw [← e]
      exact Or.inl h1
    · exact Or.inr ⟨c, k, hc, by omega, h1, h3⟩
  · rintro (h | ⟨c, k, hc, hk, h1, h3⟩)
    · exact ⟨d, 4, hd, by omega, h, decide_eq_true ⟨by rw [n4]; omega, rfl, rfl⟩, n4 d⟩
    · exact ⟨c, k, hc, by omega, h1, decide_eq_true ⟨by rw [h3]; omega, rfl, rfl⟩, h3⟩
theorem hH_sat (w : WFz z) (hz : MZ I A z) (hp : gIn (zCo z) (zRo z) pl) (hp1 : zSO z pl ≠ 1) (h0 : hH z pl 0 pl = true) : ∀ t, 35 ≤ t → t ≤ 40 → ∀ c, c < 36 → hH z pl t c = hH z pl 35 c := by
  have h36 : pl < 36 := gIn_36 w.1.1.2.1 hp
  intro t h1 h2 c hc
  refine sat_all (P := hH z pl) (T := 40) (n := 36) (by decide) (fun s hs d hd q => (hH_s w hz hp hp1 (by omega) hd).mpr (Or.inl q)) (fun s hs he d hd => ?_) ?_ t (by omega) h2 c hc
  · have i1 := hH_s w hz hp hp1 (t := s) (d := d) (by omega) hd
    have i2 := hH_s w hz hp hp1 (t := s + 1) (d := d) (by omega) hd
    have same : (hH z pl (s + 1) d = true) ↔ (hH z pl (s + 1 + 1) d = true) := by
      rw [i2]
      constructor
      · exact Or.inl
      · rintro (q | ⟨a, k, ha, hk, q1, q2⟩)
        · exact q
        · exact i1.mpr (Or.inr ⟨a, k, ha, hk, by rw [he a ha]; exact q1, q2⟩)
    cases e1 : hH z pl (s + 1) d with
    | true => rw [same.mp e1]
    | false =>
      cases e2 : hH z pl (s + 1 + 1) d with
      | false => rfl
      | true =>
        have := same.mpr e2
        rw [e1] at this
        cases this
  · have hm := cnt_mono (p := fun c => decide (c = pl)) (q := hH z pl 0) (n := 36) (fun c _ q => by rw [of_decide_eq_true q]; exact h0)
    have h1 : ∀ n, pl < n → 1 ≤ cntN (fun c => decide (c = pl)) n := by
      intro n
      induction n with
      | zero => intro q; exact absurd q (Nat.not_lt_zero pl)
      | succ n ih =>
        intro q
        have e : cntN (fun c => decide (c = pl)) (n + 1) = cntN (fun c => decide (c = pl)) n + bi (decide (n = pl)) := rfl
        rw [e]
        by_cases q2 : n = pl
        · rw [decide_eq_true q2]
          have := (cntN_rg (fun c => decide (c = pl)) n).1
          show 1 ≤ _ + 1
          omega
        · have := ih (by omega)
          have b := bi_le (decide (n = pl))
          omega
    have := h1 36 h36
    have := hm.1
    omega
end HH

