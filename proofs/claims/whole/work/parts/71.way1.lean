/-! ways: bits against rows, pure -/
def gIn (cols rows c : Nat) : Prop := c % 6 < cols ∧ c / 6 < rows
theorem nb {x : BitVec 64} {d : Nat} (hd : d < 64) : (x ^^^ FF).getLsbD d = !x.getLsbD d := by
  rw [BitVec.getLsbD_xor]
  have : FF.getLsbD d = true := by
    show (BitVec.allOnes 64).getLsbD d = true
    rw [BitVec.getLsbD_allOnes]
    exact decide_eq_true hd
  rw [this]
  cases x.getLsbD d <;> rfl
section W1
variable {SO so : Nat → Int} {cols rows : Nat}
theorem nxt_lv (hc : cols ≤ 6) (hr : rows ≤ 6) (oS : okS SO) (hso : ∀ c, gIn cols rows c → so c = SO c) {c k : Nat} (hg : gIn cols rows c) (h1 : SO c ≠ 1) (hk : k < 4) : nxt so cols rows c k = (if (lvF SO cols rows k).getLsbD c = true then (c : Int) + t_ahd k else -1) ∧ ((lvF SO cols rows k).getLsbD c = true → 0 ≤ (c : Int) + t_ahd k ∧ gIn cols rows ((c : Int) + t_ahd k).toNat ∧ SO ((c : Int) + t_ahd k).toNat ≠ 1) := by
  have hb := lvF_b (SO := SO) (m := k) hc hr c
  rw [decide_eq_true (show c / 6 < rows ∧ c % 6 < cols from ⟨hg.2, hg.1⟩), Bool.true_and] at hb
  have ha := t_ahd_eq k hk
  have hx := t_acr_rg k
  have hy := t_dwn_rg k
  have hS := oS c
  have hsc := hso c hg
  have e6 : 6 * (c / 6) + c % 6 = c := by omega
  obtain ⟨X, hX⟩ : ∃ X : Int, X = (c % 6 : Nat) + t_acr k := ⟨_, rfl⟩
  obtain ⟨Y, hY⟩ : ∃ Y : Int, Y = (c / 6 : Nat) + t_dwn k := ⟨_, rfl⟩
  have eT : 6 * Y + X = (c : Int) + t_ahd k := by omega
  have hbI : (lvF SO cols rows k).getLsbD c = true ↔ (SO c = 0 ∨ SO c = 2 + k) ∧ (0 ≤ X ∧ X < cols ∧ 0 ≤ Y ∧ Y < rows) ∧ SO (6 * Y + X).toNat ≠ 1 := by
    rw [hb]
    unfold ltb
    rw [e6, ← hX, ← hY]
    simp only [Bool.and_eq_true, Bool.or_eq_true, decide_eq_true_eq]
  have hin : (0 ≤ X ∧ X < cols ∧ 0 ≤ Y ∧ Y < rows) → gIn cols rows (6 * Y + X).toNat := fun q => by
    unfold gIn
    omega
  constructor
  · unfold nxt
    rw [if_neg (by omega), ← hX, ← hY, hsc]
    by_cases hl : (lvF SO cols rows k).getLsbD c = true
    · obtain ⟨q1, q2, q3⟩ := hbI.mp hl
      rw [if_pos hl, if_neg (fun w => by omega), if_pos ⟨q2, by rw [hso _ (hin q2)]; exact q3⟩, eT]
    · rw [if_neg hl]
      by_cases q1 : 1 < SO c ∧ SO c - 2 ≠ k
      · rw [if_pos q1]
      · rw [if_neg q1, if_neg]
        rintro ⟨q2, q3⟩
        exact hl (hbI.mpr ⟨by omega, q2, by rw [← hso _ (hin q2)]; exact q3⟩)
  · intro hl
    obtain ⟨q1, q2, q3⟩ := hbI.mp hl
    rw [← eT]
    exact ⟨by omega, hin q2, q3⟩
end W1
section W2
variable {lv mv ce : Nat → BitVec 64} {h : BitVec 64}
theorem stp_iff {t d : Nat} (hd : d < 36) : (stp lv mv ce h t).getLsbD d = true ↔ (ce t).getLsbD d = false ∧ (h.getLsbD d = true ∨ ∃ k c : Nat, k < 4 ∧ c < 64 ∧ h.getLsbD c = true ∧ (lv k).getLsbD c = true ∧ (mv (41 * k + t)).getLsbD c = false ∧ (c : Int) + t_ahd k = d) := by
  unfold stp
  rw [BitVec.getLsbD_and, nb (by omega), Bool.and_eq_true]
  simp only [BitVec.getLsbD_or, BitVec.getLsbD_ushiftRight, BitVec.getLsbD_shiftLeft, Bool.or_eq_true, Bool.not_eq_true']
  rw [and_comm]
  refine and_congr_right (fun _ => ?_)
  have m0 : ∀ c, c < 64 → (((h &&& lv 0) &&& (mv t ^^^ FF)).getLsbD c = true ↔ h.getLsbD c = true ∧ (lv 0).getLsbD c = true ∧ (mv (41 * 0 + t)).getLsbD c = false) := fun c hc => by
    rw [BitVec.getLsbD_and, BitVec.getLsbD_and, nb hc, show 41 * 0 + t = t by omega]
    simp [and_assoc]
  have m1 : ∀ c, c < 64 → (((h &&& lv 1) &&& (mv (41 + t) ^^^ FF)).getLsbD c = true ↔ h.getLsbD c = true ∧ (lv 1).getLsbD c = true ∧ (mv (41 * 1 + t)).getLsbD c = false) := fun c hc => by
    rw [BitVec.getLsbD_and, BitVec.getLsbD_and, nb hc]
    simp [and_assoc]
  have m2 : ∀ c, c < 64 → (((h &&& lv 2) &&& (mv (82 + t) ^^^ FF)).getLsbD c = true ↔ h.getLsbD c = true ∧ (lv 2).getLsbD c = true ∧ (mv (41 * 2 + t)).getLsbD c = false) := fun c hc => by
    rw [BitVec.getLsbD_and, BitVec.getLsbD_and, nb hc]
    simp [and_assoc]
  have m3 : ∀ c, c < 64 → (((h &&& lv 3) &&& (mv (123 + t) ^^^ FF)).getLsbD c = true ↔ h.getLsbD c = true ∧ (lv 3).getLsbD c = true ∧ (mv (41 * 3 + t)).getLsbD c = false) := fun c hc => by
    rw [BitVec.getLsbD_and, BitVec.getLsbD_and, nb hc]
    simp [and_assoc]
  constructor
  · rintro ((((q | q) | q) | q) | q)
    · exact Or.inl q
    · have := (m0 (6 + d) (by omega)).mp q
      exact Or.inr ⟨0, 6 + d, by decide, by omega, this.1, this.2.1, this.2.2, by show ((6 + d : Nat) : Int) + -6 = d; omega⟩
    · simp only [Bool.and_eq_true, Bool.not_eq_true', decide_eq_true_eq, decide_eq_false_iff_not] at q
      have := (m1 (d - 1) (by omega)).mp q.2
      exact Or.inr ⟨1, d - 1, by decide, by omega, this.1, this.2.1, this.2.2, by show ((d - 1 : Nat) : Int) + 1 = d; omega⟩
    · simp only [Bool.and_eq_true, Bool.not_eq_true', decide_eq_true_eq, decide_eq_false_iff_not] at q
      have := (m2 (d - 6) (by omega)).mp q.2
      exact Or.inr ⟨2, d - 6, by decide, by omega, this.1, this.2.1, this.2.2, by show ((d - 6 : Nat) : Int) + 6 = d; omega⟩
    · have := (m3 (1 + d) (by omega)).mp q
      exact Or.inr ⟨3, 1 + d, by decide, by omega, this.1, this.2.1, this.2.2, by show ((1 + d : Nat) : Int) + -1 = d; omega⟩
  · rintro (q | ⟨k, c, hk, hc, q1, q2, q3, q4⟩)
    · exact Or.inl (Or.inl (Or.inl (Or.inl q)))
    · match k, hk with
      | 0, _ =>
        have q4' : (c : Int) + -6 = d := q4
        refine Or.inl (Or.inl (Or.inl (Or.inr ?_)))
        rw [show 6 + d = c by omega]
        exact (m0 c hc).mpr ⟨q1, q2, q3⟩
      | 1, _ =>
        have q4' : (c : Int) + 1 = d := q4
        refine Or.inl (Or.inl (Or.inr ?_))
        simp only [Bool.and_eq_true, Bool.not_eq_true', decide_eq_true_eq, decide_eq_false_iff_not]
        refine ⟨⟨by omega, by omega⟩, ?_⟩
        rw [show d - 1 = c by omega]
        exact (m1 c hc).mpr ⟨q1, q2, q3⟩
      | 2, _ =>
        have q4' : (c : Int) + 6 = d := q4
        refine Or.inl (Or.inr ?_)
        simp only [Bool.and_eq_true, Bool.not_eq_true', decide_eq_true_eq, decide_eq_false_iff_not]
        refine ⟨⟨by omega, by omega⟩, ?_⟩
        rw [show d - 6 = c by omega]
        exact (m2 c hc).mpr ⟨q1, q2, q3⟩
      | 3, _ =>
        have q4' : (c : Int) + -1 = d := q4
        refine Or.inr ?_
        rw [show 1 + d = c by omega]
        exact (m3 c hc).mpr ⟨q1, q2, q3⟩
theorem pre_iff {t c : Nat} (hc : c < 36) : (pre lv mv ce h t).getLsbD c = true ↔ (ce t).getLsbD c = false ∧ (h.getLsbD c = true ∨ ∃ k : Nat, k < 4 ∧ (lv k).getLsbD c = true ∧ (mv (41 * k + (t + 1))).getLsbD c = false ∧ 0 ≤ (c : Int) + t_ahd k ∧ h.getLsbD ((c : Int) + t_ahd k).toNat = true) := by
  unfold pre
  rw [BitVec.getLsbD_and, nb (by omega), Bool.and_eq_true]
  simp only [BitVec.getLsbD_or, BitVec.getLsbD_and, BitVec.getLsbD_ushiftRight, BitVec.getLsbD_shiftLeft, Bool.or_eq_true, Bool.not_eq_true', Bool.and_eq_true, nb (show c < 64 by omega), decide_eq_true_eq, decide_eq_false_iff_not]
  rw [and_comm]
  refine and_congr_right (fun _ => ?_)
  constructor
  · rintro ((((q | q) | q) | q) | q)
    · exact Or.inl q
    · refine Or.inr ⟨0, by decide, q.1.2, by rw [show 41 * 0 + (t + 1) = t + 1 by omega]; exact q.2, ?_, ?_⟩
      · show 0 ≤ (c : Int) + -6; omega
      · rw [show ((c : Int) + t_ahd 0).toNat = c - 6 by show ((c : Int) + -6).toNat = c - 6; omega]; exact q.1.1.2
    · refine Or.inr ⟨1, by decide, q.1.2, q.2, ?_, ?_⟩
      · show 0 ≤ (c : Int) + 1; omega
      · rw [show ((c : Int) + t_ahd 1).toNat = 1 + c by show ((c : Int) + 1).toNat = 1 + c; omega]; exact q.1.1
    · refine Or.inr ⟨2, by decide, q.1.2, q.2, ?_, ?_⟩
      · show 0 ≤ (c : Int) + 6; omega
      · rw [show ((c : Int) + t_ahd 2).toNat = 6 + c by show ((c : Int) + 6).toNat = 6 + c; omega]; exact q.1.1
    · refine Or.inr ⟨3, by decide, q.1.2, q.2, ?_, ?_⟩
      · show 0 ≤ (c : Int) + -1; omega
      · rw [show ((c : Int) + t_ahd 3).toNat = c - 1 by show ((c : Int) + -1).toNat = c - 1; omega]; exact q.1.1.2
  · rintro (q | ⟨k, hk, q1, q2, q3, q4⟩)
    · exact Or.inl (Or.inl (Or.inl (Or.inl q)))
    · match k, hk with
      | 0, _ =>
        have q3' : 0 ≤ (c : Int) + -6 := q3
        rw [show ((c : Int) + t_ahd 0).toNat = c - 6 by show ((c : Int) + -6).toNat = c - 6; omega] at q4
        rw [show 41 * 0 + (t + 1) = t + 1 by omega] at q2
        exact Or.inl (Or.inl (Or.inl (Or.inr ⟨⟨⟨⟨by omega, by omega⟩, q4⟩, q1⟩, q2⟩)))
      | 1, _ =>
        rw [show ((c : Int) + t_ahd 1).toNat = 1 + c by show ((c : Int) + 1).toNat = 1 + c; omega] at q4
        exact Or.inl (Or.inl (Or.inr ⟨⟨q4, q1⟩, q2⟩))
      | 2, _ =>
        rw [show ((c : Int) + t_ahd 2).toNat = 6 + c by show ((c : Int) + 6).toNat = 6 + c; omega] at q4
        exact Or.inl (Or.inr ⟨⟨q4, q1⟩, q2⟩)
      | 3, _ =>
        have q3' : 0 ≤ (c : Int) + -1 := q3
        rw [show ((c : Int) + t_ahd 3).toNat = c - 1 by show ((c : Int) + -1).toNat = c - 1; omega] at q4
        exact Or.inr ⟨⟨⟨⟨by omega, by omega⟩, q4⟩, q1⟩, q2⟩
end W2

