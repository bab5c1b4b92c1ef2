/-! the reference: feed -/
theorem m255 : ∀ i : Fin 32, (255#32).getLsbD i = decide ((i : Nat) < 8) := by decide
theorem sh_low (b : BitVec 32) (s : Nat) (hs : s ≤ 24) : b.sshiftRight s &&& 255#32 = (b >>> s) &&& 255#32 := by
  refine BitVec.eq_of_getLsbD_eq fun i hi => ?_
  rw [BitVec.getLsbD_and, BitVec.getLsbD_and, m255 ⟨i, hi⟩]
  by_cases h : i < 8
  · rw [decide_eq_true (show ((⟨i, hi⟩ : Fin 32) : Nat) < 8 from h), Bool.and_true, Bool.and_true, BitVec.getLsbD_sshiftRight, BitVec.getLsbD_ushiftRight]
    simp [show ¬ 32 ≤ i by omega, show s + i < 32 by omega]
  · rw [decide_eq_false (show ¬ ((⟨i, hi⟩ : Fin 32) : Nat) < 8 from h), Bool.and_false, Bool.and_false]
theorem oct_s (z : Int) : ∀ j : Fin 4, (ii z >>> (ii ((24 - 8 * (j : Nat) : Nat) : Int) &&& 31)) &&& ii 255 = ii (oct z j) := by
  intro j
  rw [← oct_u z j]
  apply Int32.toBitVec_inj.mp
  rw [Int32.toBitVec_and, Int32.toBitVec_and, Int32.toBitVec_shiftRight]
  match j with
  | 0 => exact sh_low (ii z).toBitVec 24 (by decide)
  | 1 => exact sh_low (ii z).toBitVec 16 (by decide)
  | 2 => exact sh_low (ii z).toBitVec 8 (by decide)
  | 3 => exact sh_low (ii z).toBitVec 0 (by decide)
def wsl (a b c d e : Int) (k : Nat) : Int := if k < 4 then a else if k < 8 then b else if k < 12 then c else if k < 16 then d else e
def fdK (tx : Nat → Int) (len : Nat) (a b c d e : Int) (k : Nat) : Nat → Int := fun i => if len ≤ i ∧ i < len + k then oct (wsl a b c d e (i - len)) ((i - len) % 4) else tx i
theorem fdK_up (tx : Nat → Int) (len : Nat) (a b c d e : Int) (k : Nat) : va_up (fdK tx len a b c d e k) (len + k) (oct (wsl a b c d e k) (k % 4)) = fdK tx len a b c d e (k + 1) := by
  funext i
  unfold va_up fdK
  by_cases h : i = len + k
  · rw [if_pos h, if_pos (by omega), show i - len = k by omega]
  · rw [if_neg h]
    by_cases h2 : len ≤ i ∧ i < len + k
    · rw [if_pos h2, if_pos (by omega)]
    · rw [if_neg h2, if_neg (by omega)]
theorem fdK_T (tx : Nat → Int) (len : Nat) (a b c d e : Int) : fdK tx len a b c d e 20 = fdT tx len a b c d e := by
  funext i
  unfold fdK fdT apT wsl
  by_cases h : len ≤ i ∧ i < len + 20
  · obtain ⟨u, hu⟩ : ∃ u, i = len + u := ⟨i - len, by omega⟩
    subst hu
    rw [if_pos h, show len + u - len = u by omega]
    by_cases h1 : u < 4
    · rw [if_pos h1, if_neg (by omega), if_neg (by omega), if_neg (by omega), if_neg (by omega), if_pos (by omega)]
      congr 1; omega
    · by_cases h2 : u < 8
      · rw [if_neg h1, if_pos h2, if_neg (by omega), if_neg (by omega), if_neg (by omega), if_pos (by omega)]
        congr 1; omega
      · by_cases h3 : u < 12
        · rw [if_neg h1, if_neg h2, if_pos h3, if_neg (by omega), if_neg (by omega), if_pos (by omega)]
          congr 1; omega
        · by_cases h4 : u < 16
          · rw [if_neg h1, if_neg h2, if_neg h3, if_pos h4, if_neg (by omega), if_pos (by omega)]
            congr 1; omega
          · rw [if_neg h1, if_neg h2, if_neg h3, if_neg h4, if_pos (by omega)]
            congr 1; omega
  · rw [if_neg h, if_neg (by omega), if_neg (by omega), if_neg (by omega), if_neg (by omega), if_neg (by omega)]

