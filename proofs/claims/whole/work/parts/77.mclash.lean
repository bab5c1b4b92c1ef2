/-! the reference: ways that are kept, costs, clashes -/
/-- from the end back to where it is not there -/
def ctN (f : Nat → Int) : Nat → Nat
  | 0 => 0
  | t + 1 => if f t = f 40 then ctN f t else t + 1
theorem ctN_le (f : Nat → Int) : ∀ t, ctN f t ≤ t
  | 0 => Nat.le_refl 0
  | t + 1 => by
    unfold ctN
    split
    · exact Nat.le_succ_of_le (ctN_le f t)
    · exact Nat.le_refl _
theorem ctN_eq {f : Nat → Int} {le : Nat} (h1 : ∀ t, le ≤ t → t ≤ 40 → f t = f 40) (h2 : 0 < le → f (le - 1) ≠ f 40) : ∀ t, le ≤ t → t ≤ 40 → ctN f t = le
  | 0, ht, _ => by have : le = 0 := by omega
                   subst this; rfl
  | t + 1, ht, h4 => by
    unfold ctN
    by_cases e : le = t + 1
    · subst e
      rw [if_neg (show f t ≠ f 40 from h2 (by omega))]
    · rw [if_pos (h1 t (by omega) (by omega))]
      exact ctN_eq h1 h2 t (by omega) (by omega)
theorem ctN_cg {f g : Nat → Int} (h : ∀ t, t ≤ 40 → f t = g t) : ∀ t, t ≤ 40 → ctN f t = ctN g t
  | 0, _ => rfl
  | t + 1, ht => by unfold ctN; rw [h t (by omega), h 40 (by omega), ctN_cg h t (by omega)]
/-- the cost of a best way is told by the way -/
theorem wyt_ct {SO so : Nat → Int} {cols rows : Nat} {bc bm : Nat → Int} {mv ce : Nat → BitVec 64} {pl g : Nat} (w : WH SO so cols rows bc bm mv ce) (hp : gIn cols rows pl) (hp1 : SO pl ≠ 1) (hg : g < 36) {le : Nat} (hl : lcs (lvF SO cols rows) mv ce pl g = le) : ctN (wyt (lvF SO cols rows) mv ce pl g) 40 = le ∧ le ≤ 40 ∧ (∀ t, le ≤ t → wyt (lvF SO cols rows) mv ce pl g t = g) ∧ wyt (lvF SO cols rows) mv ce pl g 0 = pl := by
  have hle40 := (lcs_rg (lvF SO cols rows) mv ce pl g).2
  rw [hl] at hle40
  unfold lcs at hl
  rcases fstN_cases (fun t => decide (ffr ce g 41 ≤ t) && (hsN (lvF SO cols rows) mv ce pl t).getLsbD g) 41 with ⟨h9, -⟩ | ⟨k, hk, e1, e2, e3⟩
  · rw [hl] at h9; omega
  have ek : k = le := by rw [e1] at hl; omega
  subst ek
  simp only [Bool.and_eq_true] at e2
  have hf := of_decide_eq_true e2.1
  have hhs := e2.2
  have hce : ∀ t, t < 41 → (hsN (lvF SO cols rows) mv ce pl t).getLsbD g = true → (ce t).getLsbD g = false := fun t ht hh => by
    cases t with
    | zero =>
      have h2 : ((bt1 pl) &&& (ce 0 ^^^ FF)).getLsbD g = true := hh
      rw [BitVec.getLsbD_and, Bool.and_eq_true, nb (by omega)] at h2
      simpa using h2.2
    | succ t => exact ((stp_iff hg).mp (show (stp (lvF SO cols rows) mv ce (hsN (lvF SO cols rows) mv ce pl t) (t + 1)).getLsbD g = true from hh)).1
  have hcek := hce k hk hhs
  have hl2 : lcs (lvF SO cols rows) mv ce pl g = k := e1
  have hwy : ∀ t, wyt (lvF SO cols rows) mv ce pl g t = if t ≤ k then (pth (lvF SO cols rows) mv (fun u => bkD (lvF SO cols rows) mv ce g k (k - u)) pl t : Int) else (g : Int) := fun t => by
    unfold wyt
    rw [hl2, Int.toNat_natCast]
  have hend := pth_end w hp hp1 hg hk hcek hhs
  have hwg : ∀ t, k ≤ t → wyt (lvF SO cols rows) mv ce pl g t = g := fun t ht => by
    rw [hwy t]
    by_cases e : t ≤ k
    · have : t = k := by omega
      rw [if_pos e, this, hend]
    · rw [if_neg e]
  refine ⟨ctN_eq (fun t h1 h2 => by rw [hwg t h1, hwg 40 (by omega)]) (fun h0 q => ?_) 40 (by omega) (Nat.le_refl _), by omega, hwg, by rw [hwy 0, if_pos (Nat.zero_le _)]; rfl⟩
  rw [hwg 40 (by omega), hwy (k - 1), if_pos (by omega)] at q
  have hE := eS_pth w hp hp1 hg hk hcek hhs (k - 1) (by omega)
  unfold eS at hE
  rw [Bool.and_eq_true] at hE
  have h1 := hE.1
  rw [show pth (lvF SO cols rows) mv (fun u => bkD (lvF SO cols rows) mv ce g k (k - u)) pl (k - 1) = g by omega] at h1
  have h2 := hce (k - 1) (by omega) h1
  have h3 := e3 (k - 1) (by omega)
  rw [h1, Bool.and_true] at h3
  have h4 := of_decide_eq_false h3
  /- the last forbidden time is k - 1 -/
  have hff : ∀ n, ffr ce g n = k → 0 < k → (ce (k - 1)).getLsbD g = true := by
    intro n
    induction n with
    | zero => intro h9 h8; have : (0 : Nat) = k := h9; omega
    | succ n ih =>
      intro h9 h8
      unfold ffr at h9
      by_cases e : (ce n).getLsbD g = true
      · rw [if_pos e] at h9
        rw [← h9, show n + 1 - 1 = n by omega]
        exact e
      · rw [if_neg e] at h9
        exact ih h9 h8
  have := hff 41 (by omega) h0
  rw [h2] at this
  cases this

