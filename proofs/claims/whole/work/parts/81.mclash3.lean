/-! the reference: its count of clashes and its first clash are the class's -/
theorem sN_add (C D : Nat → Int) : ∀ n, sumN C n + sumN D n = sumN (fun k => C k + D k) n
  | 0 => rfl
  | n + 1 => by
    have h := sN_add C D n
    show sumN C n + C n + (sumN D n + D n) = sumN (fun k => C k + D k) n + (C n + D n)
    omega
theorem sN_sh (C : Nat → Int) : ∀ n, sumN C (n + 1) = C 0 + sumN (fun k => C (k + 1)) n
  | 0 => by show 0 + C 0 = C 0 + 0; omega
  | n + 1 => by
    have h := sN_sh C n
    show sumN C (n + 1) + C (n + 1) = C 0 + (sumN (fun k => C (k + 1)) n + C (n + 1))
    omega
theorem sN_swap (C : Nat → Nat → Int) (n : Nat) : ∀ k, sumN (fun t => sumN (fun a => C t a) n) k = sumN (fun a => sumN (fun t => C t a) k) n
  | 0 => (sumN_zero (fun _ _ => rfl)).symm
  | k + 1 => by
    have h := sN_swap C n k
    show sumN (fun t => sumN (fun a => C t a) n) k + sumN (fun a => C k a) n = _
    rw [h, sN_add]
    rfl
theorem sN_cut (C : Nat → Int) {l : Nat} : ∀ k, l ≤ k → (∀ t, l ≤ t → t < k → C t = 0) → sumN C k = sumN C l
  | 0, h, _ => by rw [show l = 0 by omega]
  | k + 1, h, hz => by
    by_cases e : l = k + 1
    · rw [e]
    · have h1 := sN_cut C k (by omega) (fun t q1 q2 => hz t q1 (by omega))
      have h2 := hz k (by omega) (by omega)
      show sumN C k + C k = _
      omega
theorem clR_0 {P : Nat → Int} {a b t : Nat} : clR P a b (t + 1) 0 = decide (soc P a b t = 0) := by
  unfold clR soc
  rw [if_pos rfl]
  by_cases e : P (41 * a + (t + 1)) = P (41 * b + (t + 1))
  · rw [if_pos e, decide_eq_true e]; rfl
  · rw [if_neg e, decide_eq_false e]
    split <;> rfl
theorem clR_1 {P : Nat → Int} {a b t : Nat} : clR P a b (t + 1) 1 = decide (soc P a b t = 1) := by
  unfold clR soc
  rw [if_neg (by decide), show t + 1 - 1 = t from rfl]
  by_cases e : P (41 * a + (t + 1)) = P (41 * b + (t + 1))
  · rw [if_pos e]
    exact decide_eq_false (fun q => q.2.1 (by omega))
  · rw [if_neg e]
    by_cases e2 : P (41 * a + (t + 1)) = P (41 * b + t) ∧ P (41 * b + (t + 1)) = P (41 * a + t)
    · rw [if_pos e2]
      exact decide_eq_true ⟨by omega, fun q => e (by omega), e2.1, e2.2⟩
    · rw [if_neg e2]
      exact decide_eq_false (fun q => e2 ⟨q.2.2.1, q.2.2.2⟩)
theorem clR_s {P : Nat → Int} {a b t s : Nat} (hs : s < 2) : clR P a b (t + 1) s = decide (soc P a b t = s) := by
  have : s = 0 ∨ s = 1 := by omega
  rcases this with e | e
  · subst e; exact clR_0
  · subst e; exact clR_1
theorem clR_bi (P : Nat → Int) (a b t : Nat) : bi (clR P a b (t + 1) 0) + bi (clR P a b (t + 1) 1) = bi (decide (soc P a b t ≠ -1)) := by
  rw [clR_0, clR_1]
  rcases soc_rg P a b t with e | e | e <;> rw [e] <;> rfl
theorem clR_t0 {P : Nat → Int} {a b s : Nat} (h : P (41 * a) ≠ P (41 * b)) : clR P a b 0 s = false := by
  unfold clR
  split
  · exact decide_eq_false h
  · exact decide_eq_false (fun q => q.1 rfl)
theorem fT_cc {P : Nat → Int} {n last : Nat} (hl : last ≤ 40) (h0 : ∀ a b, a < b → b < n → P (41 * a) ≠ P (41 * b)) (he : ∀ a b t, a < b → b < n → last ≤ t → t < 40 → soc P a b t = -1) : fT P n 41 = ccN P n last := by
  have e1 : ∀ t, fS P n (t + 1) 2 = sumN (fun a => sumN (fun j => bi (decide (soc P a (a + 1 + j) t ≠ -1))) (n - 1 - a)) n := fun t => by
    show 0 + fA P n (t + 1) 0 n + fA P n (t + 1) 1 n = _
    rw [Int.zero_add]
    unfold fA
    rw [sN_add]
    refine sumN_cong fun a ha => ?_
    unfold fB cntN
    rw [sN_add]
    exact sumN_cong fun j hj => clR_bi P a (a + 1 + j) t
  have e0 : fS P n 0 2 = 0 := by
    unfold fS
    refine sumN_zero fun s hs => ?_
    unfold fA
    refine sumN_zero fun a ha => ?_
    unfold fB cntN
    refine sumN_zero fun j hj => ?_
    show bi (clR P a (a + 1 + j) 0 s) = 0
    rw [clR_t0 (h0 a (a + 1 + j) (by omega) (by omega))]
    rfl
  unfold fT
  rw [sN_sh, e0, Int.zero_add, sumN_cong (fun t _ => e1 t), sN_swap]
  unfold ccN
  refine sumN_cong fun a ha => ?_
  rw [sN_swap]
  refine sumN_cong fun j hj => ?_
  unfold cntN
  refine sN_cut _ 40 hl (fun t h1 h2 => ?_)
  rw [he a (a + 1 + j) t (by omega) (by omega) h1 h2]
  rfl
theorem fsB_t {P : Nat → Int} {n t s a b : Nat} (h0 : ∀ a b, a < b → b < n → P (41 * a) ≠ P (41 * b)) (h : fsB P n t s a b) : ∃ u, t = u + 1 := by
  obtain ⟨⟨q1, q2, q3, q4⟩, q5, -⟩ := h
  cases t with
  | zero => rw [clR_t0 (h0 a b q3 q4)] at q5; cases q5
  | succ u => exact ⟨u, rfl⟩
theorem fsB_fsC {P : Nat → Int} {n u s a b : Nat} (h : fsB P n (u + 1) s a b) : fsC P n u s a b := by
  obtain ⟨⟨q1, q2, q3, q4⟩, q5, q6⟩ := h
  have no : ∀ t' s' a' b', s' < 2 → a' < b' → b' < n → lxb (t' + 1) s' a' b' (u + 1) s a b → soc P a' b' t' ≠ s' := fun t' s' a' b' w1 w2 w3 w4 => by
    have := q6 (t' + 1) s' a' b' w1 w2 w3 w4
    rw [clR_s w1] at this
    exact of_decide_eq_false this
  rw [clR_s q2] at q5
  refine ⟨?_, ⟨q3, q4, of_decide_eq_true q5, fun a' b' w1 w2 w3 => no u s a' b' q2 w1 w2 (Or.inr ⟨rfl, Or.inr ⟨rfl, w3⟩⟩)⟩, fun t' ht => ⟨fun a' b' w1 w2 => no t' 0 a' b' (by omega) w1 w2 (Or.inl (by omega)), fun a' b' w1 w2 => no t' 1 a' b' (by omega) w1 w2 (Or.inl (by omega))⟩⟩
  have : s = 0 ∨ s = 1 := by omega
  rcases this with e | e
  · left; rw [e]; rfl
  · right
    subst e
    exact ⟨rfl, fun a' b' w1 w2 => no u 0 a' b' (by omega) w1 w2 (Or.inr ⟨rfl, Or.inl (by omega)⟩)⟩
/-- the first clash comes ahead of the last cart's end -/
theorem fsC_lt {P : Nat → Int} {n last u a b : Nat} {s : Int} (he : ∀ a b t, a < b → b < n → last ≤ t → t < 40 → soc P a b t = -1) (hu : u < 40) (h : fsC P n u s a b) : u < last := by
  by_cases e : u < last
  · exact e
  · have h1 := he a b u h.2.1.1 h.2.1.2.1 (by omega) hu
    have h2 := h.2.1.2.2.1
    rcases h.1 with q | ⟨q, -⟩ <;> omega
/-- carts that stay apart do not clash -/
theorem soc_apart {P : Nat → Int} {a b t : Nat} {x y : Int} (ha : P (41 * a + t) = x) (ha1 : P (41 * a + (t + 1)) = x) (hb : P (41 * b + t) = y) (hb1 : P (41 * b + (t + 1)) = y) (h : x ≠ y) : soc P a b t = -1 := by
  unfold soc
  rw [ha, ha1, hb, hb1, if_neg h, if_neg (fun q => h q.1)]

