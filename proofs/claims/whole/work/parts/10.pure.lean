/-! plain words: first, count, sum -/
def fstN (p : Nat → Bool) (n : Nat) : Int := match (List.range n).find? p with
  | some j => (j : Int)
  | none => -1
theorem fstN_none {p : Nat → Bool} {n : Nat} (h : ∀ j, j < n → p j = false) : fstN p n = -1 := by
  have : (List.range n).find? p = none := by
    rw [List.find?_eq_none]
    intro x hx
    rw [h x (List.mem_range.mp hx)]
    decide
  unfold fstN
  rw [this]
theorem fstN_some {p : Nat → Bool} {n k : Nat} (hk : k < n) (hp : p k = true) (h : ∀ j, j < k → p j = false) : fstN p n = k := by
  have : (List.range n).find? p = some k := by
    rw [List.find?_range_eq_some]
    exact ⟨hp, List.mem_range.mpr hk, fun j hj => by rw [h j hj]; rfl⟩
  unfold fstN
  rw [this]
theorem fstN_cases (p : Nat → Bool) (n : Nat) : (fstN p n = -1 ∧ ∀ j, j < n → p j = false) ∨ ∃ k, k < n ∧ fstN p n = k ∧ p k = true ∧ ∀ j, j < k → p j = false := by
  by_cases h : ∃ k, k < n ∧ p k = true
  · obtain ⟨k, ⟨hk, hp⟩, hm⟩ := pk_least _ h
    have hj : ∀ j, j < k → p j = false := fun j hj => by
      cases e : p j with
      | false => rfl
      | true => exact absurd ⟨by omega, e⟩ (hm j hj)
    exact Or.inr ⟨k, hk, fstN_some hk hp hj, hp, hj⟩
  · have hj : ∀ j, j < n → p j = false := fun j hj => by
      cases e : p j with
      | false => rfl
      | true => exact absurd ⟨j, hj, e⟩ h
    exact Or.inl ⟨fstN_none hj, hj⟩
theorem fstN_cong {p q : Nat → Bool} {n : Nat} (h : ∀ j, j < n → p j = q j) : fstN p n = fstN q n := by
  rcases fstN_cases p n with ⟨e, hj⟩ | ⟨k, hk, e, hp, hj⟩
  · rw [e, fstN_none fun j hj2 => by rw [← h j hj2]; exact hj j hj2]
  · rw [e, fstN_some hk (by rw [← h k hk]; exact hp) fun j hj2 => by rw [← h j (by omega)]; exact hj j hj2]
theorem fstN_rg (p : Nat → Bool) (n : Nat) : -1 ≤ fstN p n ∧ fstN p n < n + 1 ∧ (fstN p n < n ∨ n = 0) := by
  rcases fstN_cases p n with ⟨e, -⟩ | ⟨k, hk, e, -⟩ <;> omega
def sumN (C : Nat → Int) : Nat → Int
  | 0 => 0
  | n + 1 => sumN C n + C n
theorem sumN_cong {C D : Nat → Int} : ∀ {n : Nat}, (∀ k, k < n → C k = D k) → sumN C n = sumN D n
  | 0, _ => rfl
  | n + 1, h => by rw [sumN, sumN, sumN_cong (fun k hk => h k (by omega)), h n (by omega)]
theorem sumN_rg {C : Nat → Int} {a b : Int} : ∀ {n : Nat}, (∀ k, k < n → a ≤ C k ∧ C k ≤ b) → a * n ≤ sumN C n ∧ sumN C n ≤ b * n
  | 0, _ => by simp [sumN]
  | n + 1, h => by
    have h1 := sumN_rg (n := n) (fun k hk => h k (by omega))
    have h2 := h n (by omega)
    have e1 : a * ((n + 1 : Nat) : Int) = a * n + a := by rw [Int.natCast_add, Int.mul_add]; simp
    have e2 : b * ((n + 1 : Nat) : Int) = b * n + b := by rw [Int.natCast_add, Int.mul_add]; simp
    rw [sumN, e1, e2]
    omega
def cntN (p : Nat → Bool) (n : Nat) : Int := sumN (fun k => bi (p k)) n
theorem cntN_succ (p : Nat → Bool) (n : Nat) : cntN p (n + 1) = cntN p n + bi (p n) := rfl
theorem cntN_cong {p q : Nat → Bool} {n : Nat} (h : ∀ k, k < n → p k = q k) : cntN p n = cntN q n := sumN_cong fun k hk => by rw [h k hk]
theorem bi_f {b : Bool} (h : bi b = 0) : b = false := by cases b <;> simp_all [bi]
theorem bi_t {b : Bool} (h : bi b ≠ 0) : b = true := by cases b <;> simp_all [bi]
theorem bi_le (b : Bool) : 0 ≤ bi b ∧ bi b ≤ 1 := by cases b <;> decide
theorem cntN_rg (p : Nat → Bool) (n : Nat) : 0 ≤ cntN p n ∧ cntN p n ≤ n := by
  have := sumN_rg (C := fun k => bi (p k)) (a := 0) (b := 1) (n := n) (fun k _ => bi_le (p k))
  unfold cntN
  omega
def mxN (C : Nat → Int) : Nat → Int
  | 0 => 0
  | n + 1 => if mxN C n < C n then C n else mxN C n
theorem mxN_rg {C : Nat → Int} {b : Int} (hb : 0 ≤ b) : ∀ {n : Nat}, (∀ k, k < n → C k ≤ b) → 0 ≤ mxN C n ∧ mxN C n ≤ b
  | 0, _ => ⟨Int.le_refl 0, hb⟩
  | n + 1, h => by
    have h1 := mxN_rg hb (n := n) (fun k hk => h k (by omega))
    have h2 := h n (by omega)
    rw [mxN]
    split <;> omega
theorem hput_hput (σ : AH) (a : Nat) (e e' : AE) : hput (hput σ a e) a e' = hput σ a e' := by
  unfold hput
  refine Prod.ext rfl ?_
  funext b
  by_cases h : b = a <;> simp [h]
theorem hput_comm (σ : AH) {a b : Nat} (e e' : AE) (h : a ≠ b) : hput (hput σ a e) b e' = hput (hput σ b e') a e := by
  unfold hput
  refine Prod.ext rfl ?_
  funext c
  by_cases h1 : c = a
  · have h2 : c ≠ b := fun q => h (h1.symm.trans q)
    simp [h1, h]
  · by_cases h2 : c = b <;> simp [h1, h2]
    exact fun q => absurd q.symm h
theorem hput_id {σ : AH} {a : Nat} {e : AE} (h : σ.2 a = some e) : hput σ a e = σ := by
  unfold hput
  refine Prod.ext rfl ?_
  funext b
  by_cases q : b = a
  · subst q; simp [h]
  · simp [q]
def bt1 (c : Nat) : BitVec 64 := (1#64) <<< c
theorem hnew_at {σ : AH} (e : AE) {b : Nat} (h : b = σ.1) : (hnew σ e).2 b = some e := by rw [h]; exact hnew_s _ _

