/-! CartPaths: the trees -/
def cel (r : Nat) : Nat := if r = 0 then 0 else 7 + 2 * r
def slo (r : Nat) : Nat := if r = 0 then 0 else 733 + 53 * r
noncomputable def upR (R : Nat → Nat) (z : PS) (bd : Int) : Nat → Nat := va_up R (bd - 10).toNat (1 + max (R (bd - 10).toNat - 1) (tT (bZ z bd)))
def sumT (f : Nat → Nat) : Nat → Nat
  | 0 => 0
  | n + 1 => sumT f n + f n
theorem sumT_0 {f : Nat → Nat} : ∀ n, (∀ k, k < n → f k = 0) → sumT f n = 0
  | 0, _ => rfl
  | n + 1, h => by rw [sumT, sumT_0 n (fun k hk => h k (by omega)), h n (by omega)]
theorem sumT_1 {f : Nat → Nat} {b : Nat} : ∀ n, b < n → (∀ k, k < n → k ≠ b → f k = 0) → sumT f n = f b
  | 0, hb, _ => absurd hb (Nat.not_lt_zero b)
  | n + 1, hb, h => by
    rw [sumT]
    by_cases e : b = n
    · rw [sumT_0 n (fun k hk => h k (by omega) (by omega)), e, Nat.zero_add]
    · rw [sumT_1 n (by omega) (fun k hk => h k (by omega)), h n (by omega) (fun q => e q.symm), Nat.add_zero]
/-- how many cells, slots the trees have grown -/
def dC (R R' : Nat → Nat) : Nat := sumT (fun b => cel (R' b) - cel (R b)) 22
def dS (R R' : Nat → Nat) : Nat := sumT (fun b => slo (R' b) - slo (R b)) 22
theorem dC_self (R : Nat → Nat) : dC R R = 0 := sumT_0 22 (fun k _ => Nat.sub_self _)
theorem dS_self (R : Nat → Nat) : dS R R = 0 := sumT_0 22 (fun k _ => Nat.sub_self _)
theorem dC_up (R : Nat → Nat) {b : Nat} (r : Nat) (hb : b < 22) : dC R (va_up R b r) = cel r - cel (R b) := by
  unfold dC
  rw [sumT_1 (b := b) 22 hb (fun k _ hne => by unfold va_up; rw [if_neg hne]; exact Nat.sub_self _)]
  unfold va_up
  rw [if_pos rfl]
theorem dS_up (R : Nat → Nat) {b : Nat} (r : Nat) (hb : b < 22) : dS R (va_up R b r) = slo r - slo (R b) := by
  unfold dS
  rw [sumT_1 (b := b) 22 hb (fun k _ hne => by unfold va_up; rw [if_neg hne]; exact Nat.sub_self _)]
  unfold va_up
  rw [if_pos rfl]
def bOK (bd : Int) : Bool := decide (10 ≤ bd ∧ bd ≤ 30)
noncomputable def rG (g : Bool) (R : Nat → Nat) (z : PS) (bd : Int) : Nat → Nat := if g = true then upR R z bd else R
theorem rG_t {g : Bool} {R : Nat → Nat} {z : PS} {bd : Int} (h : g = true) : rG g R z bd = upR R z bd := if_pos h
theorem rG_f {g : Bool} {R : Nat → Nat} {z : PS} {bd : Int} (h : g = false) : rG g R z bd = R := if_neg (by rw [h]; decide)
theorem okP_0 : okP (fun _ => 0) := fun k => ⟨Int.le_refl 0, by show (0 : Int) < 36; decide⟩
theorem okC_0 : okC (fun _ => 0) := fun k => ⟨by show (-1 : Int) ≤ 0; decide, by show (0 : Int) ≤ 40; decide⟩
theorem own_lt {σ : AH} {x lo : Nat} {R : Nat → Nat} {TA : Nat → Nat × (Nat → Nat)} {ve : Nat} {z : PS} (h : TRS σ x lo R TA ve z) (hx : x + 45 ≤ σ.1) {b : Nat} (hb : b < 22) (hr : R b ≠ 0) {a : Nat} (ha : ownT (TA b) (R b - 1) a) : a < σ.1 ∧ (inb (x + 36) 9 a ∨ lo ≤ a) := by
  obtain ⟨h1, h2, h3, h4, h5, h6, h7⟩ := h
  obtain ⟨q1, tv, q2, q3, q4⟩ := h6 b hb hr
  obtain ⟨nc, spl, lo', pl, cu, n1, P1, C1, n2, P2, C2, -, hN, -⟩ := q3
  rcases ha with ⟨i1, i2⟩ | ⟨k, hk, hq⟩
  · by_cases hb2 : b < 21
    · have := h5 b hb2 hr
      exact ⟨by omega, Or.inr (by omega)⟩
    · have : b = 21 := by omega
      subst this
      rw [h4] at i1 i2
      exact ⟨by omega, Or.inl ⟨i1, i2⟩⟩
  · have g1 := q1 k hk
    have g2 := hN.2.2.2 k hk
    exact ⟨by omega, Or.inr (by omega)⟩
theorem TRS.bld {σ σ' : AH} {x lo : Nat} {R : Nat → Nat} {TA : Nat → Nat × (Nat → Nat)} {ve : Nat} {z : PS} (h : TRS σ x lo R TA ve z) (hx : x + 54 ≤ lo) (hlo : lo ≤ σ.1) {b M M' : Nat} {ad' : Nat → Nat} {tv : Int} (hb : b < 22) (hM : R b = M + 1) (hMM : M ≤ M') (hM3 : M' ≤ 301) (hE : eqG σ σ' (fun a => inb (TA b).1 9 a ∨ inb (x + 28) 4 a ∨ ownF (TA b).2 M a)) (a1 : ∀ k, k < M → ad' k = (TA b).2 k) (a2 : ∀ k, M ≤ k → k < M' → σ.1 ≤ ad' k) (htv : -1 ≤ tv ∧ tv ≤ ve) (hk : TRk σ' (TA b).1 M' ad' tv) (hv : b < 21 → tv = ve → TRb σ' (TA b).1 M' ad' tv z (b + 10)) : TRS σ' x lo (va_up R b (1 + M')) (va_up TA b ((TA b).1, ad')) ve z := by
  have hol := @own_lt σ x lo R TA ve z h (by omega)
  have h' := h
  obtain ⟨h1, h2, h3, h4, h5, h6, h7⟩ := h'
  have hTlo : ∀ a, inb (TA b).1 9 a → inb (x + 36) 9 a ∨ lo ≤ a := fun a i => (hol hb (by omega) (Or.inl i)).2
  have hNlo : ∀ a, ownF (TA b).2 M a → lo ≤ a := fun a ⟨k, hk, hq⟩ => by
    have := (h6 b hb (by omega)).1 k (by omega)
    omega
  have eR : ∀ b', va_up R b (1 + M') b' = 0 ↔ R b' = 0 := fun b' => by
    unfold va_up
    split
    · rename_i e; rw [e]; omega
    · exact Iff.rfl
  have eT : ∀ b', (va_up TA b ((TA b).1, ad') b').1 = (TA b').1 := fun b' => by
    unfold va_up
    split
    · rename_i e; rw [e]
    · rfl
  have oth9 : ∀ b', b' < 22 → b' ≠ b → R b' ≠ 0 → ∀ a, ownT (TA b') (R b' - 1) a → σ'.2 a = σ.2 a := by
    intro b' hb' hne hr a ha
    obtain ⟨l1, l2⟩ := hol hb' hr ha
    refine hE.2 a l1 ?_
    rintro (i | i | i)
    · exact h7 b' b hb' hb hne hr (by omega) a ha (Or.inl i)
    · unfold inb at *; omega
    · exact h7 b' b hb' hb hne hr (by omega) a ha (Or.inr (by rw [hM]; exact i))
  refine ⟨?_, fun b' => ?_, ?_, ?_, fun b' hb' hr => ?_, fun b' hb' hr => ?_, fun b1 b2 g1 g2 g3 g4 g5 a => ?_⟩
  · rw [hE.2 (x + 35) (by omega) (by
      rintro (i | i | i)
      · have := hTlo _ i; unfold inb at *; omega
      · unfold inb at i; omega
      · have := hNlo _ i; omega), h1]
    congr 2
    funext b'
    rw [eT b']
    by_cases e : R b' = 0
    · rw [if_pos e, if_pos ((eR b').mpr e)]
    · rw [if_neg e, if_neg (fun q => e ((eR b').mp q))]
  · unfold va_up
    split
    · omega
    · exact h2 b'
  · exact fun q => h3 ((eR 21).mp q)
  · rw [eT]; exact h4
  · rw [eT b']
    have := h5 b' hb' (fun q => hr ((eR b').mpr q))
    have := hE.1
    omega
  · by_cases e : b' = b
    · subst e
      unfold va_up at hr ⊢
      rw [if_pos rfl] at hr ⊢
      rw [if_pos rfl]
      rw [show 1 + M' - 1 = M' by omega]
      refine ⟨fun k hk2 => ?_, tv, htv, hk, hv⟩
      show lo ≤ ad' k
      by_cases hkM : k < M
      · rw [a1 k hkM]
        exact (h6 b' hb (by omega)).1 k (by omega)
      · have := a2 k (by omega) hk2
        omega
    · unfold va_up at hr ⊢
      rw [if_neg e] at hr ⊢
      rw [if_neg e]
      obtain ⟨q1, tv2, q2, q3, q4⟩ := h6 b' hb' hr
      exact ⟨q1, tv2, q2, q3.kp hE.1 (oth9 b' hb' e hr), fun g1 g2 => (q4 g1 g2).kp hE.1 (oth9 b' hb' e hr)⟩
  · have new : ∀ b', b' < 22 → b' ≠ b → R b' ≠ 0 → ∀ a, ownT (TA b') (R b' - 1) a → ¬ ownT ((TA b).1, ad') M' a := by
      intro b' hb' hne hr a ha
      obtain ⟨l1, -⟩ := hol hb' hr ha
      rintro (i | ⟨k, hk2, i⟩)
      · exact h7 b' b hb' hb hne hr (by omega) a ha (Or.inl i)
      · have i' : a = ad' k ∨ a = ad' k + 1 := i
        by_cases hkM : k < M
        · exact h7 b' b hb' hb hne hr (by omega) a ha (Or.inr ⟨k, by omega, by rw [← a1 k hkM]; exact i'⟩)
        · have := a2 k (by omega) hk2
          omega
    unfold va_up at g4 g5 ⊢
    by_cases e1 : b1 = b
    · rw [if_pos e1, if_pos e1]
      rw [if_neg (by omega)] at g5
      rw [if_neg (by omega), if_neg (by omega)]
      intro w1 w2
      rw [show 1 + M' - 1 = M' by omega] at w1
      exact new b2 g2 (by omega) g5 a w2 w1
    · rw [if_neg e1] at g4
      rw [if_neg e1, if_neg e1]
      by_cases e2 : b2 = b
      · rw [if_pos e2, if_pos e2, show 1 + M' - 1 = M' by omega]
        exact fun w1 => new b1 g1 e1 g4 a w1
      · rw [if_neg e2] at g5
        rw [if_neg e2, if_neg e2]
        exact h7 b1 b2 g1 g2 g3 g4 g5 a
/-- a new tree in an empty place -/
theorem TRS.add {σ σ' : AH} {x lo : Nat} {R : Nat → Nat} {TA : Nat → Nat × (Nat → Nat)} {ve : Nat} {z : PS} (h : TRS σ x lo R TA ve z) (hx : x + 54 ≤ lo) (hlo : lo ≤ σ.1) {b : Nat} (hb : b < 21) (hR : R b = 0) (hs : σ'.1 = σ.1 + 9) (hE : ∀ a, a < σ.1 → a ≠ x + 35 → σ'.2 a = σ.2 a) (h35 : σ'.2 (x + 35) = some (aq 4 21 (va_up (fun b => if R b = 0 then none else some (TA b).1) b (some σ.1)))) (hk : TRk σ' σ.1 0 (fun _ => 0) (-1)) : TRS σ' x lo (va_up R b 1) (va_up TA b (σ.1, fun _ => 0)) ve z := by
  have hol := @own_lt σ x lo R TA ve z h (by omega)
  obtain ⟨h1, h2, h3, h4, h5, h6, h7⟩ := h
  refine ⟨?_, fun b' => ?_, ?_, ?_, fun b' hb' hr => ?_, fun b' hb' hr => ?_, fun b1 b2 g1 g2 g3 g4 g5 a => ?_⟩
  · rw [h35]
    congr 2
    funext b'
    unfold va_up
    by_cases e : b' = b
    · rw [if_pos e, if_pos e, if_pos e, if_neg (by decide)]
    · rw [if_neg e, if_neg e, if_neg e]
  · unfold va_up
    split
    · omega
    · exact h2 b'
  · unfold va_up; rw [if_neg (by omega)]; exact h3
  · unfold va_up; rw [if_neg (by omega)]; exact h4
  · unfold va_up at hr ⊢
    by_cases e : b' = b
    · rw [if_pos e]
      show lo ≤ σ.1 ∧ σ.1 + 8 < σ'.1
      omega
    · rw [if_neg e] at hr ⊢
      have := h5 b' hb' hr
      omega
  · by_cases e : b' = b
    · unfold va_up
      rw [if_pos e, if_pos e]
      refine ⟨fun k hk => absurd hk (Nat.not_lt_zero k), -1, ⟨by decide, by omega⟩, hk, fun _ q => by omega⟩
    · unfold va_up at hr ⊢
      rw [if_neg e] at hr ⊢
      rw [if_neg e]
      obtain ⟨q1, tv2, q2, q3, q4⟩ := h6 b' hb' hr
      have e9 : ∀ a, inb (TA b').1 9 a ∨ ownF (TA b').2 (R b' - 1) a → σ'.2 a = σ.2 a := fun a ha => by
        obtain ⟨l1, l2⟩ := hol hb' hr ha
        exact hE a l1 (by unfold inb at l2; omega)
      exact ⟨q1, tv2, q2, q3.kp (by omega) e9, fun g1 g2 => (q4 g1 g2).kp (by omega) e9⟩
  · have new : ∀ b', b' < 22 → b' ≠ b → R b' ≠ 0 → ∀ a, ownT (TA b') (R b' - 1) a → ¬ ownT (σ.1, fun _ => 0) 0 a := by
      intro b' hb' hne hr a ha
      obtain ⟨l1, -⟩ := hol hb' hr ha
      rintro (i | ⟨k, hk2, i⟩)
      · have : σ.1 ≤ a := i.1
        omega
      · omega
    unfold va_up at g4 g5 ⊢
    by_cases e1 : b1 = b
    · rw [if_pos e1, if_pos e1]
      rw [if_neg (by omega)] at g5
      rw [if_neg (by omega), if_neg (by omega)]
      intro w1 w2
      exact new b2 g2 (by omega) g5 a w2 w1
    · rw [if_neg e1] at g4
      rw [if_neg e1, if_neg e1]
      by_cases e2 : b2 = b
      · rw [if_pos e2, if_pos e2]
        exact fun w1 => new b1 g1 e1 g4 a w1
      · rw [if_neg e2] at g5
        rw [if_neg e2, if_neg e2]
        exact h7 b1 b2 g1 g2 g3 g4 g5 a
section X9G
variable {Γ : GT} {σ : AH} {x lo N : Nat} {R : Nat → Nat} {len : Nat} {tx : Nat → Int} {fa : Int} {z : PS} {l : List (Int × Int × Int)} {wl : Nat} {wr : Nat → Int}
/-- trees and search alone have changed -/
theorem CXh.tch {σ σ' : AH} {R' : Nat → Nat} {ve : Nat} {av : Int} {TA' : Nat → Nat × (Nat → Nat)} (h : CXh σ x lo N R len tx fa z l wl wr ve av) (hE : eqG σ σ' (fun a => inb (x + 28) 4 a ∨ inb (x + 35) 10 a ∨ lo ≤ a)) (hs : SRo σ' (x + 28)) (ht : TRS σ' x lo R' TA' ve z) : CXh σ' x lo N R' len tx fa z l wl wr ve av := by
  obtain ⟨h1, h2, h3, h4, h5, q1, q2, q3, q4, q5, q6, q7, q8, -, q10, q11, q12⟩ := h
  have hlo := h1.1
  have hlo2 := h1.2.1
  have e : ∀ a, a < lo → ¬ inb (x + 28) 4 a → ¬ inb (x + 35) 10 a → σ'.2 a = σ.2 a := fun a i1 i2 i3 => hE.2 a (by omega) (by rintro (h | h | h) <;> first | contradiction | omega)
  exact ⟨⟨h1.1, by have := hE.1; omega, h1.2.2⟩, h2, h3, h4, h5, q1, (e _ (by omega) (by unfold inb; omega) (by unfold inb; omega)).trans q2, q3.kp (fun a i => e a (by unfold inb at i; omega) (by unfold inb at i ⊢; omega) (by unfold inb at i ⊢; omega)), q4.keep (fun a i => e a (by unfold inb at i; omega) (by unfold inb at i ⊢; omega) (by unfold inb at i ⊢; omega)), q5.kp (fun a i => e a (by unfold inb at i; omega) (by unfold inb at i ⊢; omega) (by unfold inb at i ⊢; omega)), q6.keep (fun a i => e a (by unfold inb at i; omega) (by unfold inb at i ⊢; omega) (by unfold inb at i ⊢; omega)), hs, q8.kp (fun a i => e a (by unfold inb at i; omega) (by unfold inb at i ⊢; omega) (by unfold inb at i ⊢; omega)), ⟨TA', ht⟩, q10.kp (fun a i => e a (by unfold inb at i; omega) (by unfold inb at i ⊢; omega) (by unfold inb at i ⊢; omega)), q11.kp (fun a i => e a (by unfold inb at i; omega) (by unfold inb at i ⊢; omega) (by unfold inb at i ⊢; omega)), (e _ (by omega) (by unfold inb; omega) (by unfold inb; omega)).trans q12⟩
/-- a build gives a tree, and the one that is asked -/
theorem built {σ σ' : AH} {T M : Nat} {ad : Nat → Nat} {ve : Int} {s : Nat} {z : PS} {bd : Int} (h1 : BI σ T M ad ve (zCa z) s (zPL z) (zGO z) (lvZ z) (bZ z bd) σ') (h2 : BW T (zCa z) (zPL z) (zGO z) (lvZ z) (bZ z bd) σ') : ∃ ad', (∀ k, k < M → ad' k = ad k) ∧ (∀ k, M ≤ k → k < max M (tT (bZ z bd)) → σ.1 ≤ ad' k) ∧ max M (tT (bZ z bd)) ≤ 301 ∧ TRk σ' T (max M (tT (bZ z bd))) ad' ve ∧ TRb σ' T (max M (tT (bZ z bd))) ad' ve z bd ∧ eqG σ σ' (fun a => inb T 9 a ∨ inb s 4 a ∨ ownF ad M a) ∧ SRo σ' s := by
  obtain ⟨ad', hN, a1, a2, hE, t0, hSP, hS, P1, C1, w1, o1, o2, -⟩ := h1
  have h2' := h2
  obtain ⟨n2, P2, C2, w2, o3, o4, -⟩ := h2'
  obtain ⟨m1, m2, m3, m4, m5⟩ := hN
  exact ⟨ad', a1, a2, m1.2.1, ⟨_, _, _, _, _, _, P1, C1, n2, P2, C2, t0, m1, m2, m3, w1, o1, o2, w2, o3, o4, hSP⟩, ⟨t0, ⟨m1, m2, m3, m4, m5⟩, Nat.le_max_right _ _, h2⟩, hE, hS⟩
theorem TRk.ver {σ : AH} {T M : Nat} {ad : Nat → Nat} {ve ve' : Int} {z : PS} {bd : Int} (h : TRk σ T M ad ve) (hb : TRb σ T M ad ve z bd) : TRk (hput σ T (tro T ve' (tN (bZ z bd)) (tS (bZ z bd)) (tL (bZ z bd)) (tP (bZ z bd)) (tC (bZ z bd)))) T M ad ve' ∧ TRb (hput σ T (tro T ve' (tN (bZ z bd)) (tS (bZ z bd)) (tL (bZ z bd)) (tP (bZ z bd)) (tC (bZ z bd)))) T M ad ve' z bd := by
  obtain ⟨nc, spl, lo, pl, cu, n1, P1, C1, n2, P2, C2, h0, h1, h2, h3, h4, o1, o2, h5, o3, o4, SP, h6⟩ := h
  obtain ⟨b0, b1, b2, b3⟩ := hb
  have hne : ∀ a, ownF ad M a → a ≠ T := fun a ⟨k, hk, hq⟩ => by have := (h1.2.2.2 k hk).1; omega
  have e : ∀ a, ownF ad M a → (hput σ T (tro T ve' (tN (bZ z bd)) (tS (bZ z bd)) (tL (bZ z bd)) (tP (bZ z bd)) (tC (bZ z bd)))).2 a = σ.2 a := fun a ha => hput_n _ _ (hne a ha)
  have t1 : TND (hput σ T (tro T ve' (tN (bZ z bd)) (tS (bZ z bd)) (tL (bZ z bd)) (tP (bZ z bd)) (tC (bZ z bd)))) T M ad := h1.kp (Nat.le_refl _) (hput_n _ _ (by omega))
  obtain ⟨c1, c2, c3, c4, c5⟩ := b1
  exact ⟨⟨_, _, _, _, _, n1, P1, C1, n2, P2, C2, hput_s _ _ _, t1, fun k hk => (h2 k hk).kp hk e, fun hm => (h3 hm).kp hm e, h4.keep (fun a i => hput_n _ _ (by unfold inb at i; omega)), o1, o2, h5.keep (fun a i => hput_n _ _ (by unfold inb at i; omega)), o3, o4, SP, (hput_n _ _ (by omega)).trans h6⟩, hput_s _ _ _, ⟨t1, fun k hk => (c2 k hk).kp hk e, fun hm => (c3 hm).kp hm e, c4, fun k hk => NDx.kp (c5 k hk) (by omega) e⟩, b2, b3.kp (fun a i => hput_n _ _ (by unfold inb at i; omega))⟩
def toQ (σ : AH) (x lo N : Nat) (R : Nat → Nat) (len : Nat) (tx : Nat → Int) (fa : Int) (z : PS) (l : List (Int × Int × Int)) (wl : Nat) (wr : Nat → Int) (bd : Int) : Option Value → AH → Prop := fun v σ' => (10 ≤ bd ∧ bd ≤ 30) ∧ ∃ T M ad ve, v = some (.ref T) ∧ CX σ' x lo N (rG (bOK bd) R z bd) len tx fa z l wl wr ∧ eqG σ σ' (fX x lo) ∧ lo ≤ T ∧ T + 8 < σ'.1 ∧ TRb σ' T M ad ve z bd
theorem sp_treeOf (hΓ : Gd Γ) (hX : CX σ x lo N R len tx fa z l wl wr) (bd : Int) (hbd : rg bd) : Sp Γ miX9_treeOf (dC R (rG (bOK bd) R z bd) + 1) (dS R (rG (bOK bd) R z bd) + 6) [.ref x, .int (ii bd)] σ (toQ σ x lo N R len tx fa z l wl wr bd) (qX xIAE (10 ≤ bd ∧ bd ≤ 30) σ) := by
  have hX' := hX
  obtain ⟨ve, av, hh⟩ := hX'
  have hh' := hh
  obtain ⟨h1, h2, h3, h4, h5, q1, q2, q3, q4, q5, q6, q7, q8, ⟨TA, q9⟩, -⟩ := hh'
  have hn := h4.1.1
  have hlo := h1.1
  have hlo2 := h1.2.1
  refine Sp_of (L := [_, _, _]) hΓ (by decide +kernel) rfl (Nat.le_of_ble_eq_true rfl) rfl ?_
  refine g_iload_n q_X9_treeOf_0 rfl ?_
  refine g_bipush q_X9_treeOf_1 bp_10 ?_
  refine g_icmp_lt (tgt := 12) q_X9_treeOf_3 (by decide) hbd ⟨by omega, by omega⟩ (fun e1 => ?_) (fun e1 => ?_)
  · refine g_throw th_IAE q_X9_treeOf_12.1 q_X9_treeOf_15.1 q_X9_treeOf_16.1 q_X9_treeOf_19.1 rfl (by decide) (Nat.le_of_ble_eq_true rfl) (by omega) (by omega) (fun z hz => ?_)
    exact ⟨rfl, by omega, z, hz, rfl⟩
  refine g_iload_n q_X9_treeOf_6 rfl ?_
  refine g_bipush q_X9_treeOf_7 bp_30 ?_
  refine g_icmp_le (tgt := 20) q_X9_treeOf_9 (by decide) hbd ⟨by omega, by omega⟩ (fun e2 => ?_) (fun e2 => ?_)
  case refine_2 =>
    refine g_throw th_IAE q_X9_treeOf_12.1 q_X9_treeOf_15.1 q_X9_treeOf_16.1 q_X9_treeOf_19.1 rfl (by decide) (Nat.le_of_ble_eq_true rfl) (by omega) (by omega) (fun z hz => ?_)
    exact ⟨rfl, by omega, z, hz, rfl⟩
  obtain ⟨b, hb⟩ : ∃ b : Nat, bd = b + 10 := ⟨(bd - 10).toNat, by omega⟩
  have hb21 : b < 21 := by omega
  have eb : (bd - 10).toNat = b := by omega
  have eU : upR R z bd = va_up R b (1 + max (R b - 1) (tT (bZ z bd))) := by unfold upR; rw [eb]
  have eK : bOK bd = true := decide_eq_true (by omega)
  have eRG : rG (bOK bd) R z bd = upR R z bd := rG_t eK
  rw [eRG, eU, dC_up R _ (by omega), dS_up R _ (by omega)]
  /- behind the look whether there is one -/
  have go : ∀ (σ1 : AH) (R1 : Nat → Nat) (TA1 : Nat → Nat × (Nat → Nat)) (M rc rs : Nat), CXh σ1 x lo N R1 len tx fa z l wl wr ve av → TRS σ1 x lo R1 TA1 ve z → R1 b = M + 1 → va_up R1 b (1 + max M (tT (bZ z bd))) = upR R z bd → eqG σ σ1 (fX x lo) → 2 * (max M (tT (bZ z bd)) - M) ≤ rc → 53 * (max M (tT (bZ z bd)) - M) ≤ rs → G Γ miX9_treeOf cX9_treeOf (toQ σ x lo N R len tx fa z l wl wr bd) (qX xIAE (10 ≤ bd ∧ bd ≤ 30) σ) rc rs 52 [some (.ref x), some (.int (ii bd)), some (.ref (TA1 b).1)] [] σ1 := by
    intro σ1 R1 TA1 M rc rs hh1 hT1 hM eR1 hG1 hrc hrs
    have hh1' := hh1
    obtain ⟨k1, k2, k3, k4, k5, k6, kx, -, kS, -, -, kSr, -⟩ := hh1'
    have hT1' := hT1
    obtain ⟨t1, t2, t3, t4, t5, t6, t7⟩ := hT1'
    obtain ⟨n1, tv, n2, n3, n4⟩ := t6 b (by omega) (by omega)
    obtain ⟨n5, n6⟩ := t5 b hb21 (by omega)
    rw [hM, show M + 1 - 1 = M by omega] at n1 n3 n4
    have n3' := n3
    obtain ⟨nc, spl, lo', pl, cu, m1, P1, C1, m2, P2, C2, w0, w1, w2, w3, w4, o1, o2, w5, o3, o4, w6⟩ := n3'
    refine g_aload_n q_X9_treeOf_52 rfl ?_
    refine g_get fl_X9_234 q_X9_treeOf_53 (by repeat first | with_reducible assumption | with_reducible exact hput_s _ _ _ | refine (hput_n _ _ (by omega)).trans ?_ | exact hput_s _ _ _ | assumption) rfl ?_
    refine g_aload_n q_X9_treeOf_56 rfl ?_
    refine g_get fl_X9_83 q_X9_treeOf_57 (by repeat first | with_reducible assumption | with_reducible exact hput_s _ _ _ | refine (hput_n _ _ (by omega)).trans ?_ | exact hput_s _ _ _ | assumption) rfl ?_
    refine g_icmp_eq (tgt := 84) q_X9_treeOf_60 (by decide) ⟨by omega, by omega⟩ ⟨by omega, by omega⟩ (fun b1 => ?_) (fun b1 => ?_)
    · have hv := n4 hb21 b1
      rw [show (b : Int) + 10 = bd from hb.symm] at hv
      refine g_aload_n q_X9_treeOf_84 rfl ?_
      refine g_areturn q_X9_treeOf_85.1 rfl (Or.inl ⟨_, rfl⟩) (Or.inr ⟨_, rfl⟩) ?_
      refine ⟨by omega, (TA1 b).1, M, (TA1 b).2, tv, rfl, ⟨ve, av, ?_⟩, hG1, n5, n6, hv⟩
      rw [eRG]
      have hmx : max M (tT (bZ z bd)) = M := by have := hv.2.2.1; omega
      rw [← eR1, hmx]
      have eq1 : va_up R1 b (1 + M) = R1 := by
        funext k
        unfold va_up
        by_cases e : k = b
        · rw [if_pos e, e, hM]; omega
        · rw [if_neg e]
      rw [eq1]
      exact hh1
    · refine g_aload_n q_X9_treeOf_63 rfl ?_
      refine g_aload_n q_X9_treeOf_64 rfl ?_
      refine g_get fl_X9_19 q_X9_treeOf_65 (by repeat first | with_reducible assumption | with_reducible exact hput_s _ _ _ | refine (hput_n _ _ (by omega)).trans ?_ | exact hput_s _ _ _ | assumption) rfl ?_
      refine g_aload_n q_X9_treeOf_68 rfl ?_
      refine g_get fl_X9_36 q_X9_treeOf_69 (by repeat first | with_reducible assumption | with_reducible exact hput_s _ _ _ | refine (hput_n _ _ (by omega)).trans ?_ | exact hput_s _ _ _ | assumption) rfl ?_
      refine g_iload_n q_X9_treeOf_72 rfl ?_
      refine g_callVN (rc' := 0) (rs' := 0) (As := [_, _, _]) cs_X9_235 q_X9_treeOf_73 (sp_build hΓ (by omega) (by omega) n6 w0 w1 w2 w3 w4 o1 o2 w5 o3 o4 w6 kSr kS.g (okL_z h4.1) h4.1.2.2.1 h4.1.2.2.2.1 hn.2.2 bd ⟨by omega, by omega⟩) rfl (by repeat first | with_reducible assumption | with_reducible exact hput_s _ _ _ | refine (hput_n _ _ (by omega)).trans ?_ | exact hput_s _ _ _ | assumption) rfl rfl rfl rfl (Nat.le_of_ble_eq_true rfl) (by decide) (by show 0 + 2 * (max M (tT (bZ z bd)) - M) ≤ rc; omega) (by show 0 + 53 * (max M (tT (bZ z bd)) - M) ≤ rs; omega) (fun _ _ h => h.elim) (fun v σ2 hq => ?_)
      obtain ⟨rfl, hBI, hBW⟩ := hq
      obtain ⟨ad', a1, a2, a3, a4, a5, a6, a7⟩ := built (bd := bd) (z := z) hBI hBW
      obtain ⟨a4', a5'⟩ := a4.ver (ve' := (ve : Int)) a5
      have hown : ∀ a, ownF (TA1 b).2 M a → lo ≤ a := fun a ⟨k, hk, hq⟩ => by have := n1 k hk; omega
      have kx2 : σ2.2 x = some (cpo x av wl ve) := (a6.2 x (by omega) (by
        rintro (i | i | i)
        · unfold inb at i; omega
        · unfold inb at i; omega
        · have := hown _ i; omega)).trans kx
      have hT0 := a5.1
      refine g_aload_n q_X9_treeOf_76 rfl ?_
      refine g_aload_n q_X9_treeOf_77 rfl ?_
      refine g_get fl_X9_83 q_X9_treeOf_78 (by repeat first | with_reducible assumption | with_reducible exact hput_s _ _ _ | refine (hput_n _ _ (by omega)).trans ?_ | exact hput_s _ _ _ | assumption) rfl ?_
      refine g_put fp_X9_234 q_X9_treeOf_81 (by repeat first | with_reducible assumption | with_reducible exact hput_s _ _ _ | refine (hput_n _ _ (by omega)).trans ?_ | exact hput_s _ _ _ | assumption) rfl rfl ?_
      refine g_aload_n q_X9_treeOf_84 rfl ?_
      refine g_areturn q_X9_treeOf_85.1 rfl (Or.inl ⟨_, rfl⟩) (Or.inr ⟨_, rfl⟩) ?_
      have hE2 : eqG σ1 (hput σ2 (TA1 b).1 (tro (TA1 b).1 ve (tN (bZ z bd)) (tS (bZ z bd)) (tL (bZ z bd)) (tP (bZ z bd)) (tC (bZ z bd)))) (fun a => inb (TA1 b).1 9 a ∨ inb (x + 28) 4 a ∨ ownF (TA1 b).2 M a) := a6.put (fun _ => Or.inl ⟨Nat.le_refl _, by omega⟩) _
      have hT2 := hT1.bld (tv := ve) hlo k1.2.1 (by omega : b < 22) hM (Nat.le_max_left _ _) a3 hE2 a1 a2 ⟨by omega, by omega⟩ a4' (fun _ _ => by rw [show (b : Int) + 10 = bd from hb.symm]; exact a5')
      rw [eR1] at hT2
      have hE3 : eqG σ1 (hput σ2 (TA1 b).1 (tro (TA1 b).1 ve (tN (bZ z bd)) (tS (bZ z bd)) (tL (bZ z bd)) (tP (bZ z bd)) (tC (bZ z bd)))) (fun a => inb (x + 28) 4 a ∨ inb (x + 35) 10 a ∨ lo ≤ a) := ⟨hE2.1, fun a ha hf => hE2.2 a ha (by
        rintro (i | i | i)
        · exact hf (Or.inr (Or.inr (by unfold inb at i; omega)))
        · exact hf (Or.inl i)
        · exact hf (Or.inr (Or.inr (hown a i))))⟩
      refine ⟨by omega, (TA1 b).1, max M (tT (bZ z bd)), ad', ve, rfl, ⟨ve, av, by rw [eRG]; exact hh1.tch hE3 (a7.keep (fun a i => hput_n _ _ (by unfold inb at i; omega))) hT2⟩, hG1.trans hE3 (fun a _ i => by rcases i with i | i | i <;> first | exact Or.inl (by unfold inb at *; omega) | exact Or.inr i), n5, Nat.lt_of_lt_of_le n6 hE2.1, a5'⟩
  have q9' := q9
  obtain ⟨t1, t2, t3, t4, t5, t6, t7⟩ := q9'
  by_cases hR : R b = 0
  · have hfn : (fun b => if R b = 0 then none else some (TA b).1) b = (none : Option Nat) := if_pos hR
    refine g_aload_n q_X9_treeOf_20 rfl ?_
    refine g_get fl_X9_53 q_X9_treeOf_21 (by repeat first | with_reducible assumption | with_reducible exact hput_s _ _ _ | refine (hput_n _ _ (by omega)).trans ?_ | exact hput_s _ _ _ | assumption) rfl ?_
    refine g_iload_n q_X9_treeOf_24 rfl ?_
    refine g_bipush q_X9_treeOf_25 bp_10 ?_
    refine g_isub q_X9_treeOf_27 ?_
    refine g_topi (b := (b : Int)) (by omega) ?_
    refine g_aaload q_X9_treeOf_28 rfl t1 (by omega) (by omega) ?_
    rw [Int.toNat_natCast, show (if R b = 0 then none else some (TA b).1) = (none : Option Nat) from if_pos hR]
    refine g_astore_nN (L' := [_, _, _]) q_X9_treeOf_29 (by decide) rfl ?_
    refine g_aload_nN q_X9_treeOf_30 rfl ?_
    refine g_ifnonnullN q_X9_treeOf_31 ?_
    obtain ⟨F, hF⟩ : ∃ F, F = tT (bZ z bd) := ⟨_, rfl⟩
    have eC : cel (1 + max (R b - 1) (tT (bZ z bd))) - cel (R b) + 1 = 10 + 2 * F := by
      rw [hR, ← hF]; unfold cel; rw [if_neg (by omega), if_pos rfl]; omega
    have eL : slo (1 + max (R b - 1) (tT (bZ z bd))) - slo (R b) + 6 = 792 + 53 * F := by
      rw [hR, ← hF]; unfold slo; rw [if_neg (by omega), if_pos rfl]; omega
    rw [eC, eL]
    refine g_new (rc' := 9 + 2 * F) (rs' := 782 + 53 * F) nw_X9_51 rfl q_X9_treeOf_34 (by omega) (by omega) ?_
    rw [hnew_b1]
    refine g_dup q_X9_treeOf_37 rfl ?_
    refine g_callIN (rc' := 2 * F) (rs' := 53 * F) (As := []) cs_X9_57 q_X9_treeOf_38 (sp_Tree_init (σ0 := σ) hΓ) rfl rfl rfl rfl rfl (Nat.le_of_ble_eq_true rfl) (by decide) (by omega) (by omega) (fun _ _ h => h.elim) (k_rv ?_)
    obtain ⟨τ, hτ⟩ : ∃ τ, τ = hblk σ [ob 6 [.ref (σ.1 + 1), .ref (σ.1 + 2), .ref (σ.1 + 5), .ref (σ.1 + 8), .int (ii (-1)), .int (ii 0), .int (ii 0), .int (ii (-1)), .int (ii (-1)), .int (ii 0)], aq 3 301 (fun _ => none), ob 8 [.ref (σ.1 + 2 + 1), .ref (σ.1 + 2 + 2), .int (ii 0), .int (ii (-1)), .int (ii (-1)), .int (ii (-1)), .int (ii (-1))], ai 205 (fun _ => 0), ai 5 (fun _ => 0), ob 8 [.ref (σ.1 + 5 + 1), .ref (σ.1 + 5 + 2), .int (ii 0), .int (ii (-1)), .int (ii (-1)), .int (ii (-1)), .int (ii (-1))], ai 205 (fun _ => 0), ai 5 (fun _ => 0), ai 41 (fun _ => 0)] := ⟨_, rfl⟩
    refine g_eq (σ2 := τ) rfl rfl hτ.symm ?_
    have u0 : τ.2 σ.1 = some (tro σ.1 (-1) 0 0 (-1) (-1) false) := by rw [hτ]; exact hblk_0 _ _ _
    have u1 : τ.2 (σ.1 + 1) = some (aq 3 301 (nadF (fun _ => 0) 0)) := by rw [hτ]; exact hblk_at _ _ 1 rfl
    have u2 : τ.2 (σ.1 + 2) = some (wyo (σ.1 + 2) 0 (-1) (-1) (-1) (-1)) := by rw [hτ]; exact hblk_at _ _ 2 rfl
    have u3 : τ.2 (σ.1 + 2 + 1) = some (ai 205 (fun _ => 0)) := by rw [hτ]; exact hblk_at _ _ 3 rfl
    have u4 : τ.2 (σ.1 + 2 + 2) = some (ai 5 (fun _ => 0)) := by rw [hτ]; exact hblk_at _ _ 4 rfl
    have u5 : τ.2 (σ.1 + 5) = some (wyo (σ.1 + 5) 0 (-1) (-1) (-1) (-1)) := by rw [hτ]; exact hblk_at _ _ 5 rfl
    have u6 : τ.2 (σ.1 + 5 + 1) = some (ai 205 (fun _ => 0)) := by rw [hτ]; exact hblk_at _ _ 6 rfl
    have u7 : τ.2 (σ.1 + 5 + 2) = some (ai 5 (fun _ => 0)) := by rw [hτ]; exact hblk_at _ _ 7 rfl
    have u8 : τ.2 (σ.1 + 8) = some (ai 41 (fun _ => 0)) := by rw [hτ]; exact hblk_at _ _ 8 rfl
    have us : τ.1 = σ.1 + 9 := by rw [hτ]; rfl
    have ul : ∀ a, a < σ.1 → τ.2 a = σ.2 a := fun a ha => by rw [hτ]; exact hblk_lo _ _ ha
    clear hτ
    have kx := (ul x (by omega)).trans q2
    have k35 := (ul (x + 35) (by omega)).trans t1
    refine g_astore_n (L' := [_, _, _]) q_X9_treeOf_41 (by decide) rfl ?_
    refine g_aload_n q_X9_treeOf_42 rfl ?_
    refine g_get fl_X9_53 q_X9_treeOf_43 (by repeat first | with_reducible assumption | with_reducible exact hput_s _ _ _ | refine (hput_n _ _ (by omega)).trans ?_ | exact hput_s _ _ _ | assumption) rfl ?_
    refine g_iload_n q_X9_treeOf_46 rfl ?_
    refine g_bipush q_X9_treeOf_47 bp_10 ?_
    refine g_isub q_X9_treeOf_49 ?_
    refine g_topi (b := (b : Int)) (by omega) ?_
    refine g_aload_n q_X9_treeOf_50 rfl ?_
    refine g_aastore q_X9_treeOf_51 k35 (by omega) (by omega) u0 rfl rfl ?_
    rw [Int.toNat_natCast]
    obtain ⟨σ1, hσ1⟩ : ∃ τ1, τ1 = hput τ (x + 35) (aq 4 21 (va_up (fun b => if R b = 0 then none else some (TA b).1) b (some σ.1))) := ⟨_, rfl⟩
    refine g_eq (σ2 := σ1) rfl rfl hσ1.symm ?_
    have s1 : σ1.1 = σ.1 + 9 := by rw [hσ1]; exact us
    have sl : ∀ a, a ≠ x + 35 → σ1.2 a = τ.2 a := fun a ha => by rw [hσ1]; exact hput_n _ _ ha
    have s35 : σ1.2 (x + 35) = some (aq 4 21 (va_up (fun b => if R b = 0 then none else some (TA b).1) b (some σ.1))) := by rw [hσ1]; exact hput_s _ _ _
    clear hσ1
    have hk1 : TRk σ1 σ.1 0 (fun _ => 0) (-1) := ⟨0, 0, -1, -1, false, 0, fun _ => 0, fun _ => 0, 0, fun _ => 0, fun _ => 0, (sl _ (by omega)).trans u0, ⟨(sl _ (by omega)).trans u1, by decide, fun i j _ hj => absurd hj (Nat.not_lt_zero j), fun k hk => absurd hk (Nat.not_lt_zero k)⟩, fun k hk => absurd hk (Nat.not_lt_zero k), fun hk => absurd hk (Nat.lt_irrefl 0), ⟨⟨_, _, _, _, (sl _ (by omega)).trans u2⟩, (sl _ (by omega)).trans u3, (sl _ (by omega)).trans u4⟩, okP_0, okC_0, ⟨⟨_, _, _, _, (sl _ (by omega)).trans u5⟩, (sl _ (by omega)).trans u6, (sl _ (by omega)).trans u7⟩, okP_0, okC_0, _, (sl _ (by omega)).trans u8⟩
    have hT1 := q9.add hlo hlo2 hb21 hR s1 (fun a ha hne => (sl a hne).trans (ul a ha)) s35 hk1
    have hE1 : eqG σ σ1 (fun a => inb (x + 28) 4 a ∨ inb (x + 35) 10 a ∨ lo ≤ a) := ⟨by omega, fun a ha hf => (sl a (fun q => hf (Or.inr (Or.inl (by unfold inb; omega))))).trans (ul a ha)⟩
    have hh1 := hh.tch hE1 (q7.keep (fun a i => (sl a (by unfold inb at i; omega)).trans (ul a (by unfold inb at i; omega)))) hT1
    have hgo := go σ1 (va_up R b 1) (va_up TA b (σ.1, fun _ => 0)) 0 (2 * F) (53 * F) hh1 hT1 (by unfold va_up; rw [if_pos rfl]) (by
      rw [eU, hR]
      funext k
      unfold va_up
      by_cases e : k = b
      · rw [if_pos e, if_pos e]
      · rw [if_neg e, if_neg e, if_neg e]) (hE1.trans eqG.rfl' (fun _ _ h => h) |>.trans (eqG.rfl' (F := fun _ => False)) (fun _ _ h => h.elim) |> fun h => ⟨h.1, fun a ha hf => h.2 a ha (by
        rintro (i | i | i)
        · exact hf (Or.inl (by unfold inb at *; omega))
        · exact hf (Or.inl (by unfold inb at *; omega))
        · exact hf (Or.inr i))⟩) (by rw [← hF]; omega) (by rw [← hF]; omega)
    rw [show (va_up TA b (σ.1, fun _ => 0) b).1 = σ.1 by unfold va_up; rw [if_pos rfl]] at hgo
    exact hgo
  · obtain ⟨M, hM⟩ : ∃ M, R b = M + 1 := ⟨R b - 1, by omega⟩
    refine g_aload_n q_X9_treeOf_20 rfl ?_
    refine g_get fl_X9_53 q_X9_treeOf_21 (by repeat first | with_reducible assumption | with_reducible exact hput_s _ _ _ | refine (hput_n _ _ (by omega)).trans ?_ | exact hput_s _ _ _ | assumption) rfl ?_
    refine g_iload_n q_X9_treeOf_24 rfl ?_
    refine g_bipush q_X9_treeOf_25 bp_10 ?_
    refine g_isub q_X9_treeOf_27 ?_
    refine g_topi (b := (b : Int)) (by omega) ?_
    refine g_aaload q_X9_treeOf_28 rfl t1 (by omega) (by omega) ?_
    rw [Int.toNat_natCast, show (if R b = 0 then none else some (TA b).1) = some (TA b).1 from if_neg hR]
    refine g_astore_n (L' := [_, _, _]) q_X9_treeOf_29 (by decide) rfl ?_
    refine g_aload_n q_X9_treeOf_30 rfl ?_
    refine g_ifnonnull (tgt := 52) q_X9_treeOf_31 (by decide) ?_
    refine go σ R TA M _ _ hh q9 hM (by rw [eU, hM]; rfl) eqG.rfl' ?_ ?_
    · rw [hM]; unfold cel; rw [if_neg (by omega), if_neg (by omega)]; omega
    · rw [hM]; unfold slo; rw [if_neg (by omega), if_neg (by omega)]; omega
end X9G

