/-! the law: states, frames, starts (written by lawst.py) -/
def cpb (x : Nat) : List AE := [ob 9 [.ref (x + 1), .ref (x + 10), .ref (x + 17), .ref (x + 24), .ref (x + 28), .ref (x + 32), .int (ii (-1)), .ref (x + 35), .ref (x + 36), .ref (x + 45), .ref (x + 50), .ref (x + 53), .int (ii 0), .int (ii 0)], ob 5 [.ref (x + 1 + 1), .int (ii 0), .int (ii 0), .int (ii (-1)), .int (ii 0), .ref (x + 1 + 2)], ai 400 (fun _ => 0), ob 2 [.int (ii 0), .int (ii 0), .ref (x + 1 + 2 + 1), .int (ii 0), .ref (x + 1 + 2 + 2), .ref (x + 1 + 2 + 3), .ref (x + 1 + 2 + 4), .ref (x + 1 + 2 + 5), .ref (x + 1 + 2 + 6)], ai 36 (fun _ => 0), ai 5 (fun _ => 0), ai 5 (fun _ => 0), ai 30 (fun _ => 0), ai 5 (fun _ => 0), al 4 (fun _ => 0), ob 2 [.int (ii 0), .int (ii 0), .ref (x + 10 + 1), .int (ii 0), .ref (x + 10 + 2), .ref (x + 10 + 3), .ref (x + 10 + 4), .ref (x + 10 + 5), .ref (x + 10 + 6)], ai 36 (fun _ => 0), ai 5 (fun _ => 0), ai 5 (fun _ => 0), ai 30 (fun _ => 0), ai 5 (fun _ => 0), al 4 (fun _ => 0), ob 2 [.int (ii 0), .int (ii 0), .ref (x + 17 + 1), .int (ii 0), .ref (x + 17 + 2), .ref (x + 17 + 3), .ref (x + 17 + 4), .ref (x + 17 + 5), .ref (x + 17 + 6)], ai 36 (fun _ => 0), ai 5 (fun _ => 0), ai 5 (fun _ => 0), ai 30 (fun _ => 0), ai 5 (fun _ => 0), al 4 (fun _ => 0), ob 0 [.ref (x + 24 + 1), .ref (x + 24 + 2), .ref (x + 24 + 3), .int (ii 0)], ai 16 (fun _ => 0), ai 16 (fun _ => 0), ai 16 (fun _ => 0), ob 3 [.ref (x + 28 + 1), .ref (x + 28 + 2), .ref (x + 28 + 3)], al 41 (fun _ => 0), al 164 (fun _ => 0), al 41 (fun _ => 0), ob 8 [.ref (x + 32 + 1), .ref (x + 32 + 2), .int (ii 0), .int (ii (-1)), .int (ii (-1)), .int (ii (-1)), .int (ii (-1))], ai 205 (fun _ => 0), ai 5 (fun _ => 0), aq 4 21 (fun _ => none), ob 6 [.ref (x + 36 + 1), .ref (x + 36 + 2), .ref (x + 36 + 5), .ref (x + 36 + 8), .int (ii (-1)), .int (ii 0), .int (ii 0), .int (ii (-1)), .int (ii (-1)), .int (ii 0)], aq 3 301 (fun _ => none), ob 8 [.ref (x + 36 + 2 + 1), .ref (x + 36 + 2 + 2), .int (ii 0), .int (ii (-1)), .int (ii (-1)), .int (ii (-1)), .int (ii (-1))], ai 205 (fun _ => 0), ai 5 (fun _ => 0), ob 8 [.ref (x + 36 + 5 + 1), .ref (x + 36 + 5 + 2), .int (ii 0), .int (ii (-1)), .int (ii (-1)), .int (ii (-1)), .int (ii (-1))], ai 205 (fun _ => 0), ai 5 (fun _ => 0), ai 41 (fun _ => 0), ob 7 [.ref (x + 45 + 1), .ref (x + 45 + 4), .int (ii (-1)), .int (ii (-1)), .int (ii (-1)), .int (ii (-1)), .int (ii (-1))], ob 8 [.ref (x + 45 + 1 + 1), .ref (x + 45 + 1 + 2), .int (ii 0), .int (ii (-1)), .int (ii (-1)), .int (ii (-1)), .int (ii (-1))], ai 205 (fun _ => 0), ai 5 (fun _ => 0), ai 5 (fun _ => 0), ob 4 [.ref (x + 50 + 1), .ref (x + 50 + 2)], ai 5 (fun _ => 0), ai 36 (fun _ => 0), ai 42 (fun _ => 0)]
def mdb (m : Nat) : List AE := [ob 10 [.int (ii 0), .ref (m + 1), .int (ii 0), .int (ii 0), .int (ii 0), .int (ii (-1)), .int (ii 0), .int (ii 0), .int (ii 0), .ref (m + 2), .ref (m + 3), .ref (m + 4), .ref (m + 5), .int (ii 0), .int (ii 0), .int (ii 0), .ref (m + 6), .ref (m + 7), .ref (m + 8), .ref (m + 9), .int (ii 0), .ref (m + 10), .ref (m + 11), .ref (m + 12), .ref (m + 13), .ref (m + 14), .ref (m + 15), .ref (m + 16), .int (ii 0), .int (ii 0), .int (ii 0), .int (ii 0), .ref (m + 17), .int (ii (-1)), .int (ii 0), .int (ii 0), .int (ii 0), .int (ii 0), .int (ii 0), .ref (m + 18), .ref (m + 19), .ref (m + 20), .ref (m + 21), .ref (m + 22), .ref (m + 23), .ref (m + 24), .ref (m + 25), .ref (m + 26), .ref (m + 27), .ref (m + 28), .ref (m + 29), .ref (m + 30), .ref (m + 31), .ref (m + 32), .ref (m + 33), .int (ii 0)], ai 400 (fun _ => 0), ai 36 (fun _ => 0), al 5 (fun _ => 0), ai 5 (fun _ => 0), ai 5 (fun _ => 0), ai 36 (fun _ => 0), al 5 (fun _ => 0), ai 5 (fun _ => 0), ai 5 (fun _ => 0), ai 656 (fun _ => 0), az 1476 (fun _ => 0), az 7380 (fun _ => 0), az 1476 (fun _ => 0), az 1476 (fun _ => 0), ai 41 (fun _ => 0), ai 62115 (fun _ => 0), ai 36 (fun _ => 0), ai 302 (fun _ => 0), ai 302 (fun _ => 0), ai 302 (fun _ => 0), ai 302 (fun _ => 0), ai 302 (fun _ => 0), ai 302 (fun _ => 0), ai 302 (fun _ => 0), ai 302 (fun _ => 0), az 302 (fun _ => 0), ai 5 (fun _ => 0), ai 205 (fun _ => 0), ai 205 (fun _ => 0), ai 205 (fun _ => 0), ai 5 (fun _ => 0), ai 5 (fun _ => 0), ai 42 (fun _ => 0)]
def st_0 : PS := (0, 0, 0, 0, fun _ => 0, fun _ => 0, fun _ => 0, fun _ => 0, fun _ => 0)
theorem gZ_0 : gZ st_0 := ⟨⟨Nat.zero_le _, Nat.zero_le _, Nat.zero_le _⟩, fun k => ⟨Int.le_refl 0, by show (0 : Int) < 6; decide⟩, fun k => ⟨⟨by show (-1 : Int) ≤ 0; decide, by show (0 : Int) < 36; decide⟩, fun _ => Int.le_refl 0⟩, fun k => ⟨⟨by show (-1 : Int) ≤ 0; decide, by show (0 : Int) < 36; decide⟩, fun _ => Int.le_refl 0⟩, fun k => ⟨by show (-2147483648 : Int) ≤ 0; decide, by show (0 : Int) < 2147483648; decide⟩, fun k => ⟨Int.le_refl 0, by show (0 : Int) ≤ 6; decide⟩⟩
theorem WFz_0 : WFz st_0 := ⟨gZ_0, fun k hk => absurd hk (Nat.not_lt_zero k), fun i j _ hj => absurd hj (Nat.not_lt_zero j), fun k hk => absurd hk (Nat.not_lt_zero k)⟩
theorem lvZ_0 : lvZ st_0 = fun _ => 0 := rfl
def R_0 : Nat → Nat := fun b => if b = 21 then 1 else 0
theorem g_repQ {Γ : GT} {mi : MI} {cc : ByteArray} {Q : Option Value → AH → Prop} {QX : String → AH → Prop} {rc rs pc : Nat} {L : List (Option Value)} {S : List Value} {σ : AH} {t a n : Nat} {f f' : Nat → Option Nat} (h : σ.2 a = some (.inr (t, n, .inr (.inr f)))) (e : ∀ k, k < n → f k = f' k) (k : G Γ mi cc Q QX rc rs pc L S (hput σ a (.inr (t, n, .inr (.inr f'))))) : G Γ mi cc Q QX rc rs pc L S σ := by
  intro p e9 R s m args below meth c H locs cells slots ls hΓ C hc hs hw hS hl
  obtain ⟨ha, cA, h1, h2, h3, h4⟩ := hw.2.2.2 a _ h
  exact k p e9 R s m args below meth c H locs cells slots ls hΓ C hc hs (hw.put ha ⟨cA, h1, h2, h3, by rw [h4]; exact congrArg some (arrV_cong cA fun j hj => by show va_rf (f j) = va_rf (f' j); rw [e j hj])⟩ rfl (fun _ _ => rfl)) hS hl
section LS0
variable {σ σ' τ : AH} {x m lo N : Nat} {R : Nat → Nat} {len : Nat} {tx : Nat → Int} {fa e0 : Int} {z : PS} {l : List (Int × Int × Int)} {wl : Nat} {wr : Nat → Int}
/-- the object as it begins; its row of trees said by R -/
theorem CX_0 (h : ∀ i e, i ≠ 35 → (cpb x)[i]? = some e → τ.2 (x + i) = some e) (h35 : τ.2 (x + 35) = some (aq 4 21 (fun b => if R_0 b = 0 then none else some (x + 36)))) (h1 : x + 54 ≤ lo) (h2 : lo ≤ τ.1) : CX τ x lo 0 R_0 0 (fun _ => 0) (-1) st_0 [] 0 (fun _ => 0) := by
  have hy : ∀ w, (∃ ct cs cl co, τ.2 w = some (wyo w 0 ct cs cl co)) → τ.2 (w + 1) = some (ai 205 fun _ => 0) → τ.2 (w + 2) = some (ai 5 fun _ => 0) → WYo τ w 0 (fun _ => 0) (fun _ => 0) := fun w a b c => ⟨a, b, c⟩
  have hR : ∀ b, R_0 b ≠ 0 → b = 21 := fun b hb => by
    refine Classical.byContradiction fun q => hb ?_
    exact if_neg q
  refine ⟨0, -1, ⟨h1, h2, by decide, by decide, by decide⟩, fun k => ⟨Int.le_refl 0, by show (0 : Int) < 256; decide⟩, ⟨by decide, by decide⟩, WFz_0, trivial, ⟨by decide, by decide, by decide⟩, h 0 _ (by decide) rfl, ⟨st_0, fun _ => 0, gZ_0, ⟨0, h 1 _ (by decide) rfl⟩, h 2 _ (by decide) rfl, h 3 _ (by decide) rfl, h 4 _ (by decide) rfl, h 5 _ (by decide) rfl, h 6 _ (by decide) rfl, h 7 _ (by decide) rfl, h 8 _ (by decide) rfl, h 9 _ (by decide) rfl⟩, ?_, ⟨st_0, fun _ => 0, gZ_0, h 17 _ (by decide) rfl, h 18 _ (by decide) rfl, h 19 _ (by decide) rfl, h 20 _ (by decide) rfl, h 21 _ (by decide) rfl, h 22 _ (by decide) rfl, h 23 _ (by decide) rfl⟩, ⟨by decide, h 24 _ (by decide) rfl, _, _, _, h 25 _ (by decide) rfl, h 26 _ (by decide) rfl, h 27 _ (by decide) rfl, fun i q hq => by simp at hq⟩, ⟨h 28 _ (by decide) rfl, ⟨_, h 29 _ (by decide) rfl⟩, ⟨_, h 30 _ (by decide) rfl⟩, ⟨_, h 31 _ (by decide) rfl⟩⟩, ⟨0, _, _, hy _ ⟨_, _, _, _, h 32 _ (by decide) rfl⟩ (h 33 _ (by decide) rfl) (h 34 _ (by decide) rfl), okP_0, okC_0, by decide, fun q => absurd q (by decide)⟩, ⟨fun _ => (x + 36, fun _ => 0), h35, ?_, by decide, rfl, ?_, ?_, ?_⟩, ⟨-1, -1, -1, -1, -1, 0, _, _, _, h 45 _ (by decide) rfl, hy _ ⟨_, _, _, _, h 46 _ (by decide) rfl⟩ (h 47 _ (by decide) rfl) (h 48 _ (by decide) rfl), h 49 _ (by decide) rfl, okP_0, okC_0, by decide, ⟨by decide, by decide⟩, ⟨by decide, by decide⟩, ⟨⟨by decide, by decide⟩, ⟨by decide, by decide⟩, ⟨by decide, by decide⟩⟩, fun q => absurd q (by decide), fun q => absurd q (by decide)⟩, ⟨_, _, h 50 _ (by decide) rfl, h 51 _ (by decide) rfl, h 52 _ (by decide) rfl⟩, h 53 _ (by decide) rfl⟩
  · exact ⟨h 10 _ (by decide) rfl, h 11 _ (by decide) rfl, h 12 _ (by decide) rfl, h 13 _ (by decide) rfl, h 14 _ (by decide) rfl, h 15 _ (by decide) rfl, h 16 _ (by decide) rfl⟩
  · intro b
    unfold R_0
    split <;> decide
  · intro b hb hr
    have := hR b hr
    omega
  · intro b hb hr
    have e := hR b hr
    subst e
    refine ⟨fun k hk => absurd hk (Nat.not_lt_zero k), -1, ⟨by decide, by decide⟩, ⟨0, 0, -1, -1, false, 0, _, _, 0, _, _, h 36 _ (by decide) rfl, ⟨?_, by decide, fun i j _ hj => absurd hj (Nat.not_lt_zero j), fun k hk => absurd hk (Nat.not_lt_zero k)⟩, fun k hk => absurd hk (Nat.not_lt_zero k), fun q => absurd q (Nat.not_lt_zero 0), hy _ ⟨_, _, _, _, h 38 _ (by decide) rfl⟩ (h 39 _ (by decide) rfl) (h 40 _ (by decide) rfl), okP_0, okC_0, hy _ ⟨_, _, _, _, h 41 _ (by decide) rfl⟩ (h 42 _ (by decide) rfl) (h 43 _ (by decide) rfl), okP_0, okC_0, _, h 44 _ (by decide) rfl⟩, fun q => absurd q (by decide)⟩
    have e0 : nadF (fun _ => 0) (R_0 21 - 1) = fun _ => none := funext fun k => if_neg (Nat.not_lt_zero k)
    rw [e0]
    exact h 37 _ (by decide) rfl
  · intro b b' _ _ hne hr hr'
    exact absurd ((hR b hr).trans (hR b' hr').symm) hne
def I_0 : Nat → Int := fun k => if k = 5 ∨ k = 33 then -1 else 0
theorem MX_0 (h : ∀ i e, (mdb m)[i]? = some e → τ.2 (m + i) = some e) : MX τ m 0 0 (fun _ => 0) (-1) st_0 [] 0 (fun _ => 0) := by
  refine ⟨I_0, fun _ _ => 0, fun _ _ => 0, rfl, ⟨h 0 _ rfl, fun k h1 h2 => ?_⟩, ⟨rfl, by decide, fun i _ => rfl, fun k => ⟨Int.le_refl 0, by show (0 : Int) < 256; decide⟩, fun k => ⟨Int.le_refl 0, by show (0 : Int) < 6; decide⟩⟩, ⟨rfl, ⟨by decide, by decide⟩⟩, ⟨⟨⟨rfl, rfl, rfl⟩, fun k => ⟨Int.le_refl 0, by show (0 : Int) < 6; decide⟩, fun c _ => rfl, fun k hk => absurd hk (Nat.not_lt_zero k)⟩, WFz_0⟩, fun k hk => absurd hk (Nat.not_lt_zero k), ⟨rfl, by decide, trivial, trivial⟩, Or.inl rfl, ⟨rfl, by decide, fun i _ => rfl⟩, fun i => ⟨by show (-2147483648 : Int) ≤ 0; decide, by show (0 : Int) < 2147483648; decide⟩⟩
  match k, h1, h2 with
  | 1, _, _ => exact h 1 _ rfl
  | 2, _, _ => exact h 2 _ rfl
  | 3, _, _ => exact h 3 _ rfl
  | 4, _, _ => exact h 4 _ rfl
  | 5, _, _ => exact h 5 _ rfl
  | 6, _, _ => exact h 6 _ rfl
  | 7, _, _ => exact h 7 _ rfl
  | 8, _, _ => exact h 8 _ rfl
  | 9, _, _ => exact h 9 _ rfl
  | 10, _, _ => exact h 10 _ rfl
  | 11, _, _ => exact h 11 _ rfl
  | 12, _, _ => exact h 12 _ rfl
  | 13, _, _ => exact h 13 _ rfl
  | 14, _, _ => exact h 14 _ rfl
  | 15, _, _ => exact h 15 _ rfl
  | 16, _, _ => exact h 16 _ rfl
  | 17, _, _ => exact h 17 _ rfl
  | 18, _, _ => exact h 18 _ rfl
  | 19, _, _ => exact h 19 _ rfl
  | 20, _, _ => exact h 20 _ rfl
  | 21, _, _ => exact h 21 _ rfl
  | 22, _, _ => exact h 22 _ rfl
  | 23, _, _ => exact h 23 _ rfl
  | 24, _, _ => exact h 24 _ rfl
  | 25, _, _ => exact h 25 _ rfl
  | 26, _, _ => exact h 26 _ rfl
  | 27, _, _ => exact h 27 _ rfl
  | 28, _, _ => exact h 28 _ rfl
  | 29, _, _ => exact h 29 _ rfl
  | 30, _, _ => exact h 30 _ rfl
  | 31, _, _ => exact h 31 _ rfl
  | 32, _, _ => exact h 32 _ rfl
  | 33, _, _ => exact h 33 _ rfl
  | n + 34, _, h2 => exact absurd h2 (by omega)
/-- what is behind the object is kept -/
theorem CX.kp (h : CX σ x lo N R len tx fa z l wl wr) (hs : σ.1 ≤ σ'.1) (e : ∀ a, a < σ.1 → fX x lo a → σ'.2 a = σ.2 a) : CX σ' x lo N R len tx fa z l wl wr := by
  obtain ⟨ve, av, h1, h2, h3, h4, h5, q1, q2, q3, q4, q5, q6, q7, q8, ⟨TA, q9⟩, q10, q11, q12⟩ := h
  have hlo := h1.1
  have hlo2 := h1.2.1
  have eb : ∀ a, inb x 54 a → σ'.2 a = σ.2 a := fun a i => e a (by unfold inb at i; omega) (Or.inl i)
  exact ⟨ve, av, ⟨h1.1, by omega, h1.2.2⟩, h2, h3, h4, h5, q1, (eb _ ⟨by omega, by omega⟩).trans q2, q3.kp (fun a i => eb a (by unfold inb at i ⊢; omega)), q4.keep (fun a i => eb a (by unfold inb at i ⊢; omega)), q5.kp (fun a i => eb a (by unfold inb at i ⊢; omega)), q6.keep (fun a i => eb a (by unfold inb at i ⊢; omega)), q7.keep (fun a i => eb a (by unfold inb at i ⊢; omega)), q8.kp (fun a i => eb a (by unfold inb at i ⊢; omega)), ⟨TA, q9.kp hs (fun a ha i => e a ha (by rcases i with i | i; exact Or.inl (by unfold inb at i ⊢; omega); exact Or.inr i)) (by omega)⟩, q10.kp (fun a i => eb a (by unfold inb at i ⊢; omega)), q11.kp (fun a i => eb a (by unfold inb at i ⊢; omega)), (eb _ ⟨by omega, by omega⟩).trans q12⟩
theorem CX.low (h : CX σ x lo N R len tx fa z l wl wr) : x + 54 ≤ lo ∧ lo ≤ σ.1 ∧ ∀ b, R b ≤ 302 := by
  obtain ⟨ve, av, h1, h2, h3, h4, h5, q1, q2, q3, q4, q5, q6, q7, q8, ⟨TA, q9⟩, q⟩ := h
  exact ⟨h1.1, h1.2.1, q9.2.1⟩
theorem MX.kp (h : MX σ m e0 len tx fa z l wl wr) (e : ∀ a, inb m 34 a → σ'.2 a = σ.2 a) : MX σ' m e0 len tx fa z l wl wr := by
  obtain ⟨I, A, N, i0, hM, hW⟩ := h
  exact ⟨I, A, N, i0, ⟨(e _ ⟨by omega, by omega⟩).trans hM.1, fun k h1 h2 => (e _ ⟨by omega, by omega⟩).trans (hM.2 k h1 h2)⟩, hW⟩
/-- all that a call may ask for -/
abbrev LSt : Type := Nat × (Nat → Int) × Int × PS × List (Int × Int × Int) × Nat × (Nat → Int)
def CXs (σ : AH) (x lo N : Nat) (R : Nat → Nat) (s : LSt) : Prop := CX σ x lo N R s.1 s.2.1 s.2.2.1 s.2.2.2.1 s.2.2.2.2.1 s.2.2.2.2.2.1 s.2.2.2.2.2.2
def MXs (σ : AH) (m : Nat) (e : Int) (s : LSt) : Prop := MX σ m e s.1 s.2.1 s.2.2.1 s.2.2.2.1 s.2.2.2.2.1 s.2.2.2.2.2.1 s.2.2.2.2.2.2
/-- between two calls -/
def LI (σ : AH) (x N : Nat) (R : Nat → Nat) (s : LSt) : Prop := CXs σ x (x + 89) N R s ∧ (∃ e0, MXs σ (x + 54) e0 s) ∧ ∃ g, σ.2 (x + 88) = some (al 1 g)
/-- behind the class's call -/
theorem lw_A {e : Nat} {a : Int} {R' : Nat → Nat} {s s0 s1 : LSt} {g : Nat → BitVec 64} {r : Option Value} (hI : CXs σ x (x + 89) N R s) (hM : MXs σ (x + 54) e0 s) (ho : σ.2 (x + 88) = some (al 1 g)) {S S' : AH → Prop} (hS : ∀ σ', S σ' → CXs σ' x (x + 89) (N + 1) R' s0 ∧ eqG σ σ' (fX x (x + 89))) (hS' : ∀ σ', S' σ' → CXs σ' x (x + 89) (N + 1) R' s1 ∧ eqG σ σ' (fX x (x + 89))) (hq : wQ (x + 88) g (fun v σ' => e = 0 ∧ v = a ∧ S σ') (fun k σ' => e = k ∧ S' σ') r σ') : e ≤ 4 ∧ r = some (.int (ii (e : Int))) ∧ MXs σ' (x + 54) e0 s ∧ (∃ g1, σ'.2 (x + 88) = some (al 1 g1) ∧ (e = 0 → g1 0 = BitVec.ofInt 64 (cn a))) ∧ (e = 0 → CXs σ' x (x + 89) (N + 1) R' s0) ∧ (e ≠ 0 → CXs σ' x (x + 89) (N + 1) R' s1) := by
  have hlo := (CX.low hI).2.1
  rcases hq with ⟨v, σ1, ⟨e1, e2, hs⟩, rfl, rfl⟩ | ⟨k, hk, ⟨e1, hs⟩, rfl⟩
  · obtain ⟨c1, c2⟩ := hS σ1 hs
    refine ⟨by omega, by rw [e1], ?_, ⟨_, hput_s _ _ _, fun _ => by rw [va_eq, e2]⟩, fun _ => ?_, fun q => absurd e1 q⟩
    · exact MX.kp hM (fun b i => by
        unfold inb at i
        rw [hput_n _ _ (by omega)]
        exact c2.2 b (by omega) (by unfold fX inb; omega))
    · exact CX.kp c1 (by rw [hput_1]; exact Nat.le_refl _) (fun b _ i => hput_n _ _ (by unfold fX inb at i; omega))
  · obtain ⟨c1, c2⟩ := hS' _ hs
    refine ⟨by omega, by rw [e1], ?_, ⟨g, ?_, fun q => by omega⟩, fun q => by omega, fun _ => c1⟩
    · exact MX.kp hM (fun b i => by
        unfold inb at i
        exact c2.2 b (by omega) (by unfold fX inb; omega))
    · exact (c2.2 (x + 88) (by omega) (by unfold fX inb; omega)).trans ho
/-- behind the reference's call -/
theorem lw_B {R' : Nat → Nat} {s2 : LSt} {e : Nat} {g1 : Nat → BitVec 64} (hC : CXs σ x (x + 89) N R' s2) (ho : σ.2 (x + 88) = some (al 1 g1)) (hM : MXs σ' (x + 54) e s2) (hE : eqOff σ σ' (inb (x + 54) 34)) : LI σ' x N R' s2 ∧ σ'.2 (x + 88) = some (al 1 g1) := by
  have o2 : σ'.2 (x + 88) = some (al 1 g1) := (hE.2 _ (by unfold inb; omega)).trans ho
  exact ⟨⟨CX.kp hC (by rw [hE.1]; exact Nat.le_refl _) (fun b _ i => hE.2 b (by unfold fX inb at *; omega)), ⟨_, hM⟩, g1, o2⟩, o2⟩
end LS0
section LS1
variable {Γ : GT} {σ : AH} {mi : MI} {mc ms : Nat} {vs : List Value}
/-- a call of the class as the wrappers take it -/
theorem Sp_w {e : Nat} {a : Int} {xs : List String} {S S' : AH → Prop} (sp : Sp Γ mi mc ms vs σ (oQ e a S) (oX xs e S')) : Sp Γ mi mc ms vs σ (cQ (fun v σ' => e = 0 ∧ v = a ∧ S σ')) (cX xs (fun k σ' => e = k ∧ S' σ')) := by
  refine Sp_cons sp ?_ ?_
  · rintro r σ' ⟨h1, h2, h3⟩
    exact ⟨a, h2, h1, rfl, h3⟩
  · rintro E σ' ⟨h1, h2, h3⟩
    exact ⟨e - 1, h2, by omega, h3⟩
def RM : Nat → Nat := fun _ => 302
theorem and63 (x : Int32) (n : Nat) (h : x.toBitVec.toNat = n) : x &&& ii 63 = ii ((n % 64 : Nat) : Int) := by
  have e1 : (ii 63).toBitVec = 63#32 := by decide
  refine Int32.toBitVec_inj.mp (BitVec.eq_of_toNat_eq ?_)
  rw [Int32.toBitVec_and, e1, BitVec.toNat_and, h]
  have e2 : n &&& (63#32).toNat = n % 64 := by
    have := Nat.and_two_pow_sub_one_eq_mod n 6
    exact this
  rw [e2]
  show _ = (ii ((n % 64 : Nat) : Int)).toBitVec.toNat
  unfold ii
  simp
  omega
theorem gw1_t {lv : Nat → BitVec 64} {PL GO P C : Nat → Int} {n par t c : Nat} {s : Int} {x : Nat × (Nat → PN) × Nat} : (gw1 lv PL GO n P C par t s c x).2.2 = max x.2.2 (x.1 + 1) ∧ (gw1 lv PL GO n P C par t s c x).1 ≤ x.1 + 1 := by
  unfold gw1
  split
  · exact ⟨rfl, Nat.le_succ _⟩
  · exact ⟨rfl, Nat.le_refl _⟩
theorem bst_t {lv : Nat → BitVec 64} {PL GO P1 C1 : Nat → Int} {n : Nat} {bd : Int} {x : TS} (h : tT x ≤ 301) : tT (bst lv PL GO P1 C1 n bd x).2 ≤ 301 := by
  unfold bst
  split
  · exact h
  · split
    · exact h
    · split
      · exact h
      · split
        · exact h
        · rename_i k hk hcl hlt
          show (bsK lv PL GO P1 C1 n k (tN x, tQ x, tT x)).2.2 ≤ 301
          unfold bsK
          simp only
          rw [gw1_t.1, gw1_t.1]
          have := gw1_t (lv := lv) (PL := PL) (GO := GO) (n := n) (P := ndP (tQ x) P1 k) (C := ndC (tQ x) C1 k) (par := k) (t := (fcl (ndP (tQ x) P1 k) n (mxN (ndC (tQ x) C1 k) n).toNat).1) (s := (fcl (ndP (tQ x) P1 k) n (mxN (ndC (tQ x) C1 k) n).toNat).2.1) (c := (fcl (ndP (tQ x) P1 k) n (mxN (ndC (tQ x) C1 k) n).toNat).2.2.1) (x := (tN x, va_up (tQ x) k (spN (tQ x k)), tT x))
          have h2 := this.2
          simp only at h2 ⊢
          omega
theorem bl_t {lv : Nat → BitVec 64} {PL GO P1 C1 : Nat → Int} {n : Nat} {bd : Int} : ∀ (f : Nat) (x : TS), tT x ≤ 301 → tT (bl lv PL GO P1 C1 n bd f x) ≤ 301
  | 0, x, h => h
  | f + 1, x, h => by
    unfold bl
    split
    · exact bl_t f _ (bst_t h)
    · exact bst_t h
theorem tT_le (z : PS) (bd : Int) : tT (bZ z bd) ≤ 301 := by
  unfold bZ bld
  split
  · exact bl_t 302 _ (by show 1 ≤ 301; decide)
  · show 0 ≤ 301; decide
theorem rG_302 {R : Nat → Nat} (h : ∀ b, R b ≤ 302) (g : Bool) (z : PS) (bd : Int) : ∀ b, rG g R z bd b ≤ 302 := fun b => by
  have ht := tT_le z bd
  unfold rG
  split
  · unfold upR va_up
    split
    · have := h (bd - 10).toNat
      omega
    · exact h b
  · exact h b
theorem sR_302 {R : Nat → Nat} (h : ∀ b, R b ≤ 302) (z : PS) (bd : Int) : ∀ b, sR R z bd b ≤ 302 := fun b => by
  have ht := tT_le z bd
  unfold sR va_up
  split
  · have := h 21
    omega
  · exact h b
theorem woR_302 {R : Nat → Nat} (h : ∀ b, R b ≤ 302) (z : PS) (bd a b : Int) : ∀ c, woR R z bd a b c ≤ 302 := fun c => by
  unfold woR
  split
  · exact sR_302 (rG_302 h _ _ _) _ _ c
  · exact rG_302 h _ _ _ c
theorem woR_le (R : Nat → Nat) (z : PS) (bd a b : Int) : ∀ c, R c ≤ woR R z bd a b c := fun c => by
  unfold woR
  split
  · exact Nat.le_trans (rG_le _ _ _ _ _) (sR_le _ _ _ _)
  · exact rG_le _ _ _ _ _
theorem agR_302 {R : Nat → Nat} (h : ∀ b, R b ≤ 302) (z : PS) (bd t : Int) : ∀ c, agR R z bd t c ≤ 302 := fun c => by
  unfold agR
  split
  · exact sR_302 (rG_302 h _ _ _) _ _ c
  · exact rG_302 h _ _ _ c
theorem agR_le (R : Nat → Nat) (z : PS) (bd t : Int) : ∀ c, R c ≤ agR R z bd t c := fun c => by
  unfold agR
  split
  · exact Nat.le_trans (rG_le _ _ _ _ _) (sR_le _ _ _ _)
  · exact rG_le _ _ _ _ _
theorem rmZ {C K D : Nat} : C + D + K ≤ C + K + D := by omega
theorem rmC {R R' : Nat → Nat} {C : Nat} (h1 : ∀ b, R b ≤ R' b) (h2 : ∀ b, R' b ≤ 302) : C + dC R' RM + (8 + dC R R') ≤ C + 8 + dC R RM := by
  rw [dC_tr (R2 := RM) h1 h2]
  omega
theorem rmS {R R' : Nat → Nat} {C : Nat} (h1 : ∀ b, R b ≤ R' b) (h2 : ∀ b, R' b ≤ 302) : C + dS R' RM + (48 + dS R R') ≤ C + 48 + dS R RM := by
  rw [dS_tr (R2 := RM) h1 h2]
  omega
theorem lcm_self (b : BitVec 64) : lcm b b = 0 := by
  unfold lcm
  rw [if_neg, if_pos rfl]
  show ¬ decide (b.toInt < b.toInt) = true
  rw [decide_eq_false (Int.lt_irrefl _)]
  decide
theorem g_icmp_eqS {cc : ByteArray} {Q : Option Value → AH → Prop} {QX : String → AH → Prop} {rc rs pc pc' tgt : Nat} {L : List (Option Value)} {S : List Value} {a off : Int} (d : De cc pc (.if_icmp .eq off) 3 pc') (ht : (pc : Int) + off = (tgt : Int)) (kk : G Γ mi cc Q QX rc rs tgt L S σ) : G Γ mi cc Q QX rc rs pc L (.int (ii a) :: .int (ii a) :: S) σ := by
  refine g_eq (L2 := L) (S2 := .int (ii (cn a)) :: .int (ii (cn a)) :: S) (σ2 := σ) rfl (by rw [ii_cn]) rfl ?_
  exact g_icmp_eq d ht (cn_rg a) (cn_rg a) (fun _ => kk) (fun h => absurd rfl h)
end LS1

