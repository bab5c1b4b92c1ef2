/-! the reference: all that its block holds (by 82.mall.py) -/
def mar (k : Nat) (f : Nat → Int) (g : Nat → BitVec 64) : AE :=
  match k with
  | 1 => ai 400 f
  | 2 => ai 36 f
  | 3 => al 5 g
  | 4 => ai 5 f
  | 5 => ai 5 f
  | 6 => ai 36 f
  | 7 => al 5 g
  | 8 => ai 5 f
  | 9 => ai 5 f
  | 10 => ai 656 f
  | 11 => az 1476 f
  | 12 => az 7380 f
  | 13 => az 1476 f
  | 14 => az 1476 f
  | 15 => ai 41 f
  | 16 => ai 62115 f
  | 17 => ai 36 f
  | 18 => ai 302 f
  | 19 => ai 302 f
  | 20 => ai 302 f
  | 21 => ai 302 f
  | 22 => ai 302 f
  | 23 => ai 302 f
  | 24 => ai 302 f
  | 25 => ai 302 f
  | 26 => az 302 f
  | 27 => ai 5 f
  | 28 => ai 205 f
  | 29 => ai 205 f
  | 30 => ai 205 f
  | 31 => ai 5 f
  | 32 => ai 5 f
  | _ => ai 42 f
/-- scalars I, arrays A by number, rows of longs N -/
def MC (σ : AH) (m : Nat) (I : Nat → Int) (A : Nat → Nat → Int) (N : Nat → Nat → BitVec 64) : Prop := σ.2 m = some (mdo m I) ∧ ∀ k, 1 ≤ k → k ≤ 33 → σ.2 (m + k) = some (mar k (A k) (N k))
section MA
variable {Γ : GT} {σ σ' : AH} {m : Nat} {I : Nat → Int} {A A' : Nat → Nat → Int} {N : Nat → Nat → BitVec 64}
theorem MC.a1 (h : MC σ m I A N) : σ.2 (m + 1) = some (ai 400 (A 1)) := h.2 1 (by decide) (by decide)
theorem MC.a2 (h : MC σ m I A N) : σ.2 (m + 2) = some (ai 36 (A 2)) := h.2 2 (by decide) (by decide)
theorem MC.a3 (h : MC σ m I A N) : σ.2 (m + 3) = some (al 5 (N 3)) := h.2 3 (by decide) (by decide)
theorem MC.a4 (h : MC σ m I A N) : σ.2 (m + 4) = some (ai 5 (A 4)) := h.2 4 (by decide) (by decide)
theorem MC.a5 (h : MC σ m I A N) : σ.2 (m + 5) = some (ai 5 (A 5)) := h.2 5 (by decide) (by decide)
theorem MC.a6 (h : MC σ m I A N) : σ.2 (m + 6) = some (ai 36 (A 6)) := h.2 6 (by decide) (by decide)
theorem MC.a7 (h : MC σ m I A N) : σ.2 (m + 7) = some (al 5 (N 7)) := h.2 7 (by decide) (by decide)
theorem MC.a8 (h : MC σ m I A N) : σ.2 (m + 8) = some (ai 5 (A 8)) := h.2 8 (by decide) (by decide)
theorem MC.a9 (h : MC σ m I A N) : σ.2 (m + 9) = some (ai 5 (A 9)) := h.2 9 (by decide) (by decide)
theorem MC.a10 (h : MC σ m I A N) : σ.2 (m + 10) = some (ai 656 (A 10)) := h.2 10 (by decide) (by decide)
theorem MC.a11 (h : MC σ m I A N) : σ.2 (m + 11) = some (az 1476 (A 11)) := h.2 11 (by decide) (by decide)
theorem MC.a12 (h : MC σ m I A N) : σ.2 (m + 12) = some (az 7380 (A 12)) := h.2 12 (by decide) (by decide)
theorem MC.a13 (h : MC σ m I A N) : σ.2 (m + 13) = some (az 1476 (A 13)) := h.2 13 (by decide) (by decide)
theorem MC.a14 (h : MC σ m I A N) : σ.2 (m + 14) = some (az 1476 (A 14)) := h.2 14 (by decide) (by decide)
theorem MC.a15 (h : MC σ m I A N) : σ.2 (m + 15) = some (ai 41 (A 15)) := h.2 15 (by decide) (by decide)
theorem MC.a16 (h : MC σ m I A N) : σ.2 (m + 16) = some (ai 62115 (A 16)) := h.2 16 (by decide) (by decide)
theorem MC.a17 (h : MC σ m I A N) : σ.2 (m + 17) = some (ai 36 (A 17)) := h.2 17 (by decide) (by decide)
theorem MC.a18 (h : MC σ m I A N) : σ.2 (m + 18) = some (ai 302 (A 18)) := h.2 18 (by decide) (by decide)
theorem MC.a19 (h : MC σ m I A N) : σ.2 (m + 19) = some (ai 302 (A 19)) := h.2 19 (by decide) (by decide)
theorem MC.a20 (h : MC σ m I A N) : σ.2 (m + 20) = some (ai 302 (A 20)) := h.2 20 (by decide) (by decide)
theorem MC.a21 (h : MC σ m I A N) : σ.2 (m + 21) = some (ai 302 (A 21)) := h.2 21 (by decide) (by decide)
theorem MC.a22 (h : MC σ m I A N) : σ.2 (m + 22) = some (ai 302 (A 22)) := h.2 22 (by decide) (by decide)
theorem MC.a23 (h : MC σ m I A N) : σ.2 (m + 23) = some (ai 302 (A 23)) := h.2 23 (by decide) (by decide)
theorem MC.a24 (h : MC σ m I A N) : σ.2 (m + 24) = some (ai 302 (A 24)) := h.2 24 (by decide) (by decide)
theorem MC.a25 (h : MC σ m I A N) : σ.2 (m + 25) = some (ai 302 (A 25)) := h.2 25 (by decide) (by decide)
theorem MC.a26 (h : MC σ m I A N) : σ.2 (m + 26) = some (az 302 (A 26)) := h.2 26 (by decide) (by decide)
theorem MC.a27 (h : MC σ m I A N) : σ.2 (m + 27) = some (ai 5 (A 27)) := h.2 27 (by decide) (by decide)
theorem MC.a28 (h : MC σ m I A N) : σ.2 (m + 28) = some (ai 205 (A 28)) := h.2 28 (by decide) (by decide)
theorem MC.a29 (h : MC σ m I A N) : σ.2 (m + 29) = some (ai 205 (A 29)) := h.2 29 (by decide) (by decide)
theorem MC.a30 (h : MC σ m I A N) : σ.2 (m + 30) = some (ai 205 (A 30)) := h.2 30 (by decide) (by decide)
theorem MC.a31 (h : MC σ m I A N) : σ.2 (m + 31) = some (ai 5 (A 31)) := h.2 31 (by decide) (by decide)
theorem MC.a32 (h : MC σ m I A N) : σ.2 (m + 32) = some (ai 5 (A 32)) := h.2 32 (by decide) (by decide)
theorem MC.a33 (h : MC σ m I A N) : σ.2 (m + 33) = some (ai 42 (A 33)) := h.2 33 (by decide) (by decide)
/-- other scalars -/
theorem MC.putI (h : MC σ m I A N) (J : Nat → Int) : MC (hput σ m (mdo m J)) m J A N := ⟨hput_s _ _ _, fun k h1 h2 => (hput_n _ _ (by omega)).trans (h.2 k h1 h2)⟩
/-- some arrays that lie together are other ones -/
theorem MC.frame (h : MC σ m I A N) {a n : Nat} (hE : eqOff σ σ' (inb (m + a) n)) (ha : 1 ≤ a) (hk : ∀ k, k < a ∨ a + n ≤ k → A' k = A k) (hn : ∀ k, a ≤ k → k < a + n → k ≤ 33 → σ'.2 (m + k) = some (mar k (A' k) (N k))) : MC σ' m I A' N := by
  refine ⟨(hE.2 m (by unfold inb; omega)).trans h.1, fun k h1 h2 => ?_⟩
  by_cases e : a ≤ k ∧ k < a + n
  · exact hn k e.1 e.2 h2
  · rw [hE.2 (m + k) (by unfold inb; omega), hk k (by omega)]
    exact h.2 k h1 h2
/-- the scene -/
def MZ (I : Nat → Int) (A : Nat → Nat → Int) (z : PS) : Prop := (I 13 = zCo z ∧ I 14 = zRo z ∧ I 15 = zCa z) ∧ okS (A 6) ∧ (∀ c, gIn (zCo z) (zRo z) c → A 6 c = zSO z c) ∧ ∀ k, k < zCa z → A 8 k = zPL z k ∧ A 9 k = zGO z k
theorem MZ.cg {z : PS} {I' : Nat → Int} (h : MZ I A z) (h1 : I' 13 = I 13 ∧ I' 14 = I 14 ∧ I' 15 = I 15) (h2 : A' 6 = A 6) (h3 : A' 8 = A 8) (h4 : A' 9 = A 9) : MZ I' A' z := by
  unfold MZ
  rw [h1.1, h1.2.1, h1.2.2, h2, h3, h4]
  exact h
theorem MZ.g {z : PS} (h : MC σ m I A N) (hz : MZ I A z) (w : WFz z) : MG σ m I (zCo z) (zRo z) (A 6) := ⟨h.1, hz.1.1, hz.1.2.1, w.1.1.1, w.1.1.2.1, h.a6, hz.2.1⟩
/-- nothing forbidden -/
theorem MZ.w0 {z : PS} (hz : MZ I A z) (w : WFz z) : WH (zSO z) (A 6) (zCo z) (zRo z) (fun _ => 0) (fun _ => 0) (fun _ => 0) (fun _ => 0) := ⟨⟨w.1.1.1, w.1.1.2.1⟩, w.1.2.1, hz.2.2.1, fun t c _ _ => by simp [bi], fun t c k _ _ _ _ => by simp [bi], fun _ _ _ _ => rfl⟩
theorem MZ.lw {z : PS} (h : MC σ m I A N) (hz : MZ I A z) (w : WFz z) (hb : A 11 = fun _ => 0) (hm : A 12 = fun _ => 0) : LWh σ m I (zCo z) (zRo z) (A 6) (zSO z) (fun _ => 0) (fun _ => 0) (fun _ => 0) (fun _ => 0) (A 8) (A 9) := ⟨hz.g h w, h.a8, h.a9, hb ▸ h.a11, hm ▸ h.a12, fun _ => Or.inl rfl, fun _ => Or.inl rfl, hz.w0 w⟩
theorem gIn_z {z : PS} {x : Int} (h : inGr z x) : gIn (zCo z) (zRo z) x.toNat := by
  obtain ⟨h1, h2, h3⟩ := h
  unfold gIn
  omega
/-- where a cart stands and where it goes to -/
theorem MZ.pg {z : PS} (hz : MZ I A z) (w : WFz z) {c : Nat} (hc : c < zCa z) : c < 5 ∧ A 8 c = ((zPL z c).toNat : Int) ∧ A 9 c = ((zGO z c).toNat : Int) ∧ gIn (zCo z) (zRo z) (zPL z c).toNat ∧ zSO z (zPL z c).toNat ≠ 1 ∧ (zGO z c).toNat < 36 ∧ (zPL z c).toNat < 36 := by
  obtain ⟨q1, q2, q3, q4⟩ := w.2.1 c hc
  have g1 := gIn_z q1
  have g2 := gIn_z q3
  have r6 := w.1.1.2.1
  obtain ⟨e1, e2⟩ := hz.2.2.2 c hc
  have p1 := q1.1
  have p2 := q3.1
  have c5 := w.1.1.2.2
  exact ⟨by omega, by rw [e1]; omega, by rw [e2]; omega, g1, q2, gIn_36 r6 g2, gIn_36 r6 g1⟩
/-- all free -/
theorem sp_freesM (hΓ : Gd Γ) (h : MC σ m I A N) : Sp Γ miX10_frees 0 0 [.ref m] σ (fun r σ' => r = none ∧ eqOff σ σ' (inb (m + 11) 2) ∧ MC σ' m I (va_up (va_up A 11 fun _ => 0) 12 fun _ => 0) N) noX := by
  refine Sp_cons (sp_frees hΓ h.1 h.a11 h.a12) ?_ (fun _ _ q => q)
  rintro r σ' ⟨e1, e2, e3, e4⟩
  refine ⟨e1, e2, h.frame e2 (by omega) (fun k hk => ?_) (fun k h1 h2 _ => ?_)⟩
  · rw [va_ne (by omega), va_ne (by omega)]
  · have : k = 11 ∨ k = 12 := by omega
    rcases this with e | e <;> subst e
    · exact e3
    · exact e4
end MA

