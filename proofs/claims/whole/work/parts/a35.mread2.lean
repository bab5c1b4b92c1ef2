/-! the reference reads: read -/
section MRe
variable {Γ : GT} {σ τ : AH} {m : Nat} {I J : Nat → Int} {A A' : Nat → Nat → Int} {N N' : Nat → Nat → BitVec 64} {len : Nat} {tx : Nat → Int} {fa e0 F : Int} {z : PS} {l : List (Int × Int × Int)} {wl : Nat} {wr : Nat → Int}
theorem MW.rd (hW : MW I A N len tx fa z l wl wr) (hJ : ∀ k, 8 < k → J k = I k) (j2 : J 2 = 0) (j5 : J 5 = F) (hF : rg F) (hA : ∀ k, k ≠ 1 → k ≠ 2 → k ≠ 4 → k ≠ 5 → A' k = A k) (a1 : A' 1 = tx) (a2 : okS (A' 2)) (hN : N' 7 = N 7) : MW J A' N' 0 tx F z l wl wr := by
  obtain ⟨b1, b2, b3, b4, b5, b6, b7, b8⟩ := hW
  refine ⟨⟨j2, by omega, fun i _ => by rw [a1], b1.2.2.2.1, a2⟩, ⟨j5, hF⟩, ⟨b3.1.cg ⟨hJ 13 (by omega), hJ 14 (by omega), hJ 15 (by omega)⟩ (hA 6 (by omega) (by omega) (by omega) (by omega)) (hA 8 (by omega) (by omega) (by omega) (by omega)) (hA 9 (by omega) (by omega) (by omega) (by omega)), b3.2⟩, by rw [hN]; exact b4, ?_, b6.cg (fun k hk => hJ k (by omega)) (fun k hk => hA k (by omega) (by omega) (by omega) (by omega)) (fun i _ => by rw [hA 16 (by omega) (by omega) (by omega) (by omega)]) b3.2, ?_, ?_⟩
  · rw [hJ 20 (by omega), hA 10 (by omega) (by omega) (by omega) (by omega)]; exact b5
  · rw [hJ 55 (by omega), hA 33 (by omega) (by omega) (by omega) (by omega)]; exact b7
  · rw [hA 16 (by omega) (by omega) (by omega) (by omega)]; exact b8
def rdQ (σ : AH) (m : Nat) (tx : Nat → Int) (len : Nat) (z : PS) (l : List (Int × Int × Int)) (wl : Nat) (wr PL GO LE NL : Nat → Int) : Option Value → AH → Prop := fun r σ' => (prF tx len PL GO LE NL = -1 ∧ r = some (.int (ii (zCa (prZ tx len PL GO LE NL) : Int))) ∧ SM σ m 0 0 tx (-1) (prZ tx len PL GO LE NL) [] wl wr σ') ∨ (prF tx len PL GO LE NL ≠ -1 ∧ r = some (.int (ii 0)) ∧ SM σ m 1 0 tx (prF tx len PL GO LE NL) z l wl wr σ')
/-- a fault is told -/
theorem rd_118f {J0 : Nat → Int} {A0 : Nat → Nat → Int} (hW : MW I A N len tx fa z l wl wr) (hJ0 : J0 2 = 0 ∧ ∀ k, 8 < k → J0 k = I k) (hA0 : ∀ k, k ≠ 1 → A0 k = A k) {y : PS} (h : RS σ m J0 A0 N tx len τ (F, y)) (hF : F ≠ -1) {PL GO LE NL : Nat → Int} (hp : prF tx len PL GO LE NL = F) : G Γ miX10_read cX10_read (rdQ σ m tx len z l wl wr PL GO LE NL) noX 0 0 118 [some (.ref m), none] [] τ := by
  obtain ⟨hE, J, B, N', hM, hF1, o1, o2, o3, o4, o5, -⟩ := h
  have t0 := hM.1
  refine g_aload_n q_X10_read_118 rfl ?_
  refine g_aload_n q_X10_read_119 rfl ?_
  refine g_get fl_X10_13 q_X10_read_120 (by repeat first | with_reducible assumption | with_reducible exact hput_s _ _ _ | refine (hput_n _ _ (by omega)).trans ?_ | exact hput_s _ _ _ | assumption) rfl ?_
  refine g_topi (b := F) (by exact o4) ?_
  refine g_iconst q_X10_read_123 ?_
  refine g_icmp_ne (tgt := 131) q_X10_read_124 (by decide) o5 ⟨by omega, by omega⟩ (fun b1 => ?_) (fun b1 => ?_)
  case refine_2 => exact absurd b1 hF
  refine g_iconst q_X10_read_131 ?_
  refine g_putM fp_X10_122 q_X10_read_132 (by repeat first | with_reducible assumption | with_reducible exact hput_s _ _ _ | refine (hput_n _ _ (by omega)).trans ?_ | exact hput_s _ _ _ | assumption) rfl rfl mset_0 ?_
  refine g_aload_n q_X10_read_135 rfl ?_
  refine g_get fl_X10_122 q_X10_read_136 (by repeat first | with_reducible assumption | with_reducible exact hput_s _ _ _ | refine (hput_n _ _ (by omega)).trans ?_ | exact hput_s _ _ _ | assumption) rfl ?_
  refine g_topi (b := (1 : Int)) (by rfl) ?_
  refine g_if_le (tgt := 144) q_X10_read_139 (by decide) ⟨by omega, by omega⟩ (fun b2 => ?_) (fun b2 => ?_)
  · exact absurd b2 (by decide)
  refine g_iconst q_X10_read_142 ?_
  refine g_ireturn q_X10_read_143.1 rfl ?_
  refine Or.inr ⟨by rw [hp]; exact hF, rfl, ⟨va_up J 0 1, B, N', rfl, hM.putI _, ?_⟩, hE.put ⟨by omega, by omega⟩ _⟩
  rw [hp]
  refine hW.rd (fun k hk => ?_) ?_ ?_ o5 (fun k k1 k2 k4 k5 => ?_) o2 o1 (hF1.2.2 7 (by omega))
  · rw [va_ne (by omega), hF1.1 k (by omega), hJ0.2 k hk]
  · rw [va_ne (by omega), hF1.1 2 (by omega), hJ0.1]
  · rw [va_ne (by omega), o4]
  · rw [hF1.2.1 k k2 k4 k5, hA0 k k1]
theorem MC.all {σ σ' : AH} (h : MC σ m I A N) (h0 : σ'.2 m = some (mdo m J)) (hE : eqOff σ σ' (fun a => a = m ∨ inb (m + 6) 4 a)) (hA : ∀ k, k ≠ 6 → k ≠ 8 → k ≠ 9 → A' k = A k) (hN : ∀ k, k ≠ 7 → N' k = N k) (h6 : σ'.2 (m + 6) = some (ai 36 (A' 6))) (h7 : σ'.2 (m + 7) = some (al 5 (N' 7))) (h8 : σ'.2 (m + 8) = some (ai 5 (A' 8))) (h9 : σ'.2 (m + 9) = some (ai 5 (A' 9))) : MC σ' m J A' N' := by
  refine ⟨h0, fun k h1 h2 => ?_⟩
  by_cases e6 : k = 6
  · subst e6; exact h6
  by_cases e7 : k = 7
  · subst e7; exact h7
  by_cases e8 : k = 8
  · subst e8; exact h8
  by_cases e9 : k = 9
  · subst e9; exact h9
  rw [hE.2 (m + k) (by unfold inb; omega), hA k e6 e8 e9, hN k e7]
  exact h.2 k h1 h2
/-- what is read is taken -/
theorem rd_118g (hΓ : Gd Γ) {J0 : Nat → Int} {A0 : Nat → Nat → Int} (hW : MW I A N len tx fa z l wl wr) (hJ0 : J0 2 = 0 ∧ ∀ k, 8 < k → J0 k = I k) (hA0 : ∀ k, k ≠ 1 → A0 k = A k) {PL GO LE NL : Nat → Int} (hg : gbg PL GO LE NL) {p : Nat} (h : RS σ m J0 A0 N tx len τ (-1, (p, (prR tx len PL GO LE NL).2.2))) (hp : prF tx len PL GO LE NL = -1) : G Γ miX10_read cX10_read (rdQ σ m tx len z l wl wr PL GO LE NL) noX 0 0 118 [some (.ref m), none] [] τ := by
  obtain ⟨hE, J, B, N', hM, hF1, o1, o2, o3, o4, o5, o6⟩ := h
  have hR := o6 rfl
  obtain ⟨X, hX⟩ : ∃ X, X = prZ tx len PL GO LE NL := ⟨_, rfl⟩
  have wf : WFz X := by rw [hX]; exact prZ_wf hW.1.2.2.2.1 hg hp
  have j6 : J 6 = zCo X := by rw [hX]; exact hR.1.2.2.1
  have j7 : J 7 = zRo X := by rw [hX]; exact hR.1.2.2.2.1
  have j8 : J 8 = zCa X := by rw [hX]; exact hR.1.2.2.2.2
  have r2 : ∀ c, gIn (zCo X) (zRo X) c → B 2 c = zSO X c := by rw [hX]; exact hR.2.1.2
  have r4 : ∀ k, k < zCa X → B 4 k = zPL X k ∧ B 5 k = zGO X k ∧ N' 3 k = BitVec.ofInt 64 (nmV (zLE X) (6 * k) (zNL X k).toNat) := by rw [hX]; exact hR.2.2
  unfold rdQ
  rw [← hX]
  clear hX hR o6
  have t0 := hM.1
  refine g_aload_n q_X10_read_118 rfl ?_
  refine g_aload_n q_X10_read_119 rfl ?_
  refine g_get fl_X10_13 q_X10_read_120 (by repeat first | with_reducible assumption | with_reducible exact hput_s _ _ _ | refine (hput_n _ _ (by omega)).trans ?_ | exact hput_s _ _ _ | assumption) rfl ?_
  refine g_topi (b := (-1 : Int)) (by exact o4) ?_
  refine g_iconst q_X10_read_123 ?_
  refine g_icmp_ne (tgt := 131) q_X10_read_124 (by decide) ⟨by omega, by omega⟩ ⟨by omega, by omega⟩ (fun b1 => ?_) (fun b1 => ?_)
  · exact absurd rfl b1
  refine g_iconst q_X10_read_127 ?_
  refine g_goto (tgt := 132) q_X10_read_128 (by decide) ?_
  refine g_putM fp_X10_122 q_X10_read_132 (by repeat first | with_reducible assumption | with_reducible exact hput_s _ _ _ | refine (hput_n _ _ (by omega)).trans ?_ | exact hput_s _ _ _ | assumption) rfl rfl mset_0 ?_
  refine g_aload_n q_X10_read_135 rfl ?_
  refine g_get fl_X10_122 q_X10_read_136 (by repeat first | with_reducible assumption | with_reducible exact hput_s _ _ _ | refine (hput_n _ _ (by omega)).trans ?_ | exact hput_s _ _ _ | assumption) rfl ?_
  refine g_topi (b := (0 : Int)) (by rfl) ?_
  refine g_if_le (tgt := 144) q_X10_read_139 (by decide) ⟨by omega, by omega⟩ (fun b2 => ?_) (fun b2 => ?_)
  case refine_2 => exact absurd b2 (by decide)
  refine g_aload_n q_X10_read_144 rfl ?_
  refine g_aload_n q_X10_read_145 rfl ?_
  refine g_get fl_X10_183 q_X10_read_146 (by repeat first | with_reducible assumption | with_reducible exact hput_s _ _ _ | refine (hput_n _ _ (by omega)).trans ?_ | exact hput_s _ _ _ | assumption) rfl ?_
  refine g_topi (b := (zCo X : Int)) (by exact j6) ?_
  refine g_putM fp_X10_214 q_X10_read_149 (by repeat first | with_reducible assumption | with_reducible exact hput_s _ _ _ | refine (hput_n _ _ (by omega)).trans ?_ | exact hput_s _ _ _ | assumption) rfl rfl mset_13 ?_
  refine g_aload_n q_X10_read_152 rfl ?_
  refine g_aload_n q_X10_read_153 rfl ?_
  refine g_get fl_X10_173 q_X10_read_154 (by repeat first | with_reducible assumption | with_reducible exact hput_s _ _ _ | refine (hput_n _ _ (by omega)).trans ?_ | exact hput_s _ _ _ | assumption) rfl ?_
  refine g_topi (b := (zRo X : Int)) (by exact j7) ?_
  refine g_putM fp_X10_217 q_X10_read_157 (by repeat first | with_reducible assumption | with_reducible exact hput_s _ _ _ | refine (hput_n _ _ (by omega)).trans ?_ | exact hput_s _ _ _ | assumption) rfl rfl mset_14 ?_
  refine g_aload_n q_X10_read_160 rfl ?_
  refine g_aload_n q_X10_read_161 rfl ?_
  refine g_get fl_X10_176 q_X10_read_162 (by repeat first | with_reducible assumption | with_reducible exact hput_s _ _ _ | refine (hput_n _ _ (by omega)).trans ?_ | exact hput_s _ _ _ | assumption) rfl ?_
  refine g_topi (b := (zCa X : Int)) (by exact j8) ?_
  refine g_putM fp_X10_220 q_X10_read_165 (by repeat first | with_reducible assumption | with_reducible exact hput_s _ _ _ | refine (hput_n _ _ (by omega)).trans ?_ | exact hput_s _ _ _ | assumption) rfl rfl mset_15 ?_
  refine g_iconst q_X10_read_168 ?_
  refine g_istore_n (L' := [_, _]) q_X10_read_169 (by decide) rfl ?_
  rw [hput_hput, hput_hput, hput_hput]
  obtain ⟨K, hK⟩ : ∃ K, K = va_up (va_up (va_up (va_up J 0 0) 13 (zCo X : Int)) 14 (zRo X : Int)) 15 (zCa X : Int) := ⟨_, rfl⟩
  rw [← hK]
  have hM1 := hM.putI K
  have hE1 := hE.put (a := m) ⟨by omega, by omega⟩ (mdo m K)
  obtain ⟨ρ, hρ⟩ : ∃ ρ, ρ = hput τ m (mdo m K) := ⟨_, rfl⟩
  rw [← hρ] at hM1 hE1 ⊢
  have u0 := hM1.1
  have u2 := hM1.a2
  have u3 := hM1.a3
  have u4 := hM1.a4
  have u5 := hM1.a5
  refine g_loop2 (fun (k : Nat) (ω : AH) => k ≤ 36 ∧ eqOff ρ ω (inb (m + 6) 1) ∧ ∃ f, ω.2 (m + 6) = some (ai 36 f) ∧ ∀ j, j < k → f j = B 2 j) (fun k ω => G Γ _ cX10_read _ _ 0 0 170 [some (.ref m), some (.int (ii k))] [] ω) (fun k ω => 36 - k) ?_ 0 ρ ⟨Nat.zero_le _, eqOff.rfl', B 6, hM1.a6, fun j hj => absurd hj (Nat.not_lt_zero j)⟩
  rintro k ω ⟨hk, hEw, f, w6, hf⟩ ih
  have w0 := (hEw.2 m (by unfold inb; omega)).trans u0
  have w2 := (hEw.2 (m + 2) (by unfold inb; omega)).trans u2
  refine g_iload_n q_X10_read_170 rfl ?_
  refine g_bipush q_X10_read_171 bp_36 ?_
  refine g_icmp_ge (tgt := 194) q_X10_read_173 (by decide) ⟨by omega, by omega⟩ ⟨by omega, by omega⟩ (fun b3 => ?_) (fun b3 => ?_)
  case refine_2 =>
    have hnx := ih (k + 1) _ ⟨by omega, hEw.put (a := m + 6) ⟨by omega, by omega⟩ (ai 36 (va_up f k (B 2 k))), _, hput_s _ _ _, fun j hj => by
      by_cases e : j = k
      · rw [e, va_eq]
      · rw [va_ne e]; exact hf j (by omega)⟩ (by omega)
    refine g_aload_n q_X10_read_176 rfl ?_
    refine g_get fl_X10_30 q_X10_read_177 (by repeat first | with_reducible assumption | with_reducible exact hput_s _ _ _ | refine (hput_n _ _ (by omega)).trans ?_ | exact hput_s _ _ _ | assumption) rfl ?_
    refine g_iload_n q_X10_read_180 rfl ?_
    refine g_aload_n q_X10_read_181 rfl ?_
    refine g_get fl_X10_17 q_X10_read_182 (by repeat first | with_reducible assumption | with_reducible exact hput_s _ _ _ | refine (hput_n _ _ (by omega)).trans ?_ | exact hput_s _ _ _ | assumption) rfl ?_
    refine g_iload_n q_X10_read_185 rfl ?_
    refine g_iaload q_X10_read_186 (by repeat first | with_reducible assumption | with_reducible exact hput_s _ _ _ | refine (hput_n _ _ (by omega)).trans ?_ | exact hput_s _ _ _ | assumption) (by omega) (by omega) ?_
    refine g_topi (b := B 2 k) (by rfl) ?_
    refine g_iastore q_X10_read_187 (by repeat first | with_reducible assumption | with_reducible exact hput_s _ _ _ | refine (hput_n _ _ (by omega)).trans ?_ | exact hput_s _ _ _ | assumption) (by omega) (by omega) ?_
    rw [Int.toNat_natCast]
    refine g_iinc (L' := [_, _]) q_X10_read_188 rfl rfl ?_
    refine g_goto (tgt := 170) q_X10_read_191 (by decide) ?_
    exact hnx
  have ek : k = 36 := by omega
  subst ek
  clear ih
  refine g_repI w6 (f' := B 2) hf ?_
  have hE2 := hEw.put (a := m + 6) ⟨by omega, by omega⟩ (ai 36 (B 2))
  have w62 : (hput ω (m + 6) (ai 36 (B 2))).2 (m + 6) = some (ai 36 (B 2)) := hput_s _ _ _
  obtain ⟨ω1, hω1⟩ : ∃ ω1, ω1 = hput ω (m + 6) (ai 36 (B 2)) := ⟨_, rfl⟩
  refine g_eq (σ2 := ω1) rfl rfl hω1.symm ?_
  rw [← hω1] at hE2 w62
  clear hω1 w0 w2 w6 hf hEw f ω
  have v0 := (hE2.2 m (by unfold inb; omega)).trans u0
  have v7 := (hE2.2 (m + 7) (by unfold inb; omega)).trans hM1.a7
  have v8 := (hE2.2 (m + 8) (by unfold inb; omega)).trans hM1.a8
  have v9 := (hE2.2 (m + 9) (by unfold inb; omega)).trans hM1.a9
  have v3 := (hE2.2 (m + 3) (by unfold inb; omega)).trans u3
  have v4 := (hE2.2 (m + 4) (by unfold inb; omega)).trans u4
  have v5 := (hE2.2 (m + 5) (by unfold inb; omega)).trans u5
  refine g_iconst q_X10_read_194 ?_
  refine g_istore_n (L' := [_, _]) q_X10_read_195 (by decide) rfl ?_
  refine g_loop2 (fun (k : Nat) (ω : AH) => k ≤ 5 ∧ eqOff ω1 ω (inb (m + 7) 3) ∧ ∃ f7 f8 f9, (ω.2 (m + 7) = some (al 5 f7) ∧ ω.2 (m + 8) = some (ai 5 f8) ∧ ω.2 (m + 9) = some (ai 5 f9)) ∧ ∀ j, j < k → f7 j = N' 3 j ∧ f8 j = B 4 j ∧ f9 j = B 5 j) (fun k ω => G Γ _ cX10_read _ _ 0 0 196 [some (.ref m), some (.int (ii k))] [] ω) (fun k ω => 5 - k) ?_ 0 ω1 ⟨Nat.zero_le _, eqOff.rfl', N' 7, B 8, B 9, ⟨v7, v8, v9⟩, fun j hj => absurd hj (Nat.not_lt_zero j)⟩
  rintro k ω ⟨hk, hEw, f7, f8, f9, ⟨w7, w8, w9⟩, hf⟩ ih
  have w0 := (hEw.2 m (by unfold inb; omega)).trans v0
  have w3 := (hEw.2 (m + 3) (by unfold inb; omega)).trans v3
  have w4 := (hEw.2 (m + 4) (by unfold inb; omega)).trans v4
  have w5 := (hEw.2 (m + 5) (by unfold inb; omega)).trans v5
  refine g_iload_n q_X10_read_196 rfl ?_
  refine g_iconst q_X10_read_197 ?_
  refine g_icmp_ge (tgt := 243) q_X10_read_198 (by decide) ⟨by omega, by omega⟩ ⟨by omega, by omega⟩ (fun b4 => ?_) (fun b4 => ?_)
  case refine_2 =>
    have hnx := ih (k + 1) (hput (hput (hput ω (m + 7) (al 5 (va_up f7 k (N' 3 k)))) (m + 8) (ai 5 (va_up f8 k (B 4 k)))) (m + 9) (ai 5 (va_up f9 k (B 5 k)))) ⟨by omega, ((hEw.put (a := m + 7) ⟨by omega, by omega⟩ _).put (a := m + 8) ⟨by omega, by omega⟩ _).put (a := m + 9) ⟨by omega, by omega⟩ _, _, _, _, ⟨(hput_n _ _ (by omega)).trans ((hput_n _ _ (by omega)).trans (hput_s _ _ _)), (hput_n _ _ (by omega)).trans (hput_s _ _ _), hput_s _ _ _⟩, fun j hj => by
      by_cases e : j = k
      · rw [e, va_eq, va_eq, va_eq]; exact ⟨rfl, rfl, rfl⟩
      · rw [va_ne e, va_ne e, va_ne e]; exact hf j (by omega)⟩ (by omega)
    refine g_aload_n q_X10_read_201 rfl ?_
    refine g_get fl_X10_33 q_X10_read_202 (by repeat first | with_reducible assumption | with_reducible exact hput_s _ _ _ | refine (hput_n _ _ (by omega)).trans ?_ | exact hput_s _ _ _ | assumption) rfl ?_
    refine g_iload_n q_X10_read_205 rfl ?_
    refine g_aload_n q_X10_read_206 rfl ?_
    refine g_get fl_X10_20 q_X10_read_207 (by repeat first | with_reducible assumption | with_reducible exact hput_s _ _ _ | refine (hput_n _ _ (by omega)).trans ?_ | exact hput_s _ _ _ | assumption) rfl ?_
    refine g_iload_n q_X10_read_210 rfl ?_
    refine g_laload q_X10_read_211 (by repeat first | with_reducible assumption | with_reducible exact hput_s _ _ _ | refine (hput_n _ _ (by omega)).trans ?_ | exact hput_s _ _ _ | assumption) (by omega) (by omega) ?_
    refine g_lastore q_X10_read_212 (by repeat first | with_reducible assumption | with_reducible exact hput_s _ _ _ | refine (hput_n _ _ (by omega)).trans ?_ | exact hput_s _ _ _ | assumption) (by omega) (by omega) ?_
    rw [Int.toNat_natCast]
    refine g_aload_n q_X10_read_213 rfl ?_
    refine g_get fl_X10_36 q_X10_read_214 (by repeat first | with_reducible assumption | with_reducible exact hput_s _ _ _ | refine (hput_n _ _ (by omega)).trans ?_ | exact hput_s _ _ _ | assumption) rfl ?_
    refine g_iload_n q_X10_read_217 rfl ?_
    refine g_aload_n q_X10_read_218 rfl ?_
    refine g_get fl_X10_24 q_X10_read_219 (by repeat first | with_reducible assumption | with_reducible exact hput_s _ _ _ | refine (hput_n _ _ (by omega)).trans ?_ | exact hput_s _ _ _ | assumption) rfl ?_
    refine g_iload_n q_X10_read_222 rfl ?_
    refine g_iaload q_X10_read_223 (by repeat first | with_reducible assumption | with_reducible exact hput_s _ _ _ | refine (hput_n _ _ (by omega)).trans ?_ | exact hput_s _ _ _ | assumption) (by omega) (by omega) ?_
    refine g_topi (b := B 4 k) (by rfl) ?_
    refine g_iastore q_X10_read_224 (by repeat first | with_reducible assumption | with_reducible exact hput_s _ _ _ | refine (hput_n _ _ (by omega)).trans ?_ | exact hput_s _ _ _ | assumption) (by omega) (by omega) ?_
    rw [Int.toNat_natCast]
    refine g_aload_n q_X10_read_225 rfl ?_
    refine g_get fl_X10_39 q_X10_read_226 (by repeat first | with_reducible assumption | with_reducible exact hput_s _ _ _ | refine (hput_n _ _ (by omega)).trans ?_ | exact hput_s _ _ _ | assumption) rfl ?_
    refine g_iload_n q_X10_read_229 rfl ?_
    refine g_aload_n q_X10_read_230 rfl ?_
    refine g_get fl_X10_27 q_X10_read_231 (by repeat first | with_reducible assumption | with_reducible exact hput_s _ _ _ | refine (hput_n _ _ (by omega)).trans ?_ | exact hput_s _ _ _ | assumption) rfl ?_
    refine g_iload_n q_X10_read_234 rfl ?_
    refine g_iaload q_X10_read_235 (by repeat first | with_reducible assumption | with_reducible exact hput_s _ _ _ | refine (hput_n _ _ (by omega)).trans ?_ | exact hput_s _ _ _ | assumption) (by omega) (by omega) ?_
    refine g_topi (b := B 5 k) (by rfl) ?_
    refine g_iastore q_X10_read_236 (by repeat first | with_reducible assumption | with_reducible exact hput_s _ _ _ | refine (hput_n _ _ (by omega)).trans ?_ | exact hput_s _ _ _ | assumption) (by omega) (by omega) ?_
    rw [Int.toNat_natCast]
    refine g_iinc (L' := [_, _]) q_X10_read_237 rfl rfl ?_
    refine g_goto (tgt := 196) q_X10_read_240 (by decide) ?_
    exact hnx
  have ek : k = 5 := by omega
  subst ek
  clear ih
  refine g_repJ w7 (f' := N' 3) (fun j hj => (hf j hj).1) ?_
  refine g_repI (σ := hput ω (m + 7) (al 5 (N' 3))) (a := m + 8) (f' := B 4) ((hput_n _ _ (by omega)).trans w8) (fun j hj => (hf j hj).2.1) ?_
  refine g_repI (σ := hput (hput ω (m + 7) (al 5 (N' 3))) (m + 8) (ai 5 (B 4))) (a := m + 9) (f' := B 5) ((hput_n _ _ (by omega)).trans ((hput_n _ _ (by omega)).trans w9)) (fun j hj => (hf j hj).2.2) ?_
  have hE3 := ((hEw.put (a := m + 7) ⟨by omega, by omega⟩ (al 5 (N' 3))).put (a := m + 8) ⟨by omega, by omega⟩ (ai 5 (B 4))).put (a := m + 9) ⟨by omega, by omega⟩ (ai 5 (B 5))
  have x7 : (hput (hput (hput ω (m + 7) (al 5 (N' 3))) (m + 8) (ai 5 (B 4))) (m + 9) (ai 5 (B 5))).2 (m + 7) = some (al 5 (N' 3)) := (hput_n _ _ (by omega)).trans ((hput_n _ _ (by omega)).trans (hput_s _ _ _))
  have x8 : (hput (hput (hput ω (m + 7) (al 5 (N' 3))) (m + 8) (ai 5 (B 4))) (m + 9) (ai 5 (B 5))).2 (m + 8) = some (ai 5 (B 4)) := (hput_n _ _ (by omega)).trans (hput_s _ _ _)
  have x9 : (hput (hput (hput ω (m + 7) (al 5 (N' 3))) (m + 8) (ai 5 (B 4))) (m + 9) (ai 5 (B 5))).2 (m + 9) = some (ai 5 (B 5)) := hput_s _ _ _
  obtain ⟨ψ, hψ⟩ : ∃ ψ, ψ = hput (hput (hput ω (m + 7) (al 5 (N' 3))) (m + 8) (ai 5 (B 4))) (m + 9) (ai 5 (B 5)) := ⟨_, rfl⟩
  refine g_eq (σ2 := ψ) rfl rfl hψ.symm ?_
  rw [← hψ] at hE3 x7 x8 x9
  clear hψ
  have x0 := (hE3.2 m (by unfold inb; omega)).trans v0
  have x6 := (hE3.2 (m + 6) (by unfold inb; omega)).trans w62
  have x15 : K 15 = zCa X := by rw [hK]; rfl
  refine g_aload_n q_X10_read_243 rfl ?_
  refine g_iconst q_X10_read_244 ?_
  refine g_putM fp_X10_223 q_X10_read_245 (by repeat first | with_reducible assumption | with_reducible exact hput_s _ _ _ | refine (hput_n _ _ (by omega)).trans ?_ | exact hput_s _ _ _ | assumption) rfl rfl mset_20 ?_
  refine g_aload_n q_X10_read_248 rfl ?_
  have y0 : (hput ψ m (mdo m (va_up K 20 0))).2 m = some (mdo m (va_up K 20 0)) := hput_s _ _ _
  refine g_callV (rc' := 0) (rs' := 0) (As := []) cs_X10_226 q_X10_read_249 (sp_changes hΓ y0) rfl (by repeat first | with_reducible assumption | with_reducible exact hput_s _ _ _ | refine (hput_n _ _ (by omega)).trans ?_ | exact hput_s _ _ _ | assumption) rfl rfl rfl rfl (Nat.le_of_ble_eq_true rfl) (by decide) (by decide) (by decide) (fun _ _ h => h.elim) (k_rv ?_)
  rw [hput_hput]
  refine g_aload_n q_X10_read_252 rfl ?_
  refine g_get fl_X10_220 q_X10_read_253 (by repeat first | with_reducible assumption | with_reducible exact hput_s _ _ _ | refine (hput_n _ _ (by omega)).trans ?_ | exact hput_s _ _ _ | assumption) rfl ?_
  refine g_topi (b := (zCa X : Int)) (by exact x15) ?_
  refine g_ireturn q_X10_read_256.1 rfl ?_
  obtain ⟨K2, hK2⟩ : ∃ K2, K2 = va_up (va_up K 20 0) 33 (-1) := ⟨_, rfl⟩
  rw [← hK2]
  have hA9 : ∀ k, k ≠ 6 → k ≠ 8 → k ≠ 9 → va_up (va_up (va_up B 6 (B 2)) 8 (B 4)) 9 (B 5) k = B k := fun k a b c => by rw [va_ne c, va_ne b, va_ne a]
  have hE4 : eqOff ρ (hput ψ m (mdo m K2)) (fun a => a = m ∨ inb (m + 6) 4 a) := ((eqOff.trans (F := fun a => a = m ∨ inb (m + 6) 4 a) (⟨hE2.1, fun a ha => hE2.2 a (fun q => ha (Or.inr (by unfold inb at *; omega)))⟩) hE3 (fun a i => Or.inr (by unfold inb at *; omega)))).put (a := m) (Or.inl rfl) _
  have hMf : MC (hput ψ m (mdo m K2)) m K2 (va_up (va_up (va_up B 6 (B 2)) 8 (B 4)) 9 (B 5)) (va_up N' 7 (N' 3)) := hM1.all (hput_s _ _ _) hE4 hA9 (fun k hk => va_ne hk) ((hput_n _ _ (by omega)).trans x6) ((hput_n _ _ (by omega)).trans x7) ((hput_n _ _ (by omega)).trans x8) ((hput_n _ _ (by omega)).trans x9)
  have hK2k : ∀ k, k ≠ 0 → k ≠ 13 → k ≠ 14 → k ≠ 15 → k ≠ 20 → k ≠ 33 → K2 k = J k := fun k a b c d e f => by rw [hK2, va_ne f, va_ne e, hK, va_ne d, va_ne c, va_ne b, va_ne a]
  refine Or.inl ⟨hp, rfl, ⟨K2, _, _, by rw [hK2, hK]; rfl, hMf, ?_⟩, ?_⟩
  · obtain ⟨b1, b2, b3, b4, b5, b6, b7, b8⟩ := hW
    refine ⟨⟨?_, by omega, fun i _ => ?_, b1.2.2.2.1, ?_⟩, ⟨?_, ⟨by decide, by decide⟩⟩, ⟨⟨⟨?_, ?_, ?_⟩, ?_, ?_, ?_⟩, wf⟩, fun k hk => ?_, ⟨?_, by decide, trivial, trivial⟩, Or.inl ?_, ⟨?_, b7.2.1, fun i hi => ?_⟩, fun i => ?_⟩
    · rw [hK2k 2 (by omega) (by omega) (by omega) (by omega) (by omega) (by omega), hF1.1 2 (by omega), hJ0.1]; rfl
    · rw [hA9 1 (by omega) (by omega) (by omega), o2]
    · rw [hA9 2 (by omega) (by omega) (by omega)]; exact o1
    · rw [hK2k 5 (by omega) (by omega) (by omega) (by omega) (by omega) (by omega), o4]
    · rw [hK2, hK]; rfl
    · rw [hK2, hK]; rfl
    · rw [hK2, hK]; rfl
    · exact o1
    · exact r2
    · intro k hk
      exact ⟨(r4 k hk).1, (r4 k hk).2.1⟩
    · rw [va_eq]; exact (r4 k hk).2.2
    · rw [hK2]; rfl
    · rw [hK2]; rfl
    · rw [hK2k 55 (by omega) (by omega) (by omega) (by omega) (by omega) (by omega), hF1.1 55 (by omega), hJ0.2 55 (by omega)]; exact b7.1
    · rw [hA9 33 (by omega) (by omega) (by omega), hF1.2.1 33 (by omega) (by omega) (by omega), hA0 33 (by omega)]; exact b7.2.2 i hi
    · rw [hA9 16 (by omega) (by omega) (by omega), hF1.2.1 16 (by omega) (by omega) (by omega), hA0 16 (by omega)]; exact b8 i
  · exact hE1.trans hE4 (fun a i => by
      rcases i with i | i
      · rw [i]; exact ⟨by omega, by omega⟩
      · unfold inb at *; omega)
theorem sp_mread (hΓ : Gd Γ) (hX : MX σ m e0 len tx fa z l wl wr) (PL GO LE NL : Nat → Int) (hg : gbg PL GO LE NL) : Sp Γ miX10_read 0 0 [.ref m] σ (rdQ σ m tx len z l wl wr PL GO LE NL) noX := by
  obtain ⟨I, A, N, -, h, hW⟩ := hX
  obtain ⟨i2, hl, t3, oX, oS⟩ := hW.1
  refine Sp_of (L := [_, _]) hΓ (by decide +kernel) rfl (Nat.le_of_ble_eq_true rfl) rfl ?_
  refine g_repI h.a1 (f' := tx) t3 ?_
  have hM : MC (hput σ (m + 1) (ai 400 tx)) m I (va_up A 1 tx) N := h.putA 1 (by omega) tx
  have hE0 : eqOff σ (hput σ (m + 1) (ai 400 tx)) (inb m 34) := eqOff.rfl'.put ⟨by omega, by omega⟩ _
  obtain ⟨τ, hτ⟩ : ∃ τ, τ = hput σ (m + 1) (ai 400 tx) := ⟨_, rfl⟩
  refine g_eq (σ2 := τ) rfl rfl hτ.symm ?_
  rw [← hτ] at hM hE0
  clear hτ
  have t0 := hM.1
  refine g_aload_n q_X10_read_0 rfl ?_
  refine g_aload_n q_X10_read_1 rfl ?_
  refine g_get fl_X10_119 q_X10_read_2 (by repeat first | with_reducible assumption | with_reducible exact hput_s _ _ _ | refine (hput_n _ _ (by omega)).trans ?_ | exact hput_s _ _ _ | assumption) rfl ?_
  refine g_topi (b := (len : Int)) (by exact i2) ?_
  refine g_putM fp_X10_128 q_X10_read_5 (by repeat first | with_reducible assumption | with_reducible exact hput_s _ _ _ | refine (hput_n _ _ (by omega)).trans ?_ | exact hput_s _ _ _ | assumption) rfl rfl mset_3 ?_
  refine g_aload_n q_X10_read_8 rfl ?_
  refine g_iconst q_X10_read_9 ?_
  refine g_putM fp_X10_119 q_X10_read_10 (by repeat first | with_reducible assumption | with_reducible exact hput_s _ _ _ | refine (hput_n _ _ (by omega)).trans ?_ | exact hput_s _ _ _ | assumption) rfl rfl mset_2 ?_
  refine g_aload_n q_X10_read_13 rfl ?_
  refine g_iconst q_X10_read_14 ?_
  refine g_putM fp_X10_125 q_X10_read_15 (by repeat first | with_reducible assumption | with_reducible exact hput_s _ _ _ | refine (hput_n _ _ (by omega)).trans ?_ | exact hput_s _ _ _ | assumption) rfl rfl mset_4 ?_
  refine g_aload_n q_X10_read_18 rfl ?_
  refine g_iconst q_X10_read_19 ?_
  refine g_putM fp_X10_13 q_X10_read_20 (by repeat first | with_reducible assumption | with_reducible exact hput_s _ _ _ | refine (hput_n _ _ (by omega)).trans ?_ | exact hput_s _ _ _ | assumption) rfl rfl mset_5 ?_
  refine g_aload_n q_X10_read_23 rfl ?_
  refine g_iconst q_X10_read_24 ?_
  refine g_putM fp_X10_183 q_X10_read_25 (by repeat first | with_reducible assumption | with_reducible exact hput_s _ _ _ | refine (hput_n _ _ (by omega)).trans ?_ | exact hput_s _ _ _ | assumption) rfl rfl mset_6 ?_
  refine g_aload_n q_X10_read_28 rfl ?_
  refine g_iconst q_X10_read_29 ?_
  refine g_putM fp_X10_173 q_X10_read_30 (by repeat first | with_reducible assumption | with_reducible exact hput_s _ _ _ | refine (hput_n _ _ (by omega)).trans ?_ | exact hput_s _ _ _ | assumption) rfl rfl mset_7 ?_
  refine g_aload_n q_X10_read_33 rfl ?_
  refine g_iconst q_X10_read_34 ?_
  refine g_putM fp_X10_176 q_X10_read_35 (by repeat first | with_reducible assumption | with_reducible exact hput_s _ _ _ | refine (hput_n _ _ (by omega)).trans ?_ | exact hput_s _ _ _ | assumption) rfl rfl mset_8 ?_
  simp only [hput_hput]
  obtain ⟨J0, hJ⟩ : ∃ J0, J0 = va_up (va_up (va_up (va_up (va_up (va_up (va_up I 3 (len : Int)) 2 0) 4 0) 5 (-1)) 6 0) 7 0) 8 0 := ⟨_, rfl⟩
  rw [← hJ]
  have hJ0 : J0 2 = 0 ∧ ∀ k, 8 < k → J0 k = I k := ⟨by rw [hJ]; rfl, fun k hk => by rw [hJ, va_ne (by omega), va_ne (by omega), va_ne (by omega), va_ne (by omega), va_ne (by omega), va_ne (by omega), va_ne (by omega)]⟩
  have hA0 : ∀ k, k ≠ 1 → va_up A 1 tx k = A k := fun k hk => va_ne hk
  have j3 : J0 3 = len := by rw [hJ]; rfl
  have j4 : J0 4 = 0 := by rw [hJ]; rfl
  have j5 : J0 5 = -1 := by rw [hJ]; rfl
  have j6 : J0 6 = 0 := by rw [hJ]; rfl
  have j7 : J0 7 = 0 := by rw [hJ]; rfl
  have j8 : J0 8 = 0 := by rw [hJ]; rfl
  obtain ⟨R, hR⟩ : ∃ R, R = prR tx len PL GO LE NL := ⟨_, rfl⟩
  have hpF : prF tx len PL GO LE NL = if R.1 = -1 ∧ zRo R.2 = 0 then (len : Int) else R.1 := by rw [hR]; rfl
  refine rd_38 (σ := σ) (J0 := J0) (A0 := va_up A 1 tx) (N0 := N) (R := R) hΓ oX hl ?_ ?_ 401 (prS PL GO LE NL) _ ⟨hE0.put ⟨by omega, by omega⟩ _, J0, va_up A 1 tx, N, hM.putI J0, lnF.rfl', oS, va_eq, j3, j5, (show rg (-1) from ⟨by decide, by decide⟩), fun _ => ⟨⟨j3, j4, j6, j7, j8⟩, ⟨va_eq, fun c hc => absurd hc.1 (Nat.not_lt_zero _)⟩, fun k hk => absurd hk (Nat.not_lt_zero k)⟩⟩ ⟨⟨⟨Nat.zero_le _, Nat.zero_le _, Nat.zero_le _⟩, fun k => ⟨Int.le_refl 0, by show (0 : Int) < 6; decide⟩, hg.1, hg.2.1, hg.2.2.1, hg.2.2.2⟩, fun k hk => absurd hk (Nat.not_lt_zero k), fun i j _ hj => absurd hj (Nat.not_lt_zero j), fun k hk => absurd hk (Nat.not_lt_zero k)⟩ (Nat.zero_le _) (by show len - 0 < 401; omega) hR.symm
  · intro τ' p' hRS hp' hR1 hwf
    obtain ⟨hE, J, B, N', hM', hF1, o1, o2, o3, o4, o5, o6⟩ := hRS
    have hPR := o6 rfl
    have k0 := hM'.1
    have hpI : pI J (p' : Int) (-1) = J := pI_s hPR.1.2.1 o4
    have k00 : τ'.2 m = some (mdo m (pI J (p' : Int) (-1))) := by rw [hpI]; exact k0
    have r6 := hwf.1.1.2.1
    have j7' : J 7 = zRo R.2 := hPR.1.2.2.2.1
    refine g_aload_n q_X10_read_99 rfl ?_
    refine g_get fl_X10_13 q_X10_read_100 (by repeat first | with_reducible assumption | with_reducible exact hput_s _ _ _ | refine (hput_n _ _ (by omega)).trans ?_ | exact hput_s _ _ _ | assumption) rfl ?_
    refine g_topi (b := (-1 : Int)) (by rfl) ?_
    refine g_iconst q_X10_read_103 ?_
    refine g_icmp_ne (tgt := 118) q_X10_read_104 (by decide) ⟨by omega, by omega⟩ ⟨by omega, by omega⟩ (fun b1 => ?_) (fun b1 => ?_)
    · exact absurd rfl b1
    refine g_aload_n q_X10_read_107 rfl ?_
    refine g_get fl_X10_173 q_X10_read_108 (by repeat first | with_reducible assumption | with_reducible exact hput_s _ _ _ | refine (hput_n _ _ (by omega)).trans ?_ | exact hput_s _ _ _ | assumption) rfl ?_
    refine g_topi (b := (zRo R.2 : Int)) (by exact j7') ?_
    refine g_if_ne (tgt := 118) q_X10_read_111 (by decide) ⟨by omega, by omega⟩ (fun b2 => ?_) (fun b2 => ?_)
    · rw [if_neg (by omega), hR1] at hpF
      exact rd_118g hΓ hW hJ0 hA0 hg (p := p') (by rw [← hR]; exact ⟨hE, J, B, N', hM', hF1, o1, o2, o3, o4, o5, o6⟩) hpF
    · rw [if_pos ⟨hR1, by omega⟩] at hpF
      refine g_aload_n q_X10_read_114 rfl ?_
      refine g_callV (rc' := 0) (rs' := 0) (As := []) cs_X10_151 q_X10_read_115 (sp_mwrong hΓ k00 ⟨by decide, by decide⟩) rfl (by repeat first | with_reducible assumption | with_reducible exact hput_s _ _ _ | refine (hput_n _ _ (by omega)).trans ?_ | exact hput_s _ _ _ | assumption) rfl rfl rfl rfl (Nat.le_of_ble_eq_true rfl) (by decide) (by decide) (by decide) (fun _ _ h => h.elim) (k_rv ?_)
      rw [if_pos rfl, hp']
      exact rd_118f (F := (len : Int)) hW hJ0 hA0 (y := R.2) ⟨hE.put ⟨by omega, by omega⟩ _, _, B, N', hM'.putI _, hF1.trans (lnF.pp _ _), o1, o2, o3, rfl, (show rg (len : Int) from ⟨by omega, by omega⟩), fun e => by
        have e : (len : Int) = -1 := e
        omega⟩ (by omega) hpF
  · rintro τ' hR1 ⟨y, hRS⟩
    rw [if_neg (fun q => hR1 q.1)] at hpF
    have hRS0 := hRS
    obtain ⟨hE, J, B, N', hM', hF1, o1, o2, o3, o4, o5, o6⟩ := hRS
    have k0 := hM'.1
    refine g_aload_n q_X10_read_99 rfl ?_
    refine g_get fl_X10_13 q_X10_read_100 (by repeat first | with_reducible assumption | with_reducible exact hput_s _ _ _ | refine (hput_n _ _ (by omega)).trans ?_ | exact hput_s _ _ _ | assumption) rfl ?_
    refine g_topi (b := R.1) (by exact o4) ?_
    refine g_iconst q_X10_read_103 ?_
    refine g_icmp_ne (tgt := 118) q_X10_read_104 (by decide) o5 ⟨by omega, by omega⟩ (fun b1 => ?_) (fun b1 => ?_)
    · exact rd_118f hW hJ0 hA0 hRS0 hR1 hpF
    · exact absurd b1 hR1
end MRe

