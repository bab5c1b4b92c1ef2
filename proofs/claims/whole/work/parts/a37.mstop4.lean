/-! the reference: notSooner, waitsFor, laysStop, lateBy -/
theorem sumN_le' {f g : Nat → Int} : ∀ {n : Nat}, (∀ k, k < n → f k ≤ g k) → sumN f n ≤ sumN g n
  | 0, _ => Int.le_refl _
  | n + 1, h => by
    have h1 := sumN_le' (n := n) (fun k hk => h k (by omega))
    have h2 := h n (by omega)
    rw [sumN, sumN]
    omega
theorem sumN_lt' {f g : Nat → Int} {k0 : Nat} : ∀ {n : Nat}, (∀ k, k < n → f k ≤ g k) → k0 < n → f k0 < g k0 → sumN f n < sumN g n
  | 0, _, h, _ => absurd h (Nat.not_lt_zero k0)
  | n + 1, h, hk, hl => by
    rw [sumN, sumN]
    by_cases e : k0 = n
    · have h1 := sumN_le' (n := n) (fun k hk => h k (by omega))
      rw [e] at hl
      omega
    · have h1 := sumN_lt' (n := n) (fun k hk => h k (by omega)) (by omega) hl
      have h2 := h n (by omega)
      omega
section ThO
variable {P : Nat → Int} {n : Nat} {vn : Nat → Nat} {T : Nat → Nat → Nat} {S : Nat → Nat → Int} {th th1 th2 : Nat → Int} {b b1 b2 : Bool}
/-- times of visits, no sooner than told and no later than S -/
def ThO (n : Nat) (vn : Nat → Nat) (T : Nat → Nat → Nat) (S : Nat → Nat → Int) (th : Nat → Int) : Prop := ∀ c, c < n → ∀ i, i < vn c → (T c i : Int) ≤ th (41 * c + i) ∧ th (41 * c + i) ≤ S c i
/-- times were put off (b), or nothing is changed -/
def Cg (n : Nat) (vn : Nat → Nat) (th th' : Nat → Int) (b : Bool) : Prop := (∀ c, c < n → ∀ i, i < vn c → th (41 * c + i) ≤ th' (41 * c + i)) ∧ (b = false → th' = th) ∧ (b = true → ∃ c i, c < n ∧ i < vn c ∧ th (41 * c + i) < th' (41 * c + i))
theorem Cg.rfl' : Cg n vn th th false := ⟨fun _ _ _ _ => Int.le_refl _, fun _ => rfl, fun q => by cases q⟩
theorem Cg.trans (h : Cg n vn th th1 b1) (h2 : Cg n vn th1 th2 b2) : Cg n vn th th2 (b1 || b2) := by
  obtain ⟨p1, p2, p3⟩ := h
  obtain ⟨q1, q2, q3⟩ := h2
  refine ⟨fun c hc i hi => Int.le_trans (p1 c hc i hi) (q1 c hc i hi), fun e => ?_, fun e => ?_⟩
  · rw [Bool.or_eq_false_iff] at e
    rw [q2 e.2, p2 e.1]
  · cases hb1 : b1 with
    | true =>
      obtain ⟨c, i, hc, hi, hl⟩ := p3 hb1
      exact ⟨c, i, hc, hi, Int.lt_of_lt_of_le hl (q1 c hc i hi)⟩
    | false =>
      rw [hb1, Bool.false_or] at e
      obtain ⟨c, i, hc, hi, hl⟩ := q3 e
      exact ⟨c, i, hc, hi, Int.lt_of_le_of_lt (p1 c hc i hi) hl⟩
def muT (n : Nat) (vn : Nat → Nat) (S : Nat → Nat → Int) (th : Nat → Int) : Nat := (sumN (fun c => sumN (fun i => S c i - th (41 * c + i)) (vn c)) n).toNat
theorem mu_lt (h1 : ThO n vn T S th1) (h : Cg n vn th th1 true) : muT n vn S th1 < muT n vn S th := by
  obtain ⟨p1, -, p3⟩ := h
  obtain ⟨c0, i0, hc, hi, hl⟩ := p3 rfl
  have hs : sumN (fun c => sumN (fun i => S c i - th1 (41 * c + i)) (vn c)) n < sumN (fun c => sumN (fun i => S c i - th (41 * c + i)) (vn c)) n := by
    refine sumN_lt' (k0 := c0) (fun c hc => sumN_le' fun i hi => ?_) hc (sumN_lt' (k0 := i0) (fun i hi => ?_) hi ?_)
    · have := p1 c hc i hi; omega
    · have := p1 c0 hc i hi; omega
    · omega
  have h0 : 0 ≤ sumN (fun c => sumN (fun i => S c i - th1 (41 * c + i)) (vn c)) n := by
    have z : ∀ k, sumN (fun _ => (0 : Int)) k = 0 := fun k => by
      induction k with
      | zero => rfl
      | succ k ih => rw [sumN, ih]; rfl
    rw [← z n]
    refine sumN_le' fun c hc => ?_
    show 0 ≤ sumN (fun i => S c i - th1 (41 * c + i)) (vn c)
    rw [← z (vn c)]
    refine sumN_le' fun i hi => ?_
    have := (h1 c hc i hi).2
    show 0 ≤ S c i - th1 (41 * c + i)
    omega
  unfold muT
  omega
/-- one time is put off, if it was sooner -/
def nsT (th : Nat → Int) (k : Nat) (t : Int) : Nat → Int := if th k < t then va_up th k t else th
theorem ns_ok (hT : VT P n vn T) (h : ThO n vn T S th) {c i : Nat} (hc : c < n) (hi : i < vn c) {t : Int} (ht : t ≤ S c i) : ThO n vn T S (nsT th (41 * c + i) t) ∧ Cg n vn th (nsT th (41 * c + i) t) (decide (th (41 * c + i) < t)) ∧ t ≤ nsT th (41 * c + i) t (41 * c + i) := by
  have u : ∀ a j, a < n → j < vn a → (41 * a + j = 41 * c + i ↔ a = c ∧ j = i) := fun a j ha hj => by
    have := (hT a ha).1.2
    have := (hT c hc).1.2
    omega
  unfold nsT
  by_cases hl : th (41 * c + i) < t
  · rw [if_pos hl, decide_eq_true hl]
    refine ⟨fun a ha j hj => ?_, ⟨fun a ha j hj => ?_, fun q => (by cases q), fun _ => ⟨c, i, hc, hi, by rw [va_eq]; exact hl⟩⟩, by rw [va_eq]; exact Int.le_refl _⟩
    · by_cases e : 41 * a + j = 41 * c + i
      · obtain ⟨e1, e2⟩ := (u a j ha hj).mp e
        rw [e1, e2, va_eq]
        have := (h c hc i hi).1
        exact ⟨by omega, ht⟩
      · rw [va_ne e]; exact h a ha j hj
    · by_cases e : 41 * a + j = 41 * c + i
      · rw [e, va_eq]; omega
      · rw [va_ne e]; exact Int.le_refl _
  · rw [if_neg hl, decide_eq_false hl]
    exact ⟨h, Cg.rfl', by omega⟩
end ThO
section MSt
variable {Γ : GT} {σ : AH} {m : Nat} {J : Nat → Int} {P W th : Nat → Int} {n kp : Nat} {f27 f28 f29 : Nat → Int} {vn : Nat → Nat} {T : Nat → Nat → Nat} {S : Nat → Nat → Int}
theorem sp_notSooner (hΓ : Gd Γ) (h0 : σ.2 m = some (mdo m J)) (h30 : σ.2 (m + 30) = some (ai 205 th)) (k : Nat) (hk : k < 205) (t : Int) (ht : rg t) (hth : rg (th k)) : Sp Γ miX10_notSooner 0 0 [.ref m, .int (ii k), .int (ii t)] σ (rb (decide (th k < t)) (hput σ (m + 30) (ai 205 (nsT th k t)))) noX := by
  unfold nsT
  refine Sp_of (L := [_, _, _]) hΓ (by decide +kernel) rfl (Nat.le_of_ble_eq_true rfl) rfl ?_
  refine g_aload_n q_X10_notSooner_0 rfl ?_
  refine g_get fl_X10_107 q_X10_notSooner_1 (by repeat first | with_reducible assumption | with_reducible exact hput_s _ _ _ | refine (hput_n _ _ (by omega)).trans ?_ | exact hput_s _ _ _ | assumption) rfl ?_
  refine g_iload_n q_X10_notSooner_4 rfl ?_
  refine g_iaload q_X10_notSooner_5 (by repeat first | with_reducible assumption | with_reducible exact hput_s _ _ _ | refine (hput_n _ _ (by omega)).trans ?_ | exact hput_s _ _ _ | assumption) (by omega) (by omega) ?_
  refine g_topi (b := th k) (by rfl) ?_
  refine g_iload_n q_X10_notSooner_6 rfl ?_
  refine g_icmp_lt (tgt := 12) q_X10_notSooner_7 (by decide) hth ht (fun b1 => ?_) (fun b1 => ?_)
  · rw [decide_eq_true b1, if_pos b1]
    refine g_aload_n q_X10_notSooner_12 rfl ?_
    refine g_get fl_X10_107 q_X10_notSooner_13 (by repeat first | with_reducible assumption | with_reducible exact hput_s _ _ _ | refine (hput_n _ _ (by omega)).trans ?_ | exact hput_s _ _ _ | assumption) rfl ?_
    refine g_iload_n q_X10_notSooner_16 rfl ?_
    refine g_iload_n q_X10_notSooner_17 rfl ?_
    refine g_iastore q_X10_notSooner_18 (by repeat first | with_reducible assumption | with_reducible exact hput_s _ _ _ | refine (hput_n _ _ (by omega)).trans ?_ | exact hput_s _ _ _ | assumption) (by omega) (by omega) ?_
    rw [Int.toNat_natCast]
    refine g_iconst q_X10_notSooner_19 ?_
    refine g_zreturn q_X10_notSooner_20.1 rfl (by first | exact Or.inl rfl | exact Or.inr rfl | omega) ?_
    exact ⟨rfl, rfl⟩
  · rw [decide_eq_false (by omega), if_neg (by omega), hput_id h30]
    refine g_iconst q_X10_notSooner_10 ?_
    refine g_zreturn q_X10_notSooner_11.1 rfl (by first | exact Or.inl rfl | exact Or.inr rfl | omega) ?_
    exact ⟨rfl, rfl⟩
/-- the block of a stop: visits as told, times th -/
def sbO (σ : AH) (m : Nat) (J f27 f28 f29 th : Nat → Int) : Prop := σ.2 m = some (mdo m J) ∧ σ.2 (m + 27) = some (ai 5 f27) ∧ σ.2 (m + 28) = some (ai 205 f28) ∧ σ.2 (m + 29) = some (ai 205 f29) ∧ σ.2 (m + 30) = some (ai 205 th)
theorem sbO.put (h : sbO σ m J f27 f28 f29 th) (th' : Nat → Int) : sbO (hput σ (m + 30) (ai 205 th')) m J f27 f28 f29 th' := ⟨(hput_n _ _ (by omega)).trans h.1, (hput_n _ _ (by omega)).trans h.2.1, (hput_n _ _ (by omega)).trans h.2.2.1, (hput_n _ _ (by omega)).trans h.2.2.2.1, hput_s _ _ _⟩
/-- what the rows say -/
def sbV (P : Nat → Int) (n : Nat) (vn : Nat → Nat) (T : Nat → Nat → Nat) (f27 f28 f29 : Nat → Int) : Prop := VT P n vn T ∧ ∀ c, c < n → f27 c = vn c ∧ ∀ i, i < vn c → f28 (41 * c + i) = P (41 * c + T c i) ∧ f29 (41 * c + i) = (T c i : Int)
def okTS (n : Nat) (vn : Nat → Nat) (S : Nat → Nat → Int) : Prop := ∀ c, c < n → ∀ i, i < vn c → S c i ≤ 200
/-- who waits for whom -/
def wfC (P : Nat → Int) (vn : Nat → Nat) (T : Nat → Nat → Nat) (th : Nat → Int) (c i o j : Nat) : Prop := o ≠ c → j + 1 < vn o → P (41 * o + T o j) = P (41 * c + T c i) → T o j < T c i → th (41 * o + (j + 1)) ≤ th (41 * c + i)
theorem sp_waitsFor (hΓ : Gd Γ) (n5 : n ≤ 5) (j15 : J 15 = n) (hV : sbV P n vn T f27 f28 f29) (hPr : ∀ i, i < 41 * n → rg (P i)) (hS : okTS n vn S) (c i : Nat) (hc : c < n) (hi : i < vn c) (hup : ∀ o, o < n → o ≠ c → ∀ j, j + 1 < vn o → P (41 * o + T o j) = P (41 * c + T c i) → T o j < T c i → S o (j + 1) ≤ S c i) (hB : sbO σ m J f27 f28 f29 th) (hTH : ThO n vn T S th) : Sp Γ miX10_waitsFor 0 0 [.ref m, .int (ii c), .int (ii i)] σ (fun r ω => ∃ b th', r = some (.int (ii (bi b))) ∧ ω = hput σ (m + 30) (ai 205 th') ∧ ThO n vn T S th' ∧ Cg n vn th th' b ∧ (b = false → ∀ o, o < n → ∀ j, wfC P vn T th c i o j)) noX := by
  have hVT := hV.1
  have hv41 : ∀ a, a < n → vn a ≤ 41 := fun a ha => (hVT a ha).1.2
  have hvc := hv41 c hc
  have hrg : ∀ {th'}, ThO n vn T S th' → ∀ a, a < n → ∀ j, j < vn a → 0 ≤ th' (41 * a + j) ∧ th' (41 * a + j) ≤ 200 := fun q a ha j hj => by
    have h1 := q a ha j hj
    have h2 := hS a ha j hj
    omega
  obtain ⟨h0, h27, h28, h29, h30⟩ := hB
  obtain ⟨e27c, ec⟩ := hV.2 c hc
  obtain ⟨e28, e29⟩ := ec i hi
  have hT40 : ∀ a, a < n → ∀ j, j < vn a → T a j ≤ 40 := fun a ha j hj => (hVT a ha).2.2.1 j hj
  refine Sp_of (L := [_, _, _, _, _, _, _, _]) hΓ (by decide +kernel) rfl (Nat.le_of_ble_eq_true rfl) rfl ?_
  refine g_bipush q_X10_waitsFor_0 bp_41 ?_
  refine g_iload_n q_X10_waitsFor_2 rfl ?_
  refine g_imul q_X10_waitsFor_3 ?_
  refine g_iload_n q_X10_waitsFor_4 rfl ?_
  refine g_iadd q_X10_waitsFor_5 ?_
  refine g_topi (b := ((41 * c + i : Nat) : Int)) (by omega) ?_
  refine g_istore_n (L' := [_, _, _, _, _, _, _, _]) q_X10_waitsFor_6 (by decide) rfl ?_
  refine g_iconst q_X10_waitsFor_7 ?_
  refine g_istore (L' := [_, _, _, _, _, _, _, _]) q_X10_waitsFor_8 (by decide) rfl ?_
  refine g_iconst q_X10_waitsFor_10 ?_
  refine g_istore (L' := [_, _, _, _, _, _, _, _]) q_X10_waitsFor_11 (by decide) rfl ?_
  refine g_eq (σ2 := hput σ (m + 30) (ai 205 th)) rfl rfl (hput_id h30).symm ?_
  obtain ⟨Q, hQ⟩ : ∃ Q : Option Value → AH → Prop, Q = fun r ω => ∃ b th', r = some (.int (ii (bi b))) ∧ ω = hput σ (m + 30) (ai 205 th') ∧ ThO n vn T S th' ∧ Cg n vn th th' b ∧ (b = false → ∀ o, o < n → ∀ j, wfC P vn T th c i o j) := ⟨_, rfl⟩
  rw [← hQ]
  refine g_loop3 (fun (o : Nat) (th' : Nat → Int) (b : Bool) => o ≤ n ∧ ThO n vn T S th' ∧ Cg n vn th th' b ∧ (b = false → ∀ o', o' < o → ∀ j, wfC P vn T th c i o' j)) (fun o th' b => G Γ miX10_waitsFor cX10_waitsFor Q noX 0 0 13 [some (.ref m), some (.int (ii c)), some (.int (ii i)), some (.int (ii ((41 * c + i : Nat) : Int))), some (.int (ii (bi b))), some (.int (ii o)), none, none] [] (hput σ (m + 30) (ai 205 th'))) (fun o _ _ => n - o) ?_ 0 th false ⟨Nat.zero_le _, hTH, Cg.rfl', fun _ o ho => absurd ho (Nat.not_lt_zero o)⟩
  rintro o th1 b1 ⟨ho, hTH1, hC1, hW1⟩ ih
  have k0 : (hput σ (m + 30) (ai 205 th1)).2 m = some (mdo m J) := (hput_n _ _ (by omega)).trans h0
  refine g_iload q_X10_waitsFor_13 rfl ?_
  refine g_aload_n q_X10_waitsFor_15 rfl ?_
  refine g_get fl_X10_220 q_X10_waitsFor_16 (by repeat first | with_reducible assumption | with_reducible exact hput_s _ _ _ | refine (hput_n _ _ (by omega)).trans ?_ | exact hput_s _ _ _ | assumption) rfl ?_
  refine g_topi (b := (n : Int)) (by exact j15) ?_
  refine g_icmp_ge (tgt := 119) q_X10_waitsFor_19 (by decide) ⟨by omega, by omega⟩ ⟨by omega, by omega⟩ (fun d1 => ?_) (fun d1 => ?_)
  · have e : o = n := by omega
    subst e
    refine g_iload q_X10_waitsFor_119 rfl ?_
    refine g_zreturn q_X10_waitsFor_121.1 rfl (bi_01 _) ?_
    rw [hQ]
    exact ⟨b1, th1, rfl, rfl, hTH1, hC1, hW1⟩
  have hon : o < n := by omega
  obtain ⟨e27o, eo⟩ := hV.2 o hon
  have hvo := hv41 o hon
  refine g_iconst q_X10_waitsFor_22 ?_
  refine g_istore (L' := [_, _, _, _, _, _, _, _]) q_X10_waitsFor_23 (by decide) rfl ?_
  refine g_loop3 (fun (j : Nat) (th' : Nat → Int) (b : Bool) => j < 41 ∧ ThO n vn T S th' ∧ Cg n vn th th' b ∧ (b = false → (∀ o', o' < o → ∀ j, wfC P vn T th c i o' j) ∧ ∀ j', j' < j → wfC P vn T th c i o j')) (fun j th' b => G Γ miX10_waitsFor cX10_waitsFor Q noX 0 0 25 [some (.ref m), some (.int (ii c)), some (.int (ii i)), some (.int (ii ((41 * c + i : Nat) : Int))), some (.int (ii (bi b))), some (.int (ii o)), some (.int (ii j)), none] [] (hput σ (m + 30) (ai 205 th'))) (fun j _ _ => 41 - j) ?_ 0 th1 b1 ⟨by omega, hTH1, hC1, fun e => ⟨hW1 e, fun j hj => absurd hj (Nat.not_lt_zero j)⟩⟩
  clear hTH1 hC1 hW1 k0 th1 b1
  rintro j th1 b1 ⟨hj41, hTH1, hC1, hW1⟩ ih2
  have k0 : (hput σ (m + 30) (ai 205 th1)).2 m = some (mdo m J) := (hput_n _ _ (by omega)).trans h0
  have k27 : (hput σ (m + 30) (ai 205 th1)).2 (m + 27) = some (ai 5 f27) := (hput_n _ _ (by omega)).trans h27
  have k28 : (hput σ (m + 30) (ai 205 th1)).2 (m + 28) = some (ai 205 f28) := (hput_n _ _ (by omega)).trans h28
  have k29 : (hput σ (m + 30) (ai 205 th1)).2 (m + 29) = some (ai 205 f29) := (hput_n _ _ (by omega)).trans h29
  have k30 : (hput σ (m + 30) (ai 205 th1)).2 (m + 30) = some (ai 205 th1) := hput_s _ _ _
  have out : (∀ j', j ≤ j' → wfC P vn T th c i o j') → ∀ l7, G Γ miX10_waitsFor cX10_waitsFor Q noX 0 0 113 [some (.ref m), some (.int (ii c)), some (.int (ii i)), some (.int (ii ((41 * c + i : Nat) : Int))), some (.int (ii (bi b1))), some (.int (ii o)), some (.int (ii j)), l7] [] (hput σ (m + 30) (ai 205 th1)) := by
    intro hr l7
    have hnx := ih (o + 1) th1 b1 ⟨by omega, hTH1, hC1, fun e o' ho' j' => by
      by_cases eo' : o' = o
      · rw [eo']
        by_cases ej : j' < j
        · exact (hW1 e).2 j' ej
        · exact hr j' (by omega)
      · exact (hW1 e).1 o' (by omega) j'⟩ (by omega)
    refine g_iinc (L' := [_, _, _, _, _, _, _, _]) q_X10_waitsFor_113 rfl rfl ?_
    refine g_goto (tgt := 13) q_X10_waitsFor_116 (by decide) ?_
    exact g_fl hnx ⟨rfl, rfl, rfl, rfl, rfl, rfl, trivial⟩
  have next : ∀ (th2 : Nat → Int) (b2 : Bool), ThO n vn T S th2 → Cg n vn th th2 b2 → (b2 = false → b1 = false ∧ wfC P vn T th c i o j) → j + 1 < 41 → ∀ l7, G Γ miX10_waitsFor cX10_waitsFor Q noX 0 0 107 [some (.ref m), some (.int (ii c)), some (.int (ii i)), some (.int (ii ((41 * c + i : Nat) : Int))), some (.int (ii (bi b2))), some (.int (ii o)), some (.int (ii j)), l7] [] (hput σ (m + 30) (ai 205 th2)) := by
    intro th2 b2 q1 q2 q3 q4 l7
    have hnx := ih2 (j + 1) th2 b2 ⟨q4, q1, q2, fun e => ⟨(hW1 (q3 e).1).1, fun j' hj' => by
      by_cases ej : j' = j
      · rw [ej]; exact (q3 e).2
      · exact (hW1 (q3 e).1).2 j' (by omega)⟩⟩ (by omega)
    refine g_iinc (L' := [_, _, _, _, _, _, _, _]) q_X10_waitsFor_107 rfl rfl ?_
    refine g_goto (tgt := 25) q_X10_waitsFor_110 (by decide) ?_
    exact g_fl hnx ⟨rfl, rfl, rfl, rfl, rfl, rfl, rfl, trivial⟩
  refine g_iload q_X10_waitsFor_25 rfl ?_
  refine g_iconst q_X10_waitsFor_27 ?_
  refine g_iadd q_X10_waitsFor_28 ?_
  refine g_topi (b := ((j + 1 : Nat) : Int)) (by omega) ?_
  refine g_aload_n q_X10_waitsFor_29 rfl ?_
  refine g_get fl_X10_98 q_X10_waitsFor_30 (by repeat first | with_reducible assumption | with_reducible exact hput_s _ _ _ | refine (hput_n _ _ (by omega)).trans ?_ | exact hput_s _ _ _ | assumption) rfl ?_
  refine g_iload q_X10_waitsFor_33 rfl ?_
  refine g_iaload q_X10_waitsFor_35 (by repeat first | with_reducible assumption | with_reducible exact hput_s _ _ _ | refine (hput_n _ _ (by omega)).trans ?_ | exact hput_s _ _ _ | assumption) (by omega) (by omega) ?_
  refine g_topi (b := (vn o : Int)) (by exact e27o) ?_
  refine g_icmp_ge (tgt := 113) q_X10_waitsFor_36 (by decide) ⟨by omega, by omega⟩ ⟨by omega, by omega⟩ (fun d2 => ?_) (fun d2 => ?_)
  · exact out (fun j' hj' _ q => by omega) _
  refine g_iload q_X10_waitsFor_39 rfl ?_
  refine g_iload_n q_X10_waitsFor_41 rfl ?_
  refine g_icmp_eq (tgt := 113) q_X10_waitsFor_42 (by decide) ⟨by omega, by omega⟩ ⟨by omega, by omega⟩ (fun d3 => ?_) (fun d3 => ?_)
  · exact out (fun j' hj' q => absurd (show o = c by omega) q) _
  obtain ⟨a28, a29⟩ := eo j (by omega)
  have hTo := hT40 o hon j (by omega)
  have hTc := hT40 c hc i hi
  have r1 := hPr (41 * o + T o j) (by omega)
  have r2 := hPr (41 * c + T c i) (by omega)
  refine g_bipush q_X10_waitsFor_45 bp_41 ?_
  refine g_iload q_X10_waitsFor_47 rfl ?_
  refine g_imul q_X10_waitsFor_49 ?_
  refine g_iload q_X10_waitsFor_50 rfl ?_
  refine g_iadd q_X10_waitsFor_52 ?_
  refine g_topi (b := ((41 * o + j : Nat) : Int)) (by omega) ?_
  refine g_istore (L' := [_, _, _, _, _, _, _, _]) q_X10_waitsFor_53 (by decide) rfl ?_
  refine g_aload_n q_X10_waitsFor_55 rfl ?_
  refine g_get fl_X10_101 q_X10_waitsFor_56 (by repeat first | with_reducible assumption | with_reducible exact hput_s _ _ _ | refine (hput_n _ _ (by omega)).trans ?_ | exact hput_s _ _ _ | assumption) rfl ?_
  refine g_iload q_X10_waitsFor_59 rfl ?_
  refine g_iaload q_X10_waitsFor_61 (by repeat first | with_reducible assumption | with_reducible exact hput_s _ _ _ | refine (hput_n _ _ (by omega)).trans ?_ | exact hput_s _ _ _ | assumption) (by omega) (by omega) ?_
  refine g_topi (b := P (41 * o + T o j)) (by exact a28) ?_
  refine g_aload_n q_X10_waitsFor_62 rfl ?_
  refine g_get fl_X10_101 q_X10_waitsFor_63 (by repeat first | with_reducible assumption | with_reducible exact hput_s _ _ _ | refine (hput_n _ _ (by omega)).trans ?_ | exact hput_s _ _ _ | assumption) rfl ?_
  refine g_iload_n q_X10_waitsFor_66 rfl ?_
  refine g_iaload q_X10_waitsFor_67 (by repeat first | with_reducible assumption | with_reducible exact hput_s _ _ _ | refine (hput_n _ _ (by omega)).trans ?_ | exact hput_s _ _ _ | assumption) (by omega) (by omega) ?_
  refine g_topi (b := P (41 * c + T c i)) (by exact e28) ?_
  refine g_icmp_ne (tgt := 107) q_X10_waitsFor_68 (by decide) r1 r2 (fun d4 => ?_) (fun d4 => ?_)
  · exact next th1 b1 hTH1 hC1 (fun e => ⟨e, fun _ _ q => absurd q d4⟩) (by omega) _
  refine g_aload_n q_X10_waitsFor_71 rfl ?_
  refine g_get fl_X10_104 q_X10_waitsFor_72 (by repeat first | with_reducible assumption | with_reducible exact hput_s _ _ _ | refine (hput_n _ _ (by omega)).trans ?_ | exact hput_s _ _ _ | assumption) rfl ?_
  refine g_iload q_X10_waitsFor_75 rfl ?_
  refine g_iaload q_X10_waitsFor_77 (by repeat first | with_reducible assumption | with_reducible exact hput_s _ _ _ | refine (hput_n _ _ (by omega)).trans ?_ | exact hput_s _ _ _ | assumption) (by omega) (by omega) ?_
  refine g_topi (b := (T o j : Int)) (by exact a29) ?_
  refine g_aload_n q_X10_waitsFor_78 rfl ?_
  refine g_get fl_X10_104 q_X10_waitsFor_79 (by repeat first | with_reducible assumption | with_reducible exact hput_s _ _ _ | refine (hput_n _ _ (by omega)).trans ?_ | exact hput_s _ _ _ | assumption) rfl ?_
  refine g_iload_n q_X10_waitsFor_82 rfl ?_
  refine g_iaload q_X10_waitsFor_83 (by repeat first | with_reducible assumption | with_reducible exact hput_s _ _ _ | refine (hput_n _ _ (by omega)).trans ?_ | exact hput_s _ _ _ | assumption) (by omega) (by omega) ?_
  refine g_topi (b := (T c i : Int)) (by exact e29) ?_
  refine g_icmp_ge (tgt := 107) q_X10_waitsFor_84 (by decide) ⟨by omega, by omega⟩ ⟨by omega, by omega⟩ (fun d5 => ?_) (fun d5 => ?_)
  · exact next th1 b1 hTH1 hC1 (fun e => ⟨e, fun _ _ _ q => by omega⟩) (by omega) _
  have rt := hrg hTH1 o hon (j + 1) (by omega)
  have rk := hrg hTH1 c hc i hi
  have hle : th1 (41 * o + (j + 1)) ≤ S c i := Int.le_trans (hTH1 o hon (j + 1) (by omega)).2 (hup o hon (by omega) j (by omega) d4 (by omega))
  obtain ⟨n1, n2, n3⟩ := ns_ok hVT hTH1 hc hi hle
  refine g_aload_n q_X10_waitsFor_87 rfl ?_
  refine g_iload_n q_X10_waitsFor_88 rfl ?_
  refine g_aload_n q_X10_waitsFor_89 rfl ?_
  refine g_get fl_X10_107 q_X10_waitsFor_90 (by repeat first | with_reducible assumption | with_reducible exact hput_s _ _ _ | refine (hput_n _ _ (by omega)).trans ?_ | exact hput_s _ _ _ | assumption) rfl ?_
  refine g_iload q_X10_waitsFor_93 rfl ?_
  refine g_iconst q_X10_waitsFor_95 ?_
  refine g_iadd q_X10_waitsFor_96 ?_
  refine g_topi (b := ((41 * o + (j + 1) : Nat) : Int)) (by omega) ?_
  refine g_iaload q_X10_waitsFor_97 (by repeat first | with_reducible assumption | with_reducible exact hput_s _ _ _ | refine (hput_n _ _ (by omega)).trans ?_ | exact hput_s _ _ _ | assumption) (by omega) (by omega) ?_
  refine g_topi (b := th1 (41 * o + (j + 1))) (by rfl) ?_
  refine g_callV (rc' := 0) (rs' := 0) (As := [_, _]) cs_X10_344 q_X10_waitsFor_98 (sp_notSooner hΓ k0 k30 (41 * c + i) (by omega) (th1 (41 * o + (j + 1))) ⟨by omega, by omega⟩ ⟨by omega, by omega⟩) rfl (by repeat first | with_reducible assumption | with_reducible exact hput_s _ _ _ | refine (hput_n _ _ (by omega)).trans ?_ | exact hput_s _ _ _ | assumption) rfl rfl rfl rfl (Nat.le_of_ble_eq_true rfl) (by decide) (by decide) (by decide) (fun _ _ h => h.elim) (k_rb ?_)
  rw [hput_hput]
  refine g_if_eq (tgt := 107) q_X10_waitsFor_101 (by decide) (bi_rg _) (fun d6 => ?_) (fun d6 => ?_)
  · have hb := bi_f d6
    have hq := of_decide_eq_false hb
    rw [hb] at n2
    have hCC := hC1.trans n2
    rw [Bool.or_false] at hCC
    refine next _ b1 n1 hCC (fun e => ⟨e, fun _ _ _ _ => ?_⟩) (by omega) _
    have ee := hC1.2.1 e
    rw [ee] at hq
    omega
  · have hb := bi_t d6
    rw [hb] at n2
    have hCC := hC1.trans n2
    rw [Bool.or_true] at hCC
    refine g_iconst q_X10_waitsFor_104 ?_
    refine g_istore (L' := [_, _, _, _, _, _, _, _]) q_X10_waitsFor_105 (by decide) rfl ?_
    exact next _ true n1 hCC (fun e => by cases e) (by omega) _
end MSt

