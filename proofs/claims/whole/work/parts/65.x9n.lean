/-! CartPaths: by turns -/
theorem ord_ok : ∀ n : Fin 6, ∀ o : Fin 120, (o : Nat) < facN n → (∀ k : Fin 5, (k : Nat) < n → ordC n o k < n) ∧ (∀ i j : Fin 5, (i : Nat) < n → (j : Nat) < n → ordC n o i = ordC n o j → i = j) ∧ ∀ c : Fin 5, (c : Nat) < n → ∃ k : Fin 5, (k : Nat) < n ∧ ordC n o k = c := by decide +kernel
theorem ord_lt {n o k : Nat} (hn : n ≤ 5) (ho : o < facN n) (hk : k < n) : ordC n o k < n := (ord_ok ⟨n, by omega⟩ ⟨o, by have := (facN_pos n).2; omega⟩ ho).1 ⟨k, by omega⟩ hk
theorem ord_inj {n o i j : Nat} (hn : n ≤ 5) (ho : o < facN n) (hi : i < n) (hj : j < n) (h : ordC n o i = ordC n o j) : i = j := congrArg Fin.val ((ord_ok ⟨n, by omega⟩ ⟨o, by have := (facN_pos n).2; omega⟩ ho).2.1 ⟨i, by omega⟩ ⟨j, by omega⟩ hi hj h)
theorem ord_sur {n o c : Nat} (hn : n ≤ 5) (ho : o < facN n) (hc : c < n) : ∃ k, k < n ∧ ordC n o k = c := by
  obtain ⟨k, h1, h2⟩ := (ord_ok ⟨n, by omega⟩ ⟨o, by have := (facN_pos n).2; omega⟩ ho).2.2 ⟨c, by omega⟩ hc
  exact ⟨k, h1, h2⟩
/-- a sum over all, in another order -/
theorem sumN_inj : ∀ (n : Nat) (f : Nat → Nat) (C : Nat → Int), (∀ k, k < n → f k < n) → (∀ i j, i < n → j < n → f i = f j → i = j) → sumN (fun k => C (f k)) n = sumN C n
  | 0, _, _, _, _ => rfl
  | n + 1, f, C, h1, h2 => by
    by_cases hs : ∃ j, j < n + 1 ∧ f j = n
    · obtain ⟨j, hj, he⟩ := hs
      /- f with the values at j and n exchanged -/
      have ih := sumN_inj n (fun k => if k = j then f n else f k) C (fun k hk => by
        by_cases e : k = j
        · rw [if_pos e]
          have := h1 n (by omega)
          have hne : f n ≠ n := fun q => by have := h2 n j (by omega) hj (q.trans he.symm); omega
          omega
        · rw [if_neg e]
          have := h1 k (by omega)
          have hne : f k ≠ n := fun q => e (h2 k j (by omega) hj (q.trans he.symm))
          omega) (fun a b ha hb q => by
        by_cases e1 : a = j
        · by_cases e2 : b = j
          · omega
          · simp only [e1, e2, if_true, if_false] at q
            have := h2 n b (by omega) (by omega) q
            omega
        · by_cases e2 : b = j
          · simp only [e1, e2, if_true, if_false] at q
            have := h2 a n (by omega) (by omega) q
            omega
          · simp only [e1, e2, if_false] at q
            exact h2 a b (by omega) (by omega) q)
      rw [sumN, sumN, ← ih]
      by_cases ej : j = n
      · have e1 : sumN (fun k => C (f k)) n = sumN (fun k => C ((fun k => if k = j then f n else f k) k)) n := sumN_cong fun k hk => by
          show C (f k) = C (if k = j then f n else f k)
          rw [if_neg (by omega)]
        rw [e1]
        show _ + C (f n) = _ + C n
        rw [← ej, he, ej]
      · have e2 := sumN_up (C := fun k => C (f k)) (c := j) (x := C (f n)) (n := n)
        rw [if_pos (by omega)] at e2
        have e3 : sumN (va_up (fun k => C (f k)) j (C (f n))) n = sumN (fun k => C ((fun k => if k = j then f n else f k) k)) n := sumN_cong fun k hk => by
          show va_up (fun k => C (f k)) j (C (f n)) k = C (if k = j then f n else f k)
          unfold va_up
          by_cases e : k = j
          · rw [if_pos e, if_pos e]
          · rw [if_neg e, if_neg e]
        rw [← e3, e2]
        show _ + C (f n) = _
        simp only [he]
        omega
    · exfalso
      have ih := sumN_inj n f (fun _ => 1) (fun k hk => by
        have := h1 k (by omega)
        have hne : f k ≠ n := fun q => hs ⟨k, by omega, q⟩
        omega) (fun a b ha hb => h2 a b (by omega) (by omega))
      have hfn : f n < n := by
        have := h1 n (by omega)
        have hne : f n ≠ n := fun q => hs ⟨n, by omega, q⟩
        omega
      have ih2 := sumN_inj n f (fun c => if c = f n then 1 else 0) (fun k hk => by
        have := h1 k (by omega)
        have hne : f k ≠ n := fun q => hs ⟨k, by omega, q⟩
        omega) (fun a b ha hb => h2 a b (by omega) (by omega))
      have z1 : sumN (fun k => (fun c => if c = f n then (1 : Int) else 0) (f k)) n = 0 := sumN_zero fun k hk => by
        show (if f k = f n then (1 : Int) else 0) = 0
        rw [if_neg (fun q => by have := h2 k n (by omega) (by omega) q; omega)]
      have z2 : 0 < sumN (fun c => if c = f n then (1 : Int) else 0) n := sumN_pos (fun k _ => by
        show 0 ≤ (if k = f n then (1 : Int) else 0)
        split <;> decide) (f n) hfn (by rw [if_pos rfl]; decide)
      have z3 : (0 : Int) = sumN (fun c => if c = f n then (1 : Int) else 0) n := z1.symm.trans ih2
      omega
section X9N
variable {Γ : GT} {σ : AH} {x lo N : Nat} {R : Nat → Nat} {len : Nat} {tx : Nat → Int} {fa : Int} {z : PS} {l : List (Int × Int × Int)} {wl : Nat} {wr : Nat → Int}
def ordOK (z : PS) (o : Int) : Bool := decide (0 ≤ o ∧ o < facN (zCa z))
theorem sp_needOrder (hΓ : Gd Γ) (hX : CX σ x lo N R len tx fa z l wl wr) (o : Int) (ho : rg o) : Sp Γ miX9_needOrder 1 6 [.ref x, .int (ii o)] σ (qN (0 ≤ o ∧ o < facN (zCa z)) σ) (qX xNSE (0 ≤ o ∧ o < facN (zCa z)) σ) := by
  obtain ⟨ve, av, h1, h2, h3, h4, h5, q1, q2, q3, q4, -⟩ := hX
  have hn := h4.1.1
  have g0 := q4.1
  obtain ⟨tF, hzF, hrF⟩ := st_FACTORIALS hΓ
  have hf := facN_pos (zCa z)
  refine Sp_of (L := [_, _]) hΓ (by decide +kernel) rfl (Nat.le_of_ble_eq_true rfl) rfl ?_
  refine g_iload_n q_X9_needOrder_0 rfl ?_
  refine g_if_lt (tgt := 19) q_X9_needOrder_1 (by decide) ho (fun e1 => ?_) (fun e1 => ?_)
  · refine g_throw th_NSE q_X9_needOrder_19.1 q_X9_needOrder_22.1 q_X9_needOrder_23.1 q_X9_needOrder_26.1 rfl (by decide) (Nat.le_of_ble_eq_true rfl) (by decide) (by decide) (fun z hz => ?_)
    exact ⟨rfl, by omega, z, hz, rfl⟩
  refine g_iload_n q_X9_needOrder_4 rfl ?_
  refine g_getst ls_X9_359 hzF q_X9_needOrder_5 ?_
  refine g_aload_n q_X9_needOrder_8 rfl ?_
  refine g_get fl_X9_19 q_X9_needOrder_9 (by repeat first | with_reducible assumption | with_reducible exact hput_s _ _ _ | refine (hput_n _ _ (by omega)).trans ?_ | exact hput_s _ _ _ | assumption) rfl ?_
  refine g_get fl_X9_113 q_X9_needOrder_12 (by repeat first | with_reducible assumption | with_reducible exact hput_s _ _ _ | refine (hput_n _ _ (by omega)).trans ?_ | exact hput_s _ _ _ | assumption) rfl ?_
  refine g_iaload_ro q_X9_needOrder_15 (by assumption) (by omega) (by omega) (by decide) ?_
  rw [Int.toNat_natCast, facN_eq]
  refine g_icmp_lt (tgt := 27) q_X9_needOrder_16 (by decide) ho ⟨by omega, by omega⟩ (fun e2 => ?_) (fun e2 => ?_)
  · refine g_return q_X9_needOrder_27.1 rfl ?_
    exact ⟨rfl, by omega, rfl⟩
  · refine g_throw th_NSE q_X9_needOrder_19.1 q_X9_needOrder_22.1 q_X9_needOrder_23.1 q_X9_needOrder_26.1 rfl (by decide) (Nat.le_of_ble_eq_true rfl) (by decide) (by decide) (fun z hz => ?_)
    exact ⟨rfl, by omega, z, hz, rfl⟩
def tuF (x a : Nat) : Prop := inb (x + 28) 4 a ∨ inb (x + 45) 5 a
theorem tuF_fX {x lo : Nat} {σ σ' : AH} (h : eqOff σ σ' (tuF x)) : eqG σ σ' (fX x lo) := ⟨by rw [h.1]; exact Nat.le_refl _, fun a _ hn => h.2 a (fun q => hn (Or.inl (by rcases q with q | q <;> (unfold inb at *; omega))))⟩
theorem CXh.uch {σ σ' : AH} {ve : Nat} {av : Int} (h : CXh σ x lo N R len tx fa z l wl wr ve av) (hE : eqOff σ σ' (tuF x)) (hs : SRo σ' (x + 28)) (hk : K8 σ' x z ve) : CXh σ' x lo N R len tx fa z l wl wr ve av := by
  obtain ⟨h1, h2, h3, h4, h5, q1, q2, q3, q4, q5, q6, q7, q8, ⟨TA, q9⟩, q10, q11, q12⟩ := h
  have hlo := h1.1
  have hlo2 := h1.2.1
  have e : ∀ a, ¬ inb (x + 28) 4 a → ¬ inb (x + 45) 5 a → σ'.2 a = σ.2 a := fun a i1 i2 => hE.2 a (by rintro (h | h) <;> contradiction)
  exact ⟨⟨h1.1, by rw [hE.1]; exact h1.2.1, h1.2.2⟩, h2, h3, h4, h5, q1, (e _ (by unfold inb; omega) (by unfold inb; omega)).trans q2, q3.kp (fun a i => e a (by unfold inb at i ⊢; omega) (by unfold inb at i ⊢; omega)), q4.keep (fun a i => e a (by unfold inb at i ⊢; omega) (by unfold inb at i ⊢; omega)), q5.kp (fun a i => e a (by unfold inb at i ⊢; omega) (by unfold inb at i ⊢; omega)), q6.keep (fun a i => e a (by unfold inb at i ⊢; omega) (by unfold inb at i ⊢; omega)), hs, q8.kp (fun a i => e a (by unfold inb at i ⊢; omega) (by unfold inb at i ⊢; omega)), ⟨TA, q9.kp (by rw [hE.1]; exact Nat.le_refl _) (fun a ha i => e a (by unfold inb at i ⊢; omega) (by unfold inb at i ⊢; omega)) (by omega)⟩, hk, q11.kp (fun a i => e a (by unfold inb at i ⊢; omega) (by unfold inb at i ⊢; omega)), (e _ (by unfold inb; omega) (by unfold inb; omega)).trans q12⟩
/-- the ways by turns, as they lie -/
def TWo (σ : AH) (x : Nat) (z : PS) (o : Nat) : Prop := ∃ ct cs cl co P C, σ.2 (x + 45 + 1) = some (wyo (x + 45 + 1) (zCa z) ct cs cl co) ∧ σ.2 (x + 45 + 1 + 1) = some (ai 205 P) ∧ σ.2 (x + 45 + 1 + 2) = some (ai 5 C) ∧ okP P ∧ okC C ∧ tuV z o (zCa z) P C
/-- turns, with what was found best told -/
def K8e (σ : AH) (x : Nat) (z : PS) (ve : Nat) (bv bn bs : Int) : Prop := ∃ tv tn n P C OR, σ.2 (x + 45) = some (tuo (x + 45) tv tn bv bn bs) ∧ WYo σ (x + 45 + 1) n P C ∧ σ.2 (x + 45 + 4) = some (ai 5 OR) ∧ okP P ∧ okC C ∧ n ≤ 5 ∧ (-1 ≤ tv ∧ tv ≤ ve) ∧ (-1 ≤ bv ∧ bv ≤ ve) ∧ (rg tn ∧ rg bn ∧ rg bs) ∧ (tv = ve → 0 ≤ tn ∧ tuV z tn.toNat n P C) ∧ (bv = ve → (bn, bs) = boN z (facN (zCa z)))
theorem K8e.k {σ : AH} {x : Nat} {z : PS} {ve : Nat} {bv bn bs : Int} (h : K8e σ x z ve bv bn bs) : K8 σ x z ve := by
  obtain ⟨tv, tn, n, P, C, OR, h⟩ := h
  exact ⟨tv, tn, bv, bn, bs, n, P, C, OR, h⟩
theorem K8.e {σ : AH} {x : Nat} {z : PS} {ve : Nat} (h : K8 σ x z ve) : ∃ bv bn bs, K8e σ x z ve bv bn bs := by
  obtain ⟨tv, tn, bv, bn, bs, n, P, C, OR, h⟩ := h
  exact ⟨bv, bn, bs, tv, tn, n, P, C, OR, h⟩
theorem sp_waysByTurnsE (hΓ : Gd Γ) {ve : Nat} {av bv bn bs : Int} (hh : CXh σ x lo N R len tx fa z l wl wr ve av) (hk9 : K8e σ x z ve bv bn bs) (o : Nat) (ho : o < facN (zCa z)) : Sp Γ miX9_waysByTurns 0 0 [.ref x, .int (ii o)] σ (fun v σ' => v = some (.ref (x + 45 + 1)) ∧ CXh σ' x lo N R len tx fa z l wl wr ve av ∧ eqOff σ σ' (tuF x) ∧ TWo σ' x z o ∧ K8e σ' x z ve bv bn bs) noX := by
  have hh' := hh
  obtain ⟨h1, h2, h3, h4, h5, q1, q2, q3, q4, q5, q6, q7, q8, -⟩ := hh'
  have hn := h4.1.1
  have g0 := q4.1
  have hf := facN_pos (zCa z)
  have hk9' := hk9
  obtain ⟨tv, tn, n, P, C, OR, u0, u1, u2, p1, p2, p3, p4, p5, p6, p7, p8⟩ := hk9'
  have newW : G Γ miX9_waysByTurns cX9_waysByTurns (fun v σ' => v = some (.ref (x + 45 + 1)) ∧ CXh σ' x lo N R len tx fa z l wl wr ve av ∧ eqOff σ σ' (tuF x) ∧ TWo σ' x z o ∧ K8e σ' x z ve bv bn bs) noX 0 0 25 [some (.ref x), some (.int (ii o))] [] σ := by
    refine g_aload_n q_X9_waysByTurns_25 rfl ?_
    refine g_get fl_X9_65 q_X9_waysByTurns_26 (by repeat first | with_reducible assumption | with_reducible exact hput_s _ _ _ | refine (hput_n _ _ (by omega)).trans ?_ | exact hput_s _ _ _ | assumption) rfl ?_
    refine g_iload_n q_X9_waysByTurns_29 rfl ?_
    refine g_aload_n q_X9_waysByTurns_30 rfl ?_
    refine g_get fl_X9_19 q_X9_waysByTurns_31 (by repeat first | with_reducible assumption | with_reducible exact hput_s _ _ _ | refine (hput_n _ _ (by omega)).trans ?_ | exact hput_s _ _ _ | assumption) rfl ?_
    refine g_get fl_X9_113 q_X9_waysByTurns_34 (by repeat first | with_reducible assumption | with_reducible exact hput_s _ _ _ | refine (hput_n _ _ (by omega)).trans ?_ | exact hput_s _ _ _ | assumption) rfl ?_
    refine g_callVN (rc' := 0) (rs' := 0) (As := [_, _]) cs_X9_364 q_X9_waysByTurns_37 (sp_takeOrder hΓ u0 u2 o (zCa z) (by omega) hn.2.2) rfl (by repeat first | with_reducible assumption | with_reducible exact hput_s _ _ _ | refine (hput_n _ _ (by omega)).trans ?_ | exact hput_s _ _ _ | assumption) rfl rfl rfl rfl (Nat.le_of_ble_eq_true rfl) (by decide) (by decide) (by decide) (fun _ _ h => h.elim) (fun v σ1 hq => ?_)
    obtain ⟨rfl, OR', hσ1, hO⟩ := hq
    have v0 : σ1.2 (x + 45) = some (tuo (x + 45) tv tn bv bn bs) := by rw [hσ1]; exact (by repeat first | with_reducible assumption | with_reducible exact hput_s _ _ _ | refine (hput_n _ _ (by omega)).trans ?_ | exact hput_s _ _ _ | assumption)
    have v2 : σ1.2 (x + 45 + 4) = some (ai 5 OR') := by rw [hσ1]; exact (by repeat first | with_reducible assumption | with_reducible exact hput_s _ _ _ | refine (hput_n _ _ (by omega)).trans ?_ | exact hput_s _ _ _ | assumption)
    have hE1 : eqOff σ σ1 (tuF x) := by rw [hσ1]; exact eqOff.rfl'.put (Or.inr ⟨by omega, by omega⟩) _
    have e1 : ∀ a, a ≠ x + 45 + 4 → σ1.2 a = σ.2 a := fun a ha => by rw [hσ1]; exact hput_n _ _ ha
    clear hσ1
    have kx := (e1 x (by omega)).trans q2
    have v1 := u1.keep (σ' := σ1) (fun a i => e1 a (by unfold inb at i; omega))
    have vs := q7.keep (σ' := σ1) (fun a i => e1 a (by unfold inb at i; omega))
    have vg := q4.keep (σ' := σ1) (fun a i => e1 a (by unfold inb at i; omega))
    have vg0 := vg.1
    refine g_aload_n q_X9_waysByTurns_40 rfl ?_
    refine g_get fl_X9_65 q_X9_waysByTurns_41 (by repeat first | with_reducible assumption | with_reducible exact hput_s _ _ _ | refine (hput_n _ _ (by omega)).trans ?_ | exact hput_s _ _ _ | assumption) rfl ?_
    refine g_aload_n q_X9_waysByTurns_44 rfl ?_
    refine g_get fl_X9_19 q_X9_waysByTurns_45 (by repeat first | with_reducible assumption | with_reducible exact hput_s _ _ _ | refine (hput_n _ _ (by omega)).trans ?_ | exact hput_s _ _ _ | assumption) rfl ?_
    refine g_aload_n q_X9_waysByTurns_48 rfl ?_
    refine g_get fl_X9_36 q_X9_waysByTurns_49 (by repeat first | with_reducible assumption | with_reducible exact hput_s _ _ _ | refine (hput_n _ _ (by omega)).trans ?_ | exact hput_s _ _ _ | assumption) rfl ?_
    refine g_callVN (rc' := 0) (rs' := 0) (As := [_, _]) cs_X9_367 q_X9_waysByTurns_52 (sp_goInOrder (OR := ordC (zCa z) o) hΓ (okL_z h4.1) v0 v2 (fun k hk => ⟨hO k hk, ord_lt hn.2.2 ho hk⟩) (fun i j hi hj h => ord_inj hn.2.2 ho hi hj h) vs vg.g v1 (Or.inr (by omega)) (Or.inr (by omega)) (Or.inr (by omega)) hn.2.2 h4.1.2.2.1 h4.1.2.2.2.1 p1 p2) rfl (by repeat first | with_reducible assumption | with_reducible exact hput_s _ _ _ | refine (hput_n _ _ (by omega)).trans ?_ | exact hput_s _ _ _ | assumption) rfl rfl rfl rfl (Nat.le_of_ble_eq_true rfl) (by decide) (by decide) (by decide) (fun _ _ h => h.elim) (fun v σ2 hq => ?_)
    obtain ⟨rfl, m1, m2, P', C', m3, m4, m5, m6, m7⟩ := hq
    have kx2 := (m2.2 x (by unfold inb; omega)).trans kx
    have y0 := (m2.2 (x + 45) (by unfold inb; omega)).trans v0
    have y2 := (m2.2 (x + 45 + 4) (by unfold inb; omega)).trans v2
    have hE2 : eqOff σ σ2 (tuF x) := hE1.trans m2 (fun a i => i.elim (fun i => Or.inr (by unfold inb at *; omega)) Or.inl)
    refine g_aload_n q_X9_waysByTurns_55 rfl ?_
    refine g_get fl_X9_65 q_X9_waysByTurns_56 (by repeat first | with_reducible assumption | with_reducible exact hput_s _ _ _ | refine (hput_n _ _ (by omega)).trans ?_ | exact hput_s _ _ _ | assumption) rfl ?_
    refine g_aload_n q_X9_waysByTurns_59 rfl ?_
    refine g_get fl_X9_83 q_X9_waysByTurns_60 (by repeat first | with_reducible assumption | with_reducible exact hput_s _ _ _ | refine (hput_n _ _ (by omega)).trans ?_ | exact hput_s _ _ _ | assumption) rfl ?_
    refine g_put fp_X9_362 q_X9_waysByTurns_63 (by repeat first | with_reducible assumption | with_reducible exact hput_s _ _ _ | refine (hput_n _ _ (by omega)).trans ?_ | exact hput_s _ _ _ | assumption) rfl rfl ?_
    refine g_aload_n q_X9_waysByTurns_66 rfl ?_
    refine g_get fl_X9_65 q_X9_waysByTurns_67 (by repeat first | with_reducible assumption | with_reducible exact hput_s _ _ _ | refine (hput_n _ _ (by omega)).trans ?_ | exact hput_s _ _ _ | assumption) rfl ?_
    refine g_iload_n q_X9_waysByTurns_70 rfl ?_
    refine g_put fp_X9_363 q_X9_waysByTurns_71 (by repeat first | with_reducible assumption | with_reducible exact hput_s _ _ _ | refine (hput_n _ _ (by omega)).trans ?_ | exact hput_s _ _ _ | assumption) rfl rfl ?_
    refine g_aload_n q_X9_waysByTurns_74 rfl ?_
    refine g_get fl_X9_65 q_X9_waysByTurns_75 (by repeat first | with_reducible assumption | with_reducible exact hput_s _ _ _ | refine (hput_n _ _ (by omega)).trans ?_ | exact hput_s _ _ _ | assumption) rfl ?_
    refine g_get fl_X9_370 q_X9_waysByTurns_78 (by repeat first | with_reducible assumption | with_reducible exact hput_s _ _ _ | refine (hput_n _ _ (by omega)).trans ?_ | exact hput_s _ _ _ | assumption) rfl ?_
    refine g_areturn q_X9_waysByTurns_81.1 rfl (Or.inl ⟨_, rfl⟩) (Or.inr ⟨_, rfl⟩) ?_
    obtain ⟨σ3, hσ3⟩ : ∃ τ, τ = hput (hput σ2 (x + 45) (tuo (x + 45) ve tn bv bn bs)) (x + 45) (tuo (x + 45) ve o bv bn bs) := ⟨_, rfl⟩
    show _ ∧ CXh (hput (hput σ2 (x + 45) (tuo (x + 45) ve tn bv bn bs)) (x + 45) (tuo (x + 45) ve o bv bn bs)) x lo N R len tx fa z l wl wr ve av ∧ eqOff σ (hput (hput σ2 (x + 45) (tuo (x + 45) ve tn bv bn bs)) (x + 45) (tuo (x + 45) ve o bv bn bs)) (tuF x) ∧ TWo (hput (hput σ2 (x + 45) (tuo (x + 45) ve tn bv bn bs)) (x + 45) (tuo (x + 45) ve o bv bn bs)) x z o ∧ K8e (hput (hput σ2 (x + 45) (tuo (x + 45) ve tn bv bn bs)) (x + 45) (tuo (x + 45) ve o bv bn bs)) x z ve bv bn bs
    rw [← hσ3]
    have z0 : σ3.2 (x + 45) = some (tuo (x + 45) ve o bv bn bs) := by rw [hσ3]; exact hput_s _ _ _
    have e3 : ∀ a, a ≠ x + 45 → σ3.2 a = σ2.2 a := fun a ha => by rw [hσ3]; exact (hput_n _ _ ha).trans (hput_n _ _ ha)
    have hE3 : eqOff σ σ3 (tuF x) := by rw [hσ3]; exact (hE2.put (Or.inr ⟨by omega, by omega⟩) _).put (Or.inr ⟨by omega, by omega⟩) _
    clear hσ3
    have z1 := m3.keep (σ' := σ3) (fun a i => e3 a (by unfold inb at i; omega))
    have hV : tuV z o (zCa z) P' C' := ⟨rfl, m6, m7⟩
    have hK : K8e σ3 x z ve bv bn bs := ⟨ve, o, zCa z, P', C', OR', z0, z1, (e3 _ (by omega)).trans y2, m4, m5, hn.2.2, ⟨by omega, by omega⟩, p5, ⟨⟨by omega, by omega⟩, p6.2⟩, fun _ => ⟨by omega, by rw [Int.toNat_natCast]; exact hV⟩, p8⟩
    refine ⟨rfl, hh.uch hE3 (m1.keep (fun a i => e3 a (by unfold inb at i; omega))) hK.k, hE3, ?_, hK⟩
    obtain ⟨⟨ct, cs, cl, co, w0⟩, w1, w2⟩ := z1
    exact ⟨ct, cs, cl, co, P', C', w0, w1, w2, m4, m5, hV⟩
  refine Sp_of (L := [_, _]) hΓ (by decide +kernel) rfl (Nat.le_of_ble_eq_true rfl) rfl ?_
  refine g_aload_n q_X9_waysByTurns_0 rfl ?_
  refine g_get fl_X9_65 q_X9_waysByTurns_1 (by repeat first | with_reducible assumption | with_reducible exact hput_s _ _ _ | refine (hput_n _ _ (by omega)).trans ?_ | exact hput_s _ _ _ | assumption) rfl ?_
  refine g_get fl_X9_362 q_X9_waysByTurns_4 (by repeat first | with_reducible assumption | with_reducible exact hput_s _ _ _ | refine (hput_n _ _ (by omega)).trans ?_ | exact hput_s _ _ _ | assumption) rfl ?_
  refine g_aload_n q_X9_waysByTurns_7 rfl ?_
  refine g_get fl_X9_83 q_X9_waysByTurns_8 (by repeat first | with_reducible assumption | with_reducible exact hput_s _ _ _ | refine (hput_n _ _ (by omega)).trans ?_ | exact hput_s _ _ _ | assumption) rfl ?_
  refine g_icmp_ne (tgt := 25) q_X9_waysByTurns_11 (by decide) ⟨by omega, by omega⟩ ⟨by omega, by omega⟩ (fun b1 => ?_) (fun b1 => ?_)
  · exact newW
  refine g_aload_n q_X9_waysByTurns_14 rfl ?_
  refine g_get fl_X9_65 q_X9_waysByTurns_15 (by repeat first | with_reducible assumption | with_reducible exact hput_s _ _ _ | refine (hput_n _ _ (by omega)).trans ?_ | exact hput_s _ _ _ | assumption) rfl ?_
  refine g_get fl_X9_363 q_X9_waysByTurns_18 (by repeat first | with_reducible assumption | with_reducible exact hput_s _ _ _ | refine (hput_n _ _ (by omega)).trans ?_ | exact hput_s _ _ _ | assumption) rfl ?_
  refine g_iload_n q_X9_waysByTurns_21 rfl ?_
  refine g_icmp_eq (tgt := 74) q_X9_waysByTurns_22 (by decide) p6.1 ⟨by omega, by omega⟩ (fun b2 => ?_) (fun b2 => ?_)
  · refine g_aload_n q_X9_waysByTurns_74 rfl ?_
    refine g_get fl_X9_65 q_X9_waysByTurns_75 (by repeat first | with_reducible assumption | with_reducible exact hput_s _ _ _ | refine (hput_n _ _ (by omega)).trans ?_ | exact hput_s _ _ _ | assumption) rfl ?_
    refine g_get fl_X9_370 q_X9_waysByTurns_78 (by repeat first | with_reducible assumption | with_reducible exact hput_s _ _ _ | refine (hput_n _ _ (by omega)).trans ?_ | exact hput_s _ _ _ | assumption) rfl ?_
    refine g_areturn q_X9_waysByTurns_81.1 rfl (Or.inl ⟨_, rfl⟩) (Or.inr ⟨_, rfl⟩) ?_
    obtain ⟨w1, w2⟩ := p7 (by omega)
    have eo : tn.toNat = o := by omega
    rw [eo] at w2
    have w2' := w2
    obtain ⟨rfl, -⟩ := w2'
    obtain ⟨⟨ct, cs, cl, co, k0⟩, k1, k2⟩ := u1
    exact ⟨rfl, hh, eqOff.rfl', ⟨ct, cs, cl, co, P, C, k0, k1, k2, p1, p2, w2⟩, hk9⟩
  · exact newW
theorem sp_waysByTurns (hΓ : Gd Γ) (hX : CX σ x lo N R len tx fa z l wl wr) (o : Nat) (ho : o < facN (zCa z)) : Sp Γ miX9_waysByTurns 0 0 [.ref x, .int (ii o)] σ (fun v σ' => v = some (.ref (x + 45 + 1)) ∧ CX σ' x lo N R len tx fa z l wl wr ∧ eqOff σ σ' (tuF x) ∧ TWo σ' x z o ∧ True) noX := by
  obtain ⟨ve, av, hh⟩ := hX
  obtain ⟨bv, bn, bs, hk⟩ := hh.2.2.2.2.2.2.2.2.2.2.2.2.2.2.1.e
  exact Sp_cons (sp_waysByTurnsE hΓ hh hk o ho) (fun r σ' h => ⟨h.1, ⟨ve, av, h.2.1⟩, h.2.2.1, h.2.2.2.1, trivial⟩) (fun _ _ h => h)
theorem tuV_all {o : Nat} {P C : Nat → Int} (hn : zCa z ≤ 5) (ho : o < facN (zCa z)) (h : tuV z o (zCa z) P C) : decide (∀ k, k < zCa z → C k ≠ -1) = tuB z o := by
  obtain ⟨-, h1, h2⟩ := h
  cases hb : tuB z o with
  | true =>
    refine decide_eq_true (fun c hc => ?_)
    obtain ⟨k, hk, e⟩ := ord_sur hn ho hc
    have := h1 hb k hk
    rw [← e]
    rw [show C (ordC (zCa z) o k) = tuK z o k from this.1]
    exact this.2.1
  | false =>
    obtain ⟨c, hc, e⟩ := h2 hb
    exact decide_eq_false (fun q => q c hc e)
theorem tuV_sum {o : Nat} {P C : Nat → Int} (hn : zCa z ≤ 5) (ho : o < facN (zCa z)) (h : tuV z o (zCa z) P C) (hb : tuB z o = true) : sumN C (zCa z) = tuZ z o := by
  unfold tuZ
  rw [if_pos hb, ← sumN_inj (zCa z) (ordC (zCa z) o) C (fun k hk => ord_lt hn ho hk) (fun i j hi hj => ord_inj hn ho hi hj)]
  exact sumN_cong fun k hk => (h.2.1 hb k hk).1
theorem sumC_rg {C : Nat → Int} {n : Nat} (hC : okC C) (hn : n ≤ 5) : -5 ≤ sumN C n ∧ sumN C n ≤ 200 := by
  have := sumN_rg (C := C) (a := -1) (b := 40) (n := n) (fun k _ => hC k)
  omega
def eOrd (z : PS) (o : Int) : Nat := if ordOK z o = true then 0 else 1
theorem sp_byTurns (hΓ : Gd Γ) (hN : N < 1000) (hX : CX σ x lo N R len tx fa z l wl wr) (o : Int) (ho : rg o) : Sp Γ miX9_byTurns 8 48 [.ref x, .int (ii o)] σ (oQ (eOrd z o) (tuZ z o.toNat) (SX σ x lo (N + 1) R len tx fa z l wl wr)) (oX [xNSE] (eOrd z o) (SX σ x lo (N + 1) R len tx fa z l wl wr)) := by
  have hX' := hX
  obtain ⟨ve, av, h1, h2, h3, h4, h5, q1, q2, -⟩ := hX'
  have hn := h4.1.1
  refine Sp_of (L := [_, _, _]) hΓ (by decide +kernel) rfl (Nat.le_of_ble_eq_true rfl) rfl ?_
  refine g_aload_n q_X9_byTurns_0 rfl ?_
  refine g_iload_n q_X9_byTurns_1 rfl ?_
  refine g_callV (rc' := 7) (rs' := 42) (As := [_]) cs_X9_371 q_X9_byTurns_2 (sp_needOrder hΓ hX o ho) rfl (by repeat first | with_reducible assumption | with_reducible exact hput_s _ _ _ | refine (hput_n _ _ (by omega)).trans ?_ | exact hput_s _ _ _ | assumption) rfl rfl rfl rfl (Nat.le_of_ble_eq_true rfl) (by decide) (by decide) (by decide) (fun E σ' h => by have he : eOrd z o = 1 := if_neg (fun q => h.2.1 (of_decide_eq_true q)); rw [he]; exact ⟨by decide, by rw [h.1]; rfl, SX.gr hX hN h.2.2⟩) (fun v σ' hq => ?_)
  obtain ⟨rfl, e1, hσ⟩ := hq
  rw [hσ]
  clear hσ
  have he : eOrd z o = 0 := if_pos (decide_eq_true e1)
  rw [he]
  obtain ⟨k, rfl⟩ : ∃ k : Nat, o = k := ⟨o.toNat, by omega⟩
  rw [Int.toNat_natCast]
  have hk : k < facN (zCa z) := by omega
  refine g_aload_n q_X9_byTurns_5 rfl ?_
  refine g_iload_n q_X9_byTurns_6 rfl ?_
  refine g_callV (rc' := 7) (rs' := 42) (As := [_]) cs_X9_374 q_X9_byTurns_7 (sp_waysByTurns hΓ hX k hk) rfl (by repeat first | with_reducible assumption | with_reducible exact hput_s _ _ _ | refine (hput_n _ _ (by omega)).trans ?_ | exact hput_s _ _ _ | assumption) rfl rfl rfl rfl (Nat.le_of_ble_eq_true rfl) (by decide) (by decide) (by decide) (fun _ _ h => h.elim) (fun v σ1 hq => ?_)
  obtain ⟨rfl, m1, m2, ⟨ct, cs, cl, co, P, C, k0, k1, k2, o1, o2, o3⟩, -⟩ := hq
  refine g_astore_n (L' := [_, _, _]) q_X9_byTurns_10 (by decide) rfl ?_
  refine g_aload_n q_X9_byTurns_11 rfl ?_
  refine g_callVN (rc' := 7) (rs' := 42) (As := []) cs_X9_196 q_X9_byTurns_12 (sp_allGo hΓ hn.2.2 k0 k2 o2) rfl (by repeat first | with_reducible assumption | with_reducible exact hput_s _ _ _ | refine (hput_n _ _ (by omega)).trans ?_ | exact hput_s _ _ _ | assumption) rfl rfl rfl rfl (Nat.le_of_ble_eq_true rfl) (by decide) (by decide) (by decide) (fun _ _ h => h.elim) (k_rb ?_)
  rw [tuV_all hn.2.2 hk o3]
  refine g_if_eq (tgt := 25) q_X9_byTurns_15 (by decide) (bi_rg _) (fun b1 => ?_) (fun b1 => ?_)
  · refine g_iconst q_X9_byTurns_25 ?_
    refine g_ireturn q_X9_byTurns_26.1 rfl ?_
    refine ⟨rfl, ?_, SX.tr (tuF_fX m2) (SX.of m1 hN)⟩
    unfold tuZ
    rw [if_neg (by rw [bi_f b1]; decide)]
  · refine g_aload_n q_X9_byTurns_18 rfl ?_
    refine g_callVN (rc' := 7) (rs' := 42) (As := []) cs_X9_249 q_X9_byTurns_19 (sp_sumCosts hΓ hn.2.2 k0 k2) rfl (by repeat first | with_reducible assumption | with_reducible exact hput_s _ _ _ | refine (hput_n _ _ (by omega)).trans ?_ | exact hput_s _ _ _ | assumption) rfl rfl rfl rfl (Nat.le_of_ble_eq_true rfl) (by decide) (by decide) (by decide) (fun _ _ h => h.elim) (k_ri ?_)
    refine g_goto (tgt := 26) q_X9_byTurns_22 (by decide) ?_
    refine g_ireturn q_X9_byTurns_26.1 rfl ?_
    exact ⟨rfl, by rw [tuV_sum hn.2.2 hk o3 (bi_t b1)], SX.tr (tuF_fX m2) (SX.of m1 hN)⟩
/-- the cell of a cart at a time in an order -/
def tuC (z : PS) (o c t : Nat) : Int := tuW z o (fstN (fun k => decide (tuO z o k = c)) (zCa z)).toNat t
def eTurned (z : PS) (o c t : Int) : Nat := if cOK z c = false then 1 else if ordOK z o = false then 2 else if tOK t = false then 3 else if tuB z o.toNat = false then 4 else 0
theorem sp_turned (hΓ : Gd Γ) (hN : N < 1000) (hX : CX σ x lo N R len tx fa z l wl wr) (o c t : Int) (ho : rg o) (hc : rg c) (ht : rg t) : Sp Γ miX9_turned 8 48 [.ref x, .int (ii o), .int (ii c), .int (ii t)] σ (oQ (eTurned z o c t) (tuC z o.toNat c.toNat t.toNat) (SX σ x lo (N + 1) R len tx fa z l wl wr)) (oX [xIOB, xNSE, xIAE, xISE] (eTurned z o c t) (SX σ x lo (N + 1) R len tx fa z l wl wr)) := by
  have hX' := hX
  obtain ⟨ve, av, h1, h2, h3, h4, h5, q1, q2, -⟩ := hX'
  have hn := h4.1.1
  refine Sp_of (L := [_, _, _, _, _]) hΓ (by decide +kernel) rfl (Nat.le_of_ble_eq_true rfl) rfl ?_
  refine g_aload_n q_X9_turned_0 rfl ?_
  refine g_iload_n q_X9_turned_1 rfl ?_
  refine g_callV (rc' := 7) (rs' := 42) (As := [_]) cs_X9_133 q_X9_turned_2 (sp_needCart hΓ hX c hc) rfl (by repeat first | with_reducible assumption | with_reducible exact hput_s _ _ _ | refine (hput_n _ _ (by omega)).trans ?_ | exact hput_s _ _ _ | assumption) rfl rfl rfl rfl (Nat.le_of_ble_eq_true rfl) (by decide) (by decide) (by decide) (fun E σ' h => by have he : eTurned z o c t = 1 := if_pos (decide_eq_false h.2.1); rw [he]; exact ⟨by decide, by rw [h.1]; rfl, SX.gr hX hN h.2.2⟩) (fun v σ' hq => ?_)
  obtain ⟨rfl, e0, hσ⟩ := hq
  rw [hσ]
  clear hσ
  have c0 : ¬ cOK z c = false := by rw [show cOK z c = true from decide_eq_true e0]; decide
  refine g_aload_n q_X9_turned_5 rfl ?_
  refine g_iload_n q_X9_turned_6 rfl ?_
  refine g_callV (rc' := 6) (rs' := 36) (As := [_]) cs_X9_371 q_X9_turned_7 (sp_needOrder hΓ hX o ho) rfl (by repeat first | with_reducible assumption | with_reducible exact hput_s _ _ _ | refine (hput_n _ _ (by omega)).trans ?_ | exact hput_s _ _ _ | assumption) rfl rfl rfl rfl (Nat.le_of_ble_eq_true rfl) (by decide) (by decide) (by decide) (fun E σ' h => by have he : eTurned z o c t = 2 := (if_neg c0).trans (if_pos (decide_eq_false h.2.1)); rw [he]; exact ⟨by decide, by rw [h.1]; rfl, SX.gr hX hN h.2.2⟩) (fun v σ' hq => ?_)
  obtain ⟨rfl, e1, hσ⟩ := hq
  rw [hσ]
  clear hσ
  have c1 : ¬ ordOK z o = false := by rw [show ordOK z o = true from decide_eq_true e1]; decide
  refine g_iload_n q_X9_turned_10 rfl ?_
  refine g_callS (rc' := 5) (rs' := 30) (As := [_]) cs_X9_190 q_X9_turned_11 (sp_needTime hΓ t ht) rfl rfl rfl (Nat.le_of_ble_eq_true rfl) (by decide) (by decide) (by decide) (fun E σ' h => by have he : eTurned z o c t = 3 := (if_neg c0).trans ((if_neg c1).trans (if_pos (decide_eq_false h.2.1))); rw [he]; exact ⟨by decide, by rw [h.1]; rfl, SX.gr hX hN h.2.2⟩) (fun v σ' hq => ?_)
  obtain ⟨rfl, e2, hσ⟩ := hq
  rw [hσ]
  clear hσ
  have c2 : ¬ tOK t = false := by rw [show tOK t = true from decide_eq_true e2]; decide
  have he : eTurned z o c t = if tuB z o.toNat = false then 4 else 0 := (if_neg c0).trans ((if_neg c1).trans (if_neg c2))
  rw [he]
  obtain ⟨k, rfl⟩ : ∃ k : Nat, o = k := ⟨o.toNat, by omega⟩
  obtain ⟨i, rfl⟩ : ∃ k : Nat, c = k := ⟨c.toNat, by omega⟩
  obtain ⟨u, rfl⟩ : ∃ k : Nat, t = k := ⟨t.toNat, by omega⟩
  rw [Int.toNat_natCast, Int.toNat_natCast, Int.toNat_natCast]
  have hk : k < facN (zCa z) := by omega
  refine g_aload_n q_X9_turned_14 rfl ?_
  refine g_iload_n q_X9_turned_15 rfl ?_
  refine g_callV (rc' := 5) (rs' := 30) (As := [_]) cs_X9_374 q_X9_turned_16 (sp_waysByTurns hΓ hX k hk) rfl (by repeat first | with_reducible assumption | with_reducible exact hput_s _ _ _ | refine (hput_n _ _ (by omega)).trans ?_ | exact hput_s _ _ _ | assumption) rfl rfl rfl rfl (Nat.le_of_ble_eq_true rfl) (by decide) (by decide) (by decide) (fun _ _ h => h.elim) (fun v σ1 hq => ?_)
  obtain ⟨rfl, m1, m2, ⟨ct, cs, cl, co, P, C, k0, k1, k2, o1, o2, o3⟩, -⟩ := hq
  refine g_astore (L' := [_, _, _, _, _]) q_X9_turned_19 (by decide) rfl ?_
  refine g_aload q_X9_turned_21 rfl ?_
  refine g_callVN (rc' := 5) (rs' := 30) (As := []) cs_X9_196 q_X9_turned_23 (sp_allGo hΓ hn.2.2 k0 k2 o2) rfl (by repeat first | with_reducible assumption | with_reducible exact hput_s _ _ _ | refine (hput_n _ _ (by omega)).trans ?_ | exact hput_s _ _ _ | assumption) rfl rfl rfl rfl (Nat.le_of_ble_eq_true rfl) (by decide) (by decide) (by decide) (fun _ _ h => h.elim) (k_rb ?_)
  rw [tuV_all hn.2.2 hk o3]
  refine g_if_ne (tgt := 37) q_X9_turned_26 (by decide) (bi_rg _) (fun b1 => ?_) (fun b1 => ?_)
  · have hb := bi_t b1
    rw [if_neg (by rw [hb]; decide)]
    refine g_aload q_X9_turned_37 rfl ?_
    refine g_iload_n q_X9_turned_39 rfl ?_
    refine g_iload_n q_X9_turned_40 rfl ?_
    refine g_callVN (rc' := 5) (rs' := 30) (As := [_, _]) cs_X9_193 q_X9_turned_41 (sp_cellOf hΓ k0 k1 i u (by omega) (by omega)) rfl (by repeat first | with_reducible assumption | with_reducible exact hput_s _ _ _ | refine (hput_n _ _ (by omega)).trans ?_ | exact hput_s _ _ _ | assumption) rfl rfl rfl rfl (Nat.le_of_ble_eq_true rfl) (by decide) (by decide) (by decide) (fun _ _ h => h.elim) (k_ri ?_)
    refine g_ireturn q_X9_turned_44.1 rfl ?_
    refine ⟨rfl, ?_, SX.tr (tuF_fX m2) (SX.of m1 hN)⟩
    obtain ⟨j, hj, e⟩ := ord_sur hn.2.2 hk (show i < zCa z by omega)
    have ef : fstN (fun q => decide (tuO z k q = i)) (zCa z) = j := fstN_some hj (decide_eq_true e) (fun q hq => decide_eq_false (fun w => by
      have := ord_inj hn.2.2 hk (show q < zCa z by omega) hj (w.trans e.symm)
      omega))
    unfold tuC
    rw [ef, Int.toNat_natCast]
    have h9 := (o3.2.1 hb j hj).2.2 u (by omega)
    rw [show tuO z k j = i from e] at h9
    rw [h9]
  · have hb := bi_f (show bi (tuB z k) = 0 by omega)
    rw [if_pos hb]
    refine g_throw th_ISE q_X9_turned_29.1 q_X9_turned_32.1 q_X9_turned_33.1 q_X9_turned_36.1 rfl (by decide) (Nat.le_of_ble_eq_true rfl) (by decide) (by decide) (fun z hz => ?_)
    exact ⟨by decide, rfl, SX.tr (tuF_fX m2) (SX.gr m1 hN ⟨_, hz, rfl⟩)⟩
def eOrdd (z : PS) (o k : Int) : Nat := if ordOK z o = true ∧ cOK z k = true then 0 else 1
theorem sp_ordered (hΓ : Gd Γ) (hN : N < 1000) (hX : CX σ x lo N R len tx fa z l wl wr) (o k : Int) (ho : rg o) (hk : rg k) : Sp Γ miX9_ordered 8 48 [.ref x, .int (ii o), .int (ii k)] σ (oQ (eOrdd z o k) (tuO z o.toNat k.toNat : Int) (SX σ x lo (N + 1) R len tx fa z l wl wr)) (oX [xNSE] (eOrdd z o k) (SX σ x lo (N + 1) R len tx fa z l wl wr)) := by
  have hX' := hX
  obtain ⟨ve, av, hh⟩ := hX'
  have hh' := hh
  obtain ⟨h1, h2, h3, h4, h5, q1, q2, q3, q4, q5, q6, q7, q8, -, q10, -⟩ := hh'
  have hn := h4.1.1
  have g0 := q4.1
  have hf := facN_pos (zCa z)
  refine Sp_of (L := [_, _, _]) hΓ (by decide +kernel) rfl (Nat.le_of_ble_eq_true rfl) rfl ?_
  refine g_aload_n q_X9_ordered_0 rfl ?_
  refine g_iload_n q_X9_ordered_1 rfl ?_
  refine g_callV (rc' := 7) (rs' := 42) (As := [_]) cs_X9_371 q_X9_ordered_2 (sp_needOrder hΓ hX o ho) rfl (by repeat first | with_reducible assumption | with_reducible exact hput_s _ _ _ | refine (hput_n _ _ (by omega)).trans ?_ | exact hput_s _ _ _ | assumption) rfl rfl rfl rfl (Nat.le_of_ble_eq_true rfl) (by decide) (by decide) (by decide) (fun E σ' h => by have he : eOrdd z o k = 1 := if_neg (fun q => h.2.1 (of_decide_eq_true q.1)); rw [he]; exact ⟨by decide, by rw [h.1]; rfl, SX.gr hX hN h.2.2⟩) (fun v σ' hq => ?_)
  obtain ⟨rfl, e1, hσ⟩ := hq
  rw [hσ]
  clear hσ
  have bad : ¬ (0 ≤ k ∧ k < zCa z) → eOrdd z o k = 1 := fun h => if_neg (fun q => h (of_decide_eq_true q.2))
  refine g_iload_n q_X9_ordered_5 rfl ?_
  refine g_if_lt (tgt := 20) q_X9_ordered_6 (by decide) hk (fun b1 => ?_) (fun b1 => ?_)
  · have hb := bad (by omega)
    refine g_throw th_NSE q_X9_ordered_20.1 q_X9_ordered_23.1 q_X9_ordered_24.1 q_X9_ordered_27.1 rfl (by decide) (Nat.le_of_ble_eq_true rfl) (by decide) (by decide) (fun z hz => ?_)
    rw [hb]
    exact ⟨by decide, rfl, SX.gr hX hN ⟨_, hz, rfl⟩⟩
  refine g_iload_n q_X9_ordered_9 rfl ?_
  refine g_aload_n q_X9_ordered_10 rfl ?_
  refine g_get fl_X9_19 q_X9_ordered_11 (by repeat first | with_reducible assumption | with_reducible exact hput_s _ _ _ | refine (hput_n _ _ (by omega)).trans ?_ | exact hput_s _ _ _ | assumption) rfl ?_
  refine g_get fl_X9_113 q_X9_ordered_14 (by repeat first | with_reducible assumption | with_reducible exact hput_s _ _ _ | refine (hput_n _ _ (by omega)).trans ?_ | exact hput_s _ _ _ | assumption) rfl ?_
  refine g_icmp_lt (tgt := 28) q_X9_ordered_17 (by decide) hk ⟨by omega, by omega⟩ (fun b2 => ?_) (fun b2 => ?_)
  case refine_2 =>
    have hb := bad (by omega)
    refine g_throw th_NSE q_X9_ordered_20.1 q_X9_ordered_23.1 q_X9_ordered_24.1 q_X9_ordered_27.1 rfl (by decide) (Nat.le_of_ble_eq_true rfl) (by decide) (by decide) (fun z hz => ?_)
    rw [hb]
    exact ⟨by decide, rfl, SX.gr hX hN ⟨_, hz, rfl⟩⟩
  have he : eOrdd z o k = 0 := if_pos ⟨decide_eq_true e1, decide_eq_true ⟨by omega, by omega⟩⟩
  rw [he]
  obtain ⟨j, rfl⟩ : ∃ k : Nat, o = k := ⟨o.toNat, by omega⟩
  obtain ⟨i, rfl⟩ : ∃ j : Nat, k = j := ⟨k.toNat, by omega⟩
  rw [Int.toNat_natCast, Int.toNat_natCast]
  obtain ⟨tv, tn, bv, bn, bs, n, P, C, OR, u0, u1, u2, p1⟩ := q10
  refine g_aload_n q_X9_ordered_28 rfl ?_
  refine g_get fl_X9_65 q_X9_ordered_29 (by repeat first | with_reducible assumption | with_reducible exact hput_s _ _ _ | refine (hput_n _ _ (by omega)).trans ?_ | exact hput_s _ _ _ | assumption) rfl ?_
  refine g_iload_n q_X9_ordered_32 rfl ?_
  refine g_aload_n q_X9_ordered_33 rfl ?_
  refine g_get fl_X9_19 q_X9_ordered_34 (by repeat first | with_reducible assumption | with_reducible exact hput_s _ _ _ | refine (hput_n _ _ (by omega)).trans ?_ | exact hput_s _ _ _ | assumption) rfl ?_
  refine g_get fl_X9_113 q_X9_ordered_37 (by repeat first | with_reducible assumption | with_reducible exact hput_s _ _ _ | refine (hput_n _ _ (by omega)).trans ?_ | exact hput_s _ _ _ | assumption) rfl ?_
  refine g_callVN (rc' := 7) (rs' := 42) (As := [_, _]) cs_X9_364 q_X9_ordered_40 (sp_takeOrder hΓ u0 u2 j (zCa z) (by omega) hn.2.2) rfl (by repeat first | with_reducible assumption | with_reducible exact hput_s _ _ _ | refine (hput_n _ _ (by omega)).trans ?_ | exact hput_s _ _ _ | assumption) rfl rfl rfl rfl (Nat.le_of_ble_eq_true rfl) (by decide) (by decide) (by decide) (fun _ _ h => h.elim) (fun v σ1 hq => ?_)
  obtain ⟨rfl, OR', hσ1, hO⟩ := hq
  have v0 : σ1.2 (x + 45) = some (tuo (x + 45) tv tn bv bn bs) := by rw [hσ1]; exact (by repeat first | with_reducible assumption | with_reducible exact hput_s _ _ _ | refine (hput_n _ _ (by omega)).trans ?_ | exact hput_s _ _ _ | assumption)
  have v2 : σ1.2 (x + 45 + 4) = some (ai 5 OR') := by rw [hσ1]; exact (by repeat first | with_reducible assumption | with_reducible exact hput_s _ _ _ | refine (hput_n _ _ (by omega)).trans ?_ | exact hput_s _ _ _ | assumption)
  have hE1 : eqOff σ σ1 (tuF x) := by rw [hσ1]; exact eqOff.rfl'.put (Or.inr ⟨by omega, by omega⟩) _
  have e1 : ∀ a, a ≠ x + 45 + 4 → σ1.2 a = σ.2 a := fun a ha => by rw [hσ1]; exact hput_n _ _ ha
  clear hσ1
  have kx := (e1 x (by omega)).trans q2
  refine g_aload_n q_X9_ordered_43 rfl ?_
  refine g_get fl_X9_65 q_X9_ordered_44 (by repeat first | with_reducible assumption | with_reducible exact hput_s _ _ _ | refine (hput_n _ _ (by omega)).trans ?_ | exact hput_s _ _ _ | assumption) rfl ?_
  refine g_get fl_X9_389 q_X9_ordered_47 (by repeat first | with_reducible assumption | with_reducible exact hput_s _ _ _ | refine (hput_n _ _ (by omega)).trans ?_ | exact hput_s _ _ _ | assumption) rfl ?_
  refine g_iload_n q_X9_ordered_50 rfl ?_
  refine g_iaload q_X9_ordered_51 (by repeat first | with_reducible assumption | with_reducible exact hput_s _ _ _ | refine (hput_n _ _ (by omega)).trans ?_ | exact hput_s _ _ _ | assumption) (by omega) (by omega) ?_
  refine g_ireturn q_X9_ordered_52.1 rfl ?_
  refine ⟨rfl, by rw [Int.toNat_natCast, hO i (by omega)]; rfl, SX.tr (tuF_fX hE1) (SX.of ⟨ve, av, hh.uch hE1 (q7.keep (fun a i => e1 a (by unfold inb at i; omega))) ⟨tv, tn, bv, bn, bs, n, P, C, OR', v0, u1.keep (fun a i => e1 a (by unfold inb at i; omega)), v2, p1⟩⟩ hN)⟩
theorem tuZ_nn {z : PS} (hn : zCa z ≤ 5) (o : Nat) (h : tuB z o = true) : 0 ≤ tuZ z o := by
  unfold tuZ
  rw [if_pos h]
  refine sumN_nn (fun k hk => ?_)
  have h9 := lcs_rg (lvZ z) (tuS (lvZ z) (zPL z) (zGO z) (tuO z o) k).2.2 (tuS (lvZ z) (zPL z) (zGO z) (tuO z o) k).2.1 (zPL z (tuO z o k)).toNat (zGO z (tuO z o k)).toNat
  have hg : (tuS (lvZ z) (zPL z) (zGO z) (tuO z o) k).1 = true := by
    cases hb : (tuS (lvZ z) (zPL z) (zGO z) (tuO z o) k).1 with
    | true => rfl
    | false =>
      have := tuS_f (lvZ z) (zPL z) (zGO z) (tuO z o) hb (zCa z - k)
      rw [show k + (zCa z - k) = zCa z by omega] at this
      exact absurd (h.symm.trans this) (by decide)
  have hs := tuS_s (lvZ z) (zPL z) (zGO z) (tuO z o) k hg
  have hne : tuK z o k ≠ -1 := by
    intro q
    have q' : tuc (lvZ z) (zPL z) (zGO z) (tuO z o) k = -1 := q
    rw [if_pos q'] at hs
    have := tuS_f (lvZ z) (zPL z) (zGO z) (tuO z o) (k := k + 1) (by rw [hs]) (zCa z - (k + 1))
    rw [show k + 1 + (zCa z - (k + 1)) = zCa z by omega] at this
    exact absurd (h.symm.trans this) (by decide)
  have h9' : -1 ≤ tuK z o k := h9.1
  omega
theorem tuZ_rg {z : PS} (hn : zCa z ≤ 5) (o : Nat) : -1 ≤ tuZ z o ∧ tuZ z o ≤ 200 := by
  have h1 : tuB z o = true → 0 ≤ tuZ z o := tuZ_nn hn o
  unfold tuZ at h1 ⊢
  split
  · rename_i h
    have := sumN_rg (C := tuK z o) (a := -1) (b := 40) (n := zCa z) (fun k _ => lcs_rg _ _ _ _ _)
    have h2 := h1 h
    rw [if_pos h] at h2
    omega
  · omega
theorem boN_rg {z : PS} (hn : zCa z ≤ 5) : ∀ k, k ≤ 1000 → (-1 ≤ (boN z k).1 ∧ (boN z k).1 ≤ 1000) ∧ -1 ≤ (boN z k).2 ∧ (boN z k).2 ≤ 200
  | 0, _ => ⟨⟨by show (-1 : Int) ≤ -1; decide, by show (-1 : Int) ≤ 1000; decide⟩, by show (-1 : Int) ≤ -1; decide, by show (-1 : Int) ≤ 200; decide⟩
  | k + 1, hk => by
    unfold boN
    split
    · exact ⟨⟨by show (-1 : Int) ≤ k; omega, by show (k : Int) ≤ 1000; omega⟩, tuZ_rg hn k⟩
    · exact boN_rg hn k (by omega)
theorem sp_findBestOrder (hΓ : Gd Γ) {ve : Nat} {av bv bn bs : Int} (hh : CXh σ x lo N R len tx fa z l wl wr ve av) (hk9 : K8e σ x z ve bv bn bs) (hbv : bv ≠ ve) : Sp Γ miX9_findBestOrder 0 0 [.ref x] σ (fun v σ' => v = none ∧ CXh σ' x lo N R len tx fa z l wl wr ve av ∧ eqOff σ σ' (tuF x) ∧ K8e σ' x z ve bv (boN z (facN (zCa z))).1 (boN z (facN (zCa z))).2) noX := by
  have h4 := hh.2.2.2.1
  have hn := h4.1.1
  have hf := facN_pos (zCa z)
  obtain ⟨tF, hzF, hrF⟩ := st_FACTORIALS hΓ
  /- the two numbers told anew -/
  have chg : ∀ (τ τ' : AH) (b1 b2 b3 b4 : Int), CXh τ x lo N R len tx fa z l wl wr ve av → K8e τ x z ve bv b1 b2 → rg b3 → rg b4 → (∃ tv tn, τ.2 (x + 45) = some (tuo (x + 45) tv tn bv b1 b2) ∧ τ' = hput τ (x + 45) (tuo (x + 45) tv tn bv b3 b4)) → CXh τ' x lo N R len tx fa z l wl wr ve av ∧ K8e τ' x z ve bv b3 b4 ∧ eqOff τ τ' (tuF x) := by
    intro τ τ' b1 b2 b3 b4 g1 g2 r3 r4 ⟨tv, tn, g3, g4⟩
    obtain ⟨tv', tn', n, P, C, OR, u0, u1, u2, p1, p2, p3, p4, p5, p6, p7, p8⟩ := g2
    have hE : eqOff τ τ' (tuF x) := by rw [g4]; exact eqOff.rfl'.put (Or.inr ⟨by omega, by omega⟩) _
    have e : ∀ a, a ≠ x + 45 → τ'.2 a = τ.2 a := fun a ha => by rw [g4]; exact hput_n _ _ ha
    have z0 : τ'.2 (x + 45) = some (tuo (x + 45) tv' tn' bv b3 b4) := by
      rw [g4, hput_s]
      rw [u0] at g3
      have h9 : [Value.ref (x + 45 + 1), .ref (x + 45 + 4), .int (ii tv'), .int (ii tn'), .int (ii bv), .int (ii b1), .int (ii b2)] = [Value.ref (x + 45 + 1), .ref (x + 45 + 4), .int (ii tv), .int (ii tn), .int (ii bv), .int (ii b1), .int (ii b2)] := (Prod.mk.inj (Sum.inl.inj (Option.some.inj g3))).2
      simp only [List.cons.injEq, Value.int.injEq, true_and, and_true] at h9
      show some (ob 7 [_, _, .int (ii tv), .int (ii tn), _, _, _]) = some (ob 7 [_, _, .int (ii tv'), .int (ii tn'), _, _, _])
      rw [h9.1, h9.2]
    have hK : K8e τ' x z ve bv b3 b4 := ⟨tv', tn', n, P, C, OR, z0, u1.keep (fun a i => e a (by unfold inb at i; omega)), (e _ (by omega)).trans u2, p1, p2, p3, p4, p5, ⟨p6.1, r3, r4⟩, p7, fun q => absurd q hbv⟩
    exact ⟨g1.uch hE (g1.2.2.2.2.2.2.2.2.2.2.2.1.keep (fun a i => e a (by unfold inb at i; omega))) hK.k, hK, hE⟩
  have hk9' := hk9
  obtain ⟨tv, tn, n, P, C, OR, u0, -, -, -, -, -, -, -, ⟨-, r1, r2⟩, -⟩ := hk9'
  have kx := hh.2.2.2.2.2.2.1
  refine Sp_of (L := [_, _, _, _]) hΓ (by decide +kernel) rfl (Nat.le_of_ble_eq_true rfl) rfl ?_
  refine g_aload_n q_X9_findBestOrder_0 rfl ?_
  refine g_get fl_X9_65 q_X9_findBestOrder_1 (by repeat first | with_reducible assumption | with_reducible exact hput_s _ _ _ | refine (hput_n _ _ (by omega)).trans ?_ | exact hput_s _ _ _ | assumption) rfl ?_
  refine g_iconst q_X9_findBestOrder_4 ?_
  refine g_put fp_X9_386 q_X9_findBestOrder_5 (by repeat first | with_reducible assumption | with_reducible exact hput_s _ _ _ | refine (hput_n _ _ (by omega)).trans ?_ | exact hput_s _ _ _ | assumption) rfl rfl ?_
  refine g_aload_n q_X9_findBestOrder_8 rfl ?_
  refine g_get fl_X9_65 q_X9_findBestOrder_9 (by repeat first | with_reducible assumption | with_reducible exact hput_s _ _ _ | refine (hput_n _ _ (by omega)).trans ?_ | exact hput_s _ _ _ | assumption) rfl ?_
  refine g_iconst q_X9_findBestOrder_12 ?_
  refine g_put fp_X9_383 q_X9_findBestOrder_13 (by repeat first | with_reducible assumption | with_reducible exact hput_s _ _ _ | refine (hput_n _ _ (by omega)).trans ?_ | exact hput_s _ _ _ | assumption) rfl rfl ?_
  refine g_iconst q_X9_findBestOrder_16 ?_
  refine g_istore_n (L' := [_, _, _, _]) q_X9_findBestOrder_17 (by decide) rfl ?_
  obtain ⟨τ, hτ⟩ : ∃ τ, τ = hput (hput σ (x + 45) (tuo (x + 45) tv tn bv (-1) bs)) (x + 45) (tuo (x + 45) tv tn bv (-1) (-1)) := ⟨_, rfl⟩
  refine g_eq (σ2 := τ) rfl rfl hτ.symm ?_
  rw [hput_hput] at hτ
  obtain ⟨g1, g2, g3⟩ := chg σ τ bn bs (-1) (-1) hh hk9 ⟨by decide, by decide⟩ ⟨by decide, by decide⟩ ⟨tv, tn, u0, hτ⟩
  clear hτ
  refine g_loop2 (fun (k : Nat) (τ : AH) => k ≤ facN (zCa z) ∧ CXh τ x lo N R len tx fa z l wl wr ve av ∧ K8e τ x z ve bv (boN z k).1 (boN z k).2 ∧ eqOff σ τ (tuF x)) (fun k τ => G Γ _ cX9_findBestOrder _ _ 0 0 18 [some (.ref x), some (.int (ii k)), none, none] [] τ) (fun k τ => facN (zCa z) - k) ?_ 0 τ ⟨Nat.zero_le _, g1, g2, g3⟩
  intro k τ ⟨hk, g1, g2, g3⟩ ih
  have kx := g1.2.2.2.2.2.2.1
  have kS := g1.2.2.2.2.2.2.2.2.1
  have g0 := kS.1
  have hbr := boN_rg hn.2.2 k (by omega)
  refine g_iload_n q_X9_findBestOrder_18 rfl ?_
  refine g_getst ls_X9_359 hzF q_X9_findBestOrder_19 ?_
  refine g_aload_n q_X9_findBestOrder_22 rfl ?_
  refine g_get fl_X9_19 q_X9_findBestOrder_23 (by repeat first | with_reducible assumption | with_reducible exact hput_s _ _ _ | refine (hput_n _ _ (by omega)).trans ?_ | exact hput_s _ _ _ | assumption) rfl ?_
  refine g_get fl_X9_113 q_X9_findBestOrder_26 (by repeat first | with_reducible assumption | with_reducible exact hput_s _ _ _ | refine (hput_n _ _ (by omega)).trans ?_ | exact hput_s _ _ _ | assumption) rfl ?_
  refine g_iaload_ro q_X9_findBestOrder_29 (by assumption) (by omega) (by omega) (by decide) ?_
  rw [Int.toNat_natCast, facN_eq]
  refine g_icmp_ge (tgt := 106) q_X9_findBestOrder_30 (by decide) ⟨by omega, by omega⟩ ⟨by omega, by omega⟩ (fun b1 => ?_) (fun b1 => ?_)
  · have e : k = facN (zCa z) := by omega
    subst e
    refine g_return q_X9_findBestOrder_106.1 rfl ?_
    exact ⟨rfl, g1, g3, g2⟩
  refine g_aload_n q_X9_findBestOrder_33 rfl ?_
  refine g_iload_n q_X9_findBestOrder_34 rfl ?_
  refine g_callV (rc' := 0) (rs' := 0) (As := [_]) cs_X9_374 q_X9_findBestOrder_35 (sp_waysByTurnsE hΓ g1 g2 k (by omega)) rfl (by repeat first | with_reducible assumption | with_reducible exact hput_s _ _ _ | refine (hput_n _ _ (by omega)).trans ?_ | exact hput_s _ _ _ | assumption) rfl rfl rfl rfl (Nat.le_of_ble_eq_true rfl) (by decide) (by decide) (by decide) (fun _ _ h => h.elim) (fun v σ1 hq => ?_)
  obtain ⟨rfl, m1, m2, ⟨ct, cs, cl, co, P, C, k0, k1, k2, o1, o2, o3⟩, m3⟩ := hq
  have hE1 := g3.trans m2 (fun _ h => h)
  have m3' := m3
  obtain ⟨tv, tn, n, P9, C9, OR, u0, -⟩ := m3'
  have kx1 := m1.2.2.2.2.2.2.1
  have hsr := sumC_rg (C := C) o2 hn.2.2
  have hall := tuV_all hn.2.2 (show k < facN (zCa z) by omega) o3
  have keep : (tuB z k = false ∨ ¬ ((boN z k).2 = -1 ∨ tuZ z k < (boN z k).2)) → boN z (k + 1) = boN z k := by
    intro h
    show (if tuZ z k ≠ -1 ∧ ((boN z k).2 = -1 ∨ tuZ z k < (boN z k).2) then ((k : Int), tuZ z k) else boN z k) = boN z k
    refine if_neg (fun q => ?_)
    rcases h with h | h
    · exact q.1 (by unfold tuZ; rw [if_neg (by rw [h]; decide)])
    · exact h q.2
  have go : ∀ q : Bool, (tuB z k = true → q = decide ((boN z k).2 = -1 ∨ tuZ z k < (boN z k).2)) → G Γ miX9_findBestOrder cX9_findBestOrder (fun v σ' => v = none ∧ CXh σ' x lo N R len tx fa z l wl wr ve av ∧ eqOff σ σ' (tuF x) ∧ K8e σ' x z ve bv (boN z (facN (zCa z))).1 (boN z (facN (zCa z))).2) noX 0 0 69 [some (.ref x), some (.int (ii k)), some (.ref (x + 45 + 1)), none] [.int (ii (bi q))] σ1 := by
    intro q hq
    refine g_istore_n (L' := [_, _, _, _]) q_X9_findBestOrder_69 (by decide) rfl ?_
    refine g_aload_n q_X9_findBestOrder_70 rfl ?_
    refine g_callVN (rc' := 0) (rs' := 0) (As := []) cs_X9_196 q_X9_findBestOrder_71 (sp_allGo hΓ hn.2.2 k0 k2 o2) rfl (by repeat first | with_reducible assumption | with_reducible exact hput_s _ _ _ | refine (hput_n _ _ (by omega)).trans ?_ | exact hput_s _ _ _ | assumption) rfl rfl rfl rfl (Nat.le_of_ble_eq_true rfl) (by decide) (by decide) (by decide) (fun _ _ h => h.elim) (k_rb ?_)
    rw [hall]
    have same : (tuB z k = false ∨ ¬ ((boN z k).2 = -1 ∨ tuZ z k < (boN z k).2)) → G Γ miX9_findBestOrder cX9_findBestOrder (fun v σ' => v = none ∧ CXh σ' x lo N R len tx fa z l wl wr ve av ∧ eqOff σ σ' (tuF x) ∧ K8e σ' x z ve bv (boN z (facN (zCa z))).1 (boN z (facN (zCa z))).2) noX 0 0 100 [some (.ref x), some (.int (ii k)), some (.ref (x + 45 + 1)), some (.int (ii (bi q)))] [] σ1 := by
      intro hs
      have hnx := ih (k + 1) σ1 ⟨by omega, m1, by rw [keep hs]; exact m3, hE1⟩ (by omega)
      refine g_iinc (L' := [_, _, _, _]) q_X9_findBestOrder_100 rfl rfl ?_
      refine g_goto (tgt := 18) q_X9_findBestOrder_103 (by decide) ?_
      exact g_fl hnx ⟨rfl, rfl, trivial⟩
    refine g_if_eq (tgt := 100) q_X9_findBestOrder_74 (by decide) (bi_rg _) (fun b2 => ?_) (fun b2 => ?_)
    · exact same (Or.inl (bi_f b2))
    refine g_iload_n q_X9_findBestOrder_77 rfl ?_
    refine g_if_eq (tgt := 100) q_X9_findBestOrder_78 (by decide) (bi_rg _) (fun b3 => ?_) (fun b3 => ?_)
    · exact same (Or.inr (of_decide_eq_false ((hq (bi_t b2)).symm.trans (bi_f b3))))
    have hb := bi_t b2
    have hq2 := of_decide_eq_true ((hq hb).symm.trans (bi_t b3))
    have hZ : sumN C (zCa z) = tuZ z k := tuV_sum hn.2.2 (show k < facN (zCa z) by omega) o3 hb
    have hZ0 : tuZ z k ≠ -1 := by
      intro q9
      have h9 := tuZ_nn hn.2.2 k hb
      omega
    have eb : boN z (k + 1) = ((k : Int), tuZ z k) := if_pos ⟨hZ0, hq2⟩
    refine g_aload_n q_X9_findBestOrder_81 rfl ?_
    refine g_get fl_X9_65 q_X9_findBestOrder_82 (by repeat first | with_reducible assumption | with_reducible exact hput_s _ _ _ | refine (hput_n _ _ (by omega)).trans ?_ | exact hput_s _ _ _ | assumption) rfl ?_
    refine g_iload_n q_X9_findBestOrder_85 rfl ?_
    refine g_put fp_X9_386 q_X9_findBestOrder_86 (by repeat first | with_reducible assumption | with_reducible exact hput_s _ _ _ | refine (hput_n _ _ (by omega)).trans ?_ | exact hput_s _ _ _ | assumption) rfl rfl ?_
    refine g_aload_n q_X9_findBestOrder_89 rfl ?_
    refine g_get fl_X9_65 q_X9_findBestOrder_90 (by repeat first | with_reducible assumption | with_reducible exact hput_s _ _ _ | refine (hput_n _ _ (by omega)).trans ?_ | exact hput_s _ _ _ | assumption) rfl ?_
    refine g_aload_n q_X9_findBestOrder_93 rfl ?_
    refine g_callVN (rc' := 0) (rs' := 0) (As := []) cs_X9_249 q_X9_findBestOrder_94 (sp_sumCosts hΓ hn.2.2 (w := x + 45 + 1) (C := C) ((hput_n _ _ (by omega)).trans k0) ((hput_n _ _ (by omega)).trans k2)) rfl (by repeat first | with_reducible assumption | with_reducible exact hput_s _ _ _ | refine (hput_n _ _ (by omega)).trans ?_ | exact hput_s _ _ _ | assumption) rfl rfl rfl rfl (Nat.le_of_ble_eq_true rfl) (by decide) (by decide) (by decide) (fun _ _ h => h.elim) (k_ri ?_)
    rw [hZ]
    refine g_put fp_X9_383 q_X9_findBestOrder_97 (by repeat first | with_reducible assumption | with_reducible exact hput_s _ _ _ | refine (hput_n _ _ (by omega)).trans ?_ | exact hput_s _ _ _ | assumption) rfl rfl ?_
    obtain ⟨σ2, hσ2⟩ : ∃ τ, τ = hput (hput σ1 (x + 45) (tuo (x + 45) tv tn bv k (boN z k).2)) (x + 45) (tuo (x + 45) tv tn bv k (tuZ z k)) := ⟨_, rfl⟩
    refine g_eq (σ2 := σ2) rfl rfl hσ2.symm ?_
    rw [hput_hput] at hσ2
    have hzr := tuZ_rg hn.2.2 k
    obtain ⟨c1, c2, c3⟩ := chg σ1 σ2 (boN z k).1 (boN z k).2 k (tuZ z k) m1 m3 ⟨by omega, by omega⟩ ⟨by omega, by omega⟩ ⟨tv, tn, u0, hσ2⟩
    clear hσ2
    have hnx := ih (k + 1) σ2 ⟨by omega, c1, by rw [eb]; exact c2, hE1.trans c3 (fun _ h => h)⟩ (by omega)
    refine g_iinc (L' := [_, _, _, _]) q_X9_findBestOrder_100 rfl rfl ?_
    refine g_goto (tgt := 18) q_X9_findBestOrder_103 (by decide) ?_
    exact g_fl hnx ⟨rfl, rfl, trivial⟩
  refine g_astore_n (L' := [_, _, _, _]) q_X9_findBestOrder_38 (by decide) rfl ?_
  refine g_aload_n q_X9_findBestOrder_39 rfl ?_
  refine g_get fl_X9_65 q_X9_findBestOrder_40 (by repeat first | with_reducible assumption | with_reducible exact hput_s _ _ _ | refine (hput_n _ _ (by omega)).trans ?_ | exact hput_s _ _ _ | assumption) rfl ?_
  refine g_get fl_X9_383 q_X9_findBestOrder_43 (by repeat first | with_reducible assumption | with_reducible exact hput_s _ _ _ | refine (hput_n _ _ (by omega)).trans ?_ | exact hput_s _ _ _ | assumption) rfl ?_
  refine g_iconst q_X9_findBestOrder_46 ?_
  refine g_icmp_eq (tgt := 64) q_X9_findBestOrder_47 (by decide) ⟨by omega, by omega⟩ ⟨by omega, by omega⟩ (fun b2 => ?_) (fun b2 => ?_)
  · refine g_iconst q_X9_findBestOrder_64 ?_
    refine g_goto (tgt := 69) q_X9_findBestOrder_65 (by decide) ?_
    exact go true (fun _ => (decide_eq_true (Or.inl b2)).symm)
  refine g_aload_n q_X9_findBestOrder_50 rfl ?_
  refine g_callVN (rc' := 0) (rs' := 0) (As := []) cs_X9_249 q_X9_findBestOrder_51 (sp_sumCosts hΓ hn.2.2 k0 k2) rfl (by repeat first | with_reducible assumption | with_reducible exact hput_s _ _ _ | refine (hput_n _ _ (by omega)).trans ?_ | exact hput_s _ _ _ | assumption) rfl rfl rfl rfl (Nat.le_of_ble_eq_true rfl) (by decide) (by decide) (by decide) (fun _ _ h => h.elim) (k_ri ?_)
  refine g_aload_n q_X9_findBestOrder_54 rfl ?_
  refine g_get fl_X9_65 q_X9_findBestOrder_55 (by repeat first | with_reducible assumption | with_reducible exact hput_s _ _ _ | refine (hput_n _ _ (by omega)).trans ?_ | exact hput_s _ _ _ | assumption) rfl ?_
  refine g_get fl_X9_383 q_X9_findBestOrder_58 (by repeat first | with_reducible assumption | with_reducible exact hput_s _ _ _ | refine (hput_n _ _ (by omega)).trans ?_ | exact hput_s _ _ _ | assumption) rfl ?_
  refine g_icmp_ge (tgt := 68) q_X9_findBestOrder_61 (by decide) ⟨by omega, by omega⟩ ⟨by omega, by omega⟩ (fun b3 => ?_) (fun b3 => ?_)
  · refine g_iconst q_X9_findBestOrder_68 ?_
    refine go false (fun hb => (decide_eq_false ?_).symm)
    rw [tuV_sum hn.2.2 (show k < facN (zCa z) by omega) o3 hb] at b3
    omega
  · refine g_iconst q_X9_findBestOrder_64 ?_
    refine g_goto (tgt := 69) q_X9_findBestOrder_65 (by decide) ?_
    refine go true (fun hb => (decide_eq_true ?_).symm)
    rw [tuV_sum hn.2.2 (show k < facN (zCa z) by omega) o3 hb] at b3
    exact Or.inr (by omega)
theorem sp_bestOrder (hΓ : Gd Γ) (hN : N < 1000) (hX : CX σ x lo N R len tx fa z l wl wr) (sm : Bool) : Sp Γ miX9_bestOrder 8 48 [.ref x, .int (ii (bi sm))] σ (oQ 0 (if sm = true then (boN z (facN (zCa z))).2 else (boN z (facN (zCa z))).1) (SX σ x lo (N + 1) R len tx fa z l wl wr)) noX := by
  obtain ⟨ve, av, hh⟩ := hX
  have kx := hh.2.2.2.2.2.2.1
  obtain ⟨bv, bn, bs, hk⟩ := hh.2.2.2.2.2.2.2.2.2.2.2.2.2.2.1.e
  have hN9 := hh.1.2.2.1
  have hv9 := hh.2.2.2.2.2.1.1
  have hk' := hk
  obtain ⟨tv, tn, n, P, C, OR, u0, -, -, -, -, -, -, ⟨p5, p5b⟩, -, -, p8⟩ := hk'
  have fin : ∀ (τ : AH) (tv tn bv : Int), CX τ x lo N R len tx fa z l wl wr → eqOff σ τ (tuF x) → τ.2 (x + 45) = some (tuo (x + 45) tv tn bv (boN z (facN (zCa z))).1 (boN z (facN (zCa z))).2) → G Γ miX9_bestOrder cX9_bestOrder (oQ 0 (if sm = true then (boN z (facN (zCa z))).2 else (boN z (facN (zCa z))).1) (SX σ x lo (N + 1) R len tx fa z l wl wr)) noX 8 48 29 [some (.ref x), some (.int (ii (bi sm)))] [] τ := by
    intro τ tv tn bv g1 g2 g3
    have g1' := g1
    obtain ⟨ve1, av1, hh1⟩ := g1'
    have kx1 := hh1.2.2.2.2.2.2.1
    refine g_iload_n q_X9_bestOrder_29 rfl ?_
    refine g_if_eq (tgt := 43) q_X9_bestOrder_30 (by decide) (bi_rg _) (fun b1 => ?_) (fun b1 => ?_)
    · refine g_aload_n q_X9_bestOrder_43 rfl ?_
      refine g_get fl_X9_65 q_X9_bestOrder_44 (by repeat first | with_reducible assumption | with_reducible exact hput_s _ _ _ | refine (hput_n _ _ (by omega)).trans ?_ | exact hput_s _ _ _ | assumption) rfl ?_
      refine g_get fl_X9_386 q_X9_bestOrder_47 (by repeat first | with_reducible assumption | with_reducible exact hput_s _ _ _ | refine (hput_n _ _ (by omega)).trans ?_ | exact hput_s _ _ _ | assumption) rfl ?_
      refine g_ireturn q_X9_bestOrder_50.1 rfl ?_
      exact ⟨rfl, by rw [if_neg (by rw [bi_f b1]; decide)], SX.tr (tuF_fX g2) (SX.of g1 hN)⟩
    · refine g_aload_n q_X9_bestOrder_33 rfl ?_
      refine g_get fl_X9_65 q_X9_bestOrder_34 (by repeat first | with_reducible assumption | with_reducible exact hput_s _ _ _ | refine (hput_n _ _ (by omega)).trans ?_ | exact hput_s _ _ _ | assumption) rfl ?_
      refine g_get fl_X9_383 q_X9_bestOrder_37 (by repeat first | with_reducible assumption | with_reducible exact hput_s _ _ _ | refine (hput_n _ _ (by omega)).trans ?_ | exact hput_s _ _ _ | assumption) rfl ?_
      refine g_goto (tgt := 50) q_X9_bestOrder_40 (by decide) ?_
      refine g_ireturn q_X9_bestOrder_50.1 rfl ?_
      exact ⟨rfl, by rw [if_pos (bi_t b1)], SX.tr (tuF_fX g2) (SX.of g1 hN)⟩
  refine Sp_of (L := [_, _]) hΓ (by decide +kernel) rfl (Nat.le_of_ble_eq_true rfl) rfl ?_
  refine g_aload_n q_X9_bestOrder_0 rfl ?_
  refine g_get fl_X9_65 q_X9_bestOrder_1 (by repeat first | with_reducible assumption | with_reducible exact hput_s _ _ _ | refine (hput_n _ _ (by omega)).trans ?_ | exact hput_s _ _ _ | assumption) rfl ?_
  refine g_get fl_X9_377 q_X9_bestOrder_4 (by repeat first | with_reducible assumption | with_reducible exact hput_s _ _ _ | refine (hput_n _ _ (by omega)).trans ?_ | exact hput_s _ _ _ | assumption) rfl ?_
  refine g_aload_n q_X9_bestOrder_7 rfl ?_
  refine g_get fl_X9_83 q_X9_bestOrder_8 (by repeat first | with_reducible assumption | with_reducible exact hput_s _ _ _ | refine (hput_n _ _ (by omega)).trans ?_ | exact hput_s _ _ _ | assumption) rfl ?_
  refine g_icmp_eq (tgt := 29) q_X9_bestOrder_11 (by decide) ⟨by omega, by omega⟩ ⟨by omega, by omega⟩ (fun b1 => ?_) (fun b1 => ?_)
  · have h9 := p8 (by omega)
    refine fin σ tv tn bv ⟨ve, av, hh⟩ eqOff.rfl' ?_
    rw [← h9]
    exact u0
  · refine g_aload_n q_X9_bestOrder_14 rfl ?_
    refine g_callV (rc' := 8) (rs' := 48) (As := []) cs_X9_380 q_X9_bestOrder_15 (sp_findBestOrder hΓ hh hk (by omega)) rfl (by repeat first | with_reducible assumption | with_reducible exact hput_s _ _ _ | refine (hput_n _ _ (by omega)).trans ?_ | exact hput_s _ _ _ | assumption) rfl rfl rfl rfl (Nat.le_of_ble_eq_true rfl) (by decide) (by decide) (by decide) (fun _ _ h => h.elim) (fun v σ1 hq => ?_)
    obtain ⟨rfl, m1, m2, m3⟩ := hq
    have kx1 := m1.2.2.2.2.2.2.1
    obtain ⟨tv, tn, n, P, C, OR, u0, u1, u2, p1, p2, p3, p4, p5, p6, p7, p8⟩ := m3
    refine g_aload_n q_X9_bestOrder_18 rfl ?_
    refine g_get fl_X9_65 q_X9_bestOrder_19 (by repeat first | with_reducible assumption | with_reducible exact hput_s _ _ _ | refine (hput_n _ _ (by omega)).trans ?_ | exact hput_s _ _ _ | assumption) rfl ?_
    refine g_aload_n q_X9_bestOrder_22 rfl ?_
    refine g_get fl_X9_83 q_X9_bestOrder_23 (by repeat first | with_reducible assumption | with_reducible exact hput_s _ _ _ | refine (hput_n _ _ (by omega)).trans ?_ | exact hput_s _ _ _ | assumption) rfl ?_
    refine g_put fp_X9_377 q_X9_bestOrder_26 (by repeat first | with_reducible assumption | with_reducible exact hput_s _ _ _ | refine (hput_n _ _ (by omega)).trans ?_ | exact hput_s _ _ _ | assumption) rfl rfl ?_
    have e : ∀ a, a ≠ x + 45 → (hput σ1 (x + 45) (tuo (x + 45) tv tn ve (boN z (facN (zCa z))).1 (boN z (facN (zCa z))).2)).2 a = σ1.2 a := fun a ha => hput_n _ _ ha
    have hE2 : eqOff σ1 (hput σ1 (x + 45) (tuo (x + 45) tv tn ve (boN z (facN (zCa z))).1 (boN z (facN (zCa z))).2)) (tuF x) := eqOff.rfl'.put (Or.inr ⟨by omega, by omega⟩) _
    refine fin _ tv tn ve ⟨ve, av, m1.uch hE2 (m1.2.2.2.2.2.2.2.2.2.2.2.1.keep (fun a i => e a (by unfold inb at i; omega))) ⟨tv, tn, ve, _, _, n, P, C, OR, hput_s _ _ _, u1.keep (fun a i => e a (by unfold inb at i; omega)), (e _ (by omega)).trans u2, p1, p2, p3, p4, ⟨by omega, by omega⟩, p6, p7, fun _ => rfl⟩⟩ (m2.trans hE2 (fun _ h => h)) (hput_s _ _ _)
end X9N

