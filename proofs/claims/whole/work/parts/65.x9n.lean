/-! CartPaths: by turns -/
theorem ord_ok : ∀ n : Fin 6, ∀ o : Fin 120, (o : Nat) < facN n → (∀ k : Fin 5, (k : Nat) < n → ordC n o k < n) ∧ (∀ i j : Fin 5, (i : Nat) < n → (j : Nat) < n → ordC n o i = ordC n o j → i = j) ∧ ∀ c : Fin 5, (c : Nat) < n → ∃ k : Fin 5, (k : Nat) < n ∧ ordC n o k = c := by decide +kernel
theorem ord_lt {n o k : Nat} (hn : n ≤ 5) (ho : o < facN n) (hk : k < n) : ordC n o k < n := (ord_ok ⟨n, by omega⟩ ⟨o, by have := (facN_pos n).2; omega⟩ ho).1 ⟨k, by omega⟩ hk
theorem ord_inj {n o i j : Nat} (hn : n ≤ 5) (ho : o < facN n) (hi : i < n) (hj : j < n) (h : ordC n o i = ordC n o j) : i = j := congrArg Fin.val ((ord_ok ⟨n, by omega⟩ ⟨o, by have := (facN_pos n).2; omega⟩ ho).2.1 ⟨i, by omega⟩ ⟨j, by omega⟩ hi hj h)
theorem ord_sur {n o c : Nat} (hn : n ≤ 5) (ho : o < facN n) (hc : c < n) : ∃ k, k < n ∧ ordC n o k = c := by
  obtain ⟨k, h1, h2⟩ := (ord_ok ⟨n, by omega⟩ ⟨o, by have := (facN_pos n).2; omega⟩ ho).2.2 ⟨c, by omega⟩ hc
  exact ⟨k, h1, h2⟩
/-- a sum over all, in another order -/
theorem sumN_inj : ∀ (n : Nat) (f : Nat → Nat) (C : Nat → Int), (∀ k, k < n → f k < n) → (∀ i j, i < n → j < n → f i = f j → i = j) → sumN (fun k => C (f k)) n = sumN C n
  | 0, _, _, _, _ => rfl
  | n + 1, f, C, h1, h2 => by
    by_cases hs : ∃ j, j < n + 1 ∧ f j = n
    · obtain ⟨j, hj, he⟩ := hs
      /- f with the values at j and n exchanged -/
      have ih := sumN_inj n (fun k => if k = j then f n else f k) C (fun k hk => by
        by_cases e : k = j
        · rw [if_pos e]
          have := h1 n (by omega)
          have hne : f n ≠ n := fun q => by have := h2 n j (by omega) hj (q.trans he.symm); omega
          omega
        · rw [if_neg e]
          have := h1 k (by omega)
          have hne : f k ≠ n := fun q => e (h2 k j (by omega) hj (q.trans he.symm))
          omega) (fun a b ha hb q => by
        by_cases e1 : a = j
        · by_cases e2 : b = j
          · omega
          · simp only [e1, e2, if_true, if_false] at q
            have := h2 n b (by omega) (by omega) q
            omega
        · by_cases e2 : b = j
          · simp only [e1, e2, if_true, if_false] at q
            have := h2 a n (by omega) (by omega) q
            omega
          · simp only [e1, e2, if_false] at q
            exact h2 a b (by omega) (by omega) q)
      rw [sumN, sumN, ← ih]
      by_cases ej : j = n
      · have e1 : sumN (fun k => C (f k)) n = sumN (fun k => C ((fun k => if k = j then f n else f k) k)) n := sumN_cong fun k hk => by
          show C (f k) = C (if k = j then f n else f k)
          rw [if_neg (by omega)]
        rw [e1]
        show _ + C (f n) = _ + C n
        rw [← ej, he, ej]
      · have e2 := sumN_up (C := fun k => C (f k)) (c := j) (x := C (f n)) (n := n)
        rw [if_pos (by omega)] at e2
        have e3 : sumN (va_up (fun k => C (f k)) j (C (f n))) n = sumN (fun k => C ((fun k => if k = j then f n else f k) k)) n := sumN_cong fun k hk => by
          show va_up (fun k => C (f k)) j (C (f n)) k = C (if k = j then f n else f k)
          unfold va_up
          by_cases e : k = j
          · rw [if_pos e, if_pos e]
          · rw [if_neg e, if_neg e]
        rw [← e3, e2]
        show _ + C (f n) = _
        simp only [he]
        omega
    · exfalso
      have ih := sumN_inj n f (fun _ => 1) (fun k hk => by
        have := h1 k (by omega)
        have hne : f k ≠ n := fun q => hs ⟨k, by omega, q⟩
        omega) (fun a b ha hb => h2 a b (by omega) (by omega))
      have hfn : f n < n := by
        have := h1 n (by omega)
        have hne : f n ≠ n := fun q => hs ⟨n, by omega, q⟩
        omega
      have ih2 := sumN_inj n f (fun c => if c = f n then 1 else 0) (fun k hk => by
        have := h1 k (by omega)
        have hne : f k ≠ n := fun q => hs ⟨k, by omega, q⟩
        omega) (fun a b ha hb => h2 a b (by omega) (by omega))
      have z1 : sumN (fun k => (fun c => if c = f n then (1 : Int) else 0) (f k)) n = 0 := sumN_zero fun k hk => by
        show (if f k = f n then (1 : Int) else 0) = 0
        rw [if_neg (fun q => by have := h2 k n (by omega) (by omega) q; omega)]
      have z2 : 0 < sumN (fun c => if c = f n then (1 : Int) else 0) n := sumN_pos (fun k _ => by
        show 0 ≤ (if k = f n then (1 : Int) else 0)
        split <;> decide) (f n) hfn (by rw [if_pos rfl]; decide)
      omega
section X9N
variable {Γ : GT} {σ : AH} {x lo N : Nat} {R : Nat → Nat} {len : Nat} {tx : Nat → Int} {fa : Int} {z : PS} {l : List (Int × Int × Int)} {wl : Nat} {wr : Nat → Int}
def ordOK (z : PS) (o : Int) : Bool := decide (0 ≤ o ∧ o < facN (zCa z))
theorem sp_needOrder (hΓ : Gd Γ) (hX : CX σ x lo N R len tx fa z l wl wr) (o : Int) (ho : rg o) : Sp Γ miX9_needOrder 1 6 [.ref x, .int (ii o)] σ (qN (0 ≤ o ∧ o < facN (zCa z)) σ) (qX xNSE (0 ≤ o ∧ o < facN (zCa z)) σ) := by
  obtain ⟨ve, av, h1, h2, h3, h4, h5, q1, q2, q3, q4, -⟩ := hX
  have hn := h4.1.1
  have g0 := q4.1
  obtain ⟨tF, hzF, hrF⟩ := st_FACTORIALS hΓ
  have hf := facN_pos (zCa z)
  refine Sp_of (L := [_, _]) hΓ (by decide +kernel) rfl (Nat.le_of_ble_eq_true rfl) rfl ?_
  refine g_iload_n q_X9_needOrder_0 rfl ?_
  refine g_if_lt (tgt := 19) q_X9_needOrder_1 (by decide) ho (fun e1 => ?_) (fun e1 => ?_)
  · refine g_throw th_NSE q_X9_needOrder_19.1 q_X9_needOrder_22.1 q_X9_needOrder_23.1 q_X9_needOrder_26.1 rfl (by decide) (Nat.le_of_ble_eq_true rfl) (by decide) (by decide) (fun z hz => ?_)
    exact ⟨rfl, by omega, z, hz, rfl⟩
  refine g_iload_n q_X9_needOrder_4 rfl ?_
  refine g_getst ls_X9_359 hzF q_X9_needOrder_5 ?_
  refine g_aload_n q_X9_needOrder_8 rfl ?_
  refine g_get fl_X9_19 q_X9_needOrder_9 (by repeat first | with_reducible assumption | with_reducible exact hput_s _ _ _ | refine (hput_n _ _ (by omega)).trans ?_ | exact hput_s _ _ _ | assumption) rfl ?_
  refine g_get fl_X9_113 q_X9_needOrder_12 (by repeat first | with_reducible assumption | with_reducible exact hput_s _ _ _ | refine (hput_n _ _ (by omega)).trans ?_ | exact hput_s _ _ _ | assumption) rfl ?_
  refine g_iaload_ro q_X9_needOrder_15 (by assumption) (by omega) (by omega) (by decide) ?_
  rw [Int.toNat_natCast, facN_eq]
  refine g_icmp_lt (tgt := 27) q_X9_needOrder_16 (by decide) ho ⟨by omega, by omega⟩ (fun e2 => ?_) (fun e2 => ?_)
  · refine g_return q_X9_needOrder_27.1 rfl ?_
    exact ⟨rfl, by omega, rfl⟩
  · refine g_throw th_NSE q_X9_needOrder_19.1 q_X9_needOrder_22.1 q_X9_needOrder_23.1 q_X9_needOrder_26.1 rfl (by decide) (Nat.le_of_ble_eq_true rfl) (by decide) (by decide) (fun z hz => ?_)
    exact ⟨rfl, by omega, z, hz, rfl⟩
def tuF (x a : Nat) : Prop := inb (x + 28) 4 a ∨ inb (x + 45) 5 a
theorem tuF_fX {x lo : Nat} {σ σ' : AH} (h : eqOff σ σ' (tuF x)) : eqG σ σ' (fX x lo) := ⟨by rw [h.1]; exact Nat.le_refl _, fun a _ hn => h.2 a (fun q => hn (Or.inl (by rcases q with q | q <;> (unfold inb at *; omega))))⟩
theorem CXh.uch {σ σ' : AH} {ve : Nat} {av : Int} (h : CXh σ x lo N R len tx fa z l wl wr ve av) (hE : eqOff σ σ' (tuF x)) (hs : SRo σ' (x + 28)) (hk : K8 σ' x z ve) : CXh σ' x lo N R len tx fa z l wl wr ve av := by
  obtain ⟨h1, h2, h3, h4, h5, q1, q2, q3, q4, q5, q6, q7, q8, ⟨TA, q9⟩, q10, q11, q12⟩ := h
  have hlo := h1.1
  have hlo2 := h1.2.1
  have e : ∀ a, ¬ inb (x + 28) 4 a → ¬ inb (x + 45) 5 a → σ'.2 a = σ.2 a := fun a i1 i2 => hE.2 a (by rintro (h | h) <;> contradiction)
  exact ⟨⟨h1.1, by rw [hE.1]; exact h1.2.1, h1.2.2⟩, h2, h3, h4, h5, q1, (e _ (by unfold inb; omega) (by unfold inb; omega)).trans q2, q3.kp (fun a i => e a (by unfold inb at i ⊢; omega) (by unfold inb at i ⊢; omega)), q4.keep (fun a i => e a (by unfold inb at i ⊢; omega) (by unfold inb at i ⊢; omega)), q5.kp (fun a i => e a (by unfold inb at i ⊢; omega) (by unfold inb at i ⊢; omega)), q6.keep (fun a i => e a (by unfold inb at i ⊢; omega) (by unfold inb at i ⊢; omega)), hs, q8.kp (fun a i => e a (by unfold inb at i ⊢; omega) (by unfold inb at i ⊢; omega)), ⟨TA, q9.kp (by rw [hE.1]; exact Nat.le_refl _) (fun a ha i => e a (by unfold inb at i ⊢; omega) (by unfold inb at i ⊢; omega)) (by omega)⟩, hk, q11.kp (fun a i => e a (by unfold inb at i ⊢; omega) (by unfold inb at i ⊢; omega)), (e _ (by unfold inb; omega) (by unfold inb; omega)).trans q12⟩
/-- the ways by turns, as they lie -/
def TWo (σ : AH) (x : Nat) (z : PS) (o : Nat) : Prop := ∃ ct cs cl co P C, σ.2 (x + 45 + 1) = some (wyo (x + 45 + 1) (zCa z) ct cs cl co) ∧ σ.2 (x + 45 + 1 + 1) = some (ai 205 P) ∧ σ.2 (x + 45 + 1 + 2) = some (ai 5 C) ∧ okP P ∧ okC C ∧ tuV z o (zCa z) P C
/-- what was found best before stays as it lies -/
def TBo (σ σ' : AH) (x : Nat) : Prop := ∀ tv tn bv bn bs, σ.2 (x + 45) = some (tuo (x + 45) tv tn bv bn bs) → ∃ tv' tn', σ'.2 (x + 45) = some (tuo (x + 45) tv' tn' bv bn bs)
theorem sp_waysByTurns (hΓ : Gd Γ) (hX : CX σ x lo N R len tx fa z l wl wr) (o : Nat) (ho : o < facN (zCa z)) : Sp Γ miX9_waysByTurns 0 0 [.ref x, .int (ii o)] σ (fun v σ' => v = some (.ref (x + 45 + 1)) ∧ CX σ' x lo N R len tx fa z l wl wr ∧ eqOff σ σ' (tuF x) ∧ TWo σ' x z o ∧ TBo σ σ' x) noX := by
  have hX' := hX
  obtain ⟨ve, av, hh⟩ := hX'
  have hh' := hh
  obtain ⟨h1, h2, h3, h4, h5, q1, q2, q3, q4, q5, q6, q7, q8, -, q10, -⟩ := hh'
  have hn := h4.1.1
  have g0 := q4.1
  have hf := facN_pos (zCa z)
  obtain ⟨tv, tn, bv, bn, bs, n, P, C, OR, u0, u1, u2, p1, p2, p3, p4, p5, p6, p7, p8⟩ := q10
  have newW : G Γ miX9_waysByTurns cX9_waysByTurns (fun v σ' => v = some (.ref (x + 45 + 1)) ∧ CX σ' x lo N R len tx fa z l wl wr ∧ eqOff σ σ' (tuF x) ∧ TWo σ' x z o ∧ TBo σ σ' x) noX 0 0 25 [some (.ref x), some (.int (ii o))] [] σ := by
    refine g_aload_n q_X9_waysByTurns_25 rfl ?_
    refine g_get fl_X9_65 q_X9_waysByTurns_26 (by repeat first | with_reducible assumption | with_reducible exact hput_s _ _ _ | refine (hput_n _ _ (by omega)).trans ?_ | exact hput_s _ _ _ | assumption) rfl ?_
    refine g_iload_n q_X9_waysByTurns_29 rfl ?_
    refine g_aload_n q_X9_waysByTurns_30 rfl ?_
    refine g_get fl_X9_19 q_X9_waysByTurns_31 (by repeat first | with_reducible assumption | with_reducible exact hput_s _ _ _ | refine (hput_n _ _ (by omega)).trans ?_ | exact hput_s _ _ _ | assumption) rfl ?_
    refine g_get fl_X9_113 q_X9_waysByTurns_34 (by repeat first | with_reducible assumption | with_reducible exact hput_s _ _ _ | refine (hput_n _ _ (by omega)).trans ?_ | exact hput_s _ _ _ | assumption) rfl ?_
    refine g_callVN (rc' := 0) (rs' := 0) (As := [_, _]) cs_X9_364 q_X9_waysByTurns_37 (sp_takeOrder hΓ u0 u2 o (zCa z) (by omega) hn.2.2) rfl (by repeat first | with_reducible assumption | with_reducible exact hput_s _ _ _ | refine (hput_n _ _ (by omega)).trans ?_ | exact hput_s _ _ _ | assumption) rfl rfl rfl rfl (Nat.le_of_ble_eq_true rfl) (by decide) (by decide) (by decide) (fun _ _ h => h.elim) (fun v σ1 hq => ?_)
    obtain ⟨rfl, OR', hσ1, hO⟩ := hq
    have v0 : σ1.2 (x + 45) = some (tuo (x + 45) tv tn bv bn bs) := by rw [hσ1]; exact (by repeat first | with_reducible assumption | with_reducible exact hput_s _ _ _ | refine (hput_n _ _ (by omega)).trans ?_ | exact hput_s _ _ _ | assumption)
    have v2 : σ1.2 (x + 45 + 4) = some (ai 5 OR') := by rw [hσ1]; exact (by repeat first | with_reducible assumption | with_reducible exact hput_s _ _ _ | refine (hput_n _ _ (by omega)).trans ?_ | exact hput_s _ _ _ | assumption)
    have hE1 : eqOff σ σ1 (tuF x) := by rw [hσ1]; exact eqOff.rfl'.put (Or.inr ⟨by omega, by omega⟩) _
    have e1 : ∀ a, a ≠ x + 45 + 4 → σ1.2 a = σ.2 a := fun a ha => by rw [hσ1]; exact hput_n _ _ ha
    clear hσ1
    have kx := (e1 x (by omega)).trans q2
    have v1 := u1.keep (σ' := σ1) (fun a i => e1 a (by unfold inb at i; omega))
    have vs := q7.keep (σ' := σ1) (fun a i => e1 a (by unfold inb at i; omega))
    have vg := q4.keep (σ' := σ1) (fun a i => e1 a (by unfold inb at i; omega))
    have vg0 := vg.1
    refine g_aload_n q_X9_waysByTurns_40 rfl ?_
    refine g_get fl_X9_65 q_X9_waysByTurns_41 (by repeat first | with_reducible assumption | with_reducible exact hput_s _ _ _ | refine (hput_n _ _ (by omega)).trans ?_ | exact hput_s _ _ _ | assumption) rfl ?_
    refine g_aload_n q_X9_waysByTurns_44 rfl ?_
    refine g_get fl_X9_19 q_X9_waysByTurns_45 (by repeat first | with_reducible assumption | with_reducible exact hput_s _ _ _ | refine (hput_n _ _ (by omega)).trans ?_ | exact hput_s _ _ _ | assumption) rfl ?_
    refine g_aload_n q_X9_waysByTurns_48 rfl ?_
    refine g_get fl_X9_36 q_X9_waysByTurns_49 (by repeat first | with_reducible assumption | with_reducible exact hput_s _ _ _ | refine (hput_n _ _ (by omega)).trans ?_ | exact hput_s _ _ _ | assumption) rfl ?_
    refine g_callVN (rc' := 0) (rs' := 0) (As := [_, _]) cs_X9_367 q_X9_waysByTurns_52 (sp_goInOrder (OR := ordC (zCa z) o) hΓ (okL_z h4.1) v0 v2 (fun k hk => ⟨hO k hk, ord_lt hn.2.2 ho hk⟩) (fun i j hi hj h => ord_inj hn.2.2 ho hi hj h) vs vg.g v1 (Or.inr (by omega)) (Or.inr (by omega)) (Or.inr (by omega)) hn.2.2 h4.1.2.2.1 h4.1.2.2.2.1 p1 p2) rfl (by repeat first | with_reducible assumption | with_reducible exact hput_s _ _ _ | refine (hput_n _ _ (by omega)).trans ?_ | exact hput_s _ _ _ | assumption) rfl rfl rfl rfl (Nat.le_of_ble_eq_true rfl) (by decide) (by decide) (by decide) (fun _ _ h => h.elim) (fun v σ2 hq => ?_)
    obtain ⟨rfl, m1, m2, P', C', m3, m4, m5, m6, m7⟩ := hq
    have kx2 := (m2.2 x (by unfold inb; omega)).trans kx
    have y0 := (m2.2 (x + 45) (by unfold inb; omega)).trans v0
    have y2 := (m2.2 (x + 45 + 4) (by unfold inb; omega)).trans v2
    have hE2 : eqOff σ σ2 (tuF x) := hE1.trans m2 (fun a i => by rcases i with i | i; · exact Or.inr (by unfold inb at *; omega); · exact Or.inl i)
    refine g_aload_n q_X9_waysByTurns_55 rfl ?_
    refine g_get fl_X9_65 q_X9_waysByTurns_56 (by repeat first | with_reducible assumption | with_reducible exact hput_s _ _ _ | refine (hput_n _ _ (by omega)).trans ?_ | exact hput_s _ _ _ | assumption) rfl ?_
    refine g_aload_n q_X9_waysByTurns_59 rfl ?_
    refine g_get fl_X9_83 q_X9_waysByTurns_60 (by repeat first | with_reducible assumption | with_reducible exact hput_s _ _ _ | refine (hput_n _ _ (by omega)).trans ?_ | exact hput_s _ _ _ | assumption) rfl ?_
    refine g_put fp_X9_362 q_X9_waysByTurns_63 (by repeat first | with_reducible assumption | with_reducible exact hput_s _ _ _ | refine (hput_n _ _ (by omega)).trans ?_ | exact hput_s _ _ _ | assumption) rfl rfl ?_
    refine g_aload_n q_X9_waysByTurns_66 rfl ?_
    refine g_get fl_X9_65 q_X9_waysByTurns_67 (by repeat first | with_reducible assumption | with_reducible exact hput_s _ _ _ | refine (hput_n _ _ (by omega)).trans ?_ | exact hput_s _ _ _ | assumption) rfl ?_
    refine g_iload_n q_X9_waysByTurns_70 rfl ?_
    refine g_put fp_X9_363 q_X9_waysByTurns_71 (by repeat first | with_reducible assumption | with_reducible exact hput_s _ _ _ | refine (hput_n _ _ (by omega)).trans ?_ | exact hput_s _ _ _ | assumption) rfl rfl ?_
    refine g_aload_n q_X9_waysByTurns_74 rfl ?_
    refine g_get fl_X9_65 q_X9_waysByTurns_75 (by repeat first | with_reducible assumption | with_reducible exact hput_s _ _ _ | refine (hput_n _ _ (by omega)).trans ?_ | exact hput_s _ _ _ | assumption) rfl ?_
    refine g_get fl_X9_370 q_X9_waysByTurns_78 (by repeat first | with_reducible assumption | with_reducible exact hput_s _ _ _ | refine (hput_n _ _ (by omega)).trans ?_ | exact hput_s _ _ _ | assumption) rfl ?_
    refine g_areturn q_X9_waysByTurns_81.1 rfl (Or.inl ⟨_, rfl⟩) (Or.inr ⟨_, rfl⟩) ?_
    obtain ⟨σ3, hσ3⟩ : ∃ τ, τ = hput (hput σ2 (x + 45) (tuo (x + 45) ve tn bv bn bs)) (x + 45) (tuo (x + 45) ve o bv bn bs) := ⟨_, rfl⟩
    show _ ∧ CX (hput (hput σ2 (x + 45) (tuo (x + 45) ve tn bv bn bs)) (x + 45) (tuo (x + 45) ve o bv bn bs)) x lo N R len tx fa z l wl wr ∧ eqOff σ (hput (hput σ2 (x + 45) (tuo (x + 45) ve tn bv bn bs)) (x + 45) (tuo (x + 45) ve o bv bn bs)) (tuF x) ∧ TWo (hput (hput σ2 (x + 45) (tuo (x + 45) ve tn bv bn bs)) (x + 45) (tuo (x + 45) ve o bv bn bs)) x z o ∧ TBo σ (hput (hput σ2 (x + 45) (tuo (x + 45) ve tn bv bn bs)) (x + 45) (tuo (x + 45) ve o bv bn bs)) x
    rw [← hσ3]
    have z0 : σ3.2 (x + 45) = some (tuo (x + 45) ve o bv bn bs) := by rw [hσ3]; exact hput_s _ _ _
    have e3 : ∀ a, a ≠ x + 45 → σ3.2 a = σ2.2 a := fun a ha => by rw [hσ3]; exact (hput_n _ _ ha).trans (hput_n _ _ ha)
    have hE3 : eqOff σ σ3 (tuF x) := by rw [hσ3]; exact (hE2.put (Or.inr ⟨by omega, by omega⟩) _).put (Or.inr ⟨by omega, by omega⟩) _
    clear hσ3
    have z1 := m3.keep (σ' := σ3) (fun a i => e3 a (by unfold inb at i; omega))
    have hV : tuV z o (zCa z) P' C' := ⟨rfl, m6, m7⟩
    refine ⟨rfl, ⟨ve, av, hh.uch hE3 (m1.keep (fun a i => e3 a (by unfold inb at i; omega))) ⟨ve, o, bv, bn, bs, zCa z, P', C', OR', z0, z1, (e3 _ (by omega)).trans y2, m4, m5, hn.2.2, ⟨by omega, by omega⟩, p5, ⟨⟨by omega, by omega⟩, p6.2⟩, fun _ => ⟨by omega, by rw [Int.toNat_natCast]; exact hV⟩, p8⟩⟩, hE3, ?_, ?_⟩
    · obtain ⟨⟨ct, cs, cl, co, w0⟩, w1, w2⟩ := z1
      exact ⟨ct, cs, cl, co, P', C', w0, w1, w2, m4, m5, hV⟩
    · intro tv9 tn9 bv9 bn9 bs9 h9
      rw [u0] at h9
      have h9' := Option.some.inj h9
      have h8 : [Value.ref (x + 45 + 1), .ref (x + 45 + 4), .int (ii tv), .int (ii tn), .int (ii bv), .int (ii bn), .int (ii bs)] = [Value.ref (x + 45 + 1), .ref (x + 45 + 4), .int (ii tv9), .int (ii tn9), .int (ii bv9), .int (ii bn9), .int (ii bs9)] := by
        have := Sum.inl.inj h9'
        exact (Prod.mk.inj this).2
      simp only [List.cons.injEq, Value.int.injEq, true_and, and_true] at h8
      refine ⟨ve, o, ?_⟩
      rw [z0]
      show some (ob 7 [_, _, _, _, .int (ii bv), .int (ii bn), .int (ii bs)]) = some (ob 7 [_, _, _, _, .int (ii bv9), .int (ii bn9), .int (ii bs9)])
      rw [h8.2.2.1, h8.2.2.2.1, h8.2.2.2.2]
  refine Sp_of (L := [_, _]) hΓ (by decide +kernel) rfl (Nat.le_of_ble_eq_true rfl) rfl ?_
  refine g_aload_n q_X9_waysByTurns_0 rfl ?_
  refine g_get fl_X9_65 q_X9_waysByTurns_1 (by repeat first | with_reducible assumption | with_reducible exact hput_s _ _ _ | refine (hput_n _ _ (by omega)).trans ?_ | exact hput_s _ _ _ | assumption) rfl ?_
  refine g_get fl_X9_362 q_X9_waysByTurns_4 (by repeat first | with_reducible assumption | with_reducible exact hput_s _ _ _ | refine (hput_n _ _ (by omega)).trans ?_ | exact hput_s _ _ _ | assumption) rfl ?_
  refine g_aload_n q_X9_waysByTurns_7 rfl ?_
  refine g_get fl_X9_83 q_X9_waysByTurns_8 (by repeat first | with_reducible assumption | with_reducible exact hput_s _ _ _ | refine (hput_n _ _ (by omega)).trans ?_ | exact hput_s _ _ _ | assumption) rfl ?_
  refine g_icmp_ne (tgt := 25) q_X9_waysByTurns_11 (by decide) ⟨by omega, by omega⟩ ⟨by omega, by omega⟩ (fun b1 => ?_) (fun b1 => ?_)
  · exact newW
  refine g_aload_n q_X9_waysByTurns_14 rfl ?_
  refine g_get fl_X9_65 q_X9_waysByTurns_15 (by repeat first | with_reducible assumption | with_reducible exact hput_s _ _ _ | refine (hput_n _ _ (by omega)).trans ?_ | exact hput_s _ _ _ | assumption) rfl ?_
  refine g_get fl_X9_363 q_X9_waysByTurns_18 (by repeat first | with_reducible assumption | with_reducible exact hput_s _ _ _ | refine (hput_n _ _ (by omega)).trans ?_ | exact hput_s _ _ _ | assumption) rfl ?_
  refine g_iload_n q_X9_waysByTurns_21 rfl ?_
  refine g_icmp_eq (tgt := 74) q_X9_waysByTurns_22 (by decide) p6.1 ⟨by omega, by omega⟩ (fun b2 => ?_) (fun b2 => ?_)
  · refine g_aload_n q_X9_waysByTurns_74 rfl ?_
    refine g_get fl_X9_65 q_X9_waysByTurns_75 (by repeat first | with_reducible assumption | with_reducible exact hput_s _ _ _ | refine (hput_n _ _ (by omega)).trans ?_ | exact hput_s _ _ _ | assumption) rfl ?_
    refine g_get fl_X9_370 q_X9_waysByTurns_78 (by repeat first | with_reducible assumption | with_reducible exact hput_s _ _ _ | refine (hput_n _ _ (by omega)).trans ?_ | exact hput_s _ _ _ | assumption) rfl ?_
    refine g_areturn q_X9_waysByTurns_81.1 rfl (Or.inl ⟨_, rfl⟩) (Or.inr ⟨_, rfl⟩) ?_
    obtain ⟨w1, w2⟩ := p7 (by omega)
    have eo : tn.toNat = o := by omega
    rw [eo] at w2
    have w2' := w2
    obtain ⟨rfl, -⟩ := w2'
    obtain ⟨⟨ct, cs, cl, co, k0⟩, k1, k2⟩ := u1
    exact ⟨rfl, hX, eqOff.rfl', ⟨ct, cs, cl, co, P, C, k0, k1, k2, p1, p2, w2⟩, fun a b c d e h => ⟨_, _, h⟩⟩
  · exact newW
end X9N

