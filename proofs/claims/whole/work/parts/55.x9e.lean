/-! bits of the grid; CartPaths: ways alone -/
theorem bt1_b {k c : Nat} (hk : k < 64) : (bt1 k).getLsbD c = decide (c = k) := by
  unfold bt1
  rw [BitVec.getLsbD_shiftLeft, BitVec.getLsbD_one]
  by_cases h : c = k
  · subst h; simp [hk]
  · simp only [h, decide_false]
    by_cases h2 : c < k
    · simp [h2]
    · have : c - k ≠ 0 := by omega
      simp [this]
theorem lvX_b {SO : Nat → Int} {cols rows m y : Nat} {acc : BitVec 64} (hy : y < 6) (c : Nat) : ∀ n, n ≤ 6 → (lvX SO cols rows m y acc n).getLsbD c = (acc.getLsbD c || (decide (c / 6 = y ∧ c % 6 < n) && ltb SO cols rows (c % 6) y m))
  | 0, _ => by
    show acc.getLsbD c = _
    simp
  | n + 1, hn => by
    have ih := lvX_b (SO := SO) (cols := cols) (rows := rows) (m := m) (acc := acc) hy c n (by omega)
    unfold lvX
    by_cases hl : ltb SO cols rows n y m = true
    · rw [if_pos hl, BitVec.getLsbD_or, bt1_b (by omega), ih]
      by_cases e : c = 6 * y + n
      · have e1 : c / 6 = y := by omega
        have e2 : c % 6 = n := by omega
        rw [decide_eq_true e, decide_eq_true (p := c / 6 = y ∧ c % 6 < n + 1) ⟨e1, by omega⟩, e2, hl]
        simp
      · rw [decide_eq_false e]
        by_cases h2 : c / 6 = y ∧ c % 6 < n
        · rw [decide_eq_true h2, decide_eq_true (p := c / 6 = y ∧ c % 6 < n + 1) ⟨h2.1, by omega⟩]
          simp
        · rw [decide_eq_false h2, decide_eq_false (p := c / 6 = y ∧ c % 6 < n + 1) (fun q => h2 ⟨q.1, by omega⟩)]
          simp
    · rw [if_neg hl, ih]
      by_cases h2 : c / 6 = y ∧ c % 6 < n
      · rw [decide_eq_true h2, decide_eq_true (p := c / 6 = y ∧ c % 6 < n + 1) ⟨h2.1, by omega⟩]
      · rw [decide_eq_false h2]
        by_cases h3 : c / 6 = y ∧ c % 6 < n + 1
        · have e2 : c % 6 = n := by omega
          rw [e2, Bool.eq_false_iff.mpr hl]
          simp
        · rw [decide_eq_false h3]
theorem lvY_b {SO : Nat → Int} {cols rows m : Nat} (hc : cols ≤ 6) (c : Nat) : ∀ y, y ≤ 6 → (lvY SO cols rows m y).getLsbD c = (decide (c / 6 < y ∧ c % 6 < cols) && ltb SO cols rows (c % 6) (c / 6) m)
  | 0, _ => by
    show (0 : BitVec 64).getLsbD c = _
    simp
  | y + 1, hy => by
    unfold lvY
    rw [lvX_b (by omega) c cols hc, lvY_b hc c y (by omega)]
    by_cases e : c / 6 = y
    · rw [decide_eq_false (p := c / 6 < y ∧ c % 6 < cols) (by omega), e]
      by_cases h3 : c % 6 < cols
      · rw [decide_eq_true (p := y = y ∧ c % 6 < cols) ⟨rfl, h3⟩, decide_eq_true (p := y < y + 1 ∧ c % 6 < cols) ⟨by omega, h3⟩]
        simp
      · rw [decide_eq_false (p := y = y ∧ c % 6 < cols) (fun q => h3 q.2), decide_eq_false (p := y < y + 1 ∧ c % 6 < cols) (fun q => h3 q.2)]
        simp
    · rw [decide_eq_false (p := c / 6 = y ∧ c % 6 < cols) (fun q => e q.1)]
      by_cases h3 : c / 6 < y ∧ c % 6 < cols
      · rw [decide_eq_true h3, decide_eq_true (p := c / 6 < y + 1 ∧ c % 6 < cols) ⟨by omega, h3.2⟩]
        simp
      · rw [decide_eq_false h3, decide_eq_false (p := c / 6 < y + 1 ∧ c % 6 < cols) (by omega)]
        simp
theorem lvF_b {SO : Nat → Int} {cols rows m : Nat} (hc : cols ≤ 6) (hr : rows ≤ 6) (c : Nat) : (lvF SO cols rows m).getLsbD c = (decide (c / 6 < rows ∧ c % 6 < cols) && ltb SO cols rows (c % 6) (c / 6) m) := lvY_b hc c rows hr
theorem t_ahd_eq : ∀ m, m < 4 → t_ahd m = 6 * t_dwn m + t_acr m := by decide
theorem okL_lvF {SO : Nat → Int} {cols rows : Nat} (hc : cols ≤ 6) (hr : rows ≤ 6) : okL (lvF SO cols rows) := by
  intro m c hm hc36 h
  rw [lvF_b hc hr c] at h
  simp only [Bool.and_eq_true] at h
  obtain ⟨h1, h2⟩ := h
  have h1' := of_decide_eq_true h1
  unfold ltb at h2
  simp only [Bool.and_eq_true] at h2
  have h3 := of_decide_eq_true h2.2.1
  rw [t_ahd_eq m hm]
  omega
theorem okL_z {z : PS} (h : gZ z) : okL (lvZ z) := okL_lvF h.1.1 h.1.2.1
theorem sumN_pos {f : Nat → Int} : ∀ {n : Nat}, (∀ k, k < n → 0 ≤ f k) → ∀ k, k < n → 0 < f k → 0 < sumN f n
  | 0, _, k, hk, _ => absurd hk (Nat.not_lt_zero k)
  | n + 1, h, k, hk, hp => by
    rw [sumN]
    by_cases e : k = n
    · have h0 := sumN_rg (C := f) (a := 0) (b := 1000000) (n := 0) (fun k hk => absurd hk (Nat.not_lt_zero k))
      have h1 : 0 ≤ sumN f n := by
        clear hp
        have : ∀ m, m ≤ n → 0 ≤ sumN f m := by
          intro m
          induction m with
          | zero => intro _; exact Int.le_refl 0
          | succ m ih => intro hm; rw [sumN]; have := ih (by omega); have := h m (by omega); omega
        exact this n (Nat.le_refl n)
      rw [e] at hp
      omega
    · have := sumN_pos (n := n) (fun k hk => h k (by omega)) k (by omega) hp
      have := h n (by omega)
      omega
theorem sumN_nn {f : Nat → Int} {n : Nat} (h : ∀ k, k < n → 0 ≤ f k) : 0 ≤ sumN f n := by
  induction n with
  | zero => exact Int.le_refl 0
  | succ m ih => rw [sumN]; have := ih (fun k hk => h k (by omega)); have := h m (by omega); omega
theorem ccN_pos {P : Nat → Int} {n last t a b : Nat} {s : Int} (ht : t < last) (h : fsC P n t s a b) : 0 < ccN P n last := by
  obtain ⟨h1, ⟨hab, hbn, hs, -⟩, -⟩ := h
  rw [ccN_eq]
  refine sumN_pos (fun a _ => sumN_nn (fun j _ => (cntN_rg _ _).1)) a (by omega) ?_
  unfold ccA
  refine sumN_pos (fun j _ => (cntN_rg _ _).1) (b - a - 1) (by omega) ?_
  unfold ccB cntN
  refine sumN_pos (fun t _ => (bi_le _).1) t ht ?_
  have e : a + 1 + (b - a - 1) = b := by omega
  rw [e]
  show 0 < bi (decide (soc P a b t ≠ -1))
  rw [decide_eq_true (by rw [hs]; rcases h1 with h1 | h1 <;> omega)]
  decide
section X9E
variable {Γ : GT} {σ : AH} {x lo N : Nat} {R : Nat → Nat} {len : Nat} {tx : Nat → Int} {fa : Int} {z : PS} {l : List (Int × Int × Int)} {wl : Nat} {wr : Nat → Int}
/-- the ways alone, as they lie -/
def AWo (σ : AH) (x : Nat) (z : PS) : Prop := ∃ ct cs cl co P C, σ.2 (x + 32) = some (wyo (x + 32) (zCa z) ct cs cl co) ∧ σ.2 (x + 32 + 1) = some (ai 205 P) ∧ σ.2 (x + 32 + 2) = some (ai 5 C) ∧ okP P ∧ okC C ∧ alV z (zCa z) P C
def awF (x a : Nat) : Prop := a = x ∨ inb (x + 28) 7 a
theorem awF_fX {x lo : Nat} {σ σ' : AH} (h : eqOff σ σ' (awF x)) : eqG σ σ' (fX x lo) := ⟨by rw [h.1]; exact Nat.le_refl _, fun a _ hn => h.2 a (fun q => hn (Or.inl (by rcases q with q | q <;> (unfold inb at *; omega))))⟩
theorem CXh.awch {σ σ' : AH} {ve : Nat} {av av' : Int} (h : CXh σ x lo N R len tx fa z l wl wr ve av) (hE : eqOff σ σ' (awF x)) (hx : σ'.2 x = some (cpo x av' wl ve)) (ha : -1 ≤ av' ∧ av' ≤ ve) (hs : SRo σ' (x + 28)) (hk : K6 σ' x z ve av') : CXh σ' x lo N R len tx fa z l wl wr ve av' := by
  obtain ⟨h1, h2, h3, h4, h5, q1, q2, q3, q4, q5, q6, q7, q8, ⟨TA, q9⟩, q10, q11, q12⟩ := h
  have e : ∀ a, a ≠ x → ¬ inb (x + 28) 7 a → σ'.2 a = σ.2 a := fun a i1 i2 => hE.2 a (by rintro (h | h) <;> contradiction)
  have hlo := h1.1
  have hlo2 := h1.2.1
  exact ⟨⟨h1.1, by rw [hE.1]; exact h1.2.1, h1.2.2⟩, h2, h3, h4, h5, ⟨q1.1, ha⟩, hx, q3.kp (fun a i => e a (by unfold inb at i; omega) (by unfold inb at i ⊢; omega)), q4.keep (fun a i => e a (by unfold inb at i; omega) (by unfold inb at i ⊢; omega)), q5.kp (fun a i => e a (by unfold inb at i; omega) (by unfold inb at i ⊢; omega)), q6.keep (fun a i => e a (by unfold inb at i; omega) (by unfold inb at i ⊢; omega)), hs, hk, ⟨TA, q9.kp (by rw [hE.1]; exact Nat.le_refl _) (fun a ha i => e a (by unfold inb at i; omega) (by unfold inb at i ⊢; omega)) (by omega)⟩, q10.kp (fun a i => e a (by unfold inb at i; omega) (by unfold inb at i ⊢; omega)), q11.kp (fun a i => e a (by unfold inb at i; omega) (by unfold inb at i ⊢; omega)), (e _ (by omega) (by unfold inb; omega)).trans q12⟩
theorem sp_waysAlone (hΓ : Gd Γ) (hX : CX σ x lo N R len tx fa z l wl wr) : Sp Γ miX9_waysAlone 0 0 [.ref x] σ (fun v σ' => v = some (.ref (x + 32)) ∧ CX σ' x lo N R len tx fa z l wl wr ∧ eqOff σ σ' (awF x) ∧ AWo σ' x z) noX := by
  have hX' := hX
  obtain ⟨ve, av, hh⟩ := hX'
  have hh' := hh
  obtain ⟨h1, h2, h3, h4, h5, q1, q2, q3, q4, q5, q6, q7, q8, -⟩ := hh'
  have hn := h4.1.1
  obtain ⟨n, P, C, w1, o1, o2, hn5, w5⟩ := q8
  refine Sp_of (L := [_]) hΓ (by decide +kernel) rfl (Nat.le_of_ble_eq_true rfl) rfl ?_
  refine g_aload_n q_X9_waysAlone_0 rfl ?_
  refine g_get fl_X9_47 q_X9_waysAlone_1 (by repeat first | with_reducible assumption | with_reducible exact hput_s _ _ _ | refine (hput_n _ _ (by omega)).trans ?_ | exact hput_s _ _ _ | assumption) rfl ?_
  refine g_aload_n q_X9_waysAlone_4 rfl ?_
  refine g_get fl_X9_83 q_X9_waysAlone_5 (by repeat first | with_reducible assumption | with_reducible exact hput_s _ _ _ | refine (hput_n _ _ (by omega)).trans ?_ | exact hput_s _ _ _ | assumption) rfl ?_
  refine g_icmp_eq (tgt := 34) q_X9_waysAlone_8 (by decide) ⟨by omega, by omega⟩ ⟨by omega, by omega⟩ (fun e1 => ?_) (fun e1 => ?_)
  · refine g_aload_n q_X9_waysAlone_34 rfl ?_
    refine g_get fl_X9_43 q_X9_waysAlone_35 (by repeat first | with_reducible assumption | with_reducible exact hput_s _ _ _ | refine (hput_n _ _ (by omega)).trans ?_ | exact hput_s _ _ _ | assumption) rfl ?_
    refine g_areturn q_X9_waysAlone_38.1 rfl (Or.inl ⟨_, rfl⟩) (Or.inr ⟨_, rfl⟩) ?_
    obtain ⟨eN, w6⟩ := w5 e1
    subst eN
    obtain ⟨⟨ct, cs, cl, co, w0⟩, w1, w2⟩ := w1
    exact ⟨rfl, hX, eqOff.rfl', ct, cs, cl, co, P, C, w0, w1, w2, o1, o2, rfl, w6⟩
  · have w0 := w1.1
    obtain ⟨ct, cs, cl, co, w0⟩ := w0
    refine g_aload_n q_X9_waysAlone_11 rfl ?_
    refine g_get fl_X9_43 q_X9_waysAlone_12 (by repeat first | with_reducible assumption | with_reducible exact hput_s _ _ _ | refine (hput_n _ _ (by omega)).trans ?_ | exact hput_s _ _ _ | assumption) rfl ?_
    refine g_aload_n q_X9_waysAlone_15 rfl ?_
    refine g_get fl_X9_19 q_X9_waysAlone_16 (by repeat first | with_reducible assumption | with_reducible exact hput_s _ _ _ | refine (hput_n _ _ (by omega)).trans ?_ | exact hput_s _ _ _ | assumption) rfl ?_
    refine g_aload_n q_X9_waysAlone_19 rfl ?_
    refine g_get fl_X9_36 q_X9_waysAlone_20 (by repeat first | with_reducible assumption | with_reducible exact hput_s _ _ _ | refine (hput_n _ _ (by omega)).trans ?_ | exact hput_s _ _ _ | assumption) rfl ?_
    refine g_callVN (rc' := 0) (rs' := 0) (As := [_, _]) cs_X9_179 q_X9_waysAlone_23 (sp_goAlone hΓ (okL_z h4.1) q7 q4.g w1 (Or.inr (by omega)) (Or.inr (by omega)) (Or.inr (by omega)) hn.2.2 h4.1.2.2.1 h4.1.2.2.2.1 o1 o2) rfl (by repeat first | with_reducible assumption | with_reducible exact hput_s _ _ _ | refine (hput_n _ _ (by omega)).trans ?_ | exact hput_s _ _ _ | assumption) rfl rfl rfl rfl (Nat.le_of_ble_eq_true rfl) (by decide) (by decide) (by decide) (fun _ _ h => h.elim) (fun v σ1 hq => ?_)
    obtain ⟨rfl, m1, m2, P', C', m3, m4, m5, m6⟩ := hq
    have kx : σ1.2 x = some (cpo x av wl ve) := (m2.2 x (by unfold inb; omega)).trans q2
    have hE : eqOff σ σ1 (awF x) := eqOff.rfl'.trans m2 (fun a i => Or.inr (by rcases i with i | i <;> (unfold inb at *; omega)))
    refine g_aload_n q_X9_waysAlone_26 rfl ?_
    refine g_aload_n q_X9_waysAlone_27 rfl ?_
    refine g_get fl_X9_83 q_X9_waysAlone_28 (by repeat first | with_reducible assumption | with_reducible exact hput_s _ _ _ | refine (hput_n _ _ (by omega)).trans ?_ | exact hput_s _ _ _ | assumption) rfl ?_
    refine g_put fp_X9_47 q_X9_waysAlone_31 (by repeat first | with_reducible assumption | with_reducible exact hput_s _ _ _ | refine (hput_n _ _ (by omega)).trans ?_ | exact hput_s _ _ _ | assumption) rfl rfl ?_
    refine g_aload_n q_X9_waysAlone_34 rfl ?_
    refine g_get fl_X9_43 q_X9_waysAlone_35 (by repeat first | with_reducible assumption | with_reducible exact hput_s _ _ _ | refine (hput_n _ _ (by omega)).trans ?_ | exact hput_s _ _ _ | assumption) rfl ?_
    refine g_areturn q_X9_waysAlone_38.1 rfl (Or.inl ⟨_, rfl⟩) (Or.inr ⟨_, rfl⟩) ?_
    have hE2 := hE.put (a := x) (Or.inl rfl) (cpo x ve wl ve)
    have m3' := m3.keep (σ' := hput σ1 x (cpo x ve wl ve)) (fun a i => hput_n _ _ (by unfold inb at i; omega))
    have m1' := m1.keep (σ' := hput σ1 x (cpo x ve wl ve)) (fun a i => hput_n _ _ (by unfold inb at i; omega))
    refine ⟨rfl, ⟨ve, ve, hh.awch hE2 (hput_s _ _ _) ⟨by omega, by omega⟩ m1' ⟨zCa z, P', C', m3', m4, m5, hn.2.2, fun _ => ⟨rfl, m6⟩⟩⟩, hE2, ?_⟩
    obtain ⟨⟨ct, cs, cl, co, w0⟩, w1, w2⟩ := m3'
    exact ⟨ct, cs, cl, co, P', C', w0, w1, w2, m4, m5, rfl, m6⟩
def alcZ (z : PS) (c : Nat) : Int := alc (lvZ z) (zPL z) (zGO z) c
def alPZ (z : PS) : Nat → Int := alP (lvZ z) (zPL z) (zGO z)
theorem sp_cost (hΓ : Gd Γ) (hN : N < 1000) (hX : CX σ x lo N R len tx fa z l wl wr) (c : Int) (hc : rg c) : Sp Γ miX9_cost 8 48 [.ref x, .int (ii c)] σ (oQ (e1C z c) (alcZ z c.toNat) (SX σ x lo (N + 1) R len tx fa z l wl wr)) (oX [xIOB] (e1C z c) (SX σ x lo (N + 1) R len tx fa z l wl wr)) := by
  have hX' := hX
  obtain ⟨ve, av, h1, h2, h3, h4, h5, q1, q2, -⟩ := hX'
  have hn := h4.1.1
  refine Sp_of (L := [_, _]) hΓ (by decide +kernel) rfl (Nat.le_of_ble_eq_true rfl) rfl ?_
  refine g_aload_n q_X9_cost_0 rfl ?_
  refine g_iload_n q_X9_cost_1 rfl ?_
  refine g_callV (rc' := 7) (rs' := 42) (As := [_]) cs_X9_133 q_X9_cost_2 (sp_needCart hΓ hX c hc) rfl (by repeat first | with_reducible assumption | with_reducible exact hput_s _ _ _ | refine (hput_n _ _ (by omega)).trans ?_ | exact hput_s _ _ _ | assumption) rfl rfl rfl rfl (Nat.le_of_ble_eq_true rfl) (by decide) (by decide) (by decide) (fun E σ' h => ⟨by rw [e1C_1 h.2.1]; decide, by rw [e1C_1 h.2.1, h.1]; rfl, SX.gr hX hN h.2.2⟩) (fun v σ' hq => ?_)
  obtain ⟨rfl, e1, hσ⟩ := hq
  rw [hσ]
  clear hσ
  refine g_aload_n q_X9_cost_5 rfl ?_
  refine g_callV (rc' := 7) (rs' := 42) (As := []) cs_X9_183 q_X9_cost_6 (sp_waysAlone hΓ hX) rfl (by repeat first | with_reducible assumption | with_reducible exact hput_s _ _ _ | refine (hput_n _ _ (by omega)).trans ?_ | exact hput_s _ _ _ | assumption) rfl rfl rfl rfl (Nat.le_of_ble_eq_true rfl) (by decide) (by decide) (by decide) (fun _ _ h => h.elim) (fun v σ1 hq => ?_)
  obtain ⟨rfl, m1, m2, ct, cs, cl, co, P, C, w0, w1, w2, o1, o2, -, o3⟩ := hq
  refine g_get fl_X9_187 q_X9_cost_9 (by repeat first | with_reducible assumption | with_reducible exact hput_s _ _ _ | refine (hput_n _ _ (by omega)).trans ?_ | exact hput_s _ _ _ | assumption) rfl ?_
  refine g_iload_n q_X9_cost_12 rfl ?_
  refine g_iaload q_X9_cost_13 (by repeat first | with_reducible assumption | with_reducible exact hput_s _ _ _ | refine (hput_n _ _ (by omega)).trans ?_ | exact hput_s _ _ _ | assumption) (by omega) (by omega) ?_
  refine g_ireturn q_X9_cost_14.1 rfl ?_
  refine ⟨e1C_0 e1, ?_, SX.tr (awF_fX m2) (SX.of m1 hN)⟩
  rw [show alcZ z c.toNat = C c.toNat from (o3 c.toNat (by omega)).1.symm]
def eAlone (z : PS) (c t : Int) : Nat := if ¬ (0 ≤ c ∧ c < zCa z) then 1 else if ¬ (0 ≤ t ∧ t ≤ 40) then 2 else 0
theorem sp_alone (hΓ : Gd Γ) (hN : N < 1000) (hX : CX σ x lo N R len tx fa z l wl wr) (c t : Int) (hc : rg c) (ht : rg t) : Sp Γ miX9_alone 8 48 [.ref x, .int (ii c), .int (ii t)] σ (oQ (eAlone z c t) (if alcZ z c.toNat = -1 then -1 else alPZ z (41 * c + t).toNat) (SX σ x lo (N + 1) R len tx fa z l wl wr)) (oX [xIOB, xIAE] (eAlone z c t) (SX σ x lo (N + 1) R len tx fa z l wl wr)) := by
  have hX' := hX
  obtain ⟨ve, av, h1, h2, h3, h4, h5, q1, q2, -⟩ := hX'
  have hn := h4.1.1
  refine Sp_of (L := [_, _, _, _]) hΓ (by decide +kernel) rfl (Nat.le_of_ble_eq_true rfl) rfl ?_
  refine g_aload_n q_X9_alone_0 rfl ?_
  refine g_iload_n q_X9_alone_1 rfl ?_
  refine g_callV (rc' := 7) (rs' := 42) (As := [_]) cs_X9_133 q_X9_alone_2 (sp_needCart hΓ hX c hc) rfl (by repeat first | with_reducible assumption | with_reducible exact hput_s _ _ _ | refine (hput_n _ _ (by omega)).trans ?_ | exact hput_s _ _ _ | assumption) rfl rfl rfl rfl (Nat.le_of_ble_eq_true rfl) (by decide) (by decide) (by decide) (fun E σ' h => ⟨by unfold eAlone; rw [if_pos h.2.1]; decide, by unfold eAlone; rw [if_pos h.2.1, h.1]; rfl, SX.gr hX hN h.2.2⟩) (fun v σ' hq => ?_)
  obtain ⟨rfl, e1, hσ⟩ := hq
  rw [hσ]
  clear hσ
  refine g_iload_n q_X9_alone_5 rfl ?_
  refine g_callS (rc' := 6) (rs' := 36) (As := [_]) cs_X9_190 q_X9_alone_6 (sp_needTime hΓ t ht) rfl rfl rfl (Nat.le_of_ble_eq_true rfl) (by decide) (by decide) (by decide) (fun E σ' h => ⟨by unfold eAlone; rw [if_neg (fun q => q e1), if_pos h.2.1]; decide, by unfold eAlone; rw [if_neg (fun q => q e1), if_pos h.2.1, h.1]; rfl, SX.gr hX hN h.2.2⟩) (fun v σ' hq => ?_)
  obtain ⟨rfl, e2, hσ⟩ := hq
  rw [hσ]
  clear hσ
  have e3 : eAlone z c t = 0 := by unfold eAlone; rw [if_neg (fun q => q e1), if_neg (fun q => q e2)]
  rw [e3]
  obtain ⟨k, rfl⟩ : ∃ k : Nat, c = k := ⟨c.toNat, by omega⟩
  obtain ⟨u, rfl⟩ : ∃ k : Nat, t = k := ⟨t.toNat, by omega⟩
  refine g_aload_n q_X9_alone_9 rfl ?_
  refine g_callV (rc' := 6) (rs' := 36) (As := []) cs_X9_183 q_X9_alone_10 (sp_waysAlone hΓ hX) rfl (by repeat first | with_reducible assumption | with_reducible exact hput_s _ _ _ | refine (hput_n _ _ (by omega)).trans ?_ | exact hput_s _ _ _ | assumption) rfl rfl rfl rfl (Nat.le_of_ble_eq_true rfl) (by decide) (by decide) (by decide) (fun _ _ h => h.elim) (fun v σ1 hq => ?_)
  obtain ⟨rfl, m1, m2, ct, cs, cl, co, P, C, w0, w1, w2, o1, o2, -, o3⟩ := hq
  obtain ⟨o4, o5⟩ := o3 k (by omega)
  have o6 : C k = alcZ z k := o4
  have hCr := o2 k
  refine g_astore_n (L' := [_, _, _, _]) q_X9_alone_13 (by decide) rfl ?_
  refine g_aload_n q_X9_alone_14 rfl ?_
  refine g_get fl_X9_187 q_X9_alone_15 (by repeat first | with_reducible assumption | with_reducible exact hput_s _ _ _ | refine (hput_n _ _ (by omega)).trans ?_ | exact hput_s _ _ _ | assumption) rfl ?_
  refine g_iload_n q_X9_alone_18 rfl ?_
  refine g_iaload q_X9_alone_19 (by repeat first | with_reducible assumption | with_reducible exact hput_s _ _ _ | refine (hput_n _ _ (by omega)).trans ?_ | exact hput_s _ _ _ | assumption) (by omega) (by omega) ?_
  refine g_topi (b := alcZ z k) (by exact o6) ?_
  refine g_iconst q_X9_alone_20 ?_
  rw [o6] at hCr
  refine g_icmp_ne (tgt := 28) q_X9_alone_21 (by decide) ⟨by omega, by omega⟩ ⟨by omega, by omega⟩ (fun b1 => ?_) (fun b1 => ?_)
  · refine g_aload_n q_X9_alone_28 rfl ?_
    refine g_iload_n q_X9_alone_29 rfl ?_
    refine g_iload_n q_X9_alone_30 rfl ?_
    refine g_callVN (rc' := 6) (rs' := 36) (As := [_, _]) cs_X9_193 q_X9_alone_31 (sp_cellOf hΓ w0 w1 k u (by omega) (by omega)) rfl (by repeat first | with_reducible assumption | with_reducible exact hput_s _ _ _ | refine (hput_n _ _ (by omega)).trans ?_ | exact hput_s _ _ _ | assumption) rfl rfl rfl rfl (Nat.le_of_ble_eq_true rfl) (by decide) (by decide) (by decide) (fun _ _ h => h.elim) (k_ri ?_)
    refine g_ireturn q_X9_alone_34.1 rfl ?_
    refine ⟨rfl, ?_, SX.tr (awF_fX m2) (SX.of m1 hN)⟩
    rw [Int.toNat_natCast, if_neg b1, o5 b1 u (by omega), show (41 * (k : Int) + u).toNat = 41 * k + u by omega]
    unfold alPZ alP
    rw [show (41 * k + u) / 41 = k by omega, show (41 * k + u) % 41 = u by omega]
  · refine g_iconst q_X9_alone_24 ?_
    refine g_goto (tgt := 34) q_X9_alone_25 (by decide) ?_
    refine g_ireturn q_X9_alone_34.1 rfl ?_
    refine ⟨rfl, ?_, SX.tr (awF_fX m2) (SX.of m1 hN)⟩
    rw [Int.toNat_natCast, if_pos (by omega)]
def allZ (z : PS) : Bool := decide (∀ k, k < zCa z → alcZ z k ≠ -1)
theorem alV_all {z : PS} {P C : Nat → Int} (h : alV z (zCa z) P C) : decide (∀ k, k < zCa z → C k ≠ -1) = allZ z := by
  unfold allZ
  have e : (∀ k, k < zCa z → C k ≠ -1) ↔ ∀ k, k < zCa z → alcZ z k ≠ -1 := ⟨fun q k hk => by have := q k hk; rw [(h.2 k hk).1] at this; exact this, fun q k hk => by rw [(h.2 k hk).1]; exact q k hk⟩
  by_cases q : ∀ k, k < zCa z → C k ≠ -1
  · rw [decide_eq_true q, decide_eq_true (e.mp q)]
  · rw [decide_eq_false q, decide_eq_false (fun w => q (e.mpr w))]
theorem alV_P {z : PS} {P C : Nat → Int} (h : alV z (zCa z) P C) (ha : allZ z = true) : (∀ i, i < 41 * zCa z → P i = alPZ z i) ∧ ∀ c, c < zCa z → C c = alcZ z c := by
  refine ⟨fun i hi => ?_, fun c hc => (h.2 c hc).1⟩
  have hc : i / 41 < zCa z := by omega
  have := (h.2 (i / 41) hc).2 (of_decide_eq_true ha (i / 41) hc) (i % 41) (by omega)
  rw [show 41 * (i / 41) + i % 41 = i by omega] at this
  exact this
def eClash (z : PS) (w : Int) : Nat := if ¬ (0 ≤ w ∧ w ≤ 4) then 1 else if allZ z = false then 2 else 0
def mxZ (z : PS) : Nat := (mxN (alcZ z) (zCa z)).toNat
def ccZ (z : PS) : Int := ccN (alPZ z) (zCa z) (mxZ z)
noncomputable def aClash (z : PS) (w : Int) : Int := if w = 0 then ccZ z else if ccZ z = 0 then -1 else if w = 1 then (((fcl (alPZ z) (zCa z) (mxZ z)).1 + 1 : Nat) : Int) else if w = 2 then (fcl (alPZ z) (zCa z) (mxZ z)).2.1 else if w = 3 then ((fcl (alPZ z) (zCa z) (mxZ z)).2.2.1 : Int) else ((fcl (alPZ z) (zCa z) (mxZ z)).2.2.2 : Int)
theorem K6.any {σ : AH} {x ve : Nat} {av : Int} {z : PS} {P C : Nat → Int} {ct cs cl co : Int} (h0 : σ.2 (x + 32) = some (wyo (x + 32) (zCa z) ct cs cl co)) (h1 : σ.2 (x + 32 + 1) = some (ai 205 P)) (h2 : σ.2 (x + 32 + 2) = some (ai 5 C)) (o1 : okP P) (o2 : okC C) (hn : zCa z ≤ 5) (o3 : alV z (zCa z) P C) : K6 σ x z ve av := ⟨zCa z, P, C, ⟨⟨ct, cs, cl, co, h0⟩, h1, h2⟩, o1, o2, hn, fun _ => o3⟩
theorem sp_clash (hΓ : Gd Γ) (hN : N < 1000) (hX : CX σ x lo N R len tx fa z l wl wr) (w : Int) (hw : rg w) : Sp Γ miX9_clash 8 48 [.ref x, .int (ii w)] σ (oQ (eClash z w) (aClash z w) (SX σ x lo (N + 1) R len tx fa z l wl wr)) (oX [xNSE, xISE] (eClash z w) (SX σ x lo (N + 1) R len tx fa z l wl wr)) := by
  have hX' := hX
  obtain ⟨ve, av, h1, h2, h3, h4, h5, q1, q2, -⟩ := hX'
  have hn := h4.1.1
  refine Sp_of (L := [_, _, _]) hΓ (by decide +kernel) rfl (Nat.le_of_ble_eq_true rfl) rfl ?_
  refine g_iload_n q_X9_clash_0 rfl ?_
  refine g_if_lt (tgt := 9) q_X9_clash_1 (by decide) hw (fun e1 => ?_) (fun e1 => ?_)
  · have e2 : eClash z w = 1 := by unfold eClash; rw [if_pos (by omega)]
    refine g_throw th_NSE q_X9_clash_9.1 q_X9_clash_12.1 q_X9_clash_13.1 q_X9_clash_16.1 rfl (by decide) (Nat.le_of_ble_eq_true rfl) (by decide) (by decide) (fun z hz => ?_)
    rw [e2]
    exact ⟨by decide, rfl, SX.gr hX hN ⟨_, hz, rfl⟩⟩
  refine g_iload_n q_X9_clash_4 rfl ?_
  refine g_iconst q_X9_clash_5 ?_
  refine g_icmp_le (tgt := 17) q_X9_clash_6 (by decide) hw ⟨by omega, by omega⟩ (fun e1b => ?_) (fun e1b => ?_)
  case refine_2 =>
    have e2 : eClash z w = 1 := by unfold eClash; rw [if_pos (by omega)]
    refine g_throw th_NSE q_X9_clash_9.1 q_X9_clash_12.1 q_X9_clash_13.1 q_X9_clash_16.1 rfl (by decide) (Nat.le_of_ble_eq_true rfl) (by decide) (by decide) (fun z hz => ?_)
    rw [e2]
    exact ⟨by decide, rfl, SX.gr hX hN ⟨_, hz, rfl⟩⟩
  refine g_aload_n q_X9_clash_17 rfl ?_
  refine g_callV (rc' := 8) (rs' := 48) (As := []) cs_X9_183 q_X9_clash_18 (sp_waysAlone hΓ hX) rfl (by repeat first | with_reducible assumption | with_reducible exact hput_s _ _ _ | refine (hput_n _ _ (by omega)).trans ?_ | exact hput_s _ _ _ | assumption) rfl rfl rfl rfl (Nat.le_of_ble_eq_true rfl) (by decide) (by decide) (by decide) (fun _ _ h => h.elim) (fun v σ1 hq => ?_)
  obtain ⟨rfl, m1, m2, ct, cs, cl, co, P, C, w0, w1, w2, o1, o2, o3⟩ := hq
  refine g_astore_n (L' := [_, _, _]) q_X9_clash_21 (by decide) rfl ?_
  refine g_aload_n q_X9_clash_22 rfl ?_
  refine g_callVN (rc' := 8) (rs' := 48) (As := []) cs_X9_196 q_X9_clash_23 (sp_allGo hΓ hn.2.2 w0 w2 o2) rfl (by repeat first | with_reducible assumption | with_reducible exact hput_s _ _ _ | refine (hput_n _ _ (by omega)).trans ?_ | exact hput_s _ _ _ | assumption) rfl rfl rfl rfl (Nat.le_of_ble_eq_true rfl) (by decide) (by decide) (by decide) (fun _ _ h => h.elim) (k_rb ?_)
  rw [alV_all o3]
  refine g_if_ne (tgt := 37) q_X9_clash_26 (by decide) (bi_rg _) (fun e3 => ?_) (fun e3 => ?_)
  case refine_2 =>
    have e2 : eClash z w = 2 := by unfold eClash; rw [if_neg (by omega), if_pos (bi_f (by omega))]
    refine g_throw th_ISE q_X9_clash_29.1 q_X9_clash_32.1 q_X9_clash_33.1 q_X9_clash_36.1 rfl (by decide) (Nat.le_of_ble_eq_true rfl) (by decide) (by decide) (fun z hz => ?_)
    rw [e2]
    exact ⟨by decide, rfl, SX.tr (awF_fX m2) (SX.gr m1 hN ⟨_, hz, rfl⟩)⟩
  have e2 : eClash z w = 0 := by unfold eClash; rw [if_neg (by omega), if_neg (by rw [bi_t e3]; decide)]
  rw [e2]
  obtain ⟨hP, hC⟩ := alV_P o3 (bi_t e3)
  have hmx : mxN C (zCa z) = mxN (alcZ z) (zCa z) := mxN_cong hC
  have hmr := mxN_rg (C := C) (b := 40) (by decide) (n := zCa z) (fun k _ => (o2 k).2)
  have hcc : ccN P (zCa z) (mxN C (zCa z)).toNat = ccZ z := by rw [hmx]; exact ccN_cong hP (by rw [← hmx]; omega)
  refine g_aload_n q_X9_clash_37 rfl ?_
  refine g_callVN (rc' := 8) (rs' := 48) (As := []) cs_X9_200 q_X9_clash_38 (sp_findFirstClash hΓ hn.2.2 o1 o2 w0 w1 w2) rfl (by repeat first | with_reducible assumption | with_reducible exact hput_s _ _ _ | refine (hput_n _ _ (by omega)).trans ?_ | exact hput_s _ _ _ | assumption) rfl rfl rfl rfl (Nat.le_of_ble_eq_true rfl) (by decide) (by decide) (by decide) (fun _ _ h => h.elim) (fun v σ2 hq => ?_)
  obtain ⟨rfl, hq⟩ := hq
  have fin : ∀ (σ2 : AH) (k1 k2 k3 k4 : Int), σ2 = hput σ1 (x + 32) (wyo (x + 32) (zCa z) k1 k2 k3 k4) → ((ccZ z = 0 ∧ k1 = -1 ∧ k2 = -1 ∧ k3 = -1 ∧ k4 = -1) ∨ (ccZ z ≠ 0 ∧ k1 = (((fcl (alPZ z) (zCa z) (mxZ z)).1 + 1 : Nat) : Int) ∧ k2 = (fcl (alPZ z) (zCa z) (mxZ z)).2.1 ∧ k3 = ((fcl (alPZ z) (zCa z) (mxZ z)).2.2.1 : Int) ∧ k4 = ((fcl (alPZ z) (zCa z) (mxZ z)).2.2.2 : Int))) → G Γ miX9_clash cX9_clash (oQ 0 (aClash z w) (SX σ x lo (N + 1) R len tx fa z l wl wr)) (oX [xNSE, xISE] 0 (SX σ x lo (N + 1) R len tx fa z l wl wr)) 8 48 41 [some (.ref x), some (.int (ii w)), some (.ref (x + 32))] [] σ2 := by
    intro σ2 k1 k2 k3 k4 hσ2 hk
    have t0 : σ2.2 (x + 32) = some (wyo (x + 32) (zCa z) k1 k2 k3 k4) := by rw [hσ2]; exact hput_s _ _ _
    have t1 : σ2.2 (x + 32 + 1) = some (ai 205 P) := by rw [hσ2]; exact (by repeat first | with_reducible assumption | with_reducible exact hput_s _ _ _ | refine (hput_n _ _ (by omega)).trans ?_ | exact hput_s _ _ _ | assumption)
    have t2 : σ2.2 (x + 32 + 2) = some (ai 5 C) := by rw [hσ2]; exact (by repeat first | with_reducible assumption | with_reducible exact hput_s _ _ _ | refine (hput_n _ _ (by omega)).trans ?_ | exact hput_s _ _ _ | assumption)
    have hE2 : eqOff σ1 σ2 (awF x) := by rw [hσ2]; exact eqOff.rfl'.put (Or.inr ⟨by omega, by omega⟩) _
    obtain ⟨ve1, av1, hh1⟩ := m1
    have hx1 := hh1.2.2.2.2.2.2.1
    have hs1 := hh1.2.2.2.2.2.2.2.2.2.2.2.1
    have hX2 : CX σ2 x lo N R len tx fa z l wl wr := ⟨ve1, av1, hh1.awch hE2 (by rw [hσ2]; exact (by repeat first | with_reducible assumption | with_reducible exact hput_s _ _ _ | refine (hput_n _ _ (by omega)).trans ?_ | exact hput_s _ _ _ | assumption)) hh1.2.2.2.2.2.1.2 (by rw [hσ2]; exact hs1.keep (fun a i => hput_n _ _ (by unfold inb at i; omega))) (K6.any t0 t1 t2 o1 o2 hn.2.2 o3)⟩
    have hSX := SX.tr (eqG.trans (awF_fX m2) (awF_fX (lo := lo) hE2) (fun _ _ h => h)) (SX.of hX2 hN)
    clear hσ2
    refine g_iload_n q_X9_clash_41 rfl ?_
    by_cases w4 : w = 4
    · subst w4
      refine g_tswOut (tgt := 92) q_X9_clash_42 ⟨by decide, by decide⟩ (Or.inr (by decide)) (by decide) ?_
      refine g_aload_n q_X9_clash_92 rfl ?_
      refine g_get fl_X9_216 q_X9_clash_93 (by repeat first | with_reducible assumption | with_reducible exact hput_s _ _ _ | refine (hput_n _ _ (by omega)).trans ?_ | exact hput_s _ _ _ | assumption) rfl ?_
      refine g_ireturn q_X9_clash_96.1 rfl ?_
      refine ⟨rfl, ?_, hSX⟩
      unfold aClash
      rcases hk with ⟨z1, z2, z3, z4, z5⟩ | ⟨z1, z2, z3, z4, z5⟩
      · rw [if_neg (by decide), if_pos z1, z5]
      · rw [if_neg (by decide), if_neg z1, if_neg (by decide), if_neg (by decide), if_neg (by decide), z5]
    · have hw4 : w = 0 ∨ w = 1 ∨ w = 2 ∨ w = 3 := by omega
      rcases hw4 with rfl | rfl | rfl | rfl
      · refine g_tswIn (off := 30) (tgt := 72) q_X9_clash_42 ⟨by decide, by decide⟩ (by decide) (by decide) rfl (by decide) ?_
        refine g_aload_n q_X9_clash_72 rfl ?_
        refine g_callVN (rc' := 8) (rs' := 48) (As := []) cs_X9_203 q_X9_clash_73 (sp_countClashes hΓ hn.2.2 o1 o2 t0 t1 t2) rfl (by repeat first | with_reducible assumption | with_reducible exact hput_s _ _ _ | refine (hput_n _ _ (by omega)).trans ?_ | exact hput_s _ _ _ | assumption) rfl rfl rfl rfl (Nat.le_of_ble_eq_true rfl) (by decide) (by decide) (by decide) (fun _ _ h => h.elim) (k_ri ?_)
        refine g_ireturn q_X9_clash_76.1 rfl ?_
        exact ⟨rfl, by rw [hcc]; rfl, hSX⟩
      · refine g_tswIn (off := 35) (tgt := 77) q_X9_clash_42 ⟨by decide, by decide⟩ (by decide) (by decide) rfl (by decide) ?_
        refine g_aload_n q_X9_clash_77 rfl ?_
        refine g_get fl_X9_207 q_X9_clash_78 (by repeat first | with_reducible assumption | with_reducible exact hput_s _ _ _ | refine (hput_n _ _ (by omega)).trans ?_ | exact hput_s _ _ _ | assumption) rfl ?_
        refine g_ireturn q_X9_clash_81.1 rfl ?_
        refine ⟨rfl, ?_, hSX⟩
        unfold aClash
        rcases hk with ⟨z1, z2, z3, z4, z5⟩ | ⟨z1, z2, z3, z4, z5⟩
        · rw [if_neg (by decide), if_pos z1, z2]
        · rw [if_neg (by decide), if_neg z1, if_pos rfl, z2]
      · refine g_tswIn (off := 40) (tgt := 82) q_X9_clash_42 ⟨by decide, by decide⟩ (by decide) (by decide) rfl (by decide) ?_
        refine g_aload_n q_X9_clash_82 rfl ?_
        refine g_get fl_X9_210 q_X9_clash_83 (by repeat first | with_reducible assumption | with_reducible exact hput_s _ _ _ | refine (hput_n _ _ (by omega)).trans ?_ | exact hput_s _ _ _ | assumption) rfl ?_
        refine g_ireturn q_X9_clash_86.1 rfl ?_
        refine ⟨rfl, ?_, hSX⟩
        unfold aClash
        rcases hk with ⟨z1, z2, z3, z4, z5⟩ | ⟨z1, z2, z3, z4, z5⟩
        · rw [if_neg (by decide), if_pos z1, z3]
        · rw [if_neg (by decide), if_neg z1, if_neg (by decide), if_pos rfl, z3]
      · refine g_tswIn (off := 45) (tgt := 87) q_X9_clash_42 ⟨by decide, by decide⟩ (by decide) (by decide) rfl (by decide) ?_
        refine g_aload_n q_X9_clash_87 rfl ?_
        refine g_get fl_X9_213 q_X9_clash_88 (by repeat first | with_reducible assumption | with_reducible exact hput_s _ _ _ | refine (hput_n _ _ (by omega)).trans ?_ | exact hput_s _ _ _ | assumption) rfl ?_
        refine g_ireturn q_X9_clash_91.1 rfl ?_
        refine ⟨rfl, ?_, hSX⟩
        unfold aClash
        rcases hk with ⟨z1, z2, z3, z4, z5⟩ | ⟨z1, z2, z3, z4, z5⟩
        · rw [if_neg (by decide), if_pos z1, z4]
        · rw [if_neg (by decide), if_neg z1, if_neg (by decide), if_neg (by decide), if_pos rfl, z4]
  rcases hq with ⟨k1, k2⟩ | ⟨t, s, a, b, k1, k2, k3⟩
  · refine fin σ2 _ _ _ _ k2 (Or.inl ⟨?_, rfl, rfl, rfl, rfl⟩)
    rw [← hcc]
    exact ccN_none k1
  · have k2' := fsC_cong hP (by omega) k2
    rw [hmx] at k1
    have k4 := fcl_eq (last := mxZ z) k1 k2'
    refine fin σ2 _ _ _ _ k3 (Or.inr ⟨?_, ?_⟩)
    · have := ccN_pos (last := mxZ z) k1 k2'
      unfold ccZ
      omega
    · rw [k4]
      exact ⟨rfl, rfl, rfl, rfl⟩
end X9E

