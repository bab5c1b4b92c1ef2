/-! the reference: what its block means -/
/-- letters as a number, base 32 -/
def nmV (LE : Nat → Int) (b : Nat) : Nat → Int
  | 0 => 0
  | j + 1 => 32 * nmV LE b j + (LE (b + j) - 96)
/-- what was, by acts (the latest first) -/
def mPa (pa : Nat → Int) (z : PS) : List (Int × Int × Int) → Prop
  | [] => True
  | q :: r => (∀ c, c < 36 → 0 ≤ pa (41 * r.length + c) ∧ pa (41 * r.length + c) < 6) ∧ (∀ c, gIn (zCo z) (zRo z) c → pa (41 * r.length + c) = zSO (udo z q) c) ∧ (∀ k, k < zCa z → pa (41 * r.length + 36 + k) = zGO (udo z q) k) ∧ mPa pa (udo z q) r
/-- the tree that is laid -/
def MTr (I : Nat → Int) (A : Nat → Nat → Int) (z : PS) : Prop := I 33 = -1 ∨ ∃ bd, bOK bd = true ∧ I 33 = bd ∧ I 34 = tN (bZ z bd) ∧ I 35 = tP (bZ z bd) ∧ I 36 = tL (bZ z bd) ∧ I 37 = tS (bZ z bd) ∧ I 38 = bi (tC (bZ z bd)) ∧ ∀ k, k < tN (bZ z bd) → k < 302 ∧ A 18 k = (if k = 0 then -1 else (pPi (tQ (bZ z bd) k) : Int)) ∧ A 19 k = pSu (tQ (bZ z bd) k) ∧ A 20 k = pCl (tQ (bZ z bd) k) ∧ A 21 k = pCa (tQ (bZ z bd) k) ∧ A 26 k = bi (pSp (tQ (bZ z bd) k)) ∧ ∀ i, i < 41 * zCa z → A 16 (205 * k + i) = ndP (tQ (bZ z bd)) (alPZ z) k i
def MW (I : Nat → Int) (A : Nat → Nat → Int) (N : Nat → Nat → BitVec 64) (len : Nat) (tx : Nat → Int) (fa : Int) (z : PS) (l : List (Int × Int × Int)) (wl : Nat) (wr : Nat → Int) : Prop := (I 2 = len ∧ len ≤ 400 ∧ (∀ i, i < 400 → A 1 i = tx i) ∧ okX tx ∧ okS (A 2)) ∧ (I 5 = fa ∧ rg fa) ∧ (MZ I A z ∧ WFz z) ∧ (∀ k, k < zCa z → N 7 k = BitVec.ofInt 64 (nmV (zLE z) (6 * k) (zNL z k).toNat)) ∧ (I 20 = l.length ∧ l.length ≤ 16 ∧ okA z l.reverse ∧ mPa (A 10) z l.reverse) ∧ MTr I A z ∧ (I 55 = wl ∧ wl ≤ 42 ∧ ∀ i, i < 42 → A 33 i = wr i) ∧ ∀ i, rg (A 16 i)
/-- the block m of the reference, e what was thrown last -/
def MX (σ : AH) (m : Nat) (e : Int) (len : Nat) (tx : Nat → Int) (fa : Int) (z : PS) (l : List (Int × Int × Int)) (wl : Nat) (wr : Nat → Int) : Prop := ∃ I A N, I 0 = e ∧ MC σ m I A N ∧ MW I A N len tx fa z l wl wr
/-- behind a call -/
def SM (σ : AH) (m : Nat) (e : Nat) (len : Nat) (tx : Nat → Int) (fa : Int) (z : PS) (l : List (Int × Int × Int)) (wl : Nat) (wr : Nat → Int) (σ' : AH) : Prop := MX σ' m e len tx fa z l wl wr ∧ eqOff σ σ' (inb m 34)
/-- an answer of the reference -/
def mQ (e : Nat) (a : Int) (S : AH → Prop) : Option Value → AH → Prop := fun r σ' => r = some (.int (ii (if e = 0 then a else 0))) ∧ S σ'
section MX
variable {Γ : GT} {σ σ' : AH} {m : Nat} {I J : Nat → Int} {A A' : Nat → Nat → Int} {N : Nat → Nat → BitVec 64} {len : Nat} {tx : Nat → Int} {fa e0 : Int} {z : PS} {l : List (Int × Int × Int)} {wl : Nat} {wr : Nat → Int}
/-- nothing of meaning is changed -/
theorem MTr.cg (h : MTr I A z) (hI : ∀ k, 33 ≤ k → J k = I k) (hA : ∀ k, 18 ≤ k → A' k = A k) (h16 : ∀ i, i < 61910 → A' 16 i = A 16 i) (w : WFz z) : MTr J A' z := by
  have n5 := w.1.1.2.2
  unfold MTr
  rw [hI 33 (by omega), hI 34 (by omega), hI 35 (by omega), hI 36 (by omega), hI 37 (by omega), hI 38 (by omega), hA 18 (by omega), hA 19 (by omega), hA 20 (by omega), hA 21 (by omega), hA 26 (by omega)]
  rcases h with h | ⟨bd, q1, q2, q3, q4, q5, q6, q7, q8⟩
  · exact Or.inl h
  · refine Or.inr ⟨bd, q1, q2, q3, q4, q5, q6, q7, fun k hk => ?_⟩
    obtain ⟨p0, p1, p2, p3, p4, p5, p6⟩ := q8 k hk
    exact ⟨p0, p1, p2, p3, p4, p5, fun i hi => by rw [h16 _ (by omega)]; exact p6 i hi⟩
theorem MW.cg (h : MW I A N len tx fa z l wl wr) (hI : ∀ k, k ≠ 0 → (k < 28 ∨ 31 < k) → J k = I k) (hA : ∀ k, k ≤ 10 ∨ 18 ≤ k → A' k = A k) (h16 : ∀ i, i < 61910 → A' 16 i = A 16 i) (hr : ∀ i, rg (A' 16 i)) : MW J A' N len tx fa z l wl wr := by
  obtain ⟨a1, a2, a3, a4, a5, a6, a7, -⟩ := h
  refine ⟨?_, ?_, ⟨a3.1.cg ⟨hI 13 (by omega) (by omega), hI 14 (by omega) (by omega), hI 15 (by omega) (by omega)⟩ (hA 6 (by omega)) (hA 8 (by omega)) (hA 9 (by omega)), a3.2⟩, a4, ?_, a6.cg (fun k hk => hI k (by omega) (by omega)) (fun k hk => hA k (by omega)) h16 a3.2, ?_, hr⟩
  · rw [hI 2 (by omega) (by omega), hA 1 (by omega), hA 2 (by omega)]; exact a1
  · rw [hI 5 (by omega) (by omega)]; exact a2
  · rw [hI 20 (by omega) (by omega), hA 10 (by omega)]; exact a5
  · rw [hI 55 (by omega) (by omega), hA 33 (by omega)]; exact a7
theorem MW.I0 (h : MW I A N len tx fa z l wl wr) (v : Int) : MW (va_up I 0 v) A N len tx fa z l wl wr := h.cg (fun k hk _ => va_ne hk) (fun _ _ => rfl) (fun _ _ => rfl) h.2.2.2.2.2.2.2
/-- what was thrown is laid -/
theorem SM.t (h : MC σ m I A N) (hW : MW I A N len tx fa z l wl wr) (e : Nat) : SM σ m e len tx fa z l wl wr (hput σ m (mdo m (va_up I 0 e))) := ⟨⟨_, A, N, va_eq, h.putI _, hW.I0 _⟩, eqOff.rfl'.put ⟨by omega, by omega⟩ _⟩
theorem sp_mfault (hΓ : Gd Γ) (hX : MX σ m e0 len tx fa z l wl wr) : Sp Γ miX10_fault 0 0 [.ref m] σ (mQ 0 fa (SM σ m 0 len tx fa z l wl wr)) noX := by
  obtain ⟨I, A, N, -, h, hW⟩ := hX
  have h0 := h.1
  have hfa := hW.2.1.1
  refine Sp_of (L := [_]) hΓ (by decide +kernel) rfl (Nat.le_of_ble_eq_true rfl) rfl ?_
  refine g_aload_n q_X10_fault_0 rfl ?_
  refine g_iconst q_X10_fault_1 ?_
  refine g_putM fp_X10_122 q_X10_fault_2 (by repeat first | with_reducible assumption | with_reducible exact hput_s _ _ _ | refine (hput_n _ _ (by omega)).trans ?_ | exact hput_s _ _ _ | assumption) rfl rfl mset_0 ?_
  refine g_aload_n q_X10_fault_5 rfl ?_
  refine g_get fl_X10_13 q_X10_fault_6 (by repeat first | with_reducible assumption | with_reducible exact hput_s _ _ _ | refine (hput_n _ _ (by omega)).trans ?_ | exact hput_s _ _ _ | assumption) rfl ?_
  refine g_ireturn q_X10_fault_9.1 rfl ?_
  refine ⟨?_, SM.t h hW 0⟩
  rw [← hfa]
  rfl
theorem sp_mcell (hΓ : Gd Γ) (hX : MX σ m e0 len tx fa z l wl wr) (a b : Int) (ha : rg a) (hb : rg b) : Sp Γ miX10_cell 0 0 [.ref m, .int (ii a), .int (ii b)] σ (mQ (eCell z a b) (zSO z (6 * b + a).toNat) (SM σ m (eCell z a b) len tx fa z l wl wr)) noX := by
  obtain ⟨I, A, N, -, h, hW⟩ := hX
  have h0 := h.1
  have hz := hW.2.2.1.1
  have w := hW.2.2.1.2
  have c6 := w.1.1.1
  have r6 := w.1.1.2.1
  have h6 := h.a6
  refine Sp_of (L := [_, _, _]) hΓ (by decide +kernel) rfl (Nat.le_of_ble_eq_true rfl) rfl ?_
  refine g_aload_n q_X10_cell_0 rfl ?_
  refine g_aload_n q_X10_cell_1 rfl ?_
  refine g_iload_n q_X10_cell_2 rfl ?_
  refine g_iload_n q_X10_cell_3 rfl ?_
  refine g_callV (rc' := 0) (rs' := 0) (As := [_, _]) cs_X10_233 q_X10_cell_4 (sp_isCell hΓ h0 hz.1.1 hz.1.2.1 c6 r6 a b ha hb) rfl (by repeat first | with_reducible assumption | with_reducible exact hput_s _ _ _ | refine (hput_n _ _ (by omega)).trans ?_ | exact hput_s _ _ _ | assumption) rfl rfl rfl rfl (Nat.le_of_ble_eq_true rfl) (by decide) (by decide) (by decide) (fun _ _ h => h.elim) (k_rb ?_)
  refine g_if_eq (tgt := 14) q_X10_cell_7 (by decide) (bi_rg _) (fun b1 => ?_) (fun b1 => ?_)
  · have hf := of_decide_eq_false (bi_f (show bi (decide (0 ≤ a ∧ a < zCo z ∧ 0 ≤ b ∧ b < zRo z)) = 0 by omega))
    have e1 : eCell z a b = 1 := if_neg hf
    refine g_iconst q_X10_cell_14 ?_
    refine g_putM fp_X10_122 q_X10_cell_15 (by repeat first | with_reducible assumption | with_reducible exact hput_s _ _ _ | refine (hput_n _ _ (by omega)).trans ?_ | exact hput_s _ _ _ | assumption) rfl rfl mset_0 ?_
    refine g_aload_n q_X10_cell_18 rfl ?_
    refine g_get fl_X10_122 q_X10_cell_19 (by repeat first | with_reducible assumption | with_reducible exact hput_s _ _ _ | refine (hput_n _ _ (by omega)).trans ?_ | exact hput_s _ _ _ | assumption) rfl ?_
    refine g_topi (b := (1 : Int)) (by rfl) ?_
    refine g_if_le (tgt := 29) q_X10_cell_22 (by decide) ⟨by omega, by omega⟩ (fun b2 => ?_) (fun b2 => ?_)
    case refine_1 => exact absurd b2 (by decide)
    refine g_iconst q_X10_cell_25 ?_
    refine g_goto (tgt := 40) q_X10_cell_26 (by decide) ?_
    refine g_ireturn q_X10_cell_40.1 rfl ?_
    rw [e1]
    exact ⟨rfl, SM.t h hW 1⟩
  · have ht := of_decide_eq_true (bi_t (show bi (decide (0 ≤ a ∧ a < zCo z ∧ 0 ≤ b ∧ b < zRo z)) ≠ 0 by omega))
    have e1 : eCell z a b = 0 := if_pos ht
    refine g_iconst q_X10_cell_10 ?_
    refine g_goto (tgt := 15) q_X10_cell_11 (by decide) ?_
    refine g_putM fp_X10_122 q_X10_cell_15 (by repeat first | with_reducible assumption | with_reducible exact hput_s _ _ _ | refine (hput_n _ _ (by omega)).trans ?_ | exact hput_s _ _ _ | assumption) rfl rfl mset_0 ?_
    refine g_aload_n q_X10_cell_18 rfl ?_
    refine g_get fl_X10_122 q_X10_cell_19 (by repeat first | with_reducible assumption | with_reducible exact hput_s _ _ _ | refine (hput_n _ _ (by omega)).trans ?_ | exact hput_s _ _ _ | assumption) rfl ?_
    refine g_topi (b := (0 : Int)) (by rfl) ?_
    refine g_if_le (tgt := 29) q_X10_cell_22 (by decide) ⟨by omega, by omega⟩ (fun b2 => ?_) (fun b2 => ?_)
    case refine_2 => exact absurd b2 (by decide)
    obtain ⟨k, hk⟩ : ∃ k : Nat, 6 * b + a = k := ⟨(6 * b + a).toNat, by omega⟩
    have hso : A 6 k = zSO z k := hz.2.2.1 k ⟨by omega, by omega⟩
    refine g_aload_n q_X10_cell_29 rfl ?_
    refine g_get fl_X10_30 q_X10_cell_30 (by repeat first | with_reducible assumption | with_reducible exact hput_s _ _ _ | refine (hput_n _ _ (by omega)).trans ?_ | exact hput_s _ _ _ | assumption) rfl ?_
    refine g_bipush q_X10_cell_33 bp_6 ?_
    refine g_iload_n q_X10_cell_35 rfl ?_
    refine g_imul q_X10_cell_36 ?_
    refine g_iload_n q_X10_cell_37 rfl ?_
    refine g_iadd q_X10_cell_38 ?_
    refine g_topi (b := (k : Int)) (by exact hk) ?_
    refine g_iaload q_X10_cell_39 (by repeat first | with_reducible assumption | with_reducible exact hput_s _ _ _ | refine (hput_n _ _ (by omega)).trans ?_ | exact hput_s _ _ _ | assumption) (by omega) (by omega) ?_
    refine g_topi (b := A 6 k) (by rfl) ?_
    refine g_ireturn q_X10_cell_40.1 rfl ?_
    rw [e1]
    refine ⟨?_, SM.t h hW 0⟩
    rw [if_pos rfl, hk, Int.toNat_natCast, hso]
end MX

