/-! the reference: names as numbers; named, letters, letter, name; isDigit, digit -/
section NMp
variable {LE LE' : Nat → Int} {b b' L L' : Nat}
theorem nmV_s (j : Nat) : nmV LE b (j + 1) = 32 * nmV LE b j + (LE (b + j) - 96) := rfl
theorem nmV_rg (h : ∀ j, j < L → 97 ≤ LE (b + j) ∧ LE (b + j) ≤ 122) : ∀ j, j ≤ L → 0 ≤ nmV LE b j ∧ nmV LE b j < 32 ^ j ∧ (0 < j → 1 ≤ nmV LE b j)
  | 0, _ => ⟨Int.le_refl _, by show (0 : Int) < 32 ^ 0; decide, fun q => absurd q (by omega)⟩
  | j + 1, hj => by
    obtain ⟨h1, h2, -⟩ := nmV_rg h j (by omega)
    have := h j (by omega)
    rw [nmV_s]
    have e : (32 : Int) ^ (j + 1) = 32 ^ j * 32 := rfl
    rw [e]
    obtain ⟨x, hx⟩ : ∃ x : Int, x = 32 ^ j := ⟨_, rfl⟩
    rw [← hx] at h2 ⊢
    exact ⟨by omega, by omega, fun _ => by omega⟩
theorem nmV_30 (h : ∀ j, j < L → 97 ≤ LE (b + j) ∧ LE (b + j) ≤ 122) (hL : L ≤ 6) {j : Nat} (hj : j ≤ L) : 0 ≤ nmV LE b j ∧ nmV LE b j < 1073741824 := by
  obtain ⟨h1, h2, -⟩ := nmV_rg h j hj
  refine ⟨h1, ?_⟩
  have : j = 0 ∨ j = 1 ∨ j = 2 ∨ j = 3 ∨ j = 4 ∨ j = 5 ∨ j = 6 := by omega
  rcases this with e | e | e | e | e | e | e <;> (rw [e] at h2 ⊢; refine Int.lt_of_lt_of_le h2 (by decide))
theorem nmV_cg (h : ∀ j, j < L → LE (b + j) = LE' (b' + j)) : ∀ j, j ≤ L → nmV LE b j = nmV LE' b' j
  | 0, _ => rfl
  | j + 1, hj => by rw [nmV_s, nmV_s, nmV_cg h j (by omega), h j (by omega)]
/-- names that are numbers alike are alike -/
theorem nmV_inj (h : ∀ j, j < L → 97 ≤ LE (b + j) ∧ LE (b + j) ≤ 122) (h' : ∀ j, j < L' → 97 ≤ LE' (b' + j) ∧ LE' (b' + j) ≤ 122) : ∀ i j, i ≤ L → j ≤ L' → nmV LE b i = nmV LE' b' j → i = j ∧ ∀ k, k < i → LE (b + k) = LE' (b' + k)
  | 0, 0, _, _, _ => ⟨rfl, fun k hk => absurd hk (Nat.not_lt_zero k)⟩
  | 0, j + 1, _, hj, e => by
    have := (nmV_rg h' (j + 1) hj).2.2 (by omega)
    have e0 : nmV LE b 0 = 0 := rfl
    omega
  | i + 1, 0, hi, _, e => by
    have := (nmV_rg h (i + 1) hi).2.2 (by omega)
    have e0 : nmV LE' b' 0 = 0 := rfl
    omega
  | i + 1, j + 1, hi, hj, e => by
    rw [nmV_s, nmV_s] at e
    have d1 := h i (by omega)
    have d2 := h' j (by omega)
    obtain ⟨q1, q2⟩ := nmV_inj h h' i j (by omega) (by omega) (by omega)
    refine ⟨by omega, fun k hk => ?_⟩
    by_cases ek : k = i
    · rw [ek]
      rw [← q1] at e
      have : nmV LE b i = nmV LE' b' i := nmV_cg (L := i) q2 i (Nat.le_refl i)
      omega
    · exact q2 k (by omega)
end NMp
section MNm
variable {Γ : GT} {σ : AH} {m : Nat} {I : Nat → Int} {tx : Nat → Int} {len pos : Nat} {f : Int} {a v n : Nat} {fs : Nat → Int}
theorem bo_sub (x y : Int) : BitVec.ofInt 64 x - BitVec.ofInt 64 y = BitVec.ofInt 64 (x - y) := by
  rw [BitVec.sub_eq_iff_eq_add, ← BitVec.ofInt_add]
  congr 1
  omega
theorem lb32 : ¬ lb (BitVec.ofInt 64 (32 : Int)) = 0 := by decide
theorem sp_named (hΓ : Gd Γ) (h0 : σ.2 m = some (mdo m (pI I pos f))) (h1 : σ.2 (m + 1) = some (ai 400 tx)) (oX : okX tx) (h3 : I 3 = len) (hl : len ≤ 400) (hp : pos ≤ len) : Sp Γ miX10_named 0 0 [.ref m] σ (fun r σ' => r = some (.long (lb (BitVec.ofInt 64 (nmV tx (avn pBl tx len pos) (avn pLe tx len (avn pBl tx len pos) - avn pBl tx len pos))))) ∧ σ' = hput σ m (mdo m (pI I (avn pBl tx len pos) f))) noX := by
  have hr1 := avn_rg (p := pBl) (tx := tx) hp
  have hr2 := avn_rg (p := pLe) (tx := tx) hr1.2
  refine Sp_of (L := [_, _, _, _, _]) hΓ (by decide +kernel) rfl (Nat.le_of_ble_eq_true rfl) rfl ?_
  refine g_lconst q_X10_named_0 ?_
  refine g_lstore_n (L' := [_, _, _, _, _]) q_X10_named_1 (by decide) rfl ?_
  refine g_aload_n q_X10_named_2 rfl ?_
  refine g_callV (rc' := 0) (rs' := 0) (As := []) cs_X10_135 q_X10_named_3 (sp_wordSize hΓ h0 h1 oX h3 hl hp) rfl (by repeat first | with_reducible assumption | with_reducible exact hput_s _ _ _ | refine (hput_n _ _ (by omega)).trans ?_ | exact hput_s _ _ _ | assumption) rfl rfl rfl rfl (Nat.le_of_ble_eq_true rfl) (by decide) (by decide) (by decide) (fun _ _ h => h.elim) (k_ri ?_)
  obtain ⟨p1, hp1⟩ : ∃ z, z = avn pBl tx len pos := ⟨_, rfl⟩
  rw [← hp1] at hr1 hr2 ⊢
  obtain ⟨p2, hp2⟩ : ∃ z, z = avn pLe tx len p1 := ⟨_, rfl⟩
  rw [← hp2] at hr2 ⊢
  obtain ⟨τ, hτ⟩ : ∃ τ, τ = hput σ m (mdo m (pI I p1 f)) := ⟨_, rfl⟩
  have t0 : τ.2 m = some (mdo m (pI I p1 f)) := by rw [hτ]; exact hput_s _ _ _
  have t1 : τ.2 (m + 1) = some (ai 400 tx) := by rw [hτ]; exact (hput_n _ _ (by omega)).trans h1
  rw [← hτ]
  refine g_istore_n (L' := [_, _, _, _, _]) q_X10_named_6 (by decide) rfl ?_
  refine g_iconst q_X10_named_7 ?_
  refine g_istore (L' := [_, _, _, _, _]) q_X10_named_8 (by decide) rfl ?_
  refine g_loop (fun k : Nat => k ≤ p2 - p1) (fun k : Nat => G Γ _ cX10_named _ _ 0 0 10 [some (.ref m), some (.long (lb (BitVec.ofInt 64 (nmV tx p1 k)))), none, some (.int (ii ((p2 - p1 : Nat) : Int))), some (.int (ii k))] [] τ) (fun k => p2 - p1 - k) ?_ 0 (Nat.zero_le _)
  intro k hk ih
  refine g_iload q_X10_named_10 rfl ?_
  refine g_iload_n q_X10_named_12 rfl ?_
  refine g_icmp_ge (tgt := 48) q_X10_named_13 (by decide) ⟨by omega, by omega⟩ ⟨by omega, by omega⟩ (fun b1 => ?_) (fun b1 => ?_)
  · have e : k = p2 - p1 := by omega
    rw [← e]
    refine g_lload_n q_X10_named_48 rfl ?_
    refine g_lreturn q_X10_named_49.1 rfl ?_
    exact ⟨rfl, rfl⟩
  have hx := oX (p1 + k)
  have hnx := ih (k + 1) (by omega) (by omega)
  refine g_ldc2 (b := BitVec.ofInt 64 (32 : Int)) q_X10_named_16 kc_X10_161 (by decide) ?_
  refine g_lload_n q_X10_named_19 rfl ?_
  refine g_lmul q_X10_named_20 ?_
  refine g_aload_n q_X10_named_21 rfl ?_
  refine g_get fl_X10_7 q_X10_named_22 (by repeat first | with_reducible assumption | with_reducible exact hput_s _ _ _ | refine (hput_n _ _ (by omega)).trans ?_ | exact hput_s _ _ _ | assumption) rfl ?_
  refine g_aload_n q_X10_named_25 rfl ?_
  refine g_get fl_X10_125 q_X10_named_26 (by repeat first | with_reducible assumption | with_reducible exact hput_s _ _ _ | refine (hput_n _ _ (by omega)).trans ?_ | exact hput_s _ _ _ | assumption) rfl ?_
  refine g_topi (b := (p1 : Int)) (by rfl) ?_
  refine g_iload q_X10_named_29 rfl ?_
  refine g_iadd q_X10_named_31 ?_
  refine g_topi (b := ((p1 + k : Nat) : Int)) (by omega) ?_
  refine g_iaload q_X10_named_32 (by repeat first | with_reducible assumption | with_reducible exact hput_s _ _ _ | refine (hput_n _ _ (by omega)).trans ?_ | exact hput_s _ _ _ | assumption) (by omega) (by omega) ?_
  refine g_topi (b := tx (p1 + k)) (by rfl) ?_
  refine g_i2l q_X10_named_33 ⟨by omega, by omega⟩ ?_
  refine g_ladd q_X10_named_34 ?_
  refine g_ldc2 (b := BitVec.ofInt 64 (97 : Int)) q_X10_named_35 kc_X10_163 (by decide) ?_
  refine g_lsub q_X10_named_38 ?_
  refine g_lconst q_X10_named_39 ?_
  refine g_ladd q_X10_named_40 ?_
  have eN : BitVec.ofInt 64 (32 : Int) * BitVec.ofInt 64 (nmV tx p1 k) + BitVec.ofInt 64 (tx (p1 + k)) - BitVec.ofInt 64 (97 : Int) + BitVec.ofNat 64 (1 : Fin 2) = BitVec.ofInt 64 (nmV tx p1 (k + 1)) := by
    rw [nmV_s, show BitVec.ofNat 64 (1 : Fin 2) = BitVec.ofInt 64 1 by decide, ← BitVec.ofInt_mul, ← BitVec.ofInt_add, bo_sub, ← BitVec.ofInt_add]
    congr 1
    omega
  refine g_top (v' := .long (lb (BitVec.ofInt 64 (nmV tx p1 (k + 1))))) (congrArg (fun x => Value.long (lb x)) eN) ?_
  refine g_lstore_n (L' := [_, _, _, _, _]) q_X10_named_41 (by decide) rfl ?_
  refine g_iinc (L' := [_, _, _, _, _]) q_X10_named_42 rfl rfl ?_
  refine g_goto (tgt := 10) q_X10_named_45 (by decide) ?_
  exact hnx
variable {LE : Nat → Int} {b L : Nat}
theorem nm_div (h : ∀ j, j < L → 97 ≤ LE (b + j) ∧ LE (b + j) ≤ 122) (hL : L ≤ 6) {j : Nat} (hj : j + 1 ≤ L) : lb (BitVec.ofInt 64 (nmV LE b (j + 1))) / lb (BitVec.ofInt 64 (32 : Int)) = lb (BitVec.ofInt 64 (nmV LE b j)) := by
  have h1 := nmV_30 h hL (j := j + 1) hj
  have h2 := nmV_30 h hL (j := j) (by omega)
  have d := h j (by omega)
  have e1 : nmV LE b (j + 1) = ((nmV LE b (j + 1)).toNat : Int) := by omega
  have e2 : nmV LE b j = ((nmV LE b j).toNat : Int) := by omega
  have e3 : (nmV LE b (j + 1)).toNat / 32 = (nmV LE b j).toNat := by
    have := nmV_s (LE := LE) (b := b) j
    omega
  rw [e1, e2, ← e3]
  exact lf_div (n := (nmV LE b (j + 1)).toNat) (m := 32) (by omega) (by decide)
theorem nm_pos (h : ∀ j, j < L → 97 ≤ LE (b + j) ∧ LE (b + j) ≤ 122) (hL : L ≤ 6) {j : Nat} (hj : j ≤ L) : lcm (BitVec.ofInt 64 (nmV LE b j)) (BitVec.ofNat 64 (0 : Fin 2)) = if 0 < j then 1 else 0 := by
  have h1 := nmV_30 h hL (j := j) hj
  have h2 := (nmV_rg h j hj).2.2
  have e1 : nmV LE b j = ((nmV LE b j).toNat : Int) := by omega
  rw [e1, show BitVec.ofNat 64 (0 : Fin 2) = BitVec.ofInt 64 ((0 : Nat) : Int) by decide, lcm_i (by omega) (by decide)]
  by_cases hz : 0 < j
  · have := h2 hz
    rw [if_pos (by omega), if_pos hz]
  · have e0 : j = 0 := by omega
    subst e0
    have : nmV LE b 0 = 0 := rfl
    rw [if_neg (by omega), if_pos (by omega), if_neg (by omega)]
theorem sp_letters (hΓ : Gd Γ) (h : ∀ j, j < L → 97 ≤ LE (b + j) ∧ LE (b + j) ≤ 122) (hL : L ≤ 6) : Sp Γ miX10_letters 0 0 [.long (lb (BitVec.ofInt 64 (nmV LE b L)))] σ (ri (L : Int) σ) noX := by
  refine Sp_of (L := [_, _, _, _, _]) hΓ (by decide +kernel) rfl (Nat.le_of_ble_eq_true rfl) rfl ?_
  refine g_iconst q_X10_letters_0 ?_
  refine g_istore_n (L' := [_, _, _, _, _]) q_X10_letters_1 (by decide) rfl ?_
  refine g_lload_n q_X10_letters_2 rfl ?_
  refine g_lstore_n (L' := [_, _, _, _, _]) q_X10_letters_3 (by decide) rfl ?_
  refine g_loop (fun k : Nat => k ≤ L) (fun k : Nat => G Γ _ cX10_letters _ _ 0 0 4 [some (.long (lb (BitVec.ofInt 64 (nmV LE b L)))), none, some (.int (ii k)), some (.long (lb (BitVec.ofInt 64 (nmV LE b (L - k))))), none] [] σ) (fun k => L - k) ?_ 0 (Nat.zero_le _)
  intro k hk ih
  refine g_lload_n q_X10_letters_4 rfl ?_
  refine g_lconst q_X10_letters_5 ?_
  refine g_lcmp q_X10_letters_6 ?_
  refine g_topi (b := if 0 < L - k then 1 else 0) (nm_pos h hL (by omega)) ?_
  refine g_if_le (tgt := 22) q_X10_letters_7 (by decide) (by unfold rg; split <;> omega) (fun b1 => ?_) (fun b1 => ?_)
  · have e : k = L := by
      refine Classical.byContradiction fun q => ?_
      rw [if_pos (by omega)] at b1
      omega
    subst e
    refine g_iload_n q_X10_letters_22 rfl ?_
    refine g_ireturn q_X10_letters_23.1 rfl ?_
    exact ⟨rfl, rfl⟩
  have hkl : k < L := by
    refine Classical.byContradiction fun q => ?_
    rw [if_neg (by omega)] at b1
    omega
  have hnx := ih (k + 1) (by omega) (by omega)
  obtain ⟨j, hj⟩ : ∃ j, j = L - (k + 1) := ⟨_, rfl⟩
  rw [← hj] at hnx
  rw [show L - k = j + 1 by omega]
  refine g_iinc (L' := [_, _, _, _, _]) q_X10_letters_10 rfl rfl ?_
  refine g_lload_n q_X10_letters_13 rfl ?_
  refine g_ldc2 (b := BitVec.ofInt 64 (32 : Int)) q_X10_letters_14 kc_X10_161 (by decide) ?_
  refine g_ldiv q_X10_letters_17 lb32 ?_
  refine g_top (v' := .long (lb (BitVec.ofInt 64 (nmV LE b j)))) (congrArg Value.long (nm_div h hL (by omega))) ?_
  refine g_lstore_n (L' := [_, _, _, _, _]) q_X10_letters_18 (by decide) rfl ?_
  refine g_goto (tgt := 4) q_X10_letters_19 (by decide) ?_
  exact hnx
theorem sp_letter (hΓ : Gd Γ) (h : ∀ j, j < L → 97 ≤ LE (b + j) ∧ LE (b + j) ≤ 122) (hL : L ≤ 6) (k : Nat) (hk : k < L) : Sp Γ miX10_letter 0 0 [.long (lb (BitVec.ofInt 64 (nmV LE b L))), .int (ii k)] σ (ri (LE (b + k)) σ) noX := by
  refine Sp_of (L := [_, _, _, _, _, _]) hΓ (by decide +kernel) rfl (Nat.le_of_ble_eq_true rfl) rfl ?_
  refine g_lload_n q_X10_letter_0 rfl ?_
  refine g_lstore_n (L' := [_, _, _, _, _, _]) q_X10_letter_1 (by decide) rfl ?_
  refine g_lload_n q_X10_letter_2 rfl ?_
  refine g_callS (rc' := 0) (rs' := 0) (As := [_]) cs_X10_165 q_X10_letter_3 (sp_letters hΓ h hL) rfl rfl rfl (Nat.le_of_ble_eq_true rfl) (by decide) (by decide) (by decide) (fun _ _ h => h.elim) (k_ri ?_)
  refine g_iconst q_X10_letter_6 ?_
  refine g_isub q_X10_letter_7 ?_
  refine g_topi (b := ((L - 1 : Nat) : Int)) (by omega) ?_
  refine g_istore (L' := [_, _, _, _, _, _]) q_X10_letter_8 (by decide) rfl ?_
  refine g_loop (fun d : Nat => d + k < L) (fun d : Nat => G Γ _ cX10_letter _ _ 0 0 10 [some (.long (lb (BitVec.ofInt 64 (nmV LE b L)))), none, some (.int (ii k)), some (.long (lb (BitVec.ofInt 64 (nmV LE b (L - d))))), none, some (.int (ii ((L - 1 - d : Nat) : Int)))] [] σ) (fun d => L - d) ?_ 0 (by omega)
  intro d hd ih
  refine g_iload q_X10_letter_10 rfl ?_
  refine g_iload_n q_X10_letter_12 rfl ?_
  refine g_icmp_le (tgt := 28) q_X10_letter_13 (by decide) ⟨by omega, by omega⟩ ⟨by omega, by omega⟩ (fun b1 => ?_) (fun b1 => ?_)
  · have e : L - d = k + 1 := by omega
    rw [e]
    have h1 := nmV_30 h hL (j := k + 1) (by omega)
    have dk := h k hk
    have e1 : nmV LE b (k + 1) = ((nmV LE b (k + 1)).toNat : Int) := by omega
    have e3 : (((nmV LE b (k + 1)).toNat % 32 : Nat) : Int) = LE (b + k) - 96 := by
      have := nmV_s (LE := LE) (b := b) k
      have := (nmV_30 h hL (j := k) (by omega)).1
      omega
    refine g_lload_n q_X10_letter_28 rfl ?_
    refine g_ldc2 (b := BitVec.ofInt 64 (32 : Int)) q_X10_letter_29 kc_X10_161 (by decide) ?_
    refine g_lrem q_X10_letter_32 lb32 ?_
    refine g_top (v' := .long (lb (BitVec.ofInt 64 (((nmV LE b (k + 1)).toNat % 32 : Nat) : Int)))) (congrArg Value.long (by rw [e1]; exact lf_rem (n := (nmV LE b (k + 1)).toNat) (m := 32) (by omega) (by decide))) ?_
    refine g_l2i q_X10_letter_33 ?_
    refine g_topi (b := LE (b + k) - 96) (by rw [bo_i (by omega)]; exact e3) ?_
    refine g_bipush q_X10_letter_34 bp_97 ?_
    refine g_iadd q_X10_letter_36 ?_
    refine g_iconst q_X10_letter_37 ?_
    refine g_isub q_X10_letter_38 ?_
    refine g_topi (b := LE (b + k)) (by omega) ?_
    refine g_ireturn q_X10_letter_39.1 rfl ?_
    exact ⟨rfl, rfl⟩
  have hnx := ih (d + 1) (by omega) (by omega)
  obtain ⟨j, hj⟩ : ∃ j, j = L - (d + 1) := ⟨_, rfl⟩
  rw [← hj] at hnx
  rw [show L - d = j + 1 by omega]
  refine g_lload_n q_X10_letter_16 rfl ?_
  refine g_ldc2 (b := BitVec.ofInt 64 (32 : Int)) q_X10_letter_17 kc_X10_161 (by decide) ?_
  refine g_ldiv q_X10_letter_20 lb32 ?_
  refine g_top (v' := .long (lb (BitVec.ofInt 64 (nmV LE b j)))) (congrArg Value.long (nm_div h hL (by omega))) ?_
  refine g_lstore_n (L' := [_, _, _, _, _, _]) q_X10_letter_21 (by decide) rfl ?_
  refine g_iinc (L' := [_, _, _, _, _, _]) q_X10_letter_22 rfl rfl ?_
  refine g_eq (L2 := [some (.long (lb (BitVec.ofInt 64 (nmV LE b L)))), none, some (.int (ii k)), some (.long (lb (BitVec.ofInt 64 (nmV LE b j)))), none, some (.int (ii ((L - 1 - (d + 1) : Nat) : Int)))]) (by rw [show ((L - 1 - (d + 1) : Nat) : Int) = ((L - 1 - d : Nat) : Int) + -1 by omega]) rfl rfl ?_
  refine g_goto (tgt := 10) q_X10_letter_25 (by decide) ?_
  exact hnx
end MNm
section MNa
variable {Γ : GT} {σ σ' : AH} {m : Nat} {len : Nat} {tx : Nat → Int} {fa e0 : Int} {z : PS} {l : List (Int × Int × Int)} {wl : Nat} {wr : Nat → Int}
theorem sp_mname (hΓ : Gd Γ) (hX : MX σ m e0 len tx fa z l wl wr) (c k : Int) (hc : rg c) (hk : rg k) : Sp Γ miX10_name 0 0 [.ref m, .int (ii c), .int (ii k)] σ (mQ (e1C z c) (if 0 ≤ k ∧ k < zNL z c.toNat then zLE z (6 * c + k).toNat else -1) (SM σ m (e1C z c) len tx fa z l wl wr)) noX := by
  obtain ⟨I, A, N, -, h, hW⟩ := hX
  have h0 := h.1
  have hz := hW.2.2.1.1
  have wf := hW.2.2.1.2
  have n5 := wf.1.1.2.2
  have h7 := h.a7
  refine Sp_of (L := [_, _, _]) hΓ (by decide +kernel) rfl (Nat.le_of_ble_eq_true rfl) rfl ?_
  refine g_aload_n q_X10_name_0 rfl ?_
  refine g_aload_n q_X10_name_1 rfl ?_
  refine g_iload_n q_X10_name_2 rfl ?_
  refine g_callV (rc' := 0) (rs' := 0) (As := [_]) cs_X10_237 q_X10_name_3 (sp_isCart hΓ h0 hz.1.2.2 n5 c hc) rfl (by repeat first | with_reducible assumption | with_reducible exact hput_s _ _ _ | refine (hput_n _ _ (by omega)).trans ?_ | exact hput_s _ _ _ | assumption) rfl rfl rfl rfl (Nat.le_of_ble_eq_true rfl) (by decide) (by decide) (by decide) (fun _ _ h => h.elim) (k_rb ?_)
  refine g_if_eq (tgt := 13) q_X10_name_6 (by decide) (bi_rg _) (fun b1 => ?_) (fun b1 => ?_)
  · have hf := of_decide_eq_false (bi_f b1)
    have e1 : e1C z c = 1 := if_neg hf
    refine g_iconst q_X10_name_13 ?_
    refine g_putM fp_X10_122 q_X10_name_14 (by repeat first | with_reducible assumption | with_reducible exact hput_s _ _ _ | refine (hput_n _ _ (by omega)).trans ?_ | exact hput_s _ _ _ | assumption) rfl rfl mset_0 ?_
    refine g_aload_n q_X10_name_17 rfl ?_
    refine g_get fl_X10_122 q_X10_name_18 (by repeat first | with_reducible assumption | with_reducible exact hput_s _ _ _ | refine (hput_n _ _ (by omega)).trans ?_ | exact hput_s _ _ _ | assumption) rfl ?_
    refine g_topi (b := (1 : Int)) (by rfl) ?_
    refine g_if_le (tgt := 26) q_X10_name_21 (by decide) ⟨by omega, by omega⟩ (fun b2 => ?_) (fun b2 => ?_)
    case refine_1 => exact absurd b2 (by decide)
    refine g_iconst q_X10_name_24 ?_
    refine g_ireturn q_X10_name_25.1 rfl ?_
    rw [e1]
    exact ⟨rfl, SM.t h hW 1⟩
  have ht := of_decide_eq_true (bi_t (show bi (decide (0 ≤ c ∧ c < zCa z)) ≠ 0 by omega))
  obtain ⟨q, hq⟩ : ∃ k : Nat, c = k := ⟨c.toNat, by omega⟩
  subst hq
  have e1 : e1C z q = 0 := if_pos ht
  have e7 := hW.2.2.2.1 q (by omega)
  have hle := wf.2.2.2 q (by omega)
  have hnl := wf.1.2.2.2.2.2 q
  obtain ⟨L, hL⟩ : ∃ L : Nat, zNL z q = L := ⟨(zNL z q).toNat, by omega⟩
  rw [hL, Int.toNat_natCast] at e7
  have hlt : ∀ j, j < L → 97 ≤ zLE z (6 * q + j) ∧ zLE z (6 * q + j) ≤ 122 := fun j hj => hle.2 j (by omega)
  have hL6 : L ≤ 6 := by omega
  rw [Int.toNat_natCast, hL]
  refine g_iconst q_X10_name_9 ?_
  refine g_goto (tgt := 14) q_X10_name_10 (by decide) ?_
  refine g_putM fp_X10_122 q_X10_name_14 (by repeat first | with_reducible assumption | with_reducible exact hput_s _ _ _ | refine (hput_n _ _ (by omega)).trans ?_ | exact hput_s _ _ _ | assumption) rfl rfl mset_0 ?_
  refine g_aload_n q_X10_name_17 rfl ?_
  refine g_get fl_X10_122 q_X10_name_18 (by repeat first | with_reducible assumption | with_reducible exact hput_s _ _ _ | refine (hput_n _ _ (by omega)).trans ?_ | exact hput_s _ _ _ | assumption) rfl ?_
  refine g_topi (b := (0 : Int)) (by rfl) ?_
  refine g_if_le (tgt := 26) q_X10_name_21 (by decide) ⟨by omega, by omega⟩ (fun b2 => ?_) (fun b2 => ?_)
  case refine_2 => exact absurd b2 (by decide)
  refine g_iload_n q_X10_name_26 rfl ?_
  refine g_iconst q_X10_name_27 ?_
  refine g_aload_n q_X10_name_28 rfl ?_
  refine g_get fl_X10_33 q_X10_name_29 (by repeat first | with_reducible assumption | with_reducible exact hput_s _ _ _ | refine (hput_n _ _ (by omega)).trans ?_ | exact hput_s _ _ _ | assumption) rfl ?_
  refine g_iload_n q_X10_name_32 rfl ?_
  refine g_laload q_X10_name_33 (by repeat first | with_reducible assumption | with_reducible exact hput_s _ _ _ | refine (hput_n _ _ (by omega)).trans ?_ | exact hput_s _ _ _ | assumption) (by omega) (by omega) ?_
  refine g_top (v' := .long (lb (BitVec.ofInt 64 (nmV (zLE z) (6 * q) L)))) (congrArg (fun x => Value.long (lb x)) (by rw [← e7]; rfl)) ?_
  refine g_callS (rc' := 0) (rs' := 0) (As := [_]) cs_X10_165 q_X10_name_34 (sp_letters hΓ hlt hL6) rfl rfl rfl (Nat.le_of_ble_eq_true rfl) (by decide) (by decide) (by decide) (fun _ _ h => h.elim) (k_ri ?_)
  refine g_iconst q_X10_name_37 ?_
  refine g_isub q_X10_name_38 ?_
  refine g_callS (rc' := 0) (rs' := 0) (As := [_, _, _]) cs_X10_229 q_X10_name_39 (sp_isIn hΓ k 0 ((L : Int) - 1) hk ⟨by decide, by decide⟩ ⟨by omega, by omega⟩) rfl rfl rfl (Nat.le_of_ble_eq_true rfl) (by decide) (by decide) (by decide) (fun _ _ h => h.elim) (k_rb ?_)
  refine g_if_eq (tgt := 58) q_X10_name_42 (by decide) (bi_rg _) (fun b3 => ?_) (fun b3 => ?_)
  · have hf := of_decide_eq_false (bi_f b3)
    refine g_iconst q_X10_name_58 ?_
    refine g_ireturn q_X10_name_59.1 rfl ?_
    rw [e1]
    refine ⟨?_, SM.t h hW 0⟩
    rw [if_pos rfl, if_neg (by omega)]
  · have hk1 := of_decide_eq_true (bi_t (show bi (decide (0 ≤ k ∧ k ≤ (L : Int) - 1)) ≠ 0 by omega))
    obtain ⟨j, hj⟩ : ∃ j : Nat, k = j := ⟨k.toNat, by omega⟩
    subst hj
    refine g_aload_n q_X10_name_45 rfl ?_
    refine g_get fl_X10_33 q_X10_name_46 (by repeat first | with_reducible assumption | with_reducible exact hput_s _ _ _ | refine (hput_n _ _ (by omega)).trans ?_ | exact hput_s _ _ _ | assumption) rfl ?_
    refine g_iload_n q_X10_name_49 rfl ?_
    refine g_laload q_X10_name_50 (by repeat first | with_reducible assumption | with_reducible exact hput_s _ _ _ | refine (hput_n _ _ (by omega)).trans ?_ | exact hput_s _ _ _ | assumption) (by omega) (by omega) ?_
    refine g_top (v' := .long (lb (BitVec.ofInt 64 (nmV (zLE z) (6 * q) L)))) (congrArg (fun x => Value.long (lb x)) (by rw [← e7]; rfl)) ?_
    refine g_iload_n q_X10_name_51 rfl ?_
    refine g_callS (rc' := 0) (rs' := 0) (As := [_, _]) cs_X10_240 q_X10_name_52 (sp_letter hΓ hlt hL6 j (by omega)) rfl rfl rfl (Nat.le_of_ble_eq_true rfl) (by decide) (by decide) (by decide) (fun _ _ h => h.elim) (k_ri ?_)
    refine g_goto (tgt := 59) q_X10_name_55 (by decide) ?_
    refine g_ireturn q_X10_name_59.1 rfl ?_
    rw [e1]
    refine ⟨?_, SM.t h hW 0⟩
    rw [if_pos rfl, if_pos (by omega), show (6 * (q : Int) + j).toNat = 6 * q + j by omega]
end MNa

