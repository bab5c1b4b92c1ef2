/-! the reference: orders, count, among -/
theorem facN_s : ∀ j, j < 5 → 1 ≤ j → facN (j + 1) = facN j * (j + 1) := by decide
theorem facN_le : ∀ j, j < 6 → 1 ≤ facN j ∧ facN j ≤ 120 := by decide
section MCN
variable {Γ : GT} {σ : AH} {m : Nat} {I : Nat → Int} {A : Nat → Nat → Int} {N : Nat → Nat → BitVec 64} {len : Nat} {tx : Nat → Int} {fa e0 : Int} {z : PS} {l : List (Int × Int × Int)} {wl : Nat} {wr : Nat → Int}
theorem sp_orders (hΓ : Gd Γ) (h0 : σ.2 m = some (mdo m I)) {n : Nat} (hn : n ≤ 5) (h15 : I 15 = n) : Sp Γ miX10_orders 0 0 [.ref m] σ (ri (facN n : Int) σ) noX := by
  refine Sp_of (L := [_, _, _]) hΓ (by decide +kernel) rfl (Nat.le_of_ble_eq_true rfl) rfl ?_
  refine g_iconst q_X10_orders_0 ?_
  refine g_istore_n (L' := [_, _, _]) q_X10_orders_1 (by decide) rfl ?_
  refine g_iconst q_X10_orders_2 ?_
  refine g_istore_n (L' := [_, _, _]) q_X10_orders_3 (by decide) rfl ?_
  refine g_loop (fun j => 1 ≤ j ∧ (j ≤ n ∨ j = 1)) (fun j : Nat => G Γ _ cX10_orders _ _ 0 0 4 [some (.ref m), some (.int (ii (facN j : Int))), some (.int (ii ((j + 1 : Nat) : Int)))] [] σ) (fun j => 5 - j) ?_ 1 ⟨Nat.le_refl _, Or.inr rfl⟩
  rintro j ⟨h1, h2⟩ ih
  refine g_iload_n q_X10_orders_4 rfl ?_
  refine g_aload_n q_X10_orders_5 rfl ?_
  refine g_get fl_X10_220 q_X10_orders_6 (by repeat first | with_reducible assumption | with_reducible exact hput_s _ _ _ | refine (hput_n _ _ (by omega)).trans ?_ | exact hput_s _ _ _ | assumption) rfl ?_
  refine g_topi (b := (n : Int)) (by exact h15) ?_
  refine g_icmp_gt (tgt := 22) q_X10_orders_9 (by decide) ⟨by omega, by omega⟩ ⟨by omega, by omega⟩ (fun b1 => ?_) (fun b1 => ?_)
  · have e : facN j = facN n := by
      by_cases q : j = n
      · rw [q]
      · have q1 : j = 1 := by omega
        have q0 : n = 0 := by omega
        rw [q1, q0]
        rfl
    refine g_iload_n q_X10_orders_22 rfl ?_
    refine g_ireturn q_X10_orders_23.1 rfl ?_
    rw [e]
    exact ⟨rfl, rfl⟩
  · have hnx := ih (j + 1) ⟨by omega, Or.inl (by omega)⟩ (by omega)
    rw [facN_s j (by omega) h1] at hnx
    refine g_iload_n q_X10_orders_12 rfl ?_
    refine g_iload_n q_X10_orders_13 rfl ?_
    refine g_imul q_X10_orders_14 ?_
    refine g_topi (b := ((facN j * (j + 1) : Nat) : Int)) (by exact (Int.natCast_mul _ _).symm) ?_
    refine g_istore_n (L' := [_, _, _]) q_X10_orders_15 (by decide) rfl ?_
    refine g_iinc (L' := [_, _, _]) q_X10_orders_16 rfl rfl ?_
    refine g_goto (tgt := 4) q_X10_orders_19 (by decide) ?_
    exact hnx
theorem sp_mcount (hΓ : Gd Γ) (hX : MX σ m e0 len tx fa z l wl wr) (w : Int) (hw : rg w) : Sp Γ miX10_count 0 0 [.ref m, .int (ii w)] σ (mQ 0 (aCount z l wl w) (SM σ m 0 len tx fa z l wl wr)) noX := by
  obtain ⟨I, A, N, -, h, hW⟩ := hX
  have h0 := h.1
  have wf := hW.2.2.1.2
  have n5 := wf.1.1.2.2
  have c6 := wf.1.1.1
  have r6 := wf.1.1.2.1
  have hM := h.putI (va_up I 0 ((0 : Nat) : Int))
  have hS := SM.t h hW 0
  have hW1 := hW.I0 ((0 : Nat) : Int)
  refine Sp_of (L := [_, _, _, _, _]) hΓ (by decide +kernel) rfl (Nat.le_of_ble_eq_true rfl) rfl ?_
  refine g_aload_n q_X10_count_0 rfl ?_
  refine g_iconst q_X10_count_1 ?_
  refine g_putM fp_X10_122 q_X10_count_2 (by repeat first | with_reducible assumption | with_reducible exact hput_s _ _ _ | refine (hput_n _ _ (by omega)).trans ?_ | exact hput_s _ _ _ | assumption) rfl rfl mset_0 ?_
  obtain ⟨τ, hτ⟩ : ∃ τ, τ = hput σ m (mdo m (va_up I 0 ((0 : Nat) : Int))) := ⟨_, rfl⟩
  refine g_eq (σ2 := τ) rfl rfl hτ.symm ?_
  rw [← hτ] at hM hS
  have hE : eqOff σ τ (inb m 34) := by rw [hτ]; exact eqOff.rfl'.put ⟨by omega, by omega⟩ _
  clear hτ
  have j0 : va_up I 0 ((0 : Nat) : Int) 0 = ((0 : Nat) : Int) := rfl
  obtain ⟨J, hJ⟩ : ∃ J, J = va_up I 0 ((0 : Nat) : Int) := ⟨_, rfl⟩
  rw [← hJ] at hM hW1 j0
  clear hJ
  have hz := hW1.2.2.1.1
  obtain ⟨j13, j14, j15⟩ := hz.1
  have u0 := hM.1
  have u6 := hM.a6
  have j20 := hW1.2.2.2.2.1.1
  have j55 := hW1.2.2.2.2.2.2.1.1
  unfold mQ
  rw [if_pos rfl]
  have fin : ∀ l4, G Γ miX10_count cX10_count (fun r σ' => r = some (.int (ii (aCount z l wl w))) ∧ SM σ m 0 len tx fa z l wl wr σ') noX 0 0 65 [some (.ref m), some (.int (ii w)), some (.int (ii (sumN (fun y => frX (zSO z) y (zCo z)) (zRo z)))), l4, none] [] τ := by
    intro l4
    refine g_fl (L2 := [some (.ref m), some (.int (ii w)), some (.int (ii (sumN (fun y => frX (zSO z) y (zCo z)) (zRo z)))), none, none]) ?_ ⟨rfl, rfl, rfl, trivial⟩
    by_cases hwo : w < 0 ∨ 7 < w
    · refine g_iload_n q_X10_count_65 rfl ?_
      refine g_tswOut (tgt := 166) q_X10_count_66 hw (by omega) (by decide) ?_
      refine g_iconst q_X10_count_166 ?_
      refine g_ireturn q_X10_count_167.1 rfl ?_
      refine ⟨?_, hS⟩
      unfold aCount
      rw [if_neg (by omega), if_neg (by omega), if_neg (by omega), if_neg (by omega), if_neg (by omega), if_neg (by omega), if_neg (by omega), if_neg (by omega)]
    have : w = 0 ∨ w = 1 ∨ w = 2 ∨ w = 3 ∨ w = 4 ∨ w = 5 ∨ w = 6 ∨ w = 7 := by omega
    clear hwo hw
    rcases this with q | q | q | q | q | q | q | q <;> subst q
    · refine g_iload_n q_X10_count_65 rfl ?_
      refine g_tswIn (off := 46) (tgt := 112) q_X10_count_66 ⟨by decide, by decide⟩ (by decide) (by decide) rfl (by decide) ?_
      refine g_aload_n q_X10_count_112 rfl ?_
      refine g_get fl_X10_214 q_X10_count_113 (by repeat first | with_reducible assumption | with_reducible exact hput_s _ _ _ | refine (hput_n _ _ (by omega)).trans ?_ | exact hput_s _ _ _ | assumption) rfl ?_
      refine g_ireturn q_X10_count_116.1 rfl ?_
      rw [j13]
      exact ⟨rfl, hS⟩
    · refine g_iload_n q_X10_count_65 rfl ?_
      refine g_tswIn (off := 51) (tgt := 117) q_X10_count_66 ⟨by decide, by decide⟩ (by decide) (by decide) rfl (by decide) ?_
      refine g_aload_n q_X10_count_117 rfl ?_
      refine g_get fl_X10_217 q_X10_count_118 (by repeat first | with_reducible assumption | with_reducible exact hput_s _ _ _ | refine (hput_n _ _ (by omega)).trans ?_ | exact hput_s _ _ _ | assumption) rfl ?_
      refine g_ireturn q_X10_count_121.1 rfl ?_
      rw [j14]
      exact ⟨rfl, hS⟩
    · refine g_iload_n q_X10_count_65 rfl ?_
      refine g_tswIn (off := 56) (tgt := 122) q_X10_count_66 ⟨by decide, by decide⟩ (by decide) (by decide) rfl (by decide) ?_
      refine g_aload_n q_X10_count_122 rfl ?_
      refine g_get fl_X10_220 q_X10_count_123 (by repeat first | with_reducible assumption | with_reducible exact hput_s _ _ _ | refine (hput_n _ _ (by omega)).trans ?_ | exact hput_s _ _ _ | assumption) rfl ?_
      refine g_ireturn q_X10_count_126.1 rfl ?_
      rw [j15]
      exact ⟨rfl, hS⟩
    · refine g_iload_n q_X10_count_65 rfl ?_
      refine g_tswIn (off := 61) (tgt := 127) q_X10_count_66 ⟨by decide, by decide⟩ (by decide) (by decide) rfl (by decide) ?_
      refine g_iload_n q_X10_count_127 rfl ?_
      refine g_ireturn q_X10_count_128.1 rfl ?_
      exact ⟨rfl, hS⟩
    · refine g_iload_n q_X10_count_65 rfl ?_
      refine g_tswIn (off := 63) (tgt := 129) q_X10_count_66 ⟨by decide, by decide⟩ (by decide) (by decide) rfl (by decide) ?_
      refine g_aload_n q_X10_count_129 rfl ?_
      refine g_callV (rc' := 0) (rs' := 0) (As := []) cs_X10_369 q_X10_count_130 (sp_orders hΓ u0 n5 j15) rfl (by repeat first | with_reducible assumption | with_reducible exact hput_s _ _ _ | refine (hput_n _ _ (by omega)).trans ?_ | exact hput_s _ _ _ | assumption) rfl rfl rfl rfl (Nat.le_of_ble_eq_true rfl) (by decide) (by decide) (by decide) (fun _ _ h => h.elim) (k_ri ?_)
      refine g_ireturn q_X10_count_133.1 rfl ?_
      exact ⟨rfl, hS⟩
    · refine g_iload_n q_X10_count_65 rfl ?_
      refine g_tswIn (off := 68) (tgt := 134) q_X10_count_66 ⟨by decide, by decide⟩ (by decide) (by decide) rfl (by decide) ?_
      refine g_aload_n q_X10_count_134 rfl ?_
      refine g_get fl_X10_223 q_X10_count_135 (by repeat first | with_reducible assumption | with_reducible exact hput_s _ _ _ | refine (hput_n _ _ (by omega)).trans ?_ | exact hput_s _ _ _ | assumption) rfl ?_
      refine g_ireturn q_X10_count_138.1 rfl ?_
      rw [j20]
      exact ⟨rfl, hS⟩
    · refine g_iload_n q_X10_count_65 rfl ?_
      refine g_tswIn (off := 73) (tgt := 139) q_X10_count_66 ⟨by decide, by decide⟩ (by decide) (by decide) rfl (by decide) ?_
      refine g_aload_n q_X10_count_139 rfl ?_
      refine g_get fl_X10_384 q_X10_count_140 (by repeat first | with_reducible assumption | with_reducible exact hput_s _ _ _ | refine (hput_n _ _ (by omega)).trans ?_ | exact hput_s _ _ _ | assumption) rfl ?_
      refine g_ireturn q_X10_count_143.1 rfl ?_
      rw [j55]
      exact ⟨rfl, hS⟩
    · refine g_iload_n q_X10_count_65 rfl ?_
      refine g_tswIn (off := 78) (tgt := 144) q_X10_count_66 ⟨by decide, by decide⟩ (by decide) (by decide) rfl (by decide) ?_
      refine g_aload_n q_X10_count_144 rfl ?_
      refine g_sipush q_X10_count_145 sp_302 ?_
      refine g_callV (rc' := 0) (rs' := 0) (As := [_]) cs_X10_290 q_X10_count_148 (sp_laysAlone hΓ hM hz wf 302 (by omega)) rfl (by repeat first | with_reducible assumption | with_reducible exact hput_s _ _ _ | refine (hput_n _ _ (by omega)).trans ?_ | exact hput_s _ _ _ | assumption) rfl rfl rfl rfl (Nat.le_of_ble_eq_true rfl) (by decide) (by decide) (by decide) (fun _ _ h => h.elim) (fun v τ1 hq => ?_)
      obtain ⟨rfl, hE1, B, n, hM1, hI, hn⟩ := hq
      have hWB := hW1.la hI
      have hS1 : SM σ m 0 len tx fa z l wl wr τ1 := ⟨⟨J, B, N, j0, hM1, hWB⟩, hE.trans hE1 (fun a i => by unfold inb at *; omega)⟩
      have v0 := hM1.1
      have v16 := hM1.a16
      refine g_if_eq (tgt := 164) q_X10_count_151 (by decide) (bi_rg _) (fun b2 => ?_) (fun b2 => ?_)
      · have hal := bi_f b2
        refine g_iconst q_X10_count_164 ?_
        refine g_ireturn q_X10_count_165.1 rfl ?_
        refine ⟨?_, hS1⟩
        show _ = some (Value.int (ii (if allZ z = true then sumN (alcZ z) (zCa z) else -1)))
        rw [if_neg (by rw [hal]; decide)]
      · have hal := bi_t b2
        have hn' := hn hal
        subst hn'
        refine g_aload_n q_X10_count_154 rfl ?_
        refine g_sipush q_X10_count_155 sp_302 ?_
        refine g_callV (rc' := 0) (rs' := 0) (As := [_]) cs_X10_308 q_X10_count_158 (sp_sumAt hΓ v0 v16 hWB.2.2.2.2.2.2.2 302 (zCa z) (by omega) n5 j15) rfl (by repeat first | with_reducible assumption | with_reducible exact hput_s _ _ _ | refine (hput_n _ _ (by omega)).trans ?_ | exact hput_s _ _ _ | assumption) rfl rfl rfl rfl (Nat.le_of_ble_eq_true rfl) (by decide) (by decide) (by decide) (fun _ _ h => h.elim) (k_ri ?_)
        refine g_goto (tgt := 165) q_X10_count_161 (by decide) ?_
        refine g_ireturn q_X10_count_165.1 rfl ?_
        refine ⟨?_, hS1⟩
        show _ = some (Value.int (ii (if allZ z = true then sumN (alcZ z) (zCa z) else -1)))
        rw [if_pos hal]
        rw [sumN_cong (D := alcZ z) (fun c hc => ?_)]
        obtain ⟨q1, -⟩ := alw_ct wf hc (of_decide_eq_true hal c hc)
        rw [← q1]
        exact congrArg Nat.cast (ctN_cg (fun t ht => (hI.2.2.2.2.1 c hc).2 t (by omega)) 40 (Nat.le_refl _))
  refine g_iconst q_X10_count_5 ?_
  refine g_istore_n (L' := [_, _, _, _, _]) q_X10_count_6 (by decide) rfl ?_
  refine g_iconst q_X10_count_7 ?_
  refine g_istore_n (L' := [_, _, _, _, _]) q_X10_count_8 (by decide) rfl ?_
  refine g_loop (fun y => y ≤ zRo z) (fun y : Nat => G Γ _ cX10_count _ _ 0 0 9 [some (.ref m), some (.int (ii w)), some (.int (ii (sumN (fun y => frX (zSO z) y (zCo z)) y))), some (.int (ii y)), none] [] τ) (fun y => zRo z - y) ?_ 0 (Nat.zero_le _)
  intro y hy ih
  refine g_iload_n q_X10_count_9 rfl ?_
  refine g_aload_n q_X10_count_10 rfl ?_
  refine g_get fl_X10_217 q_X10_count_11 (by repeat first | with_reducible assumption | with_reducible exact hput_s _ _ _ | refine (hput_n _ _ (by omega)).trans ?_ | exact hput_s _ _ _ | assumption) rfl ?_
  refine g_topi (b := (zRo z : Int)) (by exact j14) ?_
  refine g_icmp_ge (tgt := 65) q_X10_count_14 (by decide) ⟨by omega, by omega⟩ ⟨by omega, by omega⟩ (fun b1 => ?_) (fun b1 => ?_)
  · have e : y = zRo z := by omega
    subst e
    exact fin _
  have hnx := ih (y + 1) (by omega) (by omega)
  obtain ⟨S, hSs⟩ : ∃ S, S = sumN (fun y => frX (zSO z) y (zCo z)) y := ⟨_, rfl⟩
  rw [show sumN (fun y => frX (zSO z) y (zCo z)) (y + 1) = S + frX (zSO z) y (zCo z) by rw [hSs]; rfl] at hnx
  rw [← hSs]
  clear fin ih
  refine g_iconst q_X10_count_17 ?_
  refine g_istore (L' := [_, _, _, _, _]) q_X10_count_18 (by decide) rfl ?_
  refine g_eq (L2 := [some (.ref m), some (.int (ii w)), some (.int (ii (S + frX (zSO z) y 0))), some (.int (ii y)), some (.int (ii ((0 : Nat) : Int)))]) (by rw [show S + frX (zSO z) y 0 = S from Int.add_zero S]; rfl) rfl rfl ?_
  refine g_loop (fun x => x ≤ zCo z) (fun x : Nat => G Γ _ cX10_count _ _ 0 0 20 [some (.ref m), some (.int (ii w)), some (.int (ii (S + frX (zSO z) y x))), some (.int (ii y)), some (.int (ii x))] [] τ) (fun x => zCo z - x) ?_ 0 (Nat.zero_le _)
  intro x hx ih2
  refine g_iload q_X10_count_20 rfl ?_
  refine g_aload_n q_X10_count_22 rfl ?_
  refine g_get fl_X10_214 q_X10_count_23 (by repeat first | with_reducible assumption | with_reducible exact hput_s _ _ _ | refine (hput_n _ _ (by omega)).trans ?_ | exact hput_s _ _ _ | assumption) rfl ?_
  refine g_topi (b := (zCo z : Int)) (by exact j13) ?_
  refine g_icmp_ge (tgt := 59) q_X10_count_26 (by decide) ⟨by omega, by omega⟩ ⟨by omega, by omega⟩ (fun b2 => ?_) (fun b2 => ?_)
  · have e : x = zCo z := by omega
    subst e
    refine g_iinc (L' := [_, _, _, _, _]) q_X10_count_59 rfl rfl ?_
    refine g_goto (tgt := 9) q_X10_count_62 (by decide) ?_
    exact g_fl hnx ⟨rfl, rfl, rfl, rfl, trivial⟩
  have hnx2 := ih2 (x + 1) (by omega) (by omega)
  have eF : frX (zSO z) y (x + 1) = frX (zSO z) y x + bi (decide (zSO z (6 * y + x) ≠ 1)) := rfl
  rw [eF] at hnx2
  have hgi : gIn (zCo z) (zRo z) (6 * y + x) := by unfold gIn; omega
  have hso := hz.2.2.1 (6 * y + x) hgi
  have hsr := wf.1.2.1 (6 * y + x)
  refine g_iload_n q_X10_count_29 rfl ?_
  refine g_aload_n q_X10_count_30 rfl ?_
  refine g_get fl_X10_30 q_X10_count_31 (by repeat first | with_reducible assumption | with_reducible exact hput_s _ _ _ | refine (hput_n _ _ (by omega)).trans ?_ | exact hput_s _ _ _ | assumption) rfl ?_
  refine g_bipush q_X10_count_34 bp_6 ?_
  refine g_iload_n q_X10_count_36 rfl ?_
  refine g_imul q_X10_count_37 ?_
  refine g_iload q_X10_count_38 rfl ?_
  refine g_iadd q_X10_count_40 ?_
  refine g_topi (b := ((6 * y + x : Nat) : Int)) (by omega) ?_
  refine g_iaload q_X10_count_41 (by repeat first | with_reducible assumption | with_reducible exact hput_s _ _ _ | refine (hput_n _ _ (by omega)).trans ?_ | exact hput_s _ _ _ | assumption) (by omega) (by omega) ?_
  refine g_topi (b := zSO z (6 * y + x)) (by exact hso) ?_
  refine g_iconst q_X10_count_42 ?_
  refine g_icmp_ne (tgt := 50) q_X10_count_43 (by decide) ⟨by omega, by omega⟩ ⟨by omega, by omega⟩ (fun b3 => ?_) (fun b3 => ?_)
  · rw [decide_eq_true b3] at hnx2
    refine g_iconst q_X10_count_50 ?_
    refine g_iadd q_X10_count_51 ?_
    refine g_topi (b := (S + (frX (zSO z) y x + bi true))) (by exact Int.add_assoc _ _ _) ?_
    refine g_istore_n (L' := [_, _, _, _, _]) q_X10_count_52 (by decide) rfl ?_
    refine g_iinc (L' := [_, _, _, _, _]) q_X10_count_53 rfl rfl ?_
    refine g_goto (tgt := 20) q_X10_count_56 (by decide) ?_
    exact hnx2
  · rw [decide_eq_false (show ¬ zSO z (6 * y + x) ≠ 1 by omega)] at hnx2
    refine g_iconst q_X10_count_46 ?_
    refine g_goto (tgt := 51) q_X10_count_47 (by decide) ?_
    refine g_iadd q_X10_count_51 ?_
    refine g_topi (b := (S + (frX (zSO z) y x + bi false))) (by exact Int.add_assoc _ _ _) ?_
    refine g_istore_n (L' := [_, _, _, _, _]) q_X10_count_52 (by decide) rfl ?_
    refine g_iinc (L' := [_, _, _, _, _]) q_X10_count_53 rfl rfl ?_
    refine g_goto (tgt := 20) q_X10_count_56 (by decide) ?_
    exact hnx2
theorem sp_mamong (hΓ : Gd Γ) (hX : MX σ m e0 len tx fa z l wl wr) (c : Int) (hc : rg c) : Sp Γ miX10_among 0 0 [.ref m, .int (ii c)] σ (mQ (e1C z c) (aAmong z c.toNat) (SM σ m (e1C z c) len tx fa z l wl wr)) noX := by
  obtain ⟨I, A, N, -, h, hW⟩ := hX
  have h0 := h.1
  have hz := hW.2.2.1.1
  have wf := hW.2.2.1.2
  have n5 := wf.1.1.2.2
  refine Sp_of (L := [_, _, _, _]) hΓ (by decide +kernel) rfl (Nat.le_of_ble_eq_true rfl) rfl ?_
  refine g_aload_n q_X10_among_0 rfl ?_
  refine g_aload_n q_X10_among_1 rfl ?_
  refine g_iload_n q_X10_among_2 rfl ?_
  refine g_callV (rc' := 0) (rs' := 0) (As := [_]) cs_X10_237 q_X10_among_3 (sp_isCart hΓ h0 hz.1.2.2 n5 c hc) rfl (by repeat first | with_reducible assumption | with_reducible exact hput_s _ _ _ | refine (hput_n _ _ (by omega)).trans ?_ | exact hput_s _ _ _ | assumption) rfl rfl rfl rfl (Nat.le_of_ble_eq_true rfl) (by decide) (by decide) (by decide) (fun _ _ h => h.elim) (k_rb ?_)
  refine g_if_eq (tgt := 13) q_X10_among_6 (by decide) (bi_rg _) (fun b1 => ?_) (fun b1 => ?_)
  · have hf := of_decide_eq_false (bi_f b1)
    have e1 : e1C z c = 1 := if_neg hf
    refine g_iconst q_X10_among_13 ?_
    refine g_putM fp_X10_122 q_X10_among_14 (by repeat first | with_reducible assumption | with_reducible exact hput_s _ _ _ | refine (hput_n _ _ (by omega)).trans ?_ | exact hput_s _ _ _ | assumption) rfl rfl mset_0 ?_
    refine g_aload_n q_X10_among_17 rfl ?_
    refine g_get fl_X10_122 q_X10_among_18 (by repeat first | with_reducible assumption | with_reducible exact hput_s _ _ _ | refine (hput_n _ _ (by omega)).trans ?_ | exact hput_s _ _ _ | assumption) rfl ?_
    refine g_topi (b := (1 : Int)) (by rfl) ?_
    refine g_if_le (tgt := 26) q_X10_among_21 (by decide) ⟨by omega, by omega⟩ (fun b2 => ?_) (fun b2 => ?_)
    case refine_1 => exact absurd b2 (by decide)
    refine g_iconst q_X10_among_24 ?_
    refine g_ireturn q_X10_among_25.1 rfl ?_
    rw [e1]
    exact ⟨rfl, SM.t h hW 1⟩
  have ht := of_decide_eq_true (bi_t (show bi (decide (0 ≤ c ∧ c < zCa z)) ≠ 0 by omega))
  obtain ⟨k, hk⟩ : ∃ k : Nat, c = k := ⟨c.toNat, by omega⟩
  subst hk
  have e1 : e1C z k = 0 := if_pos ht
  rw [e1, Int.toNat_natCast]
  unfold mQ
  rw [if_pos rfl]
  have hM1 := h.putI (va_up I 0 ((0 : Nat) : Int))
  refine g_iconst q_X10_among_9 ?_
  refine g_goto (tgt := 14) q_X10_among_10 (by decide) ?_
  refine g_putM fp_X10_122 q_X10_among_14 (by repeat first | with_reducible assumption | with_reducible exact hput_s _ _ _ | refine (hput_n _ _ (by omega)).trans ?_ | exact hput_s _ _ _ | assumption) rfl rfl mset_0 ?_
  refine g_aload_n q_X10_among_17 rfl ?_
  refine g_get fl_X10_122 q_X10_among_18 (by repeat first | with_reducible assumption | with_reducible exact hput_s _ _ _ | refine (hput_n _ _ (by omega)).trans ?_ | exact hput_s _ _ _ | assumption) rfl ?_
  refine g_topi (b := (0 : Int)) (by rfl) ?_
  refine g_if_le (tgt := 26) q_X10_among_21 (by decide) ⟨by omega, by omega⟩ (fun b2 => ?_) (fun b2 => ?_)
  case refine_2 => exact absurd b2 (by decide)
  refine g_aload_n q_X10_among_26 rfl ?_
  refine g_callV (rc' := 0) (rs' := 0) (As := []) cs_X10_257 q_X10_among_27 (sp_freesM hΓ hM1) rfl (by repeat first | with_reducible assumption | with_reducible exact hput_s _ _ _ | refine (hput_n _ _ (by omega)).trans ?_ | exact hput_s _ _ _ | assumption) rfl rfl rfl rfl (Nat.le_of_ble_eq_true rfl) (by decide) (by decide) (by decide) (fun _ _ h => h.elim) (fun v τ hq => ?_)
  obtain ⟨rfl, hE, hM2⟩ := hq
  have hE : eqOff σ τ (inb m 34) := (eqOff.rfl'.put (a := m) ⟨by omega, by omega⟩ _).trans hE (fun a i => by unfold inb at *; omega)
  have j0 : va_up I 0 ((0 : Nat) : Int) 0 = ((0 : Nat) : Int) := rfl
  have hW1 := hW.I0 ((0 : Nat) : Int)
  obtain ⟨J, hJ⟩ : ∃ J, J = va_up I 0 ((0 : Nat) : Int) := ⟨_, rfl⟩
  rw [← hJ] at hM2 hW1 j0
  clear hJ hM1
  have hz1 := hW1.2.2.1.1
  have j15 := hz1.1.2.2
  obtain ⟨B0, hB0⟩ : ∃ B0, B0 = va_up (va_up A 11 fun _ => 0) 12 fun _ => 0 := ⟨_, rfl⟩
  have b0 : ∀ j, j ≠ 11 → j ≠ 12 → B0 j = A j := fun j h1 h2 => by rw [hB0, va_ne h2, va_ne h1]
  have b11 : B0 11 = fun _ => 0 := by rw [hB0]; rfl
  have b12 : B0 12 = fun _ => 0 := by rw [hB0]; rfl
  rw [← hB0] at hM2
  clear hB0
  obtain ⟨PL, hPL⟩ : ∃ PL, PL = zPL z := ⟨_, rfl⟩
  have hpl : ∀ o, o < zCa z → A 8 o = ((PL o).toNat : Int) ∧ (PL o).toNat < 36 := fun o ho => by
    obtain ⟨-, q1, -, -, -, -, q2⟩ := hz1.pg wf ho
    rw [hPL]
    exact ⟨q1, q2⟩
  have hM2' : MC τ m J (va_up B0 11 fun _ => 0) N := by
    rw [show (va_up B0 11 fun _ => 0) = B0 from funext fun j => by
      by_cases q : j = 11
      · rw [q, va_eq, b11]
      · rw [va_ne q]]
    exact hM2
  refine g_iconst q_X10_among_30 ?_
  refine g_istore_n (L' := [_, _, _, _]) q_X10_among_31 (by decide) rfl ?_
  refine g_loop3 (fun (o : Nat) (τ : AH) (bc : Nat → Int) => o ≤ zCa z ∧ eqOff σ τ (inb m 34) ∧ MC τ m J (va_up B0 11 bc) N ∧ z01 bc ∧ bR bc (amN PL k o)) (fun o τ bc => G Γ _ cX10_among _ _ 0 0 32 [some (.ref m), some (.int (ii (k : Int))), some (.int (ii o)), none] [] τ) (fun o τ bc => zCa z - o) ?_ 0 τ (fun _ => 0) ⟨Nat.zero_le _, hE, hM2', fun _ => Or.inl rfl, fun t c _ _ => by simp [bi, amN]⟩
  clear hM2 hM2' hE
  rintro o τ bc ⟨ho, hE, hM, hz9, hbR⟩ ih
  have t0 := hM.1
  have t8 : τ.2 (m + 8) = some (ai 5 (A 8)) := by rw [← b0 8 (by omega) (by omega)]; exact hM.a8
  have t11 : τ.2 (m + 11) = some (az 1476 bc) := hM.a11
  have hAll : ∀ j, j ≠ 11 → j ≠ 12 → va_up B0 11 bc j = A j := fun j h1 h2 => (va_ne h1).trans (b0 j h1 h2)
  refine g_iload_n q_X10_among_32 rfl ?_
  refine g_aload_n q_X10_among_33 rfl ?_
  refine g_get fl_X10_220 q_X10_among_34 (by repeat first | with_reducible assumption | with_reducible exact hput_s _ _ _ | refine (hput_n _ _ (by omega)).trans ?_ | exact hput_s _ _ _ | assumption) rfl ?_
  refine g_topi (b := (zCa z : Int)) (by exact j15) ?_
  refine g_icmp_ge (tgt := 82) q_X10_among_37 (by decide) ⟨by omega, by omega⟩ ⟨by omega, by omega⟩ (fun b3 => ?_) (fun b3 => ?_)
  · have e : o = zCa z := by omega
    subst e
    have hzB : MZ J (va_up B0 11 bc) z := hz1.cg ⟨rfl, rfl, rfl⟩ (hAll 6 (by omega) (by omega)) (hAll 8 (by omega) (by omega)) (hAll 9 (by omega) (by omega))
    have hF : FBr z (va_up B0 11 bc 11) (va_up B0 11 bc 12) (amN PL k (zCa z), fun _ => 0) := by
      rw [va_eq, va_ne (by omega), b12]
      exact ⟨hz9, fun _ => Or.inl rfl, hbR, fun t c k _ _ _ _ => by simp [bi], fun _ _ _ _ => rfl⟩
    refine g_aload_n q_X10_among_82 rfl ?_
    refine g_iload_n q_X10_among_83 rfl ?_
    refine g_callV (rc' := 0) (rs' := 0) (As := [_]) cs_X10_260 q_X10_among_84 (sp_laysWayF hΓ hM hzB wf hF (c := k) (by omega)) rfl (by repeat first | with_reducible assumption | with_reducible exact hput_s _ _ _ | refine (hput_n _ _ (by omega)).trans ?_ | exact hput_s _ _ _ | assumption) rfl rfl rfl rfl (Nat.le_of_ble_eq_true rfl) (by decide) (by decide) (by decide) (fun _ _ h => h.elim) (fun v τ1 hq => ?_)
    obtain ⟨rfl, hE1, B, hM3, hB, -⟩ := hq
    refine g_ireturn q_X10_among_87.1 rfl ?_
    have hAB : ∀ j, j < 11 ∨ 16 ≤ j → B j = A j := fun j hj => (hB j (by omega)).trans (hAll j (by omega) (by omega))
    refine ⟨?_, ⟨J, B, N, j0, hM3, hW1.cg (fun _ _ _ => rfl) (fun j hj => hAB j (by omega)) (fun i _ => by rw [hAB 16 (by omega)]) (by rw [hAB 16 (by omega)]; exact hW1.2.2.2.2.2.2.2)⟩, hE.trans hE1 (fun a i => by unfold inb at *; omega)⟩
    rw [hPL]
    rfl
  obtain ⟨p1, p2⟩ := hpl o (by omega)
  have hnx := fun τ' bc' a1 a2 a3 a4 => ih (o + 1) τ' bc' ⟨by omega, a1, a2, a3, a4⟩ (by omega)
  clear ih
  by_cases hok : o = k
  · have eA : amN PL k (o + 1) = amN PL k o := if_pos hok
    rw [eA] at hnx
    refine g_iconst q_X10_among_40 ?_
    refine g_istore_n (L' := [_, _, _, _]) q_X10_among_41 (by decide) rfl ?_
    refine g_iload_n q_X10_among_42 rfl ?_
    refine g_bipush q_X10_among_43 bp_41 ?_
    refine g_icmp_ge (tgt := 76) q_X10_among_45 (by decide) ⟨by omega, by omega⟩ ⟨by omega, by omega⟩ (fun b4 => ?_) (fun b4 => ?_)
    · exact absurd b4 (by decide)
    refine g_iload_n q_X10_among_48 rfl ?_
    refine g_iload_n q_X10_among_49 rfl ?_
    refine g_icmp_eq (tgt := 76) q_X10_among_50 (by decide) ⟨by omega, by omega⟩ ⟨by omega, by omega⟩ (fun b5 => ?_) (fun b5 => ?_)
    · have hn1 := hnx τ bc hE hM hz9 hbR
      refine g_iinc (L' := [_, _, _, _]) q_X10_among_76 rfl rfl ?_
      refine g_goto (tgt := 32) q_X10_among_79 (by decide) ?_
      exact g_fl hn1 ⟨rfl, rfl, rfl, trivial⟩
    · exact absurd (show (o : Int) = k by omega) b5
  have eA : amN PL k (o + 1) = fun t => amN PL k o t ||| bt1 (PL o).toNat := if_neg hok
  rw [eA] at hnx
  refine g_iconst q_X10_among_40 ?_
  refine g_istore_n (L' := [_, _, _, _]) q_X10_among_41 (by decide) rfl ?_
  refine g_loop3 (fun (t : Nat) (τ : AH) (bc' : Nat → Int) => t ≤ 41 ∧ eqOff σ τ (inb m 34) ∧ MC τ m J (va_up B0 11 bc') N ∧ z01 bc' ∧ ∀ s d, s < 41 → d < 36 → bc' (36 * s + d) = bi ((if s < t then amN PL k o s ||| bt1 (PL o).toNat else amN PL k o s).getLsbD d)) (fun t τ bc' => G Γ _ cX10_among _ _ 0 0 42 [some (.ref m), some (.int (ii (k : Int))), some (.int (ii o)), some (.int (ii t))] [] τ) (fun t τ bc' => 41 - t) ?_ 0 τ bc ⟨Nat.zero_le _, hE, hM, hz9, fun s d h1 h2 => by rw [if_neg (Nat.not_lt_zero s)]; exact hbR s d h1 h2⟩
  clear hE hM hz9 hbR t0 t8 t11 hAll
  rintro t τ bc' ⟨ht4, hE, hM, hz9, hbR⟩ ih2
  have t0 := hM.1
  have t8 : τ.2 (m + 8) = some (ai 5 (A 8)) := by rw [← b0 8 (by omega) (by omega)]; exact hM.a8
  have t11 : τ.2 (m + 11) = some (az 1476 bc') := hM.a11
  refine g_iload_n q_X10_among_42 rfl ?_
  refine g_bipush q_X10_among_43 bp_41 ?_
  refine g_icmp_ge (tgt := 76) q_X10_among_45 (by decide) ⟨by omega, by omega⟩ ⟨by omega, by omega⟩ (fun b4 => ?_) (fun b4 => ?_)
  · have hn1 := hnx τ bc' hE hM hz9 (fun s d h1 h2 => by rw [hbR s d h1 h2, if_pos (by omega)])
    refine g_iinc (L' := [_, _, _, _]) q_X10_among_76 rfl rfl ?_
    refine g_goto (tgt := 32) q_X10_among_79 (by decide) ?_
    exact g_fl hn1 ⟨rfl, rfl, rfl, trivial⟩
  refine g_iload_n q_X10_among_48 rfl ?_
  refine g_iload_n q_X10_among_49 rfl ?_
  refine g_icmp_eq (tgt := 76) q_X10_among_50 (by decide) ⟨by omega, by omega⟩ ⟨by omega, by omega⟩ (fun b5 => ?_) (fun b5 => ?_)
  · exact absurd (show o = k by omega) hok
  have hM3 := hM.putA 11 (by omega) (va_up bc' (36 * t + (PL o).toNat) 1)
  rw [show va_up (va_up B0 11 bc') 11 (va_up bc' (36 * t + (PL o).toNat) 1) = va_up B0 11 (va_up bc' (36 * t + (PL o).toNat) 1) from funext fun j => by unfold va_up; split <;> rfl] at hM3
  have hn2 := ih2 (t + 1) _ _ ⟨by omega, hE.put (a := m + 11) ⟨by omega, by omega⟩ _, hM3, z01_up hz9 _ (Or.inr rfl), fun s d h1 h2 => ?_⟩ (by omega)
  · refine g_aload_n q_X10_among_53 rfl ?_
    refine g_get fl_X10_45 q_X10_among_54 (by repeat first | with_reducible assumption | with_reducible exact hput_s _ _ _ | refine (hput_n _ _ (by omega)).trans ?_ | exact hput_s _ _ _ | assumption) rfl ?_
    refine g_bipush q_X10_among_57 bp_36 ?_
    refine g_iload_n q_X10_among_59 rfl ?_
    refine g_imul q_X10_among_60 ?_
    refine g_aload_n q_X10_among_61 rfl ?_
    refine g_get fl_X10_36 q_X10_among_62 (by repeat first | with_reducible assumption | with_reducible exact hput_s _ _ _ | refine (hput_n _ _ (by omega)).trans ?_ | exact hput_s _ _ _ | assumption) rfl ?_
    refine g_iload_n q_X10_among_65 rfl ?_
    refine g_iaload q_X10_among_66 (by repeat first | with_reducible assumption | with_reducible exact hput_s _ _ _ | refine (hput_n _ _ (by omega)).trans ?_ | exact hput_s _ _ _ | assumption) (by omega) (by omega) ?_
    refine g_topi (b := ((PL o).toNat : Int)) (by exact p1) ?_
    refine g_iadd q_X10_among_67 ?_
    refine g_topi (b := ((36 * t + (PL o).toNat : Nat) : Int)) (by omega) ?_
    refine g_iconst q_X10_among_68 ?_
    refine g_zastore q_X10_among_69 (by repeat first | with_reducible assumption | with_reducible exact hput_s _ _ _ | refine (hput_n _ _ (by omega)).trans ?_ | exact hput_s _ _ _ | assumption) (by omega) (by omega) (by first | exact Or.inl rfl | exact Or.inr rfl | omega) ?_
    refine g_iinc (L' := [_, _, _, _]) q_X10_among_70 rfl rfl ?_
    refine g_goto (tgt := 42) q_X10_among_73 (by decide) ?_
    exact hn2
  · by_cases q : s = t
    · rw [q, if_pos (Nat.lt_succ_self t), BitVec.getLsbD_or, bt1_b (by omega)]
      by_cases q2 : d = (PL o).toNat
      · rw [q2, va_eq, decide_eq_true rfl, Bool.or_true]
        rfl
      · rw [va_ne (by omega), decide_eq_false q2, Bool.or_false, hbR t d (by omega) h2, if_neg (Nat.lt_irrefl t)]
    · rw [va_ne (by omega), hbR s d h1 h2]
      by_cases q2 : s < t
      · rw [if_pos q2, if_pos (by omega)]
      · rw [if_neg q2, if_neg (by omega)]
end MCN

