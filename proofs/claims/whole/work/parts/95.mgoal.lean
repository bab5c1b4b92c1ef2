/-! the reference: goal -/
section MGo
variable {Γ : GT} {σ σ' : AH} {m : Nat} {len : Nat} {tx : Nat → Int} {fa e0 : Int} {z : PS} {l : List (Int × Int × Int)} {wl : Nat} {wr : Nat → Int}
theorem sp_mgoal (hΓ : Gd Γ) (hX : MX σ m e0 len tx fa z l wl wr) (c a b : Int) (hc : rg c) (ha : rg a) (hb : rg b) : Sp Γ miX10_goal 0 0 [.ref m, .int (ii c), .int (ii a), .int (ii b)] σ (mQ2 (eGoal z c a b) (zGO z c.toNat) (SM σ m 0 len tx fa (sZ z (zSO z) (va_up (zGO z) c.toNat (6 * b + a))) (kpl l (1, c, zGO z c.toNat)) wl wr) (SM σ m (eGoal z c a b) len tx fa z l wl wr)) noX := by
  obtain ⟨I, A, N, -, h, hW⟩ := hX
  have h0 := h.1
  have hz := hW.2.2.1.1
  have wf := hW.2.2.1.2
  have c6 := wf.1.1.1
  have r6 := wf.1.1.2.1
  have n5 := wf.1.1.2.2
  have h6 := h.a6
  have h9 := h.a9
  have hac := hW.2.2.2.2.1
  have hnI : I 15 = (zCa z : Int) := hz.1.2.2
  /- behind the loop, thrown -/
  have fin : ∀ (e : Nat) (o : Option Value), e ≠ 0 → e < 4 → eGoal z c a b = e → G Γ miX10_goal cX10_goal (mQ2 (eGoal z c a b) (zGO z c.toNat) (SM σ m 0 len tx fa (sZ z (zSO z) (va_up (zGO z) c.toNat (6 * b + a))) (kpl l (1, c, zGO z c.toNat)) wl wr) (SM σ m (eGoal z c a b) len tx fa z l wl wr)) noX 0 0 97 [some (.ref m), some (.int (ii c)), some (.int (ii a)), some (.int (ii b)), o] [] (hput σ m (mdo m (va_up I 0 (e : Int)))) := by
    intro e o he he4 hE
    refine g_aload_n q_X10_goal_97 rfl ?_
    refine g_get fl_X10_122 q_X10_goal_98 (by repeat first | with_reducible assumption | with_reducible exact hput_s _ _ _ | refine (hput_n _ _ (by omega)).trans ?_ | exact hput_s _ _ _ | assumption) rfl ?_
    refine g_topi (b := (e : Int)) (by rfl) ?_
    refine g_if_le (tgt := 106) q_X10_goal_101 (by decide) ⟨by omega, by omega⟩ (fun b9 => ?_) (fun b9 => ?_)
    case refine_1 => exact absurd b9 (by omega)
    refine g_iconst q_X10_goal_104 ?_
    refine g_ireturn q_X10_goal_105.1 rfl ?_
    rw [hE]
    exact ⟨by rw [if_neg he], fun q => absurd q he, fun _ => SM.t h hW e⟩
  have bad : ∀ e : Nat, e ≠ 0 → e < 4 → eGoal z c a b = e → G Γ miX10_goal cX10_goal (mQ2 (eGoal z c a b) (zGO z c.toNat) (SM σ m 0 len tx fa (sZ z (zSO z) (va_up (zGO z) c.toNat (6 * b + a))) (kpl l (1, c, zGO z c.toNat)) wl wr) (SM σ m (eGoal z c a b) len tx fa z l wl wr)) noX 0 0 42 [some (.ref m), some (.int (ii c)), some (.int (ii a)), some (.int (ii b)), none] [.int (ii (e : Int)), .ref m] σ := by
    intro e he he4 hE
    refine g_putM fp_X10_122 q_X10_goal_42 (by repeat first | with_reducible assumption | with_reducible exact hput_s _ _ _ | refine (hput_n _ _ (by omega)).trans ?_ | exact hput_s _ _ _ | assumption) rfl rfl mset_0 ?_
    refine g_iconst q_X10_goal_45 ?_
    refine g_istore (L' := [_, _, _, _, _]) q_X10_goal_46 (by decide) rfl ?_
    refine g_iload q_X10_goal_48 rfl ?_
    refine g_aload_n q_X10_goal_50 rfl ?_
    refine g_get fl_X10_220 q_X10_goal_51 (by repeat first | with_reducible assumption | with_reducible exact hput_s _ _ _ | refine (hput_n _ _ (by omega)).trans ?_ | exact hput_s _ _ _ | assumption) rfl ?_
    refine g_topi (b := (zCa z : Int)) (by exact hnI) ?_
    refine g_icmp_ge (tgt := 97) q_X10_goal_54 (by decide) ⟨by omega, by omega⟩ ⟨by omega, by omega⟩ (fun b8 => ?_) (fun b8 => ?_)
    · exact fin e _ he he4 hE
    refine g_aload_n q_X10_goal_57 rfl ?_
    refine g_get fl_X10_122 q_X10_goal_58 (by repeat first | with_reducible assumption | with_reducible exact hput_s _ _ _ | refine (hput_n _ _ (by omega)).trans ?_ | exact hput_s _ _ _ | assumption) rfl ?_
    refine g_topi (b := (e : Int)) (by rfl) ?_
    refine g_if_ne (tgt := 97) q_X10_goal_61 (by decide) ⟨by omega, by omega⟩ (fun b9 => ?_) (fun b9 => ?_)
    · exact fin e _ he he4 hE
    · exact absurd b9 (by omega)
  refine Sp_of (L := [_, _, _, _, _]) hΓ (by decide +kernel) rfl (Nat.le_of_ble_eq_true rfl) rfl ?_
  refine g_aload_n q_X10_goal_0 rfl ?_
  refine g_aload_n q_X10_goal_1 rfl ?_
  refine g_iload_n q_X10_goal_2 rfl ?_
  refine g_callV (rc' := 0) (rs' := 0) (As := [_]) cs_X10_237 q_X10_goal_3 (sp_isCart hΓ h0 hz.1.2.2 n5 c hc) rfl (by repeat first | with_reducible assumption | with_reducible exact hput_s _ _ _ | refine (hput_n _ _ (by omega)).trans ?_ | exact hput_s _ _ _ | assumption) rfl rfl rfl rfl (Nat.le_of_ble_eq_true rfl) (by decide) (by decide) (by decide) (fun _ _ h => h.elim) (k_rb ?_)
  refine g_if_eq (tgt := 18) q_X10_goal_6 (by decide) (bi_rg _) (fun b1 => ?_) (fun b1 => ?_)
  · have e1 : eGoal z c a b = 1 := if_pos (Or.inl (of_decide_eq_false (bi_f b1)))
    refine g_iconst q_X10_goal_18 ?_
    refine g_goto (tgt := 42) q_X10_goal_19 (by decide) ?_
    exact bad 1 (by decide) (by decide) e1
  have hc1 := of_decide_eq_true (bi_t (show bi (decide (0 ≤ c ∧ c < zCa z)) ≠ 0 by omega))
  refine g_aload_n q_X10_goal_9 rfl ?_
  refine g_iload_n q_X10_goal_10 rfl ?_
  refine g_iload_n q_X10_goal_11 rfl ?_
  refine g_callV (rc' := 0) (rs' := 0) (As := [_, _]) cs_X10_233 q_X10_goal_12 (sp_isCell hΓ h0 hz.1.1 hz.1.2.1 c6 r6 a b ha hb) rfl (by repeat first | with_reducible assumption | with_reducible exact hput_s _ _ _ | refine (hput_n _ _ (by omega)).trans ?_ | exact hput_s _ _ _ | assumption) rfl rfl rfl rfl (Nat.le_of_ble_eq_true rfl) (by decide) (by decide) (by decide) (fun _ _ h => h.elim) (k_rb ?_)
  refine g_if_ne (tgt := 22) q_X10_goal_15 (by decide) (bi_rg _) (fun b2 => ?_) (fun b2 => ?_)
  case refine_2 =>
    have e1 : eGoal z c a b = 1 := if_pos (Or.inr (of_decide_eq_false (bi_f (show bi (decide (0 ≤ a ∧ a < zCo z ∧ 0 ≤ b ∧ b < zRo z)) = 0 by omega))))
    refine g_iconst q_X10_goal_18 ?_
    refine g_goto (tgt := 42) q_X10_goal_19 (by decide) ?_
    exact bad 1 (by decide) (by decide) e1
  have hxy := of_decide_eq_true (bi_t b2)
  obtain ⟨g, hg⟩ : ∃ g : Nat, 6 * b + a = g := ⟨(6 * b + a).toNat, by omega⟩
  have hgi : gIn (zCo z) (zRo z) g := ⟨by omega, by omega⟩
  have g36 := gIn_36 r6 hgi
  have hso : A 6 g = zSO z g := hz.2.2.1 g hgi
  have hsr := hz.2.1 g
  have hE1 : eGoal z c a b = if zSO z g = 1 ∨ oth z c g = true then 2 else 0 := by
    unfold eGoal
    rw [if_neg (fun q => q.elim (fun r => r hc1) (fun r => r hxy)), hg, Int.toNat_natCast]
  refine g_aload_n q_X10_goal_22 rfl ?_
  refine g_get fl_X10_30 q_X10_goal_23 (by repeat first | with_reducible assumption | with_reducible exact hput_s _ _ _ | refine (hput_n _ _ (by omega)).trans ?_ | exact hput_s _ _ _ | assumption) rfl ?_
  refine g_bipush q_X10_goal_26 bp_6 ?_
  refine g_iload_n q_X10_goal_28 rfl ?_
  refine g_imul q_X10_goal_29 ?_
  refine g_iload_n q_X10_goal_30 rfl ?_
  refine g_iadd q_X10_goal_31 ?_
  refine g_topi (b := (g : Int)) (by exact hg) ?_
  refine g_iaload q_X10_goal_32 (by repeat first | with_reducible assumption | with_reducible exact hput_s _ _ _ | refine (hput_n _ _ (by omega)).trans ?_ | exact hput_s _ _ _ | assumption) (by omega) (by omega) ?_
  refine g_topi (b := A 6 g) (by rfl) ?_
  refine g_iconst q_X10_goal_33 ?_
  refine g_icmp_ne (tgt := 41) q_X10_goal_34 (by decide) ⟨by omega, by omega⟩ ⟨by omega, by omega⟩ (fun b3 => ?_) (fun b3 => ?_)
  case refine_2 =>
    have e1 : eGoal z c a b = 2 := by rw [hE1, if_pos (Or.inl (by omega))]
    refine g_iconst q_X10_goal_37 ?_
    refine g_goto (tgt := 42) q_X10_goal_38 (by decide) ?_
    exact bad 2 (by decide) (by decide) e1
  clear bad
  obtain ⟨i, hi⟩ : ∃ i : Nat, c = i := ⟨c.toNat, by omega⟩
  subst hi
  have hgo : ∀ k, k < zCa z → rg (A 9 k) ∧ A 9 k = zGO z k := fun k hk => by
    obtain ⟨-, -, p2, -, -, p3, -⟩ := hz.pg wf hk
    exact ⟨by rw [p2]; unfold rg; omega, (hz.2.2.2 k hk).2⟩
  refine g_iconst q_X10_goal_41 ?_
  refine g_putM fp_X10_122 q_X10_goal_42 (by repeat first | with_reducible assumption | with_reducible exact hput_s _ _ _ | refine (hput_n _ _ (by omega)).trans ?_ | exact hput_s _ _ _ | assumption) rfl rfl mset_0 ?_
  refine g_iconst q_X10_goal_45 ?_
  refine g_istore (L' := [_, _, _, _, _]) q_X10_goal_46 (by decide) rfl ?_
  refine g_loop (fun o => o ≤ zCa z ∧ ∀ j, j < o → ¬ (j ≠ i ∧ zGO z j = g)) (fun o : Nat => G Γ _ cX10_goal _ _ 0 0 48 [some (.ref m), some (.int (ii i)), some (.int (ii a)), some (.int (ii b)), some (.int (ii o))] [] (hput σ m (mdo m (va_up I 0 0)))) (fun o => zCa z - o) ?_ 0 ⟨Nat.zero_le _, fun j hj => absurd hj (Nat.not_lt_zero j)⟩
  rintro o ⟨ho, hno⟩ ih
  refine g_iload q_X10_goal_48 rfl ?_
  refine g_aload_n q_X10_goal_50 rfl ?_
  refine g_get fl_X10_220 q_X10_goal_51 (by repeat first | with_reducible assumption | with_reducible exact hput_s _ _ _ | refine (hput_n _ _ (by omega)).trans ?_ | exact hput_s _ _ _ | assumption) rfl ?_
  refine g_topi (b := (zCa z : Int)) (by exact hnI) ?_
  refine g_icmp_ge (tgt := 97) q_X10_goal_54 (by decide) ⟨by omega, by omega⟩ ⟨by omega, by omega⟩ (fun b4 => ?_) (fun b4 => ?_)
  case refine_2 =>
    obtain ⟨r1, r2⟩ := hgo o (by omega)
    have nx : ¬ (o ≠ i ∧ zGO z o = g) → G Γ miX10_goal cX10_goal (mQ2 (eGoal z i a b) (zGO z (i : Int).toNat) (SM σ m 0 len tx fa (sZ z (zSO z) (va_up (zGO z) (i : Int).toNat (6 * b + a))) (kpl l (1, i, zGO z (i : Int).toNat)) wl wr) (SM σ m (eGoal z i a b) len tx fa z l wl wr)) noX 0 0 91 [some (.ref m), some (.int (ii i)), some (.int (ii a)), some (.int (ii b)), some (.int (ii o))] [] (hput σ m (mdo m (va_up I 0 0))) := fun q => by
      have hnx := ih (o + 1) ⟨by omega, fun j hj => by
        by_cases e : j = o
        · subst e; exact q
        · exact hno j (by omega)⟩ (by omega)
      refine g_iinc (L' := [_, _, _, _, _]) q_X10_goal_91 rfl rfl ?_
      refine g_goto (tgt := 48) q_X10_goal_94 (by decide) ?_
      exact hnx
    refine g_aload_n q_X10_goal_57 rfl ?_
    refine g_get fl_X10_122 q_X10_goal_58 (by repeat first | with_reducible assumption | with_reducible exact hput_s _ _ _ | refine (hput_n _ _ (by omega)).trans ?_ | exact hput_s _ _ _ | assumption) rfl ?_
    refine g_topi (b := (0 : Int)) (by rfl) ?_
    refine g_if_ne (tgt := 97) q_X10_goal_61 (by decide) ⟨by omega, by omega⟩ (fun b5 => ?_) (fun b5 => ?_)
    · exact absurd rfl b5
    refine g_iload q_X10_goal_64 rfl ?_
    refine g_iload_n q_X10_goal_66 rfl ?_
    refine g_icmp_eq (tgt := 91) q_X10_goal_67 (by decide) ⟨by omega, by omega⟩ ⟨by omega, by omega⟩ (fun b6 => ?_) (fun b6 => ?_)
    · exact nx (fun q => q.1 (by omega))
    refine g_aload_n q_X10_goal_70 rfl ?_
    refine g_get fl_X10_39 q_X10_goal_71 (by repeat first | with_reducible assumption | with_reducible exact hput_s _ _ _ | refine (hput_n _ _ (by omega)).trans ?_ | exact hput_s _ _ _ | assumption) rfl ?_
    refine g_iload q_X10_goal_74 rfl ?_
    refine g_iaload q_X10_goal_76 (by repeat first | with_reducible assumption | with_reducible exact hput_s _ _ _ | refine (hput_n _ _ (by omega)).trans ?_ | exact hput_s _ _ _ | assumption) (by omega) (by omega) ?_
    refine g_topi (b := A 9 o) (by rfl) ?_
    refine g_bipush q_X10_goal_77 bp_6 ?_
    refine g_iload_n q_X10_goal_79 rfl ?_
    refine g_imul q_X10_goal_80 ?_
    refine g_iload_n q_X10_goal_81 rfl ?_
    refine g_iadd q_X10_goal_82 ?_
    refine g_topi (b := (g : Int)) (by exact hg) ?_
    refine g_icmp_ne (tgt := 91) q_X10_goal_83 (by decide) r1 ⟨by omega, by omega⟩ (fun b7 => ?_) (fun b7 => ?_)
    · exact nx (fun q => b7 (by omega))
    · have hot : oth z i g = true := decide_eq_true ⟨o, by omega, by omega, by omega⟩
      have e1 : eGoal z i a b = 2 := by rw [hE1, if_pos (Or.inr hot)]
      refine g_aload_n q_X10_goal_86 rfl ?_
      refine g_iconst q_X10_goal_87 ?_
      refine g_putM fp_X10_122 q_X10_goal_88 (by repeat first | with_reducible assumption | with_reducible exact hput_s _ _ _ | refine (hput_n _ _ (by omega)).trans ?_ | exact hput_s _ _ _ | assumption) rfl rfl mset_0 ?_
      rw [hput_hput, va_upup]
      refine g_iinc (L' := [_, _, _, _, _]) q_X10_goal_91 rfl rfl ?_
      refine g_goto (tgt := 48) q_X10_goal_94 (by decide) ?_
      refine g_iload q_X10_goal_48 rfl ?_
      refine g_aload_n q_X10_goal_50 rfl ?_
      refine g_get fl_X10_220 q_X10_goal_51 (by repeat first | with_reducible assumption | with_reducible exact hput_s _ _ _ | refine (hput_n _ _ (by omega)).trans ?_ | exact hput_s _ _ _ | assumption) rfl ?_
      refine g_topi (b := (zCa z : Int)) (by exact hnI) ?_
      refine g_icmp_ge (tgt := 97) q_X10_goal_54 (by decide) ⟨by omega, by omega⟩ ⟨by omega, by omega⟩ (fun b8 => ?_) (fun b8 => ?_)
      · exact fin 2 _ (by decide) (by decide) e1
      refine g_aload_n q_X10_goal_57 rfl ?_
      refine g_get fl_X10_122 q_X10_goal_58 (by repeat first | with_reducible assumption | with_reducible exact hput_s _ _ _ | refine (hput_n _ _ (by omega)).trans ?_ | exact hput_s _ _ _ | assumption) rfl ?_
      refine g_topi (b := (2 : Int)) (by rfl) ?_
      refine g_if_ne (tgt := 97) q_X10_goal_61 (by decide) ⟨by omega, by omega⟩ (fun b9 => ?_) (fun b9 => ?_)
      · exact fin 2 _ (by decide) (by decide) e1
      · exact absurd b9 (by decide)
  have hot : oth z i g = false := decide_eq_false (fun ⟨o', q1, q2, q3⟩ => hno o' (by omega) ⟨by omega, q3⟩)
  have hs1 : zSO z g ≠ 1 := by omega
  have e1 : eGoal z i a b = 0 := by rw [hE1, if_neg (fun q => q.elim hs1 (fun r => by rw [hot] at r; cases r))]
  clear fin ih
  have hM1 := h.putI (va_up I 0 ((0 : Nat) : Int))
  have hM2 := (hM1.putA 10 (by omega) (rmN (rmP (A 10) l.length) (A 6) (A 9) (rmA l.length))).putI (va_up (va_up (va_up I 0 ((0 : Nat) : Int)) 20 ((rmA l.length + 1 : Nat) : Int)) 33 (-1))
  have hM3 := hM2.putA 9 (by omega) (va_up (A 9) i (g : Int))
  have hgi9 := (hgo i (by omega)).2
  refine g_aload_n q_X10_goal_97 rfl ?_
  refine g_get fl_X10_122 q_X10_goal_98 (by repeat first | with_reducible assumption | with_reducible exact hput_s _ _ _ | refine (hput_n _ _ (by omega)).trans ?_ | exact hput_s _ _ _ | assumption) rfl ?_
  refine g_topi (b := (0 : Int)) (by rfl) ?_
  refine g_if_le (tgt := 106) q_X10_goal_101 (by decide) ⟨by omega, by omega⟩ (fun b9 => ?_) (fun b9 => ?_)
  case refine_2 => exact absurd b9 (by decide)
  refine g_aload_n q_X10_goal_106 rfl ?_
  refine g_callV (rc' := 0) (rs' := 0) (As := []) cs_X10_247 q_X10_goal_107 (sp_remembers hΓ hM1.1 hM1.a6 hM1.a9 hM1.a10 l.length hac.2.1 hac.1) rfl (by repeat first | with_reducible assumption | with_reducible exact hput_s _ _ _ | refine (hput_n _ _ (by omega)).trans ?_ | exact hput_s _ _ _ | assumption) rfl rfl rfl rfl (Nat.le_of_ble_eq_true rfl) (by decide) (by decide) (by decide) (fun _ _ h => h.elim) (k_rv ?_)
  refine g_aload_n q_X10_goal_110 rfl ?_
  refine g_get fl_X10_39 q_X10_goal_111 (by repeat first | with_reducible assumption | with_reducible exact hput_s _ _ _ | refine (hput_n _ _ (by omega)).trans ?_ | exact hput_s _ _ _ | assumption) rfl ?_
  refine g_iload_n q_X10_goal_114 rfl ?_
  refine g_iaload q_X10_goal_115 (by repeat first | with_reducible assumption | with_reducible exact hput_s _ _ _ | refine (hput_n _ _ (by omega)).trans ?_ | exact hput_s _ _ _ | assumption) (by omega) (by omega) ?_
  refine g_topi (b := A 9 i) (by rfl) ?_
  refine g_istore (L' := [_, _, _, _, _]) q_X10_goal_116 (by decide) rfl ?_
  refine g_aload_n q_X10_goal_118 rfl ?_
  refine g_get fl_X10_39 q_X10_goal_119 (by repeat first | with_reducible assumption | with_reducible exact hput_s _ _ _ | refine (hput_n _ _ (by omega)).trans ?_ | exact hput_s _ _ _ | assumption) rfl ?_
  refine g_iload_n q_X10_goal_122 rfl ?_
  refine g_bipush q_X10_goal_123 bp_6 ?_
  refine g_iload_n q_X10_goal_125 rfl ?_
  refine g_imul q_X10_goal_126 ?_
  refine g_iload_n q_X10_goal_127 rfl ?_
  refine g_iadd q_X10_goal_128 ?_
  refine g_topi (b := (g : Int)) (by exact hg) ?_
  refine g_iastore q_X10_goal_129 (by repeat first | with_reducible assumption | with_reducible exact hput_s _ _ _ | refine (hput_n _ _ (by omega)).trans ?_ | exact hput_s _ _ _ | assumption) (by omega) (by omega) ?_
  refine g_iload q_X10_goal_130 rfl ?_
  refine g_ireturn q_X10_goal_132.1 rfl ?_
  rw [e1, hg, Int.toNat_natCast]
  refine ⟨by rw [if_pos rfl, hgi9], fun _ => ⟨⟨va_up (va_up (va_up I 0 ((0 : Nat) : Int)) 20 ((rmA l.length + 1 : Nat) : Int)) 33 (-1), _, N, rfl, hM3, ?_⟩, ?_⟩, fun q => absurd rfl q⟩
  · refine hW.act (wf_goal wf (by omega) ⟨by omega, by omega, by omega⟩ (by rw [Int.toNat_natCast]; exact hs1) hot) (Or.inr (Or.inl ⟨rfl, by show (0 : Int) ≤ (i : Int); omega, by show (i : Int) < 5; omega⟩)) ?_ ?_ (fun k q1 q2 q3 => by rw [va_ne q3, va_ne q2, va_ne q1]) rfl rfl (fun k q1 q2 q3 => by rw [va_ne q2, va_ne q3]) rfl
    · show sZ z (zSO z) (va_up (va_up (zGO z) i (g : Int)) (i : Int).toNat (zGO z i)) = z
      rw [Int.toNat_natCast, up_back]
      rfl
    · refine ⟨hz.1, hz.2.1, hz.2.2.1, fun k hk => ⟨(hz.2.2.2 k hk).1, ?_⟩⟩
      show va_up (A 9) i (g : Int) k = va_up (zGO z) i (g : Int) k
      have hgk := (hz.2.2.2 k hk).2
      unfold va_up
      rw [hgk]
  · exact (((eqOff.rfl'.put (a := m) ⟨by omega, by omega⟩ _).put (a := m + 10) ⟨by omega, by omega⟩ _).put (a := m) ⟨by omega, by omega⟩ _).put (a := m + 9) ⟨by omega, by omega⟩ _
end MGo

