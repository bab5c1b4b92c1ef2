/-! the reference: change, undo -/
section MU
variable {Γ : GT} {σ σ' : AH} {m : Nat} {I J : Nat → Int} {A A' : Nat → Nat → Int} {N : Nat → Nat → BitVec 64} {len : Nat} {tx : Nat → Int} {fa e0 : Int} {z : PS} {l : List (Int × Int × Int)} {wl : Nat} {wr : Nat → Int}
def mV2 (e : Nat) (S S' : AH → Prop) : Option Value → AH → Prop := fun r σ' => r = none ∧ (e = 0 → S σ') ∧ (e ≠ 0 → S' σ')
theorem sp_mchange (hΓ : Gd Γ) (hX : MX σ m e0 len tx fa z l wl wr) (c d : Int) (hc : rg c) (hd : rg d) : Sp Γ miX10_change 0 0 [.ref m, .int (ii c), .int (ii d)] σ (mV2 (eChg z c d) (SM σ m 0 len tx fa (swG z c.toNat d.toNat) (kpl l (2, c, d)) wl wr) (SM σ m (eChg z c d) len tx fa z l wl wr)) noX := by
  obtain ⟨I, A, N, -, h, hW⟩ := hX
  have h0 := h.1
  have hz := hW.2.2.1.1
  have wf := hW.2.2.1.2
  have n5 := wf.1.1.2.2
  have h9 := h.a9
  have hac := hW.2.2.2.2.1
  have bad : ∀ e : Nat, e ≠ 0 → e < 4 → eChg z c d = e → G Γ miX10_change cX10_change (mV2 (eChg z c d) (SM σ m 0 len tx fa (swG z c.toNat d.toNat) (kpl l (2, c, d)) wl wr) (SM σ m (eChg z c d) len tx fa z l wl wr)) noX 0 0 31 [some (.ref m), some (.int (ii c)), some (.int (ii d)), none] [.int (ii (e : Int)), .ref m] σ := by
    intro e he he4 hE
    refine g_putM fp_X10_122 q_X10_change_31 (by repeat first | with_reducible assumption | with_reducible exact hput_s _ _ _ | refine (hput_n _ _ (by omega)).trans ?_ | exact hput_s _ _ _ | assumption) rfl rfl mset_0 ?_
    refine g_aload_n q_X10_change_34 rfl ?_
    refine g_get fl_X10_122 q_X10_change_35 (by repeat first | with_reducible assumption | with_reducible exact hput_s _ _ _ | refine (hput_n _ _ (by omega)).trans ?_ | exact hput_s _ _ _ | assumption) rfl ?_
    refine g_topi (b := (e : Int)) (by rfl) ?_
    refine g_if_le (tgt := 42) q_X10_change_38 (by decide) ⟨by omega, by omega⟩ (fun b9 => ?_) (fun b9 => ?_)
    case refine_1 => exact absurd b9 (by omega)
    refine g_return q_X10_change_41.1 rfl ?_
    rw [hE]
    exact ⟨rfl, fun q => absurd q he, fun _ => SM.t h hW e⟩
  refine Sp_of (L := [_, _, _, _]) hΓ (by decide +kernel) rfl (Nat.le_of_ble_eq_true rfl) rfl ?_
  refine g_aload_n q_X10_change_0 rfl ?_
  refine g_aload_n q_X10_change_1 rfl ?_
  refine g_iload_n q_X10_change_2 rfl ?_
  refine g_callV (rc' := 0) (rs' := 0) (As := [_]) cs_X10_237 q_X10_change_3 (sp_isCart hΓ h0 hz.1.2.2 n5 c hc) rfl (by repeat first | with_reducible assumption | with_reducible exact hput_s _ _ _ | refine (hput_n _ _ (by omega)).trans ?_ | exact hput_s _ _ _ | assumption) rfl rfl rfl rfl (Nat.le_of_ble_eq_true rfl) (by decide) (by decide) (by decide) (fun _ _ h => h.elim) (k_rb ?_)
  refine g_if_eq (tgt := 17) q_X10_change_6 (by decide) (bi_rg _) (fun b1 => ?_) (fun b1 => ?_)
  · have e1 : eChg z c d = 1 := if_pos (Or.inl (of_decide_eq_false (bi_f b1)))
    refine g_iconst q_X10_change_17 ?_
    refine g_goto (tgt := 31) q_X10_change_18 (by decide) ?_
    exact bad 1 (by decide) (by decide) e1
  have hc1 := of_decide_eq_true (bi_t (show bi (decide (0 ≤ c ∧ c < zCa z)) ≠ 0 by omega))
  refine g_aload_n q_X10_change_9 rfl ?_
  refine g_iload_n q_X10_change_10 rfl ?_
  refine g_callV (rc' := 0) (rs' := 0) (As := [_]) cs_X10_237 q_X10_change_11 (sp_isCart hΓ h0 hz.1.2.2 n5 d hd) rfl (by repeat first | with_reducible assumption | with_reducible exact hput_s _ _ _ | refine (hput_n _ _ (by omega)).trans ?_ | exact hput_s _ _ _ | assumption) rfl rfl rfl rfl (Nat.le_of_ble_eq_true rfl) (by decide) (by decide) (by decide) (fun _ _ h => h.elim) (k_rb ?_)
  refine g_if_ne (tgt := 21) q_X10_change_14 (by decide) (bi_rg _) (fun b2 => ?_) (fun b2 => ?_)
  case refine_2 =>
    have e1 : eChg z c d = 1 := if_pos (Or.inr (of_decide_eq_false (bi_f (show bi (decide (0 ≤ d ∧ d < zCa z)) = 0 by omega))))
    refine g_iconst q_X10_change_17 ?_
    refine g_goto (tgt := 31) q_X10_change_18 (by decide) ?_
    exact bad 1 (by decide) (by decide) e1
  have hd1 := of_decide_eq_true (bi_t b2)
  refine g_iload_n q_X10_change_21 rfl ?_
  refine g_iload_n q_X10_change_22 rfl ?_
  refine g_icmp_ne (tgt := 30) q_X10_change_23 (by decide) hc hd (fun b3 => ?_) (fun b3 => ?_)
  case refine_2 =>
    have e1 : eChg z c d = 2 := by unfold eChg; rw [if_neg (fun q => q.elim (fun r => r hc1) (fun r => r hd1)), if_pos (by omega)]
    refine g_iconst q_X10_change_26 ?_
    refine g_goto (tgt := 31) q_X10_change_27 (by decide) ?_
    exact bad 2 (by decide) (by decide) e1
  have e1 : eChg z c d = 0 := by unfold eChg; rw [if_neg (fun q => q.elim (fun r => r hc1) (fun r => r hd1)), if_neg b3]
  clear bad
  obtain ⟨i, hi⟩ : ∃ i : Nat, c = i := ⟨c.toNat, by omega⟩
  obtain ⟨j, hj⟩ : ∃ j : Nat, d = j := ⟨d.toNat, by omega⟩
  subst hi
  subst hj
  have hij : i ≠ j := by omega
  have hM1 := h.putI (va_up I 0 ((0 : Nat) : Int))
  have hM2 := (hM1.putA 10 (by omega) (rmN (rmP (A 10) l.length) (A 6) (A 9) (rmA l.length))).putI (va_up (va_up (va_up I 0 ((0 : Nat) : Int)) 20 ((rmA l.length + 1 : Nat) : Int)) 33 (-1))
  have hM3 := hM2.putA 9 (by omega) (va_up (va_up (A 9) i (A 9 j)) j (A 9 i))
  have hgi := (hz.2.2.2 i (by omega)).2
  have hgj := (hz.2.2.2 j (by omega)).2
  refine g_iconst q_X10_change_30 ?_
  refine g_putM fp_X10_122 q_X10_change_31 (by repeat first | with_reducible assumption | with_reducible exact hput_s _ _ _ | refine (hput_n _ _ (by omega)).trans ?_ | exact hput_s _ _ _ | assumption) rfl rfl mset_0 ?_
  refine g_aload_n q_X10_change_34 rfl ?_
  refine g_get fl_X10_122 q_X10_change_35 (by repeat first | with_reducible assumption | with_reducible exact hput_s _ _ _ | refine (hput_n _ _ (by omega)).trans ?_ | exact hput_s _ _ _ | assumption) rfl ?_
  refine g_topi (b := (0 : Int)) (by rfl) ?_
  refine g_if_le (tgt := 42) q_X10_change_38 (by decide) ⟨by omega, by omega⟩ (fun b9 => ?_) (fun b9 => ?_)
  case refine_2 => exact absurd b9 (by decide)
  refine g_aload_n q_X10_change_42 rfl ?_
  refine g_callV (rc' := 0) (rs' := 0) (As := []) cs_X10_247 q_X10_change_43 (sp_remembers hΓ hM1.1 hM1.a6 hM1.a9 hM1.a10 l.length hac.2.1 hac.1) rfl (by repeat first | with_reducible assumption | with_reducible exact hput_s _ _ _ | refine (hput_n _ _ (by omega)).trans ?_ | exact hput_s _ _ _ | assumption) rfl rfl rfl rfl (Nat.le_of_ble_eq_true rfl) (by decide) (by decide) (by decide) (fun _ _ h => h.elim) (k_rv ?_)
  refine g_aload_n q_X10_change_46 rfl ?_
  refine g_get fl_X10_39 q_X10_change_47 (by repeat first | with_reducible assumption | with_reducible exact hput_s _ _ _ | refine (hput_n _ _ (by omega)).trans ?_ | exact hput_s _ _ _ | assumption) rfl ?_
  refine g_iload_n q_X10_change_50 rfl ?_
  refine g_iaload q_X10_change_51 (by repeat first | with_reducible assumption | with_reducible exact hput_s _ _ _ | refine (hput_n _ _ (by omega)).trans ?_ | exact hput_s _ _ _ | assumption) (by omega) (by omega) ?_
  refine g_topi (b := A 9 i) (by rfl) ?_
  refine g_istore_n (L' := [_, _, _, _]) q_X10_change_52 (by decide) rfl ?_
  refine g_aload_n q_X10_change_53 rfl ?_
  refine g_get fl_X10_39 q_X10_change_54 (by repeat first | with_reducible assumption | with_reducible exact hput_s _ _ _ | refine (hput_n _ _ (by omega)).trans ?_ | exact hput_s _ _ _ | assumption) rfl ?_
  refine g_iload_n q_X10_change_57 rfl ?_
  refine g_aload_n q_X10_change_58 rfl ?_
  refine g_get fl_X10_39 q_X10_change_59 (by repeat first | with_reducible assumption | with_reducible exact hput_s _ _ _ | refine (hput_n _ _ (by omega)).trans ?_ | exact hput_s _ _ _ | assumption) rfl ?_
  refine g_iload_n q_X10_change_62 rfl ?_
  refine g_iaload q_X10_change_63 (by repeat first | with_reducible assumption | with_reducible exact hput_s _ _ _ | refine (hput_n _ _ (by omega)).trans ?_ | exact hput_s _ _ _ | assumption) (by omega) (by omega) ?_
  refine g_topi (b := A 9 j) (by rfl) ?_
  refine g_iastore q_X10_change_64 (by repeat first | with_reducible assumption | with_reducible exact hput_s _ _ _ | refine (hput_n _ _ (by omega)).trans ?_ | exact hput_s _ _ _ | assumption) (by omega) (by omega) ?_
  refine g_aload_n q_X10_change_65 rfl ?_
  refine g_get fl_X10_39 q_X10_change_66 (by repeat first | with_reducible assumption | with_reducible exact hput_s _ _ _ | refine (hput_n _ _ (by omega)).trans ?_ | exact hput_s _ _ _ | assumption) rfl ?_
  refine g_iload_n q_X10_change_69 rfl ?_
  refine g_iload_n q_X10_change_70 rfl ?_
  refine g_iastore q_X10_change_71 (by repeat first | with_reducible assumption | with_reducible exact hput_s _ _ _ | refine (hput_n _ _ (by omega)).trans ?_ | exact hput_s _ _ _ | assumption) (by omega) (by omega) ?_
  refine g_return q_X10_change_72.1 rfl ?_
  rw [hput_hput, e1, Int.toNat_natCast, Int.toNat_natCast]
  refine ⟨rfl, fun _ => ⟨⟨va_up (va_up (va_up I 0 ((0 : Nat) : Int)) 20 ((rmA l.length + 1 : Nat) : Int)) 33 (-1), _, N, rfl, hM3, ?_⟩, ?_⟩, fun q => absurd rfl q⟩
  · refine hW.act (wf_chg wf (by omega) (by omega) hij) (Or.inr (Or.inr ⟨rfl, by show (0 : Int) ≤ (i : Int); omega, by show (i : Int) < 5; omega, by show (0 : Int) ≤ (j : Int); omega, by show (j : Int) < 5; omega⟩)) ?_ ?_ (fun k q1 q2 q3 => by rw [va_ne q3, va_ne q2, va_ne q1]) rfl rfl (fun k q1 q2 q3 => by rw [va_ne q2, va_ne q3]) rfl
    · show sZ z (zSO z) (va_up (va_up (va_up (va_up (zGO z) i (zGO z j)) j (zGO z i)) i (va_up (va_up (zGO z) i (zGO z j)) j (zGO z i) j)) j (va_up (va_up (zGO z) i (zGO z j)) j (zGO z i) i)) = z
      rw [swap_back hij]
      rfl
    · refine ⟨hz.1, hz.2.1, hz.2.2.1, fun k hk => ⟨(hz.2.2.2 k hk).1, ?_⟩⟩
      show va_up (va_up (A 9) i (A 9 j)) j (A 9 i) k = va_up (va_up (zGO z) i (zGO z j)) j (zGO z i) k
      rw [hgi, hgj]
      have hgk := (hz.2.2.2 k hk).2
      unfold va_up
      rw [hgk]
  · exact (((eqOff.rfl'.put (a := m) ⟨by omega, by omega⟩ _).put (a := m + 10) ⟨by omega, by omega⟩ _).put (a := m) ⟨by omega, by omega⟩ _).put (a := m + 9) ⟨by omega, by omega⟩ _
end MU

