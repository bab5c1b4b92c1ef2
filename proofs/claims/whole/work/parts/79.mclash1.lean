/-! the reference: whether two clash -/
section MC
variable {Γ : GT} {σ : AH} {m : Nat} {I : Nat → Int} {W : Nat → Int}
/-- whether two clash at a time by a sort -/
def clR (P : Nat → Int) (a b t s : Nat) : Bool := if s = 0 then decide (P (41 * a + t) = P (41 * b + t)) else decide (t ≠ 0 ∧ P (41 * a + t) ≠ P (41 * a + (t - 1)) ∧ P (41 * a + t) = P (41 * b + (t - 1)) ∧ P (41 * b + t) = P (41 * a + (t - 1)))
theorem sp_isClash (hΓ : Gd Γ) (h0 : σ.2 m = some (mdo m I)) (h16 : σ.2 (m + 16) = some (ai 62115 W)) (hW : ∀ i, rg (W i)) (k a b t s : Nat) (hk : k < 303) (ha : a < 5) (hb : b < 5) (ht : t < 41) (hs : s < 2) : Sp Γ miX10_isClash 0 0 [.ref m, .int (ii k), .int (ii a), .int (ii b), .int (ii t), .int (ii s)] σ (rb (clR (fun i => W (205 * k + i)) a b t s) σ) noX := by
  obtain ⟨P, hP⟩ : ∃ P : Nat → Int, P = fun i => W (205 * k + i) := ⟨_, rfl⟩
  have hPr : ∀ t, rg (P t) := fun t => by rw [hP]; exact hW _
  have hPe : ∀ i, W (205 * k + i) = P i := fun i => by rw [hP]
  rw [← hP]
  have no : ∀ pc, pc = 104 → clR P a b t s = false → G Γ miX10_isClash cX10_isClash (rb (clR P a b t s) σ) noX 0 0 104 [some (.ref m), some (.int (ii k)), some (.int (ii a)), some (.int (ii b)), some (.int (ii t)), some (.int (ii s))] [] σ := by
    intro _ _ h
    rw [h]
    refine g_iconst q_X10_isClash_104 ?_
    refine g_zreturn q_X10_isClash_105.1 rfl (by first | exact Or.inl rfl | exact Or.inr rfl | omega) ?_
    exact ⟨rfl, rfl⟩
  have no2 : clR P a b t s = false → G Γ miX10_isClash cX10_isClash (rb (clR P a b t s) σ) noX 0 0 56 [some (.ref m), some (.int (ii k)), some (.int (ii a)), some (.int (ii b)), some (.int (ii t)), some (.int (ii s))] [] σ := by
    intro h
    rw [h]
    refine g_iconst q_X10_isClash_56 ?_
    refine g_zreturn q_X10_isClash_57.1 rfl (by first | exact Or.inl rfl | exact Or.inr rfl | omega) ?_
    exact ⟨rfl, rfl⟩
  refine Sp_of (L := [_, _, _, _, _, _]) hΓ (by decide +kernel) rfl (Nat.le_of_ble_eq_true rfl) rfl ?_
  refine g_iload q_X10_isClash_0 rfl ?_
  refine g_if_ne (tgt := 30) q_X10_isClash_2 (by decide) ⟨by omega, by omega⟩ (fun b1 => ?_) (fun b1 => ?_)
  · have e1 : clR P a b t s = decide (t ≠ 0 ∧ P (41 * a + t) ≠ P (41 * a + (t - 1)) ∧ P (41 * a + t) = P (41 * b + (t - 1)) ∧ P (41 * b + t) = P (41 * a + (t - 1))) := if_neg (by omega)
    rw [e1] at no no2 ⊢
    refine g_iload q_X10_isClash_30 rfl ?_
    refine g_if_eq (tgt := 56) q_X10_isClash_32 (by decide) ⟨by omega, by omega⟩ (fun b2 => ?_) (fun b2 => ?_)
    · exact no2 (decide_eq_false (fun q => by omega))
    refine g_aload_n q_X10_isClash_35 rfl ?_
    refine g_iload_n q_X10_isClash_36 rfl ?_
    refine g_iload_n q_X10_isClash_37 rfl ?_
    refine g_iload q_X10_isClash_38 rfl ?_
    refine g_callV (rc' := 0) (rs' := 0) (As := [_, _, _]) cs_X10_263 q_X10_isClash_40 (sp_wayAt hΓ h0 h16 k a t hk ha ht) rfl (by repeat first | with_reducible assumption | with_reducible exact hput_s _ _ _ | refine (hput_n _ _ (by omega)).trans ?_ | exact hput_s _ _ _ | assumption) rfl rfl rfl rfl (Nat.le_of_ble_eq_true rfl) (by decide) (by decide) (by decide) (fun _ _ h => h.elim) (k_ri ?_)
    rw [hPe]
    refine g_aload_n q_X10_isClash_43 rfl ?_
    refine g_iload_n q_X10_isClash_44 rfl ?_
    refine g_iload_n q_X10_isClash_45 rfl ?_
    refine g_iload q_X10_isClash_46 rfl ?_
    refine g_iconst q_X10_isClash_48 ?_
    refine g_isub q_X10_isClash_49 ?_
    refine g_topi (b := ((t - 1 : Nat) : Int)) (by omega) ?_
    refine g_callV (rc' := 0) (rs' := 0) (As := [_, _, _]) cs_X10_263 q_X10_isClash_50 (sp_wayAt hΓ h0 h16 k a (t - 1) hk ha (by omega)) rfl (by repeat first | with_reducible assumption | with_reducible exact hput_s _ _ _ | refine (hput_n _ _ (by omega)).trans ?_ | exact hput_s _ _ _ | assumption) rfl rfl rfl rfl (Nat.le_of_ble_eq_true rfl) (by decide) (by decide) (by decide) (fun _ _ h => h.elim) (k_ri ?_)
    rw [hPe]
    refine g_icmp_ne (tgt := 58) q_X10_isClash_53 (by decide) (hPr _) (hPr _) (fun b3 => ?_) (fun b3 => ?_)
    case refine_2 => exact no2 (decide_eq_false (fun q => q.2.1 (by omega)))
    refine g_aload_n q_X10_isClash_58 rfl ?_
    refine g_iload_n q_X10_isClash_59 rfl ?_
    refine g_iload_n q_X10_isClash_60 rfl ?_
    refine g_iload q_X10_isClash_61 rfl ?_
    refine g_callV (rc' := 0) (rs' := 0) (As := [_, _, _]) cs_X10_263 q_X10_isClash_63 (sp_wayAt hΓ h0 h16 k a t hk ha ht) rfl (by repeat first | with_reducible assumption | with_reducible exact hput_s _ _ _ | refine (hput_n _ _ (by omega)).trans ?_ | exact hput_s _ _ _ | assumption) rfl rfl rfl rfl (Nat.le_of_ble_eq_true rfl) (by decide) (by decide) (by decide) (fun _ _ h => h.elim) (k_ri ?_)
    rw [hPe]
    refine g_aload_n q_X10_isClash_66 rfl ?_
    refine g_iload_n q_X10_isClash_67 rfl ?_
    refine g_iload_n q_X10_isClash_68 rfl ?_
    refine g_iload q_X10_isClash_69 rfl ?_
    refine g_iconst q_X10_isClash_71 ?_
    refine g_isub q_X10_isClash_72 ?_
    refine g_topi (b := ((t - 1 : Nat) : Int)) (by omega) ?_
    refine g_callV (rc' := 0) (rs' := 0) (As := [_, _, _]) cs_X10_263 q_X10_isClash_73 (sp_wayAt hΓ h0 h16 k b (t - 1) hk hb (by omega)) rfl (by repeat first | with_reducible assumption | with_reducible exact hput_s _ _ _ | refine (hput_n _ _ (by omega)).trans ?_ | exact hput_s _ _ _ | assumption) rfl rfl rfl rfl (Nat.le_of_ble_eq_true rfl) (by decide) (by decide) (by decide) (fun _ _ h => h.elim) (k_ri ?_)
    rw [hPe]
    refine g_icmp_ne (tgt := 104) q_X10_isClash_76 (by decide) (hPr _) (hPr _) (fun b4 => ?_) (fun b4 => ?_)
    · exact no 104 rfl (decide_eq_false (fun q => b4 q.2.2.1))
    refine g_aload_n q_X10_isClash_79 rfl ?_
    refine g_iload_n q_X10_isClash_80 rfl ?_
    refine g_iload_n q_X10_isClash_81 rfl ?_
    refine g_iload q_X10_isClash_82 rfl ?_
    refine g_callV (rc' := 0) (rs' := 0) (As := [_, _, _]) cs_X10_263 q_X10_isClash_84 (sp_wayAt hΓ h0 h16 k b t hk hb ht) rfl (by repeat first | with_reducible assumption | with_reducible exact hput_s _ _ _ | refine (hput_n _ _ (by omega)).trans ?_ | exact hput_s _ _ _ | assumption) rfl rfl rfl rfl (Nat.le_of_ble_eq_true rfl) (by decide) (by decide) (by decide) (fun _ _ h => h.elim) (k_ri ?_)
    rw [hPe]
    refine g_aload_n q_X10_isClash_87 rfl ?_
    refine g_iload_n q_X10_isClash_88 rfl ?_
    refine g_iload_n q_X10_isClash_89 rfl ?_
    refine g_iload q_X10_isClash_90 rfl ?_
    refine g_iconst q_X10_isClash_92 ?_
    refine g_isub q_X10_isClash_93 ?_
    refine g_topi (b := ((t - 1 : Nat) : Int)) (by omega) ?_
    refine g_callV (rc' := 0) (rs' := 0) (As := [_, _, _]) cs_X10_263 q_X10_isClash_94 (sp_wayAt hΓ h0 h16 k a (t - 1) hk ha (by omega)) rfl (by repeat first | with_reducible assumption | with_reducible exact hput_s _ _ _ | refine (hput_n _ _ (by omega)).trans ?_ | exact hput_s _ _ _ | assumption) rfl rfl rfl rfl (Nat.le_of_ble_eq_true rfl) (by decide) (by decide) (by decide) (fun _ _ h => h.elim) (k_ri ?_)
    rw [hPe]
    refine g_icmp_ne (tgt := 104) q_X10_isClash_97 (by decide) (hPr _) (hPr _) (fun b5 => ?_) (fun b5 => ?_)
    · exact no 104 rfl (decide_eq_false (fun q => b5 q.2.2.2))
    · refine g_iconst q_X10_isClash_100 ?_
      refine g_goto (tgt := 105) q_X10_isClash_101 (by decide) ?_
      refine g_zreturn q_X10_isClash_105.1 rfl (by first | exact Or.inl rfl | exact Or.inr rfl | omega) ?_
      rw [decide_eq_true ⟨by omega, b3, by omega, by omega⟩]
      exact ⟨rfl, rfl⟩
  · have e1 : clR P a b t s = decide (P (41 * a + t) = P (41 * b + t)) := if_pos (by omega)
    rw [e1]
    refine g_aload_n q_X10_isClash_5 rfl ?_
    refine g_iload_n q_X10_isClash_6 rfl ?_
    refine g_iload_n q_X10_isClash_7 rfl ?_
    refine g_iload q_X10_isClash_8 rfl ?_
    refine g_callV (rc' := 0) (rs' := 0) (As := [_, _, _]) cs_X10_263 q_X10_isClash_10 (sp_wayAt hΓ h0 h16 k a t hk ha ht) rfl (by repeat first | with_reducible assumption | with_reducible exact hput_s _ _ _ | refine (hput_n _ _ (by omega)).trans ?_ | exact hput_s _ _ _ | assumption) rfl rfl rfl rfl (Nat.le_of_ble_eq_true rfl) (by decide) (by decide) (by decide) (fun _ _ h => h.elim) (k_ri ?_)
    rw [hPe]
    refine g_aload_n q_X10_isClash_13 rfl ?_
    refine g_iload_n q_X10_isClash_14 rfl ?_
    refine g_iload_n q_X10_isClash_15 rfl ?_
    refine g_iload q_X10_isClash_16 rfl ?_
    refine g_callV (rc' := 0) (rs' := 0) (As := [_, _, _]) cs_X10_263 q_X10_isClash_18 (sp_wayAt hΓ h0 h16 k b t hk hb ht) rfl (by repeat first | with_reducible assumption | with_reducible exact hput_s _ _ _ | refine (hput_n _ _ (by omega)).trans ?_ | exact hput_s _ _ _ | assumption) rfl rfl rfl rfl (Nat.le_of_ble_eq_true rfl) (by decide) (by decide) (by decide) (fun _ _ h => h.elim) (k_ri ?_)
    rw [hPe]
    refine g_icmp_ne (tgt := 28) q_X10_isClash_21 (by decide) (hPr _) (hPr _) (fun b2 => ?_) (fun b2 => ?_)
    · refine g_iconst q_X10_isClash_28 ?_
      refine g_zreturn q_X10_isClash_29.1 rfl (by first | exact Or.inl rfl | exact Or.inr rfl | omega) ?_
      rw [decide_eq_false b2]
      exact ⟨rfl, rfl⟩
    · refine g_iconst q_X10_isClash_24 ?_
      refine g_goto (tgt := 29) q_X10_isClash_25 (by decide) ?_
      refine g_zreturn q_X10_isClash_29.1 rfl (by first | exact Or.inl rfl | exact Or.inr rfl | omega) ?_
      rw [decide_eq_true (by omega)]
      exact ⟨rfl, rfl⟩
end MC

