/-! the reference: what was is remembered -/
section MRm
variable {Γ : GT} {σ : AH} {m : Nat} {I : Nat → Int} {pa so go : Nat → Int}
theorem va_upup {α : Type} (f : Nat → α) (i : Nat) (x y : α) : va_up (va_up f i x) i y = va_up f i y := by
  funext k
  unfold va_up
  split <;> rfl
theorem hp3 (σ : AH) {a b : Nat} (e e' o : AE) (h : b ≠ a) : hput (hput (hput σ a e) b o) a e' = hput (hput σ a e') b o := by rw [hput_comm _ _ _ h, hput_hput]
theorem sp_changes (hΓ : Gd Γ) (h0 : σ.2 m = some (mdo m I)) : Sp Γ miX10_changes 0 0 [.ref m] σ (rv (hput σ m (mdo m (va_up I 33 (-1))))) noX := by
  refine Sp_of (L := [_]) hΓ (by decide +kernel) rfl (Nat.le_of_ble_eq_true rfl) rfl ?_
  refine g_aload_n q_X10_changes_0 rfl ?_
  refine g_iconst q_X10_changes_1 ?_
  refine g_putM fp_X10_68 q_X10_changes_2 (by repeat first | with_reducible assumption | with_reducible exact hput_s _ _ _ | refine (hput_n _ _ (by omega)).trans ?_ | exact hput_s _ _ _ | assumption) rfl rfl mset_33 ?_
  refine g_return q_X10_changes_5.1 rfl ?_
  exact ⟨rfl, rfl⟩
def rmA (n : Nat) : Nat := if n = 16 then 15 else n
def rmP (pa : Nat → Int) (n : Nat) : Nat → Int := if n = 16 then va_cpy (fun i => pa (i + 41)) pa 0 0 615 else pa
def rmN (pb so go : Nat → Int) (a : Nat) : Nat → Int := va_cpy go (va_cpy so pb 0 (41 * a) 36) 0 (41 * a + 36) 5
theorem sp_remembers (hΓ : Gd Γ) (h0 : σ.2 m = some (mdo m I)) (h6 : σ.2 (m + 6) = some (ai 36 so)) (h9 : σ.2 (m + 9) = some (ai 5 go)) (h10 : σ.2 (m + 10) = some (ai 656 pa)) (n : Nat) (hn : n ≤ 16) (h20 : I 20 = n) : Sp Γ miX10_remembers 0 0 [.ref m] σ (rv (hput (hput σ (m + 10) (ai 656 (rmN (rmP pa n) so go (rmA n)))) m (mdo m (va_up (va_up I 20 ((rmA n + 1 : Nat) : Int)) 33 (-1))))) noX := by
  have main : ∀ (J : Nat → Int) (pb : Nat → Int) (a : Nat), a ≤ 15 → J 20 = a → G Γ miX10_remembers cX10_remembers (rv (hput (hput σ (m + 10) (ai 656 (rmN pb so go a))) m (mdo m (va_up (va_up J 20 ((a + 1 : Nat) : Int)) 33 (-1))))) noX 0 0 49 [some (.ref m), none] [] (hput (hput σ (m + 10) (ai 656 pb)) m (mdo m J)) := by
    intro J pb a ha hJ
    refine g_iconst q_X10_remembers_49 ?_
    refine g_istore_n (L' := [_, _]) q_X10_remembers_50 (by decide) rfl ?_
    refine g_eq (σ2 := hput (hput σ (m + 10) (ai 656 (va_cpy so pb 0 (41 * a) 0))) m (mdo m J)) rfl rfl (by rw [cpy_0]) ?_
    refine g_loop (fun k => k ≤ 36) (fun k : Nat => G Γ _ cX10_remembers _ _ 0 0 51 [some (.ref m), some (.int (ii k))] [] (hput (hput σ (m + 10) (ai 656 (va_cpy so pb 0 (41 * a) k))) m (mdo m J))) (fun k => 36 - k) ?_ 0 (Nat.zero_le _)
    intro k hk ih
    refine g_iload_n q_X10_remembers_51 rfl ?_
    refine g_bipush q_X10_remembers_52 bp_36 ?_
    refine g_icmp_ge (tgt := 83) q_X10_remembers_54 (by decide) ⟨by omega, by omega⟩ ⟨by omega, by omega⟩ (fun b1 => ?_) (fun b1 => ?_)
    case refine_2 =>
      have hnx := ih (k + 1) (by omega) (by omega)
      refine g_aload_n q_X10_remembers_57 rfl ?_
      refine g_get fl_X10_42 q_X10_remembers_58 (by repeat first | with_reducible assumption | with_reducible exact hput_s _ _ _ | refine (hput_n _ _ (by omega)).trans ?_ | exact hput_s _ _ _ | assumption) rfl ?_
      refine g_bipush q_X10_remembers_61 bp_41 ?_
      refine g_aload_n q_X10_remembers_63 rfl ?_
      refine g_get fl_X10_223 q_X10_remembers_64 (by repeat first | with_reducible assumption | with_reducible exact hput_s _ _ _ | refine (hput_n _ _ (by omega)).trans ?_ | exact hput_s _ _ _ | assumption) rfl ?_
      refine g_topi (b := (a : Int)) (by exact hJ) ?_
      refine g_imul q_X10_remembers_67 ?_
      refine g_iload_n q_X10_remembers_68 rfl ?_
      refine g_iadd q_X10_remembers_69 ?_
      refine g_aload_n q_X10_remembers_70 rfl ?_
      refine g_get fl_X10_30 q_X10_remembers_71 (by repeat first | with_reducible assumption | with_reducible exact hput_s _ _ _ | refine (hput_n _ _ (by omega)).trans ?_ | exact hput_s _ _ _ | assumption) rfl ?_
      refine g_iload_n q_X10_remembers_74 rfl ?_
      refine g_iaload q_X10_remembers_75 (by repeat first | with_reducible assumption | with_reducible exact hput_s _ _ _ | refine (hput_n _ _ (by omega)).trans ?_ | exact hput_s _ _ _ | assumption) (by omega) (by omega) ?_
      refine g_iastore q_X10_remembers_76 (by repeat first | with_reducible assumption | with_reducible exact hput_s _ _ _ | refine (hput_n _ _ (by omega)).trans ?_ | exact hput_s _ _ _ | assumption) (by omega) (by omega) ?_
      rw [hp3 _ _ _ _ (by omega)]
      refine g_eq (σ2 := hput (hput σ (m + 10) (ai 656 (va_cpy so pb 0 (41 * a) (k + 1)))) m (mdo m J)) rfl rfl (by rw [← cpy_up]; rfl) ?_
      refine g_iinc (L' := [_, _]) q_X10_remembers_77 rfl rfl ?_
      refine g_goto (tgt := 51) q_X10_remembers_80 (by decide) ?_
      exact hnx
    have e : k = 36 := by omega
    subst e
    clear ih
    refine g_iconst q_X10_remembers_83 ?_
    refine g_istore_n (L' := [_, _]) q_X10_remembers_84 (by decide) rfl ?_
    refine g_eq (σ2 := hput (hput σ (m + 10) (ai 656 (va_cpy go (va_cpy so pb 0 (41 * a) 36) 0 (41 * a + 36) 0))) m (mdo m J)) rfl rfl (by rw [cpy_0]) ?_
    refine g_loop (fun k => k ≤ 5) (fun k : Nat => G Γ _ cX10_remembers _ _ 0 0 85 [some (.ref m), some (.int (ii k))] [] (hput (hput σ (m + 10) (ai 656 (va_cpy go (va_cpy so pb 0 (41 * a) 36) 0 (41 * a + 36) k))) m (mdo m J))) (fun k => 5 - k) ?_ 0 (Nat.zero_le _)
    intro k hk ih
    refine g_iload_n q_X10_remembers_85 rfl ?_
    refine g_iconst q_X10_remembers_86 ?_
    refine g_icmp_ge (tgt := 119) q_X10_remembers_87 (by decide) ⟨by omega, by omega⟩ ⟨by omega, by omega⟩ (fun b2 => ?_) (fun b2 => ?_)
    case refine_2 =>
      have hnx := ih (k + 1) (by omega) (by omega)
      refine g_aload_n q_X10_remembers_90 rfl ?_
      refine g_get fl_X10_42 q_X10_remembers_91 (by repeat first | with_reducible assumption | with_reducible exact hput_s _ _ _ | refine (hput_n _ _ (by omega)).trans ?_ | exact hput_s _ _ _ | assumption) rfl ?_
      refine g_bipush q_X10_remembers_94 bp_41 ?_
      refine g_aload_n q_X10_remembers_96 rfl ?_
      refine g_get fl_X10_223 q_X10_remembers_97 (by repeat first | with_reducible assumption | with_reducible exact hput_s _ _ _ | refine (hput_n _ _ (by omega)).trans ?_ | exact hput_s _ _ _ | assumption) rfl ?_
      refine g_topi (b := (a : Int)) (by exact hJ) ?_
      refine g_imul q_X10_remembers_100 ?_
      refine g_bipush q_X10_remembers_101 bp_36 ?_
      refine g_iadd q_X10_remembers_103 ?_
      refine g_iload_n q_X10_remembers_104 rfl ?_
      refine g_iadd q_X10_remembers_105 ?_
      refine g_aload_n q_X10_remembers_106 rfl ?_
      refine g_get fl_X10_39 q_X10_remembers_107 (by repeat first | with_reducible assumption | with_reducible exact hput_s _ _ _ | refine (hput_n _ _ (by omega)).trans ?_ | exact hput_s _ _ _ | assumption) rfl ?_
      refine g_iload_n q_X10_remembers_110 rfl ?_
      refine g_iaload q_X10_remembers_111 (by repeat first | with_reducible assumption | with_reducible exact hput_s _ _ _ | refine (hput_n _ _ (by omega)).trans ?_ | exact hput_s _ _ _ | assumption) (by omega) (by omega) ?_
      refine g_iastore q_X10_remembers_112 (by repeat first | with_reducible assumption | with_reducible exact hput_s _ _ _ | refine (hput_n _ _ (by omega)).trans ?_ | exact hput_s _ _ _ | assumption) (by omega) (by omega) ?_
      rw [hp3 _ _ _ _ (by omega)]
      refine g_eq (σ2 := hput (hput σ (m + 10) (ai 656 (va_cpy go (va_cpy so pb 0 (41 * a) 36) 0 (41 * a + 36) (k + 1)))) m (mdo m J)) rfl rfl (by rw [← cpy_up go _ (41 * a + 36) k]; rfl) ?_
      refine g_iinc (L' := [_, _]) q_X10_remembers_113 rfl rfl ?_
      refine g_goto (tgt := 85) q_X10_remembers_116 (by decide) ?_
      exact hnx
    have e : k = 5 := by omega
    subst e
    clear ih
    refine g_aload_n q_X10_remembers_119 rfl ?_
    refine g_dup q_X10_remembers_120 rfl ?_
    refine g_get fl_X10_223 q_X10_remembers_121 (by repeat first | with_reducible assumption | with_reducible exact hput_s _ _ _ | refine (hput_n _ _ (by omega)).trans ?_ | exact hput_s _ _ _ | assumption) rfl ?_
    refine g_topi (b := (a : Int)) (by exact hJ) ?_
    refine g_iconst q_X10_remembers_124 ?_
    refine g_iadd q_X10_remembers_125 ?_
    refine g_putM fp_X10_223 q_X10_remembers_126 (by repeat first | with_reducible assumption | with_reducible exact hput_s _ _ _ | refine (hput_n _ _ (by omega)).trans ?_ | exact hput_s _ _ _ | assumption) rfl rfl mset_20 ?_
    refine g_aload_n q_X10_remembers_129 rfl ?_
    refine g_callV (rc' := 0) (rs' := 0) (As := []) cs_X10_226 q_X10_remembers_130 (sp_changes hΓ (hput_s _ _ _)) rfl (by repeat first | with_reducible assumption | with_reducible exact hput_s _ _ _ | refine (hput_n _ _ (by omega)).trans ?_ | exact hput_s _ _ _ | assumption) rfl rfl rfl rfl (Nat.le_of_ble_eq_true rfl) (by decide) (by decide) (by decide) (fun _ _ h => h.elim) (k_rv ?_)
    refine g_return q_X10_remembers_133.1 rfl ?_
    exact ⟨rfl, by rw [hput_hput, hput_hput]; rfl⟩
  refine Sp_of (L := [_, _]) hΓ (by decide +kernel) rfl (Nat.le_of_ble_eq_true rfl) rfl ?_
  refine g_aload_n q_X10_remembers_0 rfl ?_
  refine g_get fl_X10_223 q_X10_remembers_1 (by repeat first | with_reducible assumption | with_reducible exact hput_s _ _ _ | refine (hput_n _ _ (by omega)).trans ?_ | exact hput_s _ _ _ | assumption) rfl ?_
  refine g_topi (b := (n : Int)) (by exact h20) ?_
  refine g_bipush q_X10_remembers_4 bp_16 ?_
  refine g_icmp_ne (tgt := 49) q_X10_remembers_6 (by decide) ⟨by omega, by omega⟩ ⟨by omega, by omega⟩ (fun b1 => ?_) (fun b1 => ?_)
  · have e1 : n ≠ 16 := by omega
    have q := main I pa n (by omega) h20
    rw [show hput (hput σ (m + 10) (ai 656 pa)) m (mdo m I) = σ by rw [hput_id h10, hput_id h0]] at q
    rw [show rmA n = n from if_neg e1, show rmP pa n = pa from if_neg e1]
    exact q
  have e1 : n = 16 := by omega
  subst e1
  rw [show rmA 16 = 15 from rfl, show rmP pa 16 = va_cpy (fun i => pa (i + 41)) pa 0 0 615 from rfl]
  refine g_iconst q_X10_remembers_9 ?_
  refine g_istore_n (L' := [_, _]) q_X10_remembers_10 (by decide) rfl ?_
  refine g_eq (σ2 := hput σ (m + 10) (ai 656 (va_cpy (fun i => pa (i + 41)) pa 0 0 0))) rfl rfl (by rw [cpy_0]; exact (hput_id h10).symm) ?_
  refine g_loop (fun k => k ≤ 615) (fun k : Nat => G Γ _ cX10_remembers _ _ 0 0 11 [some (.ref m), some (.int (ii k))] [] (hput σ (m + 10) (ai 656 (va_cpy (fun i => pa (i + 41)) pa 0 0 k)))) (fun k => 615 - k) ?_ 0 (Nat.zero_le _)
  intro k hk ih
  refine g_iload_n q_X10_remembers_11 rfl ?_
  refine g_sipush q_X10_remembers_12 sp_615 ?_
  refine g_icmp_ge (tgt := 39) q_X10_remembers_15 (by decide) ⟨by omega, by omega⟩ ⟨by omega, by omega⟩ (fun b2 => ?_) (fun b2 => ?_)
  case refine_2 =>
    have hnx := ih (k + 1) (by omega) (by omega)
    have hv : va_cpy (fun i => pa (i + 41)) pa 0 0 k (k + 41) = pa (k + 41) := if_neg (by omega)
    refine g_aload_n q_X10_remembers_18 rfl ?_
    refine g_get fl_X10_42 q_X10_remembers_19 (by repeat first | with_reducible assumption | with_reducible exact hput_s _ _ _ | refine (hput_n _ _ (by omega)).trans ?_ | exact hput_s _ _ _ | assumption) rfl ?_
    refine g_iload_n q_X10_remembers_22 rfl ?_
    refine g_aload_n q_X10_remembers_23 rfl ?_
    refine g_get fl_X10_42 q_X10_remembers_24 (by repeat first | with_reducible assumption | with_reducible exact hput_s _ _ _ | refine (hput_n _ _ (by omega)).trans ?_ | exact hput_s _ _ _ | assumption) rfl ?_
    refine g_iload_n q_X10_remembers_27 rfl ?_
    refine g_bipush q_X10_remembers_28 bp_41 ?_
    refine g_iadd q_X10_remembers_30 ?_
    refine g_iaload q_X10_remembers_31 (by repeat first | with_reducible assumption | with_reducible exact hput_s _ _ _ | refine (hput_n _ _ (by omega)).trans ?_ | exact hput_s _ _ _ | assumption) (by omega) (by omega) ?_
    refine g_topi (b := pa (k + 41)) (by exact hv) ?_
    refine g_iastore q_X10_remembers_32 (by repeat first | with_reducible assumption | with_reducible exact hput_s _ _ _ | refine (hput_n _ _ (by omega)).trans ?_ | exact hput_s _ _ _ | assumption) (by omega) (by omega) ?_
    rw [hput_hput]
    refine g_eq (σ2 := hput σ (m + 10) (ai 656 (va_cpy (fun i => pa (i + 41)) pa 0 0 (k + 1)))) rfl rfl (by rw [← cpy_up _ _ 0 k, Nat.zero_add]; rfl) ?_
    refine g_iinc (L' := [_, _]) q_X10_remembers_33 rfl rfl ?_
    refine g_goto (tgt := 11) q_X10_remembers_36 (by decide) ?_
    exact hnx
  have e : k = 615 := by omega
  subst e
  clear ih
  refine g_aload_n q_X10_remembers_39 rfl ?_
  refine g_dup q_X10_remembers_40 rfl ?_
  refine g_get fl_X10_223 q_X10_remembers_41 (by repeat first | with_reducible assumption | with_reducible exact hput_s _ _ _ | refine (hput_n _ _ (by omega)).trans ?_ | exact hput_s _ _ _ | assumption) rfl ?_
  refine g_topi (b := ((16 : Nat) : Int)) (by exact h20) ?_
  refine g_iconst q_X10_remembers_44 ?_
  refine g_isub q_X10_remembers_45 ?_
  refine g_putM fp_X10_223 q_X10_remembers_46 (by repeat first | with_reducible assumption | with_reducible exact hput_s _ _ _ | refine (hput_n _ _ (by omega)).trans ?_ | exact hput_s _ _ _ | assumption) rfl rfl mset_20 ?_
  have q := main (va_up I 20 15) (va_cpy (fun i => pa (i + 41)) pa 0 0 615) 15 (by omega) rfl
  rw [va_upup] at q
  exact g_fl q ⟨rfl, trivial⟩
end MRm

