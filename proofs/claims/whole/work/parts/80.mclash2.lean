/-! the reference: how many clashes, and the first -/
section MC
variable {Γ : GT} {σ : AH} {m : Nat} {I : Nat → Int} {W : Nat → Int}
/-- ahead of (t, s, a, b) -/
def lxb (t' s' a' b' t s a b : Nat) : Prop := t' < t ∨ t' = t ∧ (s' < s ∨ s' = s ∧ (a' < a ∨ a' = a ∧ b' < b))
def noB (P : Nat → Int) (n t s a b : Nat) : Prop := ∀ t' s' a' b', s' < 2 → a' < b' → b' < n → lxb t' s' a' b' t s a b → clR P a' b' t' s' = false
def fsB (P : Nat → Int) (n t s a b : Nat) : Prop := (t < 41 ∧ s < 2 ∧ a < b ∧ b < n) ∧ clR P a b t s = true ∧ noB P n t s a b
def up4 (I : Nat → Int) (t s a b : Nat) : Nat → Int := va_up (va_up (va_up (va_up I 28 t) 29 s) 30 a) 31 b
def fB (P : Nat → Int) (t s a : Nat) (j : Nat) : Int := cntN (fun i => clR P a (a + 1 + i) t s) j
def fA (P : Nat → Int) (n t s : Nat) (a : Nat) : Int := sumN (fun a => fB P t s a (n - 1 - a)) a
def fS (P : Nat → Int) (n t : Nat) (s : Nat) : Int := sumN (fun s => fA P n t s n) s
def fT (P : Nat → Int) (n : Nat) (t : Nat) : Int := sumN (fun t => fS P n t 2) t
theorem fB_rg (P : Nat → Int) (t s a j : Nat) : 0 ≤ fB P t s a j ∧ fB P t s a j ≤ j := cntN_rg _ _
/-- how it stands ahead of (t, s, a, b): how many, what is laid -/
def clI (P : Nat → Int) (n : Nat) (I : Nat → Int) (c : Int) (I' : Nat → Int) (t s a b : Nat) : Prop := 0 ≤ c ∧ ((c = 0 ∧ I' = I ∧ noB P n t s a b) ∨ (0 < c ∧ ∃ t0 s0 a0 b0, fsB P n t0 s0 a0 b0 ∧ I' = up4 I t0 s0 a0 b0))
theorem sp_laysClashes (hΓ : Gd Γ) (h0 : σ.2 m = some (mdo m I)) (h16 : σ.2 (m + 16) = some (ai 62115 W)) (hW : ∀ i, rg (W i)) (k n : Nat) (hk : k < 303) (hn : n ≤ 5) (h15 : I 15 = n) : Sp Γ miX10_laysClashes 0 0 [.ref m, .int (ii k)] σ (fun r σ' => r = some (.int (ii (fT (fun i => W (205 * k + i)) n 41))) ∧ ∃ I', σ' = hput σ m (mdo m I') ∧ clI (fun i => W (205 * k + i)) n I (fT (fun i => W (205 * k + i)) n 41) I' 41 0 0 0) noX := by
  obtain ⟨P, hP⟩ : ∃ P : Nat → Int, P = fun i => W (205 * k + i) := ⟨_, rfl⟩
  rw [← hP]
  have bd : ∀ c I' t s a b, clI P n I c I' t s a b → I' 15 = n := fun c I' t s a b h => by
    rcases h.2 with ⟨-, e, -⟩ | ⟨-, t0, s0, a0, b0, -, e⟩
    · rw [e, h15]
    · rw [e]; exact h15
  have mono : ∀ c I' t s a b t2 s2 a2 b2, clI P n I c I' t s a b → (∀ t' s' a' b', s' < 2 → a' < b' → b' < n → lxb t' s' a' b' t2 s2 a2 b2 → lxb t' s' a' b' t s a b) → clI P n I c I' t2 s2 a2 b2 := fun c I' t s a b t2 s2 a2 b2 h hx => ⟨h.1, h.2.imp (fun ⟨q1, q2, q3⟩ => ⟨q1, q2, fun t' s' a' b' w1 w2 w3 w4 => q3 t' s' a' b' w1 w2 w3 (hx t' s' a' b' w1 w2 w3 w4)⟩) id⟩
  have cb : ∀ (t s a j : Nat), t ≤ 41 → s ≤ 2 → a ≤ n → j ≤ 5 → 0 ≤ fT P n t + fS P n t s + fA P n t s a + fB P t s a j ∧ fT P n t + fS P n t s + fA P n t s a + fB P t s a j ≤ 5000 := by
    intro t s a j ht hs ha hj
    have hA : ∀ t s a, 0 ≤ fA P n t s a ∧ fA P n t s a ≤ 5 * a := fun t s a => by
      have := sumN_rg (C := fun a => fB P t s a (n - 1 - a)) (a := 0) (b := 5) (n := a) (fun a' _ => by have := fB_rg P t s a' (n - 1 - a'); omega)
      unfold fA
      omega
    have hS : ∀ t s, 0 ≤ fS P n t s ∧ fS P n t s ≤ 25 * s := fun t s => by
      have := sumN_rg (C := fun s => fA P n t s n) (a := 0) (b := 25) (n := s) (fun s' _ => by have := hA t s' n; omega)
      unfold fS
      omega
    have hT : ∀ t, 0 ≤ fT P n t ∧ fT P n t ≤ 50 * t := fun t => by
      have := sumN_rg (C := fun t => fS P n t 2) (a := 0) (b := 50) (n := t) (fun t' _ => by have := hS t' 2; omega)
      unfold fT
      omega
    have h1 := hA t s a
    have h2 := hS t s
    have h3 := hT t
    have h4 := fB_rg P t s a j
    omega
  refine Sp_of (L := [_, _, _, _, _, _, _]) hΓ (by decide +kernel) rfl (Nat.le_of_ble_eq_true rfl) rfl ?_
  refine g_iconst q_X10_laysClashes_0 ?_
  refine g_istore_n (L' := [_, _, _, _, _, _, _]) q_X10_laysClashes_1 (by decide) rfl ?_
  refine g_iconst q_X10_laysClashes_2 ?_
  refine g_istore_n (L' := [_, _, _, _, _, _, _]) q_X10_laysClashes_3 (by decide) rfl ?_
  refine g_eq (σ2 := hput σ m (mdo m I)) rfl rfl (hput_id h0).symm ?_
  refine g_loop3 (fun (t : Nat) (c : Int) (I' : Nat → Int) => t ≤ 41 ∧ c = fT P n t ∧ clI P n I c I' t 0 0 0) (fun t c I' => G Γ _ cX10_laysClashes _ _ 0 0 4 [some (.ref m), some (.int (ii k)), some (.int (ii c)), some (.int (ii t)), none, none, none] [] (hput σ m (mdo m I'))) (fun t c I' => 41 - t) ?_ 0 0 I ⟨Nat.zero_le _, rfl, Int.le_refl 0, Or.inl ⟨rfl, rfl, fun t' s' a' b' _ _ _ w => by unfold lxb at w; omega⟩⟩
  rintro t c I' ⟨ht, hc, hI⟩ ih
  refine g_iload_n q_X10_laysClashes_4 rfl ?_
  refine g_bipush q_X10_laysClashes_5 bp_41 ?_
  refine g_icmp_ge (tgt := 118) q_X10_laysClashes_7 (by decide) ⟨by omega, by omega⟩ ⟨by omega, by omega⟩ (fun b1 => ?_) (fun b1 => ?_)
  · have e : t = 41 := by omega
    subst e
    refine g_iload_n q_X10_laysClashes_118 rfl ?_
    refine g_ireturn q_X10_laysClashes_119.1 rfl ?_
    rw [hc] at hI ⊢
    exact ⟨rfl, I', rfl, hI⟩
  refine g_iconst q_X10_laysClashes_10 ?_
  refine g_istore (L' := [_, _, _, _, _, _, _]) q_X10_laysClashes_11 (by decide) rfl ?_
  refine g_loop3 (fun (s : Nat) (c : Int) (I' : Nat → Int) => s ≤ 2 ∧ c = fT P n t + fS P n t s ∧ clI P n I c I' t s 0 0) (fun s c I' => G Γ _ cX10_laysClashes _ _ 0 0 13 [some (.ref m), some (.int (ii k)), some (.int (ii c)), some (.int (ii t)), some (.int (ii s)), none, none] [] (hput σ m (mdo m I'))) (fun s c I' => 2 - s) ?_ 0 c I' ⟨Nat.zero_le _, by rw [hc]; show fT P n t = fT P n t + 0; omega, hI⟩
  clear hc hI
  rintro s c I' ⟨hs, hc, hI⟩ ih2
  refine g_iload q_X10_laysClashes_13 rfl ?_
  refine g_iconst q_X10_laysClashes_15 ?_
  refine g_icmp_ge (tgt := 112) q_X10_laysClashes_16 (by decide) ⟨by omega, by omega⟩ ⟨by omega, by omega⟩ (fun b2 => ?_) (fun b2 => ?_)
  · have e : s = 2 := by omega
    subst e
    have hnx := ih (t + 1) c I' ⟨by omega, hc, mono _ _ _ _ _ _ _ _ _ _ hI (fun t' s' a' b' w1 _ _ w => by unfold lxb at w ⊢; omega)⟩ (by omega)
    refine g_iinc (L' := [_, _, _, _, _, _, _]) q_X10_laysClashes_112 rfl rfl ?_
    refine g_goto (tgt := 4) q_X10_laysClashes_115 (by decide) ?_
    exact g_fl hnx ⟨rfl, rfl, rfl, rfl, trivial⟩
  refine g_iconst q_X10_laysClashes_19 ?_
  refine g_istore (L' := [_, _, _, _, _, _, _]) q_X10_laysClashes_20 (by decide) rfl ?_
  refine g_loop3 (fun (a : Nat) (c : Int) (I' : Nat → Int) => a ≤ n ∧ c = fT P n t + fS P n t s + fA P n t s a ∧ clI P n I c I' t s a 0) (fun a c I' => G Γ _ cX10_laysClashes _ _ 0 0 22 [some (.ref m), some (.int (ii k)), some (.int (ii c)), some (.int (ii t)), some (.int (ii s)), some (.int (ii a)), none] [] (hput σ m (mdo m I'))) (fun a c I' => n - a) ?_ 0 c I' ⟨Nat.zero_le _, by rw [hc]; show _ = _ + 0; omega, hI⟩
  clear hc hI
  rintro a c I' ⟨ha, hc, hI⟩ ih3
  have hI15 := bd _ _ _ _ _ _ hI
  refine g_iload q_X10_laysClashes_22 rfl ?_
  refine g_aload_n q_X10_laysClashes_24 rfl ?_
  refine g_get fl_X10_220 q_X10_laysClashes_25 (by repeat first | with_reducible assumption | with_reducible exact hput_s _ _ _ | refine (hput_n _ _ (by omega)).trans ?_ | exact hput_s _ _ _ | assumption) rfl ?_
  refine g_topi (b := (n : Int)) (by exact hI15) ?_
  refine g_icmp_ge (tgt := 106) q_X10_laysClashes_28 (by decide) ⟨by omega, by omega⟩ ⟨by omega, by omega⟩ (fun b3 => ?_) (fun b3 => ?_)
  · have e : a = n := by omega
    subst e
    have hnx := ih2 (s + 1) c I' ⟨by omega, by rw [hc]; show _ = _ + (fS P a t s + fA P a t s a); omega, mono _ _ _ _ _ _ _ _ _ _ hI (fun t' s' a' b' w1 w2 w3 w => by unfold lxb at w ⊢; omega)⟩ (by omega)
    refine g_iinc (L' := [_, _, _, _, _, _, _]) q_X10_laysClashes_106 rfl rfl ?_
    refine g_goto (tgt := 13) q_X10_laysClashes_109 (by decide) ?_
    exact g_fl hnx ⟨rfl, rfl, rfl, rfl, rfl, trivial⟩
  refine g_iload q_X10_laysClashes_31 rfl ?_
  refine g_iconst q_X10_laysClashes_33 ?_
  refine g_iadd q_X10_laysClashes_34 ?_
  refine g_istore (L' := [_, _, _, _, _, _, _]) q_X10_laysClashes_35 (by decide) rfl ?_
  refine g_loop3 (fun (j : Nat) (c : Int) (I' : Nat → Int) => a + 1 + j ≤ n ∧ c = fT P n t + fS P n t s + fA P n t s a + fB P t s a j ∧ clI P n I c I' t s a (a + 1 + j)) (fun j c I' => G Γ _ cX10_laysClashes _ _ 0 0 37 [some (.ref m), some (.int (ii k)), some (.int (ii c)), some (.int (ii t)), some (.int (ii s)), some (.int (ii a)), some (.int (ii ((a + 1 + j : Nat) : Int)))] [] (hput σ m (mdo m I'))) (fun j c I' => n - j) ?_ 0 c I' ⟨by omega, by rw [hc]; show _ = _ + 0; omega, mono _ _ _ _ _ _ _ _ _ _ hI (fun t' s' a' b' w1 w2 w3 w => by unfold lxb at w ⊢; omega)⟩
  clear hc hI hI15
  rintro j c I' ⟨hj, hc, hI⟩ ih4
  have hI15 := bd _ _ _ _ _ _ hI
  have hcb := cb t s a j (by omega) (by omega) (by omega) (by omega)
  rw [← hc] at hcb
  refine g_iload q_X10_laysClashes_37 rfl ?_
  refine g_aload_n q_X10_laysClashes_39 rfl ?_
  refine g_get fl_X10_220 q_X10_laysClashes_40 (by repeat first | with_reducible assumption | with_reducible exact hput_s _ _ _ | refine (hput_n _ _ (by omega)).trans ?_ | exact hput_s _ _ _ | assumption) rfl ?_
  refine g_topi (b := (n : Int)) (by exact hI15) ?_
  refine g_icmp_ge (tgt := 100) q_X10_laysClashes_43 (by decide) ⟨by omega, by omega⟩ ⟨by omega, by omega⟩ (fun b4 => ?_) (fun b4 => ?_)
  · have e : j = n - 1 - a := by omega
    have hnx := ih3 (a + 1) c I' ⟨by omega, by rw [hc, e]; show _ = _ + (fA P n t s a + fB P t s a (n - 1 - a)); omega, mono _ _ _ _ _ _ _ _ _ _ hI (fun t' s' a' b' w1 w2 w3 w => by unfold lxb at w ⊢; omega)⟩ (by omega)
    refine g_iinc (L' := [_, _, _, _, _, _, _]) q_X10_laysClashes_100 rfl rfl ?_
    refine g_goto (tgt := 22) q_X10_laysClashes_103 (by decide) ?_
    exact g_fl hnx ⟨rfl, rfl, rfl, rfl, rfl, rfl, trivial⟩
  refine g_aload_n q_X10_laysClashes_46 rfl ?_
  refine g_iload_n q_X10_laysClashes_47 rfl ?_
  refine g_iload q_X10_laysClashes_48 rfl ?_
  refine g_iload q_X10_laysClashes_50 rfl ?_
  refine g_iload_n q_X10_laysClashes_52 rfl ?_
  refine g_iload q_X10_laysClashes_53 rfl ?_
  refine g_callV (rc' := 0) (rs' := 0) (As := [_, _, _, _, _]) cs_X10_267 q_X10_laysClashes_55 (sp_isClash hΓ (hput_s _ _ _) ((hput_n _ _ (by omega)).trans h16) hW k a (a + 1 + j) t s hk (by omega) (by omega) (by omega) (by omega)) rfl (by repeat first | with_reducible assumption | with_reducible exact hput_s _ _ _ | refine (hput_n _ _ (by omega)).trans ?_ | exact hput_s _ _ _ | assumption) rfl rfl rfl rfl (Nat.le_of_ble_eq_true rfl) (by decide) (by decide) (by decide) (fun _ _ h => h.elim) (k_rb ?_)
  rw [← hP]
  have eB : fB P t s a (j + 1) = fB P t s a j + bi (clR P a (a + 1 + j) t s) := rfl
  refine g_if_ne (tgt := 64) q_X10_laysClashes_58 (by decide) (bi_rg _) (fun b5 => ?_) (fun b5 => ?_)
  · have hcl := bi_t b5
    rw [hcl] at eB
    have eB1 : fB P t s a (j + 1) = fB P t s a j + 1 := eB
    have go : ∀ I2, (∃ t0 s0 a0 b0, fsB P n t0 s0 a0 b0 ∧ I2 = up4 I t0 s0 a0 b0) → G Γ miX10_laysClashes cX10_laysClashes (fun r σ' => r = some (.int (ii (fT P n 41))) ∧ ∃ I', σ' = hput σ m (mdo m I') ∧ clI P n I (fT P n 41) I' 41 0 0 0) noX 0 0 91 [some (.ref m), some (.int (ii k)), some (.int (ii c)), some (.int (ii t)), some (.int (ii s)), some (.int (ii a)), some (.int (ii ((a + 1 + j : Nat) : Int)))] [] (hput σ m (mdo m I2)) := by
      intro I2 h2
      have hnx := ih4 (j + 1) (c + 1) I2 ⟨by omega, by rw [eB1, hc]; omega, by omega, Or.inr ⟨by omega, h2⟩⟩ (by omega)
      refine g_iinc (L' := [_, _, _, _, _, _, _]) q_X10_laysClashes_91 rfl rfl ?_
      refine g_iinc (L' := [_, _, _, _, _, _, _]) q_X10_laysClashes_94 rfl rfl ?_
      refine g_goto (tgt := 37) q_X10_laysClashes_97 (by decide) ?_
      exact hnx
    refine g_iload_n q_X10_laysClashes_64 rfl ?_
    refine g_if_ne (tgt := 91) q_X10_laysClashes_65 (by decide) ⟨by omega, by omega⟩ (fun b6 => ?_) (fun b6 => ?_)
    · refine go I' ?_
      rcases hI.2 with ⟨q, -⟩ | ⟨-, q⟩
      · omega
      · exact q
    · have hq : c = 0 ∧ I' = I ∧ noB P n t s a (a + 1 + j) := by
        rcases hI.2 with q | ⟨q, -⟩
        · exact q
        · omega
      rw [hq.2.1]
      refine g_aload_n q_X10_laysClashes_68 rfl ?_
      refine g_iload_n q_X10_laysClashes_69 rfl ?_
      refine g_putM fp_X10_271 q_X10_laysClashes_70 (by repeat first | with_reducible assumption | with_reducible exact hput_s _ _ _ | refine (hput_n _ _ (by omega)).trans ?_ | exact hput_s _ _ _ | assumption) rfl rfl mset_28 ?_
      refine g_aload_n q_X10_laysClashes_73 rfl ?_
      refine g_iload q_X10_laysClashes_74 rfl ?_
      refine g_putM fp_X10_274 q_X10_laysClashes_76 (by repeat first | with_reducible assumption | with_reducible exact hput_s _ _ _ | refine (hput_n _ _ (by omega)).trans ?_ | exact hput_s _ _ _ | assumption) rfl rfl mset_29 ?_
      refine g_aload_n q_X10_laysClashes_79 rfl ?_
      refine g_iload q_X10_laysClashes_80 rfl ?_
      refine g_putM fp_X10_277 q_X10_laysClashes_82 (by repeat first | with_reducible assumption | with_reducible exact hput_s _ _ _ | refine (hput_n _ _ (by omega)).trans ?_ | exact hput_s _ _ _ | assumption) rfl rfl mset_30 ?_
      refine g_aload_n q_X10_laysClashes_85 rfl ?_
      refine g_iload q_X10_laysClashes_86 rfl ?_
      refine g_putM fp_X10_280 q_X10_laysClashes_88 (by repeat first | with_reducible assumption | with_reducible exact hput_s _ _ _ | refine (hput_n _ _ (by omega)).trans ?_ | exact hput_s _ _ _ | assumption) rfl rfl mset_31 ?_
      rw [hput_hput, hput_hput, hput_hput, hput_hput]
      exact go (up4 I t s a (a + 1 + j)) ⟨t, s, a, a + 1 + j, ⟨⟨by omega, by omega, by omega, by omega⟩, hcl, hq.2.2⟩, rfl⟩
  · have hcl := bi_f (show bi (clR P a (a + 1 + j) t s) = 0 by omega)
    rw [hcl] at eB
    have eB1 : fB P t s a (j + 1) = fB P t s a j := by rw [eB]; show _ + 0 = _; omega
    have hnx := ih4 (j + 1) c I' ⟨by omega, by rw [eB1, hc], hI.1, hI.2.imp (fun ⟨q1, q2, q3⟩ => ⟨q1, q2, fun t' s' a' b' w1 w2 w3 w => ?_⟩) id⟩ (by omega)
    · by_cases e : t' = t ∧ s' = s ∧ a' = a ∧ b' = a + 1 + j
      · obtain ⟨rfl, rfl, rfl, rfl⟩ := e
        exact hcl
      · exact q3 t' s' a' b' w1 w2 w3 (by unfold lxb at w ⊢; omega)
    · refine g_goto (tgt := 94) q_X10_laysClashes_61 (by decide) ?_
      refine g_iinc (L' := [_, _, _, _, _, _, _]) q_X10_laysClashes_94 rfl rfl ?_
      refine g_goto (tgt := 37) q_X10_laysClashes_97 (by decide) ?_
      exact hnx
end MC

