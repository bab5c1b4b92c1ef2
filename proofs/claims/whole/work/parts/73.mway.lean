/-! the reference: frees, mayGo, laysWay -/
def z01 (f : Nat → Int) : Prop := ∀ k, f k = 0 ∨ f k = 1
theorem z01_up {f : Nat → Int} (h : z01 f) (i : Nat) {v : Int} (hv : v = 0 ∨ v = 1) : z01 (va_up f i v) := fun k => by
  unfold va_up
  split
  · exact hv
  · exact h k
theorem z01_rg {f : Nat → Int} (h : z01 f) (k : Nat) : rg (f k) := by rcases h k with e | e <;> rw [e] <;> exact ⟨by decide, by decide⟩
section MW
variable {Γ : GT} {σ : AH} {m : Nat} {I : Nat → Int} {cols rows : Nat} {so : Nat → Int} {bc bm : Nat → Int}
theorem sp_frees (hΓ : Gd Γ) (h0 : σ.2 m = some (mdo m I)) (h1 : σ.2 (m + 11) = some (az 1476 bc)) (h2 : σ.2 (m + 12) = some (az 7380 bm)) : Sp Γ miX10_frees 0 0 [.ref m] σ (fun r σ' => r = none ∧ eqOff σ σ' (inb (m + 11) 2) ∧ σ'.2 (m + 11) = some (az 1476 fun _ => 0) ∧ σ'.2 (m + 12) = some (az 7380 fun _ => 0)) noX := by
  refine Sp_of (L := [_, _]) hΓ (by decide +kernel) rfl (Nat.le_of_ble_eq_true rfl) rfl ?_
  refine g_iconst q_X10_frees_0 ?_
  refine g_istore_n (L' := [_, _]) q_X10_frees_1 (by decide) rfl ?_
  refine g_loop2 (fun (k : Nat) (τ : AH) => k ≤ 1476 ∧ eqOff σ τ (inb (m + 11) 2) ∧ τ.2 (m + 12) = some (az 7380 bm) ∧ ∃ f, τ.2 (m + 11) = some (az 1476 f) ∧ ∀ j, j < k → f j = 0) (fun k τ => G Γ _ cX10_frees _ _ 0 0 2 [some (.ref m), some (.int (ii k))] [] τ) (fun k τ => 1476 - k) ?_ 0 σ ⟨Nat.zero_le _, eqOff.rfl', h2, bc, h1, fun j hj => absurd hj (Nat.not_lt_zero j)⟩
  rintro k τ ⟨hk, hE, t2, f, t1, hf⟩ ih
  have t0 := (hE.2 m (by unfold inb; omega)).trans h0
  refine g_iload_n q_X10_frees_2 rfl ?_
  refine g_sipush q_X10_frees_3 sp_1476 ?_
  refine g_icmp_ge (tgt := 22) q_X10_frees_6 (by decide) ⟨by omega, by omega⟩ ⟨by omega, by omega⟩ (fun b1 => ?_) (fun b1 => ?_)
  · have e : k = 1476 := by omega
    subst e
    refine g_repI t1 (f' := fun _ => 0) hf ?_
    have u0 : (hput τ (m + 11) (az 1476 fun _ => 0)).2 m = some (mdo m I) := (hput_n _ _ (by omega)).trans t0
    have u2 : (hput τ (m + 11) (az 1476 fun _ => 0)).2 (m + 12) = some (az 7380 bm) := (hput_n _ _ (by omega)).trans t2
    have u1 : (hput τ (m + 11) (az 1476 fun _ => 0)).2 (m + 11) = some (az 1476 fun _ => 0) := hput_s _ _ _
    have hE2 := hE.put (a := m + 11) ⟨by omega, by omega⟩ (az 1476 fun _ => 0)
    obtain ⟨τ2, hτ2⟩ : ∃ τ2, τ2 = hput τ (m + 11) (az 1476 fun _ => 0) := ⟨_, rfl⟩
    refine g_eq (σ2 := τ2) rfl rfl hτ2.symm ?_
    rw [← hτ2] at u0 u1 u2 hE2
    clear hτ2
    refine g_iconst q_X10_frees_22 ?_
    refine g_istore_n (L' := [_, _]) q_X10_frees_23 (by decide) rfl ?_
    refine g_loop2 (fun (k : Nat) (τ : AH) => k ≤ 7380 ∧ eqOff σ τ (inb (m + 11) 2) ∧ τ.2 (m + 11) = some (az 1476 fun _ => 0) ∧ ∃ f, τ.2 (m + 12) = some (az 7380 f) ∧ ∀ j, j < k → f j = 0) (fun k τ => G Γ _ cX10_frees _ _ 0 0 24 [some (.ref m), some (.int (ii k))] [] τ) (fun k τ => 7380 - k) ?_ 0 τ2 ⟨Nat.zero_le _, hE2, u1, bm, u2, fun j hj => absurd hj (Nat.not_lt_zero j)⟩
    clear ih hf
    rintro k τ3 ⟨hk, hE3, v1, f, v2, hf⟩ ih
    have v0 := (hE3.2 m (by unfold inb; omega)).trans h0
    refine g_iload_n q_X10_frees_24 rfl ?_
    refine g_sipush q_X10_frees_25 sp_7380 ?_
    refine g_icmp_ge (tgt := 44) q_X10_frees_28 (by decide) ⟨by omega, by omega⟩ ⟨by omega, by omega⟩ (fun b2 => ?_) (fun b2 => ?_)
    · have e : k = 7380 := by omega
      subst e
      refine g_repI v2 (f' := fun _ => 0) hf ?_
      refine g_return q_X10_frees_44.1 rfl ?_
      exact ⟨rfl, hE3.put ⟨by omega, by omega⟩ _, (hput_n _ _ (by omega)).trans v1, hput_s _ _ _⟩
    · refine g_aload_n q_X10_frees_31 rfl ?_
      refine g_get fl_X10_49 q_X10_frees_32 (by repeat first | with_reducible assumption | with_reducible exact hput_s _ _ _ | refine (hput_n _ _ (by omega)).trans ?_ | exact hput_s _ _ _ | assumption) rfl ?_
      refine g_iload_n q_X10_frees_35 rfl ?_
      refine g_iconst q_X10_frees_36 ?_
      refine g_zastore q_X10_frees_37 (by repeat first | with_reducible assumption | with_reducible exact hput_s _ _ _ | refine (hput_n _ _ (by omega)).trans ?_ | exact hput_s _ _ _ | assumption) (by omega) (by omega) (by first | exact Or.inl rfl | exact Or.inr rfl | omega) ?_
      have hnx := ih (k + 1) _ ⟨by omega, hE3.put (a := m + 12) ⟨by omega, by omega⟩ (az 7380 (va_up f k 0)), (hput_n _ _ (by omega)).trans v1, _, hput_s _ _ _, fun j hj => by
        unfold va_up
        by_cases e : j = k
        · rw [if_pos e]
        · rw [if_neg e]; exact hf j (by omega)⟩ (by omega)
      refine g_iinc (L' := [_, _]) q_X10_frees_38 rfl rfl ?_
      refine g_goto (tgt := 24) q_X10_frees_41 (by decide) ?_
      exact hnx
  · refine g_aload_n q_X10_frees_9 rfl ?_
    refine g_get fl_X10_45 q_X10_frees_10 (by repeat first | with_reducible assumption | with_reducible exact hput_s _ _ _ | refine (hput_n _ _ (by omega)).trans ?_ | exact hput_s _ _ _ | assumption) rfl ?_
    refine g_iload_n q_X10_frees_13 rfl ?_
    refine g_iconst q_X10_frees_14 ?_
    refine g_zastore q_X10_frees_15 (by repeat first | with_reducible assumption | with_reducible exact hput_s _ _ _ | refine (hput_n _ _ (by omega)).trans ?_ | exact hput_s _ _ _ | assumption) (by omega) (by omega) (by first | exact Or.inl rfl | exact Or.inr rfl | omega) ?_
    have hnx := ih (k + 1) _ ⟨by omega, hE.put (a := m + 11) ⟨by omega, by omega⟩ (az 1476 (va_up f k 0)), (hput_n _ _ (by omega)).trans t2, _, hput_s _ _ _, fun j hj => by
      unfold va_up
      by_cases e : j = k
      · rw [if_pos e]
      · rw [if_neg e]; exact hf j (by omega)⟩ (by omega)
    refine g_iinc (L' := [_, _]) q_X10_frees_16 rfl rfl ?_
    refine g_goto (tgt := 2) q_X10_frees_19 (by decide) ?_
    exact hnx
theorem sp_mayGo (hΓ : Gd Γ) (hG : MG σ m I cols rows so) (h1 : σ.2 (m + 11) = some (az 1476 bc)) (h2 : σ.2 (m + 12) = some (az 7380 bm)) (z1 : z01 bc) (z2 : z01 bm) (c k t : Nat) (hc : c < 36) (hk : k < 5) (ht : t < 41) : Sp Γ miX10_mayGo 0 0 [.ref m, .int (ii c), .int (ii k), .int (ii t)] σ (rb (mgo so cols rows bc bm c k t) σ) noX := by
  have h0 := hG.1
  have hnr := nxt_rg (so := so) (m := k) hG.2.2.2.1 hG.2.2.2.2.1 hc
  have no : mgo so cols rows bc bm c k t = false → ∀ l4, G Γ miX10_mayGo cX10_mayGo (rb (mgo so cols rows bc bm c k t) σ) noX 0 0 51 [some (.ref m), some (.int (ii c)), some (.int (ii k)), some (.int (ii t)), l4] [] σ := by
    intro h l4
    rw [h]
    refine g_iconst q_X10_mayGo_51 ?_
    refine g_zreturn q_X10_mayGo_52.1 rfl (by first | exact Or.inl rfl | exact Or.inr rfl | omega) ?_
    exact ⟨rfl, rfl⟩
  refine Sp_of (L := [_, _, _, _, _]) hΓ (by decide +kernel) rfl (Nat.le_of_ble_eq_true rfl) rfl ?_
  refine g_aload_n q_X10_mayGo_0 rfl ?_
  refine g_iload_n q_X10_mayGo_1 rfl ?_
  refine g_iload_n q_X10_mayGo_2 rfl ?_
  refine g_callV (rc' := 0) (rs' := 0) (As := [_, _]) cs_X10_250 q_X10_mayGo_3 (sp_next hΓ hG c k hc (by omega)) rfl (by repeat first | with_reducible assumption | with_reducible exact hput_s _ _ _ | refine (hput_n _ _ (by omega)).trans ?_ | exact hput_s _ _ _ | assumption) rfl rfl rfl rfl (Nat.le_of_ble_eq_true rfl) (by decide) (by decide) (by decide) (fun _ _ h => h.elim) (k_ri ?_)
  refine g_istore (L' := [_, _, _, _, _]) q_X10_mayGo_6 (by decide) rfl ?_
  refine g_iload q_X10_mayGo_8 rfl ?_
  refine g_iconst q_X10_mayGo_10 ?_
  refine g_icmp_eq (tgt := 51) q_X10_mayGo_11 (by decide) ⟨by omega, by omega⟩ ⟨by omega, by omega⟩ (fun b1 => ?_) (fun b1 => ?_)
  · exact no (decide_eq_false (fun q => q.1 b1)) _
  obtain ⟨n, hn⟩ : ∃ n : Nat, nxt so cols rows c k = n := ⟨(nxt so cols rows c k).toNat, by omega⟩
  rw [hn]
  have hn36 : n < 36 := by omega
  have hbr := z01_rg z1 (36 * t + n)
  have hmr := z01_rg z2 (5 * (36 * t + c) + k)
  have eM : mgo so cols rows bc bm c k t = decide (bc (36 * t + n) = 0 ∧ bm (5 * (36 * t + c) + k) = 0) := by
    unfold mgo
    rw [hn, Int.toNat_natCast]
    exact decide_eq_decide.mpr ⟨fun q => q.2, fun q => ⟨by omega, q⟩⟩
  rw [eM] at no ⊢
  refine g_aload_n q_X10_mayGo_14 rfl ?_
  refine g_get fl_X10_45 q_X10_mayGo_15 (by repeat first | with_reducible assumption | with_reducible exact hput_s _ _ _ | refine (hput_n _ _ (by omega)).trans ?_ | exact hput_s _ _ _ | assumption) rfl ?_
  refine g_bipush q_X10_mayGo_18 bp_36 ?_
  refine g_iload_n q_X10_mayGo_20 rfl ?_
  refine g_imul q_X10_mayGo_21 ?_
  refine g_iload q_X10_mayGo_22 rfl ?_
  refine g_iadd q_X10_mayGo_24 ?_
  refine g_zaload q_X10_mayGo_25 (by repeat first | with_reducible assumption | with_reducible exact hput_s _ _ _ | refine (hput_n _ _ (by omega)).trans ?_ | exact hput_s _ _ _ | assumption) (by omega) (by omega) ?_
  refine g_topi (b := bc (36 * t + n)) (by congr 1) ?_
  refine g_if_ne (tgt := 51) q_X10_mayGo_26 (by decide) hbr (fun b2 => ?_) (fun b2 => ?_)
  · exact no (decide_eq_false (fun q => b2 q.1)) _
  refine g_aload_n q_X10_mayGo_29 rfl ?_
  refine g_get fl_X10_49 q_X10_mayGo_30 (by repeat first | with_reducible assumption | with_reducible exact hput_s _ _ _ | refine (hput_n _ _ (by omega)).trans ?_ | exact hput_s _ _ _ | assumption) rfl ?_
  refine g_iconst q_X10_mayGo_33 ?_
  refine g_bipush q_X10_mayGo_34 bp_36 ?_
  refine g_iload_n q_X10_mayGo_36 rfl ?_
  refine g_imul q_X10_mayGo_37 ?_
  refine g_iload_n q_X10_mayGo_38 rfl ?_
  refine g_iadd q_X10_mayGo_39 ?_
  refine g_imul q_X10_mayGo_40 ?_
  refine g_iload_n q_X10_mayGo_41 rfl ?_
  refine g_iadd q_X10_mayGo_42 ?_
  refine g_zaload q_X10_mayGo_43 (by repeat first | with_reducible assumption | with_reducible exact hput_s _ _ _ | refine (hput_n _ _ (by omega)).trans ?_ | exact hput_s _ _ _ | assumption) (by omega) (by omega) ?_
  refine g_topi (b := bm (5 * (36 * t + c) + k)) (by congr 1) ?_
  refine g_if_ne (tgt := 51) q_X10_mayGo_44 (by decide) hmr (fun b3 => ?_) (fun b3 => ?_)
  · exact no (decide_eq_false (fun q => b3 q.2)) _
  · refine g_iconst q_X10_mayGo_47 ?_
    refine g_goto (tgt := 52) q_X10_mayGo_48 (by decide) ?_
    refine g_zreturn q_X10_mayGo_52.1 rfl (by first | exact Or.inl rfl | exact Or.inr rfl | omega) ?_
    rw [decide_eq_true ⟨by omega, by omega⟩]
    exact ⟨rfl, rfl⟩
end MW

