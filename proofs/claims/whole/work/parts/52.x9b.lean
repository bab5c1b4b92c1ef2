/-! CartPaths: texts and acts -/
def fdT (tx : Nat → Int) (len : Nat) (a b c d e : Int) : Nat → Int := apT (apT (apT (apT (apT tx len a 4) (len + 4) b 4) (len + 4 + 4) c 4) (len + 4 + 4 + 4) d 4) (len + 4 + 4 + 4 + 4) e 4
theorem okX_ap {tx : Nat → Int} (h : okX tx) (len : Nat) (z : Int) (j : Nat) : okX (apT tx len z j) := fun k => by
  unfold apT
  split
  · exact oct_rg z _
  · exact h k
section X9B
variable {Γ : GT} {σ : AH} {x lo N : Nat} {R : Nat → Nat} {len : Nat} {tx : Nat → Int} {fa : Int} {z : PS} {l : List (Int × Int × Int)} {wl : Nat} {wr : Nat → Int}
theorem eqG_fX {σ σ' : AH} {F : Nat → Prop} (h : eqOff σ σ' F) (hF : ∀ a, F a → inb x 54 a) : eqG σ σ' (fX x lo) := ⟨by rw [h.1]; exact Nat.le_refl _, fun a _ hn => h.2 a (fun q => hn (Or.inl (hF a q)))⟩
theorem ap_f {σ σ0 τ : AH} {A B : AE} {av : Int} {ve : Nat} (e : τ = hput (hput σ (x + 1) A) (x + 1 + 1) B) (hE : eqOff σ0 σ (inb (x + 1) 2)) (hx : σ.2 x = some (cpo x av wl ve)) : τ.2 (x + 1) = some A ∧ τ.2 (x + 1 + 1) = some B ∧ eqOff σ0 τ (inb (x + 1) 2) ∧ τ.2 x = some (cpo x av wl ve) := by
  rw [e]
  exact ⟨(hput_n _ _ (by omega)).trans (hput_s _ _ _), hput_s _ _ _, (hE.put ⟨by omega, by omega⟩ _).put ⟨by omega, by omega⟩ _, (hput_n _ _ (by omega)).trans ((hput_n _ _ (by omega)).trans hx)⟩
theorem sp_feed (hΓ : Gd Γ) (hN : N < 1000) (hX : CX σ x lo N R len tx fa z l wl wr) (a b c d e : Int) : Sp Γ miX9_feed 8 48 [.ref x, .int (ii a), .int (ii b), .int (ii c), .int (ii d), .int (ii e)] σ (oQ 0 (if 380 < len then -1 else (len : Int) + 20) (SX σ x lo (N + 1) R (if 380 < len then len else len + 20) (if 380 < len then tx else fdT tx len a b c d e) fa z l wl wr)) noX := by
  have hX' := hX
  obtain ⟨ve, av, hh⟩ := hX'
  have hh' := hh
  obtain ⟨h1, h2, h3, h4, h5, q1, q2, ⟨y, lv, y1, ⟨ws, y2⟩, y3, y4⟩, -⟩ := hh'
  have hlen := h1.2.2.2.1
  refine Sp_of (L := [_, _, _, _, _, _]) hΓ (by decide +kernel) rfl (Nat.le_of_ble_eq_true rfl) rfl ?_
  refine g_aload_n q_X9_feed_0 rfl ?_
  refine g_get fl_X9_10 q_X9_feed_1 (by repeat first | with_reducible assumption | with_reducible exact hput_s _ _ _ | refine (hput_n _ _ (by omega)).trans ?_ | exact hput_s _ _ _ | assumption) rfl ?_
  refine g_get fl_X9_86 q_X9_feed_4 (by repeat first | with_reducible assumption | with_reducible exact hput_s _ _ _ | refine (hput_n _ _ (by omega)).trans ?_ | exact hput_s _ _ _ | assumption) rfl ?_
  refine g_sipush q_X9_feed_7 sp_380 ?_
  refine g_icmp_le (tgt := 15) q_X9_feed_10 (by decide) ⟨by omega, by omega⟩ ⟨by omega, by omega⟩ (fun e1 => ?_) (fun e1 => ?_)
  · rw [if_neg (by omega), if_neg (by omega), if_neg (by omega)]
    refine g_aload_n q_X9_feed_15 rfl ?_
    refine g_get fl_X9_10 q_X9_feed_16 (by repeat first | with_reducible assumption | with_reducible exact hput_s _ _ _ | refine (hput_n _ _ (by omega)).trans ?_ | exact hput_s _ _ _ | assumption) rfl ?_
    refine g_iload_n q_X9_feed_19 rfl ?_
    refine g_callVN (rc' := 8) (rs' := 48) (As := [_]) cs_X9_89 q_X9_feed_20 (sp_append hΓ y2 y3 (by omega) a) rfl (by repeat first | with_reducible assumption | with_reducible exact hput_s _ _ _ | refine (hput_n _ _ (by omega)).trans ?_ | exact hput_s _ _ _ | assumption) rfl rfl rfl rfl (Nat.le_of_ble_eq_true rfl) (by decide) (by decide) (by decide) (fun _ _ h => h.elim) (k_rv ?_)
    obtain ⟨τ0, hτ⟩ : ∃ τ, τ = hput (hput σ (x + 1) (rdo (x + 1) (len + 4) (zPo y) fa ws)) (x + 1 + 1) (ai 400 (apT tx (len) a 4)) := ⟨_, rfl⟩
    obtain ⟨k0, m0, E0, x0⟩ := ap_f hτ (eqOff.rfl') q2
    refine g_eq (σ2 := τ0) rfl rfl hτ.symm ?_
    clear hτ
    refine g_aload_n q_X9_feed_23 rfl ?_
    refine g_get fl_X9_10 q_X9_feed_24 (by repeat first | with_reducible assumption | with_reducible exact hput_s _ _ _ | refine (hput_n _ _ (by omega)).trans ?_ | exact hput_s _ _ _ | assumption) rfl ?_
    refine g_iload_n q_X9_feed_27 rfl ?_
    refine g_callVN (rc' := 8) (rs' := 48) (As := [_]) cs_X9_89 q_X9_feed_28 (sp_append hΓ k0 m0 (by omega) b) rfl (by repeat first | with_reducible assumption | with_reducible exact hput_s _ _ _ | refine (hput_n _ _ (by omega)).trans ?_ | exact hput_s _ _ _ | assumption) rfl rfl rfl rfl (Nat.le_of_ble_eq_true rfl) (by decide) (by decide) (by decide) (fun _ _ h => h.elim) (k_rv ?_)
    obtain ⟨τ1, hτ⟩ : ∃ τ, τ = hput (hput τ0 (x + 1) (rdo (x + 1) (len + 4 + 4) (zPo y) fa ws)) (x + 1 + 1) (ai 400 (apT (apT tx (len) a 4) (len + 4) b 4)) := ⟨_, rfl⟩
    obtain ⟨k1, m1, E1, x1⟩ := ap_f hτ (E0) x0
    refine g_eq (σ2 := τ1) rfl rfl hτ.symm ?_
    clear hτ
    refine g_aload_n q_X9_feed_31 rfl ?_
    refine g_get fl_X9_10 q_X9_feed_32 (by repeat first | with_reducible assumption | with_reducible exact hput_s _ _ _ | refine (hput_n _ _ (by omega)).trans ?_ | exact hput_s _ _ _ | assumption) rfl ?_
    refine g_iload_n q_X9_feed_35 rfl ?_
    refine g_callVN (rc' := 8) (rs' := 48) (As := [_]) cs_X9_89 q_X9_feed_36 (sp_append hΓ k1 m1 (by omega) c) rfl (by repeat first | with_reducible assumption | with_reducible exact hput_s _ _ _ | refine (hput_n _ _ (by omega)).trans ?_ | exact hput_s _ _ _ | assumption) rfl rfl rfl rfl (Nat.le_of_ble_eq_true rfl) (by decide) (by decide) (by decide) (fun _ _ h => h.elim) (k_rv ?_)
    obtain ⟨τ2, hτ⟩ : ∃ τ, τ = hput (hput τ1 (x + 1) (rdo (x + 1) (len + 4 + 4 + 4) (zPo y) fa ws)) (x + 1 + 1) (ai 400 (apT (apT (apT tx (len) a 4) (len + 4) b 4) (len + 4 + 4) c 4)) := ⟨_, rfl⟩
    obtain ⟨k2, m2, E2, x2⟩ := ap_f hτ (E1) x1
    refine g_eq (σ2 := τ2) rfl rfl hτ.symm ?_
    clear hτ
    refine g_aload_n q_X9_feed_39 rfl ?_
    refine g_get fl_X9_10 q_X9_feed_40 (by repeat first | with_reducible assumption | with_reducible exact hput_s _ _ _ | refine (hput_n _ _ (by omega)).trans ?_ | exact hput_s _ _ _ | assumption) rfl ?_
    refine g_iload q_X9_feed_43 rfl ?_
    refine g_callVN (rc' := 8) (rs' := 48) (As := [_]) cs_X9_89 q_X9_feed_45 (sp_append hΓ k2 m2 (by omega) d) rfl (by repeat first | with_reducible assumption | with_reducible exact hput_s _ _ _ | refine (hput_n _ _ (by omega)).trans ?_ | exact hput_s _ _ _ | assumption) rfl rfl rfl rfl (Nat.le_of_ble_eq_true rfl) (by decide) (by decide) (by decide) (fun _ _ h => h.elim) (k_rv ?_)
    obtain ⟨τ3, hτ⟩ : ∃ τ, τ = hput (hput τ2 (x + 1) (rdo (x + 1) (len + 4 + 4 + 4 + 4) (zPo y) fa ws)) (x + 1 + 1) (ai 400 (apT (apT (apT (apT tx (len) a 4) (len + 4) b 4) (len + 4 + 4) c 4) (len + 4 + 4 + 4) d 4)) := ⟨_, rfl⟩
    obtain ⟨k3, m3, E3, x3⟩ := ap_f hτ (E2) x2
    refine g_eq (σ2 := τ3) rfl rfl hτ.symm ?_
    clear hτ
    refine g_aload_n q_X9_feed_48 rfl ?_
    refine g_get fl_X9_10 q_X9_feed_49 (by repeat first | with_reducible assumption | with_reducible exact hput_s _ _ _ | refine (hput_n _ _ (by omega)).trans ?_ | exact hput_s _ _ _ | assumption) rfl ?_
    refine g_iload q_X9_feed_52 rfl ?_
    refine g_callVN (rc' := 8) (rs' := 48) (As := [_]) cs_X9_89 q_X9_feed_54 (sp_append hΓ k3 m3 (by omega) e) rfl (by repeat first | with_reducible assumption | with_reducible exact hput_s _ _ _ | refine (hput_n _ _ (by omega)).trans ?_ | exact hput_s _ _ _ | assumption) rfl rfl rfl rfl (Nat.le_of_ble_eq_true rfl) (by decide) (by decide) (by decide) (fun _ _ h => h.elim) (k_rv ?_)
    obtain ⟨τ4, hτ⟩ : ∃ τ, τ = hput (hput τ3 (x + 1) (rdo (x + 1) (len + 4 + 4 + 4 + 4 + 4) (zPo y) fa ws)) (x + 1 + 1) (ai 400 (apT (apT (apT (apT (apT tx (len) a 4) (len + 4) b 4) (len + 4 + 4) c 4) (len + 4 + 4 + 4) d 4) (len + 4 + 4 + 4 + 4) e 4)) := ⟨_, rfl⟩
    obtain ⟨k4, m4, E4, x4⟩ := ap_f hτ (E3) x3
    refine g_eq (σ2 := τ4) rfl rfl hτ.symm ?_
    clear hτ
    refine g_aload_n q_X9_feed_57 rfl ?_
    refine g_get fl_X9_10 q_X9_feed_58 (by repeat first | with_reducible assumption | with_reducible exact hput_s _ _ _ | refine (hput_n _ _ (by omega)).trans ?_ | exact hput_s _ _ _ | assumption) rfl ?_
    refine g_get fl_X9_86 q_X9_feed_61 (by repeat first | with_reducible assumption | with_reducible exact hput_s _ _ _ | refine (hput_n _ _ (by omega)).trans ?_ | exact hput_s _ _ _ | assumption) rfl ?_
    refine g_ireturn q_X9_feed_64.1 rfl ?_
    refine ⟨rfl, by rw [show (len : Int) + 20 = ((len + 4 + 4 + 4 + 4 + 4 : Nat) : Int) by omega], (show CX τ4 x lo N R (len + 20) (fdT tx len a b c d e) fa z l wl wr from ⟨ve, av, hh.k1 (eqOff.rfl'.trans E4 (fun a i => by unfold inb at i ⊢; omega)) ⟨y, lv, y1, ⟨ws, k4⟩, m4, y4.keep (fun a i => ?_)⟩ (by omega) (okX_ap (okX_ap (okX_ap (okX_ap (okX_ap h2 _ _ _) _ _ _) _ _ _) _ _ _) _ _ _) h3⟩).up (Nat.le_succ N) hN, eqG_fX E4 (fun a i => by unfold inb at i ⊢; omega)⟩
    exact E4.2 a (by unfold inb at i ⊢; omega)
  · rw [if_pos (by omega), if_pos (by omega), if_pos (by omega)]
    refine g_iconst q_X9_feed_13 ?_
    refine g_ireturn q_X9_feed_14.1 rfl ?_
    exact ⟨rfl, rfl, SX.of hX hN⟩
theorem sp_end (hΓ : Gd Γ) (hN : N < 1000) (hX : CX σ x lo N R len tx fa z l wl wr) (n : Int) (hn : rg n) : Sp Γ miX9_end 8 48 [.ref x, .int (ii n)] σ (oQ 0 (bi (decide (0 ≤ n ∧ n ≤ len))) (SX σ x lo (N + 1) R (if 0 ≤ n ∧ n ≤ len then n.toNat else len) tx fa z l wl wr)) noX := by
  have hX' := hX
  obtain ⟨ve, av, hh⟩ := hX'
  have hh' := hh
  obtain ⟨h1, h2, h3, h4, h5, q1, q2, ⟨y, lv, y1, ⟨ws, y2⟩, y3, y4⟩, -⟩ := hh'
  have hlen := h1.2.2.2.1
  have no : ¬ (0 ≤ n ∧ n ≤ len) → G Γ miX9_end cX9_end (oQ 0 (bi (decide (0 ≤ n ∧ n ≤ len))) (SX σ x lo (N + 1) R (if 0 ≤ n ∧ n ≤ len then n.toNat else len) tx fa z l wl wr)) noX 8 48 15 [some (.ref x), some (.int (ii n))] [] σ := by
    intro h
    rw [if_neg h, decide_eq_false h]
    refine g_iconst q_X9_end_15 ?_
    refine g_zreturn q_X9_end_16.1 rfl (by first | exact Or.inl rfl | exact Or.inr rfl | omega) ?_
    exact ⟨rfl, rfl, SX.of hX hN⟩
  refine Sp_of (L := [_, _]) hΓ (by decide +kernel) rfl (Nat.le_of_ble_eq_true rfl) rfl ?_
  refine g_iload_n q_X9_end_0 rfl ?_
  refine g_if_lt (tgt := 15) q_X9_end_1 (by decide) hn (fun e1 => ?_) (fun e1 => ?_)
  · exact no (by omega)
  refine g_iload_n q_X9_end_4 rfl ?_
  refine g_aload_n q_X9_end_5 rfl ?_
  refine g_get fl_X9_10 q_X9_end_6 (by repeat first | with_reducible assumption | with_reducible exact hput_s _ _ _ | refine (hput_n _ _ (by omega)).trans ?_ | exact hput_s _ _ _ | assumption) rfl ?_
  refine g_get fl_X9_86 q_X9_end_9 (by repeat first | with_reducible assumption | with_reducible exact hput_s _ _ _ | refine (hput_n _ _ (by omega)).trans ?_ | exact hput_s _ _ _ | assumption) rfl ?_
  refine g_icmp_le (tgt := 17) q_X9_end_12 (by decide) hn ⟨by omega, by omega⟩ (fun e2 => ?_) (fun e2 => ?_)
  · rw [if_pos (by omega), decide_eq_true (by omega)]
    obtain ⟨k, rfl⟩ : ∃ k : Nat, n = k := ⟨n.toNat, by omega⟩
    rw [Int.toNat_natCast]
    refine g_aload_n q_X9_end_17 rfl ?_
    refine g_get fl_X9_10 q_X9_end_18 (by repeat first | with_reducible assumption | with_reducible exact hput_s _ _ _ | refine (hput_n _ _ (by omega)).trans ?_ | exact hput_s _ _ _ | assumption) rfl ?_
    refine g_iload_n q_X9_end_21 rfl ?_
    refine g_put fp_X9_86 q_X9_end_22 (by repeat first | with_reducible assumption | with_reducible exact hput_s _ _ _ | refine (hput_n _ _ (by omega)).trans ?_ | exact hput_s _ _ _ | assumption) rfl rfl ?_
    refine g_iconst q_X9_end_25 ?_
    refine g_zreturn q_X9_end_26.1 rfl (by first | exact Or.inl rfl | exact Or.inr rfl | omega) ?_
    have hE : eqOff σ (hput σ (x + 1) (rdo (x + 1) k (zPo y) fa ws)) (inb (x + 1) 9) := eqOff.rfl'.put ⟨by omega, by omega⟩ _
    refine ⟨rfl, rfl, (show CX (hput σ (x + 1) (rdo (x + 1) k (zPo y) fa ws)) x lo N R k tx fa z l wl wr from ⟨ve, av, hh.k1 hE ⟨y, lv, y1, ⟨ws, hput_s _ _ _⟩, (hput_n _ _ (by omega)).trans y3, y4.keep (fun a i => hput_n _ _ (by unfold inb at i; omega))⟩ (by omega) h2 h3⟩).up (Nat.le_succ N) hN, eqG_fX hE (fun a i => by unfold inb at i ⊢; omega)⟩
  · exact no (by omega)
theorem sp_sceneChanged (hΓ : Gd Γ) {av : Int} {ve : Nat} {y : PS} {lv : Nat → BitVec 64} (hx : σ.2 x = some (cpo x av wl ve)) (hS : SCz σ (x + 10) y lv) (hg : gZ y) : Sp Γ miX9_sceneChanged 0 0 [.ref x] σ (rv (hput (hput σ (x + 10 + 6) (al 4 (lvZ y))) x (cpo x av wl (ve + 1)))) noX := by
  have g0 := hS.1
  refine Sp_of (L := [_]) hΓ (by decide +kernel) rfl (Nat.le_of_ble_eq_true rfl) rfl ?_
  refine g_aload_n q_X9_sceneChanged_0 rfl ?_
  refine g_get fl_X9_19 q_X9_sceneChanged_1 (by repeat first | with_reducible assumption | with_reducible exact hput_s _ _ _ | refine (hput_n _ _ (by omega)).trans ?_ | exact hput_s _ _ _ | assumption) rfl ?_
  refine g_callVN (rc' := 0) (rs' := 0) (As := []) cs_X9_116 q_X9_sceneChanged_4 (sp_refresh hΓ hS hg.1.1 hg.1.2.1 hg.2.1) rfl (by repeat first | with_reducible assumption | with_reducible exact hput_s _ _ _ | refine (hput_n _ _ (by omega)).trans ?_ | exact hput_s _ _ _ | assumption) rfl rfl rfl rfl (Nat.le_of_ble_eq_true rfl) (by decide) (by decide) (by decide) (fun _ _ h => h.elim) (k_rv ?_)
  refine g_aload_n q_X9_sceneChanged_7 rfl ?_
  refine g_dup q_X9_sceneChanged_8 rfl ?_
  refine g_get fl_X9_83 q_X9_sceneChanged_9 (by repeat first | with_reducible assumption | with_reducible exact hput_s _ _ _ | refine (hput_n _ _ (by omega)).trans ?_ | exact hput_s _ _ _ | assumption) rfl ?_
  refine g_iconst q_X9_sceneChanged_12 ?_
  refine g_iadd q_X9_sceneChanged_13 ?_
  refine g_put fp_X9_83 q_X9_sceneChanged_14 (by repeat first | with_reducible assumption | with_reducible exact hput_s _ _ _ | refine (hput_n _ _ (by omega)).trans ?_ | exact hput_s _ _ _ | assumption) rfl rfl ?_
  refine g_return q_X9_sceneChanged_17.1 rfl ?_
  exact ⟨rfl, rfl⟩
end X9B

