/-! the reference: carts one by one -/
section MTU
variable {Γ : GT} {σ : AH} {m : Nat} {I : Nat → Int} {A : Nat → Nat → Int} {N : Nat → Nat → BitVec 64} {len : Nat} {tx : Nat → Int} {fa e0 : Int} {z : PS} {l : List (Int × Int × Int)} {wl : Nat} {wr : Nat → Int} {bc bm so : Nat → Int} {X : (Nat → BitVec 64) × (Nat → BitVec 64)}
/-- the way back is forbidden -/
theorem FBr.opp (w : WFz z) (hso : ∀ c, gIn (zCo z) (zRo z) c → so c = zSO z c) (h : FBr z bc bm X) {fr to ti : Int} (hf : 0 ≤ fr ∧ fr < 36) (hg : gIn (zCo z) (zRo z) fr.toNat) (h1 : zSO z fr.toNat ≠ 1) (ht : 0 ≤ to ∧ to < 36) (hti : 1 ≤ ti ∧ ti ≤ 40) : (mvM so (zCo z) (zRo z) fr.toNat to < 4 → FBr z bc (va_up bm (5 * (36 * ti + fr) + mvM so (zCo z) (zRo z) fr.toNat to).toNat 1) (X.1, fbm X.2 fr.toNat to ti.toNat 4)) ∧ (4 ≤ mvM so (zCo z) (zRo z) fr.toNat to → FBr z bc bm (X.1, fbm X.2 fr.toNat to ti.toNat 4)) ∧ 0 ≤ mvM so (zCo z) (zRo z) fr.toNat to ∧ mvM so (zCo z) (zRo z) fr.toNat to ≤ 4 := by
  have e : ∀ j, j < 4 → nxt so (zCo z) (zRo z) fr.toNat j = if (lvZ z j).getLsbD fr.toNat = true then (fr.toNat : Int) + t_ahd j else -1 := fun j hj => (nxt_lv w.1.1.1 w.1.1.2.1 w.1.2.1 hso hg h1 hj).1
  rcases fstN_cases (fun k => decide (nxt so (zCo z) (zRo z) fr.toNat k = to)) 4 with ⟨q, hn⟩ | ⟨k, hk, q, hp, hn⟩
  · have em : mvM so (zCo z) (zRo z) fr.toNat to = 4 := by unfold mvM; rw [q, if_pos rfl]
    rw [em]
    refine ⟨fun q => absurd q (by decide), fun _ => ?_, by decide, by decide⟩
    obtain ⟨z1, z2, h3, h4⟩ := h
    refine ⟨z1, z2, h3, fun t c j ht hc hj hlj => ?_, h4.2⟩
    show _ = bi ((fbm X.2 fr.toNat to ti.toNat 4 (41 * j + t)).getLsbD c)
    unfold fbm
    rw [show (41 * j + t) % 41 = t by omega, show (41 * j + t) / 41 = j by omega]
    by_cases q2 : t = ti.toNat ∧ j < 4 ∧ (fr.toNat : Int) + t_ahd j = to
    · rw [if_pos q2, BitVec.getLsbD_or, bt1_b (by omega)]
      by_cases e2 : c = fr.toNat
      · exfalso
        have q3 := of_decide_eq_false (hn j hj)
        rw [e j hj, if_pos (by rw [← e2]; exact hlj)] at q3
        exact q3 q2.2.2
      · rw [decide_eq_false e2, Bool.or_false]
        exact h4.1 t c j ht hc hj hlj
    · rw [if_neg q2]
      exact h4.1 t c j ht hc hj hlj
  · have em : mvM so (zCo z) (zRo z) fr.toNat to = k := by unfold mvM; rw [q, if_neg (by omega)]
    have hk2 := of_decide_eq_true hp
    rw [e k hk] at hk2
    have hl : (lvZ z k).getLsbD fr.toNat = true := by
      by_cases q2 : (lvZ z k).getLsbD fr.toNat = true
      · exact q2
      · rw [if_neg q2] at hk2
        omega
    rw [if_pos hl] at hk2
    have hok : okFb z fr to ti := ⟨hti, ht, Or.inr ⟨hf, hg, h1, k, hk, hl, by omega⟩⟩
    have hm := (h.move w hso (by omega) hok).1
    have eb : fb1 fr to ti X = (X.1, fbm X.2 fr.toNat to ti.toNat 4) := by unfold fb1; rw [if_neg (by omega)]
    rw [eb] at hm
    refine ⟨fun _ => hm, fun q => ?_, by omega, by omega⟩
    rw [em] at q
    omega
theorem FBr.cel {X1 : Nat → BitVec 64} {X2 : Nat → BitVec 64} (h : FBr z bc bm (X1, X2)) {t p : Nat} (ht : t < 41) (hp : p < 36) {Y : Nat → BitVec 64} (hY : ∀ s, s < 41 → Y s = if s = t then X1 s ||| bt1 p else X1 s) : FBr z (va_up bc (36 * t + p) 1) bm (Y, X2) := by
  obtain ⟨z1, z2, h1, h2⟩ := h
  refine ⟨z01_up z1 _ (Or.inr rfl), z2, fun s c hs hc => ?_, h2⟩
  show va_up bc (36 * t + p) 1 (36 * s + c) = bi ((Y s).getLsbD c)
  rw [hY s hs]
  by_cases e : s = t
  · rw [if_pos e, BitVec.getLsbD_or, bt1_b (by omega), e]
    by_cases e2 : c = p
    · rw [decide_eq_true e2, Bool.or_true, e2, va_eq]
      rfl
    · rw [decide_eq_false e2, Bool.or_false, va_ne (by omega)]
      exact h1 t c ht hc
  · rw [if_neg e, va_ne (by omega)]
    exact h1 s c hs hc
theorem sp_forbidsAll (hΓ : Gd Γ) (h : MC σ m I A N) (hz : MZ I A z) (w : WFz z) (hF : FBr z (A 11) (A 12) X) {c : Nat} (hc : c < 5) {W : Nat → Int} (hW : ∀ t, t < 41 → A 16 (205 * 302 + (41 * c + t)) = W t) (hg : ∀ t, t < 41 → (0 ≤ W t ∧ W t < 36) ∧ gIn (zCo z) (zRo z) (W t).toNat ∧ zSO z (W t).toNat ≠ 1) : Sp Γ miX10_forbidsAll 0 0 [.ref m, .int (ii c)] σ (fbQ σ m I A N z (fwC X.1 W, fwM X.2 W 40)) noX := by
  obtain ⟨C, hC⟩ : ∃ C : Nat → Nat → BitVec 64, C = fun t s => if s < t then X.1 s ||| bt1 (W s).toNat else X.1 s := ⟨_, rfl⟩
  have Cv : ∀ t s, C t s = if s < t then X.1 s ||| bt1 (W s).toNat else X.1 s := fun t s => by rw [hC]
  refine Sp_of (L := [_, _, _, _, _]) hΓ (by decide +kernel) rfl (Nat.le_of_ble_eq_true rfl) rfl ?_
  refine g_iconst q_X10_forbidsAll_0 ?_
  refine g_istore_n (L' := [_, _, _, _, _]) q_X10_forbidsAll_1 (by decide) rfl ?_
  refine g_loop3 (fun (t : Nat) (τ : AH) (B : Nat → Nat → Int) => t ≤ 41 ∧ eqOff σ τ (inb (m + 11) 2) ∧ MC τ m I B N ∧ (∀ k, k < 11 ∨ 12 < k → B k = A k) ∧ FBr z (B 11) (B 12) (C t, fwM X.2 W (t - 1))) (fun t τ B => G Γ _ cX10_forbidsAll _ _ 0 0 2 [some (.ref m), some (.int (ii c)), some (.int (ii t)), none, none] [] τ) (fun t τ B => 41 - t) ?_ 0 σ A ⟨Nat.zero_le _, eqOff.rfl', h, fun _ _ => rfl, ?_⟩
  case refine_2 =>
    rw [show C 0 = X.1 from funext fun s => by rw [Cv, if_neg (Nat.not_lt_zero s)]]
    exact hF
  clear h hF
  rintro t τ B ⟨ht, hE, hM, hB, hF⟩ ih
  have t0 := hM.1
  have t16 : τ.2 (m + 16) = some (ai 62115 (A 16)) := by rw [← hB 16 (by omega)]; exact hM.a16
  have t11 := hM.a11
  refine g_iload_n q_X10_forbidsAll_2 rfl ?_
  refine g_bipush q_X10_forbidsAll_3 bp_41 ?_
  refine g_icmp_ge (tgt := 96) q_X10_forbidsAll_5 (by decide) ⟨by omega, by omega⟩ ⟨by omega, by omega⟩ (fun b1 => ?_) (fun b1 => ?_)
  · have e : t = 41 := by omega
    subst e
    refine g_return q_X10_forbidsAll_96.1 rfl ?_
    refine ⟨rfl, hE, B, hM, hB, hF.1, hF.2.1, fun s d hs hd => ?_, hF.2.2.2⟩
    have := hF.2.2.1 s d hs hd
    rw [this]
    show bi ((C 41 s).getLsbD d) = bi ((fwC X.1 W s).getLsbD d)
    rw [Cv, if_pos hs]
    rfl
  obtain ⟨g1, g2, g3⟩ := hg t (by omega)
  have hF2 : FBr z (va_up (B 11) (36 * t + (W t).toNat) 1) (B 12) (C (t + 1), fwM X.2 W (t - 1)) := hF.cel (by omega) (by omega) (fun s hs => by
    rw [Cv, Cv]
    by_cases q : s = t
    · rw [if_pos q, if_pos (by omega), if_neg (by omega), q]
    · rw [if_neg q]
      by_cases q2 : s < t
      · rw [if_pos q2, if_pos (by omega)]
      · rw [if_neg q2, if_neg (by omega)])
  refine g_aload_n q_X10_forbidsAll_8 rfl ?_
  refine g_sipush q_X10_forbidsAll_9 sp_302 ?_
  refine g_iload_n q_X10_forbidsAll_12 rfl ?_
  refine g_iload_n q_X10_forbidsAll_13 rfl ?_
  refine g_callV (rc' := 0) (rs' := 0) (As := [_, _, _]) cs_X10_263 q_X10_forbidsAll_14 (sp_wayAt hΓ t0 t16 302 c t (by omega) hc (by omega)) rfl (by repeat first | with_reducible assumption | with_reducible exact hput_s _ _ _ | refine (hput_n _ _ (by omega)).trans ?_ | exact hput_s _ _ _ | assumption) rfl rfl rfl rfl (Nat.le_of_ble_eq_true rfl) (by decide) (by decide) (by decide) (fun _ _ h => h.elim) (k_ri ?_)
  refine g_topi (b := W t) (hW t (by omega)) ?_
  refine g_istore_n (L' := [_, _, _, _, _]) q_X10_forbidsAll_17 (by decide) rfl ?_
  refine g_aload_n q_X10_forbidsAll_18 rfl ?_
  refine g_get fl_X10_45 q_X10_forbidsAll_19 (by repeat first | with_reducible assumption | with_reducible exact hput_s _ _ _ | refine (hput_n _ _ (by omega)).trans ?_ | exact hput_s _ _ _ | assumption) rfl ?_
  refine g_bipush q_X10_forbidsAll_22 bp_36 ?_
  refine g_iload_n q_X10_forbidsAll_24 rfl ?_
  refine g_imul q_X10_forbidsAll_25 ?_
  refine g_iload_n q_X10_forbidsAll_26 rfl ?_
  refine g_iadd q_X10_forbidsAll_27 ?_
  refine g_topi (b := ((36 * t + (W t).toNat : Nat) : Int)) (by omega) ?_
  refine g_iconst q_X10_forbidsAll_28 ?_
  refine g_zastore q_X10_forbidsAll_29 (by repeat first | with_reducible assumption | with_reducible exact hput_s _ _ _ | refine (hput_n _ _ (by omega)).trans ?_ | exact hput_s _ _ _ | assumption) (by omega) (by omega) (by first | exact Or.inl rfl | exact Or.inr rfl | omega) ?_
  obtain ⟨τ2, hτ2⟩ : ∃ τ2, τ2 = hput τ (m + 11) (az 1476 (va_up (B 11) (36 * t + (W t).toNat) 1)) := ⟨_, rfl⟩
  refine g_eq (σ2 := τ2) rfl rfl hτ2.symm ?_
  have hM2 : MC τ2 m I (va_up B 11 (va_up (B 11) (36 * t + (W t).toNat) 1)) N := by rw [hτ2]; exact hM.putA 11 (by omega) _
  have hE2 : eqOff σ τ2 (inb (m + 11) 2) := by rw [hτ2]; exact hE.put ⟨by omega, by omega⟩ _
  clear hτ2 hM hE t0 t16 t11
  obtain ⟨B2, hB2⟩ : ∃ B2, B2 = va_up B 11 (va_up (B 11) (36 * t + (W t).toNat) 1) := ⟨_, rfl⟩
  have f2 : ∀ k, k < 11 ∨ 12 < k → B2 k = A k := fun k hk => by rw [hB2, va_ne (by omega)]; exact hB k hk
  have hF3 : FBr z (B2 11) (B2 12) (C (t + 1), fwM X.2 W (t - 1)) := by rw [hB2, va_eq, va_ne (by omega)]; exact hF2
  rw [← hB2] at hM2
  clear hF2 hF hB hB2
  have nx : ∀ τ' B' l3 l4, eqOff σ τ' (inb (m + 11) 2) → MC τ' m I B' N → (∀ k, k < 11 ∨ 12 < k → B' k = A k) → FBr z (B' 11) (B' 12) (C (t + 1), fwM X.2 W t) → G Γ miX10_forbidsAll cX10_forbidsAll (fbQ σ m I A N z (fwC X.1 W, fwM X.2 W 40)) noX 0 0 90 [some (.ref m), some (.int (ii c)), some (.int (ii t)), l3, l4] [] τ' := fun τ' B' l3 l4 a1 a2 a3 a4 => by
    have hn := ih (t + 1) τ' B' ⟨by omega, a1, a2, a3, a4⟩ (by omega)
    refine g_fl (L2 := [some (.ref m), some (.int (ii c)), some (.int (ii t)), none, none]) ?_ ⟨rfl, rfl, rfl, trivial⟩
    refine g_iinc (L' := [_, _, _, _, _]) q_X10_forbidsAll_90 rfl rfl ?_
    refine g_goto (tgt := 2) q_X10_forbidsAll_93 (by decide) ?_
    exact hn
  clear ih
  have v0 := hM2.1
  have v12 := hM2.a12
  have v16 : τ2.2 (m + 16) = some (ai 62115 (A 16)) := by rw [← f2 16 (by omega)]; exact hM2.a16
  refine g_iload_n q_X10_forbidsAll_30 rfl ?_
  refine g_if_ne (tgt := 38) q_X10_forbidsAll_31 (by decide) ⟨by omega, by omega⟩ (fun b2 => ?_) (fun b2 => ?_)
  case refine_2 =>
    have e : t = 0 := by omega
    subst e
    refine g_iload_n q_X10_forbidsAll_34 rfl ?_
    refine g_goto (tgt := 49) q_X10_forbidsAll_35 (by decide) ?_
    refine g_istore (L' := [_, _, _, _, _]) q_X10_forbidsAll_49 (by decide) rfl ?_
    refine g_iload q_X10_forbidsAll_51 rfl ?_
    refine g_iload_n q_X10_forbidsAll_53 rfl ?_
    refine g_icmp_eq (tgt := 90) q_X10_forbidsAll_54 (by decide) ⟨by omega, by omega⟩ ⟨by omega, by omega⟩ (fun b3 => ?_) (fun b3 => ?_)
    · exact nx τ2 B2 _ _ hE2 hM2 f2 hF3
    · exact absurd rfl b3
  obtain ⟨u, hu⟩ : ∃ u, t = u + 1 := ⟨t - 1, by omega⟩
  subst hu
  rw [show u + 1 - 1 = u by omega] at hF3
  obtain ⟨k1, -⟩ := hg u (by omega)
  refine g_aload_n q_X10_forbidsAll_38 rfl ?_
  refine g_sipush q_X10_forbidsAll_39 sp_302 ?_
  refine g_iload_n q_X10_forbidsAll_42 rfl ?_
  refine g_iload_n q_X10_forbidsAll_43 rfl ?_
  refine g_iconst q_X10_forbidsAll_44 ?_
  refine g_isub q_X10_forbidsAll_45 ?_
  refine g_topi (b := (u : Int)) (by omega) ?_
  refine g_callV (rc' := 0) (rs' := 0) (As := [_, _, _]) cs_X10_263 q_X10_forbidsAll_46 (sp_wayAt hΓ v0 v16 302 c u (by omega) hc (by omega)) rfl (by repeat first | with_reducible assumption | with_reducible exact hput_s _ _ _ | refine (hput_n _ _ (by omega)).trans ?_ | exact hput_s _ _ _ | assumption) rfl rfl rfl rfl (Nat.le_of_ble_eq_true rfl) (by decide) (by decide) (by decide) (fun _ _ h => h.elim) (k_ri ?_)
  refine g_topi (b := W u) (hW u (by omega)) ?_
  refine g_istore (L' := [_, _, _, _, _]) q_X10_forbidsAll_49 (by decide) rfl ?_
  refine g_iload q_X10_forbidsAll_51 rfl ?_
  refine g_iload_n q_X10_forbidsAll_53 rfl ?_
  refine g_icmp_eq (tgt := 90) q_X10_forbidsAll_54 (by decide) ⟨by omega, by omega⟩ ⟨by omega, by omega⟩ (fun b3 => ?_) (fun b3 => ?_)
  · exact nx τ2 B2 _ _ hE2 hM2 f2 (by rw [fwM_s, if_neg (fun q => q b3.symm)]; exact hF3)
  have hz2 : MZ I B2 z := hz.cg ⟨rfl, rfl, rfl⟩ (f2 6 (by omega)) (f2 8 (by omega)) (f2 9 (by omega))
  obtain ⟨o1, o2, o3, o4⟩ := hF3.opp w hz2.2.2.1 g1 g2 g3 k1 (ti := ((u + 1 : Nat) : Int)) ⟨by omega, by omega⟩
  have eM : fwM X.2 W (u + 1) = fbm (fwM X.2 W u) (W (u + 1)).toNat (W u) (u + 1) 4 := by rw [fwM_s, if_pos (fun q => b3 q.symm)]
  rw [eM] at nx
  have o1 : mvM (B2 6) (zCo z) (zRo z) (W (u + 1)).toNat (W u) < 4 → FBr z (B2 11) (va_up (B2 12) (5 * (36 * ((u + 1 : Nat) : Int) + W (u + 1)) + mvM (B2 6) (zCo z) (zRo z) (W (u + 1)).toNat (W u)).toNat 1) (C (u + 1 + 1), fbm (fwM X.2 W u) (W (u + 1)).toNat (W u) (u + 1) 4) := o1
  have o2 : 4 ≤ mvM (B2 6) (zCo z) (zRo z) (W (u + 1)).toNat (W u) → FBr z (B2 11) (B2 12) (C (u + 1 + 1), fbm (fwM X.2 W u) (W (u + 1)).toNat (W u) (u + 1) 4) := o2
  refine g_aload_n q_X10_forbidsAll_57 rfl ?_
  refine g_iload_n q_X10_forbidsAll_58 rfl ?_
  refine g_topi (b := (((W (u + 1)).toNat : Nat) : Int)) (by omega) ?_
  refine g_iload q_X10_forbidsAll_59 rfl ?_
  refine g_callV (rc' := 0) (rs' := 0) (As := [_, _]) cs_X10_299 q_X10_forbidsAll_61 (sp_mmoveOf hΓ (hz2.g hM2 w) (W (u + 1)).toNat (by omega) (W u) ⟨by omega, by omega⟩) rfl (by repeat first | with_reducible assumption | with_reducible exact hput_s _ _ _ | refine (hput_n _ _ (by omega)).trans ?_ | exact hput_s _ _ _ | assumption) rfl rfl rfl rfl (Nat.le_of_ble_eq_true rfl) (by decide) (by decide) (by decide) (fun _ _ h => h.elim) (k_ri ?_)
  refine g_iconst q_X10_forbidsAll_64 ?_
  refine g_icmp_ge (tgt := 90) q_X10_forbidsAll_65 (by decide) ⟨by omega, by omega⟩ ⟨by omega, by omega⟩ (fun b4 => ?_) (fun b4 => ?_)
  · exact nx τ2 B2 _ _ hE2 hM2 f2 (o2 b4)
  refine g_aload_n q_X10_forbidsAll_68 rfl ?_
  refine g_get fl_X10_49 q_X10_forbidsAll_69 (by repeat first | with_reducible assumption | with_reducible exact hput_s _ _ _ | refine (hput_n _ _ (by omega)).trans ?_ | exact hput_s _ _ _ | assumption) rfl ?_
  refine g_iconst q_X10_forbidsAll_72 ?_
  refine g_bipush q_X10_forbidsAll_73 bp_36 ?_
  refine g_iload_n q_X10_forbidsAll_75 rfl ?_
  refine g_imul q_X10_forbidsAll_76 ?_
  refine g_iload_n q_X10_forbidsAll_77 rfl ?_
  refine g_iadd q_X10_forbidsAll_78 ?_
  refine g_imul q_X10_forbidsAll_79 ?_
  refine g_aload_n q_X10_forbidsAll_80 rfl ?_
  refine g_iload_n q_X10_forbidsAll_81 rfl ?_
  refine g_topi (b := (((W (u + 1)).toNat : Nat) : Int)) (by omega) ?_
  refine g_iload q_X10_forbidsAll_82 rfl ?_
  refine g_callV (rc' := 0) (rs' := 0) (As := [_, _]) cs_X10_299 q_X10_forbidsAll_84 (sp_mmoveOf hΓ (hz2.g hM2 w) (W (u + 1)).toNat (by omega) (W u) ⟨by omega, by omega⟩) rfl (by repeat first | with_reducible assumption | with_reducible exact hput_s _ _ _ | refine (hput_n _ _ (by omega)).trans ?_ | exact hput_s _ _ _ | assumption) rfl rfl rfl rfl (Nat.le_of_ble_eq_true rfl) (by decide) (by decide) (by decide) (fun _ _ h => h.elim) (k_ri ?_)
  refine g_iadd q_X10_forbidsAll_87 ?_
  refine g_iconst q_X10_forbidsAll_88 ?_
  refine g_zastore q_X10_forbidsAll_89 (by repeat first | with_reducible assumption | with_reducible exact hput_s _ _ _ | refine (hput_n _ _ (by omega)).trans ?_ | exact hput_s _ _ _ | assumption) (by omega) (by omega) (by first | exact Or.inl rfl | exact Or.inr rfl | omega) ?_
  refine nx _ (va_up B2 12 (va_up (B2 12) (5 * (36 * ((u + 1 : Nat) : Int) + W (u + 1)) + mvM (B2 6) (zCo z) (zRo z) (W (u + 1)).toNat (W u)).toNat 1)) _ _ (hE2.put (a := m + 12) ⟨by omega, by omega⟩ _) (hM2.putA 12 (by omega) _) (fun k hk => (va_ne (by omega)).trans (f2 k hk)) ?_
  rw [va_eq, va_ne (by omega)]
  exact o1 (by omega)
end MTU

