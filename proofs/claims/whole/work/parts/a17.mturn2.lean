/-! the reference: laysTurns, byTurns, turned, bestOrder -/
theorem tuS_fl {lv : Nat → BitVec 64} {PL GO : Nat → Int} {OR : Nat → Nat} {k : Nat} (h : (tuS lv PL GO OR k).1 = false) : ∀ j, (tuS lv PL GO OR (k + j)).1 = false
  | 0 => h
  | j + 1 => by
    have ih := tuS_fl h j
    show (tuS lv PL GO OR (k + j + 1)).1 = false
    unfold tuS
    simp only
    rw [if_neg (by rw [ih]; decide)]
    exact ih
section MTV
variable {Γ : GT} {σ : AH} {m : Nat} {I : Nat → Int} {A A' : Nat → Nat → Int} {N : Nat → Nat → BitVec 64} {len : Nat} {tx : Nat → Int} {fa e0 : Int} {z : PS} {l : List (Int × Int × Int)} {wl : Nat} {wr : Nat → Int}
/-- one more cart -/
theorem tuS_n {k i : Nat} (h : (tuS (lvZ z) (zPL z) (zGO z) (tuO z k) i).1 = true) (hl : tuK z k i = -1) : (tuS (lvZ z) (zPL z) (zGO z) (tuO z k) (i + 1)).1 = false := by
  unfold tuS
  simp only
  rw [if_pos h, if_pos (show lcs (lvZ z) (tuS (lvZ z) (zPL z) (zGO z) (tuO z k) i).2.2 (tuS (lvZ z) (zPL z) (zGO z) (tuO z k) i).2.1 (zPL z (tuO z k i)).toNat (zGO z (tuO z k i)).toNat = -1 from hl)]
theorem tuS_t {k i : Nat} (h : (tuS (lvZ z) (zPL z) (zGO z) (tuO z k) i).1 = true) (hl : tuK z k i ≠ -1) : tuS (lvZ z) (zPL z) (zGO z) (tuO z k) (i + 1) = (true, fwC (tuS (lvZ z) (zPL z) (zGO z) (tuO z k) i).2.1 (tuW z k i), fwM (tuS (lvZ z) (zPL z) (zGO z) (tuO z k) i).2.2 (tuW z k i) 40) := by
  have e : tuS (lvZ z) (zPL z) (zGO z) (tuO z k) (i + 1) = if (tuS (lvZ z) (zPL z) (zGO z) (tuO z k) i).1 = true then (if tuK z k i = -1 then (false, (tuS (lvZ z) (zPL z) (zGO z) (tuO z k) i).2.1, (tuS (lvZ z) (zPL z) (zGO z) (tuO z k) i).2.2) else (true, fwC (tuS (lvZ z) (zPL z) (zGO z) (tuO z k) i).2.1 (tuW z k i), fwM (tuS (lvZ z) (zPL z) (zGO z) (tuO z k) i).2.2 (tuW z k i) 40)) else tuS (lvZ z) (zPL z) (zGO z) (tuO z k) i := rfl
  rw [e, if_pos h, if_neg hl]
def ltQ (σ : AH) (m : Nat) (I : Nat → Int) (A : Nat → Nat → Int) (N : Nat → Nat → BitVec 64) (z : PS) (k : Nat) : Option Value → AH → Prop := fun r σ' => r = some (.int (ii (tuZ z k))) ∧ eqOff σ σ' (inb m 34) ∧ ∃ D A', MC σ' m I A' N ∧ (∀ j, j < 11 ∨ 16 < j → A' j = va_up A 32 D j) ∧ (∀ i, i < 61910 → A' 16 i = A 16 i) ∧ (∀ i, rg (A' 16 i)) ∧ (tuB z k = true → ∀ i, i < zCa z → ∀ t, t < 41 → A' 16 (205 * 302 + (41 * tuO z k i + t)) = tuW z k i t)
theorem sp_laysTurns (hΓ : Gd Γ) (h : MC σ m I A N) (hz : MZ I A z) (w : WFz z) (hr : ∀ i, rg (A 16 i)) (k : Nat) (hk : k < facN (zCa z)) : Sp Γ miX10_laysTurns 0 0 [.ref m, .int (ii k)] σ (ltQ σ m I A N z k) noX := by
  have h0 := h.1
  have n5 := w.1.1.2.2
  have j15 := hz.1.2.2
  obtain ⟨S, hS⟩ : ∃ S, S = tuS (lvZ z) (zPL z) (zGO z) (tuO z k) := ⟨_, rfl⟩
  refine Sp_of (L := [_, _, _, _, _]) hΓ (by decide +kernel) rfl (Nat.le_of_ble_eq_true rfl) rfl ?_
  refine g_aload_n q_X10_laysTurns_0 rfl ?_
  refine g_iload_n q_X10_laysTurns_1 rfl ?_
  refine g_callV (rc' := 0) (rs' := 0) (As := [_]) cs_X10_372 q_X10_laysTurns_2 (sp_laysOrder hΓ h n5 j15 k hk) rfl (by repeat first | with_reducible assumption | with_reducible exact hput_s _ _ _ | refine (hput_n _ _ (by omega)).trans ?_ | exact hput_s _ _ _ | assumption) rfl rfl rfl rfl (Nat.le_of_ble_eq_true rfl) (by decide) (by decide) (by decide) (fun _ _ h => h.elim) (fun v τ1 hq => ?_)
  obtain ⟨rfl, hE1, D, hM1, hD⟩ := hq
  have hD : ∀ i, i < zCa z → D i = (tuO z k i : Int) := hD
  have t0 := hM1.1
  refine g_aload_n q_X10_laysTurns_5 rfl ?_
  refine g_callV (rc' := 0) (rs' := 0) (As := []) cs_X10_257 q_X10_laysTurns_6 (sp_freesM hΓ hM1) rfl (by repeat first | with_reducible assumption | with_reducible exact hput_s _ _ _ | refine (hput_n _ _ (by omega)).trans ?_ | exact hput_s _ _ _ | assumption) rfl rfl rfl rfl (Nat.le_of_ble_eq_true rfl) (by decide) (by decide) (by decide) (fun _ _ h => h.elim) (fun v τ2 hq => ?_)
  obtain ⟨rfl, hE2, hM2⟩ := hq
  have hE : eqOff σ τ2 (inb m 34) := (eqOff.rfl'.trans hE1 (fun a i => by unfold inb at *; omega)).trans hE2 (fun a i => by unfold inb at *; omega)
  clear t0 hM1 hE1 hE2
  obtain ⟨B0, hB0⟩ : ∃ B0, B0 = va_up A 32 D := ⟨_, rfl⟩
  rw [← hB0] at hM2
  have b32 : B0 32 = D := by rw [hB0]; exact va_eq
  have b16 : B0 16 = A 16 := by rw [hB0]; exact va_ne (by omega)
  have hzB : MZ I B0 z := by rw [hB0]; exact hz
  refine g_iconst q_X10_laysTurns_9 ?_
  refine g_istore_n (L' := [_, _, _, _, _]) q_X10_laysTurns_10 (by decide) rfl ?_
  refine g_iconst q_X10_laysTurns_11 ?_
  refine g_istore_n (L' := [_, _, _, _, _]) q_X10_laysTurns_12 (by decide) rfl ?_
  refine g_loop3 (fun (i : Nat) (τ : AH) (B : Nat → Nat → Int) => i ≤ zCa z ∧ eqOff σ τ (inb m 34) ∧ MC τ m I B N ∧ (∀ j, j < 11 ∨ 16 < j → B j = B0 j) ∧ (∀ j, j < 61910 → B 16 j = A 16 j) ∧ (∀ j, rg (B 16 j)) ∧ (S i).1 = true ∧ FBr z (B 11) (B 12) (S i).2 ∧ ∀ a, a < i → tuK z k a ≠ -1 ∧ ∀ t, t < 41 → B 16 (205 * 302 + (41 * tuO z k a + t)) = tuW z k a t) (fun i τ B => G Γ _ cX10_laysTurns _ _ 0 0 13 [some (.ref m), some (.int (ii (k : Int))), some (.int (ii (sumN (tuK z k) i))), some (.int (ii i)), none] [] τ) (fun i τ B => zCa z - i) ?_ 0 τ2 _ ⟨Nat.zero_le _, hE, hM2, fun j hj => by rw [va_ne (by omega), va_ne (by omega)], fun j _ => by rw [va_ne (by omega), va_ne (by omega), b16], fun j => by rw [va_ne (by omega), va_ne (by omega), b16]; exact hr j, by rw [hS]; rfl, by rw [hS]; exact FBr.zero, fun a ha => absurd ha (Nat.not_lt_zero a)⟩
  clear hM2 hE h0
  rintro i τ B ⟨hi, hE, hM, hB, h16, hrB, hSt, hF, hrow⟩ ih
  have t0 := hM.1
  have t32 : τ.2 (m + 32) = some (ai 5 D) := by rw [← b32, ← hB 32 (by omega)]; exact hM.a32
  have hzI : MZ I B z := hzB.cg ⟨rfl, rfl, rfl⟩ (hB 6 (by omega)) (hB 8 (by omega)) (hB 9 (by omega))
  refine g_iload_n q_X10_laysTurns_13 rfl ?_
  refine g_aload_n q_X10_laysTurns_14 rfl ?_
  refine g_get fl_X10_220 q_X10_laysTurns_15 (by repeat first | with_reducible assumption | with_reducible exact hput_s _ _ _ | refine (hput_n _ _ (by omega)).trans ?_ | exact hput_s _ _ _ | assumption) rfl ?_
  refine g_topi (b := (zCa z : Int)) (by exact j15) ?_
  refine g_icmp_ge (tgt := 75) q_X10_laysTurns_18 (by decide) ⟨by omega, by omega⟩ ⟨by omega, by omega⟩ (fun b1 => ?_) (fun b1 => ?_)
  · have e : i = zCa z := by omega
    subst e
    refine g_iload_n q_X10_laysTurns_75 rfl ?_
    refine g_ireturn q_X10_laysTurns_76.1 rfl ?_
    have hb : tuB z k = true := by unfold tuB; rw [← hS]; exact hSt
    have eZ : tuZ z k = sumN (tuK z k) (zCa z) := if_pos hb
    rw [← eZ]
    exact ⟨rfl, hE, D, B, hM, fun j hj => by rw [← hB0]; exact hB j hj, h16, hrB, fun _ a ha t ht => (hrow a ha).2 t ht⟩
  have hil : i < zCa z := by omega
  have hOl : tuO z k i < zCa z := ord_lt n5 hk hil
  obtain ⟨c, hc⟩ : ∃ c, c = tuO z k i := ⟨_, rfl⟩
  have hDi : D i = (c : Int) := by rw [hc]; exact hD i hil
  rw [← hc] at hOl
  have eK : lwP z (S i).2 c = tuK z k i := by rw [hS, hc]; rfl
  have eW : lwT z (S i).2 c = tuW z k i := by rw [hS, hc]; rfl
  have hKr : -1 ≤ tuK z k i ∧ tuK z k i ≤ 40 := by rw [← eK]; exact lcs_rg _ _ _ _ _
  refine g_aload_n q_X10_laysTurns_21 rfl ?_
  refine g_aload_n q_X10_laysTurns_22 rfl ?_
  refine g_get fl_X10_113 q_X10_laysTurns_23 (by repeat first | with_reducible assumption | with_reducible exact hput_s _ _ _ | refine (hput_n _ _ (by omega)).trans ?_ | exact hput_s _ _ _ | assumption) rfl ?_
  refine g_iload_n q_X10_laysTurns_26 rfl ?_
  refine g_iaload q_X10_laysTurns_27 (by repeat first | with_reducible assumption | with_reducible exact hput_s _ _ _ | refine (hput_n _ _ (by omega)).trans ?_ | exact hput_s _ _ _ | assumption) (by omega) (by omega) ?_
  refine g_topi (b := (c : Int)) (by exact hDi) ?_
  refine g_callV (rc' := 0) (rs' := 0) (As := [_]) cs_X10_260 q_X10_laysTurns_28 (sp_laysWayF hΓ hM hzI w hF hOl) rfl (by repeat first | with_reducible assumption | with_reducible exact hput_s _ _ _ | refine (hput_n _ _ (by omega)).trans ?_ | exact hput_s _ _ _ | assumption) rfl rfl rfl rfl (Nat.le_of_ble_eq_true rfl) (by decide) (by decide) (by decide) (fun _ _ h => h.elim) (fun v τ3 hq => ?_)
  obtain ⟨rfl, hE3, B3, hM3, hB3, hwy⟩ := hq
  rw [eK, eW] at hwy
  rw [eK]
  have hE3 : eqOff σ τ3 (inb m 34) := hE.trans hE3 (fun a i => by unfold inb at *; omega)
  refine g_istore (L' := [_, _, _, _, _]) q_X10_laysTurns_31 (by decide) rfl ?_
  refine g_iload q_X10_laysTurns_33 rfl ?_
  refine g_iconst q_X10_laysTurns_35 ?_
  refine g_icmp_ne (tgt := 41) q_X10_laysTurns_36 (by decide) ⟨by omega, by omega⟩ ⟨by omega, by omega⟩ (fun b2 => ?_) (fun b2 => ?_)
  case refine_2 =>
    have q : tuK z k i = -1 := by omega
    have hf := tuS_n (z := z) (k := k) (i := i) (by rw [← hS]; exact hSt) q
    have hb : tuB z k = false := by
      have := tuS_fl hf (zCa z - (i + 1))
      rw [show i + 1 + (zCa z - (i + 1)) = zCa z by omega] at this
      exact this
    have eZ : tuZ z k = -1 := if_neg (by rw [hb]; decide)
    refine g_iconst q_X10_laysTurns_39 ?_
    refine g_ireturn q_X10_laysTurns_40.1 rfl ?_
    exact ⟨by rw [eZ], hE3, D, B3, hM3, fun j hj => by rw [← hB0]; exact (hB3 j (by omega)).trans (hB j hj), fun j hj => by rw [hB3 16 (by omega)]; exact h16 j hj, fun j => by rw [hB3 16 (by omega)]; exact hrB j, fun q => by rw [hb] at q; cases q⟩
  have hwy := hwy b2
  have hgoW : goW z c (tuW z k i) (tuK z k i) := by
    rw [← eK, ← eW]
    exact goW_wyt w hOl _ _ (by rw [show lcs (lvZ z) (S i).2.2 (S i).2.1 (zPL z c).toNat (zGO z c).toNat = tuK z k i from eK]; exact b2)
  have hgin := hgoW.gin w hOl
  have s0 := hM3.1
  have s15 := hM3.a15
  have s16 := hM3.a16
  have s32 : τ3.2 (m + 32) = some (ai 5 D) := by rw [← b32, ← hB 32 (by omega), ← hB3 32 (by omega)]; exact hM3.a32
  refine g_iload_n q_X10_laysTurns_41 rfl ?_
  refine g_iload q_X10_laysTurns_42 rfl ?_
  refine g_iadd q_X10_laysTurns_44 ?_
  refine g_istore_n (L' := [_, _, _, _, _]) q_X10_laysTurns_45 (by decide) rfl ?_
  refine g_aload_n q_X10_laysTurns_46 rfl ?_
  refine g_sipush q_X10_laysTurns_47 sp_302 ?_
  refine g_aload_n q_X10_laysTurns_50 rfl ?_
  refine g_get fl_X10_113 q_X10_laysTurns_51 (by repeat first | with_reducible assumption | with_reducible exact hput_s _ _ _ | refine (hput_n _ _ (by omega)).trans ?_ | exact hput_s _ _ _ | assumption) rfl ?_
  refine g_iload_n q_X10_laysTurns_54 rfl ?_
  refine g_iaload q_X10_laysTurns_55 (by repeat first | with_reducible assumption | with_reducible exact hput_s _ _ _ | refine (hput_n _ _ (by omega)).trans ?_ | exact hput_s _ _ _ | assumption) (by omega) (by omega) ?_
  refine g_topi (b := (c : Int)) (by exact hDi) ?_
  refine g_callV (rc' := 0) (rs' := 0) (As := [_, _]) cs_X10_283 q_X10_laysTurns_56 (sp_keepsWay hΓ s0 s16 s15 302 c (by omega) (by omega)) rfl (by repeat first | with_reducible assumption | with_reducible exact hput_s _ _ _ | refine (hput_n _ _ (by omega)).trans ?_ | exact hput_s _ _ _ | assumption) rfl rfl rfl rfl (Nat.le_of_ble_eq_true rfl) (by decide) (by decide) (by decide) (fun _ _ h => h.elim) (k_rv ?_)
  obtain ⟨W2, hW2⟩ : ∃ W2, W2 = va_cpy (B3 15) (B3 16) 0 (205 * 302 + 41 * c) 41 := ⟨_, rfl⟩
  have w2 : ∀ j, W2 j = if 205 * 302 + 41 * c ≤ j ∧ j < 205 * 302 + 41 * c + 41 then B3 15 (0 + (j - (205 * 302 + 41 * c))) else B3 16 j := fun j => by rw [hW2]; rfl
  rw [← hW2]
  obtain ⟨τ4, hτ4⟩ : ∃ τ4, τ4 = hput τ3 (m + 16) (ai 62115 W2) := ⟨_, rfl⟩
  have hM4 : MC τ4 m I (va_up B3 16 W2) N := by rw [hτ4]; exact hM3.putA 16 (by omega) W2
  have hE4 : eqOff σ τ4 (inb m 34) := by rw [hτ4]; exact hE3.put ⟨by omega, by omega⟩ _
  rw [← hτ4]
  clear hτ4 hM3 hE3 hW2 s0 s15 s16
  have s0 := hM4.1
  have s32' : τ4.2 (m + 32) = some (ai 5 D) := by
    have := hM4.a32
    rw [va_ne (by omega), hB3 32 (by omega), hB 32 (by omega), b32] at this
    exact this
  clear s32
  have f4 : ∀ j, j < 13 ∨ 16 < j → va_up B3 16 W2 j = B j := fun j hj => (va_ne (by omega)).trans (hB3 j (by omega))
  have hz4 : MZ I (va_up B3 16 W2) z := hzI.cg ⟨rfl, rfl, rfl⟩ (f4 6 (by omega)) (f4 8 (by omega)) (f4 9 (by omega))
  have hF4 : FBr z (va_up B3 16 W2 11) (va_up B3 16 W2 12) (S i).2 := by rw [f4 11 (by omega), f4 12 (by omega)]; exact hF
  have hrw : ∀ t, t < 41 → va_up B3 16 W2 16 (205 * 302 + (41 * c + t)) = tuW z k i t := fun t ht => by
    rw [va_eq, w2, if_pos (by omega), hwy _ (by omega), show 0 + (205 * 302 + (41 * c + t) - (205 * 302 + 41 * c)) = t by omega]
  refine g_aload_n q_X10_laysTurns_59 rfl ?_
  refine g_aload_n q_X10_laysTurns_60 rfl ?_
  refine g_get fl_X10_113 q_X10_laysTurns_61 (by repeat first | with_reducible assumption | with_reducible exact hput_s _ _ _ | refine (hput_n _ _ (by omega)).trans ?_ | exact hput_s _ _ _ | assumption) rfl ?_
  refine g_iload_n q_X10_laysTurns_64 rfl ?_
  refine g_iaload q_X10_laysTurns_65 (by repeat first | with_reducible assumption | with_reducible exact hput_s _ _ _ | refine (hput_n _ _ (by omega)).trans ?_ | exact hput_s _ _ _ | assumption) (by omega) (by omega) ?_
  refine g_topi (b := (c : Int)) (by exact hDi) ?_
  refine g_callV (rc' := 0) (rs' := 0) (As := [_]) cs_X10_375 q_X10_laysTurns_66 (sp_forbidsAll hΓ hM4 hz4 w hF4 (c := c) (by omega) hrw hgin) rfl (by repeat first | with_reducible assumption | with_reducible exact hput_s _ _ _ | refine (hput_n _ _ (by omega)).trans ?_ | exact hput_s _ _ _ | assumption) rfl rfl rfl rfl (Nat.le_of_ble_eq_true rfl) (by decide) (by decide) (by decide) (fun _ _ h => h.elim) (fun v τ5 hq => ?_)
  obtain ⟨rfl, hE5, B5, hM5, hB5, hF5⟩ := hq
  have hE5 : eqOff σ τ5 (inb m 34) := hE4.trans hE5 (fun a i => by unfold inb at *; omega)
  have eS := tuS_t (z := z) (k := k) (i := i) (by rw [← hS]; exact hSt) b2
  rw [← hS] at eS
  have B516 : B5 16 = W2 := (hB5 16 (by omega)).trans va_eq
  have hnx := ih (i + 1) τ5 B5 ⟨by omega, hE5, hM5, fun j hj => (hB5 j (by omega)).trans ((f4 j (by omega)).trans (hB j hj)), fun j hj => by rw [B516, w2, if_neg (by omega), hB3 16 (by omega)]; exact h16 j hj, fun j => ?_, by rw [eS], by rw [eS]; exact hF5, fun a ha => ?_⟩ (by omega)
  · refine g_iinc (L' := [_, _, _, _, _]) q_X10_laysTurns_69 rfl rfl ?_
    refine g_goto (tgt := 13) q_X10_laysTurns_72 (by decide) ?_
    exact g_fl hnx ⟨rfl, rfl, rfl, rfl, trivial⟩
  · rw [B516, w2]
    split
    · rw [hwy _ (by omega)]
      have := (hgin (0 + (j - (205 * 302 + 41 * c))) (by omega)).1
      unfold rg
      omega
    · rw [hB3 16 (by omega)]
      exact hrB j
  · by_cases q : a = i
    · subst q
      exact ⟨b2, fun t ht => by rw [← hc, B516]; exact (congrFun va_eq _).symm.trans (hrw t ht)⟩
    · obtain ⟨p1, p2⟩ := hrow a (by omega)
      refine ⟨p1, fun t ht => ?_⟩
      have hne : tuO z k a ≠ c := fun q2 => q (ord_inj n5 hk (by omega) hil (q2.trans hc))
      rw [B516, w2, if_neg (by omega), hB3 16 (by omega)]
      exact p2 t ht
theorem MW.tu (hW : MW I A N len tx fa z l wl wr) {D : Nat → Int} (hA : ∀ j, j < 11 ∨ 16 < j → A' j = va_up A 32 D j) (h16 : ∀ i, i < 61910 → A' 16 i = A 16 i) (hr : ∀ i, rg (A' 16 i)) : MW I A' N len tx fa z l wl wr := (hW.od D).cg (fun _ _ _ => rfl) (fun k hk => hA k (by omega)) h16 hr
theorem sp_mbyTurns (hΓ : Gd Γ) (hX : MX σ m e0 len tx fa z l wl wr) (o : Int) (ho : rg o) : Sp Γ miX10_byTurns 0 0 [.ref m, .int (ii o)] σ (mQ (eOrd z o) (tuZ z o.toNat) (SM σ m (eOrd z o) len tx fa z l wl wr)) noX := by
  obtain ⟨I, A, N, -, h, hW⟩ := hX
  have h0 := h.1
  have hz := hW.2.2.1.1
  have wf := hW.2.2.1.2
  have n5 := wf.1.1.2.2
  have j15 := hz.1.2.2
  refine Sp_of (L := [_, _]) hΓ (by decide +kernel) rfl (Nat.le_of_ble_eq_true rfl) rfl ?_
  refine g_aload_n q_X10_byTurns_0 rfl ?_
  refine g_aload_n q_X10_byTurns_1 rfl ?_
  refine g_iload_n q_X10_byTurns_2 rfl ?_
  refine g_callV (rc' := 0) (rs' := 0) (As := [_]) cs_X10_378 q_X10_byTurns_3 (sp_misOrder hΓ h0 n5 j15 o ho) rfl (by repeat first | with_reducible assumption | with_reducible exact hput_s _ _ _ | refine (hput_n _ _ (by omega)).trans ?_ | exact hput_s _ _ _ | assumption) rfl rfl rfl rfl (Nat.le_of_ble_eq_true rfl) (by decide) (by decide) (by decide) (fun _ _ h => h.elim) (k_rb ?_)
  refine g_if_eq (tgt := 13) q_X10_byTurns_6 (by decide) (bi_rg _) (fun b1 => ?_) (fun b1 => ?_)
  · have e1 : eOrd z o = 1 := if_neg (by rw [bi_f b1]; decide)
    refine g_iconst q_X10_byTurns_13 ?_
    refine g_putM fp_X10_122 q_X10_byTurns_14 (by repeat first | with_reducible assumption | with_reducible exact hput_s _ _ _ | refine (hput_n _ _ (by omega)).trans ?_ | exact hput_s _ _ _ | assumption) rfl rfl mset_0 ?_
    refine g_aload_n q_X10_byTurns_17 rfl ?_
    refine g_get fl_X10_122 q_X10_byTurns_18 (by repeat first | with_reducible assumption | with_reducible exact hput_s _ _ _ | refine (hput_n _ _ (by omega)).trans ?_ | exact hput_s _ _ _ | assumption) rfl ?_
    refine g_topi (b := (1 : Int)) (by rfl) ?_
    refine g_if_le (tgt := 28) q_X10_byTurns_21 (by decide) ⟨by omega, by omega⟩ (fun b2 => ?_) (fun b2 => ?_)
    case refine_1 => exact absurd b2 (by decide)
    refine g_iconst q_X10_byTurns_24 ?_
    refine g_goto (tgt := 33) q_X10_byTurns_25 (by decide) ?_
    refine g_ireturn q_X10_byTurns_33.1 rfl ?_
    rw [e1]
    exact ⟨rfl, SM.t h hW 1⟩
  have c1 := bi_t b1
  have e1 : eOrd z o = 0 := if_pos c1
  have ho1 := of_decide_eq_true c1
  obtain ⟨j, hj⟩ : ∃ j : Nat, o = j := ⟨o.toNat, by omega⟩
  subst hj
  rw [e1, Int.toNat_natCast]
  have hM1 := h.putI (va_up I 0 ((0 : Nat) : Int))
  have hW1 := hW.I0 ((0 : Nat) : Int)
  refine g_iconst q_X10_byTurns_9 ?_
  refine g_goto (tgt := 14) q_X10_byTurns_10 (by decide) ?_
  refine g_putM fp_X10_122 q_X10_byTurns_14 (by repeat first | with_reducible assumption | with_reducible exact hput_s _ _ _ | refine (hput_n _ _ (by omega)).trans ?_ | exact hput_s _ _ _ | assumption) rfl rfl mset_0 ?_
  refine g_aload_n q_X10_byTurns_17 rfl ?_
  refine g_get fl_X10_122 q_X10_byTurns_18 (by repeat first | with_reducible assumption | with_reducible exact hput_s _ _ _ | refine (hput_n _ _ (by omega)).trans ?_ | exact hput_s _ _ _ | assumption) rfl ?_
  refine g_topi (b := (0 : Int)) (by rfl) ?_
  refine g_if_le (tgt := 28) q_X10_byTurns_21 (by decide) ⟨by omega, by omega⟩ (fun b3 => ?_) (fun b3 => ?_)
  case refine_2 => exact absurd b3 (by decide)
  have hE1 : eqOff σ (hput σ m (mdo m (va_up I 0 ((0 : Nat) : Int)))) (inb m 34) := eqOff.rfl'.put ⟨by omega, by omega⟩ _
  obtain ⟨τ1, hτ1⟩ : ∃ τ1, τ1 = hput σ m (mdo m (va_up I 0 ((0 : Nat) : Int))) := ⟨_, rfl⟩
  refine g_eq (σ2 := τ1) rfl rfl hτ1.symm ?_
  rw [← hτ1] at hM1 hE1
  clear hτ1
  have t0 := hM1.1
  refine g_aload_n q_X10_byTurns_28 rfl ?_
  refine g_iload_n q_X10_byTurns_29 rfl ?_
  refine g_callV (rc' := 0) (rs' := 0) (As := [_]) cs_X10_381 q_X10_byTurns_30 (sp_laysTurns hΓ hM1 hW1.2.2.1.1 wf hW1.2.2.2.2.2.2.2 j (by omega)) rfl (by repeat first | with_reducible assumption | with_reducible exact hput_s _ _ _ | refine (hput_n _ _ (by omega)).trans ?_ | exact hput_s _ _ _ | assumption) rfl rfl rfl rfl (Nat.le_of_ble_eq_true rfl) (by decide) (by decide) (by decide) (fun _ _ h => h.elim) (fun v τ hq => ?_)
  obtain ⟨rfl, hE, D, B, hM, hA, h16, hr, -⟩ := hq
  refine g_ireturn q_X10_byTurns_33.1 rfl ?_
  exact ⟨rfl, ⟨va_up I 0 ((0 : Nat) : Int), B, N, va_eq, hM, hW1.tu hA h16 hr⟩, hE1.trans hE (fun _ i => i)⟩
end MTV

