/-! Long.bitCount; CartPaths: reach, way -/
def swv (b : BitVec 64) : BitVec 64 :=
  let a := b - ((b >>> 1) &&& 0x5555555555555555#64)
  let d := (a &&& 0x3333333333333333#64) + ((a >>> 2) &&& 0x3333333333333333#64)
  let c := (d + (d >>> 4)) &&& 0x0f0f0f0f0f0f0f0f#64
  let e := c + (c >>> 8)
  let f := e + (e >>> 16)
  f + (f >>> 32)
theorem swv_nat (b : BitVec 64) : (swv b).toNat % 128 = spc 16 b.toNat := by
  obtain ⟨a, d, c, e, f, g, h1, h2, h3, h4, h5, h6, h7, h8, h9, h10, h11, h12⟩ := sw_all b.isLt
  have e1 : (b >>> 1 &&& 0x5555555555555555#64).toNat = (b.toNat / 2) &&& 0x5555555555555555 := by
    rw [BitVec.toNat_and, BitVec.toNat_ushiftRight, Nat.shiftRight_eq_div_pow]
    rfl
  obtain ⟨A, hA⟩ : ∃ A, A = b - (b >>> 1 &&& 0x5555555555555555#64) := ⟨_, rfl⟩
  have eA : A.toNat = a := by
    rw [hA, BitVec.toNat_sub_of_le (by rw [BitVec.le_def, e1]; exact h2), e1, h1]
  obtain ⟨Dv, hD⟩ : ∃ D, D = (A &&& 0x3333333333333333#64) + ((A >>> 2) &&& 0x3333333333333333#64) := ⟨_, rfl⟩
  have eD : Dv.toNat = d := by
    rw [hD, BitVec.toNat_add, BitVec.toNat_and, BitVec.toNat_and, BitVec.toNat_ushiftRight, Nat.shiftRight_eq_div_pow, eA]
    show ((a &&& 0x3333333333333333) + ((a / 4) &&& 0x3333333333333333)) % 2 ^ 64 = d
    rw [← h3]
    exact Nat.mod_eq_of_lt (by omega)
  obtain ⟨Cv, hC⟩ : ∃ C, C = (Dv + (Dv >>> 4)) &&& 0x0f0f0f0f0f0f0f0f#64 := ⟨_, rfl⟩
  have eC : Cv.toNat = c := by
    rw [hC, BitVec.toNat_and, BitVec.toNat_add, BitVec.toNat_ushiftRight, Nat.shiftRight_eq_div_pow, eD]
    show ((d + d / 16) % 2 ^ 64) &&& 0x0f0f0f0f0f0f0f0f = c
    rw [Nat.mod_eq_of_lt (by omega), h5]
  obtain ⟨Ev, hEv⟩ : ∃ E, E = Cv + (Cv >>> 8) := ⟨_, rfl⟩
  have eE : Ev.toNat = e := by
    rw [hEv, BitVec.toNat_add, BitVec.toNat_ushiftRight, Nat.shiftRight_eq_div_pow, eC]
    show (c + c / 256) % 2 ^ 64 = e
    rw [← h6]
    exact Nat.mod_eq_of_lt (by omega)
  obtain ⟨Fv, hFv⟩ : ∃ E, E = Ev + (Ev >>> 16) := ⟨_, rfl⟩
  have eF : Fv.toNat = f := by
    rw [hFv, BitVec.toNat_add, BitVec.toNat_ushiftRight, Nat.shiftRight_eq_div_pow, eE]
    show (e + e / 65536) % 2 ^ 64 = f
    rw [← h7]
    exact Nat.mod_eq_of_lt (by omega)
  have eG : swv b = Fv + (Fv >>> 32) := by rw [hFv, hEv, hC, hD, hA]; rfl
  rw [eG, BitVec.toNat_add, BitVec.toNat_ushiftRight, Nat.shiftRight_eq_div_pow, eF]
  show ((f + f / 4294967296) % 2 ^ 64) % 128 = _
  rw [← h8, Nat.mod_eq_of_lt h9, h12]
theorem and127 (x : Int32) (n : Nat) (h : x.toBitVec.toNat % 128 = n) : x &&& ii 127 = ii (n : Int) := by
  apply Int32.toBitVec_inj.mp
  rw [Int32.toBitVec_and]
  apply BitVec.eq_of_toNat_eq
  rw [BitVec.toNat_and]
  have e1 : (ii 127).toBitVec.toNat = 127 := by decide
  have hn : n < 128 := by omega
  have e2 : (ii (n : Int)).toBitVec.toNat = n := by
    unfold ii
    rw [Int32.toBitVec_ofInt, BitVec.toNat_ofInt]
    omega
  rw [e1, e2, show (127 : Nat) = 2 ^ 7 - 1 by decide, Nat.and_two_pow_sub_one_eq_mod]
  exact h
theorem l2i_mod (b : BitVec 64) : (ii b.toInt).toBitVec.toNat % 128 = b.toNat % 128 := by
  unfold ii
  rw [Int32.toBitVec_ofInt, BitVec.toNat_ofInt]
  have h := BitVec.toInt_eq_toNat_cond b
  split at h <;> omega
section X9P
variable {Γ : GT} {σ : AH} {x lo N : Nat} {R : Nat → Nat} {len : Nat} {tx : Nat → Int} {fa : Int} {z : PS} {l : List (Int × Int × Int)} {wl : Nat} {wr : Nat → Int} {D E : Nat}
theorem sp_bitCount (hΓ : Gd Γ) (b : BitVec 64) : Sp Γ miJ13_bitCount_95d88 0 0 [.long (lb b)] σ (ri (bcn b) σ) noX := by
  refine Sp_of (L := [_, _]) hΓ (by decide +kernel) rfl (Nat.le_of_ble_eq_true rfl) rfl ?_
  refine g_lload_n q_J13_bitCount_95d88_0 rfl ?_
  refine g_lload_n q_J13_bitCount_95d88_1 rfl ?_
  refine g_iconst q_J13_bitCount_95d88_2 ?_
  refine g_lushr q_J13_bitCount_95d88_3 (by omega) (by omega) ?_
  refine g_ldc2 (b := 0x5555555555555555#64) q_J13_bitCount_95d88_4 kc_J13_314 (by decide) ?_
  refine g_land q_J13_bitCount_95d88_7 ?_
  refine g_lsub q_J13_bitCount_95d88_8 ?_
  refine g_lstore_n (L' := [_, _]) q_J13_bitCount_95d88_9 (by decide) rfl ?_
  refine g_lload_n q_J13_bitCount_95d88_10 rfl ?_
  refine g_ldc2 (b := 0x3333333333333333#64) q_J13_bitCount_95d88_11 kc_J13_316 (by decide) ?_
  refine g_land q_J13_bitCount_95d88_14 ?_
  refine g_lload_n q_J13_bitCount_95d88_15 rfl ?_
  refine g_iconst q_J13_bitCount_95d88_16 ?_
  refine g_lushr q_J13_bitCount_95d88_17 (by omega) (by omega) ?_
  refine g_ldc2 (b := 0x3333333333333333#64) q_J13_bitCount_95d88_18 kc_J13_316 (by decide) ?_
  refine g_land q_J13_bitCount_95d88_21 ?_
  refine g_ladd q_J13_bitCount_95d88_22 ?_
  refine g_lstore_n (L' := [_, _]) q_J13_bitCount_95d88_23 (by decide) rfl ?_
  refine g_lload_n q_J13_bitCount_95d88_24 rfl ?_
  refine g_lload_n q_J13_bitCount_95d88_25 rfl ?_
  refine g_iconst q_J13_bitCount_95d88_26 ?_
  refine g_lushr q_J13_bitCount_95d88_27 (by omega) (by omega) ?_
  refine g_ladd q_J13_bitCount_95d88_28 ?_
  refine g_ldc2 (b := 0x0f0f0f0f0f0f0f0f#64) q_J13_bitCount_95d88_29 kc_J13_318 (by decide) ?_
  refine g_land q_J13_bitCount_95d88_32 ?_
  refine g_lstore_n (L' := [_, _]) q_J13_bitCount_95d88_33 (by decide) rfl ?_
  refine g_lload_n q_J13_bitCount_95d88_34 rfl ?_
  refine g_lload_n q_J13_bitCount_95d88_35 rfl ?_
  refine g_bipush q_J13_bitCount_95d88_36 bp_8 ?_
  refine g_lushr q_J13_bitCount_95d88_38 (by omega) (by omega) ?_
  refine g_ladd q_J13_bitCount_95d88_39 ?_
  refine g_lstore_n (L' := [_, _]) q_J13_bitCount_95d88_40 (by decide) rfl ?_
  refine g_lload_n q_J13_bitCount_95d88_41 rfl ?_
  refine g_lload_n q_J13_bitCount_95d88_42 rfl ?_
  refine g_bipush q_J13_bitCount_95d88_43 bp_16 ?_
  refine g_lushr q_J13_bitCount_95d88_45 (by omega) (by omega) ?_
  refine g_ladd q_J13_bitCount_95d88_46 ?_
  refine g_lstore_n (L' := [_, _]) q_J13_bitCount_95d88_47 (by decide) rfl ?_
  refine g_lload_n q_J13_bitCount_95d88_48 rfl ?_
  refine g_lload_n q_J13_bitCount_95d88_49 rfl ?_
  refine g_bipush q_J13_bitCount_95d88_50 bp_32 ?_
  refine g_lushr q_J13_bitCount_95d88_52 (by omega) (by omega) ?_
  refine g_ladd q_J13_bitCount_95d88_53 ?_
  refine g_lstore_n (L' := [_, _]) q_J13_bitCount_95d88_54 (by decide) rfl ?_
  refine g_lload_n q_J13_bitCount_95d88_55 rfl ?_
  refine g_l2i q_J13_bitCount_95d88_56 ?_
  refine g_bipush q_J13_bitCount_95d88_57 bp_127 ?_
  refine g_iand q_J13_bitCount_95d88_59 ?_
  refine g_top (v' := .int (ii (bcn b))) ?_ ?_
  · have h := and127 (ii (swv b).toInt) (spc 16 b.toNat) (by rw [l2i_mod, swv_nat])
    rw [← bcn_spc] at h
    exact congrArg Value.int h
  · refine g_ireturn q_J13_bitCount_95d88_60.1 rfl ?_
    exact ⟨rfl, rfl⟩
theorem sp_reach (hΓ : Gd Γ) (hN : N < 1000) (hX : CX σ x lo N R len tx fa z l wl wr) (c : Int) (hc : rg c) : Sp Γ miX9_reach 8 48 [.ref x, .int (ii c)] σ (oQ (e1C z c) (bcn (rcN (lvZ z) (zPL z c.toNat).toNat 36)) (SX σ x lo (N + 1) R len tx fa z l wl wr)) (oX [xIOB] (e1C z c) (SX σ x lo (N + 1) R len tx fa z l wl wr)) := by
  have hX' := hX
  obtain ⟨ve, av, h1, h2, h3, h4, h5, q1, q2, q3, q4, -⟩ := hX'
  have hn := h4.1.1
  have q4' := q4
  obtain ⟨g0, g1, g2, -⟩ := q4'
  refine Sp_of (L := [_, _]) hΓ (by decide +kernel) rfl (Nat.le_of_ble_eq_true rfl) rfl ?_
  refine g_aload_n q_X9_reach_0 rfl ?_
  refine g_iload_n q_X9_reach_1 rfl ?_
  refine g_callV (rc' := 7) (rs' := 42) (As := [_]) cs_X9_133 q_X9_reach_2 (sp_needCart hΓ hX c hc) rfl (by repeat first | with_reducible assumption | with_reducible exact hput_s _ _ _ | refine (hput_n _ _ (by omega)).trans ?_ | exact hput_s _ _ _ | assumption) rfl rfl rfl rfl (Nat.le_of_ble_eq_true rfl) (by decide) (by decide) (by decide) (fun E σ' h => ⟨by rw [e1C_1 h.2.1]; decide, by rw [e1C_1 h.2.1, h.1]; rfl, SX.gr hX hN h.2.2⟩) (fun v σ' hq => ?_)
  obtain ⟨rfl, e1, hσ⟩ := hq
  rw [hσ]
  clear hσ
  obtain ⟨k, rfl⟩ : ∃ k : Nat, c = k := ⟨c.toNat, by omega⟩
  have hP := h4.1.2.2.1 k
  obtain ⟨p, hp⟩ : ∃ p : Nat, zPL z k = p := ⟨(zPL z k).toNat, by have := hP.2 (by omega); omega⟩
  rw [Int.toNat_natCast, hp, Int.toNat_natCast]
  refine g_aload_n q_X9_reach_5 rfl ?_
  refine g_get fl_X9_19 q_X9_reach_6 (by repeat first | with_reducible assumption | with_reducible exact hput_s _ _ _ | refine (hput_n _ _ (by omega)).trans ?_ | exact hput_s _ _ _ | assumption) rfl ?_
  refine g_aload_n q_X9_reach_9 rfl ?_
  refine g_get fl_X9_19 q_X9_reach_10 (by repeat first | with_reducible assumption | with_reducible exact hput_s _ _ _ | refine (hput_n _ _ (by omega)).trans ?_ | exact hput_s _ _ _ | assumption) rfl ?_
  refine g_get fl_X9_136 q_X9_reach_13 (by repeat first | with_reducible assumption | with_reducible exact hput_s _ _ _ | refine (hput_n _ _ (by omega)).trans ?_ | exact hput_s _ _ _ | assumption) rfl ?_
  refine g_iload_n q_X9_reach_16 rfl ?_
  refine g_iaload q_X9_reach_17 (by repeat first | with_reducible assumption | with_reducible exact hput_s _ _ _ | refine (hput_n _ _ (by omega)).trans ?_ | exact hput_s _ _ _ | assumption) (by omega) (by omega) ?_
  refine g_topi (b := (p : Int)) (by exact hp) ?_
  refine g_callVN (rc' := 7) (rs' := 42) (As := [_]) cs_X9_219 q_X9_reach_18 (sp_reachedFrom hΓ q4 p (by omega)) rfl (by repeat first | with_reducible assumption | with_reducible exact hput_s _ _ _ | refine (hput_n _ _ (by omega)).trans ?_ | exact hput_s _ _ _ | assumption) rfl rfl rfl rfl (Nat.le_of_ble_eq_true rfl) (by decide) (by decide) (by decide) (fun _ _ h => h.elim) (fun v σ1 hq => ?_)
  obtain ⟨rfl, hσ⟩ := hq
  rw [hσ]
  clear hσ
  refine g_callS (rc' := 7) (rs' := 42) (As := [_]) cs_X9_223 q_X9_reach_21 (sp_bitCount hΓ (rcN (lvZ z) p 36)) rfl rfl rfl (Nat.le_of_ble_eq_true rfl) (by decide) (by decide) (by decide) (fun _ _ h => h.elim) (k_ri ?_)
  refine g_ireturn q_X9_reach_24.1 rfl ?_
  exact ⟨e1C_0 e1, rfl, SX.of hX hN⟩
noncomputable def eWay (z : PS) (bd c w : Int) : Nat := if eQ (cOK z c) true bd z ≠ 0 then eQ (cOK z c) true bd z else if 0 ≤ w ∧ w ≤ 4 then 0 else 4
def aWay (z : PS) (P C : Nat → Int) (c : Nat) (w : Int) : Int := if w = 0 then C c else if w = 1 then C c - alcZ z c else if w = 2 then bcn (vsN (fun t => P (41 * c + t)) 41) else if w = 3 then aStep P c else fstN (fun t => decide (P (41 * c + t) = zGO z c)) 41
theorem vsN_cg {f g : Nat → Int} : ∀ n, (∀ t, t < n → f t = g t) → vsN f n = vsN g n
  | 0, _ => rfl
  | n + 1, h => by unfold vsN; rw [vsN_cg n (fun t ht => h t (by omega)), h n (by omega)]
theorem aWay_cg {z : PS} {P P' C C' : Nat → Int} (h : ∀ i, i < 41 * zCa z → P i = P' i) (hC : ∀ c, c < zCa z → C c = C' c) {c : Nat} (hc : c < zCa z) (w : Int) : aWay z P C c w = aWay z P' C' c w := by
  unfold aWay
  rw [hC c hc, vsN_cg 41 (g := fun t => P' (41 * c + t)) (fun t ht => h _ (by omega)), aStep_cg h hc, fstN_cong (q := fun t => decide (P' (41 * c + t) = zGO z c)) (fun t ht => by rw [h _ (by omega)])]
theorem sp_way (hΓ : Gd Γ) (hN : N < 1000) (hX : CX σ x lo N R len tx fa z l wl wr) (bd c w : Int) (hbd : rg bd) (hc : rg c) (hw : rg w) (hD : dC R (rG (cOK z c && bOK bd) R z bd) ≤ D) (hE : dS R (rG (cOK z c && bOK bd) R z bd) ≤ E) : Sp Γ miX9_way (8 + D) (48 + E) [.ref x, .int (ii bd), .int (ii c), .int (ii w)] σ (oQ (eWay z bd c w) (aWay z (pPZ z bd) (pCZ z bd) c.toNat w) (SX σ x lo (N + 1) (rG (cOK z c && bOK bd) R z bd) len tx fa z l wl wr)) (oX [xIOB, xIAE, xISE, xNSE] (eWay z bd c w) (SX σ x lo (N + 1) (rG (cOK z c && bOK bd) R z bd) len tx fa z l wl wr)) := by
  have hX' := hX
  obtain ⟨ve, av, h1, h2, h3, h4, h5, q1, q2, -⟩ := hX'
  have hn := h4.1.1
  have ew : ∀ k, k ≠ 0 → eQ (cOK z c) true bd z = k → eWay z bd c w = k := fun k h0 h => by unfold eWay; rw [h, if_pos h0]
  refine Sp_of (L := [_, _, _, _, _]) hΓ (by decide +kernel) rfl (Nat.le_of_ble_eq_true rfl) rfl ?_
  refine g_aload_n q_X9_way_0 rfl ?_
  refine g_iload_n q_X9_way_1 rfl ?_
  refine g_callV (rc' := 7 + D) (rs' := 42 + E) (As := [_]) cs_X9_133 q_X9_way_2 (sp_needCart hΓ hX c hc) rfl (by repeat first | with_reducible assumption | with_reducible exact hput_s _ _ _ | refine (hput_n _ _ (by omega)).trans ?_ | exact hput_s _ _ _ | assumption) rfl rfl rfl rfl (Nat.le_of_ble_eq_true rfl) (by decide) (by omega) (by omega) (fun E σ' h => by have hf : cOK z c = false := decide_eq_false h.2.1; rw [ew 1 (by decide) (eQ_1 hf), hf, Bool.false_and, rG_f rfl]; exact ⟨by decide, by rw [h.1]; rfl, SX.gr hX hN h.2.2⟩) (fun v σ' hq => ?_)
  obtain ⟨rfl, e1, hσ⟩ := hq
  rw [hσ]
  clear hσ
  have c1 : cOK z c = true := decide_eq_true e1
  have eQ9 : eQ (cOK z c) true bd z = eP true bd z 2 3 := eQ_t c1
  have kxp : ∀ Ex σ', plX σ x lo N R len tx fa z l wl wr bd Ex σ' → oX [xIOB, xIAE, xISE, xNSE] (eWay z bd c w) (SX σ x lo (N + 1) (rG (cOK z c && bOK bd) R z bd) len tx fa z l wl wr) Ex σ' := by
    intro Ex σ' h
    have hk := plK (pre := true) (n1 := 2) (n2 := 3) (xs := [xIOB, xIAE, xISE, xNSE]) h hN rfl ⟨by decide, rfl⟩ ⟨by decide, rfl⟩
    rw [ew _ hk.1 eQ9, c1]
    exact hk
  rw [c1, Bool.true_and] at hD hE
  refine g_aload_n q_X9_way_5 rfl ?_
  refine g_iload_n q_X9_way_6 rfl ?_
  refine g_callV (rc' := 5) (rs' := 30) (As := [_]) cs_X9_296 q_X9_way_7 (sp_planned hΓ hX bd hbd hD hE) rfl (by repeat first | with_reducible assumption | with_reducible exact hput_s _ _ _ | refine (hput_n _ _ (by omega)).trans ?_ | exact hput_s _ _ _ | assumption) rfl rfl rfl rfl (Nat.le_of_ble_eq_true rfl) (by decide) (by omega) (by omega) kxp (fun v σ1 hq => ?_)
  obtain ⟨⟨w1, w2⟩, T, rfl, m1, m2, m3, m4, ct, cs, cl, co, P, C, k0, k1, k2, o1, o2, o3, o4⟩ := hq
  have eW0 : eWay z bd c w = if 0 ≤ w ∧ w ≤ 4 then 0 else 4 := by unfold eWay; rw [eQ9, eP_0 rfl w1 w2, if_neg (by decide)]
  rw [eW0, c1, Bool.true_and]
  obtain ⟨i, rfl⟩ : ∃ k : Nat, c = k := ⟨c.toNat, by omega⟩
  rw [Int.toNat_natCast, ← aWay_cg o4 o3 (by omega)]
  have hSX := SX.tr m2 (SX.of m1 hN)
  obtain ⟨ve1, av1, hh1⟩ := m1
  have kx1 := hh1.2.2.2.2.2.2.1
  have kS := hh1.2.2.2.2.2.2.2.2.1
  have hlo := hh1.1.1
  obtain ⟨g0, g1, g2, g3, -⟩ := kS
  have hgo := h4.1.2.2.2.1 i
  refine g_astore (L' := [_, _, _, _, _]) q_X9_way_10 (by decide) rfl ?_
  refine g_iload_n q_X9_way_12 rfl ?_
  by_cases hr : 0 ≤ w ∧ w ≤ 4
  · rw [if_pos hr]
    have hcs : w = 0 ∨ w = 1 ∨ w = 2 ∨ w = 3 ∨ w = 4 := by omega
    rcases hcs with rfl | rfl | rfl | rfl | rfl
    · refine g_tswIn (off := 35) (tgt := 48) q_X9_way_13 ⟨by decide, by decide⟩ (by decide) (by decide) rfl (by decide) ?_
      refine g_aload q_X9_way_48 rfl ?_
      refine g_get fl_X9_187 q_X9_way_50 (by repeat first | with_reducible assumption | with_reducible exact hput_s _ _ _ | refine (hput_n _ _ (by omega)).trans ?_ | exact hput_s _ _ _ | assumption) rfl ?_
      refine g_iload_n q_X9_way_53 rfl ?_
      refine g_iaload q_X9_way_54 (by repeat first | with_reducible assumption | with_reducible exact hput_s _ _ _ | refine (hput_n _ _ (by omega)).trans ?_ | exact hput_s _ _ _ | assumption) (by omega) (by omega) ?_
      refine g_ireturn q_X9_way_55.1 rfl ?_
      exact ⟨rfl, rfl, hSX⟩
    · refine g_tswIn (off := 43) (tgt := 56) q_X9_way_13 ⟨by decide, by decide⟩ (by decide) (by decide) rfl (by decide) ?_
      refine g_aload q_X9_way_56 rfl ?_
      refine g_get fl_X9_187 q_X9_way_58 (by repeat first | with_reducible assumption | with_reducible exact hput_s _ _ _ | refine (hput_n _ _ (by omega)).trans ?_ | exact hput_s _ _ _ | assumption) rfl ?_
      refine g_iload_n q_X9_way_61 rfl ?_
      refine g_iaload q_X9_way_62 (by repeat first | with_reducible assumption | with_reducible exact hput_s _ _ _ | refine (hput_n _ _ (by omega)).trans ?_ | exact hput_s _ _ _ | assumption) (by omega) (by omega) ?_
      refine g_aload_n q_X9_way_63 rfl ?_
      refine g_callV (rc' := 5) (rs' := 30) (As := []) cs_X9_183 q_X9_way_64 (sp_waysAlone hΓ ⟨ve1, av1, hh1⟩) rfl (by repeat first | with_reducible assumption | with_reducible exact hput_s _ _ _ | refine (hput_n _ _ (by omega)).trans ?_ | exact hput_s _ _ _ | assumption) rfl rfl rfl rfl (Nat.le_of_ble_eq_true rfl) (by decide) (by decide) (by decide) (fun _ _ h => h.elim) (fun v σ2 hq => ?_)
      obtain ⟨rfl, n1, n2, ct2, cs2, cl2, co2, P2, C2, v0, v1, v2, r1, r2, r3⟩ := hq
      refine g_get fl_X9_187 q_X9_way_67 (by repeat first | with_reducible assumption | with_reducible exact hput_s _ _ _ | refine (hput_n _ _ (by omega)).trans ?_ | exact hput_s _ _ _ | assumption) rfl ?_
      refine g_iload_n q_X9_way_70 rfl ?_
      refine g_iaload q_X9_way_71 (by repeat first | with_reducible assumption | with_reducible exact hput_s _ _ _ | refine (hput_n _ _ (by omega)).trans ?_ | exact hput_s _ _ _ | assumption) (by omega) (by omega) ?_
      refine g_isub q_X9_way_72 ?_
      refine g_ireturn q_X9_way_73.1 rfl ?_
      refine ⟨rfl, ?_, SX.tr (m2.trans (awF_fX (lo := lo) n2) (fun _ _ h => h)) (SX.of n1 hN)⟩
      rw [Int.toNat_natCast, show C2 i = alcZ z i from (r3.2 i (by omega)).1]
      rfl
    · refine g_tswIn (off := 61) (tgt := 74) q_X9_way_13 ⟨by decide, by decide⟩ (by decide) (by decide) rfl (by decide) ?_
      refine g_aload q_X9_way_74 rfl ?_
      refine g_iload_n q_X9_way_76 rfl ?_
      refine g_callVN (rc' := 5) (rs' := 30) (As := [_]) cs_X9_350 q_X9_way_77 (sp_visitedBy hΓ o1 k0 k1 i (by omega)) rfl (by repeat first | with_reducible assumption | with_reducible exact hput_s _ _ _ | refine (hput_n _ _ (by omega)).trans ?_ | exact hput_s _ _ _ | assumption) rfl rfl rfl rfl (Nat.le_of_ble_eq_true rfl) (by decide) (by decide) (by decide) (fun _ _ h => h.elim) (fun v σ2 hq => ?_)
      obtain ⟨rfl, hσ⟩ := hq
      rw [hσ]
      clear hσ
      refine g_callS (rc' := 5) (rs' := 30) (As := [_]) cs_X9_223 q_X9_way_80 (sp_bitCount hΓ (vsN (fun t => P (41 * i + t)) 41)) rfl rfl rfl (Nat.le_of_ble_eq_true rfl) (by decide) (by decide) (by decide) (fun _ _ h => h.elim) (k_ri ?_)
      refine g_ireturn q_X9_way_83.1 rfl ?_
      exact ⟨rfl, rfl, hSX⟩
    · refine g_tswIn (off := 71) (tgt := 84) q_X9_way_13 ⟨by decide, by decide⟩ (by decide) (by decide) rfl (by decide) ?_
      refine g_aload q_X9_way_84 rfl ?_
      refine g_iload_n q_X9_way_86 rfl ?_
      refine g_callVN (rc' := 5) (rs' := 30) (As := [_]) cs_X9_311 q_X9_way_87 (sp_countSteps hΓ o1 k0 k1 i (by omega)) rfl (by repeat first | with_reducible assumption | with_reducible exact hput_s _ _ _ | refine (hput_n _ _ (by omega)).trans ?_ | exact hput_s _ _ _ | assumption) rfl rfl rfl rfl (Nat.le_of_ble_eq_true rfl) (by decide) (by decide) (by decide) (fun _ _ h => h.elim) (k_ri ?_)
      refine g_ireturn q_X9_way_90.1 rfl ?_
      exact ⟨rfl, rfl, hSX⟩
    · refine g_tswIn (off := 78) (tgt := 91) q_X9_way_13 ⟨by decide, by decide⟩ (by decide) (by decide) rfl (by decide) ?_
      refine g_aload q_X9_way_91 rfl ?_
      refine g_iload_n q_X9_way_93 rfl ?_
      refine g_aload_n q_X9_way_94 rfl ?_
      refine g_get fl_X9_19 q_X9_way_95 (by repeat first | with_reducible assumption | with_reducible exact hput_s _ _ _ | refine (hput_n _ _ (by omega)).trans ?_ | exact hput_s _ _ _ | assumption) rfl ?_
      refine g_get fl_X9_139 q_X9_way_98 (by repeat first | with_reducible assumption | with_reducible exact hput_s _ _ _ | refine (hput_n _ _ (by omega)).trans ?_ | exact hput_s _ _ _ | assumption) rfl ?_
      refine g_iload_n q_X9_way_101 rfl ?_
      refine g_iaload q_X9_way_102 (by repeat first | with_reducible assumption | with_reducible exact hput_s _ _ _ | refine (hput_n _ _ (by omega)).trans ?_ | exact hput_s _ _ _ | assumption) (by omega) (by omega) ?_
      refine g_topi (b := zGO z i) rfl ?_
      refine g_callVN (rc' := 5) (rs' := 30) (As := [_, _]) cs_X9_353 q_X9_way_103 (sp_firstTimeIn hΓ o1 k0 k1 i (by omega) (zGO z i) ⟨by omega, by omega⟩) rfl (by repeat first | with_reducible assumption | with_reducible exact hput_s _ _ _ | refine (hput_n _ _ (by omega)).trans ?_ | exact hput_s _ _ _ | assumption) rfl rfl rfl rfl (Nat.le_of_ble_eq_true rfl) (by decide) (by decide) (by decide) (fun _ _ h => h.elim) (k_ri ?_)
      refine g_ireturn q_X9_way_106.1 rfl ?_
      exact ⟨rfl, rfl, hSX⟩
  · rw [if_neg hr]
    refine g_tswOut (tgt := 107) q_X9_way_13 hw (by omega) (by decide) ?_
    refine g_throw th_NSE q_X9_way_107.1 q_X9_way_110.1 q_X9_way_111.1 q_X9_way_114.1 rfl (by decide) (Nat.le_of_ble_eq_true rfl) (by decide) (by decide) (fun z hz => ?_)
    exact ⟨by decide, rfl, SX.tr m2 (SX.gr ⟨ve1, av1, hh1⟩ hN ⟨_, hz, rfl⟩)⟩
end X9P

