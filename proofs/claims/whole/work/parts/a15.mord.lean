/-! the reference: orders -/
def fre (T : Nat) : Nat → Nat
  | 0 => 0
  | r + 1 => (if T.testBit (4 - r) then 0 else 1) + fre T r
theorem fre_or : ∀ T : Fin 32, ∀ s : Fin 5, (s : Nat) < fre T 5 → fre ((T : Nat) ||| 2 ^ frc T s) 5 + 1 = fre T 5 ∧ ((T : Nat) ||| 2 ^ frc T s) < 32 := by decide +kernel
theorem facN_div : ∀ n, n < 6 → ∀ i, i < n → Int.tdiv (facN (n - i) : Int) ((n : Int) - (i : Int)) = (facN (n - 1 - i) : Int) := by decide
theorem facN_mul : ∀ n, n < 6 → ∀ i, i < n → facN (n - i) = (n - i) * facN (n - 1 - i) := by decide
section MOR
variable {Γ : GT} {σ : AH} {m : Nat} {I : Nat → Int} {A : Nat → Nat → Int} {N : Nat → Nat → BitVec 64} {len : Nat} {tx : Nat → Int} {fa e0 : Int} {z : PS} {l : List (Int × Int × Int)} {wl : Nat} {wr : Nat → Int}
def loQ (σ : AH) (m : Nat) (I : Nat → Int) (A : Nat → Nat → Int) (N : Nat → Nat → BitVec 64) (n k : Nat) : Option Value → AH → Prop := fun r σ' => r = none ∧ eqOff σ σ' (inb (m + 32) 1) ∧ ∃ D, MC σ' m I (va_up A 32 D) N ∧ ∀ i, i < n → D i = (ordC n k i : Int)
theorem sp_laysOrder (hΓ : Gd Γ) (h : MC σ m I A N) {n : Nat} (hn : n ≤ 5) (h15 : I 15 = n) (k : Nat) (hk : k < facN n) : Sp Γ miX10_laysOrder 0 0 [.ref m, .int (ii k)] σ (loQ σ m I A N n k) noX := by
  have h0 := h.1
  have hfn := facN_pos n
  refine Sp_of (L := [_, _, _, _, _, _, _, _]) hΓ (by decide +kernel) rfl (Nat.le_of_ble_eq_true rfl) rfl ?_
  refine g_iload_n q_X10_laysOrder_0 rfl ?_
  refine g_istore_n (L' := [_, _, _, _, _, _, _, _]) q_X10_laysOrder_1 (by decide) rfl ?_
  refine g_aload_n q_X10_laysOrder_2 rfl ?_
  refine g_callV (rc' := 0) (rs' := 0) (As := []) cs_X10_369 q_X10_laysOrder_3 (sp_orders hΓ h0 hn h15) rfl (by repeat first | with_reducible assumption | with_reducible exact hput_s _ _ _ | refine (hput_n _ _ (by omega)).trans ?_ | exact hput_s _ _ _ | assumption) rfl rfl rfl rfl (Nat.le_of_ble_eq_true rfl) (by decide) (by decide) (by decide) (fun _ _ h => h.elim) (k_ri ?_)
  refine g_istore_n (L' := [_, _, _, _, _, _, _, _]) q_X10_laysOrder_6 (by decide) rfl ?_
  refine g_iconst q_X10_laysOrder_7 ?_
  refine g_istore (L' := [_, _, _, _, _, _, _, _]) q_X10_laysOrder_8 (by decide) rfl ?_
  refine g_iconst q_X10_laysOrder_10 ?_
  refine g_istore (L' := [_, _, _, _, _, _, _, _]) q_X10_laysOrder_11 (by decide) rfl ?_
  have hMi : MC σ m I (va_up A 32 (A 32)) N := by
    rw [show va_up A 32 (A 32) = A from funext fun j => by
      by_cases q : j = 32
      · rw [q, va_eq]
      · rw [va_ne q]]
    exact h
  refine g_loop3 (fun (i : Nat) (τ : AH) (D : Nat → Int) => i ≤ n ∧ eqOff σ τ (inb (m + 32) 1) ∧ MC τ m I (va_up A 32 D) N ∧ (∀ j, j < i → D j = (ordC n k j : Int)) ∧ (odS n k i).1 < facN (n - i) ∧ (odS n k i).2 < 32 ∧ fre (odS n k i).2 5 + i = 5) (fun i τ D => G Γ _ cX10_laysOrder _ _ 0 0 13 [some (.ref m), some (.int (ii (k : Int))), some (.int (ii ((odS n k i).1 : Int))), some (.int (ii (facN (n - i) : Int))), some (.int (ii ((odS n k i).2 : Int))), some (.int (ii i)), none, none] [] τ) (fun i τ D => n - i) ?_ 0 σ (A 32) ⟨Nat.zero_le _, eqOff.rfl', hMi, fun j hj => absurd hj (Nat.not_lt_zero j), hk, by show 0 < 32; decide, by show fre 0 5 + 0 = 5; decide⟩
  clear hMi h h0
  rintro i τ D ⟨hi, hE, hM, hD, hl, hT, hf⟩ ih
  have t0 := hM.1
  have t32 : τ.2 (m + 32) = some (ai 5 D) := hM.a32
  refine g_iload q_X10_laysOrder_13 rfl ?_
  refine g_aload_n q_X10_laysOrder_15 rfl ?_
  refine g_get fl_X10_220 q_X10_laysOrder_16 (by repeat first | with_reducible assumption | with_reducible exact hput_s _ _ _ | refine (hput_n _ _ (by omega)).trans ?_ | exact hput_s _ _ _ | assumption) rfl ?_
  refine g_topi (b := (n : Int)) (by exact h15) ?_
  refine g_icmp_ge (tgt := 103) q_X10_laysOrder_19 (by decide) ⟨by omega, by omega⟩ ⟨by omega, by omega⟩ (fun b1 => ?_) (fun b1 => ?_)
  · have e : i = n := by omega
    subst e
    refine g_return q_X10_laysOrder_103.1 rfl ?_
    exact ⟨rfl, hE, D, hM, hD⟩
  have hp1 := facN_pos (n - i)
  have hp2 := facN_pos (n - 1 - i)
  have hmul := facN_mul n (by omega) i (by omega)
  obtain ⟨le, hle⟩ : ∃ le, le = (odS n k i).1 := ⟨_, rfl⟩
  obtain ⟨T, hTe⟩ : ∃ T, T = (odS n k i).2 := ⟨_, rfl⟩
  obtain ⟨by1, hby⟩ : ∃ by1, by1 = facN (n - 1 - i) := ⟨_, rfl⟩
  have hdv := facN_div n (by omega) i (by omega)
  have eO1 : (odS n k (i + 1)).1 = le % by1 := by rw [hle, hby]; rfl
  have eO2 : (odS n k (i + 1)).2 = T ||| 2 ^ frc T (le / by1) := by rw [hle, hTe, hby]; rfl
  have eOC : ordC n k i = frc T (le / by1) := by unfold ordC; rw [hle, hTe, hby]
  have hfi : facN (n - (i + 1)) = by1 := by rw [hby, show n - (i + 1) = n - 1 - i by omega]
  rw [← hby] at hmul hp2 hdv
  rw [← hle] at hl ⊢
  rw [← hTe] at hT hf ⊢
  have hsk : le / by1 < n - i := by
    rw [Nat.div_lt_iff_lt_mul (by omega)]
    omega
  have hlm : le % by1 < by1 := Nat.mod_lt _ (by omega)
  obtain ⟨s0, hs0⟩ : ∃ s0, s0 = le / by1 := ⟨_, rfl⟩
  rw [← hs0] at hsk eO2 eOC
  have hor := fre_or ⟨T, hT⟩ ⟨s0, by omega⟩ (by show s0 < fre T 5; omega)
  have hor : fre (T ||| 2 ^ frc T s0) 5 + 1 = fre T 5 ∧ (T ||| 2 ^ frc T s0) < 32 := hor
  obtain ⟨R, hR⟩ : ∃ R, R = frc T s0 := ⟨_, rfl⟩
  have hR5 : R < 5 := by rw [hR]; exact frc5_lt T 5 s0
  rw [← hR] at eO2 eOC hor
  have hM3 := hM.putA 32 (by omega) (va_up D i (R : Int))
  rw [va_vv] at hM3
  have hnx := ih (i + 1) _ (va_up D i (R : Int)) ⟨by omega, hE.put (a := m + 32) ⟨by omega, by omega⟩ _, hM3, fun j hj => by
    by_cases q : j = i
    · rw [q, va_eq, eOC]
    · rw [va_ne q]; exact hD j (by omega), by rw [eO1, hfi]; exact hlm, by rw [eO2]; exact hor.2, by rw [eO2]; omega⟩ (by omega)
  rw [eO1, eO2, hfi] at hnx
  clear ih hM3
  refine g_iload_n q_X10_laysOrder_22 rfl ?_
  refine g_aload_n q_X10_laysOrder_23 rfl ?_
  refine g_get fl_X10_220 q_X10_laysOrder_24 (by repeat first | with_reducible assumption | with_reducible exact hput_s _ _ _ | refine (hput_n _ _ (by omega)).trans ?_ | exact hput_s _ _ _ | assumption) rfl ?_
  refine g_topi (b := (n : Int)) (by exact h15) ?_
  refine g_iload q_X10_laysOrder_27 rfl ?_
  refine g_isub q_X10_laysOrder_29 ?_
  refine g_idiv q_X10_laysOrder_30 ⟨by omega, by omega⟩ ⟨by omega, by omega⟩ (by omega) ?_
  refine g_topi (b := (by1 : Int)) (by exact hdv) ?_
  refine g_istore_n (L' := [_, _, _, _, _, _, _, _]) q_X10_laysOrder_31 (by decide) rfl ?_
  refine g_iload_n q_X10_laysOrder_32 rfl ?_
  refine g_iload_n q_X10_laysOrder_33 rfl ?_
  refine g_idiv q_X10_laysOrder_34 ⟨by omega, by omega⟩ ⟨by omega, by omega⟩ (by omega) ?_
  refine g_topi (b := ((le / by1 : Nat) : Int)) (by exact Int.ofNat_tdiv le _) ?_
  refine g_istore (L' := [_, _, _, _, _, _, _, _]) q_X10_laysOrder_35 (by decide) rfl ?_
  refine g_iload_n q_X10_laysOrder_37 rfl ?_
  refine g_iload_n q_X10_laysOrder_38 rfl ?_
  refine g_irem q_X10_laysOrder_39 ⟨by omega, by omega⟩ ⟨by omega, by omega⟩ (by omega) ?_
  refine g_topi (b := ((le % by1 : Nat) : Int)) (by exact Int.ofNat_tmod le _) ?_
  refine g_istore_n (L' := [_, _, _, _, _, _, _, _]) q_X10_laysOrder_40 (by decide) rfl ?_
  refine g_iconst q_X10_laysOrder_41 ?_
  refine g_istore (L' := [_, _, _, _, _, _, _, _]) q_X10_laysOrder_42 (by decide) rfl ?_
  rw [← hs0]
  refine g_loop2 (fun (c s : Nat) => c ≤ 5 ∧ frc5 T (5 - c) s = R ∧ s < fre T (5 - c) ∧ s < 5) (fun c s => G Γ _ cX10_laysOrder _ _ 0 0 44 [some (.ref m), some (.int (ii (k : Int))), some (.int (ii ((le % by1 : Nat) : Int))), some (.int (ii (by1 : Int))), some (.int (ii (T : Int))), some (.int (ii i)), some (.int (ii s)), some (.int (ii c))] [] τ) (fun c s => 5 - c) ?_ 0 s0 ⟨Nat.zero_le _, hR.symm, by show s0 < fre T 5; omega, by omega⟩
  rintro c s ⟨hc, hfr, hsf, hs5⟩ ih
  have hc5 : c < 5 := by
    by_cases q : c < 5
    · exact q
    · rw [show 5 - c = 0 by omega] at hsf
      exact absurd hsf (Nat.not_lt_zero s)
  rw [show 5 - c = (4 - c) + 1 by omega] at hfr hsf
  unfold frc5 at hfr
  unfold fre at hsf
  rw [show 4 - (4 - c) = c by omega] at hfr hsf
  have five : 4 - c = 5 - (c + 1) := by omega
  rw [five] at hfr hsf
  refine g_iload q_X10_laysOrder_44 rfl ?_
  refine g_iload q_X10_laysOrder_46 rfl ?_
  refine g_ishr q_X10_laysOrder_48 ?_
  refine g_iconst q_X10_laysOrder_49 ?_
  refine g_iand q_X10_laysOrder_50 ?_
  rw [bt_sh ⟨T, hT⟩ ⟨c, hc5⟩]
  show G Γ miX10_laysOrder cX10_laysOrder _ noX 0 0 51 _ [.int (ii (bi (T.testBit c)))] τ
  refine g_iconst q_X10_laysOrder_51 ?_
  refine g_icmp_eq (tgt := 60) q_X10_laysOrder_52 (by decide) (bi_rg _) ⟨by omega, by omega⟩ (fun b2 => ?_) (fun b2 => ?_)
  · have hb : T.testBit c = true := bi_t (by omega)
    rw [if_pos hb] at hfr hsf
    have hn2 := ih (c + 1) s ⟨by omega, hfr, by omega, hs5⟩ (by omega)
    refine g_iload q_X10_laysOrder_60 rfl ?_
    refine g_iload q_X10_laysOrder_62 rfl ?_
    refine g_ishr q_X10_laysOrder_64 ?_
    refine g_iconst q_X10_laysOrder_65 ?_
    refine g_iand q_X10_laysOrder_66 ?_
    rw [bt_sh ⟨T, hT⟩ ⟨c, hc5⟩]
    show G Γ miX10_laysOrder cX10_laysOrder _ noX 0 0 67 _ [.int (ii (bi (T.testBit c)))] τ
    refine g_if_ne (tgt := 73) q_X10_laysOrder_67 (by decide) (bi_rg _) (fun b3 => ?_) (fun b3 => ?_)
    · refine g_iinc (L' := [_, _, _, _, _, _, _, _]) q_X10_laysOrder_73 rfl rfl ?_
      refine g_goto (tgt := 44) q_X10_laysOrder_76 (by decide) ?_
      exact hn2
    · exact absurd (show bi (T.testBit c) = 1 from b2) (by omega)
  have hb : T.testBit c = false := bi_f (by have := bi_le (T.testBit c); omega)
  rw [if_neg (by rw [hb]; decide)] at hfr hsf
  refine g_iload q_X10_laysOrder_55 rfl ?_
  refine g_if_le (tgt := 79) q_X10_laysOrder_57 (by decide) ⟨by omega, by omega⟩ (fun b3 => ?_) (fun b3 => ?_)
  · rw [if_pos (by omega)] at hfr
    subst hfr
    refine g_aload_n q_X10_laysOrder_79 rfl ?_
    refine g_get fl_X10_113 q_X10_laysOrder_80 (by repeat first | with_reducible assumption | with_reducible exact hput_s _ _ _ | refine (hput_n _ _ (by omega)).trans ?_ | exact hput_s _ _ _ | assumption) rfl ?_
    refine g_iload q_X10_laysOrder_83 rfl ?_
    refine g_iload q_X10_laysOrder_85 rfl ?_
    refine g_iastore q_X10_laysOrder_87 (by repeat first | with_reducible assumption | with_reducible exact hput_s _ _ _ | refine (hput_n _ _ (by omega)).trans ?_ | exact hput_s _ _ _ | assumption) (by omega) (by omega) ?_
    refine g_iload q_X10_laysOrder_88 rfl ?_
    refine g_iconst q_X10_laysOrder_90 ?_
    refine g_iload q_X10_laysOrder_91 rfl ?_
    refine g_ishl q_X10_laysOrder_93 ?_
    refine g_ior q_X10_laysOrder_94 ?_
    rw [bt_or ⟨T, hT⟩ ⟨c, hc5⟩]
    refine g_istore (L' := [_, _, _, _, _, _, _, _]) q_X10_laysOrder_95 (by decide) rfl ?_
    refine g_iinc (L' := [_, _, _, _, _, _, _, _]) q_X10_laysOrder_97 rfl rfl ?_
    refine g_goto (tgt := 13) q_X10_laysOrder_100 (by decide) ?_
    exact g_fl hnx ⟨rfl, rfl, rfl, rfl, rfl, rfl, trivial⟩
  · rw [if_neg (by omega)] at hfr
    have hn2 := ih (c + 1) (s - 1) ⟨by omega, hfr, by omega, by omega⟩ (by omega)
    refine g_iload q_X10_laysOrder_60 rfl ?_
    refine g_iload q_X10_laysOrder_62 rfl ?_
    refine g_ishr q_X10_laysOrder_64 ?_
    refine g_iconst q_X10_laysOrder_65 ?_
    refine g_iand q_X10_laysOrder_66 ?_
    rw [bt_sh ⟨T, hT⟩ ⟨c, hc5⟩]
    show G Γ miX10_laysOrder cX10_laysOrder _ noX 0 0 67 _ [.int (ii (bi (T.testBit c)))] τ
    refine g_if_ne (tgt := 73) q_X10_laysOrder_67 (by decide) (bi_rg _) (fun b4 => ?_) (fun b4 => ?_)
    · exact absurd (bi_t b4) (by rw [hb]; decide)
    · refine g_iinc (L' := [_, _, _, _, _, _, _, _]) q_X10_laysOrder_70 rfl rfl ?_
      refine g_eq (L2 := [some (.ref m), some (.int (ii (k : Int))), some (.int (ii ((le % by1 : Nat) : Int))), some (.int (ii (by1 : Int))), some (.int (ii (T : Int))), some (.int (ii i)), some (.int (ii ((s - 1 : Nat) : Int))), some (.int (ii c))]) (by rw [show (s : Int) + -1 = ((s - 1 : Nat) : Int) by omega]) rfl rfl ?_
      refine g_iinc (L' := [_, _, _, _, _, _, _, _]) q_X10_laysOrder_73 rfl rfl ?_
      refine g_goto (tgt := 44) q_X10_laysOrder_76 (by decide) ?_
      exact hn2
theorem sp_misOrder (hΓ : Gd Γ) (h0 : σ.2 m = some (mdo m I)) (hn : zCa z ≤ 5) (h15 : I 15 = zCa z) (o : Int) (ho : rg o) : Sp Γ miX10_isOrder 0 0 [.ref m, .int (ii o)] σ (rb (ordOK z o) σ) noX := by
  have hfn := facN_pos (zCa z)
  refine Sp_of (L := [_, _]) hΓ (by decide +kernel) rfl (Nat.le_of_ble_eq_true rfl) rfl ?_
  refine g_iload_n q_X10_isOrder_0 rfl ?_
  refine g_iconst q_X10_isOrder_1 ?_
  refine g_aload_n q_X10_isOrder_2 rfl ?_
  refine g_callV (rc' := 0) (rs' := 0) (As := []) cs_X10_369 q_X10_isOrder_3 (sp_orders hΓ h0 hn h15) rfl (by repeat first | with_reducible assumption | with_reducible exact hput_s _ _ _ | refine (hput_n _ _ (by omega)).trans ?_ | exact hput_s _ _ _ | assumption) rfl rfl rfl rfl (Nat.le_of_ble_eq_true rfl) (by decide) (by decide) (by decide) (fun _ _ h => h.elim) (k_ri ?_)
  refine g_iconst q_X10_isOrder_6 ?_
  refine g_isub q_X10_isOrder_7 ?_
  refine g_callS (rc' := 0) (rs' := 0) (As := [_, _, _]) cs_X10_229 q_X10_isOrder_8 (sp_isIn hΓ o 0 ((facN (zCa z) : Int) - 1) ho ⟨by decide, by decide⟩ ⟨by omega, by omega⟩) rfl rfl rfl (Nat.le_of_ble_eq_true rfl) (by decide) (by decide) (by decide) (fun _ _ h => h.elim) (k_rb ?_)
  rw [decide_eq_decide.mpr (show (0 ≤ o ∧ o ≤ (facN (zCa z) : Int) - 1) ↔ (0 ≤ o ∧ o < (facN (zCa z) : Int)) from ⟨fun h => by omega, fun h => by omega⟩)]
  refine g_zreturn q_X10_isOrder_11.1 rfl (bi_01 _) ?_
  exact ⟨rfl, rfl⟩
/-- other orders: nothing of meaning -/
theorem MW.od (hW : MW I A N len tx fa z l wl wr) (D : Nat → Int) : MW I (va_up A 32 D) N len tx fa z l wl wr := hW
theorem sp_mordered (hΓ : Gd Γ) (hX : MX σ m e0 len tx fa z l wl wr) (o k : Int) (ho : rg o) (hk : rg k) : Sp Γ miX10_ordered 0 0 [.ref m, .int (ii o), .int (ii k)] σ (mQ (eOrdd z o k) (tuO z o.toNat k.toNat : Int) (SM σ m (eOrdd z o k) len tx fa z l wl wr)) noX := by
  obtain ⟨I, A, N, -, h, hW⟩ := hX
  have h0 := h.1
  have hz := hW.2.2.1.1
  have wf := hW.2.2.1.2
  have n5 := wf.1.1.2.2
  have j15 := hz.1.2.2
  have bad : ¬ (ordOK z o = true ∧ cOK z k = true) → G Γ miX10_ordered cX10_ordered (mQ (eOrdd z o k) (tuO z o.toNat k.toNat : Int) (SM σ m (eOrdd z o k) len tx fa z l wl wr)) noX 0 0 27 [some (.ref m), some (.int (ii o)), some (.int (ii k))] [.ref m] σ := fun q => by
    have e1 : eOrdd z o k = 1 := if_neg q
    refine g_iconst q_X10_ordered_27 ?_
    refine g_putM fp_X10_122 q_X10_ordered_28 (by repeat first | with_reducible assumption | with_reducible exact hput_s _ _ _ | refine (hput_n _ _ (by omega)).trans ?_ | exact hput_s _ _ _ | assumption) rfl rfl mset_0 ?_
    refine g_aload_n q_X10_ordered_31 rfl ?_
    refine g_get fl_X10_122 q_X10_ordered_32 (by repeat first | with_reducible assumption | with_reducible exact hput_s _ _ _ | refine (hput_n _ _ (by omega)).trans ?_ | exact hput_s _ _ _ | assumption) rfl ?_
    refine g_topi (b := (1 : Int)) (by rfl) ?_
    refine g_if_le (tgt := 40) q_X10_ordered_35 (by decide) ⟨by omega, by omega⟩ (fun b2 => ?_) (fun b2 => ?_)
    case refine_1 => exact absurd b2 (by decide)
    refine g_iconst q_X10_ordered_38 ?_
    refine g_ireturn q_X10_ordered_39.1 rfl ?_
    rw [e1]
    exact ⟨rfl, SM.t h hW 1⟩
  refine Sp_of (L := [_, _, _]) hΓ (by decide +kernel) rfl (Nat.le_of_ble_eq_true rfl) rfl ?_
  refine g_aload_n q_X10_ordered_0 rfl ?_
  refine g_aload_n q_X10_ordered_1 rfl ?_
  refine g_iload_n q_X10_ordered_2 rfl ?_
  refine g_callV (rc' := 0) (rs' := 0) (As := [_]) cs_X10_378 q_X10_ordered_3 (sp_misOrder hΓ h0 n5 j15 o ho) rfl (by repeat first | with_reducible assumption | with_reducible exact hput_s _ _ _ | refine (hput_n _ _ (by omega)).trans ?_ | exact hput_s _ _ _ | assumption) rfl rfl rfl rfl (Nat.le_of_ble_eq_true rfl) (by decide) (by decide) (by decide) (fun _ _ h => h.elim) (k_rb ?_)
  refine g_if_eq (tgt := 27) q_X10_ordered_6 (by decide) (bi_rg _) (fun b1 => ?_) (fun b1 => ?_)
  · exact bad (fun q => by rw [bi_f b1] at q; cases q.1)
  have c1 := bi_t b1
  refine g_iload_n q_X10_ordered_9 rfl ?_
  refine g_iconst q_X10_ordered_10 ?_
  refine g_aload_n q_X10_ordered_11 rfl ?_
  refine g_get fl_X10_220 q_X10_ordered_12 (by repeat first | with_reducible assumption | with_reducible exact hput_s _ _ _ | refine (hput_n _ _ (by omega)).trans ?_ | exact hput_s _ _ _ | assumption) rfl ?_
  refine g_topi (b := (zCa z : Int)) (by exact j15) ?_
  refine g_iconst q_X10_ordered_15 ?_
  refine g_isub q_X10_ordered_16 ?_
  refine g_callS (rc' := 0) (rs' := 0) (As := [_, _, _]) cs_X10_229 q_X10_ordered_17 (sp_isIn hΓ k 0 ((zCa z : Int) - 1) hk ⟨by decide, by decide⟩ ⟨by omega, by omega⟩) rfl rfl rfl (Nat.le_of_ble_eq_true rfl) (by decide) (by decide) (by decide) (fun _ _ h => h.elim) (k_rb ?_)
  refine g_if_eq (tgt := 27) q_X10_ordered_20 (by decide) (bi_rg _) (fun b2 => ?_) (fun b2 => ?_)
  · have q := of_decide_eq_false (bi_f b2)
    exact bad (fun q2 => by have := of_decide_eq_true q2.2; omega)
  have q2 := of_decide_eq_true (bi_t b2)
  have c2 : cOK z k = true := decide_eq_true (by omega)
  have e1 : eOrdd z o k = 0 := if_pos ⟨c1, c2⟩
  have ho1 := of_decide_eq_true c1
  obtain ⟨j, hj⟩ : ∃ j : Nat, o = j := ⟨o.toNat, by omega⟩
  subst hj
  obtain ⟨i, hi⟩ : ∃ i : Nat, k = i := ⟨k.toNat, by omega⟩
  subst hi
  rw [e1, Int.toNat_natCast, Int.toNat_natCast]
  have hM1 := h.putI (va_up I 0 ((0 : Nat) : Int))
  refine g_iconst q_X10_ordered_23 ?_
  refine g_goto (tgt := 28) q_X10_ordered_24 (by decide) ?_
  refine g_putM fp_X10_122 q_X10_ordered_28 (by repeat first | with_reducible assumption | with_reducible exact hput_s _ _ _ | refine (hput_n _ _ (by omega)).trans ?_ | exact hput_s _ _ _ | assumption) rfl rfl mset_0 ?_
  refine g_aload_n q_X10_ordered_31 rfl ?_
  refine g_get fl_X10_122 q_X10_ordered_32 (by repeat first | with_reducible assumption | with_reducible exact hput_s _ _ _ | refine (hput_n _ _ (by omega)).trans ?_ | exact hput_s _ _ _ | assumption) rfl ?_
  refine g_topi (b := (0 : Int)) (by rfl) ?_
  refine g_if_le (tgt := 40) q_X10_ordered_35 (by decide) ⟨by omega, by omega⟩ (fun b3 => ?_) (fun b3 => ?_)
  case refine_2 => exact absurd b3 (by decide)
  have hE1 : eqOff σ (hput σ m (mdo m (va_up I 0 ((0 : Nat) : Int)))) (inb m 34) := eqOff.rfl'.put ⟨by omega, by omega⟩ _
  obtain ⟨τ1, hτ1⟩ : ∃ τ1, τ1 = hput σ m (mdo m (va_up I 0 ((0 : Nat) : Int))) := ⟨_, rfl⟩
  refine g_eq (σ2 := τ1) rfl rfl hτ1.symm ?_
  rw [← hτ1] at hM1 hE1
  clear hτ1
  have t0 := hM1.1
  refine g_aload_n q_X10_ordered_40 rfl ?_
  refine g_iload_n q_X10_ordered_41 rfl ?_
  refine g_callV (rc' := 0) (rs' := 0) (As := [_]) cs_X10_372 q_X10_ordered_42 (sp_laysOrder hΓ hM1 n5 j15 j (by omega)) rfl (by repeat first | with_reducible assumption | with_reducible exact hput_s _ _ _ | refine (hput_n _ _ (by omega)).trans ?_ | exact hput_s _ _ _ | assumption) rfl rfl rfl rfl (Nat.le_of_ble_eq_true rfl) (by decide) (by decide) (by decide) (fun _ _ h => h.elim) (fun v τ hq => ?_)
  obtain ⟨rfl, hE, D, hM, hD⟩ := hq
  have u0 := hM.1
  have u32 : τ.2 (m + 32) = some (ai 5 D) := hM.a32
  refine g_aload_n q_X10_ordered_45 rfl ?_
  refine g_get fl_X10_113 q_X10_ordered_46 (by repeat first | with_reducible assumption | with_reducible exact hput_s _ _ _ | refine (hput_n _ _ (by omega)).trans ?_ | exact hput_s _ _ _ | assumption) rfl ?_
  refine g_iload_n q_X10_ordered_49 rfl ?_
  refine g_iaload q_X10_ordered_50 (by repeat first | with_reducible assumption | with_reducible exact hput_s _ _ _ | refine (hput_n _ _ (by omega)).trans ?_ | exact hput_s _ _ _ | assumption) (by omega) (by omega) ?_
  refine g_topi (b := (ordC (zCa z) j i : Int)) (by exact hD i (by omega)) ?_
  refine g_ireturn q_X10_ordered_51.1 rfl ?_
  exact ⟨rfl, ⟨va_up I 0 ((0 : Nat) : Int), va_up A 32 D, N, va_eq, hM, (hW.I0 _).od D⟩, hE1.trans hE (fun a i => by unfold inb at *; omega)⟩
end MOR

