/-! the reference: without, again -/
theorem sumN_n0 {C : Nat → Int} {n : Nat} (h : ∀ k, k < n → 0 ≤ C k) : 0 ≤ sumN C n := by
  induction n with
  | zero => exact Int.le_refl 0
  | succ n ih =>
    have q1 := ih (fun j hj => h j (by omega))
    have q2 := h n (by omega)
    show 0 ≤ sumN C n + C n
    omega
theorem sumN_z {C : Nat → Int} {n : Nat} (h : ∀ k, k < n → 0 ≤ C k) (e : sumN C n = 0) : ∀ k, k < n → C k = 0 := by
  induction n with
  | zero => intro k hk; exact absurd hk (Nat.not_lt_zero k)
  | succ n ih =>
    intro k hk
    have h1 : 0 ≤ sumN C n := sumN_n0 (fun j hj => h j (by omega))
    have h2 := h n (by omega)
    have e' : sumN C n + C n = 0 := e
    by_cases q : k = n
    · rw [q]; omega
    · exact ih (fun j hj => h j (by omega)) (by omega) k (by omega)
/-- no clashes at all -/
theorem ccN_z {P : Nat → Int} {n last : Nat} (h : ccN P n last = 0) {a b t : Nat} (hab : a < b) (hb : b < n) (ht : t < last) : soc P a b t = -1 := by
  have c0 : ∀ (p : Nat → Bool) k, 0 ≤ cntN p k := fun p k => (cntN_rg p k).1
  have h1 := sumN_z (n := n) (fun a _ => sumN_n0 (fun j _ => c0 _ _)) h a (by omega)
  have h2 := sumN_z (n := n - 1 - a) (fun j _ => c0 _ _) h1 (b - a - 1) (by omega)
  have h3 := sumN_z (n := last) (fun t _ => (bi_le _).1) h2 t ht
  rw [show a + 1 + (b - a - 1) = b by omega] at h3
  have h4 := of_decide_eq_false (bi_f h3)
  exact Decidable.not_not.mp h4
section MWO
variable {Γ : GT} {σ : AH} {m : Nat} {I J : Nat → Int} {A A' : Nat → Nat → Int} {N : Nat → Nat → BitVec 64} {len : Nat} {tx : Nat → Int} {fa e0 : Int} {z : PS} {l : List (Int × Int × Int)} {wl : Nat} {wr : Nat → Int} {bd : Int}
/-- carts of a plan never meet -/
theorem plan_ne (w : WFz z) {P C : Nat → Int} (hgo : ∀ c, c < zCa z → goW z c (fun t => P (41 * c + t)) (C c)) (hcc : ccN P (zCa z) (mxN C (zCa z)).toNat = 0) {a b t : Nat} (hab : a < b) (hb : b < zCa z) (ht : t < 41) : P (41 * a + t) ≠ P (41 * b + t) := by
  have hW : okW z P C := fun c hc => by
    obtain ⟨q1, q2, q3, q4, -⟩ := hgo c hc
    exact ⟨q1, q2, q3, q4⟩
  cases t with
  | zero => exact hW.d0 w a b hab hb
  | succ u =>
    intro q
    have s0 : soc P a b u = 0 := by unfold soc; rw [if_pos q]
    by_cases h : u < (mxN C (zCa z)).toNat
    · have := ccN_z hcc hab hb h
      omega
    · have := hW.de w a b u hab hb (by omega) (by omega)
      omega
theorem wf_ag (w : WFz z) (hgo : ∀ c, c < zCa z → goW z c (fun t => pPZ z bd (41 * c + t)) (pCZ z bd c)) (hcc : ccN (pPZ z bd) (zCa z) (mxN (pCZ z bd) (zCa z)).toNat = 0) {t : Nat} (ht : t < 41) : WFz (agZ z bd t) := by
  have n5 := w.1.1.2.2
  obtain ⟨⟨g1, g2, g3, g4, g5, g6⟩, w2, w3, w4⟩ := w
  have w : WFz z := ⟨⟨g1, g2, g3, g4, g5, g6⟩, w2, w3, w4⟩
  have pl : ∀ k, k < zCa z → zPL (agZ z bd t) k = pPZ z bd (41 * k + t) := fun k hk => if_pos hk
  refine ⟨⟨g1, g2, fun k => ?_, g4, g5, g6⟩, fun k hk => ?_, fun i j hij hj => ?_, w4⟩
  · show (-1 ≤ (if k < zCa z then pPZ z bd (41 * k + t) else zPL z k) ∧ (if k < zCa z then pPZ z bd (41 * k + t) else zPL z k) < 36) ∧ (k < zCa z → 0 ≤ (if k < zCa z then pPZ z bd (41 * k + t) else zPL z k))
    by_cases q : k < zCa z
    · rw [if_pos q]
      have : (0 ≤ pPZ z bd (41 * k + t) ∧ pPZ z bd (41 * k + t) < 36) ∧ _ := (hgo k q).gin w q t ht
      exact ⟨⟨by omega, by omega⟩, fun _ => by omega⟩
    · rw [if_neg q]
      exact g3 k
  · have hk : k < zCa z := hk
    obtain ⟨q1, q2, q3, q4⟩ := w2 k hk
    have hg : (0 ≤ pPZ z bd (41 * k + t) ∧ pPZ z bd (41 * k + t) < 36) ∧ gIn (zCo z) (zRo z) (pPZ z bd (41 * k + t)).toNat ∧ zSO z (pPZ z bd (41 * k + t)).toNat ≠ 1 := (hgo k hk).gin w hk t ht
    rw [pl k hk]
    refine ⟨⟨hg.1.1, ?_, ?_⟩, hg.2.2, q3, q4⟩
    · show pPZ z bd (41 * k + t) % 6 < zCo z
      have := hg.2.1.1
      omega
    · show pPZ z bd (41 * k + t) / 6 < zRo z
      have := hg.2.1.2
      omega
  · have hj : j < zCa z := hj
    rw [pl i (by omega), pl j hj]
    exact ⟨plan_ne w hgo hcc hij hj ht, (w3 i j hij hj).2⟩
/-- all but the tree is as it was -/
theorem MW.fr (h : MW I A N len tx fa z l wl wr) (hI : J 2 = I 2 ∧ J 5 = I 5 ∧ J 20 = I 20 ∧ J 55 = I 55) (hA : A' 1 = A 1 ∧ A' 10 = A 10 ∧ A' 33 = A 33 ∧ A' 2 = A 2) (hz : MZ J A' z) (hT : MTr J A' z) (hr : ∀ i, rg (A' 16 i)) : MW J A' N len tx fa z l wl wr := by
  obtain ⟨a1, a2, a3, a4, a5, a6, a7, -⟩ := h
  refine ⟨?_, ?_, ⟨hz, a3.2⟩, a4, ?_, hT, ?_, hr⟩
  · rw [hI.1, hA.1, hA.2.2.2]; exact a1
  · rw [hI.2.1]; exact a2
  · rw [hI.2.2.1, hA.2.1]; exact a5
  · rw [hI.2.2.2, hA.2.2.1]; exact a7
theorem tP_rg {z : PS} (w : WFz z) (bd : Int) : -1 ≤ tP (bZ z bd) ∧ tP (bZ z bd) ≤ 301 := by
  obtain ⟨q1, q2, -⟩ := bld_rg (bd := bd) (okL_z w.1) w.1.2.2.1 w.1.2.2.2.1 w.1.1.2.2
  rcases q1 with q1 | ⟨k, q3, q4⟩
  · have q1 : tP (bZ z bd) = -1 := q1
    omega
  · have q4 : tP (bZ z bd) = k := q4
    have q2 : tN (bZ z bd) ≤ 301 := q2
    have q3 : k < tN (bZ z bd) := q3
    omega
set_option maxHeartbeats 1000000 in
theorem sp_mwithout (hΓ : Gd Γ) (hX : MX σ m e0 len tx fa z l wl wr) (bd a b : Int) (hbd : rg bd) (ha : rg a) (hb : rg b) : Sp Γ miX10_without 0 0 [.ref m, .int (ii bd), .int (ii a), .int (ii b)] σ (mQ (eWo z bd a b) (aWo z bd (6 * b + a).toNat) (SM σ m (eWo z bd a b) len tx fa z l wl wr)) noX := by
  obtain ⟨I, A, N, -, h, hW⟩ := hX
  have h0 := h.1
  have hz := hW.2.2.1.1
  have wf := hW.2.2.1.2
  have n5 := wf.1.1.2.2
  have c6 := wf.1.1.1
  have r6 := wf.1.1.2.1
  have h6 := h.a6
  have h8 := h.a8
  have h9 := h.a9
  obtain ⟨e, hEe⟩ : ∃ e, e = eWo z bd a b := ⟨_, rfl⟩
  rw [← hEe]
  have he4 : e ≤ 4 := by
    rw [hEe]
    unfold eWo
    repeat (first | decide | split)
  have fin : ∀ τ J B, eqOff σ τ (inb m 34) → MC τ m J B N → MW J B N len tx fa z l wl wr → (e = 0 → PLd J B z bd) → G Γ miX10_without cX10_without (mQ e (aWo z bd (6 * b + a).toNat) (SM σ m e len tx fa z l wl wr)) noX 0 0 65 [some (.ref m), some (.int (ii bd)), some (.int (ii a)), some (.int (ii b)), none, none, none] [.int (ii (e : Int)), .ref m] τ := by
    intro τ J B hE hM hWB hP
    have t0 := hM.1
    refine g_putM fp_X10_122 q_X10_without_65 (by repeat first | with_reducible assumption | with_reducible exact hput_s _ _ _ | refine (hput_n _ _ (by omega)).trans ?_ | exact hput_s _ _ _ | assumption) rfl rfl mset_0 ?_
    refine g_aload_n q_X10_without_68 rfl ?_
    refine g_get fl_X10_122 q_X10_without_69 (by repeat first | with_reducible assumption | with_reducible exact hput_s _ _ _ | refine (hput_n _ _ (by omega)).trans ?_ | exact hput_s _ _ _ | assumption) rfl ?_
    refine g_topi (b := (e : Int)) (by rfl) ?_
    refine g_if_le (tgt := 77) q_X10_without_72 (by decide) ⟨by omega, by omega⟩ (fun b9 => ?_) (fun b9 => ?_)
    case refine_2 =>
      refine g_iconst q_X10_without_75 ?_
      refine g_ireturn q_X10_without_76.1 rfl ?_
      exact ⟨by rw [if_neg (by omega)], SM.w hE hM hWB e⟩
    have ee : e = 0 := by omega
    subst ee
    obtain ⟨kp, hkp, j35, ha9, hrow, hgo, hsum, hsum0, hrow0, hcc⟩ := hP rfl
    have hM1 := hM.putI (va_up J 0 ((0 : Nat) : Int))
    have hW1 := hWB.I0 ((0 : Nat) : Int)
    have hE1 := hE.put (a := m) ⟨by omega, by omega⟩ (mdo m (va_up J 0 ((0 : Nat) : Int)))
    obtain ⟨τ1, hτ1⟩ : ∃ τ1, τ1 = hput τ m (mdo m (va_up J 0 ((0 : Nat) : Int))) := ⟨_, rfl⟩
    rw [← hτ1] at hM1 hE1 ⊢
    clear hτ1 hE t0 hP hM
    have j35 : va_up J 0 ((0 : Nat) : Int) 35 = kp := j35
    have j0 : va_up J 0 ((0 : Nat) : Int) 0 = ((0 : Nat) : Int) := rfl
    obtain ⟨J1, hJ1⟩ : ∃ J1, J1 = va_up J 0 ((0 : Nat) : Int) := ⟨_, rfl⟩
    rw [← hJ1] at j35 j0 hM1 hW1
    clear hJ1 hWB
    have hz1 := hW1.2.2.1.1
    have hrB := hW1.2.2.2.2.2.2.2
    have eq : xyOK z a b = true ∧ bOK bd = true ∧ wlB z (6 * b + a) = false := by
      unfold eWo at hEe
      split at hEe
      · exact absurd hEe (by decide)
      · rename_i q1
        split at hEe
        · exact absurd hEe (by decide)
        · rename_i q2
          split at hEe
          · exact absurd hEe (by decide)
          · split at hEe
            · exact absurd hEe (by decide)
            · rename_i q4
              exact ⟨by cases hh : xyOK z a b with | true => rfl | false => exact absurd hh q1, by cases hh : bOK bd with | true => rfl | false => exact absurd hh q2, by cases hh : wlB z (6 * b + a) with | false => rfl | true => exact absurd hh q4⟩
    obtain ⟨eq1, eqb, eqw⟩ := eq
    have hxy := of_decide_eq_true eq1
    have hbb := of_decide_eq_true eqb
    obtain ⟨c, hc⟩ : ∃ c : Nat, 6 * b + a = c := ⟨(6 * b + a).toNat, by omega⟩
    rw [hc, Int.toNat_natCast]
    rw [hc] at eqw
    unfold wlB at eqw
    rw [Bool.or_eq_false_iff] at eqw
    have htk := eqw.2
    have hc36 : c < 36 := by omega
    unfold mQ
    rw [if_pos rfl]
    have u0 := hM1.1
    have u6 := hM1.a6
    have u19 := hM1.a19
    have hsr : 0 ≤ B 6 c ∧ B 6 c < 6 := hz1.2.1 c
    refine g_aload_n q_X10_without_77 rfl ?_
    refine g_get fl_X10_74 q_X10_without_78 (by repeat first | with_reducible assumption | with_reducible exact hput_s _ _ _ | refine (hput_n _ _ (by omega)).trans ?_ | exact hput_s _ _ _ | assumption) rfl ?_
    refine g_aload_n q_X10_without_81 rfl ?_
    refine g_get fl_X10_314 q_X10_without_82 (by repeat first | with_reducible assumption | with_reducible exact hput_s _ _ _ | refine (hput_n _ _ (by omega)).trans ?_ | exact hput_s _ _ _ | assumption) rfl ?_
    refine g_topi (b := (kp : Int)) (by exact j35) ?_
    refine g_iaload q_X10_without_85 (by repeat first | with_reducible assumption | with_reducible exact hput_s _ _ _ | refine (hput_n _ _ (by omega)).trans ?_ | exact hput_s _ _ _ | assumption) (by omega) (by omega) ?_
    refine g_topi (b := sumN (pCZ z bd) (zCa z)) (by exact hsum) ?_
    refine g_istore (L' := [_, _, _, _, _, _, _]) q_X10_without_86 (by decide) rfl ?_
    refine g_aload_n q_X10_without_88 rfl ?_
    refine g_get fl_X10_30 q_X10_without_89 (by repeat first | with_reducible assumption | with_reducible exact hput_s _ _ _ | refine (hput_n _ _ (by omega)).trans ?_ | exact hput_s _ _ _ | assumption) rfl ?_
    refine g_bipush q_X10_without_92 bp_6 ?_
    refine g_iload_n q_X10_without_94 rfl ?_
    refine g_imul q_X10_without_95 ?_
    refine g_iload_n q_X10_without_96 rfl ?_
    refine g_iadd q_X10_without_97 ?_
    refine g_topi (b := (c : Int)) (by omega) ?_
    refine g_iaload q_X10_without_98 (by repeat first | with_reducible assumption | with_reducible exact hput_s _ _ _ | refine (hput_n _ _ (by omega)).trans ?_ | exact hput_s _ _ _ | assumption) (by omega) (by omega) ?_
    refine g_topi (b := B 6 c) (by rfl) ?_
    refine g_istore (L' := [_, _, _, _, _, _, _]) q_X10_without_99 (by decide) rfl ?_
    refine g_aload_n q_X10_without_101 rfl ?_
    refine g_get fl_X10_30 q_X10_without_102 (by repeat first | with_reducible assumption | with_reducible exact hput_s _ _ _ | refine (hput_n _ _ (by omega)).trans ?_ | exact hput_s _ _ _ | assumption) rfl ?_
    refine g_bipush q_X10_without_105 bp_6 ?_
    refine g_iload_n q_X10_without_107 rfl ?_
    refine g_imul q_X10_without_108 ?_
    refine g_iload_n q_X10_without_109 rfl ?_
    refine g_iadd q_X10_without_110 ?_
    refine g_topi (b := (c : Int)) (by omega) ?_
    refine g_iconst q_X10_without_111 ?_
    refine g_iastore q_X10_without_112 (by repeat first | with_reducible assumption | with_reducible exact hput_s _ _ _ | refine (hput_n _ _ (by omega)).trans ?_ | exact hput_s _ _ _ | assumption) (by omega) (by omega) ?_
    obtain ⟨τ2, hτ2⟩ : ∃ τ2, τ2 = hput τ1 (m + 6) (ai 36 (va_up (B 6) c 1)) := ⟨_, rfl⟩
    refine g_eq (σ2 := τ2) rfl rfl hτ2.symm ?_
    have hM2 : MC τ2 m J1 (va_up B 6 (va_up (B 6) c 1)) N := by rw [hτ2]; exact hM1.putA 6 (by omega) _
    have hE2 : eqOff σ τ2 (inb m 34) := by rw [hτ2]; exact hE1.put ⟨by omega, by omega⟩ _
    clear hτ2
    have v0 := hM2.1
    refine g_aload_n q_X10_without_113 rfl ?_
    refine g_callV (rc' := 0) (rs' := 0) (As := []) cs_X10_226 q_X10_without_114 (sp_changes hΓ v0) rfl (by repeat first | with_reducible assumption | with_reducible exact hput_s _ _ _ | refine (hput_n _ _ (by omega)).trans ?_ | exact hput_s _ _ _ | assumption) rfl rfl rfl rfl (Nat.le_of_ble_eq_true rfl) (by decide) (by decide) (by decide) (fun _ _ h => h.elim) (k_rv ?_)
    obtain ⟨τ3, hτ3⟩ : ∃ τ3, τ3 = hput τ2 m (mdo m (va_up J1 33 (-1))) := ⟨_, rfl⟩
    have hM3 := hM2.putI (va_up J1 33 (-1))
    have hE3 := hE2.put (a := m) ⟨by omega, by omega⟩ (mdo m (va_up J1 33 (-1)))
    rw [← hτ3] at hM3 hE3 ⊢
    clear hτ3 hM2 hE2 v0
    have hzw : MZ (va_up J1 33 (-1)) (va_up B 6 (va_up (B 6) c 1)) (wlZ z c) := by
      refine ⟨hz1.1, fun k => ?_, fun k hk => ?_, hz1.2.2.2⟩
      · show 0 ≤ va_up (B 6) c 1 k ∧ va_up (B 6) c 1 k < 6
        by_cases q : k = c
        · rw [q, va_eq]; exact ⟨by decide, by decide⟩
        · rw [va_ne q]; exact hz1.2.1 k
      · show va_up (B 6) c 1 k = va_up (zSO z) c 1 k
        by_cases q : k = c
        · rw [q, va_eq, va_eq]
        · rw [va_ne q, va_ne q]; exact hz1.2.2.1 k hk
    have wfw : WFz (wlZ z c) := wf_tell wf ⟨by decide, by decide⟩ (fun _ => htk)
    have w0 := hM3.1
    refine g_aload_n q_X10_without_117 rfl ?_
    refine g_iload_n q_X10_without_118 rfl ?_
    refine g_callV (rc' := 0) (rs' := 0) (As := [_]) cs_X10_334 q_X10_without_119 (sp_lays hΓ hM3 hzw wfw hrB (Or.inl rfl) eqb) rfl (by repeat first | with_reducible assumption | with_reducible exact hput_s _ _ _ | refine (hput_n _ _ (by omega)).trans ?_ | exact hput_s _ _ _ | assumption) rfl rfl rfl rfl (Nat.le_of_ble_eq_true rfl) (by decide) (by decide) (by decide) (fun _ _ h => h.elim) (fun v τ4 hq => ?_)
    obtain ⟨rfl, hE4, J4, B4, hM4, hF4, hr4, h33, hT4⟩ := hq
    have hE4 : eqOff σ τ4 (inb m 34) := hE3.trans hE4 (fun a i => by unfold inb at *; omega)
    have hpr := tP_rg wfw bd
    have x0 := hM4.1
    have x6 : τ4.2 (m + 6) = some (ai 36 (va_up (B 6) c 1)) := by
      have := hM4.a6
      rw [hF4.2 6 (by omega)] at this
      exact this
    have x19 := hM4.a19
    have back : ∀ its : Int, its = aWo z bd c → G Γ miX10_without cX10_without (fun r σ' => r = some (.int (ii (aWo z bd c))) ∧ SM σ m 0 len tx fa z l wl wr σ') noX 0 0 146 [some (.ref m), some (.int (ii bd)), some (.int (ii a)), some (.int (ii b)), some (.int (ii (sumN (pCZ z bd) (zCa z)))), some (.int (ii (B 6 c))), none] [.int (ii its)] τ4 := by
      intro its hits
      refine g_istore (L' := [_, _, _, _, _, _, _]) q_X10_without_146 (by decide) rfl ?_
      refine g_aload_n q_X10_without_148 rfl ?_
      refine g_get fl_X10_30 q_X10_without_149 (by repeat first | with_reducible assumption | with_reducible exact hput_s _ _ _ | refine (hput_n _ _ (by omega)).trans ?_ | exact hput_s _ _ _ | assumption) rfl ?_
      refine g_bipush q_X10_without_152 bp_6 ?_
      refine g_iload_n q_X10_without_154 rfl ?_
      refine g_imul q_X10_without_155 ?_
      refine g_iload_n q_X10_without_156 rfl ?_
      refine g_iadd q_X10_without_157 ?_
      refine g_topi (b := (c : Int)) (by omega) ?_
      refine g_iload q_X10_without_158 rfl ?_
      refine g_iastore q_X10_without_160 (by repeat first | with_reducible assumption | with_reducible exact hput_s _ _ _ | refine (hput_n _ _ (by omega)).trans ?_ | exact hput_s _ _ _ | assumption) (by omega) (by omega) ?_
      obtain ⟨τ5, hτ5⟩ : ∃ τ5, τ5 = hput τ4 (m + 6) (ai 36 (B 6)) := ⟨_, rfl⟩
      have eS : va_up (va_up (B 6) c 1) c (B 6 c) = B 6 := by
        funext k
        by_cases q : k = c
        · rw [q, va_eq]
        · rw [va_ne q, va_ne q]
      refine g_eq (σ2 := τ5) rfl rfl (by rw [hτ5]; exact congrArg (fun f => hput τ4 (m + 6) (ai 36 f)) eS) ?_
      have hM5 : MC τ5 m J4 (va_up B4 6 (B 6)) N := by rw [hτ5]; exact hM4.putA 6 (by omega) _
      have hE5 : eqOff σ τ5 (inb m 34) := by rw [hτ5]; exact hE4.put ⟨by omega, by omega⟩ _
      clear hτ5
      have y0 := hM5.1
      refine g_aload_n q_X10_without_161 rfl ?_
      refine g_callV (rc' := 0) (rs' := 0) (As := []) cs_X10_226 q_X10_without_162 (sp_changes hΓ y0) rfl (by repeat first | with_reducible assumption | with_reducible exact hput_s _ _ _ | refine (hput_n _ _ (by omega)).trans ?_ | exact hput_s _ _ _ | assumption) rfl rfl rfl rfl (Nat.le_of_ble_eq_true rfl) (by decide) (by decide) (by decide) (fun _ _ h => h.elim) (k_rv ?_)
      refine g_iload q_X10_without_165 rfl ?_
      refine g_ireturn q_X10_without_167.1 rfl ?_
      have f4 : ∀ j, j < 11 ∨ j = 17 ∨ 26 < j → j ≠ 6 → B4 j = B j := fun j h1 h2 => (hF4.2 j h1).trans (va_ne h2)
      have i4 : ∀ j, j < 28 ∨ 38 < j → va_up J4 33 (-1) j = J1 j := fun j hj => by
        rw [va_ne (by omega), hF4.1 j (by omega), va_ne (by omega)]
      rw [hits]
      refine ⟨rfl, ⟨va_up J4 33 (-1), va_up B4 6 (B 6), N, (i4 0 (by omega)).trans j0, hM5.putI _, hW1.fr ⟨i4 2 (by omega), i4 5 (by omega), i4 20 (by omega), i4 55 (by omega)⟩ ⟨(va_ne (by omega)).trans (f4 1 (by omega) (by omega)), (va_ne (by omega)).trans (f4 10 (by omega) (by omega)), (va_ne (by omega)).trans (f4 33 (by omega) (by omega)), (va_ne (by omega)).trans (f4 2 (by omega) (by omega))⟩ (hz1.cg ⟨i4 13 (by omega), i4 14 (by omega), i4 15 (by omega)⟩ va_eq ((va_ne (by omega)).trans (f4 8 (by omega) (by omega))) ((va_ne (by omega)).trans (f4 9 (by omega) (by omega)))) (Or.inl va_eq) (by rw [va_ne (by omega)]; exact hr4)⟩, hE5.put ⟨by omega, by omega⟩ _⟩
    refine g_aload_n q_X10_without_122 rfl ?_
    refine g_get fl_X10_314 q_X10_without_123 (by repeat first | with_reducible assumption | with_reducible exact hput_s _ _ _ | refine (hput_n _ _ (by omega)).trans ?_ | exact hput_s _ _ _ | assumption) rfl ?_
    refine g_topi (b := tP (bZ (wlZ z c) bd)) (by exact hT4.2.1) ?_
    refine g_iconst q_X10_without_126 ?_
    refine g_icmp_ne (tgt := 134) q_X10_without_127 (by decide) ⟨by omega, by omega⟩ ⟨by omega, by omega⟩ (fun b5 => ?_) (fun b5 => ?_)
    · obtain ⟨kq, hkq, q35, -, -, hgo2, hsum2, -⟩ := hT4.pl wfw b5
      have nn : 0 ≤ sumN (pCZ (wlZ z c) bd) (zCa (wlZ z c)) := sumN_n0 (fun k hk => (hgo2 k hk).2.1)
      refine g_aload_n q_X10_without_134 rfl ?_
      refine g_get fl_X10_74 q_X10_without_135 (by repeat first | with_reducible assumption | with_reducible exact hput_s _ _ _ | refine (hput_n _ _ (by omega)).trans ?_ | exact hput_s _ _ _ | assumption) rfl ?_
      refine g_aload_n q_X10_without_138 rfl ?_
      refine g_get fl_X10_314 q_X10_without_139 (by repeat first | with_reducible assumption | with_reducible exact hput_s _ _ _ | refine (hput_n _ _ (by omega)).trans ?_ | exact hput_s _ _ _ | assumption) rfl ?_
      refine g_topi (b := (kq : Int)) (by exact q35) ?_
      refine g_iaload q_X10_without_142 (by repeat first | with_reducible assumption | with_reducible exact hput_s _ _ _ | refine (hput_n _ _ (by omega)).trans ?_ | exact hput_s _ _ _ | assumption) (by omega) (by omega) ?_
      refine g_topi (b := sumN (pCZ (wlZ z c) bd) (zCa (wlZ z c))) (by exact hsum2) ?_
      refine g_iload q_X10_without_143 rfl ?_
      refine g_isub q_X10_without_145 ?_
      refine back _ ?_
      unfold aWo aSup
      rw [if_neg b5, if_neg (by omega)]
    · refine g_iconst q_X10_without_130 ?_
      refine g_goto (tgt := 146) q_X10_without_131 (by decide) ?_
      refine back _ ?_
      unfold aWo aSup
      rw [if_pos (show (if tP (bZ (wlZ z c) bd) = -1 then (-1 : Int) else sumN (pCZ (wlZ z c) bd) (zCa (wlZ z c))) = -1 from if_pos (by omega))]
  refine Sp_of (L := [_, _, _, _, _, _, _]) hΓ (by decide +kernel) rfl (Nat.le_of_ble_eq_true rfl) rfl ?_
  refine g_aload_n q_X10_without_0 rfl ?_
  refine g_aload_n q_X10_without_1 rfl ?_
  refine g_iload_n q_X10_without_2 rfl ?_
  refine g_iload_n q_X10_without_3 rfl ?_
  refine g_callV (rc' := 0) (rs' := 0) (As := [_, _]) cs_X10_233 q_X10_without_4 (sp_isCell hΓ h0 hz.1.1 hz.1.2.1 c6 r6 a b ha hb) rfl (by repeat first | with_reducible assumption | with_reducible exact hput_s _ _ _ | refine (hput_n _ _ (by omega)).trans ?_ | exact hput_s _ _ _ | assumption) rfl rfl rfl rfl (Nat.le_of_ble_eq_true rfl) (by decide) (by decide) (by decide) (fun _ _ h => h.elim) (k_rb ?_)
  refine g_if_ne (tgt := 14) q_X10_without_7 (by decide) (bi_rg _) (fun b1 => ?_) (fun b1 => ?_)
  case refine_2 =>
    have q := of_decide_eq_false (bi_f (show bi (decide (0 ≤ a ∧ a < (zCo z : Int) ∧ 0 ≤ b ∧ b < (zRo z : Int))) = 0 by omega))
    have e1 : e = 1 := by rw [hEe]; unfold eWo; rw [if_pos (show xyOK z a b = false from decide_eq_false q)]
    refine g_iconst q_X10_without_10 ?_
    refine g_goto (tgt := 65) q_X10_without_11 (by decide) ?_
    refine g_topi (b := (e : Int)) (by rw [e1]; rfl) ?_
    exact fin σ I A eqOff.rfl' h hW (fun q => by omega)
  have hxy := of_decide_eq_true (bi_t b1)
  have c1 : xyOK z a b = true := decide_eq_true hxy
  refine g_iload_n q_X10_without_14 rfl ?_
  refine g_callS (rc' := 0) (rs' := 0) (As := [_]) cs_X10_331 q_X10_without_15 (sp_isBound hΓ bd hbd) rfl rfl rfl (Nat.le_of_ble_eq_true rfl) (by decide) (by decide) (by decide) (fun _ _ h => h.elim) (k_rb ?_)
  refine g_if_ne (tgt := 25) q_X10_without_18 (by decide) (bi_rg _) (fun b2 => ?_) (fun b2 => ?_)
  case refine_2 =>
    have q := bi_f (show bi (bOK bd) = 0 by omega)
    have e1 : e = 2 := by rw [hEe]; unfold eWo; rw [if_neg (by rw [c1]; decide), if_pos q]
    refine g_iconst q_X10_without_21 ?_
    refine g_goto (tgt := 65) q_X10_without_22 (by decide) ?_
    refine g_topi (b := (e : Int)) (by rw [e1]; rfl) ?_
    exact fin σ I A eqOff.rfl' h hW (fun q => by omega)
  have c2 := bi_t b2
  have eW : e = if tP (bZ z bd) = -1 then 3 else if wlB z (6 * b + a) = true then 3 else 0 := by rw [hEe]; unfold eWo; rw [if_neg (by rw [c1]; decide), if_neg (by rw [c2]; decide)]
  obtain ⟨c, hc⟩ : ∃ c : Nat, 6 * b + a = c := ⟨(6 * b + a).toNat, by omega⟩
  have bad : wlB z (6 * b + a) = true → G Γ miX10_without cX10_without (mQ e (aWo z bd (6 * b + a).toNat) (SM σ m e len tx fa z l wl wr)) noX 0 0 53 [some (.ref m), some (.int (ii bd)), some (.int (ii a)), some (.int (ii b)), none, none, none] [.ref m] σ := fun q => by
    have e1 : e = 3 := by rw [eW, if_pos q]; split <;> rfl
    refine g_iconst q_X10_without_53 ?_
    refine g_goto (tgt := 65) q_X10_without_54 (by decide) ?_
    refine g_topi (b := (e : Int)) (by rw [e1]; rfl) ?_
    exact fin σ I A eqOff.rfl' h hW (fun q => by omega)
  have hso := hz.2.2.1 c (by unfold gIn; omega)
  have hsr := wf.1.2.1 c
  refine g_aload_n q_X10_without_25 rfl ?_
  refine g_get fl_X10_30 q_X10_without_26 (by repeat first | with_reducible assumption | with_reducible exact hput_s _ _ _ | refine (hput_n _ _ (by omega)).trans ?_ | exact hput_s _ _ _ | assumption) rfl ?_
  refine g_bipush q_X10_without_29 bp_6 ?_
  refine g_iload_n q_X10_without_31 rfl ?_
  refine g_imul q_X10_without_32 ?_
  refine g_iload_n q_X10_without_33 rfl ?_
  refine g_iadd q_X10_without_34 ?_
  refine g_topi (b := (c : Int)) (by omega) ?_
  refine g_iaload q_X10_without_35 (by repeat first | with_reducible assumption | with_reducible exact hput_s _ _ _ | refine (hput_n _ _ (by omega)).trans ?_ | exact hput_s _ _ _ | assumption) (by omega) (by omega) ?_
  refine g_topi (b := zSO z c) (by exact hso) ?_
  refine g_iconst q_X10_without_36 ?_
  refine g_icmp_eq (tgt := 53) q_X10_without_37 (by decide) ⟨by omega, by omega⟩ ⟨by omega, by omega⟩ (fun b3 => ?_) (fun b3 => ?_)
  · exact bad (by unfold wlB; rw [hc, Int.toNat_natCast, decide_eq_true b3]; rfl)
  refine g_aload_n q_X10_without_40 rfl ?_
  refine g_bipush q_X10_without_41 bp_6 ?_
  refine g_iload_n q_X10_without_43 rfl ?_
  refine g_imul q_X10_without_44 ?_
  refine g_iload_n q_X10_without_45 rfl ?_
  refine g_iadd q_X10_without_46 ?_
  refine g_topi (b := (c : Int)) (by omega) ?_
  have hpg : ∀ k, k < zCa z → rg (A 8 k) ∧ rg (A 9 k) := fun k hk => by
    obtain ⟨-, q1, q2, -, -, q3, q4⟩ := hz.pg wf hk
    rw [q1, q2]
    unfold rg
    omega
  refine g_callV (rc' := 0) (rs' := 0) (As := [_]) cs_X10_244 q_X10_without_47 (sp_isPG hΓ h0 h8 h9 hz.1.2.2 n5 hpg (c : Int) ⟨by omega, by omega⟩) rfl (by repeat first | with_reducible assumption | with_reducible exact hput_s _ _ _ | refine (hput_n _ _ (by omega)).trans ?_ | exact hput_s _ _ _ | assumption) rfl rfl rfl rfl (Nat.le_of_ble_eq_true rfl) (by decide) (by decide) (by decide) (fun _ _ h => h.elim) (k_rb ?_)
  rw [tkn_cg (fun k hk => hz.2.2.2 k hk)]
  refine g_if_eq (tgt := 57) q_X10_without_50 (by decide) (bi_rg _) (fun b4 => ?_) (fun b4 => ?_)
  case refine_2 => exact bad (by unfold wlB; rw [hc, bi_t b4, Bool.or_true])
  have c3 := bi_f b4
  have c4 : wlB z (6 * b + a) = false := by unfold wlB; rw [hc, Int.toNat_natCast, c3, decide_eq_false b3]; rfl
  refine g_aload_n q_X10_without_57 rfl ?_
  refine g_iconst q_X10_without_58 ?_
  refine g_iload_n q_X10_without_59 rfl ?_
  refine g_iconst q_X10_without_60 ?_
  refine g_iconst q_X10_without_61 ?_
  refine g_callV (rc' := 0) (rs' := 0) (As := [_, _, _, _]) cs_X10_337 q_X10_without_62 (sp_wrongPlan hΓ h hW true bd hbd 2 3 (by decide) (by decide)) rfl (by repeat first | with_reducible assumption | with_reducible exact hput_s _ _ _ | refine (hput_n _ _ (by omega)).trans ?_ | exact hput_s _ _ _ | assumption) rfl rfl rfl rfl (Nat.le_of_ble_eq_true rfl) (by decide) (by decide) (by decide) (fun _ _ h => h.elim) (fun v τ hq => ?_)
  rw [show eP true bd z 2 3 = e by rw [eW]; unfold eP; rw [if_neg (by rw [c2]; decide), if_neg (show ¬ wlB z (6 * b + a) = true by rw [c4]; decide)]] at hq
  obtain ⟨rfl, hE, J, B, hM, hWB, hP⟩ := hq
  exact fin τ J B hE hM hWB hP
end MWO

