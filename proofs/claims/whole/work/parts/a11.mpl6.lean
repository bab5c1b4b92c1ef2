/-! the reference: write -/
section MPL6
variable {Γ : GT} {σ : AH} {m : Nat} {I : Nat → Int} {A : Nat → Nat → Int} {N : Nat → Nat → BitVec 64} {len : Nat} {tx : Nat → Int} {fa e0 : Int} {z : PS} {l : List (Int × Int × Int)} {wl : Nat} {wr : Nat → Int}
theorem MW.wri (h : MW I A N len tx fa z l wl wr) {k : Nat} {f wr' : Nat → Int} (hk : k ≤ 42) (hf : ∀ i, i < 42 → f i = wr' i) : MW (va_up I 55 (k : Int)) (va_up A 33 f) N len tx fa z l k wr' := by
  obtain ⟨a1, a2, a3, a4, a5, a6, a7, a8⟩ := h
  refine ⟨a1, a2, ⟨a3.1.cg ⟨rfl, rfl, rfl⟩ rfl rfl rfl, a3.2⟩, a4, a5, ?_, ⟨rfl, hk, hf⟩, a8⟩
  exact a6
/-- the sign of a cell, carts from cc on looked at -/
def sgI (hit : Nat → Prop) (n : Nat) (d v : Int) (cc : Nat) : Prop := (v = d ∧ ∀ c, cc ≤ c → c < n → ¬ hit c) ∨ ∃ c, cc ≤ c ∧ c < n ∧ hit c ∧ (∀ b, cc ≤ b → b < c → ¬ hit b) ∧ v = 48 + (c : Int)
theorem sgI.no {hit : Nat → Prop} {n c : Nat} {d v : Int} (h : sgI hit n d v (c + 1)) (hn : ¬ hit c) : sgI hit n d v c := by
  have key : ∀ b, c ≤ b → (b = c ∨ c + 1 ≤ b) := fun b hb => by omega
  rcases h with ⟨h1, h2⟩ | ⟨a, h1, h2, h3, h4, h5⟩
  · refine Or.inl ⟨h1, fun b hb hbn => ?_⟩
    rcases key b hb with e | e
    · rw [e]; exact hn
    · exact h2 b e hbn
  · refine Or.inr ⟨a, by omega, h2, h3, fun b hb hba => ?_, h5⟩
    rcases key b hb with e | e
    · rw [e]; exact hn
    · exact h4 b e hba
set_option maxHeartbeats 1000000 in
theorem sp_mwrite (hΓ : Gd Γ) (hX : MX σ m e0 len tx fa z l wl wr) (bd t : Int) (hbd : rg bd) (ht : rg t) : Sp Γ miX10_write 0 0 [.ref m, .int (ii bd), .int (ii t)] σ (mQ (eP (tOK t) bd z 1 2) (((zCo z + 1) * zRo z : Nat) : Int) (SM σ m (eP (tOK t) bd z 1 2) len tx fa z l (wrL z bd t wl) (wrW z bd t wr))) noX := by
  obtain ⟨I, A, N, -, h, hW⟩ := hX
  have h0 := h.1
  have wf := hW.2.2.1.2
  have n5 := wf.1.1.2.2
  have c6 := wf.1.1.1
  have r6 := wf.1.1.2.1
  obtain ⟨e, hEe⟩ : ∃ e, e = eP (tOK t) bd z 1 2 := ⟨_, rfl⟩
  have he4 : e ≤ 4 := by rw [hEe]; exact eP_le _ _ _ (by decide) (by decide)
  have eL : wrL z bd t wl = if e = 0 then (zCo z + 1) * zRo z else wl := by unfold wrL; rw [← hEe]
  have eR : wrW z bd t wr = if e = 0 then wrF z (pPZ z bd) t.toNat wr ((zCo z + 1) * zRo z) else wr := by unfold wrW; rw [← hEe]
  rw [← hEe, eL, eR]
  clear eL eR
  refine Sp_of (L := [_, _, _, _, _, _, _]) hΓ (by decide +kernel) rfl (Nat.le_of_ble_eq_true rfl) rfl ?_
  refine g_aload_n q_X10_write_0 rfl ?_
  refine g_aload_n q_X10_write_1 rfl ?_
  refine g_iload_n q_X10_write_2 rfl ?_
  refine g_iconst q_X10_write_3 ?_
  refine g_bipush q_X10_write_4 bp_40 ?_
  refine g_callS (rc' := 0) (rs' := 0) (As := [_, _, _]) cs_X10_229 q_X10_write_6 (sp_isIn hΓ t 0 40 ht ⟨by decide, by decide⟩ ⟨by decide, by decide⟩) rfl rfl rfl (Nat.le_of_ble_eq_true rfl) (by decide) (by decide) (by decide) (fun _ _ h => h.elim) (k_rb ?_)
  refine g_iload_n q_X10_write_9 rfl ?_
  refine g_iconst q_X10_write_10 ?_
  refine g_iconst q_X10_write_11 ?_
  refine g_callV (rc' := 0) (rs' := 0) (As := [_, _, _, _]) cs_X10_337 q_X10_write_12 (sp_wrongPlan hΓ h hW (tOK t) bd hbd 1 2 (by decide) (by decide)) rfl (by repeat first | with_reducible assumption | with_reducible exact hput_s _ _ _ | refine (hput_n _ _ (by omega)).trans ?_ | exact hput_s _ _ _ | assumption) rfl rfl rfl rfl (Nat.le_of_ble_eq_true rfl) (by decide) (by decide) (by decide) (fun _ _ h => h.elim) (fun v τ hq => ?_)
  rw [← hEe] at hq
  obtain ⟨rfl, hE, J, B, hM, hWB, hP⟩ := hq
  have t0 := hM.1
  refine g_putM fp_X10_122 q_X10_write_15 (by repeat first | with_reducible assumption | with_reducible exact hput_s _ _ _ | refine (hput_n _ _ (by omega)).trans ?_ | exact hput_s _ _ _ | assumption) rfl rfl mset_0 ?_
  refine g_aload_n q_X10_write_18 rfl ?_
  refine g_get fl_X10_122 q_X10_write_19 (by repeat first | with_reducible assumption | with_reducible exact hput_s _ _ _ | refine (hput_n _ _ (by omega)).trans ?_ | exact hput_s _ _ _ | assumption) rfl ?_
  refine g_topi (b := (e : Int)) (by rfl) ?_
  refine g_if_le (tgt := 27) q_X10_write_22 (by decide) ⟨by omega, by omega⟩ (fun b9 => ?_) (fun b9 => ?_)
  case refine_2 =>
    refine g_iconst q_X10_write_25 ?_
    refine g_ireturn q_X10_write_26.1 rfl ?_
    rw [if_neg (show ¬ e = 0 by omega), if_neg (show ¬ e = 0 by omega)]
    exact ⟨by rw [if_neg (by omega)], SM.w hE hM hWB e⟩
  have ee : e = 0 := by omega
  subst ee
  rw [if_pos rfl, if_pos rfl]
  obtain ⟨kp, hkp, j35, ha, hrow, hgo, hsum, hsum0, hrow0, hcc⟩ := hP rfl
  have hM1 := hM.putI (va_up J 0 ((0 : Nat) : Int))
  have hW1 := hWB.I0 ((0 : Nat) : Int)
  have hE1 := hE.put (a := m) ⟨by omega, by omega⟩ (mdo m (va_up J 0 ((0 : Nat) : Int)))
  obtain ⟨τ1, hτ1⟩ : ∃ τ1, τ1 = hput τ m (mdo m (va_up J 0 ((0 : Nat) : Int))) := ⟨_, rfl⟩
  rw [← hτ1] at hM1 hE1 ⊢
  clear hτ1 hE t0 hP hM
  have j35 : va_up J 0 ((0 : Nat) : Int) 35 = kp := j35
  have j0 : va_up J 0 ((0 : Nat) : Int) 0 = ((0 : Nat) : Int) := rfl
  obtain ⟨J1, hJ1⟩ : ∃ J1, J1 = va_up J 0 ((0 : Nat) : Int) := ⟨_, rfl⟩
  rw [← hJ1] at j35 j0 hM1 hW1
  clear hJ1 hWB
  have hzJ := hW1.2.2.1.1
  have hrB := hW1.2.2.2.2.2.2.2
  obtain ⟨j13, j14, j15⟩ := hzJ.1
  have eq2 := eP_z (by decide) hEe.symm
  have ht1 := of_decide_eq_true eq2.1
  obtain ⟨u, hu⟩ : ∃ u : Nat, t = u := ⟨t.toNat, by omega⟩
  subst hu
  rw [Int.toNat_natCast]
  unfold mQ
  rw [if_pos rfl]
  obtain ⟨P, hP⟩ : ∃ P, P = pPZ z bd := ⟨_, rfl⟩
  rw [← hP] at hrow hgo ⊢
  obtain ⟨co, hco⟩ : ∃ co, co = zCo z := ⟨_, rfl⟩
  obtain ⟨ro, hro⟩ : ∃ ro, ro = zRo z := ⟨_, rfl⟩
  obtain ⟨n, hn⟩ : ∃ n, n = zCa z := ⟨_, rfl⟩
  obtain ⟨D, hD⟩ : ∃ D : Nat → Nat → Nat → Int, D = fun k => va_up B 33 (wrF z P u (B 33) k) := ⟨_, rfl⟩
  have D0 : D 0 = B := by
    rw [hD]
    funext k i
    by_cases q : k = 33
    · subst q
      show va_up B 33 (wrF z P u (B 33) 0) 33 i = _
      rw [va_eq]
      unfold wrF
      rw [if_neg (Nat.not_lt_zero i)]
    · show va_up B 33 (wrF z P u (B 33) 0) k i = _
      rw [va_ne q]
  have Dk : ∀ k j, j ≠ 33 → D k j = B j := fun k j q => by rw [hD]; exact va_ne q
  have D33 : ∀ k, D k 33 = wrF z P u (B 33) k := fun k => by rw [hD]; exact va_eq
  have hN0 := hM1.putI (va_up J1 55 ((0 : Nat) : Int))
  have u0 := hM1.1
  refine g_aload_n q_X10_write_27 rfl ?_
  refine g_iconst q_X10_write_28 ?_
  refine g_putM fp_X10_384 q_X10_write_29 (by repeat first | with_reducible assumption | with_reducible exact hput_s _ _ _ | refine (hput_n _ _ (by omega)).trans ?_ | exact hput_s _ _ _ | assumption) rfl rfl mset_55 ?_
  refine g_iconst q_X10_write_32 ?_
  refine g_istore_n (L' := [_, _, _, _, _, _, _]) q_X10_write_33 (by decide) rfl ?_
  refine g_loop2 (fun (y : Nat) (τ : AH) => y ≤ ro ∧ MC τ m (va_up J1 55 ((y * (co + 1) : Nat) : Int)) (D (y * (co + 1))) N ∧ eqOff τ1 τ (inb m 34)) (fun y τ => G Γ _ cX10_write _ _ 0 0 34 [some (.ref m), some (.int (ii bd)), some (.int (ii (u : Int))), some (.int (ii y)), none, none, none] [] τ) (fun y τ => ro - y) ?_ 0 (hput τ1 m (mdo m (va_up J1 55 ((0 : Nat) : Int)))) ⟨Nat.zero_le _, by rw [Nat.zero_mul, D0]; exact hN0, eqOff.rfl'.put ⟨by omega, by omega⟩ _⟩
  clear hN0 u0 D0
  rintro y τ ⟨hy, hM, hE⟩ ih
  have t0 := hM.1
  refine g_iload_n q_X10_write_34 rfl ?_
  refine g_aload_n q_X10_write_35 rfl ?_
  refine g_get fl_X10_217 q_X10_write_36 (by repeat first | with_reducible assumption | with_reducible exact hput_s _ _ _ | refine (hput_n _ _ (by omega)).trans ?_ | exact hput_s _ _ _ | assumption) rfl ?_
  refine g_topi (b := (ro : Int)) (by rw [hro]; exact j14) ?_
  have hyl : y * (co + 1) ≤ 42 := by
    have q1 : co + 1 ≤ 7 := by omega
    have q2 : y ≤ 6 := by omega
    have := Nat.mul_le_mul q2 q1
    omega
  refine g_icmp_ge (tgt := 179) q_X10_write_39 (by decide) ⟨by omega, by omega⟩ ⟨by omega, by omega⟩ (fun b1 => ?_) (fun b1 => ?_)
  · have e : y = ro := by omega
    subst e
    refine g_aload_n q_X10_write_179 rfl ?_
    refine g_get fl_X10_384 q_X10_write_180 (by repeat first | with_reducible assumption | with_reducible exact hput_s _ _ _ | refine (hput_n _ _ (by omega)).trans ?_ | exact hput_s _ _ _ | assumption) rfl ?_
    refine g_topi (b := ((y * (co + 1) : Nat) : Int)) (by rfl) ?_
    refine g_ireturn q_X10_write_183.1 rfl ?_
    have em : (zCo z + 1) * zRo z = y * (co + 1) := by rw [← hco, ← hro, Nat.mul_comm]
    rw [em]
    refine ⟨rfl, ⟨va_up J1 55 ((y * (co + 1) : Nat) : Int), D (y * (co + 1)), N, j0, hM, ?_⟩, hE1.trans hE (fun _ i => i)⟩
    rw [hD]
    refine hW1.wri hyl (fun i hi => ?_)
    unfold wrF
    split
    · rfl
    · exact hW1.2.2.2.2.2.2.1.2.2 i hi
  have hnxY : ∀ τ', MC τ' m (va_up J1 55 ((y * (co + 1) + (co + 1) : Nat) : Int)) (D (y * (co + 1) + (co + 1))) N → eqOff τ1 τ' (inb m 34) → _ := fun τ' a1 a2 => ih (y + 1) τ' ⟨by omega, by rw [Nat.succ_mul]; exact a1, a2⟩ (by omega)
  clear ih
  have hy5 : y * (co + 1) ≤ 35 := by
    have q1 : co + 1 ≤ 7 := by omega
    have q2 : y ≤ 5 := by omega
    have := Nat.mul_le_mul q2 q1
    omega
  obtain ⟨w0, hw0⟩ : ∃ w0, w0 = y * (co + 1) := ⟨_, rfl⟩
  rw [← hw0] at hM hnxY hy5
  refine g_iconst q_X10_write_42 ?_
  refine g_istore (L' := [_, _, _, _, _, _, _]) q_X10_write_43 (by decide) rfl ?_
  refine g_loop2 (fun (x : Nat) (τ : AH) => x ≤ co + 1 ∧ MC τ m (va_up J1 55 ((w0 + x : Nat) : Int)) (D (w0 + x)) N ∧ eqOff τ1 τ (inb m 34)) (fun x τ => G Γ _ cX10_write _ _ 0 0 45 [some (.ref m), some (.int (ii bd)), some (.int (ii (u : Int))), some (.int (ii y)), some (.int (ii x)), none, none] [] τ) (fun x τ => co + 1 - x) ?_ 0 τ ⟨Nat.zero_le _, hM, hE⟩
  clear hM hE t0
  rintro x τ ⟨hx, hM, hE⟩ ih
  have t0 := hM.1
  have u16 : τ.2 (m + 16) = some (ai 62115 (B 16)) := by rw [← Dk (w0 + x) 16 (by omega)]; exact hM.a16
  have u6 : τ.2 (m + 6) = some (ai 36 (B 6)) := by rw [← Dk (w0 + x) 6 (by omega)]; exact hM.a6
  have u33 : τ.2 (m + 33) = some (ai 42 (wrF z P u (B 33) (w0 + x))) := by rw [← D33]; exact hM.a33
  refine g_iload q_X10_write_45 rfl ?_
  refine g_aload_n q_X10_write_47 rfl ?_
  refine g_get fl_X10_214 q_X10_write_48 (by repeat first | with_reducible assumption | with_reducible exact hput_s _ _ _ | refine (hput_n _ _ (by omega)).trans ?_ | exact hput_s _ _ _ | assumption) rfl ?_
  refine g_topi (b := (co : Int)) (by rw [hco]; exact j13) ?_
  refine g_icmp_gt (tgt := 173) q_X10_write_51 (by decide) ⟨by omega, by omega⟩ ⟨by omega, by omega⟩ (fun b2 => ?_) (fun b2 => ?_)
  · have e : x = co + 1 := by omega
    subst e
    have hnx := hnxY τ hM hE
    refine g_iinc (L' := [_, _, _, _, _, _, _]) q_X10_write_173 rfl rfl ?_
    refine g_goto (tgt := 34) q_X10_write_176 (by decide) ?_
    exact g_fl hnx ⟨rfl, rfl, rfl, rfl, trivial⟩
  have hnx := fun τ' a1 a2 => ih (x + 1) τ' ⟨by omega, a1, a2⟩ (by omega)
  clear ih hnxY
  have hmod : (w0 + x) % (co + 1) = x := by rw [hw0, Nat.mul_comm, Nat.mul_add_mod, Nat.mod_eq_of_lt (by omega)]
  have hdiv : (w0 + x) / (co + 1) = y := by rw [hw0, Nat.mul_comm, Nat.mul_add_div (by omega), Nat.div_eq_of_lt (by omega), Nat.add_zero]
  have go : ∀ d : Int, d = (if x = co then 10 else k_sgn (zSO z (6 * y + x)).toNat) → G Γ miX10_write cX10_write (fun r σ' => r = some (.int (ii (((zCo z + 1) * zRo z : Nat) : Int))) ∧ SM σ m 0 len tx fa z l ((zCo z + 1) * zRo z) (wrF z P u wr ((zCo z + 1) * zRo z)) σ') noX 0 0 83 [some (.ref m), some (.int (ii bd)), some (.int (ii (u : Int))), some (.int (ii y)), some (.int (ii x)), none, none] [.int (ii d)] τ := by
    intro d hd
    obtain ⟨hit, hhit⟩ : ∃ hit : Nat → Prop, hit = fun c => x < co ∧ P (41 * c + u) = ((6 * y + x : Nat) : Int) := ⟨_, rfl⟩
    have fin : ∀ v, sgI hit n d v 0 → v = chr9 z P u (w0 + x) := by
      intro v hv
      unfold chr9
      rw [← hco, hmod, hdiv]
      by_cases q : x = co
      · rw [if_pos q]
        rw [if_pos q] at hd
        rcases hv with ⟨q1, -⟩ | ⟨c, -, -, q3, -⟩
        · rw [q1, hd]
        · rw [hhit] at q3
          exact absurd q3.1 (by omega)
      · rw [if_neg q]
        rw [if_neg q] at hd
        unfold wrC
        rw [← hn]
        rcases hv with ⟨q1, q2⟩ | ⟨c, q1, q2, q3, q4, q5⟩
        · rw [show aWho P n ((6 * y + x : Nat) : Int) u = -1 from fstN_none (fun c hc => decide_eq_false (fun q9 => q2 c (Nat.zero_le _) hc (by rw [hhit]; exact ⟨by omega, q9⟩))), if_pos rfl, q1, hd]
        · rw [show aWho P n ((6 * y + x : Nat) : Int) u = c from fstN_some q2 (decide_eq_true (by rw [hhit] at q3; exact q3.2)) (fun b hb => decide_eq_false (fun q9 => q4 b (Nat.zero_le _) hb (by rw [hhit]; exact ⟨by omega, q9⟩))), if_neg (by omega), q5]
    refine g_istore (L' := [_, _, _, _, _, _, _]) q_X10_write_83 (by decide) rfl ?_
    refine g_aload_n q_X10_write_85 rfl ?_
    refine g_get fl_X10_220 q_X10_write_86 (by repeat first | with_reducible assumption | with_reducible exact hput_s _ _ _ | refine (hput_n _ _ (by omega)).trans ?_ | exact hput_s _ _ _ | assumption) rfl ?_
    refine g_topi (b := (n : Int)) (by rw [hn]; exact j15) ?_
    refine g_iconst q_X10_write_89 ?_
    refine g_isub q_X10_write_90 ?_
    refine g_istore (L' := [_, _, _, _, _, _, _]) q_X10_write_91 (by decide) rfl ?_
    refine g_loop2 (fun (cc : Nat) (v : Int) => cc ≤ n ∧ sgI hit n d v cc) (fun cc v => G Γ _ cX10_write _ _ 0 0 93 [some (.ref m), some (.int (ii bd)), some (.int (ii (u : Int))), some (.int (ii y)), some (.int (ii x)), some (.int (ii v)), some (.int (ii ((cc : Int) - 1)))] [] τ) (fun cc v => cc) ?_ n d ⟨Nat.le_refl _, Or.inl ⟨rfl, fun c h1 h2 => absurd h2 (by omega)⟩⟩
    rintro cc v ⟨hcc1, hv⟩ ih
    refine g_iload q_X10_write_93 rfl ?_
    refine g_if_lt (tgt := 146) q_X10_write_95 (by decide) ⟨by omega, by omega⟩ (fun b3 => ?_) (fun b3 => ?_)
    · have e : cc = 0 := by omega
      subst e
      have ev := fin v hv
      refine g_aload_n q_X10_write_146 rfl ?_
      refine g_get fl_X10_116 q_X10_write_147 (by repeat first | with_reducible assumption | with_reducible exact hput_s _ _ _ | refine (hput_n _ _ (by omega)).trans ?_ | exact hput_s _ _ _ | assumption) rfl ?_
      refine g_aload_n q_X10_write_150 rfl ?_
      refine g_get fl_X10_384 q_X10_write_151 (by repeat first | with_reducible assumption | with_reducible exact hput_s _ _ _ | refine (hput_n _ _ (by omega)).trans ?_ | exact hput_s _ _ _ | assumption) rfl ?_
      refine g_topi (b := ((w0 + x : Nat) : Int)) (by rfl) ?_
      refine g_iload q_X10_write_154 rfl ?_
      refine g_iastore q_X10_write_156 (by repeat first | with_reducible assumption | with_reducible exact hput_s _ _ _ | refine (hput_n _ _ (by omega)).trans ?_ | exact hput_s _ _ _ | assumption) (by omega) (by omega) ?_
      refine g_aload_n q_X10_write_157 rfl ?_
      refine g_dup q_X10_write_158 rfl ?_
      refine g_get fl_X10_384 q_X10_write_159 (by repeat first | with_reducible assumption | with_reducible exact hput_s _ _ _ | refine (hput_n _ _ (by omega)).trans ?_ | exact hput_s _ _ _ | assumption) rfl ?_
      refine g_topi (b := ((w0 + x : Nat) : Int)) (by rfl) ?_
      refine g_iconst q_X10_write_162 ?_
      refine g_iadd q_X10_write_163 ?_
      refine g_putM fp_X10_384 q_X10_write_164 (by repeat first | with_reducible assumption | with_reducible exact hput_s _ _ _ | refine (hput_n _ _ (by omega)).trans ?_ | exact hput_s _ _ _ | assumption) rfl rfl mset_55 ?_
      have hM3 := (hM.putA 33 (by omega) (wrF z P u (B 33) (w0 + x + 1))).putI (va_up J1 55 ((w0 + (x + 1) : Nat) : Int))
      have eD : va_up (D (w0 + x)) 33 (wrF z P u (B 33) (w0 + x + 1)) = D (w0 + (x + 1)) := by
        funext k
        by_cases q : k = 33
        · rw [q, va_eq, D33]; rfl
        · rw [va_ne q, Dk _ _ q, Dk _ _ q]
      rw [eD] at hM3
      have eW : va_up (wrF z P u (B 33) (w0 + x)) (w0 + x) v = wrF z P u (B 33) (w0 + x + 1) := by
        funext k
        unfold wrF
        by_cases q : k = w0 + x
        · rw [q, va_eq, if_pos (by omega), ev]
        · rw [va_ne q]
          by_cases q2 : k < w0 + x
          · rw [if_pos q2, if_pos (by omega)]
          · rw [if_neg q2, if_neg (by omega)]
      have eI : va_up (va_up J1 55 ((w0 + x : Nat) : Int)) 55 (((w0 + x : Nat) : Int) + 1) = va_up J1 55 ((w0 + (x + 1) : Nat) : Int) := by
        funext k
        by_cases q : k = 55
        · rw [q, va_eq, va_eq]; omega
        · rw [va_ne q, va_ne q, va_ne q]
      refine g_eq (σ2 := hput (hput τ (m + 33) (ai 42 (wrF z P u (B 33) (w0 + x + 1)))) m (mdo m (va_up J1 55 ((w0 + (x + 1) : Nat) : Int)))) rfl rfl (by rw [← eW, ← eI]; rfl) ?_
      have hfin := hnx _ hM3 ((hE.put ⟨by omega, by omega⟩ _).put ⟨by omega, by omega⟩ _)
      refine g_iinc (L' := [_, _, _, _, _, _, _]) q_X10_write_167 rfl rfl ?_
      refine g_goto (tgt := 45) q_X10_write_170 (by decide) ?_
      exact g_fl hfin ⟨rfl, rfl, rfl, rfl, rfl, trivial⟩
    obtain ⟨c, hc⟩ : ∃ c, cc = c + 1 := ⟨cc - 1, by omega⟩
    subst hc
    have no : sgI hit n d v c → G Γ miX10_write cX10_write (fun r σ' => r = some (.int (ii (((zCo z + 1) * zRo z : Nat) : Int))) ∧ SM σ m 0 len tx fa z l ((zCo z + 1) * zRo z) (wrF z P u wr ((zCo z + 1) * zRo z)) σ') noX 0 0 136 [some (.ref m), some (.int (ii bd)), some (.int (ii (u : Int))), some (.int (ii y)), some (.int (ii x)), some (.int (ii v)), some (.int (ii (((c + 1 : Nat) : Int) - 1)))] [] τ := fun q => by
      have hnx2 := ih c v ⟨by omega, q⟩ (Nat.lt_succ_self c)
      refine g_iload q_X10_write_136 rfl ?_
      refine g_istore (L' := [_, _, _, _, _, _, _]) q_X10_write_138 (by decide) rfl ?_
      refine g_iinc (L' := [_, _, _, _, _, _, _]) q_X10_write_140 rfl rfl ?_
      refine g_eq (L2 := [some (.ref m), some (.int (ii bd)), some (.int (ii (u : Int))), some (.int (ii y)), some (.int (ii x)), some (.int (ii v)), some (.int (ii ((c : Int) - 1)))]) (by rw [show ((c + 1 : Nat) : Int) - 1 + -1 = (c : Int) - 1 by omega]) rfl rfl ?_
      refine g_goto (tgt := 93) q_X10_write_143 (by decide) ?_
      exact hnx2
    refine g_iload q_X10_write_98 rfl ?_
    refine g_aload_n q_X10_write_100 rfl ?_
    refine g_get fl_X10_214 q_X10_write_101 (by repeat first | with_reducible assumption | with_reducible exact hput_s _ _ _ | refine (hput_n _ _ (by omega)).trans ?_ | exact hput_s _ _ _ | assumption) rfl ?_
    refine g_topi (b := (co : Int)) (by rw [hco]; exact j13) ?_
    refine g_icmp_ge (tgt := 136) q_X10_write_104 (by decide) ⟨by omega, by omega⟩ ⟨by omega, by omega⟩ (fun b4 => ?_) (fun b4 => ?_)
    · exact no (hv.no (by rw [hhit]; exact fun q => by omega))
    have hg1 : (0 ≤ P (41 * c + u) ∧ P (41 * c + u) < 36) ∧ _ := (hgo c (by omega)).gin wf (by omega) u (by omega)
    refine g_aload_n q_X10_write_107 rfl ?_
    refine g_aload_n q_X10_write_108 rfl ?_
    refine g_get fl_X10_314 q_X10_write_109 (by repeat first | with_reducible assumption | with_reducible exact hput_s _ _ _ | refine (hput_n _ _ (by omega)).trans ?_ | exact hput_s _ _ _ | assumption) rfl ?_
    refine g_topi (b := (kp : Int)) (by exact j35) ?_
    refine g_iload q_X10_write_112 rfl ?_
    refine g_topi (b := (c : Int)) (by omega) ?_
    refine g_iload_n q_X10_write_114 rfl ?_
    refine g_callV (rc' := 0) (rs' := 0) (As := [_, _, _]) cs_X10_263 q_X10_write_115 (sp_wayAt hΓ t0 u16 kp c u (by omega) (by omega) (by omega)) rfl (by repeat first | with_reducible assumption | with_reducible exact hput_s _ _ _ | refine (hput_n _ _ (by omega)).trans ?_ | exact hput_s _ _ _ | assumption) rfl rfl rfl rfl (Nat.le_of_ble_eq_true rfl) (by decide) (by decide) (by decide) (fun _ _ h => h.elim) (k_ri ?_)
    refine g_topi (b := P (41 * c + u)) (hrow _ (by omega)) ?_
    refine g_bipush q_X10_write_118 bp_6 ?_
    refine g_iload_n q_X10_write_120 rfl ?_
    refine g_imul q_X10_write_121 ?_
    refine g_iload q_X10_write_122 rfl ?_
    refine g_iadd q_X10_write_124 ?_
    refine g_topi (b := ((6 * y + x : Nat) : Int)) (by omega) ?_
    refine g_icmp_ne (tgt := 136) q_X10_write_125 (by decide) ⟨by omega, by omega⟩ ⟨by omega, by omega⟩ (fun b5 => ?_) (fun b5 => ?_)
    · exact no (hv.no (by rw [hhit]; exact fun q => b5 q.2))
    · have hnx2 := ih c (48 + (c : Int)) ⟨by omega, Or.inr ⟨c, Nat.le_refl _, by omega, by rw [hhit]; exact ⟨by omega, by omega⟩, fun b h1 h2 => absurd h2 (by omega), rfl⟩⟩ (Nat.lt_succ_self c)
      refine g_bipush q_X10_write_128 bp_48 ?_
      refine g_iload q_X10_write_130 rfl ?_
      refine g_iadd q_X10_write_132 ?_
      refine g_topi (b := (48 + (c : Int))) (by omega) ?_
      refine g_goto (tgt := 138) q_X10_write_133 (by decide) ?_
      refine g_istore (L' := [_, _, _, _, _, _, _]) q_X10_write_138 (by decide) rfl ?_
      refine g_iinc (L' := [_, _, _, _, _, _, _]) q_X10_write_140 rfl rfl ?_
      refine g_eq (L2 := [some (.ref m), some (.int (ii bd)), some (.int (ii (u : Int))), some (.int (ii y)), some (.int (ii x)), some (.int (ii (48 + (c : Int)))), some (.int (ii ((c : Int) - 1)))]) (by rw [show ((c + 1 : Nat) : Int) - 1 + -1 = (c : Int) - 1 by omega]) rfl rfl ?_
      refine g_goto (tgt := 93) q_X10_write_143 (by decide) ?_
      exact hnx2
  refine g_iload q_X10_write_54 rfl ?_
  refine g_aload_n q_X10_write_56 rfl ?_
  refine g_get fl_X10_214 q_X10_write_57 (by repeat first | with_reducible assumption | with_reducible exact hput_s _ _ _ | refine (hput_n _ _ (by omega)).trans ?_ | exact hput_s _ _ _ | assumption) rfl ?_
  refine g_topi (b := (co : Int)) (by rw [hco]; exact j13) ?_
  refine g_icmp_ne (tgt := 68) q_X10_write_60 (by decide) ⟨by omega, by omega⟩ ⟨by omega, by omega⟩ (fun b3 => ?_) (fun b3 => ?_)
  · have hgi : gIn (zCo z) (zRo z) (6 * y + x) := by unfold gIn; omega
    have hso := hzJ.2.2.1 (6 * y + x) hgi
    have hsr := wf.1.2.1 (6 * y + x)
    refine g_aload_n q_X10_write_68 rfl ?_
    refine g_get fl_X10_30 q_X10_write_69 (by repeat first | with_reducible assumption | with_reducible exact hput_s _ _ _ | refine (hput_n _ _ (by omega)).trans ?_ | exact hput_s _ _ _ | assumption) rfl ?_
    refine g_bipush q_X10_write_72 bp_6 ?_
    refine g_iload_n q_X10_write_74 rfl ?_
    refine g_imul q_X10_write_75 ?_
    refine g_iload q_X10_write_76 rfl ?_
    refine g_iadd q_X10_write_78 ?_
    refine g_topi (b := ((6 * y + x : Nat) : Int)) (by omega) ?_
    refine g_iaload q_X10_write_79 (by repeat first | with_reducible assumption | with_reducible exact hput_s _ _ _ | refine (hput_n _ _ (by omega)).trans ?_ | exact hput_s _ _ _ | assumption) (by omega) (by omega) ?_
    refine g_topi (b := (((zSO z (6 * y + x)).toNat : Nat) : Int)) (by rw [Int.toNat_natCast, hso]; omega) ?_
    refine g_callS (rc' := 0) (rs' := 0) (As := [_]) cs_X10_387 q_X10_write_80 (sp_signOf hΓ (zSO z (6 * y + x)).toNat (by omega)) rfl rfl rfl (Nat.le_of_ble_eq_true rfl) (by decide) (by decide) (by decide) (fun _ _ h => h.elim) (k_ri ?_)
    exact go _ (by rw [if_neg (by omega)])
  · refine g_bipush q_X10_write_63 bp_10 ?_
    refine g_goto (tgt := 83) q_X10_write_65 (by decide) ?_
    exact go _ (by rw [if_pos (by omega)])
end MPL6

