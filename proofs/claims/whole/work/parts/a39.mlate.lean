/-! the reference: late, slack, critical (written by gena5.py) -/
section MPL7
variable {Γ : GT} {σ : AH} {m : Nat} {len : Nat} {tx : Nat → Int} {fa e0 : Int} {z : PS} {l : List (Int × Int × Int)} {wl : Nat} {wr : Nat → Int}
/-- rows of visits have no meaning between calls -/
theorem SM.vi {τ ω : AH} {e : Nat} {f27 f28 f29 f30 : Nat → Int} (hS : SM σ m e len tx fa z l wl wr τ) (hv : vcO τ ω m f27 f28 f29 f30) : SM σ m e len tx fa z l wl wr ω := by
  obtain ⟨⟨I, A, N, i0, hM, hW⟩, hE⟩ := hS
  obtain ⟨hE2, w27, w28, w29, w30⟩ := hv
  refine ⟨⟨I, va_up (va_up (va_up (va_up A 27 f27) 28 f28) 29 f29) 30 f30, N, i0, hM.frame hE2 (by omega) (fun k hk => ?_) (fun k h1 h2 _ => ?_), hW⟩, hE.trans hE2 (fun a i => by unfold inb at *; omega)⟩
  · rw [va_ne (by omega), va_ne (by omega), va_ne (by omega), va_ne (by omega)]
  · have : k = 27 ∨ k = 28 ∨ k = 29 ∨ k = 30 := by omega
    rcases this with e | e | e | e <;> subst e
    · exact w27
    · exact w28
    · exact w29
    · exact w30
theorem vcO.cells {σ ω : AH} {f27 f28 f29 f30 : Nat → Int} (h : vcO σ ω m f27 f28 f29 f30) : vcO ω ω m f27 f28 f29 f30 := ⟨eqOff.rfl', h.2⟩
theorem vcO.trans {σ τ ω : AH} {f27 f28 f29 f30 g27 g28 g29 g30 : Nat → Int} (h : vcO σ τ m f27 f28 f29 f30) (h2 : vcO τ ω m g27 g28 g29 g30) : vcO σ ω m g27 g28 g29 g30 := ⟨h.1.trans h2.1 (fun a i => i), h2.2⟩
theorem lsQ.of {σ τ ω : AH} {P : Nat → Int} {n sd ti nn : Nat} (h : lsQ σ ω m P n sd ti nn) (hE : eqOff τ σ (inb (m + 27) 4)) : ∃ f27 f28 f29 f30, vcO τ ω m f27 f28 f29 f30 := by
  obtain ⟨f27, f28, f29, f30, vn, T, hv, -⟩ := h
  exact ⟨f27, f28, f29, f30, hE.trans hv.1 (fun a i => i), hv.2⟩
/-- a plan's ways: no two in one cell -/
theorem plan_NC (w : WFz z) {P C : Nat → Int} (hgo : ∀ c, c < zCa z → goW z c (fun t => P (41 * c + t)) (C c)) (hcc : ccN P (zCa z) (mxN C (zCa z)).toNat = 0) : NC P (zCa z) := by
  refine ⟨fun a b t ha hb hab ht => ?_, fun c t hc ht => ((hgo c hc).gin w hc t ht).1.1⟩
  by_cases q : a < b
  · exact plan_ne w hgo hcc q hb ht
  · exact fun e => plan_ne w hgo hcc (show b < a by omega) ha ht e.symm
theorem plan_rg (w : WFz z) {P C : Nat → Int} (hgo : ∀ c, c < zCa z → goW z c (fun t => P (41 * c + t)) (C c)) : ∀ i, i < 41 * zCa z → rg (P i) := fun i hi => by
  have := (hgo (i / 41) (by omega)).gin w (by omega) (i % 41) (by omega)
  have e : 41 * (i / 41) + i % 41 = i := by omega
  have h1 : 0 ≤ P (41 * (i / 41) + i % 41) ∧ P (41 * (i / 41) + i % 41) < 36 := this.1
  rw [e] at h1
  unfold rg
  omega
/-- others are late by a longer stop where they are by a shorter one -/
theorem aLate_nn {P C : Nat → Int} {n c sd ti a b : Nat} (hN : NC P n) {vn : Nat → Nat} {T : Nat → Nat → Nat} (hV : VT P n vn T) (hs : sd < n) (hc : c < n) (hab : a ≤ b) : aLate P C n c sd ti a ≤ aLate P C n c sd ti b := by
  unfold aLate
  rw [sS_last hV hc, sS_last hV hc]
  have := sS_nn (ti := ti) hV hN hs hab hc (i := vn c - 1) (by have := (hV c hc).1; omega)
  omega
theorem aLate_n0 {P C : Nat → Int} {n c sd ti a : Nat} (hN : NC P n) {vn : Nat → Nat} {T : Nat → Nat → Nat} (hV : VT P n vn T) (hs : sd < n) (hc : c < n) (hC : (T c (vn c - 1) : Int) = C c) : 0 ≤ aLate P C n c sd ti a := by
  unfold aLate
  rw [sS_last hV hc, ← hC]
  have := (sS_sol hV hN hs (ti := ti) (nn := a)).1 c hc (vn c - 1) (by have := (hV c hc).1; omega)
  have this : (T c (vn c - 1) : Int) ≤ cmS P n sd ti a (T c (vn c - 1)) c := this
  omega
/-- a sum of no negatives is one of them alone where all others are 0 -/
theorem sum_one {f : Nat → Int} {c : Nat} : ∀ {n : Nat}, c < n → (∀ k, k < n → 0 ≤ f k) → (sumN f n = f c ↔ ∀ k, k < n → k ≠ c → f k = 0)
  | 0, h, _ => absurd h (Nat.not_lt_zero c)
  | n + 1, h, h0 => by
    rw [sumN]
    have hn := h0 n (by omega)
    have z : ∀ k, (∀ j, j < k → 0 ≤ f j) → 0 ≤ sumN f k ∧ (sumN f k = 0 ↔ ∀ j, j < k → f j = 0) := fun k => by
      induction k with
      | zero => exact fun _ => ⟨Int.le_refl _, fun _ j hj => absurd hj (Nat.not_lt_zero j), fun _ => rfl⟩
      | succ k ih =>
        intro q
        obtain ⟨i1, i2⟩ := ih (fun j hj => q j (by omega))
        have qk := q k (by omega)
        rw [sumN]
        refine ⟨by omega, fun e j hj => ?_, fun e => ?_⟩
        · by_cases ej : j = k
          · rw [ej]; omega
          · exact i2.mp (by omega) j (by omega)
        · have a1 := i2.mpr (fun j hj => e j (by omega))
          have a2 := e k (by omega)
          omega
    by_cases e : c = n
    · rw [e]
      obtain ⟨z1, z2⟩ := z n (fun j hj => h0 j (by omega))
      constructor
      · intro q k hk hkn
        exact z2.mp (by omega) k (by omega)
      · intro q
        have := z2.mpr (fun j hj => q j (by omega) (by omega))
        omega
    · have ih := sum_one (f := f) (c := c) (n := n) (by omega) (fun k hk => h0 k (by omega))
      have hge : f c ≤ sumN f n := by
        have key : ∀ k, c < k → (∀ j, j < k → 0 ≤ f j) → f c ≤ sumN f k := fun k => by
          induction k with
          | zero => intro q; exact absurd q (Nat.not_lt_zero c)
          | succ k ih =>
            intro q q2
            rw [sumN]
            by_cases ek : c = k
            · rw [ek]
              have := (z k (fun j hj => q2 j (by omega))).1
              omega
            · have := ih (by omega) (fun j hj => q2 j (by omega))
              have := q2 k (by omega)
              omega
        exact key n (by omega) (fun j hj => h0 j (by omega))
      constructor
      · intro q k hk hkc
        by_cases ek : k = n
        · rw [ek]; omega
        · exact ih.mp (by omega) k (by omega) hkc
      · intro q
        have a1 := ih.mpr (fun k hk hkc => q k (by omega) hkc)
        have a2 := q n (by omega) (fun e2 => e e2.symm)
        omega
theorem slN_s {P C : Nat → Int} {n c ti : Nat} (k : Nat) : slN P C n c ti (k + 1) = if aLsum P C n c ti (k + 1) = aLate P C n c c ti (k + 1) then ((k + 1 : Nat) : Int) else slN P C n c ti k := rfl
/-- up to k nobody else is late, from k + 1 on somebody is -/
theorem slN_up {P C : Nat → Int} {n c ti : Nat} {q : Nat → Prop} (hq : ∀ k, aLsum P C n c ti k = aLate P C n c c ti k ↔ q k) {k : Nat} (h1 : 1 ≤ k → q k) : ∀ d, (∀ j, k < j → j ≤ k + d → ¬ q j) → slN P C n c ti (k + d) = k
  | 0, _ => by
    cases k with
    | zero => rfl
    | succ k =>
      show slN P C n c ti (k + 1) = _
      rw [slN_s, if_pos ((hq (k + 1)).mpr (h1 (by omega)))]
  | d + 1, h => by
    show slN P C n c ti (k + d + 1) = _
    rw [slN_s, if_neg (fun e => h (k + d + 1) (by omega) (by omega) ((hq _).mp e))]
    exact slN_up hq h1 d (fun j q1 q2 => h j q1 (by omega))
theorem sp_mlate (hΓ : Gd Γ) (hX : MX σ m e0 len tx fa z l wl wr) (bd : Int) (c : Int) (s : Int) (t : Int) (m9 : Int) (hbd : rg bd) (hc : rg c) (hs : rg s) (ht : rg t) (hm9 : rg m9) : Sp Γ miX10_late 0 0 [.ref m, .int (ii bd), .int (ii c), .int (ii s), .int (ii t), .int (ii m9)] σ (mQ (eQ (cOK z c && cOK z s) (tOK t && nOK m9) bd z) (aLate (pPZ z bd) (pCZ z bd) (zCa z) c.toNat s.toNat t.toNat m9.toNat) (SM σ m (eQ (cOK z c && cOK z s) (tOK t && nOK m9) bd z) len tx fa z l wl wr)) noX := by
  obtain ⟨I, A, N, -, h, hW⟩ := hX
  have h0 := h.1
  have hz := hW.2.2.1.1
  have wf := hW.2.2.1.2
  have n5 := wf.1.1.2.2
  obtain ⟨e, hEe⟩ : ∃ e, e = eQ (cOK z c && cOK z s) (tOK t && nOK m9) bd z := ⟨_, rfl⟩
  have he4 : e ≤ 4 := by rw [hEe]; exact eQ_le _ _ _ _
  rw [← hEe]
  have fin : ∀ τ J B, eqOff σ τ (inb m 34) → MC τ m J B N → MW J B N len tx fa z l wl wr → (e = 0 → PLd J B z bd) → G Γ miX10_late cX10_late (mQ e (aLate (pPZ z bd) (pCZ z bd) (zCa z) c.toNat s.toNat t.toNat m9.toNat) (SM σ m e len tx fa z l wl wr)) noX 0 0 55 [some (.ref m), some (.int (ii bd)), some (.int (ii c)), some (.int (ii s)), some (.int (ii t)), some (.int (ii m9))] [.int (ii (e : Int)), .ref m] τ := by
    intro τ J B hE hM hWB hP
    have t0 := hM.1
    refine g_putM fp_X10_122 q_X10_late_55 (by repeat first | with_reducible assumption | with_reducible exact hput_s _ _ _ | refine (hput_n _ _ (by omega)).trans ?_ | exact hput_s _ _ _ | assumption) rfl rfl mset_0 ?_
    refine g_aload_n q_X10_late_58 rfl ?_
    refine g_get fl_X10_122 q_X10_late_59 (by repeat first | with_reducible assumption | with_reducible exact hput_s _ _ _ | refine (hput_n _ _ (by omega)).trans ?_ | exact hput_s _ _ _ | assumption) rfl ?_
    refine g_topi (b := (e : Int)) (by rfl) ?_
    refine g_if_le (tgt := 67) q_X10_late_62 (by decide) ⟨by omega, by omega⟩ (fun b9 => ?_) (fun b9 => ?_)
    case refine_2 =>
      refine g_iconst q_X10_late_65 ?_
      refine g_ireturn q_X10_late_66.1 rfl ?_
      exact ⟨by rw [if_neg (by omega)], SM.w hE hM hWB e⟩
    have ee : e = 0 := by omega
    subst ee
    obtain ⟨kp, hkp, j35, ha, hrow, hgo, hsum, hsum0, hrow0, hcc⟩ := hP rfl
    have hS := SM.w hE hM hWB 0
    have hM1 := hM.putI (va_up J 0 ((0 : Nat) : Int))
    obtain ⟨τ1, hτ1⟩ : ∃ τ1, τ1 = hput τ m (mdo m (va_up J 0 ((0 : Nat) : Int))) := ⟨_, rfl⟩
    rw [← hτ1] at hS hM1 ⊢
    clear hτ1 hE t0 hP
    have hrB := hWB.2.2.2.2.2.2.2
    have hzB := hWB.2.2.1.1
    have j35 : va_up J 0 ((0 : Nat) : Int) 35 = kp := j35
    have j15 : va_up J 0 ((0 : Nat) : Int) 15 = zCa z := hzB.1.2.2
    obtain ⟨J1, hJ1⟩ : ∃ J1, J1 = va_up J 0 ((0 : Nat) : Int) := ⟨_, rfl⟩
    rw [← hJ1] at j35 j15 hM1
    have hzJ : MZ J1 B z := by rw [hJ1]; exact hzB.cg ⟨rfl, rfl, rfl⟩ rfl rfl rfl
    clear hJ1
    have u0 := hM1.1
    have u16 := hM1.a16
    obtain ⟨eq1, eq2⟩ := eQ_z hEe.symm
    unfold mQ
    rw [if_pos rfl]
    rw [Bool.and_eq_true] at eq1
    have cc1 := of_decide_eq_true eq1.1
    have cc2 := of_decide_eq_true eq1.2
    have eq3 := eq2.1
    rw [Bool.and_eq_true] at eq3
    have ct := of_decide_eq_true eq3.1
    have cn := of_decide_eq_true eq3.2
    obtain ⟨c', hc'⟩ : ∃ k : Nat, c = k := ⟨c.toNat, by omega⟩
    obtain ⟨s', hs'⟩ : ∃ k : Nat, s = k := ⟨s.toNat, by omega⟩
    obtain ⟨t', ht'⟩ : ∃ k : Nat, t = k := ⟨t.toNat, by omega⟩
    obtain ⟨n', hn'⟩ : ∃ k : Nat, m9 = k := ⟨m9.toNat, by omega⟩
    subst hc' hs' ht' hn'
    rw [Int.toNat_natCast, Int.toNat_natCast, Int.toNat_natCast, Int.toNat_natCast]
    obtain ⟨P, hP⟩ : ∃ P, P = pPZ z bd := ⟨_, rfl⟩
    obtain ⟨C, hC⟩ : ∃ C, C = pCZ z bd := ⟨_, rfl⟩
    rw [← hP] at hrow
    rw [← hP, ← hC] at hgo hcc
    rw [← hP, ← hC]
    have hNC := plan_NC wf hgo hcc
    have hPr := plan_rg wf hgo
    have hct : ∀ c, c < zCa z → (ctN (fun t => P (41 * c + t)) 40 : Int) = C c := fun c hc => (hgo c hc).2.2.2.2.1
    have hv0 : vcO τ1 τ1 m (B 27) (B 28) (B 29) (B 30) := ⟨eqOff.rfl', hM1.a27, hM1.a28, hM1.a29, hM1.a30⟩
    refine g_aload_n q_X10_late_67 rfl ?_
    refine g_iload_n q_X10_late_68 rfl ?_
    refine g_iload q_X10_late_69 rfl ?_
    refine g_iload q_X10_late_71 rfl ?_
    refine g_callV (rc' := 0) (rs' := 0) (As := [_, _, _]) cs_X10_347 q_X10_late_73 (sp_laysStop hΓ u0 u16 hv0 j35 j15 hkp n5 hrow hPr hNC (sd := s') (ti := t') (nn := n') (by omega) (by omega) (by omega)) rfl (by repeat first | with_reducible assumption | with_reducible exact hput_s _ _ _ | refine (hput_n _ _ (by omega)).trans ?_ | exact hput_s _ _ _ | assumption) rfl rfl rfl rfl (Nat.le_of_ble_eq_true rfl) (by decide) (by decide) (by decide) (fun _ _ h => h.elim) (fun v ω hq => ?_)
    obtain ⟨rfl, hq⟩ := hq
    obtain ⟨f27, f28, f29, f30, hv⟩ := hq.of eqOff.rfl'
    have w0 := (hv.1.2 m (by unfold inb; omega)).trans u0
    refine g_aload_n q_X10_late_76 rfl ?_
    refine g_iload_n q_X10_late_77 rfl ?_
    refine g_callV (rc' := 0) (rs' := 0) (As := [_]) cs_X10_351 q_X10_late_78 (sp_lateBy hΓ w0 hq n5 (by omega) (by omega) hct c' (by omega)) rfl (by repeat first | with_reducible assumption | with_reducible exact hput_s _ _ _ | refine (hput_n _ _ (by omega)).trans ?_ | exact hput_s _ _ _ | assumption) rfl rfl rfl rfl (Nat.le_of_ble_eq_true rfl) (by decide) (by decide) (by decide) (fun _ _ h => h.elim) (k_ri ?_)
    refine g_ireturn q_X10_late_81.1 rfl ?_
    exact ⟨rfl, hS.vi hv⟩
  refine Sp_of (L := [_, _, _, _, _, _]) hΓ (by decide +kernel) rfl (Nat.le_of_ble_eq_true rfl) rfl ?_
  have bad : (cOK z c && cOK z s) = false → G Γ miX10_late cX10_late (mQ e (aLate (pPZ z bd) (pCZ z bd) (zCa z) c.toNat s.toNat t.toNat m9.toNat) (SM σ m e len tx fa z l wl wr)) noX 0 0 17 [some (.ref m), some (.int (ii bd)), some (.int (ii c)), some (.int (ii s)), some (.int (ii t)), some (.int (ii m9))] [.ref m] σ := fun q => by
    have e1 : e = 1 := by rw [hEe]; exact eQ_f q
    refine g_iconst q_X10_late_17 ?_
    refine g_goto (tgt := 55) q_X10_late_18 (by decide) ?_
    refine g_topi (b := (e : Int)) (by rw [e1]; rfl) ?_
    exact fin σ I A eqOff.rfl' h hW (fun q => by omega)
  refine g_aload_n q_X10_late_0 rfl ?_
  refine g_aload_n q_X10_late_1 rfl ?_
  refine g_iload_n q_X10_late_2 rfl ?_
  refine g_callV (rc' := 0) (rs' := 0) (As := [_]) cs_X10_237 q_X10_late_3 (sp_isCart hΓ h0 hz.1.2.2 n5 c hc) rfl (by repeat first | with_reducible assumption | with_reducible exact hput_s _ _ _ | refine (hput_n _ _ (by omega)).trans ?_ | exact hput_s _ _ _ | assumption) rfl rfl rfl rfl (Nat.le_of_ble_eq_true rfl) (by decide) (by decide) (by decide) (fun _ _ h => h.elim) (k_rb ?_)
  refine g_if_eq (tgt := 17) q_X10_late_6 (by decide) (bi_rg _) (fun b1 => ?_) (fun b1 => ?_)
  · exact bad (by rw [show cOK z c = false from bi_f b1]; rfl)
  have c1 : cOK z c = true := bi_t b1
  refine g_aload_n q_X10_late_9 rfl ?_
  refine g_iload_n q_X10_late_10 rfl ?_
  refine g_callV (rc' := 0) (rs' := 0) (As := [_]) cs_X10_237 q_X10_late_11 (sp_isCart hΓ h0 hz.1.2.2 n5 s hs) rfl (by repeat first | with_reducible assumption | with_reducible exact hput_s _ _ _ | refine (hput_n _ _ (by omega)).trans ?_ | exact hput_s _ _ _ | assumption) rfl rfl rfl rfl (Nat.le_of_ble_eq_true rfl) (by decide) (by decide) (by decide) (fun _ _ h => h.elim) (k_rb ?_)
  refine g_if_ne (tgt := 21) q_X10_late_14 (by decide) (bi_rg _) (fun b2 => ?_) (fun b2 => ?_)
  case refine_2 => exact bad (by rw [show cOK z s = false from bi_f (show bi (decide (0 ≤ s ∧ s < (zCa z : Int))) = 0 by omega), Bool.and_false])
  have c2 : cOK z s = true := bi_t b2
  have c3 : (cOK z c && cOK z s) = true := by rw [c1, c2]; rfl
  have go : G Γ miX10_late cX10_late (mQ e (aLate (pPZ z bd) (pCZ z bd) (zCa z) c.toNat s.toNat t.toNat m9.toNat) (SM σ m e len tx fa z l wl wr)) noX 0 0 49 [some (.ref m), some (.int (ii bd)), some (.int (ii c)), some (.int (ii s)), some (.int (ii t)), some (.int (ii m9))] (.int (ii (bi (tOK t && nOK m9))) :: .ref m :: .ref m :: []) σ := by
    refine g_iload_n q_X10_late_49 rfl ?_
    refine g_iconst q_X10_late_50 ?_
    refine g_iconst q_X10_late_51 ?_
    refine g_callV (rc' := 0) (rs' := 0) (As := [_, _, _, _]) cs_X10_337 q_X10_late_52 (sp_wrongPlan hΓ h hW (tOK t && nOK m9) bd hbd 2 3 (by decide) (by decide)) rfl (by repeat first | with_reducible assumption | with_reducible exact hput_s _ _ _ | refine (hput_n _ _ (by omega)).trans ?_ | exact hput_s _ _ _ | assumption) rfl rfl rfl rfl (Nat.le_of_ble_eq_true rfl) (by decide) (by decide) (by decide) (fun _ _ h => h.elim) (fun v τ hq => ?_)
    rw [← show e = _ from hEe.trans (eQ_t c3)] at hq
    obtain ⟨rfl, hE, J, B, hM, hWB, hP⟩ := hq
    exact fin τ J B hE hM hWB hP
  refine g_aload_n q_X10_late_21 rfl ?_
  refine g_iload q_X10_late_22 rfl ?_
  refine g_iconst q_X10_late_24 ?_
  refine g_bipush q_X10_late_25 bp_40 ?_
  refine g_callS (rc' := 0) (rs' := 0) (As := [_, _, _]) cs_X10_229 q_X10_late_27 (sp_isIn hΓ t 0 40 ht ⟨by decide, by decide⟩ ⟨by decide, by decide⟩) rfl rfl rfl (Nat.le_of_ble_eq_true rfl) (by decide) (by decide) (by decide) (fun _ _ h => h.elim) (k_rb ?_)
  refine g_if_eq (tgt := 48) q_X10_late_30 (by decide) (bi_rg _) (fun b3 => ?_) (fun b3 => ?_)
  · have q : tOK t = false := bi_f b3
    refine g_iconst q_X10_late_48 ?_
    rw [q, Bool.false_and] at go
    exact go
  have q3 : tOK t = true := bi_t b3
  rw [q3, Bool.true_and] at go
  refine g_iload q_X10_late_33 rfl ?_
  refine g_iconst q_X10_late_35 ?_
  refine g_bipush q_X10_late_36 bp_20 ?_
  refine g_callS (rc' := 0) (rs' := 0) (As := [_, _, _]) cs_X10_229 q_X10_late_38 (sp_isIn hΓ m9 1 20 hm9 ⟨by decide, by decide⟩ ⟨by decide, by decide⟩) rfl rfl rfl (Nat.le_of_ble_eq_true rfl) (by decide) (by decide) (by decide) (fun _ _ h => h.elim) (k_rb ?_)
  refine g_if_eq (tgt := 48) q_X10_late_41 (by decide) (bi_rg _) (fun b4 => ?_) (fun b4 => ?_)
  · have q : nOK m9 = false := bi_f b4
    refine g_iconst q_X10_late_48 ?_
    rw [q] at go
    exact go
  · have q : nOK m9 = true := bi_t b4
    refine g_iconst q_X10_late_44 ?_
    refine g_goto (tgt := 49) q_X10_late_45 (by decide) ?_
    rw [q] at go
    exact go

theorem sp_mslack (hΓ : Gd Γ) (hX : MX σ m e0 len tx fa z l wl wr) (bd : Int) (c : Int) (t : Int) (hbd : rg bd) (hc : rg c) (ht : rg t) : Sp Γ miX10_slack 0 0 [.ref m, .int (ii bd), .int (ii c), .int (ii t)] σ (mQ (eQ (cOK z c) (tOK t) bd z) (slN (pPZ z bd) (pCZ z bd) (zCa z) c.toNat t.toNat 20) (SM σ m (eQ (cOK z c) (tOK t) bd z) len tx fa z l wl wr)) noX := by
  obtain ⟨I, A, N, -, h, hW⟩ := hX
  have h0 := h.1
  have hz := hW.2.2.1.1
  have wf := hW.2.2.1.2
  have n5 := wf.1.1.2.2
  obtain ⟨e, hEe⟩ : ∃ e, e = eQ (cOK z c) (tOK t) bd z := ⟨_, rfl⟩
  have he4 : e ≤ 4 := by rw [hEe]; exact eQ_le _ _ _ _
  rw [← hEe]
  have fin : ∀ τ J B, eqOff σ τ (inb m 34) → MC τ m J B N → MW J B N len tx fa z l wl wr → (e = 0 → PLd J B z bd) → G Γ miX10_slack cX10_slack (mQ e (slN (pPZ z bd) (pCZ z bd) (zCa z) c.toNat t.toNat 20) (SM σ m e len tx fa z l wl wr)) noX 0 0 27 [some (.ref m), some (.int (ii bd)), some (.int (ii c)), some (.int (ii t)), none, none] [.int (ii (e : Int)), .ref m] τ := by
    intro τ J B hE hM hWB hP
    have t0 := hM.1
    refine g_putM fp_X10_122 q_X10_slack_27 (by repeat first | with_reducible assumption | with_reducible exact hput_s _ _ _ | refine (hput_n _ _ (by omega)).trans ?_ | exact hput_s _ _ _ | assumption) rfl rfl mset_0 ?_
    refine g_aload_n q_X10_slack_30 rfl ?_
    refine g_get fl_X10_122 q_X10_slack_31 (by repeat first | with_reducible assumption | with_reducible exact hput_s _ _ _ | refine (hput_n _ _ (by omega)).trans ?_ | exact hput_s _ _ _ | assumption) rfl ?_
    refine g_topi (b := (e : Int)) (by rfl) ?_
    refine g_if_le (tgt := 39) q_X10_slack_34 (by decide) ⟨by omega, by omega⟩ (fun b9 => ?_) (fun b9 => ?_)
    case refine_2 =>
      refine g_iconst q_X10_slack_37 ?_
      refine g_ireturn q_X10_slack_38.1 rfl ?_
      exact ⟨by rw [if_neg (by omega)], SM.w hE hM hWB e⟩
    have ee : e = 0 := by omega
    subst ee
    obtain ⟨kp, hkp, j35, ha, hrow, hgo, hsum, hsum0, hrow0, hcc⟩ := hP rfl
    have hS := SM.w hE hM hWB 0
    have hM1 := hM.putI (va_up J 0 ((0 : Nat) : Int))
    obtain ⟨τ1, hτ1⟩ : ∃ τ1, τ1 = hput τ m (mdo m (va_up J 0 ((0 : Nat) : Int))) := ⟨_, rfl⟩
    rw [← hτ1] at hS hM1 ⊢
    clear hτ1 hE t0 hP
    have hrB := hWB.2.2.2.2.2.2.2
    have hzB := hWB.2.2.1.1
    have j35 : va_up J 0 ((0 : Nat) : Int) 35 = kp := j35
    have j15 : va_up J 0 ((0 : Nat) : Int) 15 = zCa z := hzB.1.2.2
    obtain ⟨J1, hJ1⟩ : ∃ J1, J1 = va_up J 0 ((0 : Nat) : Int) := ⟨_, rfl⟩
    rw [← hJ1] at j35 j15 hM1
    have hzJ : MZ J1 B z := by rw [hJ1]; exact hzB.cg ⟨rfl, rfl, rfl⟩ rfl rfl rfl
    clear hJ1
    have u0 := hM1.1
    have u16 := hM1.a16
    obtain ⟨eq1, eq2⟩ := eQ_z hEe.symm
    unfold mQ
    rw [if_pos rfl]
    have cc1 := of_decide_eq_true eq1
    have ct := of_decide_eq_true eq2.1
    obtain ⟨c', hc'⟩ : ∃ k : Nat, c = k := ⟨c.toNat, by omega⟩
    obtain ⟨t', ht'⟩ : ∃ k : Nat, t = k := ⟨t.toNat, by omega⟩
    subst hc' ht'
    rw [Int.toNat_natCast, Int.toNat_natCast]
    obtain ⟨P, hP⟩ : ∃ P, P = pPZ z bd := ⟨_, rfl⟩
    obtain ⟨C, hC⟩ : ∃ C, C = pCZ z bd := ⟨_, rfl⟩
    rw [← hP] at hrow
    rw [← hP, ← hC] at hgo hcc
    rw [← hP, ← hC]
    have hNC := plan_NC wf hgo hcc
    have hPr := plan_rg wf hgo
    have hct : ∀ c, c < zCa z → (ctN (fun t => P (41 * c + t)) 40 : Int) = C c := fun c hc => (hgo c hc).2.2.2.2.1
    have hv0 : vcO τ1 τ1 m (B 27) (B 28) (B 29) (B 30) := ⟨eqOff.rfl', hM1.a27, hM1.a28, hM1.a29, hM1.a30⟩
    have hlr : ∀ o k, o < zCa z → k ≤ 20 → rg (aLate P C (zCa z) o c' t' k) := fun o k ho hk => by
      have h1 := (bdT_so6 (P := P) (n := zCa z) (sd := c') (show t' ≤ 40 by omega) hk 40).1 o
      have h2 := (hgo o ho).2.1
      have h3 := (hgo o ho).2.2.1
      unfold aLate rg
      omega
    refine g_iconst q_X10_slack_39 ?_
    refine g_istore (L' := [_, _, _, _, _, _]) q_X10_slack_40 (by decide) rfl ?_
    -- up to k nobody else is late
    refine g_loop2 (fun (k : Nat) (ω : AH) => (1 ≤ k ∧ k ≤ 21) ∧ (∃ g27 g28 g29 g30, vcO τ1 ω m g27 g28 g29 g30) ∧ (2 ≤ k → ∃ vn T, VT P (zCa z) vn T ∧ (∀ o, o < zCa z → (T o (vn o - 1) : Int) = C o)) ∧ ∀ j, 1 ≤ j → j < k → ∀ o, o < zCa z → o ≠ c' → aLate P C (zCa z) o c' t' j ≤ 0) (fun k ω => G Γ _ cX10_slack _ _ 0 0 42 [some (.ref m), some (.int (ii bd)), some (.int (ii c')), some (.int (ii t')), some (.int (ii k)), none] [] ω) (fun k ω => 21 - k) ?_ 1 τ1 ⟨⟨by omega, by omega⟩, ⟨_, _, _, _, hv0⟩, fun q => by omega, fun j h1 h2 => by omega⟩
    rintro k ω ⟨⟨hk1, hk2⟩, ⟨g27, g28, g29, g30, hv⟩, hVV, hall⟩ ih
    have w0 := (hv.1.2 m (by unfold inb; omega)).trans u0
    have w16 := (hv.1.2 (m + 16) (by unfold inb; omega)).trans u16
    refine g_iload q_X10_slack_42 rfl ?_
    refine g_bipush q_X10_slack_44 bp_20 ?_
    refine g_icmp_gt (tgt := 101) q_X10_slack_46 (by decide) ⟨by omega, by omega⟩ ⟨by omega, by omega⟩ (fun d1 => ?_) (fun d1 => ?_)
    · have e : k = 21 := by omega
      subst e
      obtain ⟨vn, T, hV, hTC⟩ := hVV (by omega)
      refine g_bipush q_X10_slack_101 bp_20 ?_
      refine g_ireturn q_X10_slack_103.1 rfl ?_
      refine ⟨?_, hS.vi hv⟩
      have hq : ∀ k, aLsum P C (zCa z) c' t' k = aLate P C (zCa z) c' c' t' k ↔ ∀ o, o < zCa z → o ≠ c' → aLate P C (zCa z) o c' t' k = 0 := fun k => sum_one (f := fun o => aLate P C (zCa z) o c' t' k) (by omega) (fun o ho => aLate_n0 hNC hV (by omega) ho (hTC o ho))
      rw [show slN P C (zCa z) c' t' 20 = ((20 : Nat) : Int) from slN_up hq (k := 20) (fun _ o ho hoc => by
        have h1 := hall 20 (by omega) (by omega) o ho hoc
        have h2 := aLate_n0 (sd := c') (ti := t') (a := 20) hNC hV (by omega) ho (hTC o ho)
        omega) 0 (fun j q1 q2 => by omega)]
      rfl
    refine g_aload_n q_X10_slack_49 rfl ?_
    refine g_iload_n q_X10_slack_50 rfl ?_
    refine g_iload_n q_X10_slack_51 rfl ?_
    refine g_iload q_X10_slack_52 rfl ?_
    refine g_callV (rc' := 0) (rs' := 0) (As := [_, _, _]) cs_X10_347 q_X10_slack_54 (sp_laysStop hΓ w0 w16 hv.cells j35 j15 hkp n5 hrow hPr hNC (sd := c') (ti := t') (nn := k) (by omega) (by omega) (by omega)) rfl (by repeat first | with_reducible assumption | with_reducible exact hput_s _ _ _ | refine (hput_n _ _ (by omega)).trans ?_ | exact hput_s _ _ _ | assumption) rfl rfl rfl rfl (Nat.le_of_ble_eq_true rfl) (by decide) (by decide) (by decide) (fun _ _ h => h.elim) (fun v ω' hq => ?_)
    obtain ⟨rfl, hq⟩ := hq
    obtain ⟨f27, f28, f29, f30, hv2⟩ := hq.of hv.1
    have y0 := (hv2.1.2 m (by unfold inb; omega)).trans u0
    have hVV2 : ∃ vn T, VT P (zCa z) vn T ∧ (∀ o, o < zCa z → (T o (vn o - 1) : Int) = C o) := by
      obtain ⟨a27, a28, a29, a30, vn, T, -, hsb, -⟩ := hq
      refine ⟨vn, T, hsb.1, fun o ho => ?_⟩
      rw [← hct o ho, ct_last hsb.1 ho]
    refine g_iconst q_X10_slack_57 ?_
    refine g_istore (L' := [_, _, _, _, _, _]) q_X10_slack_58 (by decide) rfl ?_
    refine g_loop (fun o : Nat => o ≤ zCa z ∧ ∀ a, a < o → a ≠ c' → aLate P C (zCa z) a c' t' k ≤ 0) (fun o : Nat => G Γ _ cX10_slack _ _ 0 0 60 [some (.ref m), some (.int (ii bd)), some (.int (ii c')), some (.int (ii t')), some (.int (ii k)), some (.int (ii o))] [] ω') (fun o => zCa z - o) ?_ 0 ⟨Nat.zero_le _, fun a ha => absurd ha (Nat.not_lt_zero a)⟩
    rintro o ⟨ho, hoa⟩ ih2
    refine g_iload q_X10_slack_60 rfl ?_
    refine g_aload_n q_X10_slack_62 rfl ?_
    refine g_get fl_X10_220 q_X10_slack_63 (by repeat first | with_reducible assumption | with_reducible exact hput_s _ _ _ | refine (hput_n _ _ (by omega)).trans ?_ | exact hput_s _ _ _ | assumption) rfl ?_
    refine g_topi (b := (zCa z : Int)) (by exact j15) ?_
    refine g_icmp_ge (tgt := 95) q_X10_slack_66 (by decide) ⟨by omega, by omega⟩ ⟨by omega, by omega⟩ (fun d2 => ?_) (fun d2 => ?_)
    · have e : o = zCa z := by omega
      have hnx := ih (k + 1) ω' ⟨⟨by omega, by omega⟩, ⟨_, _, _, _, hv2⟩, fun _ => hVV2, fun j h1 h2 a ha hac => by
        by_cases ej : j = k
        · rw [ej]; exact hoa a (by omega) hac
        · exact hall j h1 (by omega) a ha hac⟩ (by omega)
      refine g_iinc (L' := [_, _, _, _, _, _]) q_X10_slack_95 rfl rfl ?_
      refine g_goto (tgt := 42) q_X10_slack_98 (by decide) ?_
      exact g_fl hnx ⟨rfl, rfl, rfl, rfl, rfl, trivial⟩
    have hon : o < zCa z := by omega
    have hnx2 : (o = c' ∨ aLate P C (zCa z) o c' t' k ≤ 0) → G Γ miX10_slack cX10_slack (mQ 0 (slN P C (zCa z) c' t' 20) (SM σ m 0 len tx fa z l wl wr)) noX 0 0 89 [some (.ref m), some (.int (ii bd)), some (.int (ii c')), some (.int (ii t')), some (.int (ii k)), some (.int (ii o))] [] ω' := fun q => by
      have hnx := ih2 (o + 1) ⟨by omega, fun a ha hac => by
        by_cases ea : a = o
        · rw [ea] at hac ⊢
          exact q.resolve_left hac
        · exact hoa a (by omega) hac⟩ (by omega)
      unfold mQ
      rw [if_pos rfl]
      refine g_iinc (L' := [_, _, _, _, _, _]) q_X10_slack_89 rfl rfl ?_
      refine g_goto (tgt := 60) q_X10_slack_92 (by decide) ?_
      exact hnx
    unfold mQ at hnx2
    rw [if_pos rfl] at hnx2
    refine g_iload q_X10_slack_69 rfl ?_
    refine g_iload_n q_X10_slack_71 rfl ?_
    refine g_icmp_eq (tgt := 89) q_X10_slack_72 (by decide) ⟨by omega, by omega⟩ ⟨by omega, by omega⟩ (fun d3 => ?_) (fun d3 => ?_)
    · exact hnx2 (Or.inl (by omega))
    refine g_aload_n q_X10_slack_75 rfl ?_
    refine g_iload q_X10_slack_76 rfl ?_
    refine g_callV (rc' := 0) (rs' := 0) (As := [_]) cs_X10_351 q_X10_slack_78 (sp_lateBy hΓ y0 hq n5 (by omega) (by omega) hct o hon) rfl (by repeat first | with_reducible assumption | with_reducible exact hput_s _ _ _ | refine (hput_n _ _ (by omega)).trans ?_ | exact hput_s _ _ _ | assumption) rfl rfl rfl rfl (Nat.le_of_ble_eq_true rfl) (by decide) (by decide) (by decide) (fun _ _ h => h.elim) (k_ri ?_)
    refine g_if_le (tgt := 89) q_X10_slack_81 (by decide) (hlr o k hon (by omega)) (fun d4 => ?_) (fun d4 => ?_)
    · exact hnx2 (Or.inr d4)
    obtain ⟨vn, T, hV, hTC⟩ := hVV2
    have hq2 : ∀ k, aLsum P C (zCa z) c' t' k = aLate P C (zCa z) c' c' t' k ↔ ∀ o, o < zCa z → o ≠ c' → aLate P C (zCa z) o c' t' k = 0 := fun k => sum_one (f := fun o => aLate P C (zCa z) o c' t' k) (by omega) (fun o ho => aLate_n0 hNC hV (by omega) ho (hTC o ho))
    have hsl : slN P C (zCa z) c' t' (k - 1 + (20 - (k - 1))) = ((k - 1 : Nat) : Int) := slN_up hq2 (k := k - 1) (fun hk9 a ha hac => by
      have h1 := hall (k - 1) hk9 (by omega) a ha hac
      have h2 := aLate_n0 (sd := c') (ti := t') (a := k - 1) hNC hV (by omega) ha (hTC a ha)
      omega) (20 - (k - 1)) (fun j q1 q2 q3 => by
      have h1 := q3 o hon (by omega)
      have h2 := aLate_nn (C := C) (sd := c') (ti := t') (a := k) (b := j) hNC hV (by omega) hon (by omega)
      omega)
    rw [show k - 1 + (20 - (k - 1)) = 20 by omega] at hsl
    refine g_iload q_X10_slack_84 rfl ?_
    refine g_iconst q_X10_slack_86 ?_
    refine g_isub q_X10_slack_87 ?_
    refine g_topi (b := ((k - 1 : Nat) : Int)) (by omega) ?_
    refine g_ireturn q_X10_slack_88.1 rfl ?_
    exact ⟨by rw [hsl], hS.vi hv2⟩
  refine Sp_of (L := [_, _, _, _, _, _]) hΓ (by decide +kernel) rfl (Nat.le_of_ble_eq_true rfl) rfl ?_
  refine g_aload_n q_X10_slack_0 rfl ?_
  refine g_aload_n q_X10_slack_1 rfl ?_
  refine g_iload_n q_X10_slack_2 rfl ?_
  refine g_callV (rc' := 0) (rs' := 0) (As := [_]) cs_X10_237 q_X10_slack_3 (sp_isCart hΓ h0 hz.1.2.2 n5 c hc) rfl (by repeat first | with_reducible assumption | with_reducible exact hput_s _ _ _ | refine (hput_n _ _ (by omega)).trans ?_ | exact hput_s _ _ _ | assumption) rfl rfl rfl rfl (Nat.le_of_ble_eq_true rfl) (by decide) (by decide) (by decide) (fun _ _ h => h.elim) (k_rb ?_)
  refine g_if_ne (tgt := 13) q_X10_slack_6 (by decide) (bi_rg _) (fun b1 => ?_) (fun b1 => ?_)
  case refine_2 =>
    have e1 : e = 1 := by rw [hEe]; exact eQ_f (decide_eq_false (of_decide_eq_false (bi_f (show bi (decide (0 ≤ c ∧ c < (zCa z : Int))) = 0 by omega))))
    refine g_iconst q_X10_slack_9 ?_
    refine g_goto (tgt := 27) q_X10_slack_10 (by decide) ?_
    refine g_topi (b := (e : Int)) (by rw [e1]; rfl) ?_
    exact fin σ I A eqOff.rfl' h hW (fun q => by omega)
  have c1 : cOK z c = true := decide_eq_true (of_decide_eq_true (bi_t b1))
  refine g_aload_n q_X10_slack_13 rfl ?_
  refine g_iload_n q_X10_slack_14 rfl ?_
  refine g_iconst q_X10_slack_15 ?_
  refine g_bipush q_X10_slack_16 bp_40 ?_
  refine g_callS (rc' := 0) (rs' := 0) (As := [_, _, _]) cs_X10_229 q_X10_slack_18 (sp_isIn hΓ t 0 40 ht ⟨by decide, by decide⟩ ⟨by decide, by decide⟩) rfl rfl rfl (Nat.le_of_ble_eq_true rfl) (by decide) (by decide) (by decide) (fun _ _ h => h.elim) (k_rb ?_)
  refine g_iload_n q_X10_slack_21 rfl ?_
  refine g_iconst q_X10_slack_22 ?_
  refine g_iconst q_X10_slack_23 ?_
  refine g_callV (rc' := 0) (rs' := 0) (As := [_, _, _, _]) cs_X10_337 q_X10_slack_24 (sp_wrongPlan hΓ h hW (tOK t) bd hbd 2 3 (by decide) (by decide)) rfl (by repeat first | with_reducible assumption | with_reducible exact hput_s _ _ _ | refine (hput_n _ _ (by omega)).trans ?_ | exact hput_s _ _ _ | assumption) rfl rfl rfl rfl (Nat.le_of_ble_eq_true rfl) (by decide) (by decide) (by decide) (fun _ _ h => h.elim) (fun v τ hq => ?_)
  rw [← show e = _ from hEe.trans (eQ_t c1)] at hq
  obtain ⟨rfl, hE, J, B, hM, hWB, hP⟩ := hq
  exact fin τ J B hE hM hWB hP

theorem sp_mcritical (hΓ : Gd Γ) (hX : MX σ m e0 len tx fa z l wl wr) (bd : Int) (m9 : Int) (al : Bool) (hbd : rg bd) (hm9 : rg m9) : Sp Γ miX10_critical 0 0 [.ref m, .int (ii bd), .int (ii m9), .int (ii (bi al))] σ (mQ (eP (nOK m9) bd z 1 2) (if al = true then (crN (pPZ z bd) (pCZ z bd) (zCa z) m9.toNat (zCa z)).2 else (crN (pPZ z bd) (pCZ z bd) (zCa z) m9.toNat (zCa z)).1) (SM σ m (eP (nOK m9) bd z 1 2) len tx fa z l wl wr)) noX := by
  obtain ⟨I, A, N, -, h, hW⟩ := hX
  have h0 := h.1
  have hz := hW.2.2.1.1
  have wf := hW.2.2.1.2
  have n5 := wf.1.1.2.2
  obtain ⟨e, hEe⟩ : ∃ e, e = eP (nOK m9) bd z 1 2 := ⟨_, rfl⟩
  have he4 : e ≤ 4 := by rw [hEe]; exact eP_le _ _ _ (by decide) (by decide)
  rw [← hEe]
  have fin : ∀ τ J B, eqOff σ τ (inb m 34) → MC τ m J B N → MW J B N len tx fa z l wl wr → (e = 0 → PLd J B z bd) → G Γ miX10_critical cX10_critical (mQ e (if al = true then (crN (pPZ z bd) (pCZ z bd) (zCa z) m9.toNat (zCa z)).2 else (crN (pPZ z bd) (pCZ z bd) (zCa z) m9.toNat (zCa z)).1) (SM σ m e len tx fa z l wl wr)) noX 0 0 15 [some (.ref m), some (.int (ii bd)), some (.int (ii m9)), some (.int (ii (bi al))), none, none, none, none, none] [.int (ii (e : Int)), .ref m] τ := by
    intro τ J B hE hM hWB hP
    have t0 := hM.1
    refine g_putM fp_X10_122 q_X10_critical_15 (by repeat first | with_reducible assumption | with_reducible exact hput_s _ _ _ | refine (hput_n _ _ (by omega)).trans ?_ | exact hput_s _ _ _ | assumption) rfl rfl mset_0 ?_
    refine g_aload_n q_X10_critical_18 rfl ?_
    refine g_get fl_X10_122 q_X10_critical_19 (by repeat first | with_reducible assumption | with_reducible exact hput_s _ _ _ | refine (hput_n _ _ (by omega)).trans ?_ | exact hput_s _ _ _ | assumption) rfl ?_
    refine g_topi (b := (e : Int)) (by rfl) ?_
    refine g_if_le (tgt := 27) q_X10_critical_22 (by decide) ⟨by omega, by omega⟩ (fun b9 => ?_) (fun b9 => ?_)
    case refine_2 =>
      refine g_iconst q_X10_critical_25 ?_
      refine g_ireturn q_X10_critical_26.1 rfl ?_
      exact ⟨by rw [if_neg (by omega)], SM.w hE hM hWB e⟩
    have ee : e = 0 := by omega
    subst ee
    obtain ⟨kp, hkp, j35, ha, hrow, hgo, hsum, hsum0, hrow0, hcc⟩ := hP rfl
    have hS := SM.w hE hM hWB 0
    have hM1 := hM.putI (va_up J 0 ((0 : Nat) : Int))
    obtain ⟨τ1, hτ1⟩ : ∃ τ1, τ1 = hput τ m (mdo m (va_up J 0 ((0 : Nat) : Int))) := ⟨_, rfl⟩
    rw [← hτ1] at hS hM1 ⊢
    clear hτ1 hE t0 hP
    have hrB := hWB.2.2.2.2.2.2.2
    have hzB := hWB.2.2.1.1
    have j35 : va_up J 0 ((0 : Nat) : Int) 35 = kp := j35
    have j15 : va_up J 0 ((0 : Nat) : Int) 15 = zCa z := hzB.1.2.2
    obtain ⟨J1, hJ1⟩ : ∃ J1, J1 = va_up J 0 ((0 : Nat) : Int) := ⟨_, rfl⟩
    rw [← hJ1] at j35 j15 hM1
    have hzJ : MZ J1 B z := by rw [hJ1]; exact hzB.cg ⟨rfl, rfl, rfl⟩ rfl rfl rfl
    clear hJ1
    have u0 := hM1.1
    have u16 := hM1.a16
    have eq2 := eP_z (by decide) hEe.symm
    unfold mQ
    rw [if_pos rfl]
    have cn := of_decide_eq_true eq2.1
    obtain ⟨n', hn'⟩ : ∃ k : Nat, m9 = k := ⟨m9.toNat, by omega⟩
    subst hn'
    rw [Int.toNat_natCast]
    obtain ⟨P, hP⟩ : ∃ P, P = pPZ z bd := ⟨_, rfl⟩
    obtain ⟨C, hC⟩ : ∃ C, C = pCZ z bd := ⟨_, rfl⟩
    rw [← hP] at hrow
    rw [← hP, ← hC] at hgo hcc
    rw [← hP, ← hC]
    have hNC := plan_NC wf hgo hcc
    have hPr := plan_rg wf hgo
    have hct : ∀ c, c < zCa z → (ctN (fun t => P (41 * c + t)) 40 : Int) = C c := fun c hc => (hgo c hc).2.2.2.2.1
    have hv0 : vcO τ1 τ1 m (B 27) (B 28) (B 29) (B 30) := ⟨eqOff.rfl', hM1.a27, hM1.a28, hM1.a29, hM1.a30⟩
    have hlr : ∀ o s, o < zCa z → -40 ≤ aLate P C (zCa z) o s 0 n' ∧ aLate P C (zCa z) o s 0 n' ≤ 102 := fun o s ho => by
      have h1 := (bdT_so6 (P := P) (n := zCa z) (sd := s) (show 0 ≤ 40 by omega) (show n' ≤ 20 by omega) 40).1 o
      have h2 := (hgo o ho).2.1
      have h3 := (hgo o ho).2.2.1
      unfold aLate
      omega
    have hsr : ∀ s k, k ≤ zCa z → -200 ≤ sumN (fun o => aLate P C (zCa z) o s 0 n') k ∧ sumN (fun o => aLate P C (zCa z) o s 0 n') k ≤ 510 := fun s k hk => by
      have := sumN_rg (C := fun o => aLate P C (zCa z) o s 0 n') (a := -40) (b := 102) (n := k) (fun o ho => hlr o s (by omega))
      omega
    have hcr : ∀ k, k ≤ zCa z → -200 ≤ (crN P C (zCa z) n' k).2 ∧ (crN P C (zCa z) n' k).2 ≤ 510 := fun k => by
      induction k with
      | zero => exact fun _ => ⟨by show (-200 : Int) ≤ -1; decide, by show (-1 : Int) ≤ 510; decide⟩
      | succ k ihk =>
        intro hk
        have h1 := ihk (by omega)
        have h2 := hsr k (zCa z) (Nat.le_refl _)
        unfold crN
        split
        · exact h2
        · exact h1
    refine g_iconst q_X10_critical_27 ?_
    refine g_istore (L' := [_, _, _, _, _, _, _, _, _]) q_X10_critical_28 (by decide) rfl ?_
    refine g_iconst q_X10_critical_30 ?_
    refine g_istore (L' := [_, _, _, _, _, _, _, _, _]) q_X10_critical_31 (by decide) rfl ?_
    refine g_iconst q_X10_critical_33 ?_
    refine g_istore (L' := [_, _, _, _, _, _, _, _, _]) q_X10_critical_34 (by decide) rfl ?_
    refine g_loop2 (fun (k : Nat) (ω : AH) => k ≤ zCa z ∧ ∃ g27 g28 g29 g30, vcO τ1 ω m g27 g28 g29 g30) (fun k ω => G Γ _ cX10_critical _ _ 0 0 36 [some (.ref m), some (.int (ii bd)), some (.int (ii n')), some (.int (ii (bi al))), some (.int (ii (crN P C (zCa z) n' k).1)), some (.int (ii (crN P C (zCa z) n' k).2)), some (.int (ii k)), none, none] [] ω) (fun k ω => zCa z - k) ?_ 0 τ1 ⟨Nat.zero_le _, _, _, _, _, hv0⟩
    rintro k ω ⟨hk, g27, g28, g29, g30, hv⟩ ih
    have w0 := (hv.1.2 m (by unfold inb; omega)).trans u0
    have w16 := (hv.1.2 (m + 16) (by unfold inb; omega)).trans u16
    refine g_iload q_X10_critical_36 rfl ?_
    refine g_aload_n q_X10_critical_38 rfl ?_
    refine g_get fl_X10_220 q_X10_critical_39 (by repeat first | with_reducible assumption | with_reducible exact hput_s _ _ _ | refine (hput_n _ _ (by omega)).trans ?_ | exact hput_s _ _ _ | assumption) rfl ?_
    refine g_topi (b := (zCa z : Int)) (by exact j15) ?_
    refine g_icmp_ge (tgt := 109) q_X10_critical_42 (by decide) ⟨by omega, by omega⟩ ⟨by omega, by omega⟩ (fun d1 => ?_) (fun d1 => ?_)
    · have e : k = zCa z := by omega
      subst e
      refine g_iload_n q_X10_critical_109 rfl ?_
      refine g_if_eq (tgt := 118) q_X10_critical_110 (by decide) (bi_rg _) (fun d2 => ?_) (fun d2 => ?_)
      · rw [bi_f d2, if_neg Bool.false_ne_true]
        refine g_iload q_X10_critical_118 rfl ?_
        refine g_ireturn q_X10_critical_120.1 rfl ?_
        exact ⟨rfl, hS.vi hv⟩
      · rw [bi_t d2, if_pos rfl]
        refine g_iload q_X10_critical_113 rfl ?_
        refine g_goto (tgt := 120) q_X10_critical_115 (by decide) ?_
        refine g_ireturn q_X10_critical_120.1 rfl ?_
        exact ⟨rfl, hS.vi hv⟩
    refine g_aload_n q_X10_critical_45 rfl ?_
    refine g_iload q_X10_critical_46 rfl ?_
    refine g_iconst q_X10_critical_48 ?_
    refine g_iload_n q_X10_critical_49 rfl ?_
    refine g_callV (rc' := 0) (rs' := 0) (As := [_, _, _]) cs_X10_347 q_X10_critical_50 (sp_laysStop hΓ w0 w16 hv.cells j35 j15 hkp n5 hrow hPr hNC (sd := k) (ti := 0) (nn := n') (by omega) (by omega) (by omega)) rfl (by repeat first | with_reducible assumption | with_reducible exact hput_s _ _ _ | refine (hput_n _ _ (by omega)).trans ?_ | exact hput_s _ _ _ | assumption) rfl rfl rfl rfl (Nat.le_of_ble_eq_true rfl) (by decide) (by decide) (by decide) (fun _ _ h => h.elim) (fun v ω' hq => ?_)
    obtain ⟨rfl, hq⟩ := hq
    obtain ⟨f27, f28, f29, f30, hv2⟩ := hq.of hv.1
    have y0 := (hv2.1.2 m (by unfold inb; omega)).trans u0
    refine g_iconst q_X10_critical_53 ?_
    refine g_istore (L' := [_, _, _, _, _, _, _, _, _]) q_X10_critical_54 (by decide) rfl ?_
    refine g_iconst q_X10_critical_56 ?_
    refine g_istore (L' := [_, _, _, _, _, _, _, _, _]) q_X10_critical_57 (by decide) rfl ?_
    refine g_loop (fun o : Nat => o ≤ zCa z) (fun o : Nat => G Γ _ cX10_critical _ _ 0 0 59 [some (.ref m), some (.int (ii bd)), some (.int (ii n')), some (.int (ii (bi al))), some (.int (ii (crN P C (zCa z) n' k).1)), some (.int (ii (crN P C (zCa z) n' k).2)), some (.int (ii k)), some (.int (ii (sumN (fun o => aLate P C (zCa z) o k 0 n') o))), some (.int (ii o))] [] ω') (fun o => zCa z - o) ?_ 0 (Nat.zero_le _)
    intro o ho ih2
    refine g_iload q_X10_critical_59 rfl ?_
    refine g_aload_n q_X10_critical_61 rfl ?_
    refine g_get fl_X10_220 q_X10_critical_62 (by repeat first | with_reducible assumption | with_reducible exact hput_s _ _ _ | refine (hput_n _ _ (by omega)).trans ?_ | exact hput_s _ _ _ | assumption) rfl ?_
    refine g_topi (b := (zCa z : Int)) (by exact j15) ?_
    refine g_icmp_ge (tgt := 85) q_X10_critical_65 (by decide) ⟨by omega, by omega⟩ ⟨by omega, by omega⟩ (fun d2 => ?_) (fun d2 => ?_)
    · have e : o = zCa z := by omega
      subst e
      have hnx := ih (k + 1) ω' ⟨by omega, _, _, _, _, hv2⟩ (by omega)
      have h1 := hsr k (zCa z) (Nat.le_refl _)
      have h2 := hcr k (by omega)
      have eS : sumN (fun o => aLate P C (zCa z) o k 0 n') (zCa z) = aLsum P C (zCa z) k 0 n' := rfl
      rw [eS] at h1 ⊢
      have eC : crN P C (zCa z) n' (k + 1) = if (crN P C (zCa z) n' k).2 < aLsum P C (zCa z) k 0 n' then ((k : Int), aLsum P C (zCa z) k 0 n') else crN P C (zCa z) n' k := rfl
      rw [eC] at hnx
      refine g_iload q_X10_critical_85 rfl ?_
      refine g_iload q_X10_critical_87 rfl ?_
      refine g_icmp_gt (tgt := 95) q_X10_critical_89 (by decide) ⟨by omega, by omega⟩ ⟨by omega, by omega⟩ (fun d3 => ?_) (fun d3 => ?_)
      · rw [if_pos (show (crN P C (zCa z) n' k).2 < aLsum P C (zCa z) k 0 n' by omega)] at hnx
        refine g_iload q_X10_critical_95 rfl ?_
        refine g_istore (L' := [_, _, _, _, _, _, _, _, _]) q_X10_critical_97 (by decide) rfl ?_
        refine g_iload q_X10_critical_99 rfl ?_
        refine g_istore (L' := [_, _, _, _, _, _, _, _, _]) q_X10_critical_101 (by decide) rfl ?_
        refine g_iinc (L' := [_, _, _, _, _, _, _, _, _]) q_X10_critical_103 rfl rfl ?_
        refine g_goto (tgt := 36) q_X10_critical_106 (by decide) ?_
        exact g_fl hnx ⟨rfl, rfl, rfl, rfl, rfl, rfl, rfl, trivial⟩
      · rw [if_neg (show ¬ (crN P C (zCa z) n' k).2 < aLsum P C (zCa z) k 0 n' by omega)] at hnx
        refine g_goto (tgt := 103) q_X10_critical_92 (by decide) ?_
        refine g_iinc (L' := [_, _, _, _, _, _, _, _, _]) q_X10_critical_103 rfl rfl ?_
        refine g_goto (tgt := 36) q_X10_critical_106 (by decide) ?_
        exact g_fl hnx ⟨rfl, rfl, rfl, rfl, rfl, rfl, rfl, trivial⟩
    have hnx := ih2 (o + 1) (by omega) (by omega)
    have h1 := hsr k o (by omega)
    have h2 := hlr o k (by omega)
    refine g_iload q_X10_critical_68 rfl ?_
    refine g_aload_n q_X10_critical_70 rfl ?_
    refine g_iload q_X10_critical_71 rfl ?_
    refine g_callV (rc' := 0) (rs' := 0) (As := [_]) cs_X10_351 q_X10_critical_73 (sp_lateBy hΓ y0 hq n5 (by omega) (by omega) hct o (by omega)) rfl (by repeat first | with_reducible assumption | with_reducible exact hput_s _ _ _ | refine (hput_n _ _ (by omega)).trans ?_ | exact hput_s _ _ _ | assumption) rfl rfl rfl rfl (Nat.le_of_ble_eq_true rfl) (by decide) (by decide) (by decide) (fun _ _ h => h.elim) (k_ri ?_)
    refine g_iadd q_X10_critical_76 ?_
    refine g_istore (L' := [_, _, _, _, _, _, _, _, _]) q_X10_critical_77 (by decide) rfl ?_
    refine g_iinc (L' := [_, _, _, _, _, _, _, _, _]) q_X10_critical_79 rfl rfl ?_
    refine g_goto (tgt := 59) q_X10_critical_82 (by decide) ?_
    exact hnx
  refine Sp_of (L := [_, _, _, _, _, _, _, _, _]) hΓ (by decide +kernel) rfl (Nat.le_of_ble_eq_true rfl) rfl ?_
  refine g_aload_n q_X10_critical_0 rfl ?_
  refine g_aload_n q_X10_critical_1 rfl ?_
  refine g_iload_n q_X10_critical_2 rfl ?_
  refine g_iconst q_X10_critical_3 ?_
  refine g_bipush q_X10_critical_4 bp_20 ?_
  refine g_callS (rc' := 0) (rs' := 0) (As := [_, _, _]) cs_X10_229 q_X10_critical_6 (sp_isIn hΓ m9 1 20 hm9 ⟨by decide, by decide⟩ ⟨by decide, by decide⟩) rfl rfl rfl (Nat.le_of_ble_eq_true rfl) (by decide) (by decide) (by decide) (fun _ _ h => h.elim) (k_rb ?_)
  refine g_iload_n q_X10_critical_9 rfl ?_
  refine g_iconst q_X10_critical_10 ?_
  refine g_iconst q_X10_critical_11 ?_
  refine g_callV (rc' := 0) (rs' := 0) (As := [_, _, _, _]) cs_X10_337 q_X10_critical_12 (sp_wrongPlan hΓ h hW (nOK m9) bd hbd 1 2 (by decide) (by decide)) rfl (by repeat first | with_reducible assumption | with_reducible exact hput_s _ _ _ | refine (hput_n _ _ (by omega)).trans ?_ | exact hput_s _ _ _ | assumption) rfl rfl rfl rfl (Nat.le_of_ble_eq_true rfl) (by decide) (by decide) (by decide) (fun _ _ h => h.elim) (fun v τ hq => ?_)
  rw [← hEe] at hq
  obtain ⟨rfl, hE, J, B, hM, hWB, hP⟩ := hq
  exact fin τ J B hE hM hWB hP

end MPL7

