/-! the reference's tree: lays -/
theorem chN_sp {pn : Nat → PN} {bd lw : Int} : ∀ {n b : Nat}, chN pn bd lw n = some b → pSp (pn b) = false
  | 0, b, h => by cases h
  | k + 1, b, h => by
    rw [chN] at h
    split at h
    · rename_i q
      split at h
      · cases h; exact q.1
      · rename_i b' hb'
        split at h
        · cases h; exact q.1
        · cases h; exact chN_sp hb'
    · exact chN_sp h
theorem cnt_g {pn : Nat → PN} {nc : Nat} {g : Option PN} (h : ∀ q, g = some q → pSp q = false) : cntN (fun k => pSp (gQ pn nc g k)) (gN nc g) = cntN (fun k => pSp (pn k)) nc := by
  cases g with
  | none => rfl
  | some q =>
    show sumN (fun k => bi (pSp (va_up pn nc q k))) nc + bi (pSp (va_up pn nc q nc)) = _
    rw [va_eq, h q rfl]
    show sumN (fun k => bi (pSp (va_up pn nc q k))) nc + 0 = _
    rw [Int.add_zero]
    exact sumN_cong fun k hk => by rw [va_ne (by omega)]
theorem cnt_sp {pn : Nat → PN} {nc k : Nat} (hk : k < nc) (h : pSp (pn k) = false) : cntN (fun j => pSp (va_up pn k (spN (pn k)) j)) nc = cntN (fun j => pSp (pn j)) nc + 1 := by
  have e : (fun j => bi (pSp (va_up pn k (spN (pn k)) j))) = va_up (fun j => bi (pSp (pn j))) k 1 := by
    funext j
    by_cases q : j = k
    · subst q
      rw [va_eq, va_eq]
      rfl
    · rw [va_ne q, va_ne q]
  show sumN (fun j => bi (pSp (va_up pn k (spN (pn k)) j))) nc = sumN (fun j => bi (pSp (pn j))) nc + 1
  rw [e, sumN_up, if_pos hk, h]
  show sumN (fun j => bi (pSp (pn j))) nc - 0 + 1 = _
  omega
theorem gw1_g {lv : Nat → BitVec 64} {PL GO P C : Nat → Int} {n par t c nc tc : Nat} {s : Int} {pn : Nat → PN} : (gw1 lv PL GO n P C par t s c (nc, pn, tc)).1 = gN nc (grN lv PL GO n pn nc par c t s P C) ∧ (gw1 lv PL GO n P C par t s c (nc, pn, tc)).2.1 = gQ pn nc (grN lv PL GO n pn nc par c t s P C) := by
  unfold gw1
  show (match grN lv PL GO n pn nc par c t s P C with
    | none => (nc, pn, max tc (nc + 1))
    | some q => (nc + 1, va_up pn nc q, max tc (nc + 1))).1 = _ ∧ (match grN lv PL GO n pn nc par c t s P C with
    | none => (nc, pn, max tc (nc + 1))
    | some q => (nc + 1, va_up pn nc q, max tc (nc + 1))).2.1 = _
  cases grN lv PL GO n pn nc par c t s P C <;> exact ⟨rfl, rfl⟩
/-- the tree laid for the bound bd -/
def MTb (I : Nat → Int) (A : Nat → Nat → Int) (z : PS) (bd : Int) : Prop := I 34 = tN (bZ z bd) ∧ I 35 = tP (bZ z bd) ∧ I 36 = tL (bZ z bd) ∧ I 37 = tS (bZ z bd) ∧ I 38 = bi (tC (bZ z bd)) ∧ ∀ k, k < tN (bZ z bd) → k < 302 ∧ A 18 k = (if k = 0 then -1 else (pPi (tQ (bZ z bd) k) : Int)) ∧ A 19 k = pSu (tQ (bZ z bd) k) ∧ A 20 k = pCl (tQ (bZ z bd) k) ∧ A 21 k = pCa (tQ (bZ z bd) k) ∧ A 26 k = bi (pSp (tQ (bZ z bd) k)) ∧ ∀ i, i < 41 * zCa z → A 16 (205 * k + i) = ndP (tQ (bZ z bd)) (alPZ z) k i
theorem MTr.b {I : Nat → Int} {A : Nat → Nat → Int} {z : PS} {bd : Int} (h : MTr I A z) (hb : bOK bd = true) (e : I 33 = bd) : MTb I A z bd := by
  have hb' := of_decide_eq_true hb
  rcases h with h | ⟨b, q1, q2, q3⟩
  · omega
  · have : b = bd := q2.symm.trans e
    subst this
    exact q3
theorem MTb.r {I : Nat → Int} {A : Nat → Nat → Int} {z : PS} {bd : Int} (h : MTb I A z bd) (hb : bOK bd = true) (e : I 33 = bd) : MTr I A z := Or.inr ⟨bd, hb, e, h⟩
def lyF (I I' : Nat → Int) (A A' : Nat → Nat → Int) : Prop := (∀ k, k < 28 ∨ 31 < k ∧ k < 33 ∨ 38 < k → I' k = I k) ∧ ∀ k, k < 11 ∨ k = 17 ∨ 26 < k → A' k = A k
def lyQ (σ : AH) (m : Nat) (I : Nat → Int) (A : Nat → Nat → Int) (N : Nat → Nat → BitVec 64) (z : PS) (bd : Int) : Option Value → AH → Prop := fun r σ' => r = none ∧ eqOff σ σ' (inb m 27) ∧ ∃ I' A', MC σ' m I' A' N ∧ lyF I I' A A' ∧ (∀ i, rg (A' 16 i)) ∧ I' 33 = bd ∧ MTb I' A' z bd
/-- before a node is chosen -/
def lyP (σ : AH) (m : Nat) (I0 : Nat → Int) (A0 : Nat → Nat → Int) (N : Nat → Nat → BitVec 64) (z : PS) (bd : Int) (f : Nat) (x : TS) (τ : AH) (I : Nat → Int) (A : Nat → Nat → Int) : Prop := (f + tS x = 302 ∧ bl (lvZ z) (zPL z) (zGO z) (alPZ z) (alcZ z) (zCa z) bd f x = bZ z bd) ∧ MC τ m I A N ∧ eqOff σ τ (inb m 27) ∧ lyF I0 I A0 A ∧ (∀ i, rg (A 16 i)) ∧ TT z I A (tN x) (tQ x) ∧ (I 33 = bd ∧ I 35 = -1 ∧ I 37 = tS x ∧ I 38 = 0 ∧ tP x = -1 ∧ tC x = false) ∧ cntN (fun k => pSp (tQ x k)) (tN x) = tS x
section LY
variable {Γ : GT} {σ : AH} {m : Nat} {I : Nat → Int} {A : Nat → Nat → Int} {N : Nat → Nat → BitVec 64} {z : PS} {bd : Int}
/-- a node is chosen -/
def lyC (x : TS) (bd : Int) (I : Nat → Int) (node : Int) : Prop := (lwN (tQ x) (tN x) = -1 ∧ node = -1 ∧ I 36 = tL x) ∨ (lwN (tQ x) (tN x) ≠ -1 ∧ node = chI (chN (tQ x) bd (lwN (tQ x) (tN x)) (tN x)) ∧ I 36 = lwN (tQ x) (tN x))
theorem lyP.ch {I0 : Nat → Int} {A0 : Nat → Nat → Int} {f : Nat} {x : TS} {τ τ' : AH} {r : Option Value} (h : lyP σ m I0 A0 N z bd f x τ I A) (h36 : I 36 = tL x) (hq : chQ τ m I (tQ x) (tN x) bd r τ') : ∃ node I', r = some (.int (ii node)) ∧ lyP σ m I0 A0 N z bd f x τ' I' A ∧ lyC x bd I' node := by
  rcases hq with ⟨q1, q2, q3⟩ | ⟨q1, q2, q3⟩
  · rw [q3]
    exact ⟨-1, I, q2, h, Or.inl ⟨q1, rfl, h36⟩⟩
  · obtain ⟨h1, h2, h3, h4, h5, h6, h7, h8⟩ := h
    rw [q3]
    refine ⟨_, _, q2, ⟨h1, h2.putI _, h3.put ⟨by omega, by omega⟩ _, ⟨fun k hk => (va_ne (by omega)).trans (h4.1 k hk), h4.2⟩, h5, ?_, ?_, h8⟩, Or.inr ⟨q1, rfl, va_eq⟩⟩
    · obtain ⟨t1, t2⟩ := h6
      exact ⟨(va_ne (by omega)).trans t1, t2⟩
    · exact h7
theorem lyP.ok {I0 : Nat → Int} {A0 : Nat → Nat → Int} {f : Nat} {x : TS} {τ : AH} (h : lyP σ m I0 A0 N z bd f x τ I A) (w : WFz z) : okN (tQ x) (tN x) ∧ tN x ≤ 301 ∧ 1 ≤ f := by
  obtain ⟨⟨q1, -⟩, -, -, -, -, q6, -, q8⟩ := h
  have c1 := cntN_rg (fun k => pSp (tQ x k)) (tN x)
  rw [q8] at c1
  have c2 := q6.2.1.2.1
  exact ⟨q6.2.1.okN w.1.1.2.2, c2, by omega⟩
/-- the end -/
theorem lyQ.fin {I0 : Nat → Int} {A0 : Nat → Nat → Int} {x : TS} {τ : AH} (hx : x = bZ z bd) (hM : MC τ m I A N) (hE : eqOff σ τ (inb m 27)) (hF : lyF I0 I A0 A) (hr : ∀ i, rg (A 16 i)) (hT : TT z I A (tN x) (tQ x)) (h33 : I 33 = bd) (h35 : I 35 = tP x) (h36 : I 36 = tL x) (h37 : I 37 = tS x) (h38 : I 38 = bi (tC x)) : lyQ σ m I0 A0 N z bd none τ := by
  subst hx
  obtain ⟨t1, t2, t3, t4, t5⟩ := hT
  have h301 := t2.2.1
  refine ⟨rfl, hE, I, A, hM, hF, hr, h33, t1, h35, h36, h37, h38, fun k hk => ?_⟩
  obtain ⟨b1, b2, b3, b4, b5, b6, -⟩ := t5 k hk
  exact ⟨by omega, b1, b2, b3, b4, b5, b6⟩
set_option maxHeartbeats 2000000 in
theorem sp_lays (hΓ : Gd Γ) (h : MC σ m I A N) (hz : MZ I A z) (w : WFz z) (hr : ∀ i, rg (A 16 i)) (hTr : MTr I A z) (hb : bOK bd = true) : Sp Γ miX10_lays 0 0 [.ref m, .int (ii bd)] σ (lyQ σ m I A N z bd) noX := by
  have hb' := of_decide_eq_true hb
  have n5 := w.1.1.2.2
  have h0 := h.1
  have hPL := w.1.2.2.1
  have hGO := w.1.2.2.2.1
  have hL := okL_z w.1
  have o1 : okP (alPZ z) := okP_alP hL hPL hGO
  have r33 : rg (I 33) := by
    rcases hTr with q | ⟨b, q1, q2, -⟩
    · rw [q]; exact ⟨by decide, by decide⟩
    · have := of_decide_eq_true q1
      rw [q2]; unfold rg; omega
  refine Sp_of (L := [_, _, _, _, _, _, _, _]) hΓ (by decide +kernel) rfl (Nat.le_of_ble_eq_true rfl) rfl ?_
  refine g_aload_n q_X10_lays_0 rfl ?_
  refine g_get fl_X10_68 q_X10_lays_1 (by repeat first | with_reducible assumption | with_reducible exact hput_s _ _ _ | refine (hput_n _ _ (by omega)).trans ?_ | exact hput_s _ _ _ | assumption) rfl ?_
  refine g_iload_n q_X10_lays_4 rfl ?_
  refine g_icmp_ne (tgt := 9) q_X10_lays_5 (by decide) r33 ⟨by omega, by omega⟩ (fun b1 => ?_) (fun b1 => ?_)
  case refine_2 =>
    have e : I 33 = bd := by omega
    refine g_return q_X10_lays_8.1 rfl ?_
    exact ⟨rfl, eqOff.rfl', I, A, h, ⟨fun _ _ => rfl, fun _ _ => rfl⟩, hr, e, hTr.b hb e⟩
  clear hTr
  refine g_aload_n q_X10_lays_9 rfl ?_
  refine g_iload_n q_X10_lays_10 rfl ?_
  refine g_putM fp_X10_68 q_X10_lays_11 (by repeat first | with_reducible assumption | with_reducible exact hput_s _ _ _ | refine (hput_n _ _ (by omega)).trans ?_ | exact hput_s _ _ _ | assumption) rfl rfl mset_33 ?_
  refine g_aload_n q_X10_lays_14 rfl ?_
  refine g_iconst q_X10_lays_15 ?_
  refine g_putM fp_X10_302 q_X10_lays_16 (by repeat first | with_reducible assumption | with_reducible exact hput_s _ _ _ | refine (hput_n _ _ (by omega)).trans ?_ | exact hput_s _ _ _ | assumption) rfl rfl mset_34 ?_
  refine g_aload_n q_X10_lays_19 rfl ?_
  refine g_iconst q_X10_lays_20 ?_
  refine g_putM fp_X10_314 q_X10_lays_21 (by repeat first | with_reducible assumption | with_reducible exact hput_s _ _ _ | refine (hput_n _ _ (by omega)).trans ?_ | exact hput_s _ _ _ | assumption) rfl rfl mset_35 ?_
  refine g_aload_n q_X10_lays_24 rfl ?_
  refine g_iconst q_X10_lays_25 ?_
  refine g_putM fp_X10_311 q_X10_lays_26 (by repeat first | with_reducible assumption | with_reducible exact hput_s _ _ _ | refine (hput_n _ _ (by omega)).trans ?_ | exact hput_s _ _ _ | assumption) rfl rfl mset_36 ?_
  refine g_aload_n q_X10_lays_29 rfl ?_
  refine g_iconst q_X10_lays_30 ?_
  refine g_putM fp_X10_317 q_X10_lays_31 (by repeat first | with_reducible assumption | with_reducible exact hput_s _ _ _ | refine (hput_n _ _ (by omega)).trans ?_ | exact hput_s _ _ _ | assumption) rfl rfl mset_37 ?_
  refine g_aload_n q_X10_lays_34 rfl ?_
  refine g_iconst q_X10_lays_35 ?_
  refine g_putM fp_X10_320 q_X10_lays_36 (by repeat first | with_reducible assumption | with_reducible exact hput_s _ _ _ | refine (hput_n _ _ (by omega)).trans ?_ | exact hput_s _ _ _ | assumption) rfl rfl mset_38 ?_
  obtain ⟨I1, hI1⟩ : ∃ I1, I1 = va_up (va_up (va_up (va_up (va_up (va_up I 33 bd) 34 0) 35 (-1)) 36 (-1)) 37 0) 38 0 := ⟨_, rfl⟩
  rw [hput_hput, hput_hput, hput_hput, hput_hput, hput_hput, ← hI1]
  obtain ⟨τ1, hτ1⟩ : ∃ τ1, τ1 = hput σ m (mdo m I1) := ⟨_, rfl⟩
  have hM1 : MC τ1 m I1 A N := by rw [hτ1]; exact h.putI _
  have hE1 : eqOff σ τ1 (inb m 27) := by rw [hτ1]; exact eqOff.rfl'.put ⟨by omega, by omega⟩ _
  rw [← hτ1]
  clear hτ1
  have i1 : ∀ k, k < 33 ∨ 38 < k → I1 k = I k := fun k hk => by rw [hI1, va_ne (by omega), va_ne (by omega), va_ne (by omega), va_ne (by omega), va_ne (by omega), va_ne (by omega)]
  have i33 : I1 33 = bd ∧ I1 34 = 0 ∧ I1 35 = -1 ∧ I1 36 = -1 ∧ I1 37 = 0 ∧ I1 38 = 0 := by rw [hI1]; exact ⟨rfl, rfl, rfl, rfl, rfl, rfl⟩
  clear hI1
  have hz1 : MZ I1 A z := hz.cg ⟨i1 13 (by omega), i1 14 (by omega), i1 15 (by omega)⟩ rfl rfl rfl
  have t0 := hM1.1
  refine g_aload_n q_X10_lays_39 rfl ?_
  refine g_iconst q_X10_lays_40 ?_
  refine g_callV (rc' := 0) (rs' := 0) (As := [_]) cs_X10_290 q_X10_lays_41 (sp_laysAlone hΓ hM1 hz1 w 0 (by omega)) rfl (by repeat first | with_reducible assumption | with_reducible exact hput_s _ _ _ | refine (hput_n _ _ (by omega)).trans ?_ | exact hput_s _ _ _ | assumption) rfl rfl rfl rfl (Nat.le_of_ble_eq_true rfl) (by decide) (by decide) (by decide) (fun _ _ h => h.elim) (fun v τ2 hq => ?_)
  obtain ⟨rfl, hE2, A2, n, hM2, hla, hn⟩ := hq
  have hE2 : eqOff σ τ2 (inb m 27) := hE1.trans hE2 (fun a i => by unfold inb at *; omega)
  have hr2 : ∀ i, rg (A2 16 i) := hla.2.2.2.2.2 hr
  have a2 : ∀ k, k < 11 ∨ 16 < k → A2 k = A k := hla.1
  clear t0
  have t0 := hM2.1
  refine g_if_ne (tgt := 48) q_X10_lays_44 (by decide) (bi_rg _) (fun b2 => ?_) (fun b2 => ?_)
  case refine_2 =>
    have hal := bi_f (show bi (allZ z) = 0 by omega)
    have eZ : bZ z bd = ts0 := by
      unfold bZ bld
      exact if_neg (fun q => by rw [show allZ z = true from q] at hal; cases hal)
    refine g_return q_X10_lays_47.1 rfl ?_
    refine ⟨rfl, hE2, I1, A2, hM2, ⟨fun k hk => i1 k (by omega), fun k hk => a2 k (by omega)⟩, hr2, i33.1, ?_⟩
    unfold MTb
    rw [eZ]
    exact ⟨i33.2.1, i33.2.2.1, i33.2.2.2.1, i33.2.2.2.2.1, i33.2.2.2.2.2, fun k hk => absurd hk (Nat.not_lt_zero k)⟩
  have ha := bi_t b2
  have hn' := hn ha
  subst hn'
  obtain ⟨p0, hp0⟩ : ∃ p0 : Nat → PN, p0 = fun _ => rot (alPZ z) (alcZ z) (zCa z) := ⟨_, rfl⟩
  obtain ⟨x0, hx0⟩ : ∃ x0 : TS, x0 = (1, 0, -1, -1, false, p0, 1) := ⟨_, rfl⟩
  have eF : bl (lvZ z) (zPL z) (zGO z) (alPZ z) (alcZ z) (zCa z) bd 302 x0 = bZ z bd := by
    rw [hx0, hp0]
    unfold bZ bld
    exact (if_pos ha).symm
  have hTI0 : TI (alPZ z) (alcZ z) (zCa z) 1 p0 := by
    rw [hp0]
    refine TI_root fun c hc => ?_
    obtain ⟨-, q1, q2, -⟩ := alw_ct w hc (of_decide_eq_true ha c hc)
    exact ⟨q1, q2⟩
  have hTG0 : TG z 1 p0 := fun k k0 hk => absurd k0 (by omega)
  have hrow0 : ∀ i, i < 41 * zCa z → A2 16 i = ndP p0 (alPZ z) 0 i := fun i hi => by
    have q := (hla.2.2.2.2.1 (i / 41) (by omega)).2 (i % 41) (by omega)
    show A2 16 i = alw (lvZ z) (zPL z) (zGO z) (i / 41) (i % 41)
    rw [← q, show 205 * 0 + (41 * (i / 41) + i % 41) = i by omega]
  obtain ⟨n1, n2, -⟩ := nd_row w ha hTI0 hTG0 (k := 0) (by omega) hrow0
  have h15 : I1 15 = zCa z := hz1.1.2.2
  have s18 := hM2.a18
  have s21 := hM2.a21
  refine g_aload_n q_X10_lays_48 rfl ?_
  refine g_get fl_X10_71 q_X10_lays_49 (by repeat first | with_reducible assumption | with_reducible exact hput_s _ _ _ | refine (hput_n _ _ (by omega)).trans ?_ | exact hput_s _ _ _ | assumption) rfl ?_
  refine g_iconst q_X10_lays_52 ?_
  refine g_iconst q_X10_lays_53 ?_
  refine g_iastore q_X10_lays_54 (by repeat first | with_reducible assumption | with_reducible exact hput_s _ _ _ | refine (hput_n _ _ (by omega)).trans ?_ | exact hput_s _ _ _ | assumption) (by omega) (by omega) ?_
  refine g_aload_n q_X10_lays_55 rfl ?_
  refine g_get fl_X10_80 q_X10_lays_56 (by repeat first | with_reducible assumption | with_reducible exact hput_s _ _ _ | refine (hput_n _ _ (by omega)).trans ?_ | exact hput_s _ _ _ | assumption) rfl ?_
  refine g_iconst q_X10_lays_59 ?_
  refine g_iconst q_X10_lays_60 ?_
  refine g_iastore q_X10_lays_61 (by repeat first | with_reducible assumption | with_reducible exact hput_s _ _ _ | refine (hput_n _ _ (by omega)).trans ?_ | exact hput_s _ _ _ | assumption) (by omega) (by omega) ?_
  obtain ⟨τ3, hτ3⟩ : ∃ τ3, τ3 = hput (hput τ2 (m + 18) (ai 302 (va_up (A2 18) 0 (-1)))) (m + 21) (ai 302 (va_up (A2 21) 0 (-1))) := ⟨_, rfl⟩
  refine g_eq (σ2 := τ3) rfl rfl hτ3.symm ?_
  have hM3 : MC τ3 m I1 (va_up (va_up A2 18 (va_up (A2 18) 0 (-1))) 21 (va_up (A2 21) 0 (-1))) N := by rw [hτ3]; exact (hM2.putA 18 (by omega) _).putA 21 (by omega) _
  have hE3 : eqOff σ τ3 (inb m 27) := by rw [hτ3]; exact (hE2.put ⟨by omega, by omega⟩ _).put ⟨by omega, by omega⟩ _
  clear hτ3 hM2 hE2 t0 s18 s21
  have t0 := hM3.1
  have t16 : τ3.2 (m + 16) = some (ai 62115 (A2 16)) := hM3.a16
  have t19 : τ3.2 (m + 19) = some (ai 302 (A2 19)) := hM3.a19
  have e0 : ∀ (f : Nat → Nat → Int), f 16 = A2 16 → (fun i => f 16 (205 * 0 + i)) = fun i => A2 16 i := fun f hf => by funext i; rw [hf, show 205 * 0 + i = i by omega]
  refine g_aload_n q_X10_lays_62 rfl ?_
  refine g_get fl_X10_74 q_X10_lays_63 (by repeat first | with_reducible assumption | with_reducible exact hput_s _ _ _ | refine (hput_n _ _ (by omega)).trans ?_ | exact hput_s _ _ _ | assumption) rfl ?_
  refine g_iconst q_X10_lays_66 ?_
  refine g_aload_n q_X10_lays_67 rfl ?_
  refine g_iconst q_X10_lays_68 ?_
  refine g_callV (rc' := 0) (rs' := 0) (As := [_]) cs_X10_308 q_X10_lays_69 (sp_sumAt hΓ t0 t16 hr2 0 (zCa z) (by omega) n5 h15) rfl (by repeat first | with_reducible assumption | with_reducible exact hput_s _ _ _ | refine (hput_n _ _ (by omega)).trans ?_ | exact hput_s _ _ _ | assumption) rfl rfl rfl rfl (Nat.le_of_ble_eq_true rfl) (by decide) (by decide) (by decide) (fun _ _ h => h.elim) (k_ri ?_)
  refine g_topi (b := pSu (p0 0)) ?_ ?_
  · rw [← n1]
    refine sumN_cong fun c _ => ?_
    rw [show (fun t => A2 16 (205 * 0 + (41 * c + t))) = fun t => A2 16 (41 * c + t) by funext t; rw [show 205 * 0 + (41 * c + t) = 41 * c + t by omega]]
  refine g_iastore q_X10_lays_72 (by repeat first | with_reducible assumption | with_reducible exact hput_s _ _ _ | refine (hput_n _ _ (by omega)).trans ?_ | exact hput_s _ _ _ | assumption) (by omega) (by omega) ?_
  obtain ⟨τ4, hτ4⟩ : ∃ τ4, τ4 = hput τ3 (m + 19) (ai 302 (va_up (A2 19) 0 (pSu (p0 0)))) := ⟨_, rfl⟩
  refine g_eq (σ2 := τ4) rfl rfl hτ4.symm ?_
  have hM4 := hM3.putA 19 (by omega) (va_up (A2 19) 0 (pSu (p0 0)))
  rw [← (show τ4 = hput τ3 (m + 19) (mar 19 (va_up (A2 19) 0 (pSu (p0 0))) (N 19)) from hτ4)] at hM4
  have hE4 : eqOff σ τ4 (inb m 27) := by rw [hτ4]; exact hE3.put ⟨by omega, by omega⟩ _
  clear hτ4 hM3 hE3 t0 t16 t19
  have t0 := hM4.1
  have t16 : τ4.2 (m + 16) = some (ai 62115 (A2 16)) := hM4.a16
  refine g_aload_n q_X10_lays_73 rfl ?_
  refine g_get fl_X10_77 q_X10_lays_74 (by repeat first | with_reducible assumption | with_reducible exact hput_s _ _ _ | refine (hput_n _ _ (by omega)).trans ?_ | exact hput_s _ _ _ | assumption) rfl ?_
  refine g_iconst q_X10_lays_77 ?_
  refine g_aload_n q_X10_lays_78 rfl ?_
  refine g_iconst q_X10_lays_79 ?_
  refine g_callV (rc' := 0) (rs' := 0) (As := [_]) cs_X10_293 q_X10_lays_80 (sp_laysClashes hΓ t0 t16 hr2 0 (zCa z) (by omega) n5 h15) rfl (by repeat first | with_reducible assumption | with_reducible exact hput_s _ _ _ | refine (hput_n _ _ (by omega)).trans ?_ | exact hput_s _ _ _ | assumption) rfl rfl rfl rfl (Nat.le_of_ble_eq_true rfl) (by decide) (by decide) (by decide) (fun _ _ h => h.elim) (fun v τ5 hq => ?_)
  obtain ⟨rfl, I2, rfl, hcl⟩ := hq
  refine g_topi (b := pCl (p0 0)) (by rw [show (fun i => A2 16 (205 * 0 + i)) = fun i => A2 16 i by funext i; rw [show 205 * 0 + i = i by omega]]; exact n2) ?_
  have i2 : ∀ k, k < 28 ∨ 31 < k → I2 k = I1 k := fun k hk => by
    rcases hcl.2 with ⟨-, q9, -⟩ | ⟨-, a1, a2, a3, a4, -, q9⟩
    · rw [q9]
    · rw [q9]
      unfold up4
      rw [va_ne (by omega), va_ne (by omega), va_ne (by omega), va_ne (by omega)]
  clear hcl
  obtain ⟨τ5, hτ5⟩ : ∃ τ5, τ5 = hput τ4 m (mdo m I2) := ⟨_, rfl⟩
  have hM5 := hM4.putI I2
  rw [← hτ5] at hM5 ⊢
  have hE5 : eqOff σ τ5 (inb m 27) := by rw [hτ5]; exact hE4.put ⟨by omega, by omega⟩ _
  clear hτ5 hM4 hE4 t0 t16
  have t0 := hM5.1
  have t20 : τ5.2 (m + 20) = some (ai 302 (A2 20)) := hM5.a20
  have t26 : τ5.2 (m + 26) = some (az 302 (A2 26)) := hM5.a26
  refine g_iastore q_X10_lays_83 (by repeat first | with_reducible assumption | with_reducible exact hput_s _ _ _ | refine (hput_n _ _ (by omega)).trans ?_ | exact hput_s _ _ _ | assumption) (by omega) (by omega) ?_
  refine g_aload_n q_X10_lays_84 rfl ?_
  refine g_get fl_X10_95 q_X10_lays_85 (by repeat first | with_reducible assumption | with_reducible exact hput_s _ _ _ | refine (hput_n _ _ (by omega)).trans ?_ | exact hput_s _ _ _ | assumption) rfl ?_
  refine g_iconst q_X10_lays_88 ?_
  refine g_iconst q_X10_lays_89 ?_
  refine g_zastore q_X10_lays_90 (by repeat first | with_reducible assumption | with_reducible exact hput_s _ _ _ | refine (hput_n _ _ (by omega)).trans ?_ | exact hput_s _ _ _ | assumption) (by omega) (by omega) (by first | exact Or.inl rfl | exact Or.inr rfl | omega) ?_
  refine g_aload_n q_X10_lays_91 rfl ?_
  refine g_iconst q_X10_lays_92 ?_
  refine g_putM fp_X10_302 q_X10_lays_93 (by repeat first | with_reducible assumption | with_reducible exact hput_s _ _ _ | refine (hput_n _ _ (by omega)).trans ?_ | exact hput_s _ _ _ | assumption) rfl rfl mset_34 ?_
  obtain ⟨τ6, hτ6⟩ : ∃ τ6, τ6 = hput (hput (hput τ5 (m + 20) (ai 302 (va_up (A2 20) 0 (pCl (p0 0))))) (m + 26) (az 302 (va_up (A2 26) 0 0))) m (mdo m (va_up I2 34 1)) := ⟨_, rfl⟩
  refine g_eq (σ2 := τ6) rfl rfl hτ6.symm ?_
  obtain ⟨A6, hA6⟩ : ∃ A6, A6 = va_up (va_up (va_up (va_up (va_up A2 18 (va_up (A2 18) 0 (-1))) 21 (va_up (A2 21) 0 (-1))) 19 (va_up (A2 19) 0 (pSu (p0 0)))) 20 (va_up (A2 20) 0 (pCl (p0 0)))) 26 (va_up (A2 26) 0 0) := ⟨_, rfl⟩
  have hM6 : MC τ6 m (va_up I2 34 1) A6 N := by rw [hτ6, hA6]; exact ((hM5.putA 20 (by omega) _).putA 26 (by omega) _).putI _
  have hE6 : eqOff σ τ6 (inb m 27) := by rw [hτ6]; exact ((hE5.put ⟨by omega, by omega⟩ _).put ⟨by omega, by omega⟩ _).put ⟨by omega, by omega⟩ _
  clear hτ6 hM5 hE5 t0 t20 t26
  have hP0 : lyP σ m I A N z bd 302 x0 τ6 (va_up I2 34 1) A6 := by
    have r6 : ∀ k, k < 33 ∨ 38 < k → k < 28 ∨ 31 < k → va_up I2 34 1 k = I k := fun k hk hk2 => by rw [va_ne (by omega), i2 k hk2, i1 k hk]
    have r7 : ∀ k, 33 ≤ k → k ≠ 34 → va_up I2 34 1 k = I1 k := fun k hk hk2 => by rw [va_ne (by omega), i2 k (by omega)]
    refine ⟨⟨by rw [hx0]; rfl, eF⟩, hM6, hE6, ⟨fun k hk => r6 k (by omega) (by omega), fun k hk => ?_⟩, by rw [hA6]; exact hr2, ?_, ⟨by rw [r7 33 (by omega) (by omega)]; exact i33.1, by rw [r7 35 (by omega) (by omega)]; exact i33.2.2.1, by rw [r7 37 (by omega) (by omega), hx0]; exact i33.2.2.2.2.1, by rw [r7 38 (by omega) (by omega)]; exact i33.2.2.2.2.2, by rw [hx0]; rfl, by rw [hx0]; rfl⟩, by rw [hx0, hp0]; rfl⟩
    · rw [hA6, va_ne (by omega), va_ne (by omega), va_ne (by omega), va_ne (by omega), va_ne (by omega)]
      exact a2 k (by omega)
    · rw [hx0]
      refine ⟨rfl, hTI0, hTG0, fun k k0 hk => absurd (show k < 1 from hk) (by omega), fun k hk => ?_⟩
      have e : k = 0 := by have : k < 1 := hk; omega
      subst e
      rw [hA6]
      refine ⟨rfl, rfl, rfl, ?_, ?_, fun i hi => ?_, fun q => absurd q (Nat.lt_irrefl _)⟩
      · rw [hp0]; rfl
      · rw [hp0]; rfl
      · show A2 16 (205 * 0 + i) = _
        rw [show 205 * 0 + i = i by omega]
        exact hrow0 i hi
  have h36 : va_up I2 34 1 36 = tL x0 := by
    rw [va_ne (by omega), i2 36 (by omega), hx0]
    exact i33.2.2.2.1
  clear hM6 hE6 hA6 i2 i1 i33 hrow0 hTI0 hTG0 n1 n2 hx0 hp0 eF hM1 hE1 hz1 h15 hla hr2 a2 e0 h0
  obtain ⟨I6, hI6⟩ : ∃ I6, I6 = va_up I2 34 1 := ⟨_, rfl⟩
  rw [← hI6] at hP0 h36
  clear hI6
  -- a call of chosen
  have okx : ∀ {f x τ I' A'}, lyP σ m I A N z bd f x τ I' A' → okN (tQ x) (tN x) ∧ tN x ≤ 301 ∧ 1 ≤ f := fun hp => hp.ok w
  have u0 := hP0.2.1.1
  refine g_aload_n q_X10_lays_96 rfl ?_
  refine g_iload_n q_X10_lays_97 rfl ?_
  refine g_callV (rc' := 0) (rs' := 0) (As := [_]) cs_X10_324 q_X10_lays_98 (sp_chosen hΓ hP0.2.1 hP0.2.2.2.2.2.1.1 (Nat.le_succ_of_le (okx hP0).2.1) hP0.2.2.2.2.2.1.ro (okx hP0).1 bd hb') rfl (by repeat first | with_reducible assumption | with_reducible exact hput_s _ _ _ | refine (hput_n _ _ (by omega)).trans ?_ | exact hput_s _ _ _ | assumption) rfl rfl rfl rfl (Nat.le_of_ble_eq_true rfl) (by decide) (by decide) (by decide) (fun _ _ h => h.elim) (fun v τ7 hq => ?_)
  obtain ⟨node, I7, rfl, hP7, hC7⟩ := hP0.ch h36 hq
  refine g_istore_n (L' := [_, _, _, _, _, _, _, _]) q_X10_lays_101 (by decide) rfl ?_
  clear hq hP0 h36 u0 I6
  refine g_loop3 (fun (b : Nat × TS × Int) (τ : AH) (d : (Nat → Int) × (Nat → Nat → Int)) => lyP σ m I A N z bd b.1 b.2.1 τ d.1 d.2 ∧ lyC b.2.1 bd d.1 b.2.2) (fun b τ d => G Γ _ cX10_lays _ _ 0 0 102 [some (.ref m), some (.int (ii bd)), some (.int (ii b.2.2)), none, none, none, none, none] [] τ) (fun b τ d => b.1) ?_ (302, x0, node) τ7 (I7, A6) ⟨hP7, hC7⟩
  clear hP7 hC7
  rintro ⟨f, x, node⟩ τ ⟨J, B⟩ ⟨hp9, hc9⟩ ih9
  have hp : lyP σ m I A N z bd f x τ J B := hp9
  have hc : lyC x bd J node := hc9
  show G Γ miX10_lays cX10_lays (lyQ σ m I A N z bd) noX 0 0 102 [some (.ref m), some (.int (ii bd)), some (.int (ii node)), none, none, none, none, none] [] τ
  have ih : ∀ (f' : Nat) (x' : TS) (node' : Int) (τ' : AH) (J' : Nat → Int) (B' : Nat → Nat → Int), lyP σ m I A N z bd f' x' τ' J' B' → lyC x' bd J' node' → f' < f → G Γ miX10_lays cX10_lays (lyQ σ m I A N z bd) noX 0 0 102 [some (.ref m), some (.int (ii bd)), some (.int (ii node')), none, none, none, none, none] [] τ' := fun f' x' node' τ' J' B' a1 a2 a3 => ih9 (f', x', node') τ' (J', B') ⟨a1, a2⟩ a3
  clear hp9 hc9 ih9
  obtain ⟨okn, n301, hf1⟩ := okx hp
  obtain ⟨⟨hf, hbl⟩, hM, hE, hF, hrB, hT, ⟨j33, j35, j37, j38, xP, xC⟩, hcn⟩ := hp
  obtain ⟨g, hg⟩ : ∃ g, f = g + 1 := ⟨f - 1, by omega⟩
  subst hg
  have t0 := hM.1
  have t20 := hM.a20
  have rn : rg node := by
    rcases hc with ⟨-, q, -⟩ | ⟨-, q, -⟩
    · rw [q]; exact ⟨by decide, by decide⟩
    · rw [q]
      cases hch : chN (tQ x) bd (lwN (tQ x) (tN x)) (tN x) with
      | none => exact ⟨by decide, by decide⟩
      | some k =>
        have := chN_lt hch
        show rg (k : Int)
        unfold rg
        omega
  unfold bl at hbl
  refine g_iload_n q_X10_lays_102 rfl ?_
  refine g_iconst q_X10_lays_103 ?_
  refine g_icmp_eq (tgt := 235) q_X10_lays_104 (by decide) rn ⟨by omega, by omega⟩ (fun b1 => ?_) (fun b1 => ?_)
  · have b1 : node = -1 := b1
    refine g_return q_X10_lays_235.1 rfl ?_
    rcases hc with ⟨q1, q2, q3⟩ | ⟨q1, q2, q3⟩
    · have eb : bst (lvZ z) (zPL z) (zGO z) (alPZ z) (alcZ z) (zCa z) bd x = (false, x) := by unfold bst; rw [if_pos q1]
      rw [eb, if_neg Bool.false_ne_true] at hbl
      exact lyQ.fin hbl hM hE hF hrB hT j33 (by rw [xP]; exact j35) q3 j37 (by rw [xC]; exact j38)
    · have hch : chN (tQ x) bd (lwN (tQ x) (tN x)) (tN x) = none := by
        cases hch : chN (tQ x) bd (lwN (tQ x) (tN x)) (tN x) with
        | none => rfl
        | some k =>
          rw [hch] at q2
          have : node = (k : Int) := q2
          omega
      have eb : bst (lvZ z) (zPL z) (zGO z) (alPZ z) (alcZ z) (zCa z) bd x = (false, (tN x, tS x, lwN (tQ x) (tN x), tP x, tC x, tQ x, tT x)) := by unfold bst; rw [if_neg q1, hch]
      rw [eb, if_neg Bool.false_ne_true] at hbl
      exact lyQ.fin hbl hM hE hF hrB hT j33 (by show J 35 = tP x; rw [xP]; exact j35) q3 j37 (by show J 38 = bi (tC x); rw [xC]; exact j38)
  obtain ⟨q1, q2, q3⟩ := hc.resolve_left (fun q => b1 q.2.1)
  obtain ⟨k, hch⟩ : ∃ k, chN (tQ x) bd (lwN (tQ x) (tN x)) (tN x) = some k := by
    cases hch : chN (tQ x) bd (lwN (tQ x) (tN x)) (tN x) with
    | none => rw [hch] at q2; exact absurd q2 b1
    | some k => exact ⟨k, rfl⟩
  rw [hch] at q2
  have q2 : node = (k : Int) := q2
  subst q2
  have hk := chN_lt hch
  have hokk := okn k hk
  have hsp := chN_sp hch
  have hT0 := hT
  obtain ⟨j34, hTI, hTG, hTF, hNR⟩ := hT
  refine g_aload_n q_X10_lays_107 rfl ?_
  refine g_get fl_X10_77 q_X10_lays_108 (by repeat first | with_reducible assumption | with_reducible exact hput_s _ _ _ | refine (hput_n _ _ (by omega)).trans ?_ | exact hput_s _ _ _ | assumption) rfl ?_
  refine g_iload_n q_X10_lays_111 rfl ?_
  refine g_iaload q_X10_lays_112 (by repeat first | with_reducible assumption | with_reducible exact hput_s _ _ _ | refine (hput_n _ _ (by omega)).trans ?_ | exact hput_s _ _ _ | assumption) (by omega) (by omega) ?_
  refine g_topi (b := pCl (tQ x k)) (by exact (hNR k hk).2.2.1) ?_
  refine g_if_ne (tgt := 122) q_X10_lays_113 (by decide) ⟨by omega, by omega⟩ (fun b2 => ?_) (fun b2 => ?_)
  case refine_2 =>
    have e2 : pCl (tQ x k) = 0 := by omega
    refine g_aload_n q_X10_lays_116 rfl ?_
    refine g_iload_n q_X10_lays_117 rfl ?_
    refine g_putM fp_X10_314 q_X10_lays_118 (by repeat first | with_reducible assumption | with_reducible exact hput_s _ _ _ | refine (hput_n _ _ (by omega)).trans ?_ | exact hput_s _ _ _ | assumption) rfl rfl mset_35 ?_
    refine g_return q_X10_lays_121.1 rfl ?_
    have eb : bst (lvZ z) (zPL z) (zGO z) (alPZ z) (alcZ z) (zCa z) bd x = (false, (tN x, tS x, lwN (tQ x) (tN x), (k : Int), tC x, tQ x, tT x)) := by unfold bst; rw [if_neg q1, hch]; simp only [e2, if_true]
    rw [eb, if_neg Bool.false_ne_true] at hbl
    exact lyQ.fin hbl (hM.putI (va_up J 35 (k : Int))) (hE.put ⟨by omega, by omega⟩ _) ⟨fun j hj => (va_ne (by omega)).trans (hF.1 j hj), hF.2⟩ hrB ⟨(va_ne (by omega)).trans j34, hTI, hTG, hTF, hNR⟩ ((va_ne (by omega)).trans j33) va_eq ((va_ne (by omega)).trans q3) ((va_ne (by omega)).trans j37) (by show va_up J 35 (k : Int) 38 = bi (tC x); rw [xC]; exact (va_ne (by omega)).trans j38)
  refine g_aload_n q_X10_lays_122 rfl ?_
  refine g_aload_n q_X10_lays_123 rfl ?_
  refine g_get fl_X10_302 q_X10_lays_124 (by repeat first | with_reducible assumption | with_reducible exact hput_s _ _ _ | refine (hput_n _ _ (by omega)).trans ?_ | exact hput_s _ _ _ | assumption) rfl ?_
  refine g_topi (b := (tN x : Int)) (by exact j34) ?_
  refine g_sipush q_X10_lays_127 sp_300 ?_
  refine g_icmp_lt (tgt := 137) q_X10_lays_130 (by decide) ⟨by omega, by omega⟩ ⟨by omega, by omega⟩ (fun b3 => ?_) (fun b3 => ?_)
  case refine_2 =>
    have e3 : 300 ≤ tN x := by omega
    refine g_iconst q_X10_lays_133 ?_
    refine g_goto (tgt := 138) q_X10_lays_134 (by decide) ?_
    refine g_putM fp_X10_320 q_X10_lays_138 (by repeat first | with_reducible assumption | with_reducible exact hput_s _ _ _ | refine (hput_n _ _ (by omega)).trans ?_ | exact hput_s _ _ _ | assumption) rfl rfl mset_38 ?_
    refine g_aload_n q_X10_lays_141 rfl ?_
    refine g_get fl_X10_320 q_X10_lays_142 (by repeat first | with_reducible assumption | with_reducible exact hput_s _ _ _ | refine (hput_n _ _ (by omega)).trans ?_ | exact hput_s _ _ _ | assumption) rfl ?_
    refine g_topi (b := (1 : Int)) (by rfl) ?_
    refine g_if_eq (tgt := 149) q_X10_lays_145 (by decide) ⟨by omega, by omega⟩ (fun b4 => ?_) (fun b4 => ?_)
    · exact absurd b4 (by decide)
    refine g_return q_X10_lays_148.1 rfl ?_
    have eb : bst (lvZ z) (zPL z) (zGO z) (alPZ z) (alcZ z) (zCa z) bd x = (false, (tN x, tS x, lwN (tQ x) (tN x), tP x, true, tQ x, tT x)) := by unfold bst; rw [if_neg q1, hch]; simp only [b2, e3, if_true, if_false]
    rw [eb, if_neg Bool.false_ne_true] at hbl
    exact lyQ.fin hbl (hM.putI (va_up J 38 1)) (hE.put ⟨by omega, by omega⟩ _) ⟨fun j hj => (va_ne (by omega)).trans (hF.1 j hj), hF.2⟩ hrB ⟨(va_ne (by omega)).trans j34, hTI, hTG, hTF, hNR⟩ ((va_ne (by omega)).trans j33) ((va_ne (by omega)).trans (by show J 35 = tP x; rw [xP]; exact j35)) ((va_ne (by omega)).trans q3) ((va_ne (by omega)).trans j37) va_eq
  have e3 : ¬ 300 ≤ tN x := by omega
  have eb : bst (lvZ z) (zPL z) (zGO z) (alPZ z) (alcZ z) (zCa z) bd x = (true, ((bsK (lvZ z) (zPL z) (zGO z) (alPZ z) (alcZ z) (zCa z) k (tN x, tQ x, tT x)).1, tS x + 1, lwN (tQ x) (tN x), tP x, tC x, (bsK (lvZ z) (zPL z) (zGO z) (alPZ z) (alcZ z) (zCa z) k (tN x, tQ x, tT x)).2.1, (bsK (lvZ z) (zPL z) (zGO z) (alPZ z) (alcZ z) (zCa z) k (tN x, tQ x, tT x)).2.2)) := by unfold bst; rw [if_neg q1, hch]; simp only [b2, e3, if_false]
  rw [eb, if_pos rfl] at hbl
  clear eb
  refine g_iconst q_X10_lays_137 ?_
  refine g_putM fp_X10_320 q_X10_lays_138 (by repeat first | with_reducible assumption | with_reducible exact hput_s _ _ _ | refine (hput_n _ _ (by omega)).trans ?_ | exact hput_s _ _ _ | assumption) rfl rfl mset_38 ?_
  refine g_aload_n q_X10_lays_141 rfl ?_
  refine g_get fl_X10_320 q_X10_lays_142 (by repeat first | with_reducible assumption | with_reducible exact hput_s _ _ _ | refine (hput_n _ _ (by omega)).trans ?_ | exact hput_s _ _ _ | assumption) rfl ?_
  refine g_topi (b := (0 : Int)) (by rfl) ?_
  refine g_if_eq (tgt := 149) q_X10_lays_145 (by decide) ⟨by omega, by omega⟩ (fun b4 => ?_) (fun b4 => ?_)
  case refine_2 => exact absurd rfl b4
  clear b4
  obtain ⟨τ1, hτ1⟩ : ∃ τ1, τ1 = hput τ m (mdo m (va_up J 38 0)) := ⟨_, rfl⟩
  have hM1 := hM.putI (va_up J 38 0)
  have hE1 := hE.put (a := m) ⟨by omega, by omega⟩ (mdo m (va_up J 38 0))
  rw [← hτ1] at hM1 hE1 ⊢
  clear hτ1 hM hE t0 t20
  have t0 := hM1.1
  have t16 := hM1.a16
  have hn15 : va_up J 38 0 15 = zCa z := (va_ne (by omega)).trans ((hF.1 15 (by omega)).trans hz.1.2.2)
  refine g_aload_n q_X10_lays_149 rfl ?_
  refine g_iload_n q_X10_lays_150 rfl ?_
  refine g_callV (rc' := 0) (rs' := 0) (As := [_]) cs_X10_293 q_X10_lays_151 (sp_laysClashes hΓ t0 t16 hrB k (zCa z) (by omega) n5 hn15) rfl (by repeat first | with_reducible assumption | with_reducible exact hput_s _ _ _ | refine (hput_n _ _ (by omega)).trans ?_ | exact hput_s _ _ _ | assumption) rfl rfl rfl rfl (Nat.le_of_ble_eq_true rfl) (by decide) (by decide) (by decide) (fun _ _ h => h.elim) (fun v τ2 hq => ?_)
  obtain ⟨rfl, I2, rfl, hcl⟩ := hq
  obtain ⟨-, n2, n3⟩ := nd_row w ha hTI hTG hk (P := fun i => B 16 (205 * k + i)) (hNR k hk).2.2.2.2.2.1
  rw [n2] at hcl ⊢
  obtain ⟨hpos, tt, s, a, b, hfs, hI2⟩ := hcl.2.resolve_left (fun q => b2 q.1)
  clear hcl
  obtain ⟨u, hu1, hu, hs, hab, hbn, hfc, hmv⟩ := n3 tt s a b hfs
  subst hu1
  subst hI2
  clear n3 hfs
  obtain ⟨P, hP⟩ : ∃ P, P = ndP (tQ x) (alPZ z) k := ⟨_, rfl⟩
  obtain ⟨C, hC⟩ : ∃ C, C = ndC (tQ x) (alcZ z) k := ⟨_, rfl⟩
  rw [← hP, ← hC] at hfc
  rw [← hP] at hmv
  obtain ⟨τ2, hτ2⟩ : ∃ τ2, τ2 = hput τ1 m (mdo m (up4 (va_up J 38 0) (u + 1) s a b)) := ⟨_, rfl⟩
  have hM2 := hM1.putI (up4 (va_up J 38 0) (u + 1) s a b)
  have hE2 := hE1.put (a := m) ⟨by omega, by omega⟩ (mdo m (up4 (va_up J 38 0) (u + 1) s a b))
  rw [← hτ2] at hM2 hE2 ⊢
  clear hτ2 hM1 hE1 t0 t16
  have t0 := hM2.1
  have t26 := hM2.a26
  refine g_istore_n (L' := [_, _, _, _, _, _, _, _]) q_X10_lays_154 (by decide) rfl ?_
  refine g_aload_n q_X10_lays_155 rfl ?_
  refine g_get fl_X10_274 q_X10_lays_156 (by repeat first | with_reducible assumption | with_reducible exact hput_s _ _ _ | refine (hput_n _ _ (by omega)).trans ?_ | exact hput_s _ _ _ | assumption) rfl ?_
  refine g_topi (b := (s : Int)) (by rfl) ?_
  refine g_istore (L' := [_, _, _, _, _, _, _, _]) q_X10_lays_159 (by decide) rfl ?_
  refine g_aload_n q_X10_lays_161 rfl ?_
  refine g_get fl_X10_271 q_X10_lays_162 (by repeat first | with_reducible assumption | with_reducible exact hput_s _ _ _ | refine (hput_n _ _ (by omega)).trans ?_ | exact hput_s _ _ _ | assumption) rfl ?_
  refine g_topi (b := ((u + 1 : Nat) : Int)) (by rfl) ?_
  refine g_istore (L' := [_, _, _, _, _, _, _, _]) q_X10_lays_165 (by decide) rfl ?_
  refine g_aload_n q_X10_lays_167 rfl ?_
  refine g_get fl_X10_277 q_X10_lays_168 (by repeat first | with_reducible assumption | with_reducible exact hput_s _ _ _ | refine (hput_n _ _ (by omega)).trans ?_ | exact hput_s _ _ _ | assumption) rfl ?_
  refine g_topi (b := (a : Int)) (by rfl) ?_
  refine g_istore (L' := [_, _, _, _, _, _, _, _]) q_X10_lays_171 (by decide) rfl ?_
  refine g_aload_n q_X10_lays_173 rfl ?_
  refine g_get fl_X10_280 q_X10_lays_174 (by repeat first | with_reducible assumption | with_reducible exact hput_s _ _ _ | refine (hput_n _ _ (by omega)).trans ?_ | exact hput_s _ _ _ | assumption) rfl ?_
  refine g_topi (b := (b : Int)) (by rfl) ?_
  refine g_istore (L' := [_, _, _, _, _, _, _, _]) q_X10_lays_177 (by decide) rfl ?_
  refine g_aload_n q_X10_lays_179 rfl ?_
  refine g_get fl_X10_95 q_X10_lays_180 (by repeat first | with_reducible assumption | with_reducible exact hput_s _ _ _ | refine (hput_n _ _ (by omega)).trans ?_ | exact hput_s _ _ _ | assumption) rfl ?_
  refine g_iload_n q_X10_lays_183 rfl ?_
  refine g_iload_n q_X10_lays_184 rfl ?_
  refine g_if_le (tgt := 192) q_X10_lays_185 (by decide) ⟨by omega, by omega⟩ (fun b5 => ?_) (fun b5 => ?_)
  · exact absurd b5 (by omega)
  refine g_iconst q_X10_lays_188 ?_
  refine g_goto (tgt := 193) q_X10_lays_189 (by decide) ?_
  refine g_zastore q_X10_lays_193 (by repeat first | with_reducible assumption | with_reducible exact hput_s _ _ _ | refine (hput_n _ _ (by omega)).trans ?_ | exact hput_s _ _ _ | assumption) (by omega) (by omega) (by first | exact Or.inl rfl | exact Or.inr rfl | omega) ?_
  refine g_aload_n q_X10_lays_194 rfl ?_
  refine g_dup q_X10_lays_195 rfl ?_
  refine g_get fl_X10_317 q_X10_lays_196 (by repeat first | with_reducible assumption | with_reducible exact hput_s _ _ _ | refine (hput_n _ _ (by omega)).trans ?_ | exact hput_s _ _ _ | assumption) rfl ?_
  refine g_topi (b := (tS x : Int)) (by exact (show up4 (va_up J 38 0) (u + 1) s a b 37 = _ from j37)) ?_
  refine g_iconst q_X10_lays_199 ?_
  refine g_iadd q_X10_lays_200 ?_
  refine g_putM fp_X10_317 q_X10_lays_201 (by repeat first | with_reducible assumption | with_reducible exact hput_s _ _ _ | refine (hput_n _ _ (by omega)).trans ?_ | exact hput_s _ _ _ | assumption) rfl rfl mset_37 ?_
  obtain ⟨I3, hI3⟩ : ∃ I3, I3 = va_up (up4 (va_up J 38 0) (u + 1) s a b) 37 ((tS x : Int) + 1) := ⟨_, rfl⟩
  obtain ⟨τ3, hτ3⟩ : ∃ τ3, τ3 = hput (hput τ2 (m + 26) (az 302 (va_up (B 26) k 1))) m (mdo m I3) := ⟨_, rfl⟩
  refine g_eq (σ2 := τ3) rfl rfl (by rw [hτ3, hI3]; rfl) ?_
  have hM3 : MC τ3 m I3 (va_up B 26 (va_up (B 26) k 1)) N := by rw [hτ3]; exact (hM2.putA 26 (by omega) _).putI I3
  have hE3 : eqOff σ τ3 (inb m 27) := by rw [hτ3]; exact (hE2.put ⟨by omega, by omega⟩ _).put ⟨by omega, by omega⟩ _
  clear hτ3 hM2 hE2 t0 t26
  have m3 : ∀ j, j < 28 ∨ 31 < j → j ≠ 37 → j ≠ 38 → I3 j = J j := fun j hj h7 h8 => by
    rw [hI3, va_ne h7]
    unfold up4
    rw [va_ne (by omega), va_ne (by omega), va_ne (by omega), va_ne (by omega), va_ne h8]
  have m37 : I3 37 = (tS x : Int) + 1 ∧ I3 38 = 0 := by rw [hI3]; exact ⟨rfl, rfl⟩
  clear hI3
  have hT3 : TT z I3 (va_up B 26 (va_up (B 26) k 1)) (tN x) (va_up (tQ x) k (spN (tQ x k))) := hT0.split w k hk (m3 34 (by omega) (by omega) (by omega))
  obtain ⟨pn, hpn⟩ : ∃ pn, pn = va_up (tQ x) k (spN (tQ x k)) := ⟨_, rfl⟩
  have hs2 := (TI_split hTI k).2 k hk
  have hc3 := cnt_sp hk hsp
  rw [← hpn] at hT3 hs2 hc3
  have hF3 : ∀ j, j < 11 ∨ j = 17 ∨ 26 < j → va_up B 26 (va_up (B 26) k 1) j = A j := fun j hj => (va_ne (by omega)).trans (hF.2 j hj)
  have hz3 : MZ I3 (va_up B 26 (va_up (B 26) k 1)) z := hz.cg ⟨(m3 13 (by omega) (by omega) (by omega)).trans (hF.1 13 (by omega)), (m3 14 (by omega) (by omega) (by omega)).trans (hF.1 14 (by omega)), (m3 15 (by omega) (by omega) (by omega)).trans (hF.1 15 (by omega))⟩ (hF3 6 (by omega)) (hF3 8 (by omega)) (hF3 9 (by omega))
  have t0 := hM3.1
  refine g_aload_n q_X10_lays_204 rfl ?_
  refine g_iload_n q_X10_lays_205 rfl ?_
  refine g_iload q_X10_lays_206 rfl ?_
  refine g_iload q_X10_lays_208 rfl ?_
  refine g_iload q_X10_lays_210 rfl ?_
  refine g_callV (rc' := 0) (rs' := 0) (As := [_, _, _, _]) cs_X10_327 q_X10_lays_212 (sp_branches hΓ hM3 hz3 w ha hrB hT3 (by omega) hk (c := a) (by omega) hu hs (hP.trans hs2.2.symm) (hC.trans hs2.1.symm) (fun q => (hmv q).1)) rfl (by repeat first | with_reducible assumption | with_reducible exact hput_s _ _ _ | refine (hput_n _ _ (by omega)).trans ?_ | exact hput_s _ _ _ | assumption) rfl rfl rfl rfl (Nat.le_of_ble_eq_true rfl) (by decide) (by decide) (by decide) (fun _ _ h => h.elim) (fun v τ4 hq => ?_)
  obtain ⟨g1, hg1⟩ : ∃ g1, g1 = grN (lvZ z) (zPL z) (zGO z) (zCa z) pn (tN x) k a u s P C := ⟨_, rfl⟩
  rw [← hg1] at hq
  obtain ⟨rfl, hE4, I4, A4, hM4, hI4, hA4, hr4, hT4⟩ := hq
  have hE4 := hE3.trans hE4 (fun _ i => i)
  clear hM3 hE3 t0
  obtain ⟨nc1, hnc1⟩ : ∃ nc1, nc1 = gN (tN x) g1 := ⟨_, rfl⟩
  obtain ⟨pn1, hpn1⟩ : ∃ pn1, pn1 = gQ pn (tN x) g1 := ⟨_, rfl⟩
  have lnc1 : tN x ≤ nc1 ∧ nc1 ≤ tN x + 1 := by
    rw [hnc1]
    cases g1 with
    | none => exact ⟨Nat.le_refl _, Nat.le_succ _⟩
    | some q => exact ⟨Nat.le_succ _, Nat.le_refl _⟩
  have opn1 : ∀ j, j < tN x → pn1 j = pn j := fun j hj => by
    rw [hpn1]
    cases g1 with
    | none => rfl
    | some q => exact va_ne (by omega)
  rw [← hnc1, ← hpn1] at hT4
  have od := nd_old (pn2 := pn1) hT3.2.1.2.2.1 (fun j hj => by rw [opn1 j hj]; exact ⟨rfl, rfl, rfl, rfl⟩) (alPZ z) (alcZ z) k hk
  have sp1 : ∀ q, g1 = some q → pSp q = false := fun q hq => (grN_some (hg1.symm.trans hq) hL hPL hGO (by rw [hP]; exact okP_nd hTI.2.2.1 o1 k hk)).2.2.2.2.2.2.2.2.2.1
  have hz4 : MZ I4 A4 z := hz3.cg ⟨hI4 13 (by omega) (by omega), hI4 14 (by omega) (by omega), hI4 15 (by omega) (by omega)⟩ (hA4 6 (by omega)) (hA4 8 (by omega)) (hA4 9 (by omega))
  have t0 := hM4.1
  refine g_aload_n q_X10_lays_215 rfl ?_
  refine g_iload_n q_X10_lays_216 rfl ?_
  refine g_iload q_X10_lays_217 rfl ?_
  refine g_iload q_X10_lays_219 rfl ?_
  refine g_iload q_X10_lays_221 rfl ?_
  refine g_callV (rc' := 0) (rs' := 0) (As := [_, _, _, _]) cs_X10_327 q_X10_lays_223 (sp_branches hΓ hM4 hz4 w ha hr4 hT4 (by omega) (par := k) (by omega) (c := b) hbn hu hs (hP.trans (od.2.trans hs2.2).symm) (hC.trans (od.1.trans hs2.1).symm) (fun q => (hmv q).2)) rfl (by repeat first | with_reducible assumption | with_reducible exact hput_s _ _ _ | refine (hput_n _ _ (by omega)).trans ?_ | exact hput_s _ _ _ | assumption) rfl rfl rfl rfl (Nat.le_of_ble_eq_true rfl) (by decide) (by decide) (by decide) (fun _ _ h => h.elim) (fun v τ5 hq => ?_)
  obtain ⟨g2, hg2⟩ : ∃ g2, g2 = grN (lvZ z) (zPL z) (zGO z) (zCa z) pn1 nc1 k b u s P C := ⟨_, rfl⟩
  rw [← hg2] at hq
  obtain ⟨rfl, hE5, I5, A5, hM5, hI5, hA5, hr5, hT5⟩ := hq
  have hE5 := hE4.trans hE5 (fun _ i => i)
  clear hM4 hE4 t0
  have sp2 : ∀ q, g2 = some q → pSp q = false := fun q hq => (grN_some (hg2.symm.trans hq) hL hPL hGO (by rw [hP]; exact okP_nd hTI.2.2.1 o1 k hk)).2.2.2.2.2.2.2.2.2.1
  have eK : (bsK (lvZ z) (zPL z) (zGO z) (alPZ z) (alcZ z) (zCa z) k (tN x, tQ x, tT x)).1 = gN nc1 g2 ∧ (bsK (lvZ z) (zPL z) (zGO z) (alPZ z) (alcZ z) (zCa z) k (tN x, tQ x, tT x)).2.1 = gQ pn1 nc1 g2 := by
    unfold bsK
    simp only
    rw [← hP, ← hC, hfc, ← hpn]
    simp only
    obtain ⟨y, hy⟩ : ∃ y, y = gw1 (lvZ z) (zPL z) (zGO z) (zCa z) P C k u s a (tN x, pn, tT x) := ⟨_, rfl⟩
    have y1 : y.1 = nc1 ∧ y.2.1 = pn1 := by rw [hy, hnc1, hpn1, hg1]; exact gw1_g
    rw [← hy]
    obtain ⟨ya, yb, yc⟩ := y
    have ya1 : ya = nc1 := y1.1
    have yb1 : yb = pn1 := y1.2
    rw [ya1, yb1, hg2]
    exact gw1_g
  obtain ⟨x', hx'⟩ : ∃ x' : TS, x' = ((bsK (lvZ z) (zPL z) (zGO z) (alPZ z) (alcZ z) (zCa z) k (tN x, tQ x, tT x)).1, tS x + 1, lwN (tQ x) (tN x), tP x, tC x, (bsK (lvZ z) (zPL z) (zGO z) (alPZ z) (alcZ z) (zCa z) k (tN x, tQ x, tT x)).2.1, (bsK (lvZ z) (zPL z) (zGO z) (alPZ z) (alcZ z) (zCa z) k (tN x, tQ x, tT x)).2.2) := ⟨_, rfl⟩
  have x1 : tN x' = gN nc1 g2 := by rw [hx']; exact eK.1
  have x2 : tQ x' = gQ pn1 nc1 g2 := by rw [hx']; exact eK.2
  have x3 : tS x' = tS x + 1 ∧ tL x' = lwN (tQ x) (tN x) ∧ tP x' = tP x ∧ tC x' = tC x := by rw [hx']; exact ⟨rfl, rfl, rfl, rfl⟩
  rw [← hx'] at hbl
  have fI : ∀ j, j < 28 ∨ 31 < j → j ≠ 34 → I5 j = I3 j := fun j h1 h2 => (hI5 j h1 h2).trans (hI4 j h1 h2)
  have hp' : lyP σ m I A N z bd g x' τ5 I5 A5 := by
    refine ⟨⟨by rw [x3.1]; omega, hbl⟩, hM5, hE5, ⟨fun j hj => (fI j (by omega) (by omega)).trans ((m3 j (by omega) (by omega) (by omega)).trans (hF.1 j hj)), fun j hj => (hA5 j hj).trans ((hA4 j hj).trans (hF3 j hj))⟩, hr5, by rw [x1, x2]; exact hT5, ⟨(fI 33 (by omega) (by omega)).trans ((m3 33 (by omega) (by omega) (by omega)).trans j33), (fI 35 (by omega) (by omega)).trans ((m3 35 (by omega) (by omega) (by omega)).trans j35), ?_, (fI 38 (by omega) (by omega)).trans m37.2, by rw [x3.2.2.1]; exact xP, by rw [x3.2.2.2]; exact xC⟩, ?_⟩
    · rw [fI 37 (by omega) (by omega), m37.1, x3.1]
      omega
    · rw [x1, x2, cnt_g sp2, hpn1, hnc1, cnt_g sp1, hc3, hcn, x3.1]
      omega
  have h36 : I5 36 = tL x' := by
    rw [fI 36 (by omega) (by omega), m3 36 (by omega) (by omega) (by omega), x3.2.1]
    exact q3
  have t0 := hM5.1
  refine g_aload_n q_X10_lays_226 rfl ?_
  refine g_iload_n q_X10_lays_227 rfl ?_
  refine g_callV (rc' := 0) (rs' := 0) (As := [_]) cs_X10_324 q_X10_lays_228 (sp_chosen hΓ hM5 (x1 ▸ x2 ▸ hT5 : TT z I5 A5 (tN x') (tQ x')).1 (Nat.le_succ_of_le (okx hp').2.1) hp'.2.2.2.2.2.1.ro (okx hp').1 bd hb') rfl (by repeat first | with_reducible assumption | with_reducible exact hput_s _ _ _ | refine (hput_n _ _ (by omega)).trans ?_ | exact hput_s _ _ _ | assumption) rfl rfl rfl rfl (Nat.le_of_ble_eq_true rfl) (by decide) (by decide) (by decide) (fun _ _ h => h.elim) (fun v τ6 hq => ?_)
  obtain ⟨node', I6, rfl, hP6, hC6⟩ := hp'.ch h36 hq
  refine g_istore_n (L' := [_, _, _, _, _, _, _, _]) q_X10_lays_231 (by decide) rfl ?_
  refine g_goto (tgt := 102) q_X10_lays_232 (by decide) ?_
  exact g_fl (ih g x' node' τ6 I6 A5 hP6 hC6 (Nat.lt_succ_self g)) ⟨rfl, rfl, rfl, trivial⟩
end LY

