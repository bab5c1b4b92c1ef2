/-! laysFar of the reference -/
/-- within round F of laysFar, behind the pairs (cell, move) ahead of (k, mm) -/
def fI (z : PS) (so : Nat → Int) (pl F k mm : Nat) (f : Nat → Int) : Prop := ∀ c, c < 36 → (fstN (fun t => hH z pl t c) (F + 1) ≠ -1 → f c = fstN (fun t => hH z pl t c) (F + 1)) ∧ (fstN (fun t => hH z pl t c) (F + 1) = -1 → (f c = -1 ∨ f c = F + 1) ∧ (f c = F + 1 → hH z pl (F + 1) c = true) ∧ ∀ k' m', m' < 4 → (k' < k ∨ k' = k ∧ m' < mm) → fstN (fun t => hH z pl t k') (F + 1) = F → nxt so (zCo z) (zRo z) k' m' = c → f c = F + 1)
section FI
variable {z : PS} {I : Nat → Int} {A : Nat → Nat → Int} {so : Nat → Int} {pl F k mm d : Nat} {f : Nat → Int}
theorem fI_0 (h : ∀ c, c < 36 → f c = fstN (fun t => hH z pl t c) (F + 1)) : fI z so pl F 0 0 f := fun c hc => ⟨fun _ => h c hc, fun e => ⟨Or.inl (by rw [h c hc, e]), fun q => by rw [h c hc, e] at q; omega, fun k' m' _ q => by omega⟩⟩
theorem fI_k (h : fI z so pl F k 4 f) : fI z so pl F (k + 1) 0 f := fun c hc => ⟨(h c hc).1, fun e => by
  obtain ⟨q1, q2, q3⟩ := (h c hc).2 e
  exact ⟨q1, q2, fun k' m' h1 h2 => q3 k' m' h1 (by omega)⟩⟩
theorem fI_g (h : fI z so pl F k mm f) (hk : k < 36) : f k = F ↔ fstN (fun t => hH z pl t k) (F + 1) = F := by
  by_cases e : fstN (fun t => hH z pl t k) (F + 1) = -1
  · have := ((h k hk).2 e).1
    rw [e]
    omega
  · rw [(h k hk).1 e]
theorem fI_no (h : fI z so pl F k mm f) (hk : k < 36) (hn : f k ≠ F) : fI z so pl F (k + 1) 0 f := fun c hc => ⟨(h c hc).1, fun e => by
  obtain ⟨q1, q2, q3⟩ := (h c hc).2 e
  refine ⟨q1, q2, fun k' m' h1 h2 h3 => ?_⟩
  by_cases e2 : k' = k
  · rw [e2] at h3
    exact absurd ((fI_g h hk).mpr h3) hn
  · exact q3 k' m' h1 (by omega) h3⟩
theorem fI_skip (h : fI z so pl F k mm f) (hn : nxt so (zCo z) (zRo z) k mm = -1 ∨ f (nxt so (zCo z) (zRo z) k mm).toNat ≠ -1) : fI z so pl F k (mm + 1) f := fun c hc => ⟨(h c hc).1, fun e => by
  obtain ⟨q1, q2, q3⟩ := (h c hc).2 e
  refine ⟨q1, q2, fun k' m' h1 h2 h3 h4 => ?_⟩
  by_cases e2 : k' = k ∧ m' = mm
  · rw [e2.1, e2.2] at h4
    rw [h4, Int.toNat_natCast] at hn
    omega
  · exact q3 k' m' h1 (by omega) h3 h4⟩
theorem fI_put (w : WFz z) (hz : MZ I A z) (hp : gIn (zCo z) (zRo z) pl) (hp1 : zSO z pl ≠ 1) (hF : F < 36) (h : fI z (A 6) pl F k mm f) (hk : k < 36) (hm : mm < 4) (hf : f k = F) (hd : d < 36) (hn : nxt (A 6) (zCo z) (zRo z) k mm = d) (hfd : f d = -1) : fI z (A 6) pl F k (mm + 1) (va_up f d (F + 1)) := fun c hc => by
  by_cases ec : c = d
  · rw [ec, va_eq]
    have hg : fstN (fun t => hH z pl t d) (F + 1) = -1 := by
      refine Classical.byContradiction fun q => ?_
      exact q (((h d hd).1 q).symm.trans hfd)
    refine ⟨fun q => absurd hg q, fun _ => ⟨Or.inr rfl, fun _ => ?_, fun _ _ _ _ _ _ => rfl⟩⟩
    have hgk := (fI_g h hk).mp hf
    rcases fstN_cases (fun t => hH z pl t k) (F + 1) with ⟨e, -⟩ | ⟨u, hu, e, hb, -⟩
    · rw [e] at hgk; omega
    · have : u = F := by omega
      rw [this] at hb
      exact (hH_s w hz hp hp1 (by omega) hd).mpr (Or.inr ⟨k, mm, hk, hm, hb, hn⟩)
  · rw [va_ne ec]
    refine ⟨(h c hc).1, fun e => ?_⟩
    obtain ⟨q1, q2, q3⟩ := (h c hc).2 e
    refine ⟨q1, q2, fun k' m' h1 h2 h3 h4 => ?_⟩
    by_cases e2 : k' = k ∧ m' = mm
    · rw [e2.1, e2.2, hn] at h4
      omega
    · exact q3 k' m' h1 (by omega) h3 h4
theorem fI_end (w : WFz z) (hz : MZ I A z) (hp : gIn (zCo z) (zRo z) pl) (hp1 : zSO z pl ≠ 1) (hF : F < 36) (h : fI z (A 6) pl F 36 0 f) : ∀ c, c < 36 → f c = fstN (fun t => hH z pl t c) (F + 1 + 1) := by
  intro c hc
  rcases fstN_cases (fun t => hH z pl t c) (F + 1) with ⟨e, hno⟩ | ⟨u, hu, e, hb, hno⟩
  · obtain ⟨q1, q2, q3⟩ := (h c hc).2 e
    cases eb : hH z pl (F + 1) c with
    | true =>
      have ef : f c = F + 1 := by
        rcases (hH_s w hz hp hp1 (t := F) (d := c) (by omega) hc).mp eb with q | ⟨k, m, hk, hm, hb, hn⟩
        · have := hno F (by omega)
          rw [q] at this
          cases this
        · refine q3 k m hm (Or.inl hk) ?_ hn
          rcases fstN_cases (fun t => hH z pl t k) (F + 1) with ⟨e1, hno1⟩ | ⟨u, hu, e1, hb1, -⟩
          · have := hno1 F (by omega)
            rw [hb] at this
            cases this
          · by_cases eu : u = F
            · rw [e1, eu]
            · have h1 := (hH_s w hz hp hp1 (t := u) (d := c) (by omega) hc).mpr (Or.inr ⟨k, m, hk, hm, hb1, hn⟩)
              have h2 := hno (u + 1) (by omega)
              rw [h1] at h2
              cases h2
      rw [ef]
      refine (fstN_some (k := F + 1) (by omega) eb fun j hj => hno j (by omega)).symm
    | false =>
      have ef : f c = -1 := by
        rcases q1 with q | q
        · exact q
        · have := q2 q
          rw [eb] at this
          cases this
      rw [ef]
      refine (fstN_none fun j hj => ?_).symm
      by_cases ej : j = F + 1
      · rw [ej]; exact eb
      · exact hno j (by omega)
  · rw [(h c hc).1 (by rw [e]; omega), e]
    exact (fstN_some (k := u) (by omega) hb hno).symm
end FI
section LF
variable {Γ : GT} {σ σ' : AH} {m : Nat} {I J : Nat → Int} {A A' : Nat → Nat → Int} {N : Nat → Nat → BitVec 64} {z : PS}
theorem sp_laysFar (hΓ : Gd Γ) (h : MC σ m I A N) (hz : MZ I A z) (w : WFz z) {pl : Nat} (hp : gIn (zCo z) (zRo z) pl) (hp1 : zSO z pl ≠ 1) : Sp Γ miX10_laysFar 0 0 [.ref m, .int (ii pl)] σ (fun r σ' => r = none ∧ eqOff σ σ' (inb (m + 17) 1) ∧ ∃ f, MC σ' m I (va_up A 17 f) N ∧ ∀ c, c < 36 → f c = fstN (fun t => hH z pl t c) 37) noX := by
  have h0 := h.1
  have h17 := h.a17
  have h36 : pl < 36 := gIn_36 w.1.1.2.1 hp
  have hG := hz.g h w
  have c6 := w.1.1.1
  have r6 := w.1.1.2.1
  refine Sp_of (L := [_, _, _, _, _]) hΓ (by decide +kernel) rfl (Nat.le_of_ble_eq_true rfl) rfl ?_
  refine g_iconst q_X10_laysFar_0 ?_
  refine g_istore_n (L' := [_, _, _, _, _]) q_X10_laysFar_1 (by decide) rfl ?_
  refine g_loop2 (fun (k : Nat) (τ : AH) => k ≤ 36 ∧ eqOff σ τ (inb (m + 17) 1) ∧ ∃ f, τ.2 (m + 17) = some (ai 36 f) ∧ ∀ j, j < k → f j = -1) (fun k τ => G Γ _ cX10_laysFar _ _ 0 0 2 [some (.ref m), some (.int (ii pl)), some (.int (ii k)), none, none] [] τ) (fun k τ => 36 - k) ?_ 0 σ ⟨Nat.zero_le _, eqOff.rfl', A 17, h17, fun j hj => absurd hj (Nat.not_lt_zero j)⟩
  rintro k τ ⟨hk, hE, f, t17, hf⟩ ih
  have t0 := (hE.2 m (by unfold inb; omega)).trans h0
  refine g_iload_n q_X10_laysFar_2 rfl ?_
  refine g_bipush q_X10_laysFar_3 bp_36 ?_
  refine g_icmp_ge (tgt := 21) q_X10_laysFar_5 (by decide) ⟨by omega, by omega⟩ ⟨by omega, by omega⟩ (fun b1 => ?_) (fun b1 => ?_)
  case refine_2 =>
    have hnx := ih (k + 1) _ ⟨by omega, hE.put (a := m + 17) ⟨by omega, by omega⟩ (ai 36 (va_up f k (-1))), _, hput_s _ _ _, fun j hj => by
      by_cases e : j = k
      · rw [e, va_eq]
      · rw [va_ne e]; exact hf j (by omega)⟩ (by omega)
    refine g_aload_n q_X10_laysFar_8 rfl ?_
    refine g_get fl_X10_65 q_X10_laysFar_9 (by repeat first | with_reducible assumption | with_reducible exact hput_s _ _ _ | refine (hput_n _ _ (by omega)).trans ?_ | exact hput_s _ _ _ | assumption) rfl ?_
    refine g_iload_n q_X10_laysFar_12 rfl ?_
    refine g_iconst q_X10_laysFar_13 ?_
    refine g_iastore q_X10_laysFar_14 (by repeat first | with_reducible assumption | with_reducible exact hput_s _ _ _ | refine (hput_n _ _ (by omega)).trans ?_ | exact hput_s _ _ _ | assumption) (by omega) (by omega) ?_
    refine g_iinc (L' := [_, _, _, _, _]) q_X10_laysFar_15 rfl rfl ?_
    refine g_goto (tgt := 2) q_X10_laysFar_18 (by decide) ?_
    exact hnx
  have e : k = 36 := by omega
  subst e
  clear ih
  refine g_aload_n q_X10_laysFar_21 rfl ?_
  refine g_get fl_X10_65 q_X10_laysFar_22 (by repeat first | with_reducible assumption | with_reducible exact hput_s _ _ _ | refine (hput_n _ _ (by omega)).trans ?_ | exact hput_s _ _ _ | assumption) rfl ?_
  refine g_iload_n q_X10_laysFar_25 rfl ?_
  refine g_iconst q_X10_laysFar_26 ?_
  refine g_iastore q_X10_laysFar_27 (by repeat first | with_reducible assumption | with_reducible exact hput_s _ _ _ | refine (hput_n _ _ (by omega)).trans ?_ | exact hput_s _ _ _ | assumption) (by omega) (by omega) ?_
  refine g_iconst q_X10_laysFar_28 ?_
  refine g_istore_n (L' := [_, _, _, _, _]) q_X10_laysFar_29 (by decide) rfl ?_
  have s0 : ∀ c, c < 36 → va_up f pl 0 c = fstN (fun t => hH z pl t c) (0 + 1) := by
    intro c hc
    by_cases e : c = pl
    · rw [e, va_eq]
      exact (fstN_some (p := fun t => hH z pl t pl) (n := 0 + 1) (k := 0) (by omega) (hH_0 (pl := pl) (by omega)) (fun j hj => absurd hj (Nat.not_lt_zero j))).symm
    · rw [va_ne e, hf c hc]
      refine (fstN_none (p := fun t => hH z pl t c) (n := 0 + 1) fun j hj => ?_).symm
      have : j = 0 := by omega
      rw [this]
      show (bt1 pl &&& ((0 : BitVec 64) ^^^ FF)).getLsbD c = false
      rw [zx_FF, ax_FF, bt1_b (by omega)]
      exact decide_eq_false e
  refine g_fl (L2 := [some (.ref m), some (.int (ii pl)), some (.int (ii ((0 : Nat) : Int))), none, none]) ?_ ⟨rfl, rfl, rfl, trivial⟩
  refine g_loop2 (fun (F : Nat) (τ : AH) => F ≤ 36 ∧ eqOff σ τ (inb (m + 17) 1) ∧ ∃ f, τ.2 (m + 17) = some (ai 36 f) ∧ ∀ c, c < 36 → f c = fstN (fun t => hH z pl t c) (F + 1)) (fun F τ => G Γ _ cX10_laysFar _ _ 0 0 30 [some (.ref m), some (.int (ii pl)), some (.int (ii F)), none, none] [] τ) (fun F τ => 36 - F) ?_ 0 _ ⟨Nat.zero_le _, hE.put (a := m + 17) ⟨by omega, by omega⟩ _, _, hput_s _ _ _, s0⟩
  clear s0 b1 t0 hf t17 hE f τ hk
  rintro F τ ⟨hF, hE, f, t17, hf⟩ ih
  refine g_iload_n q_X10_laysFar_30 rfl ?_
  refine g_bipush q_X10_laysFar_31 bp_36 ?_
  refine g_icmp_ge (tgt := 123) q_X10_laysFar_33 (by decide) ⟨by omega, by omega⟩ ⟨by omega, by omega⟩ (fun b1 => ?_) (fun b1 => ?_)
  · have e : F = 36 := by omega
    subst e
    refine g_return q_X10_laysFar_123.1 rfl ?_
    refine ⟨rfl, hE, f, h.frame hE (by omega) (fun k hk => va_ne (by omega)) (fun k h1 h2 _ => ?_), hf⟩
    have : k = 17 := by omega
    subst this
    rw [va_eq]
    exact t17
  have hF36 : F < 36 := by omega
  refine g_iconst q_X10_laysFar_36 ?_
  refine g_istore_n (L' := [_, _, _, _, _]) q_X10_laysFar_37 (by decide) rfl ?_
  refine g_loop2 (fun (k : Nat) (τ : AH) => k ≤ 36 ∧ eqOff σ τ (inb (m + 17) 1) ∧ ∃ f, τ.2 (m + 17) = some (ai 36 f) ∧ fI z (A 6) pl F k 0 f) (fun k τ => G Γ _ cX10_laysFar _ _ 0 0 38 [some (.ref m), some (.int (ii pl)), some (.int (ii F)), some (.int (ii k)), none] [] τ) (fun k τ => 36 - k) ?_ 0 τ ⟨Nat.zero_le _, hE, f, t17, fI_0 hf⟩
  clear hf t17 hE f τ
  rintro k τ ⟨hk, hE, f, t17, hf⟩ ih2
  refine g_iload_n q_X10_laysFar_38 rfl ?_
  refine g_bipush q_X10_laysFar_39 bp_36 ?_
  refine g_icmp_ge (tgt := 117) q_X10_laysFar_41 (by decide) ⟨by omega, by omega⟩ ⟨by omega, by omega⟩ (fun b2 => ?_) (fun b2 => ?_)
  · have e : k = 36 := by omega
    subst e
    have hnx := ih (F + 1) τ ⟨by omega, hE, f, t17, fI_end w hz hp hp1 hF36 hf⟩ (by omega)
    refine g_iinc (L' := [_, _, _, _, _]) q_X10_laysFar_117 rfl rfl ?_
    refine g_goto (tgt := 30) q_X10_laysFar_120 (by decide) ?_
    refine g_fl hnx ⟨rfl, rfl, rfl, trivial⟩
  have hk36 : k < 36 := by omega
  refine g_iconst q_X10_laysFar_44 ?_
  refine g_istore (L' := [_, _, _, _, _]) q_X10_laysFar_45 (by decide) rfl ?_
  refine g_loop2 (fun (mm : Nat) (τ : AH) => mm ≤ 4 ∧ eqOff σ τ (inb (m + 17) 1) ∧ ∃ f, τ.2 (m + 17) = some (ai 36 f) ∧ fI z (A 6) pl F k mm f) (fun mm τ => G Γ _ cX10_laysFar _ _ 0 0 47 [some (.ref m), some (.int (ii pl)), some (.int (ii F)), some (.int (ii k)), some (.int (ii mm))] [] τ) (fun mm τ => 4 - mm) ?_ 0 τ ⟨Nat.zero_le _, hE, f, t17, hf⟩
  clear hf t17 hE f τ
  rintro mm τ ⟨hm, hE, f, t17, hf⟩ ih3
  have t0 := (hE.2 m (by unfold inb; omega)).trans h0
  have tG : MG τ m I (zCo z) (zRo z) (A 6) := ⟨t0, hG.2.1, hG.2.2.1, c6, r6, (hE.2 (m + 6) (by unfold inb; omega)).trans hG.2.2.2.2.2.1, hG.2.2.2.2.2.2⟩
  have out : fI z (A 6) pl F (k + 1) 0 f → ∀ l4, G Γ miX10_laysFar cX10_laysFar (fun r σ' => r = none ∧ eqOff σ σ' (inb (m + 17) 1) ∧ ∃ f, MC σ' m I (va_up A 17 f) N ∧ ∀ c, c < 36 → f c = fstN (fun t => hH z pl t c) 37) noX 0 0 111 [some (.ref m), some (.int (ii pl)), some (.int (ii F)), some (.int (ii k)), l4] [] τ := by
    intro hf2 l4
    have hnx := ih2 (k + 1) τ ⟨by omega, hE, f, t17, hf2⟩ (by omega)
    refine g_iinc (L' := [_, _, _, _, _]) q_X10_laysFar_111 rfl rfl ?_
    refine g_goto (tgt := 38) q_X10_laysFar_114 (by decide) ?_
    exact g_fl hnx ⟨rfl, rfl, rfl, rfl, trivial⟩
  refine g_iload q_X10_laysFar_47 rfl ?_
  refine g_iconst q_X10_laysFar_49 ?_
  refine g_icmp_ge (tgt := 111) q_X10_laysFar_50 (by decide) ⟨by omega, by omega⟩ ⟨by omega, by omega⟩ (fun b3 => ?_) (fun b3 => ?_)
  · have e : mm = 4 := by omega
    subst e
    exact out (fI_k hf) _
  have hfr : rg (f k) := by
    have g := fstN_rg (fun t => hH z pl t k) (F + 1)
    by_cases e : fstN (fun t => hH z pl t k) (F + 1) = -1
    · have := ((hf k hk36).2 e).1
      unfold rg
      omega
    · rw [(hf k hk36).1 e]
      unfold rg
      omega
  refine g_aload_n q_X10_laysFar_53 rfl ?_
  refine g_get fl_X10_65 q_X10_laysFar_54 (by repeat first | with_reducible assumption | with_reducible exact hput_s _ _ _ | refine (hput_n _ _ (by omega)).trans ?_ | exact hput_s _ _ _ | assumption) rfl ?_
  refine g_iload_n q_X10_laysFar_57 rfl ?_
  refine g_iaload q_X10_laysFar_58 (by repeat first | with_reducible assumption | with_reducible exact hput_s _ _ _ | refine (hput_n _ _ (by omega)).trans ?_ | exact hput_s _ _ _ | assumption) (by omega) (by omega) ?_
  refine g_iload_n q_X10_laysFar_59 rfl ?_
  refine g_icmp_ne (tgt := 111) q_X10_laysFar_60 (by decide) hfr ⟨by omega, by omega⟩ (fun b4 => ?_) (fun b4 => ?_)
  · exact out (fI_no hf hk36 b4) _
  have skip : fI z (A 6) pl F k (mm + 1) f → G Γ miX10_laysFar cX10_laysFar (fun r σ' => r = none ∧ eqOff σ σ' (inb (m + 17) 1) ∧ ∃ f, MC σ' m I (va_up A 17 f) N ∧ ∀ c, c < 36 → f c = fstN (fun t => hH z pl t c) 37) noX 0 0 105 [some (.ref m), some (.int (ii pl)), some (.int (ii F)), some (.int (ii k)), some (.int (ii mm))] [] τ := by
    intro hf2
    have hnx := ih3 (mm + 1) τ ⟨by omega, hE, f, t17, hf2⟩ (by omega)
    refine g_iinc (L' := [_, _, _, _, _]) q_X10_laysFar_105 rfl rfl ?_
    refine g_goto (tgt := 47) q_X10_laysFar_108 (by decide) ?_
    exact hnx
  have hnr := nxt_rg (so := A 6) (m := mm) c6 r6 hk36
  refine g_aload_n q_X10_laysFar_63 rfl ?_
  refine g_iload_n q_X10_laysFar_64 rfl ?_
  refine g_iload q_X10_laysFar_65 rfl ?_
  refine g_callV (rc' := 0) (rs' := 0) (As := [_, _]) cs_X10_250 q_X10_laysFar_67 (sp_next hΓ tG k mm hk36 (by omega)) rfl (by repeat first | with_reducible assumption | with_reducible exact hput_s _ _ _ | refine (hput_n _ _ (by omega)).trans ?_ | exact hput_s _ _ _ | assumption) rfl rfl rfl rfl (Nat.le_of_ble_eq_true rfl) (by decide) (by decide) (by decide) (fun _ _ h => h.elim) (k_ri ?_)
  refine g_iconst q_X10_laysFar_70 ?_
  refine g_icmp_eq (tgt := 105) q_X10_laysFar_71 (by decide) ⟨by omega, by omega⟩ ⟨by omega, by omega⟩ (fun b5 => ?_) (fun b5 => ?_)
  · exact skip (fI_skip hf (Or.inl b5))
  obtain ⟨d, hd⟩ : ∃ d : Nat, nxt (A 6) (zCo z) (zRo z) k mm = d := ⟨(nxt (A 6) (zCo z) (zRo z) k mm).toNat, by omega⟩
  have hd36 : d < 36 := by omega
  have hfd : rg (f d) := by
    have g := fstN_rg (fun t => hH z pl t d) (F + 1)
    by_cases e : fstN (fun t => hH z pl t d) (F + 1) = -1
    · have := ((hf d hd36).2 e).1
      unfold rg
      omega
    · rw [(hf d hd36).1 e]
      unfold rg
      omega
  refine g_aload_n q_X10_laysFar_74 rfl ?_
  refine g_get fl_X10_65 q_X10_laysFar_75 (by repeat first | with_reducible assumption | with_reducible exact hput_s _ _ _ | refine (hput_n _ _ (by omega)).trans ?_ | exact hput_s _ _ _ | assumption) rfl ?_
  refine g_aload_n q_X10_laysFar_78 rfl ?_
  refine g_iload_n q_X10_laysFar_79 rfl ?_
  refine g_iload q_X10_laysFar_80 rfl ?_
  refine g_callV (rc' := 0) (rs' := 0) (As := [_, _]) cs_X10_250 q_X10_laysFar_82 (sp_next hΓ tG k mm hk36 (by omega)) rfl (by repeat first | with_reducible assumption | with_reducible exact hput_s _ _ _ | refine (hput_n _ _ (by omega)).trans ?_ | exact hput_s _ _ _ | assumption) rfl rfl rfl rfl (Nat.le_of_ble_eq_true rfl) (by decide) (by decide) (by decide) (fun _ _ h => h.elim) (k_ri ?_)
  rw [hd]
  refine g_iaload q_X10_laysFar_85 (by repeat first | with_reducible assumption | with_reducible exact hput_s _ _ _ | refine (hput_n _ _ (by omega)).trans ?_ | exact hput_s _ _ _ | assumption) (by omega) (by omega) ?_
  refine g_iconst q_X10_laysFar_86 ?_
  refine g_icmp_ne (tgt := 105) q_X10_laysFar_87 (by decide) hfd ⟨by omega, by omega⟩ (fun b6 => ?_) (fun b6 => ?_)
  · exact skip (fI_skip hf (Or.inr (by rw [hd, Int.toNat_natCast]; exact b6)))
  have hnx := ih3 (mm + 1) _ ⟨by omega, hE.put (a := m + 17) ⟨by omega, by omega⟩ (ai 36 (va_up f d (F + 1))), _, hput_s _ _ _, fI_put w hz hp hp1 hF36 hf hk36 (by omega) b4 hd36 hd b6⟩ (by omega)
  refine g_aload_n q_X10_laysFar_90 rfl ?_
  refine g_get fl_X10_65 q_X10_laysFar_91 (by repeat first | with_reducible assumption | with_reducible exact hput_s _ _ _ | refine (hput_n _ _ (by omega)).trans ?_ | exact hput_s _ _ _ | assumption) rfl ?_
  refine g_aload_n q_X10_laysFar_94 rfl ?_
  refine g_iload_n q_X10_laysFar_95 rfl ?_
  refine g_iload q_X10_laysFar_96 rfl ?_
  refine g_callV (rc' := 0) (rs' := 0) (As := [_, _]) cs_X10_250 q_X10_laysFar_98 (sp_next hΓ tG k mm hk36 (by omega)) rfl (by repeat first | with_reducible assumption | with_reducible exact hput_s _ _ _ | refine (hput_n _ _ (by omega)).trans ?_ | exact hput_s _ _ _ | assumption) rfl rfl rfl rfl (Nat.le_of_ble_eq_true rfl) (by decide) (by decide) (by decide) (fun _ _ h => h.elim) (k_ri ?_)
  rw [hd]
  refine g_iload_n q_X10_laysFar_101 rfl ?_
  refine g_iconst q_X10_laysFar_102 ?_
  refine g_iadd q_X10_laysFar_103 ?_
  refine g_iastore q_X10_laysFar_104 (by repeat first | with_reducible assumption | with_reducible exact hput_s _ _ _ | refine (hput_n _ _ (by omega)).trans ?_ | exact hput_s _ _ _ | assumption) (by omega) (by omega) ?_
  refine g_iinc (L' := [_, _, _, _, _]) q_X10_laysFar_105 rfl rfl ?_
  refine g_goto (tgt := 47) q_X10_laysFar_108 (by decide) ?_
  exact hnx
end LF

