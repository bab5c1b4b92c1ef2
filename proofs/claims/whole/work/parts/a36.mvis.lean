/-! the reference: laysVisits -/
/-- the visits of cart c ahead of time t -/
def IV (P : Nat → Int) (c t v : Nat) (Tc : Nat → Nat) : Prop := v ≤ t ∧ (0 < t → 1 ≤ v) ∧ (0 < v → Tc 0 = 0) ∧ (∀ i, i < v → Tc i < t) ∧ (∀ i, i + 1 < v → Tc i < Tc (i + 1) ∧ cmz P c (Tc (i + 1) - 1) = true) ∧ ∀ i, i < v → ∀ s, Tc i ≤ s → s + 1 < t → (i + 1 < v → s + 1 < Tc (i + 1)) → cmz P c s = false
def vrO (P : Nat → Int) (c v : Nat) (Tc : Nat → Nat) (f27 f28 f29 f30 : Nat → Int) : Prop := f27 c = v ∧ ∀ i, i < v → f28 (41 * c + i) = P (41 * c + Tc i) ∧ f29 (41 * c + i) = (Tc i : Int) ∧ f30 (41 * c + i) = (Tc i : Int)
theorem IV.skip {P : Nat → Int} {c t v : Nat} {Tc : Nat → Nat} (h : IV P c t v Tc) (ht : 0 < t) (hz : cmz P c (t - 1) = false) : IV P c (t + 1) v Tc := by
  obtain ⟨h1, h2, h3, h4, h5, h6⟩ := h
  refine ⟨by omega, fun _ => h2 ht, h3, fun i hi => by have := h4 i hi; omega, h5, fun i hi s q1 q2 q3 => ?_⟩
  by_cases e : s + 1 = t
  · have : s = t - 1 := by omega
    rw [this]
    exact hz
  · exact h6 i hi s q1 (by omega) q3
theorem IV.more {P : Nat → Int} {c t v : Nat} {Tc : Nat → Nat} (h : IV P c t v Tc) (hz : 0 < t → cmz P c (t - 1) = true) : IV P c (t + 1) (v + 1) (va_up Tc v t) := by
  obtain ⟨h1, h2, h3, h4, h5, h6⟩ := h
  refine ⟨by omega, fun _ => by omega, fun _ => ?_, fun i hi => ?_, fun i hi => ?_, fun i hi s q1 q2 q3 => ?_⟩
  · by_cases e : v = 0
    · rw [e, va_eq]
      omega
    · rw [va_ne (by omega)]
      exact h3 (by omega)
  · by_cases e : i = v
    · rw [e, va_eq]; omega
    · rw [va_ne e]
      have := h4 i (by omega)
      omega
  · rw [va_ne (show i ≠ v by omega)]
    by_cases e : i + 1 = v
    · rw [e, va_eq]
      have := h4 i (by omega)
      exact ⟨this, hz (by omega)⟩
    · rw [va_ne e]
      exact h5 i (by omega)
  · by_cases e : i = v
    · rw [e, va_eq] at q1
      omega
    · rw [va_ne e] at q1
      by_cases e2 : i + 1 = v
      · have := q3 (by omega)
        rw [e2, va_eq] at this
        exact h6 i (by omega) s q1 (by omega) (fun q => by omega)
      · have := q3 (by omega)
        rw [va_ne e2] at this
        have h41 := h4 (i + 1) (by omega)
        exact h6 i (by omega) s q1 (by omega) (fun _ => this)
theorem VT_of {P : Nat → Int} {n : Nat} {vn : Nat → Nat} {T : Nat → Nat → Nat} (h : ∀ c, c < n → IV P c 41 (vn c) (T c)) : VT P n vn T := fun c hc => by
  obtain ⟨h1, h2, h3, h4, h5, h6⟩ := h c hc
  have := h2 (by omega)
  exact ⟨⟨this, h1⟩, h3 (by omega), fun i hi => by have := h4 i hi; omega, h5, fun i hi s q1 q2 q3 => h6 i hi s q1 (by omega) q3⟩
section MVi
variable {Γ : GT} {σ : AH} {m : Nat} {J : Nat → Int} {P W : Nat → Int} {n kp : Nat}
def vcO (σ ω : AH) (m : Nat) (f27 f28 f29 f30 : Nat → Int) : Prop := eqOff σ ω (inb (m + 27) 4) ∧ ω.2 (m + 27) = some (ai 5 f27) ∧ ω.2 (m + 28) = some (ai 205 f28) ∧ ω.2 (m + 29) = some (ai 205 f29) ∧ ω.2 (m + 30) = some (ai 205 f30)
/-- behind laysVisits -/
def viQ (P : Nat → Int) (n : Nat) (vn : Nat → Nat) (T : Nat → Nat → Nat) (f27 f28 f29 f30 : Nat → Int) : Prop := VT P n vn T ∧ ∀ c, c < n → vrO P c (vn c) (T c) f27 f28 f29 f30
theorem sp_laysVisits (hΓ : Gd Γ) (h0 : σ.2 m = some (mdo m J)) (h16 : σ.2 (m + 16) = some (ai 62115 W)) {g27 g28 g29 g30 : Nat → Int} (hv : vcO σ σ m g27 g28 g29 g30) (j35 : J 35 = kp) (j15 : J 15 = n) (hk : kp < 302) (n5 : n ≤ 5) (hP : ∀ i, i < 41 * n → W (205 * kp + i) = P i) (hPr : ∀ i, i < 41 * n → rg (P i)) : Sp Γ miX10_laysVisits 0 0 [.ref m] σ (fun r ω => r = none ∧ ∃ f27 f28 f29 f30 vn T, vcO σ ω m f27 f28 f29 f30 ∧ viQ P n vn T f27 f28 f29 f30) noX := by
  refine Sp_of (L := [_, _, _, _]) hΓ (by decide +kernel) rfl (Nat.le_of_ble_eq_true rfl) rfl ?_
  refine g_iconst q_X10_laysVisits_0 ?_
  refine g_istore_n (L' := [_, _, _, _]) q_X10_laysVisits_1 (by decide) rfl ?_
  refine g_loop2 (fun (c : Nat) (ω : AH) => c ≤ n ∧ ∃ f27 f28 f29 f30, vcO σ ω m f27 f28 f29 f30 ∧ ∀ b, b < c → ∃ v Tc, IV P b 41 v Tc ∧ vrO P b v Tc f27 f28 f29 f30) (fun c ω => G Γ _ cX10_laysVisits _ _ 0 0 2 [some (.ref m), some (.int (ii c)), none, none] [] ω) (fun c ω => n - c) ?_ 0 σ ⟨Nat.zero_le _, g27, g28, g29, g30, hv, fun b hb => absurd hb (Nat.not_lt_zero b)⟩
  rintro c ω ⟨hc, f27, f28, f29, f30, hω, hrows⟩ ih
  obtain ⟨hE, w27, w28, w29, w30⟩ := hω
  have w0 := (hE.2 m (by unfold inb; omega)).trans h0
  refine g_iload_n q_X10_laysVisits_2 rfl ?_
  refine g_aload_n q_X10_laysVisits_3 rfl ?_
  refine g_get fl_X10_220 q_X10_laysVisits_4 (by repeat first | with_reducible assumption | with_reducible exact hput_s _ _ _ | refine (hput_n _ _ (by omega)).trans ?_ | exact hput_s _ _ _ | assumption) rfl ?_
  refine g_topi (b := (n : Int)) (by exact j15) ?_
  refine g_icmp_ge (tgt := 121) q_X10_laysVisits_7 (by decide) ⟨by omega, by omega⟩ ⟨by omega, by omega⟩ (fun b1 => ?_) (fun b1 => ?_)
  · have e : c = n := by omega
    subst e
    refine g_return q_X10_laysVisits_121.1 rfl ?_
    have key : ∀ b, ∃ v Tc, b < c → IV P b 41 v Tc ∧ vrO P b v Tc f27 f28 f29 f30 := fun b => by
      by_cases q : b < c
      · obtain ⟨v, Tc, q1⟩ := hrows b q
        exact ⟨v, Tc, fun _ => q1⟩
      · exact ⟨0, fun _ => 0, fun q2 => absurd q2 q⟩
    refine ⟨rfl, f27, f28, f29, f30, fun b => Classical.choose (key b), fun b => Classical.choose (Classical.choose_spec (key b)), ⟨hE, w27, w28, w29, w30⟩, VT_of fun b hb => ?_, fun b hb => ?_⟩
    · exact (Classical.choose_spec (Classical.choose_spec (key b)) hb).1
    · exact (Classical.choose_spec (Classical.choose_spec (key b)) hb).2
  have hcn : c < n := by omega
  refine g_aload_n q_X10_laysVisits_10 rfl ?_
  refine g_get fl_X10_98 q_X10_laysVisits_11 (by repeat first | with_reducible assumption | with_reducible exact hput_s _ _ _ | refine (hput_n _ _ (by omega)).trans ?_ | exact hput_s _ _ _ | assumption) rfl ?_
  refine g_iload_n q_X10_laysVisits_14 rfl ?_
  refine g_iconst q_X10_laysVisits_15 ?_
  refine g_iastore q_X10_laysVisits_16 (by repeat first | with_reducible assumption | with_reducible exact hput_s _ _ _ | refine (hput_n _ _ (by omega)).trans ?_ | exact hput_s _ _ _ | assumption) (by omega) (by omega) ?_
  rw [Int.toNat_natCast]
  refine g_iconst q_X10_laysVisits_17 ?_
  refine g_istore_n (L' := [_, _, _, _]) q_X10_laysVisits_18 (by decide) rfl ?_
  refine g_loop2 (fun (t : Nat) (ω : AH) => t ≤ 41 ∧ ∃ f27 f28 f29 f30 v Tc, vcO σ ω m f27 f28 f29 f30 ∧ IV P c t v Tc ∧ vrO P c v Tc f27 f28 f29 f30 ∧ ∀ b, b < c → ∃ v Tc, IV P b 41 v Tc ∧ vrO P b v Tc f27 f28 f29 f30) (fun t ω => G Γ _ cX10_laysVisits _ _ 0 0 19 [some (.ref m), some (.int (ii c)), some (.int (ii t)), none] [] ω) (fun t ω => 41 - t) ?_ 0 _ ⟨Nat.zero_le _, va_up f27 c 0, f28, f29, f30, 0, fun _ => 0, ⟨hE.put (a := m + 27) ⟨by omega, by omega⟩ _, hput_s _ _ _, (hput_n _ _ (by omega)).trans w28, (hput_n _ _ (by omega)).trans w29, (hput_n _ _ (by omega)).trans w30⟩, ⟨Nat.le_refl _, fun q => absurd q (Nat.not_lt_zero 0), fun _ => rfl, fun i hi => absurd hi (Nat.not_lt_zero i), fun i hi => absurd hi (Nat.not_lt_zero _), fun i hi => absurd hi (Nat.not_lt_zero i)⟩, ⟨va_eq, fun i hi => absurd hi (Nat.not_lt_zero i)⟩, fun b hb => ?_⟩
  case refine_2 =>
    obtain ⟨v, Tc, q1, q2, q3⟩ := hrows b hb
    exact ⟨v, Tc, q1, by rw [va_ne (by omega)]; exact q2, q3⟩
  clear hrows w0 w27 w28 w29 w30 hE f27 f28 f29 f30 ω
  rintro t ω ⟨ht, f27, f28, f29, f30, v, Tc, hω, hIV, hvr, hrows⟩ ih2
  have hω0 := hω
  obtain ⟨hE, w27, w28, w29, w30⟩ := hω
  have w0 := (hE.2 m (by unfold inb; omega)).trans h0
  have w16 := (hE.2 (m + 16) (by unfold inb; omega)).trans h16
  refine g_iload_n q_X10_laysVisits_19 rfl ?_
  refine g_bipush q_X10_laysVisits_20 bp_41 ?_
  refine g_icmp_ge (tgt := 115) q_X10_laysVisits_22 (by decide) ⟨by omega, by omega⟩ ⟨by omega, by omega⟩ (fun b2 => ?_) (fun b2 => ?_)
  · have e : t = 41 := by omega
    subst e
    have hnx := ih (c + 1) ω ⟨by omega, f27, f28, f29, f30, hω0, fun b hb => by
      by_cases e : b = c
      · rw [e]; exact ⟨v, Tc, hIV, hvr⟩
      · exact hrows b (by omega)⟩ (by omega)
    refine g_iinc (L' := [_, _, _, _]) q_X10_laysVisits_115 rfl rfl ?_
    refine g_goto (tgt := 2) q_X10_laysVisits_118 (by decide) ?_
    exact g_fl hnx ⟨rfl, rfl, trivial⟩
  have hv41 := hIV.1
  have visit : (0 < t → cmz P c (t - 1) = true) → ∀ l3, G Γ miX10_laysVisits cX10_laysVisits (fun r ω => r = none ∧ ∃ f27 f28 f29 f30 vn T, vcO σ ω m f27 f28 f29 f30 ∧ viQ P n vn T f27 f28 f29 f30) noX 0 0 57 [some (.ref m), some (.int (ii c)), some (.int (ii t)), l3] [] ω := by
    intro hz l3
    have hPt := hP (41 * c + t) (by omega)
    have hnx := ih2 (t + 1) (hput (hput (hput (hput ω (m + 28) (ai 205 (va_up f28 (41 * c + v) (P (41 * c + t))))) (m + 29) (ai 205 (va_up f29 (41 * c + v) (t : Int)))) (m + 30) (ai 205 (va_up f30 (41 * c + v) (t : Int)))) (m + 27) (ai 5 (va_up f27 c ((v + 1 : Nat) : Int)))) ⟨by omega, va_up f27 c ((v + 1 : Nat) : Int), va_up f28 (41 * c + v) (P (41 * c + t)), va_up f29 (41 * c + v) (t : Int), va_up f30 (41 * c + v) (t : Int), v + 1, va_up Tc v t, ⟨(((hE.put (a := m + 28) ⟨by omega, by omega⟩ _).put (a := m + 29) ⟨by omega, by omega⟩ _).put (a := m + 30) ⟨by omega, by omega⟩ _).put (a := m + 27) ⟨by omega, by omega⟩ _, hput_s _ _ _, (hput_n _ _ (by omega)).trans ((hput_n _ _ (by omega)).trans ((hput_n _ _ (by omega)).trans (hput_s _ _ _))), (hput_n _ _ (by omega)).trans ((hput_n _ _ (by omega)).trans (hput_s _ _ _)), (hput_n _ _ (by omega)).trans (hput_s _ _ _)⟩, hIV.more hz, ⟨va_eq, fun i hi => ?_⟩, fun b hb => ?_⟩ (by omega)
    · refine g_bipush q_X10_laysVisits_57 bp_41 ?_
      refine g_iload_n q_X10_laysVisits_59 rfl ?_
      refine g_imul q_X10_laysVisits_60 ?_
      refine g_aload_n q_X10_laysVisits_61 rfl ?_
      refine g_get fl_X10_98 q_X10_laysVisits_62 (by repeat first | with_reducible assumption | with_reducible exact hput_s _ _ _ | refine (hput_n _ _ (by omega)).trans ?_ | exact hput_s _ _ _ | assumption) rfl ?_
      refine g_iload_n q_X10_laysVisits_65 rfl ?_
      refine g_iaload q_X10_laysVisits_66 (by repeat first | with_reducible assumption | with_reducible exact hput_s _ _ _ | refine (hput_n _ _ (by omega)).trans ?_ | exact hput_s _ _ _ | assumption) (by omega) (by omega) ?_
      refine g_topi (b := (v : Int)) (by exact hvr.1) ?_
      refine g_iadd q_X10_laysVisits_67 ?_
      refine g_topi (b := ((41 * c + v : Nat) : Int)) (by omega) ?_
      refine g_istore_n (L' := [_, _, _, _]) q_X10_laysVisits_68 (by decide) rfl ?_
      refine g_aload_n q_X10_laysVisits_69 rfl ?_
      refine g_get fl_X10_101 q_X10_laysVisits_70 (by repeat first | with_reducible assumption | with_reducible exact hput_s _ _ _ | refine (hput_n _ _ (by omega)).trans ?_ | exact hput_s _ _ _ | assumption) rfl ?_
      refine g_iload_n q_X10_laysVisits_73 rfl ?_
      refine g_aload_n q_X10_laysVisits_74 rfl ?_
      refine g_aload_n q_X10_laysVisits_75 rfl ?_
      refine g_get fl_X10_314 q_X10_laysVisits_76 (by repeat first | with_reducible assumption | with_reducible exact hput_s _ _ _ | refine (hput_n _ _ (by omega)).trans ?_ | exact hput_s _ _ _ | assumption) rfl ?_
      refine g_topi (b := (kp : Int)) (by exact j35) ?_
      refine g_iload_n q_X10_laysVisits_79 rfl ?_
      refine g_iload_n q_X10_laysVisits_80 rfl ?_
      refine g_callV (rc' := 0) (rs' := 0) (As := [_, _, _]) cs_X10_263 q_X10_laysVisits_81 (sp_wayAt hΓ w0 w16 kp c t (by omega) (by omega) (by omega)) rfl (by repeat first | with_reducible assumption | with_reducible exact hput_s _ _ _ | refine (hput_n _ _ (by omega)).trans ?_ | exact hput_s _ _ _ | assumption) rfl rfl rfl rfl (Nat.le_of_ble_eq_true rfl) (by decide) (by decide) (by decide) (fun _ _ h => h.elim) (k_ri ?_)
      refine g_topi (b := P (41 * c + t)) hPt ?_
      refine g_iastore q_X10_laysVisits_84 (by repeat first | with_reducible assumption | with_reducible exact hput_s _ _ _ | refine (hput_n _ _ (by omega)).trans ?_ | exact hput_s _ _ _ | assumption) (by omega) (by omega) ?_
      rw [Int.toNat_natCast]
      refine g_aload_n q_X10_laysVisits_85 rfl ?_
      refine g_get fl_X10_104 q_X10_laysVisits_86 (by repeat first | with_reducible assumption | with_reducible exact hput_s _ _ _ | refine (hput_n _ _ (by omega)).trans ?_ | exact hput_s _ _ _ | assumption) rfl ?_
      refine g_iload_n q_X10_laysVisits_89 rfl ?_
      refine g_iload_n q_X10_laysVisits_90 rfl ?_
      refine g_iastore q_X10_laysVisits_91 (by repeat first | with_reducible assumption | with_reducible exact hput_s _ _ _ | refine (hput_n _ _ (by omega)).trans ?_ | exact hput_s _ _ _ | assumption) (by omega) (by omega) ?_
      rw [Int.toNat_natCast]
      refine g_aload_n q_X10_laysVisits_92 rfl ?_
      refine g_get fl_X10_107 q_X10_laysVisits_93 (by repeat first | with_reducible assumption | with_reducible exact hput_s _ _ _ | refine (hput_n _ _ (by omega)).trans ?_ | exact hput_s _ _ _ | assumption) rfl ?_
      refine g_iload_n q_X10_laysVisits_96 rfl ?_
      refine g_iload_n q_X10_laysVisits_97 rfl ?_
      refine g_iastore q_X10_laysVisits_98 (by repeat first | with_reducible assumption | with_reducible exact hput_s _ _ _ | refine (hput_n _ _ (by omega)).trans ?_ | exact hput_s _ _ _ | assumption) (by omega) (by omega) ?_
      rw [Int.toNat_natCast]
      refine g_aload_n q_X10_laysVisits_99 rfl ?_
      refine g_get fl_X10_98 q_X10_laysVisits_100 (by repeat first | with_reducible assumption | with_reducible exact hput_s _ _ _ | refine (hput_n _ _ (by omega)).trans ?_ | exact hput_s _ _ _ | assumption) rfl ?_
      refine g_iload_n q_X10_laysVisits_103 rfl ?_
      refine g_dup2 q_X10_laysVisits_104 rfl rfl ?_
      refine g_iaload q_X10_laysVisits_105 (by repeat first | with_reducible assumption | with_reducible exact hput_s _ _ _ | refine (hput_n _ _ (by omega)).trans ?_ | exact hput_s _ _ _ | assumption) (by omega) (by omega) ?_
      refine g_topi (b := (v : Int)) (by exact hvr.1) ?_
      refine g_iconst q_X10_laysVisits_106 ?_
      refine g_iadd q_X10_laysVisits_107 ?_
      refine g_topi (b := ((v + 1 : Nat) : Int)) (by omega) ?_
      refine g_iastore q_X10_laysVisits_108 (by repeat first | with_reducible assumption | with_reducible exact hput_s _ _ _ | refine (hput_n _ _ (by omega)).trans ?_ | exact hput_s _ _ _ | assumption) (by omega) (by omega) ?_
      rw [Int.toNat_natCast]
      refine g_iinc (L' := [_, _, _, _]) q_X10_laysVisits_109 rfl rfl ?_
      refine g_goto (tgt := 19) q_X10_laysVisits_112 (by decide) ?_
      exact g_fl hnx ⟨rfl, rfl, rfl, trivial⟩
    · by_cases e : i = v
      · rw [e, va_eq, va_eq, va_eq, va_eq]
        exact ⟨rfl, rfl, rfl⟩
      · rw [va_ne (show 41 * c + i ≠ 41 * c + v by omega), va_ne (show 41 * c + i ≠ 41 * c + v by omega), va_ne (show 41 * c + i ≠ 41 * c + v by omega), va_ne e]
        exact hvr.2 i (by omega)
    · obtain ⟨v', Tc', q1, q2, q3⟩ := hrows b hb
      have hv' := q1.1
      refine ⟨v', Tc', q1, by rw [va_ne (by omega)]; exact q2, fun i hi => ?_⟩
      rw [va_ne (show 41 * b + i ≠ 41 * c + v by omega), va_ne (show 41 * b + i ≠ 41 * c + v by omega), va_ne (show 41 * b + i ≠ 41 * c + v by omega)]
      exact q3 i hi
  refine g_iload_n q_X10_laysVisits_25 rfl ?_
  refine g_if_le (tgt := 57) q_X10_laysVisits_26 (by decide) ⟨by omega, by omega⟩ (fun b3 => ?_) (fun b3 => ?_)
  · exact visit (fun q => by omega) _
  have hr1 := hPr (41 * c + t) (by omega)
  have hr2 := hPr (41 * c + (t - 1)) (by omega)
  refine g_aload_n q_X10_laysVisits_29 rfl ?_
  refine g_aload_n q_X10_laysVisits_30 rfl ?_
  refine g_get fl_X10_314 q_X10_laysVisits_31 (by repeat first | with_reducible assumption | with_reducible exact hput_s _ _ _ | refine (hput_n _ _ (by omega)).trans ?_ | exact hput_s _ _ _ | assumption) rfl ?_
  refine g_topi (b := (kp : Int)) (by exact j35) ?_
  refine g_iload_n q_X10_laysVisits_34 rfl ?_
  refine g_iload_n q_X10_laysVisits_35 rfl ?_
  refine g_callV (rc' := 0) (rs' := 0) (As := [_, _, _]) cs_X10_263 q_X10_laysVisits_36 (sp_wayAt hΓ w0 w16 kp c t (by omega) (by omega) (by omega)) rfl (by repeat first | with_reducible assumption | with_reducible exact hput_s _ _ _ | refine (hput_n _ _ (by omega)).trans ?_ | exact hput_s _ _ _ | assumption) rfl rfl rfl rfl (Nat.le_of_ble_eq_true rfl) (by decide) (by decide) (by decide) (fun _ _ h => h.elim) (k_ri ?_)
  refine g_topi (b := P (41 * c + t)) (hP _ (by omega)) ?_
  refine g_aload_n q_X10_laysVisits_39 rfl ?_
  refine g_aload_n q_X10_laysVisits_40 rfl ?_
  refine g_get fl_X10_314 q_X10_laysVisits_41 (by repeat first | with_reducible assumption | with_reducible exact hput_s _ _ _ | refine (hput_n _ _ (by omega)).trans ?_ | exact hput_s _ _ _ | assumption) rfl ?_
  refine g_topi (b := (kp : Int)) (by exact j35) ?_
  refine g_iload_n q_X10_laysVisits_44 rfl ?_
  refine g_iload_n q_X10_laysVisits_45 rfl ?_
  refine g_iconst q_X10_laysVisits_46 ?_
  refine g_isub q_X10_laysVisits_47 ?_
  refine g_topi (b := ((t - 1 : Nat) : Int)) (by omega) ?_
  refine g_callV (rc' := 0) (rs' := 0) (As := [_, _, _]) cs_X10_263 q_X10_laysVisits_48 (sp_wayAt hΓ w0 w16 kp c (t - 1) (by omega) (by omega) (by omega)) rfl (by repeat first | with_reducible assumption | with_reducible exact hput_s _ _ _ | refine (hput_n _ _ (by omega)).trans ?_ | exact hput_s _ _ _ | assumption) rfl rfl rfl rfl (Nat.le_of_ble_eq_true rfl) (by decide) (by decide) (by decide) (fun _ _ h => h.elim) (k_ri ?_)
  refine g_topi (b := P (41 * c + (t - 1))) (hP _ (by omega)) ?_
  have e1 : t - 1 + 1 = t := by omega
  refine g_icmp_ne (tgt := 57) q_X10_laysVisits_51 (by decide) hr1 hr2 (fun b4 => ?_) (fun b4 => ?_)
  · exact visit (fun q => decide_eq_true (by rw [e1]; exact b4)) _
  · have hnx := ih2 (t + 1) ω ⟨by omega, f27, f28, f29, f30, v, Tc, hω0, hIV.skip (by omega) (decide_eq_false (fun q => q (by rw [e1]; exact b4))), hvr, hrows⟩ (by omega)
    refine g_goto (tgt := 109) q_X10_laysVisits_54 (by decide) ?_
    refine g_iinc (L' := [_, _, _, _]) q_X10_laysVisits_109 rfl rfl ?_
    refine g_goto (tgt := 19) q_X10_laysVisits_112 (by decide) ?_
    exact hnx
end MVi

