/-! the reference: laysStop, lateBy -/
section MLs
variable {Γ : GT} {σ : AH} {m : Nat} {J : Nat → Int} {P W th : Nat → Int} {n kp : Nat} {f27 f28 f29 : Nat → Int} {vn : Nat → Nat} {T : Nat → Nat → Nat} {sd ti nn : Nat}
/-- the class's times of visits -/
def sTm (P : Nat → Int) (n : Nat) (T : Nat → Nat → Nat) (sd ti nn : Nat) : Nat → Nat → Int := fun c i => cmS P n sd ti nn (T c i) c
/-- behind laysStop -/
def lsQ (σ ω : AH) (m : Nat) (P : Nat → Int) (n sd ti nn : Nat) : Prop := ∃ f27 f28 f29 f30 vn T, vcO σ ω m f27 f28 f29 f30 ∧ sbV P n vn T f27 f28 f29 ∧ ∀ c, c < n → ∀ i, i < vn c → f30 (41 * c + i) = sTm P n T sd ti nn c i
theorem sTm_ub (h1 : ti ≤ 40) (h2 : nn ≤ 20) (hV : VT P n vn T) : okTS n vn (sTm P n T sd ti nn) := fun c hc i hi => by
  have h3 := (hV c hc).2.2.1 i hi
  have := (bdT_so6 (P := P) (n := n) (sd := sd) h1 h2 (T c i)).1 c
  show cmS P n sd ti nn (T c i) c ≤ 200
  unfold cmS
  omega
/-- all is kept: the times are the class's -/
theorem th_eq (hV : VT P n vn T) (hN : NC P n) (hs : sd < n) (hTH : ThO n vn T (sTm P n T sd ti nn) th) (hSol : Sol P n vn T sd ti nn (fun c i => th (41 * c + i))) : ∀ c, c < n → ∀ i, i < vn c → th (41 * c + i) = sTm P n T sd ti nn c i := fun c hc i hi => by
  have h1 : sTm P n T sd ti nn c i ≤ th (41 * c + i) := sS_le hV hN hs hSol hc hi
  have h2 := (hTH c hc i hi).2
  omega
def fcO (vn : Nat → Nat) (T : Nat → Nat → Nat) (sd ti nn : Nat) (th : Nat → Int) : Prop := ∀ i, i + 1 < vn sd → T sd i ≤ ti → ti < T sd (i + 1) → ((ti + nn + 1 : Nat) : Int) ≤ th (41 * sd + (i + 1))
theorem fcO.up {th' : Nat → Int} {b : Bool} (h : fcO vn T sd ti nn th) (hs : sd < n) (hC : Cg n vn th th' b) : fcO vn T sd ti nn th' := fun i h1 h2 h3 => Int.le_trans (h i h1 h2 h3) (hC.1 sd hs (i + 1) h1)
/-- what a round has looked at -/
def rdO (P : Nat → Int) (n : Nat) (vn : Nat → Nat) (T : Nat → Nat → Nat) (th : Nat → Int) (o i : Nat) : Prop := ∀ c, c < n → ∀ k, 1 ≤ k → k < vn c → (c < o ∨ c = o ∧ k < i) → th (41 * c + (k - 1)) + 1 ≤ th (41 * c + k) ∧ ∀ a, a < n → ∀ j, wfC P vn T th c k a j
theorem ct_last {c : Nat} (hVT : VT P n vn T) (hc : c < n) : (ctN (fun t => P (41 * c + t)) 40 : Nat) = T c (vn c - 1) := by
  have hl := hVT.last hc
  refine ctN_eq (fun t q1 q2 => ?_) (fun q => ?_) 40 hl.2.1 (Nat.le_refl _)
  · show P (41 * c + t) = P (41 * c + 40)
    rw [hVT.at' hc (Nat.le_refl 40) hl, hVT.at' hc (s := t) (i := vn c - 1) q2 ⟨hl.1, q1, fun q3 => by omega⟩]
  · show P (41 * c + (T c (vn c - 1) - 1)) ≠ P (41 * c + 40)
    rw [hVT.at' hc (Nat.le_refl 40) hl]
    by_cases e : vn c - 1 = 0
    · have := (hVT c hc).2.1
      rw [e] at q
      omega
    · obtain ⟨s, s1, s2, s3, s4⟩ := hVT.pre hc (i := vn c - 1 - 1) (by omega)
      rw [show vn c - 1 - 1 + 1 = vn c - 1 by omega] at s1
      have := of_decide_eq_true s3
      rw [s1, show s + 1 - 1 = s by omega]
      exact fun q9 => this q9.symm
/-- a round, and all of them -/
theorem ls_77 (hΓ : Gd Γ) (n5 : n ≤ 5) (j15 : J 15 = n) (hV : sbV P n vn T f27 f28 f29) (hN : NC P n) (hPr : ∀ i, i < 41 * n → rg (P i)) (hs : sd < n) (h1 : ti ≤ 40) (h2 : nn ≤ 20) (hB0 : ∃ th0, sbO σ m J f27 f28 f29 th0) {Q : Option Value → AH → Prop} (kk : ∀ th', (∀ c, c < n → ∀ i, i < vn c → th' (41 * c + i) = sTm P n T sd ti nn c i) → G Γ miX10_laysStop cX10_laysStop Q noX 0 0 176 [some (.ref m), some (.int (ii sd)), some (.int (ii ti)), some (.int (ii nn)), none, none, none, none] [] (hput σ (m + 30) (ai 205 th'))) (th0 : Nat → Int) (b0 : Bool) (hTH0 : ThO n vn T (sTm P n T sd ti nn) th0) (hF0 : fcO vn T sd ti nn th0) (hd0 : b0 = false → Sol P n vn T sd ti nn (fun c i => th0 (41 * c + i))) : G Γ miX10_laysStop cX10_laysStop Q noX 0 0 77 [some (.ref m), some (.int (ii sd)), some (.int (ii ti)), some (.int (ii nn)), none, some (.int (ii (bi b0))), none, none] [] (hput σ (m + 30) (ai 205 th0)) := by
  have hVT := hV.1
  obtain ⟨S, hSe⟩ : ∃ S, S = sTm P n T sd ti nn := ⟨_, rfl⟩
  have hSS := sTm_ub (sd := sd) h1 h2 hVT
  have hSol : Sol P n vn T sd ti nn S := by rw [hSe]; exact sS_sol hVT hN hs
  rw [← hSe] at hSS hTH0
  obtain ⟨th00, hB0⟩ := hB0
  have hv41 : ∀ a, a < n → vn a ≤ 41 := fun a ha => (hVT a ha).1.2
  refine g_loop2 (fun (th : Nat → Int) (b : Bool) => ThO n vn T S th ∧ fcO vn T sd ti nn th ∧ (b = false → Sol P n vn T sd ti nn (fun c i => th (41 * c + i)))) (fun th b => G Γ miX10_laysStop cX10_laysStop Q noX 0 0 77 [some (.ref m), some (.int (ii sd)), some (.int (ii ti)), some (.int (ii nn)), none, some (.int (ii (bi b))), none, none] [] (hput σ (m + 30) (ai 205 th))) (fun th b => 2 * muT n vn S th + (bi b).toNat) ?_ th0 b0 ⟨hTH0, hF0, hd0⟩
  clear hTH0 hF0 hd0 th0 b0
  rintro th b ⟨hTH, hFC, hd⟩ ih
  refine g_iload q_X10_laysStop_77 rfl ?_
  refine g_if_eq (tgt := 176) q_X10_laysStop_79 (by decide) (bi_rg _) (fun e1 => ?_) (fun e1 => ?_)
  · have hb := bi_f e1
    rw [hSe] at hTH
    exact g_fl (kk th (th_eq hVT hN hs hTH (hd hb))) ⟨rfl, rfl, rfl, rfl, trivial⟩
  have hb := bi_t e1
  subst hb
  refine g_iconst q_X10_laysStop_82 ?_
  refine g_istore (L' := [_, _, _, _, _, _, _, _]) q_X10_laysStop_83 (by decide) rfl ?_
  refine g_iconst q_X10_laysStop_85 ?_
  refine g_istore (L' := [_, _, _, _, _, _, _, _]) q_X10_laysStop_86 (by decide) rfl ?_
  refine g_loop3 (fun (o : Nat) (th' : Nat → Int) (b : Bool) => o ≤ n ∧ ThO n vn T S th' ∧ Cg n vn th th' b ∧ (b = false → rdO P n vn T th o 0)) (fun o th' b => G Γ miX10_laysStop cX10_laysStop Q noX 0 0 88 [some (.ref m), some (.int (ii sd)), some (.int (ii ti)), some (.int (ii nn)), none, some (.int (ii (bi b))), some (.int (ii o)), none] [] (hput σ (m + 30) (ai 205 th'))) (fun o _ _ => n - o) ?_ 0 th false ⟨Nat.zero_le _, hTH, Cg.rfl', fun _ c _ k k1 _ q => by omega⟩
  rintro o th1 b1 ⟨ho, hTH1, hC1, hW1⟩ ih2
  have k0 := (hB0.put th1).1
  have k27 : (hput σ (m + 30) (ai 205 th1)).2 (m + 27) = some (ai 5 f27) := (hB0.put th1).2.1
  refine g_iload q_X10_laysStop_88 rfl ?_
  refine g_aload_n q_X10_laysStop_90 rfl ?_
  refine g_get fl_X10_220 q_X10_laysStop_91 (by repeat first | with_reducible assumption | with_reducible exact hput_s _ _ _ | refine (hput_n _ _ (by omega)).trans ?_ | exact hput_s _ _ _ | assumption) rfl ?_
  refine g_topi (b := (n : Int)) (by exact j15) ?_
  refine g_icmp_ge (tgt := 173) q_X10_laysStop_94 (by decide) ⟨by omega, by omega⟩ ⟨by omega, by omega⟩ (fun d1 => ?_) (fun d1 => ?_)
  · have e : o = n := by omega
    rw [e] at hW1
    have hFC1 := hFC.up hs hC1
    have hnx : G Γ miX10_laysStop cX10_laysStop Q noX 0 0 77 [some (.ref m), some (.int (ii sd)), some (.int (ii ti)), some (.int (ii nn)), none, some (.int (ii (bi b1))), none, none] [] (hput σ (m + 30) (ai 205 th1)) := by
      refine ih th1 b1 ⟨hTH1, hFC1, fun e => ?_⟩ ?_
      · have hw := hW1 e
        have et := hC1.2.1 e
        rw [et]
        refine ⟨fun c hc i hi => (hTH c hc i hi).1, fun c hc i hi => ?_, fun i h1 h2 h3 => hFC i h1 h2 h3, fun c hc a ha hac i hi j hj hp hl => ?_⟩
        · have := (hw c hc (i + 1) (by omega) hi (Or.inl hc)).1
          rw [show i + 1 - 1 = i by omega] at this
          exact this
        · exact (hw c hc (i + 1) (by omega) hi (Or.inl hc)).2 a ha j hac hj hp hl
      · cases b1 with
        | true =>
          have := mu_lt hTH1 hC1
          show 2 * muT n vn S th1 + 1 < 2 * muT n vn S th + 1
          omega
        | false =>
          have et := hC1.2.1 rfl
          rw [et]
          show 2 * muT n vn S th + 0 < 2 * muT n vn S th + 1
          omega
    refine g_goto (tgt := 77) q_X10_laysStop_173 (by decide) ?_
    exact g_fl hnx ⟨rfl, rfl, rfl, rfl, rfl, trivial⟩
  have hon : o < n := by omega
  obtain ⟨e27o, eo⟩ := hV.2 o hon
  have hvo := hv41 o hon
  have hvo1 := (hVT o hon).1.1
  refine g_iconst q_X10_laysStop_97 ?_
  refine g_istore (L' := [_, _, _, _, _, _, _, _]) q_X10_laysStop_98 (by decide) rfl ?_
  refine g_loop3 (fun (i : Nat) (th' : Nat → Int) (b : Bool) => (1 ≤ i ∧ i ≤ vn o) ∧ ThO n vn T S th' ∧ Cg n vn th th' b ∧ (b = false → rdO P n vn T th o i)) (fun i th' b => G Γ miX10_laysStop cX10_laysStop Q noX 0 0 100 [some (.ref m), some (.int (ii sd)), some (.int (ii ti)), some (.int (ii nn)), none, some (.int (ii (bi b))), some (.int (ii o)), some (.int (ii i))] [] (hput σ (m + 30) (ai 205 th'))) (fun i _ _ => vn o - i) ?_ 1 th1 b1 ⟨⟨Nat.le_refl _, hvo1⟩, hTH1, hC1, fun e c hc k k1 k2 q => hW1 e c hc k k1 k2 (by omega)⟩
  clear hTH1 hC1 hW1 k0 k27 th1 b1
  rintro i th1 b1 ⟨⟨hi1, hi2⟩, hTH1, hC1, hW1⟩ ih3
  have hB1 := hB0.put th1
  have k0 := hB1.1
  have k27 := hB1.2.1
  have k30 := hB1.2.2.2.2
  refine g_iload q_X10_laysStop_100 rfl ?_
  refine g_aload_n q_X10_laysStop_102 rfl ?_
  refine g_get fl_X10_98 q_X10_laysStop_103 (by repeat first | with_reducible assumption | with_reducible exact hput_s _ _ _ | refine (hput_n _ _ (by omega)).trans ?_ | exact hput_s _ _ _ | assumption) rfl ?_
  refine g_iload q_X10_laysStop_106 rfl ?_
  refine g_iaload q_X10_laysStop_108 (by repeat first | with_reducible assumption | with_reducible exact hput_s _ _ _ | refine (hput_n _ _ (by omega)).trans ?_ | exact hput_s _ _ _ | assumption) (by omega) (by omega) ?_
  refine g_topi (b := (vn o : Int)) (by exact e27o) ?_
  refine g_icmp_ge (tgt := 167) q_X10_laysStop_109 (by decide) ⟨by omega, by omega⟩ ⟨by omega, by omega⟩ (fun d2 => ?_) (fun d2 => ?_)
  · have e : i = vn o := by omega
    have hnx := ih2 (o + 1) th1 b1 ⟨by omega, hTH1, hC1, fun e2 c hc k k1 k2 q => hW1 e2 c hc k k1 k2 (by
      rcases q with q | q
      · by_cases ec : c = o
        · right
          rw [ec] at k2
          exact ⟨ec, by omega⟩
        · left; omega
      · omega)⟩ (by omega)
    refine g_iinc (L' := [_, _, _, _, _, _, _, _]) q_X10_laysStop_167 rfl rfl ?_
    refine g_goto (tgt := 88) q_X10_laysStop_170 (by decide) ?_
    exact g_fl hnx ⟨rfl, rfl, rfl, rfl, rfl, rfl, trivial⟩
  have hiv : i < vn o := by omega
  -- behind the visit ahead
  have hp1 := hTH1 o hon (i - 1) (by omega)
  have hs1 := hSS o hon (i - 1) (by omega)
  have hp2 := hTH1 o hon i hiv
  have hs2 := hSS o hon i hiv
  have hle : th1 (41 * o + (i - 1)) + 1 ≤ S o i := by
    have := hSol.2.1 o hon (i - 1) (by omega)
    rw [show i - 1 + 1 = i by omega] at this
    omega
  obtain ⟨n1, n2, n3⟩ := ns_ok hVT hTH1 hon hiv hle
  refine g_aload_n q_X10_laysStop_112 rfl ?_
  refine g_bipush q_X10_laysStop_113 bp_41 ?_
  refine g_iload q_X10_laysStop_115 rfl ?_
  refine g_imul q_X10_laysStop_117 ?_
  refine g_iload q_X10_laysStop_118 rfl ?_
  refine g_iadd q_X10_laysStop_120 ?_
  refine g_topi (b := ((41 * o + i : Nat) : Int)) (by omega) ?_
  refine g_aload_n q_X10_laysStop_121 rfl ?_
  refine g_get fl_X10_107 q_X10_laysStop_122 (by repeat first | with_reducible assumption | with_reducible exact hput_s _ _ _ | refine (hput_n _ _ (by omega)).trans ?_ | exact hput_s _ _ _ | assumption) rfl ?_
  refine g_bipush q_X10_laysStop_125 bp_41 ?_
  refine g_iload q_X10_laysStop_127 rfl ?_
  refine g_imul q_X10_laysStop_129 ?_
  refine g_iload q_X10_laysStop_130 rfl ?_
  refine g_iadd q_X10_laysStop_132 ?_
  refine g_iconst q_X10_laysStop_133 ?_
  refine g_isub q_X10_laysStop_134 ?_
  refine g_topi (b := ((41 * o + (i - 1) : Nat) : Int)) (by omega) ?_
  refine g_iaload q_X10_laysStop_135 (by repeat first | with_reducible assumption | with_reducible exact hput_s _ _ _ | refine (hput_n _ _ (by omega)).trans ?_ | exact hput_s _ _ _ | assumption) (by omega) (by omega) ?_
  refine g_topi (b := th1 (41 * o + (i - 1))) (by rfl) ?_
  refine g_iconst q_X10_laysStop_136 ?_
  refine g_iadd q_X10_laysStop_137 ?_
  refine g_callV (rc' := 0) (rs' := 0) (As := [_, _]) cs_X10_344 q_X10_laysStop_138 (sp_notSooner hΓ k0 k30 (41 * o + i) (by omega) (th1 (41 * o + (i - 1)) + 1) ⟨by omega, by omega⟩ ⟨by omega, by omega⟩) rfl (by repeat first | with_reducible assumption | with_reducible exact hput_s _ _ _ | refine (hput_n _ _ (by omega)).trans ?_ | exact hput_s _ _ _ | assumption) rfl rfl rfl rfl (Nat.le_of_ble_eq_true rfl) (by decide) (by decide) (by decide) (fun _ _ h => h.elim) (k_rb ?_)
  rw [hput_hput]
  obtain ⟨th2, hth2⟩ : ∃ th2, th2 = nsT th1 (41 * o + i) (th1 (41 * o + (i - 1)) + 1) := ⟨_, rfl⟩
  rw [← hth2] at n1 n2 n3 ⊢
  have at147 : ∀ b2 : Bool, Cg n vn th th2 b2 → (b2 = false → rdO P n vn T th o i ∧ th (41 * o + (i - 1)) + 1 ≤ th (41 * o + i)) → G Γ miX10_laysStop cX10_laysStop Q noX 0 0 147 [some (.ref m), some (.int (ii sd)), some (.int (ii ti)), some (.int (ii nn)), none, some (.int (ii (bi b2))), some (.int (ii o)), some (.int (ii i))] [] (hput σ (m + 30) (ai 205 th2)) := by
    intro b2 hC2 hW2
    have hB2 := hB0.put th2
    have u0 := hB2.1
    refine g_aload_n q_X10_laysStop_147 rfl ?_
    refine g_iload q_X10_laysStop_148 rfl ?_
    refine g_iload q_X10_laysStop_150 rfl ?_
    have hupS : ∀ a, a < n → a ≠ o → ∀ j, j + 1 < vn a → P (41 * a + T a j) = P (41 * o + T o i) → T a j < T o i → S a (j + 1) ≤ S o i := fun a ha hao j hj hp hl => by
      have := hSol.2.2.2 o hon a ha hao (i - 1) (by omega) j hj
      rw [show i - 1 + 1 = i by omega] at this
      exact this hp hl
    refine g_callV (rc' := 0) (rs' := 0) (As := [_, _]) cs_X10_357 q_X10_laysStop_152 (sp_waitsFor hΓ n5 j15 hV hPr hSS o i hon hiv hupS hB2 n1) rfl (by repeat first | with_reducible assumption | with_reducible exact hput_s _ _ _ | refine (hput_n _ _ (by omega)).trans ?_ | exact hput_s _ _ _ | assumption) rfl rfl rfl rfl (Nat.le_of_ble_eq_true rfl) (by decide) (by decide) (by decide) (fun _ _ h => h.elim) (fun v τ' hq => ?_)
    obtain ⟨b3, th3, rfl, rfl, q1, q2, q3⟩ := hq
    rw [hput_hput]
    have hC3 := hC2.trans q2
    have fin : ∀ b4 : Bool, b4 = (b2 || b3) → G Γ miX10_laysStop cX10_laysStop Q noX 0 0 161 [some (.ref m), some (.int (ii sd)), some (.int (ii ti)), some (.int (ii nn)), none, some (.int (ii (bi b4))), some (.int (ii o)), some (.int (ii i))] [] (hput σ (m + 30) (ai 205 th3)) := by
      intro b4 hb4
      have hnx := ih3 (i + 1) th3 b4 ⟨⟨by omega, by omega⟩, q1, by rw [hb4]; exact hC3, fun e c hc k k1 k2 q => by
        rw [hb4, Bool.or_eq_false_iff] at e
        obtain ⟨w1, w2⟩ := hW2 e.1
        have et := hC2.2.1 e.1
        by_cases ec : c = o ∧ k = i
        · rw [ec.1, ec.2]
          refine ⟨w2, fun a ha j => ?_⟩
          have := q3 e.2 a ha j
          rw [et] at this
          exact this
        · exact w1 c hc k k1 k2 (by omega)⟩ (by omega)
      refine g_iinc (L' := [_, _, _, _, _, _, _, _]) q_X10_laysStop_161 rfl rfl ?_
      refine g_goto (tgt := 100) q_X10_laysStop_164 (by decide) ?_
      exact hnx
    refine g_if_eq (tgt := 161) q_X10_laysStop_155 (by decide) (bi_rg _) (fun d3 => ?_) (fun d3 => ?_)
    · rw [bi_f d3, Bool.or_false] at fin
      exact fin b2 rfl
    · rw [bi_t d3, Bool.or_true] at fin
      refine g_iconst q_X10_laysStop_158 ?_
      refine g_istore (L' := [_, _, _, _, _, _, _, _]) q_X10_laysStop_159 (by decide) rfl ?_
      exact fin true rfl
  refine g_if_eq (tgt := 147) q_X10_laysStop_141 (by decide) (bi_rg _) (fun d3 => ?_) (fun d3 => ?_)
  · have hb := bi_f d3
    have hq := of_decide_eq_false hb
    rw [hb] at n2
    have hCC := hC1.trans n2
    rw [Bool.or_false] at hCC
    refine at147 b1 hCC (fun e => ⟨hW1 e, ?_⟩)
    have ee := hC1.2.1 e
    rw [ee] at hq
    omega
  · have hb := bi_t d3
    rw [hb] at n2
    have hCC := hC1.trans n2
    rw [Bool.or_true] at hCC
    refine g_iconst q_X10_laysStop_144 ?_
    refine g_istore (L' := [_, _, _, _, _, _, _, _]) q_X10_laysStop_145 (by decide) rfl ?_
    exact at147 true hCC (fun e => by cases e)
theorem sp_laysStop (hΓ : Gd Γ) (h0 : σ.2 m = some (mdo m J)) (h16 : σ.2 (m + 16) = some (ai 62115 W)) {g27 g28 g29 g30 : Nat → Int} (hv : vcO σ σ m g27 g28 g29 g30) (j35 : J 35 = kp) (j15 : J 15 = n) (hk : kp < 302) (n5 : n ≤ 5) (hP : ∀ i, i < 41 * n → W (205 * kp + i) = P i) (hPr : ∀ i, i < 41 * n → rg (P i)) (hN : NC P n) (hs : sd < n) (h1 : ti ≤ 40) (h2 : nn ≤ 20) : Sp Γ miX10_laysStop 0 0 [.ref m, .int (ii sd), .int (ii ti), .int (ii nn)] σ (fun r ω => r = none ∧ lsQ σ ω m P n sd ti nn) noX := by
  refine Sp_of (L := [_, _, _, _, _, _, _, _]) hΓ (by decide +kernel) rfl (Nat.le_of_ble_eq_true rfl) rfl ?_
  refine g_aload_n q_X10_laysStop_0 rfl ?_
  refine g_callV (rc' := 0) (rs' := 0) (As := []) cs_X10_354 q_X10_laysStop_1 (sp_laysVisits hΓ h0 h16 hv j35 j15 hk n5 hP hPr) rfl (by repeat first | with_reducible assumption | with_reducible exact hput_s _ _ _ | refine (hput_n _ _ (by omega)).trans ?_ | exact hput_s _ _ _ | assumption) rfl rfl rfl rfl (Nat.le_of_ble_eq_true rfl) (by decide) (by decide) (by decide) (fun _ _ h => h.elim) (fun v ω hq => ?_)
  obtain ⟨rfl, f27, f28, f29, f30, vn, T, ⟨hE, w27, w28, w29, w30⟩, hVT, hrow⟩ := hq
  have w0 := (hE.2 m (by unfold inb; omega)).trans h0
  have hV : sbV P n vn T f27 f28 f29 := ⟨hVT, fun c hc => ⟨(hrow c hc).1, fun i hi => ⟨((hrow c hc).2 i hi).1, ((hrow c hc).2 i hi).2.1⟩⟩⟩
  have e30 : ∀ c, c < n → ∀ i, i < vn c → f30 (41 * c + i) = (T c i : Int) := fun c hc i hi => ((hrow c hc).2 i hi).2.2
  have hB : sbO ω m J f27 f28 f29 f30 := ⟨w0, w27, w28, w29, w30⟩
  have hSol : Sol P n vn T sd ti nn (sTm P n T sd ti nn) := sS_sol hVT hN hs
  have hSS := sTm_ub (sd := sd) (P := P) (n := n) h1 h2 hVT
  have hTH : ThO n vn T (sTm P n T sd ti nn) f30 := fun c hc i hi => by rw [e30 c hc i hi]; exact ⟨Int.le_refl _, hSol.1 c hc i hi⟩
  have kk : ∀ th', (∀ c, c < n → ∀ i, i < vn c → th' (41 * c + i) = sTm P n T sd ti nn c i) → G Γ miX10_laysStop cX10_laysStop (fun r ω => r = none ∧ lsQ σ ω m P n sd ti nn) noX 0 0 176 [some (.ref m), some (.int (ii sd)), some (.int (ii ti)), some (.int (ii nn)), none, none, none, none] [] (hput ω (m + 30) (ai 205 th')) := by
    intro th' ht
    refine g_return q_X10_laysStop_176.1 rfl ?_
    exact ⟨rfl, f27, f28, f29, th', vn, T, ⟨hE.put ⟨by omega, by omega⟩ _, (hput_n _ _ (by omega)).trans w27, (hput_n _ _ (by omega)).trans w28, (hput_n _ _ (by omega)).trans w29, hput_s _ _ _⟩, hV, ht⟩
  obtain ⟨e27, ers⟩ := hV.2 sd hs
  have hv41 := (hVT sd hs).1
  have hT0 := (hVT sd hs).2.1
  refine g_iconst q_X10_laysStop_4 ?_
  refine g_istore (L' := [_, _, _, _, _, _, _, _]) q_X10_laysStop_5 (by decide) rfl ?_
  refine g_loop (fun k : Nat => k ≤ vn sd ∧ ∀ i, i < k → T sd i ≤ ti) (fun k : Nat => G Γ miX10_laysStop cX10_laysStop (fun r ω => r = none ∧ lsQ σ ω m P n sd ti nn) noX 0 0 7 [some (.ref m), some (.int (ii sd)), some (.int (ii ti)), some (.int (ii nn)), some (.int (ii k)), none, none, none] [] ω) (fun k => vn sd - k) ?_ 0 ⟨Nat.zero_le _, fun i hi => absurd hi (Nat.not_lt_zero i)⟩
  rintro k ⟨hk1, hk2⟩ ih
  -- the first visit behind the stop is the k-th
  have at40 : (k < vn sd → ti < T sd k) → G Γ miX10_laysStop cX10_laysStop (fun r ω => r = none ∧ lsQ σ ω m P n sd ti nn) noX 0 0 40 [some (.ref m), some (.int (ii sd)), some (.int (ii ti)), some (.int (ii nn)), some (.int (ii k)), none, none, none] [] ω := by
    intro hfirst
    have huq : ∀ i, i + 1 < vn sd → T sd i ≤ ti → ti < T sd (i + 1) → i + 1 = k := fun i q1 q2 q3 => by
      refine Classical.byContradiction fun q => ?_
      by_cases ql : i + 1 < k
      · have := hk2 (i + 1) ql
        omega
      · have q4 := hfirst (by omega)
        by_cases q5 : k = i
        · rw [q5] at q4; omega
        · have := hVT.lt' hs (i := k) (j := i) (by omega) (by omega)
          omega
    have none_ : (∀ i, i + 1 < vn sd → T sd i ≤ ti → ti < T sd (i + 1) → ((ti + nn + 1 : Nat) : Int) ≤ (T sd (i + 1) : Int)) → G Γ miX10_laysStop cX10_laysStop (fun r ω => r = none ∧ lsQ σ ω m P n sd ti nn) noX 0 0 74 [some (.ref m), some (.int (ii sd)), some (.int (ii ti)), some (.int (ii nn)), some (.int (ii k)), none, none, none] [] ω := by
      intro hno
      have hsol0 : Sol P n vn T sd ti nn (fun c i => f30 (41 * c + i)) := by
        obtain ⟨s1, s2, s3, s4⟩ := told_sol hVT hN hno
        refine ⟨fun c hc i hi => by show _ ≤ f30 (41 * c + i); rw [e30 c hc i hi]; exact s1 c hc i hi, fun c hc i hi => ?_, fun i q1 q2 q3 => by show _ ≤ f30 (41 * sd + (i + 1)); rw [e30 sd hs (i + 1) q1]; exact s3 i q1 q2 q3, fun c hc o ho hoc i hi j hj hp hl => ?_⟩
        · have := s2 c hc i hi
          show f30 (41 * c + i) + 1 ≤ f30 (41 * c + (i + 1))
          rw [e30 c hc i (by omega), e30 c hc (i + 1) hi]
          exact this
        · have := s4 c hc o ho hoc i hi j hj hp hl
          show f30 (41 * o + (j + 1)) ≤ f30 (41 * c + (i + 1))
          rw [e30 o ho (j + 1) hj, e30 c hc (i + 1) hi]
          exact this
      refine g_eq (σ2 := hput ω (m + 30) (ai 205 f30)) rfl rfl (hput_id w30).symm ?_
      refine g_iconst q_X10_laysStop_74 ?_
      refine g_istore (L' := [_, _, _, _, _, _, _, _]) q_X10_laysStop_75 (by decide) rfl ?_
      exact g_fl (ls_77 hΓ n5 j15 hV hN hPr hs h1 h2 ⟨f30, hB⟩ kk f30 false hTH (fun i q1 q2 q3 => hsol0.2.2.1 i q1 q2 q3) (fun _ => hsol0)) ⟨rfl, rfl, rfl, rfl, rfl, trivial⟩
    refine g_iload q_X10_laysStop_40 rfl ?_
    refine g_aload_n q_X10_laysStop_42 rfl ?_
    refine g_get fl_X10_98 q_X10_laysStop_43 (by repeat first | with_reducible assumption | with_reducible exact hput_s _ _ _ | refine (hput_n _ _ (by omega)).trans ?_ | exact hput_s _ _ _ | assumption) rfl ?_
    refine g_iload_n q_X10_laysStop_46 rfl ?_
    refine g_iaload q_X10_laysStop_47 (by repeat first | with_reducible assumption | with_reducible exact hput_s _ _ _ | refine (hput_n _ _ (by omega)).trans ?_ | exact hput_s _ _ _ | assumption) (by omega) (by omega) ?_
    refine g_topi (b := (vn sd : Int)) (by exact e27) ?_
    refine g_icmp_ge (tgt := 74) q_X10_laysStop_48 (by decide) ⟨by omega, by omega⟩ ⟨by omega, by omega⟩ (fun d1 => ?_) (fun d1 => ?_)
    · exact none_ (fun i q1 q2 q3 => by have := huq i q1 q2 q3; omega)
    have hkv : k < vn sd := by omega
    have hf := hfirst hkv
    have hkp : 1 ≤ k := by
      refine Classical.byContradiction fun q => ?_
      have : k = 0 := by omega
      rw [this, hT0] at hf
      omega
    have hpre := hk2 (k - 1) (by omega)
    have hle : ((ti + nn + 1 : Nat) : Int) ≤ sTm P n T sd ti nn sd k := by
      have := hSol.2.2.1 (k - 1) (by omega) hpre
      rw [show k - 1 + 1 = k by omega] at this
      exact this hf
    obtain ⟨n1, n2, n3⟩ := ns_ok hVT hTH hs hkv hle
    have ek := e30 sd hs k hkv
    have hT40 := (hVT sd hs).2.2.1 k hkv
    refine g_aload_n q_X10_laysStop_51 rfl ?_
    refine g_bipush q_X10_laysStop_52 bp_41 ?_
    refine g_iload_n q_X10_laysStop_54 rfl ?_
    refine g_imul q_X10_laysStop_55 ?_
    refine g_iload q_X10_laysStop_56 rfl ?_
    refine g_iadd q_X10_laysStop_58 ?_
    refine g_topi (b := ((41 * sd + k : Nat) : Int)) (by omega) ?_
    refine g_iload_n q_X10_laysStop_59 rfl ?_
    refine g_iload_n q_X10_laysStop_60 rfl ?_
    refine g_iadd q_X10_laysStop_61 ?_
    refine g_iconst q_X10_laysStop_62 ?_
    refine g_iadd q_X10_laysStop_63 ?_
    refine g_topi (b := ((ti + nn + 1 : Nat) : Int)) (by omega) ?_
    refine g_callV (rc' := 0) (rs' := 0) (As := [_, _]) cs_X10_344 q_X10_laysStop_64 (sp_notSooner hΓ w0 w30 (41 * sd + k) (by omega) ((ti + nn + 1 : Nat) : Int) ⟨by omega, by omega⟩ ⟨by omega, by omega⟩) rfl (by repeat first | with_reducible assumption | with_reducible exact hput_s _ _ _ | refine (hput_n _ _ (by omega)).trans ?_ | exact hput_s _ _ _ | assumption) rfl rfl rfl rfl (Nat.le_of_ble_eq_true rfl) (by decide) (by decide) (by decide) (fun _ _ h => h.elim) (k_rb ?_)
    refine g_if_eq (tgt := 74) q_X10_laysStop_67 (by decide) (bi_rg _) (fun d2 => ?_) (fun d2 => ?_)
    · have hb := bi_f d2
      have hq := of_decide_eq_false hb
      rw [hb] at n2
      rw [n2.2.1 rfl, hput_id w30]
      exact none_ (fun i q1 q2 q3 => by
        have := huq i q1 q2 q3
        rw [this]
        rw [ek] at hq
        omega)
    · have hb := bi_t d2
      refine g_iconst q_X10_laysStop_70 ?_
      refine g_goto (tgt := 75) q_X10_laysStop_71 (by decide) ?_
      refine g_istore (L' := [_, _, _, _, _, _, _, _]) q_X10_laysStop_75 (by decide) rfl ?_
      refine g_fl (ls_77 hΓ n5 j15 hV hN hPr hs h1 h2 ⟨f30, hB⟩ kk _ true n1 (fun i q1 q2 q3 => ?_) (fun e => by cases e)) ⟨rfl, rfl, rfl, rfl, rfl, trivial⟩
      rw [huq i q1 q2 q3]
      exact n3
  refine g_iload q_X10_laysStop_7 rfl ?_
  refine g_aload_n q_X10_laysStop_9 rfl ?_
  refine g_get fl_X10_98 q_X10_laysStop_10 (by repeat first | with_reducible assumption | with_reducible exact hput_s _ _ _ | refine (hput_n _ _ (by omega)).trans ?_ | exact hput_s _ _ _ | assumption) rfl ?_
  refine g_iload_n q_X10_laysStop_13 rfl ?_
  refine g_iaload q_X10_laysStop_14 (by repeat first | with_reducible assumption | with_reducible exact hput_s _ _ _ | refine (hput_n _ _ (by omega)).trans ?_ | exact hput_s _ _ _ | assumption) (by omega) (by omega) ?_
  refine g_topi (b := (vn sd : Int)) (by exact e27) ?_
  refine g_icmp_ge (tgt := 40) q_X10_laysStop_15 (by decide) ⟨by omega, by omega⟩ ⟨by omega, by omega⟩ (fun d1 => ?_) (fun d1 => ?_)
  · exact at40 (fun q => by omega)
  obtain ⟨-, e29⟩ := ers k (by omega)
  have hT40 := (hVT sd hs).2.2.1 k (by omega)
  refine g_aload_n q_X10_laysStop_18 rfl ?_
  refine g_get fl_X10_104 q_X10_laysStop_19 (by repeat first | with_reducible assumption | with_reducible exact hput_s _ _ _ | refine (hput_n _ _ (by omega)).trans ?_ | exact hput_s _ _ _ | assumption) rfl ?_
  refine g_bipush q_X10_laysStop_22 bp_41 ?_
  refine g_iload_n q_X10_laysStop_24 rfl ?_
  refine g_imul q_X10_laysStop_25 ?_
  refine g_iload q_X10_laysStop_26 rfl ?_
  refine g_iadd q_X10_laysStop_28 ?_
  refine g_topi (b := ((41 * sd + k : Nat) : Int)) (by omega) ?_
  refine g_iaload q_X10_laysStop_29 (by repeat first | with_reducible assumption | with_reducible exact hput_s _ _ _ | refine (hput_n _ _ (by omega)).trans ?_ | exact hput_s _ _ _ | assumption) (by omega) (by omega) ?_
  refine g_topi (b := (T sd k : Int)) (by exact e29) ?_
  refine g_iload_n q_X10_laysStop_30 rfl ?_
  refine g_icmp_gt (tgt := 40) q_X10_laysStop_31 (by decide) ⟨by omega, by omega⟩ ⟨by omega, by omega⟩ (fun d2 => ?_) (fun d2 => ?_)
  · exact at40 (fun _ => by omega)
  · have hnx := ih (k + 1) ⟨by omega, fun i hi => by
      by_cases e : i = k
      · rw [e]; omega
      · exact hk2 i (by omega)⟩ (by omega)
    refine g_iinc (L' := [_, _, _, _, _, _, _, _]) q_X10_laysStop_34 rfl rfl ?_
    refine g_goto (tgt := 7) q_X10_laysStop_37 (by decide) ?_
    exact hnx
/-- what is late by a stop is the class's -/
theorem sp_lateBy (hΓ : Gd Γ) {ω : AH} (w0 : ω.2 m = some (mdo m J)) (hq : lsQ σ ω m P n sd ti nn) (n5 : n ≤ 5) (h1 : ti ≤ 40) (h2 : nn ≤ 20) {C : Nat → Int} (hC : ∀ c, c < n → (ctN (fun t => P (41 * c + t)) 40 : Int) = C c) (c : Nat) (hc : c < n) : Sp Γ miX10_lateBy 0 0 [.ref m, .int (ii c)] ω (ri (aLate P C n c sd ti nn) ω) noX := by
  obtain ⟨f27, f28, f29, f30, vn, T, ⟨hE, w27, w28, w29, w30⟩, ⟨hVT, hrow⟩, ht⟩ := hq
  obtain ⟨e27, ers⟩ := hrow c hc
  obtain ⟨v1, v2⟩ := (hVT c hc).1
  obtain ⟨-, e29⟩ := ers (vn c - 1) (by omega)
  have e30 := ht c hc (vn c - 1) (by omega)
  have hct := ct_last hVT hc
  have hCc := hC c hc
  rw [hct] at hCc
  have hT40 := (hVT c hc).2.2.1 (vn c - 1) (by omega)
  refine Sp_of (L := [_, _, _]) hΓ (by decide +kernel) rfl (Nat.le_of_ble_eq_true rfl) rfl ?_
  refine g_bipush q_X10_lateBy_0 bp_41 ?_
  refine g_iload_n q_X10_lateBy_2 rfl ?_
  refine g_imul q_X10_lateBy_3 ?_
  refine g_aload_n q_X10_lateBy_4 rfl ?_
  refine g_get fl_X10_98 q_X10_lateBy_5 (by repeat first | with_reducible assumption | with_reducible exact hput_s _ _ _ | refine (hput_n _ _ (by omega)).trans ?_ | exact hput_s _ _ _ | assumption) rfl ?_
  refine g_iload_n q_X10_lateBy_8 rfl ?_
  refine g_iaload q_X10_lateBy_9 (by repeat first | with_reducible assumption | with_reducible exact hput_s _ _ _ | refine (hput_n _ _ (by omega)).trans ?_ | exact hput_s _ _ _ | assumption) (by omega) (by omega) ?_
  refine g_topi (b := (vn c : Int)) (by exact e27) ?_
  refine g_iadd q_X10_lateBy_10 ?_
  refine g_iconst q_X10_lateBy_11 ?_
  refine g_isub q_X10_lateBy_12 ?_
  refine g_topi (b := ((41 * c + (vn c - 1) : Nat) : Int)) (by omega) ?_
  refine g_istore_n (L' := [_, _, _]) q_X10_lateBy_13 (by decide) rfl ?_
  refine g_aload_n q_X10_lateBy_14 rfl ?_
  refine g_get fl_X10_107 q_X10_lateBy_15 (by repeat first | with_reducible assumption | with_reducible exact hput_s _ _ _ | refine (hput_n _ _ (by omega)).trans ?_ | exact hput_s _ _ _ | assumption) rfl ?_
  refine g_iload_n q_X10_lateBy_18 rfl ?_
  refine g_iaload q_X10_lateBy_19 (by repeat first | with_reducible assumption | with_reducible exact hput_s _ _ _ | refine (hput_n _ _ (by omega)).trans ?_ | exact hput_s _ _ _ | assumption) (by omega) (by omega) ?_
  refine g_topi (b := sTm P n T sd ti nn c (vn c - 1)) (by exact e30) ?_
  refine g_aload_n q_X10_lateBy_20 rfl ?_
  refine g_get fl_X10_104 q_X10_lateBy_21 (by repeat first | with_reducible assumption | with_reducible exact hput_s _ _ _ | refine (hput_n _ _ (by omega)).trans ?_ | exact hput_s _ _ _ | assumption) rfl ?_
  refine g_iload_n q_X10_lateBy_24 rfl ?_
  refine g_iaload q_X10_lateBy_25 (by repeat first | with_reducible assumption | with_reducible exact hput_s _ _ _ | refine (hput_n _ _ (by omega)).trans ?_ | exact hput_s _ _ _ | assumption) (by omega) (by omega) ?_
  refine g_topi (b := (T c (vn c - 1) : Int)) (by exact e29) ?_
  refine g_isub q_X10_lateBy_26 ?_
  refine g_topi (b := aLate P C n c sd ti nn) (by unfold aLate; rw [sS_last hVT hc, hCc]; rfl) ?_
  refine g_ireturn q_X10_lateBy_27.1 rfl ?_
  exact ⟨rfl, rfl⟩
end MLs

