/-! Search: the best way -/
def fbm (mv : Nat → BitVec 64) (fr : Nat) (to : Int) (t j : Nat) : Nat → BitVec 64 := fun k => if k % 41 = t ∧ k / 41 < j ∧ (fr : Int) + t_ahd (k / 41) = to then mv k ||| bt1 fr else mv k
theorem t_ahd_rg (m : Nat) : -6 ≤ t_ahd m ∧ t_ahd m ≤ 6 := by
  match m with
  | 0 => exact ⟨by decide, by decide⟩
  | 1 => exact ⟨by decide, by decide⟩
  | 2 => exact ⟨by decide, by decide⟩
  | m + 3 => exact ⟨by show (-6 : Int) ≤ -1; decide, by show (-1 : Int) ≤ 6; decide⟩
def pre (lv mv ce : Nat → BitVec 64) (h : BitVec 64) (t : Nat) : BitVec 64 :=
  (h ||| (h <<< 6 &&& lv 0) &&& (mv (t + 1) ^^^ FF) ||| (h >>> 1 &&& lv 1) &&& (mv (41 + (t + 1)) ^^^ FF) ||| (h >>> 6 &&& lv 2) &&& (mv (82 + (t + 1)) ^^^ FF) ||| (h <<< 1 &&& lv 3) &&& (mv (123 + (t + 1)) ^^^ FF)) &&& (ce t ^^^ FF)
/-- the cells from which the goal can be come to, d times ahead of the end at time le -/
def bkD (lv mv ce : Nat → BitVec 64) (g le : Nat) : Nat → BitVec 64
  | 0 => bt1 g
  | d + 1 => pre lv mv ce (bkD lv mv ce g le d) (le - (d + 1))
/-- moves stay on the grid -/
def okL (lv : Nat → BitVec 64) : Prop := ∀ m c, m < 4 → c < 36 → (lv m).getLsbD c = true → 0 ≤ (c : Int) + t_ahd m ∧ (c : Int) + t_ahd m < 36
def lsm (lv mv B : Nat → BitVec 64) (fr t : Nat) : Nat → Bool := fun m => (lv m &&& (mv (41 * m + t) ^^^ FF)).getLsbD fr && (B t).getLsbD ((fr : Int) + t_ahd m).toNat
def lst (lv mv B : Nat → BitVec 64) (fr t : Nat) : Nat := if fstN (lsm lv mv B fr t) 4 = -1 then fr else ((fr : Int) + t_ahd (fstN (lsm lv mv B fr t) 4).toNat).toNat
def pth (lv mv B : Nat → BitVec 64) (pl : Nat) : Nat → Nat
  | 0 => pl
  | t + 1 => lst lv mv B (pth lv mv B pl t) (t + 1)
theorem lst_lt {lv mv B : Nat → BitVec 64} (hL : okL lv) {fr t : Nat} (h : fr < 36) : lst lv mv B fr t < 36 := by
  unfold lst
  rcases fstN_cases (lsm lv mv B fr t) 4 with ⟨e, -⟩ | ⟨k, hk, e, hp, -⟩
  · rw [if_pos e]; exact h
  · rw [if_neg (by omega), e]
    unfold lsm at hp
    rw [Bool.and_eq_true] at hp
    have h1 := hp.1
    rw [BitVec.getLsbD_and, Bool.and_eq_true] at h1
    have := hL k fr hk h h1.1
    show ((fr : Int) + t_ahd k).toNat < 36
    omega
theorem pth_lt {lv mv B : Nat → BitVec 64} (hL : okL lv) {pl : Nat} (h : pl < 36) : ∀ t, pth lv mv B pl t < 36
  | 0 => h
  | t + 1 => lst_lt hL (pth_lt hL h t)
theorem lst_cong {lv mv B B' : Nat → BitVec 64} {fr t : Nat} (h : B t = B' t) : lst lv mv B fr t = lst lv mv B' fr t := by
  have : lsm lv mv B fr t = lsm lv mv B' fr t := by funext m; unfold lsm; rw [h]
  unfold lst; rw [this]
theorem pth_cong {lv mv B B' : Nat → BitVec 64} {pl : Nat} : ∀ {t : Nat}, (∀ u, u ≤ t → B u = B' u) → pth lv mv B pl t = pth lv mv B' pl t
  | 0, _ => rfl
  | t + 1, h => by rw [pth, pth, pth_cong (fun u hu => h u (by omega)), lst_cong (h (t + 1) (by omega))]
section SR2
variable {Γ : GT} {σ : AH} {s g cols rows carts : Nat} {lv mv ce bk : Nat → BitVec 64}
theorem sp_forbidMove (hΓ : Gd Γ) (h0 : σ.2 s = some (sro s)) (h2 : σ.2 (s + 2) = some (al 164 mv)) (fr to t : Nat) (hf : fr < 36) (hto : to < 36) (ht : t < 41) : Sp Γ miX3_forbidMove 0 0 [.ref s, .int (ii fr), .int (ii to), .int (ii t)] σ (rv (hput σ (s + 2) (al 164 (fbm mv fr to t 4)))) noX := by
  obtain ⟨tH, hzH, hrH⟩ := st_AHEAD hΓ
  refine Sp_of (L := [_, _, _, _, _]) hΓ (by decide +kernel) rfl (Nat.le_of_ble_eq_true rfl) rfl ?_
  refine g_iconst q_X3_forbidMove_0 ?_
  refine g_istore (L' := [_, _, _, _, _]) q_X3_forbidMove_1 (by decide) rfl ?_
  refine g_eq (σ2 := hput σ (s + 2) (al 164 (fbm mv fr to t 0))) rfl rfl ?_ ?_
  · rw [show fbm mv fr to t 0 = mv from by funext k; simp [fbm]]
    exact (hput_id h2).symm
  refine g_loop (fun m => m ≤ 4) (fun m : Nat => G Γ _ cX3_forbidMove _ _ 0 0 3 [some (.ref s), some (.int (ii fr)), some (.int (ii to)), some (.int (ii t)), some (.int (ii m))] [] (hput σ (s + 2) (al 164 (fbm mv fr to t m)))) (fun m => 4 - m) ?_ 0 (Nat.zero_le _)
  intro m hm ih
  refine g_iload q_X3_forbidMove_3 rfl ?_
  refine g_iconst q_X3_forbidMove_5 ?_
  refine g_icmp_ge (tgt := 45) q_X3_forbidMove_6 (by decide) ⟨by omega, by omega⟩ ⟨by omega, by omega⟩ (fun hx => ?_) (fun hx => ?_)
  · have e : m = 4 := by omega
    subst e
    refine g_return q_X3_forbidMove_45.1 rfl ?_
    exact ⟨rfl, rfl⟩
  · have ha := t_ahd_rg m
    refine g_iload_n q_X3_forbidMove_9 rfl ?_
    refine g_getst ls_X3_31 hzH q_X3_forbidMove_10 ?_
    refine g_iload q_X3_forbidMove_13 rfl ?_
    refine g_iaload_ro q_X3_forbidMove_15 (by assumption) (by omega) (by omega) (by decide) ?_
    refine g_topi (b := t_ahd m) rfl ?_
    refine g_iadd q_X3_forbidMove_16 ?_
    refine g_iload_n q_X3_forbidMove_17 rfl ?_
    refine g_icmp_ne (tgt := 39) q_X3_forbidMove_18 (by decide) ⟨by omega, by omega⟩ ⟨by omega, by omega⟩ (fun hd => ?_) (fun hd => ?_)
    · refine g_iinc (L' := [_, _, _, _, _]) q_X3_forbidMove_39 rfl rfl ?_
      refine g_goto (tgt := 3) q_X3_forbidMove_42 (by decide) ?_
      have e : fbm mv fr to t (m + 1) = fbm mv fr to t m := by
        funext k
        unfold fbm
        by_cases q : k % 41 = t ∧ k / 41 < m ∧ (fr : Int) + t_ahd (k / 41) = to
        · rw [if_pos q, if_pos ⟨q.1, by omega, q.2.2⟩]
        · rw [if_neg q, if_neg]
          rintro ⟨q1, q2, q3⟩
          by_cases e9 : k / 41 = m
          · rw [e9] at q3; exact hd q3
          · exact q ⟨q1, by omega, q3⟩
      have := ih (m + 1) (by omega) (by omega)
      rw [e] at this
      exact this
    · refine g_aload_n q_X3_forbidMove_21 rfl ?_
      refine g_get fl_X3_15 q_X3_forbidMove_22 (by repeat first | with_reducible assumption | with_reducible exact hput_s _ _ _ | refine (hput_n _ _ (by omega)).trans ?_ | exact hput_s _ _ _ | assumption) rfl ?_
      refine g_bipush q_X3_forbidMove_25 bp_41 ?_
      refine g_iload q_X3_forbidMove_27 rfl ?_
      refine g_imul q_X3_forbidMove_29 ?_
      refine g_iload_n q_X3_forbidMove_30 rfl ?_
      refine g_iadd q_X3_forbidMove_31 ?_
      refine g_dup2 q_X3_forbidMove_32 rfl rfl ?_
      refine g_laload q_X3_forbidMove_33 (by repeat first | with_reducible assumption | with_reducible exact hput_s _ _ _ | refine (hput_n _ _ (by omega)).trans ?_ | exact hput_s _ _ _ | assumption) (by omega) (by omega) ?_
      refine g_lconst q_X3_forbidMove_34 ?_
      refine g_iload_n q_X3_forbidMove_35 rfl ?_
      refine g_lshl q_X3_forbidMove_36 (by omega) (by omega) ?_
      refine g_lor q_X3_forbidMove_37 ?_
      refine g_lastore q_X3_forbidMove_38 (by repeat first | with_reducible assumption | with_reducible exact hput_s _ _ _ | refine (hput_n _ _ (by omega)).trans ?_ | exact hput_s _ _ _ | assumption) (by omega) (by omega) ?_
      refine g_iinc (L' := [_, _, _, _, _]) q_X3_forbidMove_39 rfl rfl ?_
      refine g_goto (tgt := 3) q_X3_forbidMove_42 (by decide) ?_
      have e : fbm mv fr to t (m + 1) = va_up (fbm mv fr to t m) (41 * m + t) (fbm mv fr to t m (41 * m + t) ||| bt1 fr) := by
        have d1 : (41 * m + t) / 41 = m := by omega
        have d2 : (41 * m + t) % 41 = t := by omega
        funext k
        unfold va_up
        by_cases q : k = 41 * m + t
        · rw [if_pos q]
          unfold fbm
          rw [q, d1, d2, if_pos ⟨rfl, by omega, hd⟩, if_neg (fun z => by omega)]
        · rw [if_neg q]
          unfold fbm
          by_cases q2 : k % 41 = t ∧ k / 41 < m ∧ (fr : Int) + t_ahd (k / 41) = to
          · rw [if_pos q2, if_pos ⟨q2.1, by omega, q2.2.2⟩]
          · rw [if_neg q2, if_neg]
            rintro ⟨q3, q4, q5⟩
            by_cases e9 : k / 41 = m
            · omega
            · exact q2 ⟨q3, by omega, q5⟩
      have := ih (m + 1) (by omega) (by omega)
      rw [e] at this
      rw [hput_hput]
      exact this
theorem sp_leastCost (hΓ : Gd Γ) (h0 : σ.2 s = some (sro s)) (h1 : σ.2 (s + 1) = some (al 41 ce)) (h2 : σ.2 (s + 2) = some (al 164 mv)) (hg : σ.2 g = some (sco g cols rows carts)) (h6 : σ.2 (g + 6) = some (al 4 lv)) (pl go : Nat) (hp : pl < 36) (hgo : go < 36) : Sp Γ miX3_leastCost 0 0 [.ref s, .ref g, .int (ii pl), .int (ii go)] σ (ri (lcs lv mv ce pl go) σ) noX := by
  have hfl := ffr_le ce go 41
  obtain ⟨fr, hfr⟩ : ∃ fr, fr = ffr ce go 41 := ⟨_, rfl⟩
  unfold lcs
  rw [← hfr] at hfl ⊢
  refine Sp_of (L := [_, _, _, _, _, _, _, _, _, _]) hΓ (by decide +kernel) rfl (Nat.le_of_ble_eq_true rfl) rfl ?_
  refine g_aload_n q_X3_leastCost_0 rfl ?_
  refine g_get fl_X3_54 q_X3_leastCost_1 (by repeat first | with_reducible assumption | with_reducible exact hput_s _ _ _ | refine (hput_n _ _ (by omega)).trans ?_ | exact hput_s _ _ _ | assumption) rfl ?_
  refine g_astore (L' := [_, _, _, _, _, _, _, _, _, _]) q_X3_leastCost_4 (by decide) rfl ?_
  refine g_aload_n q_X3_leastCost_6 rfl ?_
  refine g_iload_n q_X3_leastCost_7 rfl ?_
  refine g_callV (rc' := 0) (rs' := 0) (As := [_]) cs_X3_57 q_X3_leastCost_8 (sp_freeFrom hΓ h0 h1 go (by omega)) rfl (by repeat first | with_reducible assumption | with_reducible exact hput_s _ _ _ | refine (hput_n _ _ (by omega)).trans ?_ | exact hput_s _ _ _ | assumption) rfl rfl rfl rfl (Nat.le_of_ble_eq_true rfl) (by decide) (by decide) (by decide) (fun _ _ h => h.elim) (k_ri ?_)
  rw [← hfr]
  refine g_istore (L' := [_, _, _, _, _, _, _, _, _, _]) q_X3_leastCost_11 (by decide) rfl ?_
  refine g_lconst q_X3_leastCost_13 ?_
  refine g_iload_n q_X3_leastCost_14 rfl ?_
  refine g_lshl q_X3_leastCost_15 (by omega) (by omega) ?_
  refine g_aload_n q_X3_leastCost_16 rfl ?_
  refine g_get fl_X3_9 q_X3_leastCost_17 (by repeat first | with_reducible assumption | with_reducible exact hput_s _ _ _ | refine (hput_n _ _ (by omega)).trans ?_ | exact hput_s _ _ _ | assumption) rfl ?_
  refine g_iconst q_X3_leastCost_20 ?_
  refine g_laload q_X3_leastCost_21 (by repeat first | with_reducible assumption | with_reducible exact hput_s _ _ _ | refine (hput_n _ _ (by omega)).trans ?_ | exact hput_s _ _ _ | assumption) (by omega) (by omega) ?_
  refine g_ldc2 q_X3_leastCost_22 kc_X3_61 rfl ?_
  refine g_lxor q_X3_leastCost_25 ?_
  refine g_land q_X3_leastCost_26 ?_
  refine g_lstore (L' := [_, _, _, _, _, _, _, _, _, _]) q_X3_leastCost_27 (by decide) rfl ?_
  refine g_iconst q_X3_leastCost_29 ?_
  refine g_istore (L' := [_, _, _, _, _, _, _, _, _, _]) q_X3_leastCost_30 (by decide) rfl ?_
  refine g_loop (fun t => t ≤ 40 ∧ ∀ u, u < t → (decide (fr ≤ u) && (hsN lv mv ce pl u).getLsbD go) = false) (fun t : Nat => G Γ _ cX3_leastCost _ _ 0 0 32 [some (.ref s), some (.ref g), some (.int (ii pl)), some (.int (ii go)), some (.ref (g + 6)), some (.int (ii fr)), some (.long (lb (hsN lv mv ce pl t))), none, some (.int (ii t)), none] [] σ) (fun t => 40 - t) ?_ 0 ⟨Nat.zero_le _, fun u h => absurd h (Nat.not_lt_zero u)⟩
  intro t ⟨ht, hno⟩ ih
  refine g_iload q_X3_leastCost_32 rfl ?_
  refine g_bipush q_X3_leastCost_34 bp_40 ?_
  have hrest : (decide (fr ≤ t) && (hsN lv mv ce pl t).getLsbD go) = false → t < 40 → G Γ miX3_leastCost cX3_leastCost (ri (fstN (fun t => decide (fr ≤ t) && (hsN lv mv ce pl t).getLsbD go) 41) σ) noX 0 0 60 [some (.ref s), some (.ref g), some (.int (ii pl)), some (.int (ii go)), some (.ref (g + 6)), some (.int (ii fr)), some (.long (lb (hsN lv mv ce pl t))), none, some (.int (ii t)), none] [] σ := by
    intro hb h40
    refine g_iload q_X3_leastCost_60 rfl ?_
    refine g_iconst q_X3_leastCost_62 ?_
    refine g_iadd q_X3_leastCost_63 ?_
    refine g_istore (L' := [_, _, _, _, _, _, _, _, _, _]) q_X3_leastCost_64 (by decide) rfl ?_
    refine g_lload q_X3_leastCost_66 rfl ?_
    refine g_lload q_X3_leastCost_68 rfl ?_
    refine g_aload q_X3_leastCost_70 rfl ?_
    refine g_iconst q_X3_leastCost_72 ?_
    refine g_laload q_X3_leastCost_73 (by repeat first | with_reducible assumption | with_reducible exact hput_s _ _ _ | refine (hput_n _ _ (by omega)).trans ?_ | exact hput_s _ _ _ | assumption) (by omega) (by omega) ?_
    refine g_land q_X3_leastCost_74 ?_
    refine g_aload_n q_X3_leastCost_75 rfl ?_
    refine g_get fl_X3_15 q_X3_leastCost_76 (by repeat first | with_reducible assumption | with_reducible exact hput_s _ _ _ | refine (hput_n _ _ (by omega)).trans ?_ | exact hput_s _ _ _ | assumption) rfl ?_
    refine g_iload q_X3_leastCost_79 rfl ?_
    refine g_laload q_X3_leastCost_81 (by repeat first | with_reducible assumption | with_reducible exact hput_s _ _ _ | refine (hput_n _ _ (by omega)).trans ?_ | exact hput_s _ _ _ | assumption) (by omega) (by omega) ?_
    refine g_ldc2 q_X3_leastCost_82 kc_X3_61 rfl ?_
    refine g_lxor q_X3_leastCost_85 ?_
    refine g_land q_X3_leastCost_86 ?_
    refine g_bipush q_X3_leastCost_87 bp_6 ?_
    refine g_lushr q_X3_leastCost_89 (by omega) (by omega) ?_
    refine g_lor q_X3_leastCost_90 ?_
    refine g_lload q_X3_leastCost_91 rfl ?_
    refine g_aload q_X3_leastCost_93 rfl ?_
    refine g_iconst q_X3_leastCost_95 ?_
    refine g_laload q_X3_leastCost_96 (by repeat first | with_reducible assumption | with_reducible exact hput_s _ _ _ | refine (hput_n _ _ (by omega)).trans ?_ | exact hput_s _ _ _ | assumption) (by omega) (by omega) ?_
    refine g_land q_X3_leastCost_97 ?_
    refine g_aload_n q_X3_leastCost_98 rfl ?_
    refine g_get fl_X3_15 q_X3_leastCost_99 (by repeat first | with_reducible assumption | with_reducible exact hput_s _ _ _ | refine (hput_n _ _ (by omega)).trans ?_ | exact hput_s _ _ _ | assumption) rfl ?_
    refine g_bipush q_X3_leastCost_102 bp_41 ?_
    refine g_iload q_X3_leastCost_104 rfl ?_
    refine g_iadd q_X3_leastCost_106 ?_
    refine g_laload q_X3_leastCost_107 (by repeat first | with_reducible assumption | with_reducible exact hput_s _ _ _ | refine (hput_n _ _ (by omega)).trans ?_ | exact hput_s _ _ _ | assumption) (by omega) (by omega) ?_
    refine g_ldc2 q_X3_leastCost_108 kc_X3_61 rfl ?_
    refine g_lxor q_X3_leastCost_111 ?_
    refine g_land q_X3_leastCost_112 ?_
    refine g_iconst q_X3_leastCost_113 ?_
    refine g_lshl q_X3_leastCost_114 (by omega) (by omega) ?_
    refine g_lor q_X3_leastCost_115 ?_
    refine g_lload q_X3_leastCost_116 rfl ?_
    refine g_aload q_X3_leastCost_118 rfl ?_
    refine g_iconst q_X3_leastCost_120 ?_
    refine g_laload q_X3_leastCost_121 (by repeat first | with_reducible assumption | with_reducible exact hput_s _ _ _ | refine (hput_n _ _ (by omega)).trans ?_ | exact hput_s _ _ _ | assumption) (by omega) (by omega) ?_
    refine g_land q_X3_leastCost_122 ?_
    refine g_aload_n q_X3_leastCost_123 rfl ?_
    refine g_get fl_X3_15 q_X3_leastCost_124 (by repeat first | with_reducible assumption | with_reducible exact hput_s _ _ _ | refine (hput_n _ _ (by omega)).trans ?_ | exact hput_s _ _ _ | assumption) rfl ?_
    refine g_bipush q_X3_leastCost_127 bp_82 ?_
    refine g_iload q_X3_leastCost_129 rfl ?_
    refine g_iadd q_X3_leastCost_131 ?_
    refine g_laload q_X3_leastCost_132 (by repeat first | with_reducible assumption | with_reducible exact hput_s _ _ _ | refine (hput_n _ _ (by omega)).trans ?_ | exact hput_s _ _ _ | assumption) (by omega) (by omega) ?_
    refine g_ldc2 q_X3_leastCost_133 kc_X3_61 rfl ?_
    refine g_lxor q_X3_leastCost_136 ?_
    refine g_land q_X3_leastCost_137 ?_
    refine g_bipush q_X3_leastCost_138 bp_6 ?_
    refine g_lshl q_X3_leastCost_140 (by omega) (by omega) ?_
    refine g_lor q_X3_leastCost_141 ?_
    refine g_lload q_X3_leastCost_142 rfl ?_
    refine g_aload q_X3_leastCost_144 rfl ?_
    refine g_iconst q_X3_leastCost_146 ?_
    refine g_laload q_X3_leastCost_147 (by repeat first | with_reducible assumption | with_reducible exact hput_s _ _ _ | refine (hput_n _ _ (by omega)).trans ?_ | exact hput_s _ _ _ | assumption) (by omega) (by omega) ?_
    refine g_land q_X3_leastCost_148 ?_
    refine g_aload_n q_X3_leastCost_149 rfl ?_
    refine g_get fl_X3_15 q_X3_leastCost_150 (by repeat first | with_reducible assumption | with_reducible exact hput_s _ _ _ | refine (hput_n _ _ (by omega)).trans ?_ | exact hput_s _ _ _ | assumption) rfl ?_
    refine g_bipush q_X3_leastCost_153 bp_123 ?_
    refine g_iload q_X3_leastCost_155 rfl ?_
    refine g_iadd q_X3_leastCost_157 ?_
    refine g_laload q_X3_leastCost_158 (by repeat first | with_reducible assumption | with_reducible exact hput_s _ _ _ | refine (hput_n _ _ (by omega)).trans ?_ | exact hput_s _ _ _ | assumption) (by omega) (by omega) ?_
    refine g_ldc2 q_X3_leastCost_159 kc_X3_61 rfl ?_
    refine g_lxor q_X3_leastCost_162 ?_
    refine g_land q_X3_leastCost_163 ?_
    refine g_iconst q_X3_leastCost_164 ?_
    refine g_lushr q_X3_leastCost_165 (by omega) (by omega) ?_
    refine g_lor q_X3_leastCost_166 ?_
    refine g_aload_n q_X3_leastCost_167 rfl ?_
    refine g_get fl_X3_9 q_X3_leastCost_168 (by repeat first | with_reducible assumption | with_reducible exact hput_s _ _ _ | refine (hput_n _ _ (by omega)).trans ?_ | exact hput_s _ _ _ | assumption) rfl ?_
    refine g_iload q_X3_leastCost_171 rfl ?_
    refine g_laload q_X3_leastCost_173 (by repeat first | with_reducible assumption | with_reducible exact hput_s _ _ _ | refine (hput_n _ _ (by omega)).trans ?_ | exact hput_s _ _ _ | assumption) (by omega) (by omega) ?_
    refine g_ldc2 q_X3_leastCost_174 kc_X3_61 rfl ?_
    refine g_lxor q_X3_leastCost_177 ?_
    refine g_land q_X3_leastCost_178 ?_
    refine g_lstore (L' := [_, _, _, _, _, _, _, _, _, _]) q_X3_leastCost_179 (by decide) rfl ?_
    refine g_iinc (L' := [_, _, _, _, _, _, _, _, _, _]) q_X3_leastCost_181 rfl rfl ?_
    refine g_goto (tgt := 32) q_X3_leastCost_184 (by decide) ?_
    refine g_fl (ih (t + 1) ⟨by omega, fun u hu => ?_⟩ (by omega)) ⟨rfl, rfl, rfl, rfl, rfl, rfl, rfl, rfl, trivial⟩
    rcases Nat.lt_or_ge u t with q | q
    · exact hno u q
    · rw [show u = t by omega]; exact hb
  refine g_icmp_ge (tgt := 187) q_X3_leastCost_36 (by decide) ⟨by omega, by omega⟩ ⟨by omega, by omega⟩ (fun hx => ?_) (fun hx => ?_)
  · have e40 : t = 40 := by omega
    subst e40
    refine g_bipush q_X3_leastCost_187 bp_40 ?_
    refine g_iload q_X3_leastCost_189 rfl ?_
    refine g_icmp_lt (tgt := 210) q_X3_leastCost_191 (by decide) ⟨by omega, by omega⟩ ⟨by omega, by omega⟩ (fun hd => ?_) (fun hd => ?_)
    · refine g_iconst q_X3_leastCost_210 ?_
      refine g_ireturn q_X3_leastCost_211.1 rfl ?_
      refine ⟨?_, rfl⟩
      rw [fstN_none fun j hj => ?_]
      rcases Nat.lt_or_ge j 40 with q | q
      · exact hno j q
      · rw [decide_eq_false (by omega), Bool.false_and]
    · refine g_lload q_X3_leastCost_194 rfl ?_
      refine g_iload_n q_X3_leastCost_196 rfl ?_
      refine g_lushr q_X3_leastCost_197 (by omega) (by omega) ?_
      refine g_lconst q_X3_leastCost_198 ?_
      refine g_land q_X3_leastCost_199 ?_
      refine g_lconst q_X3_leastCost_200 ?_
      refine g_lcmp q_X3_leastCost_201 ?_
      refine g_topi (b := tbz ((hsN lv mv ce pl 40).getLsbD go)) (by exact bit_lcm _ _) ?_
      refine g_if_ne (tgt := 210) q_X3_leastCost_202 (by decide) (tbz_rg _) (fun hd2 => ?_) (fun hd2 => ?_)
      · refine g_iconst q_X3_leastCost_210 ?_
        refine g_ireturn q_X3_leastCost_211.1 rfl ?_
        refine ⟨?_, rfl⟩
        rw [fstN_none fun j hj => ?_]
        rcases Nat.lt_or_ge j 40 with q | q
        · exact hno j q
        · rw [show j = 40 by omega, tbz_ne hd2, Bool.and_false]
      · refine g_bipush q_X3_leastCost_205 bp_40 ?_
        refine g_goto (tgt := 211) q_X3_leastCost_207 (by decide) ?_
        refine g_ireturn q_X3_leastCost_211.1 rfl ?_
        refine ⟨?_, rfl⟩
        rw [fstN_some (k := 40) (by omega) (by rw [tbz_eq hd2, decide_eq_true (by omega)]; rfl) hno]
        rfl
  · refine g_iload q_X3_leastCost_39 rfl ?_
    refine g_iload q_X3_leastCost_41 rfl ?_
    refine g_icmp_lt (tgt := 60) q_X3_leastCost_43 (by decide) ⟨by omega, by omega⟩ ⟨by omega, by omega⟩ (fun hd => ?_) (fun hd => ?_)
    · exact hrest (by rw [decide_eq_false (by omega), Bool.false_and]) (by omega)
    · refine g_lload q_X3_leastCost_46 rfl ?_
      refine g_iload_n q_X3_leastCost_48 rfl ?_
      refine g_lushr q_X3_leastCost_49 (by omega) (by omega) ?_
      refine g_lconst q_X3_leastCost_50 ?_
      refine g_land q_X3_leastCost_51 ?_
      refine g_lconst q_X3_leastCost_52 ?_
      refine g_lcmp q_X3_leastCost_53 ?_
      refine g_topi (b := tbz ((hsN lv mv ce pl t).getLsbD go)) (by exact bit_lcm _ _) ?_
      refine g_if_ne (tgt := 60) q_X3_leastCost_54 (by decide) (tbz_rg _) (fun hd2 => ?_) (fun hd2 => ?_)
      · exact hrest (by rw [tbz_ne hd2, Bool.and_false]) (by omega)
      · refine g_iload q_X3_leastCost_57 rfl ?_
        refine g_ireturn q_X3_leastCost_59.1 rfl ?_
        refine ⟨?_, rfl⟩
        rw [fstN_some (k := t) (by omega) (by rw [tbz_eq hd2, decide_eq_true (by omega)]; rfl) hno]
theorem sp_lookBack (hΓ : Gd Γ) (h0 : σ.2 s = some (sro s)) (h1 : σ.2 (s + 1) = some (al 41 ce)) (h2 : σ.2 (s + 2) = some (al 164 mv)) (h3 : σ.2 (s + 3) = some (al 41 bk)) (hg : σ.2 g = some (sco g cols rows carts)) (h6 : σ.2 (g + 6) = some (al 4 lv)) (hsg : s + 3 < g ∨ g + 6 < s) (go le : Nat) (hgo : go < 36) (hle : le < 41) : Sp Γ miX3_lookBack 0 0 [.ref s, .ref g, .int (ii go), .int (ii le)] σ (fun r σ' => r = none ∧ ∃ B, σ' = hput σ (s + 3) (al 41 B) ∧ ∀ t, t ≤ le → B t = bkD lv mv ce go le (le - t)) noX := by
  refine Sp_of (L := [_, _, _, _, _, _, _, _]) hΓ (by decide +kernel) rfl (Nat.le_of_ble_eq_true rfl) rfl ?_
  refine g_aload_n q_X3_lookBack_0 rfl ?_
  refine g_get fl_X3_54 q_X3_lookBack_1 (by repeat first | with_reducible assumption | with_reducible exact hput_s _ _ _ | refine (hput_n _ _ (by omega)).trans ?_ | exact hput_s _ _ _ | assumption) rfl ?_
  refine g_astore (L' := [_, _, _, _, _, _, _, _]) q_X3_lookBack_4 (by decide) rfl ?_
  refine g_aload_n q_X3_lookBack_6 rfl ?_
  refine g_get fl_X3_18 q_X3_lookBack_7 (by repeat first | with_reducible assumption | with_reducible exact hput_s _ _ _ | refine (hput_n _ _ (by omega)).trans ?_ | exact hput_s _ _ _ | assumption) rfl ?_
  refine g_iload_n q_X3_lookBack_10 rfl ?_
  refine g_lconst q_X3_lookBack_11 ?_
  refine g_iload_n q_X3_lookBack_12 rfl ?_
  refine g_lshl q_X3_lookBack_13 (by omega) (by omega) ?_
  refine g_lastore q_X3_lookBack_14 (by repeat first | with_reducible assumption | with_reducible exact hput_s _ _ _ | refine (hput_n _ _ (by omega)).trans ?_ | exact hput_s _ _ _ | assumption) (by omega) (by omega) ?_
  refine g_iload_n q_X3_lookBack_15 rfl ?_
  refine g_istore (L' := [_, _, _, _, _, _, _, _]) q_X3_lookBack_16 (by decide) rfl ?_
  refine g_loop (β := Nat × (Nat → BitVec 64)) (fun q => q.1 ≤ le ∧ ∀ t, le - q.1 ≤ t → t ≤ le → q.2 t = bkD lv mv ce go le (le - t)) (fun q => G Γ _ cX3_lookBack _ _ 0 0 18 [some (.ref s), some (.ref g), some (.int (ii go)), some (.int (ii le)), some (.ref (g + 6)), some (.int (ii ((le - q.1 : Nat) : Int))), none, none] [] (hput σ (s + 3) (al 41 q.2))) (fun q => le - q.1) ?_ (0, va_up bk le (bt1 go)) ⟨Nat.zero_le _, fun t q1 q2 => ?_⟩
  · rintro ⟨d, B⟩ ⟨hd, hB⟩ ih
    dsimp only at hd hB ih ⊢
    refine g_iload q_X3_lookBack_18 rfl ?_
    refine g_if_le (tgt := 162) q_X3_lookBack_20 (by decide) ⟨by omega, by omega⟩ (fun hx => ?_) (fun hx => ?_)
    · refine g_return q_X3_lookBack_162.1 rfl ?_
      exact ⟨rfl, B, rfl, fun t ht => hB t (by omega) ht⟩
    · obtain ⟨u, hu⟩ : ∃ u, le - d = u + 1 := ⟨le - d - 1, by omega⟩
      rw [hu]
      have eu : (((u + 1 : Nat) : Int) - 1) = (u : Int) := by omega
      refine g_aload_n q_X3_lookBack_23 rfl ?_
      refine g_get fl_X3_18 q_X3_lookBack_24 (by repeat first | with_reducible assumption | with_reducible exact hput_s _ _ _ | refine (hput_n _ _ (by omega)).trans ?_ | exact hput_s _ _ _ | assumption) rfl ?_
      refine g_iload q_X3_lookBack_27 rfl ?_
      refine g_laload q_X3_lookBack_29 (by repeat first | with_reducible assumption | with_reducible exact hput_s _ _ _ | refine (hput_n _ _ (by omega)).trans ?_ | exact hput_s _ _ _ | assumption) (by omega) (by omega) ?_
      refine g_lstore (L' := [_, _, _, _, _, _, _, _]) q_X3_lookBack_30 (by decide) rfl ?_
      refine g_aload_n q_X3_lookBack_32 rfl ?_
      refine g_get fl_X3_18 q_X3_lookBack_33 (by repeat first | with_reducible assumption | with_reducible exact hput_s _ _ _ | refine (hput_n _ _ (by omega)).trans ?_ | exact hput_s _ _ _ | assumption) rfl ?_
      refine g_iload q_X3_lookBack_36 rfl ?_
      refine g_iconst q_X3_lookBack_38 ?_
      refine g_isub q_X3_lookBack_39 ?_
      refine g_topi (b := ((u : Nat) : Int)) (by exact eu) ?_
      refine g_lload q_X3_lookBack_40 rfl ?_
      refine g_lload q_X3_lookBack_42 rfl ?_
      refine g_bipush q_X3_lookBack_44 bp_6 ?_
      refine g_lshl q_X3_lookBack_46 (by omega) (by omega) ?_
      refine g_aload q_X3_lookBack_47 rfl ?_
      refine g_iconst q_X3_lookBack_49 ?_
      refine g_laload q_X3_lookBack_50 (by repeat first | with_reducible assumption | with_reducible exact hput_s _ _ _ | refine (hput_n _ _ (by omega)).trans ?_ | exact hput_s _ _ _ | assumption) (by omega) (by omega) ?_
      refine g_land q_X3_lookBack_51 ?_
      refine g_aload_n q_X3_lookBack_52 rfl ?_
      refine g_get fl_X3_15 q_X3_lookBack_53 (by repeat first | with_reducible assumption | with_reducible exact hput_s _ _ _ | refine (hput_n _ _ (by omega)).trans ?_ | exact hput_s _ _ _ | assumption) rfl ?_
      refine g_iload q_X3_lookBack_56 rfl ?_
      refine g_laload q_X3_lookBack_58 (by repeat first | with_reducible assumption | with_reducible exact hput_s _ _ _ | refine (hput_n _ _ (by omega)).trans ?_ | exact hput_s _ _ _ | assumption) (by omega) (by omega) ?_
      refine g_ldc2 q_X3_lookBack_59 kc_X3_61 rfl ?_
      refine g_lxor q_X3_lookBack_62 ?_
      refine g_land q_X3_lookBack_63 ?_
      refine g_lor q_X3_lookBack_64 ?_
      refine g_lload q_X3_lookBack_65 rfl ?_
      refine g_iconst q_X3_lookBack_67 ?_
      refine g_lushr q_X3_lookBack_68 (by omega) (by omega) ?_
      refine g_aload q_X3_lookBack_69 rfl ?_
      refine g_iconst q_X3_lookBack_71 ?_
      refine g_laload q_X3_lookBack_72 (by repeat first | with_reducible assumption | with_reducible exact hput_s _ _ _ | refine (hput_n _ _ (by omega)).trans ?_ | exact hput_s _ _ _ | assumption) (by omega) (by omega) ?_
      refine g_land q_X3_lookBack_73 ?_
      refine g_aload_n q_X3_lookBack_74 rfl ?_
      refine g_get fl_X3_15 q_X3_lookBack_75 (by repeat first | with_reducible assumption | with_reducible exact hput_s _ _ _ | refine (hput_n _ _ (by omega)).trans ?_ | exact hput_s _ _ _ | assumption) rfl ?_
      refine g_bipush q_X3_lookBack_78 bp_41 ?_
      refine g_iload q_X3_lookBack_80 rfl ?_
      refine g_iadd q_X3_lookBack_82 ?_
      refine g_laload q_X3_lookBack_83 (by repeat first | with_reducible assumption | with_reducible exact hput_s _ _ _ | refine (hput_n _ _ (by omega)).trans ?_ | exact hput_s _ _ _ | assumption) (by omega) (by omega) ?_
      refine g_ldc2 q_X3_lookBack_84 kc_X3_61 rfl ?_
      refine g_lxor q_X3_lookBack_87 ?_
      refine g_land q_X3_lookBack_88 ?_
      refine g_lor q_X3_lookBack_89 ?_
      refine g_lload q_X3_lookBack_90 rfl ?_
      refine g_bipush q_X3_lookBack_92 bp_6 ?_
      refine g_lushr q_X3_lookBack_94 (by omega) (by omega) ?_
      refine g_aload q_X3_lookBack_95 rfl ?_
      refine g_iconst q_X3_lookBack_97 ?_
      refine g_laload q_X3_lookBack_98 (by repeat first | with_reducible assumption | with_reducible exact hput_s _ _ _ | refine (hput_n _ _ (by omega)).trans ?_ | exact hput_s _ _ _ | assumption) (by omega) (by omega) ?_
      refine g_land q_X3_lookBack_99 ?_
      refine g_aload_n q_X3_lookBack_100 rfl ?_
      refine g_get fl_X3_15 q_X3_lookBack_101 (by repeat first | with_reducible assumption | with_reducible exact hput_s _ _ _ | refine (hput_n _ _ (by omega)).trans ?_ | exact hput_s _ _ _ | assumption) rfl ?_
      refine g_bipush q_X3_lookBack_104 bp_82 ?_
      refine g_iload q_X3_lookBack_106 rfl ?_
      refine g_iadd q_X3_lookBack_108 ?_
      refine g_laload q_X3_lookBack_109 (by repeat first | with_reducible assumption | with_reducible exact hput_s _ _ _ | refine (hput_n _ _ (by omega)).trans ?_ | exact hput_s _ _ _ | assumption) (by omega) (by omega) ?_
      refine g_ldc2 q_X3_lookBack_110 kc_X3_61 rfl ?_
      refine g_lxor q_X3_lookBack_113 ?_
      refine g_land q_X3_lookBack_114 ?_
      refine g_lor q_X3_lookBack_115 ?_
      refine g_lload q_X3_lookBack_116 rfl ?_
      refine g_iconst q_X3_lookBack_118 ?_
      refine g_lshl q_X3_lookBack_119 (by omega) (by omega) ?_
      refine g_aload q_X3_lookBack_120 rfl ?_
      refine g_iconst q_X3_lookBack_122 ?_
      refine g_laload q_X3_lookBack_123 (by repeat first | with_reducible assumption | with_reducible exact hput_s _ _ _ | refine (hput_n _ _ (by omega)).trans ?_ | exact hput_s _ _ _ | assumption) (by omega) (by omega) ?_
      refine g_land q_X3_lookBack_124 ?_
      refine g_aload_n q_X3_lookBack_125 rfl ?_
      refine g_get fl_X3_15 q_X3_lookBack_126 (by repeat first | with_reducible assumption | with_reducible exact hput_s _ _ _ | refine (hput_n _ _ (by omega)).trans ?_ | exact hput_s _ _ _ | assumption) rfl ?_
      refine g_bipush q_X3_lookBack_129 bp_123 ?_
      refine g_iload q_X3_lookBack_131 rfl ?_
      refine g_iadd q_X3_lookBack_133 ?_
      refine g_laload q_X3_lookBack_134 (by repeat first | with_reducible assumption | with_reducible exact hput_s _ _ _ | refine (hput_n _ _ (by omega)).trans ?_ | exact hput_s _ _ _ | assumption) (by omega) (by omega) ?_
      refine g_ldc2 q_X3_lookBack_135 kc_X3_61 rfl ?_
      refine g_lxor q_X3_lookBack_138 ?_
      refine g_land q_X3_lookBack_139 ?_
      refine g_lor q_X3_lookBack_140 ?_
      refine g_aload_n q_X3_lookBack_141 rfl ?_
      refine g_get fl_X3_9 q_X3_lookBack_142 (by repeat first | with_reducible assumption | with_reducible exact hput_s _ _ _ | refine (hput_n _ _ (by omega)).trans ?_ | exact hput_s _ _ _ | assumption) rfl ?_
      refine g_iload q_X3_lookBack_145 rfl ?_
      refine g_iconst q_X3_lookBack_147 ?_
      refine g_isub q_X3_lookBack_148 ?_
      refine g_topi (b := ((u : Nat) : Int)) (by exact eu) ?_
      refine g_laload q_X3_lookBack_149 (by repeat first | with_reducible assumption | with_reducible exact hput_s _ _ _ | refine (hput_n _ _ (by omega)).trans ?_ | exact hput_s _ _ _ | assumption) (by omega) (by omega) ?_
      refine g_ldc2 q_X3_lookBack_150 kc_X3_61 rfl ?_
      refine g_lxor q_X3_lookBack_153 ?_
      refine g_land q_X3_lookBack_154 ?_
      refine g_lastore q_X3_lookBack_155 (by repeat first | with_reducible assumption | with_reducible exact hput_s _ _ _ | refine (hput_n _ _ (by omega)).trans ?_ | exact hput_s _ _ _ | assumption) (by omega) (by omega) ?_
      refine g_iinc (L' := [_, _, _, _, _, _, _, _]) q_X3_lookBack_156 rfl rfl ?_
      refine g_goto (tgt := 18) q_X3_lookBack_159 (by decide) ?_
      rw [hput_hput]
      have hv : bkD lv mv ce go le (le - u) = pre lv mv ce (B (u + 1)) u := by
        rw [show le - u = (le - (u + 1)) + 1 by omega, bkD, hB (u + 1) (by omega) (by omega), show le - (le - (u + 1) + 1) = u by omega]
      have := ih (d + 1, va_up B u (pre lv mv ce (B (u + 1)) u)) ⟨by simp only; omega, fun t q1 q2 => by
        simp only [va_up]
        by_cases q : t = u
        · rw [if_pos q, q, hv]
        · rw [if_neg q]
          exact hB t (by simp only at q1; omega) q2⟩ (by simp only; omega)
      dsimp only at this
      rw [show le - (d + 1) = u by omega] at this
      refine g_fl this ⟨rfl, rfl, rfl, rfl, rfl, ?_, trivial⟩
      rw [show (((u + 1 : Nat) : Int) + -1) = (u : Int) by omega]
  · simp only [va_up]
    simp only at q1
    rw [if_pos (by omega), show le - t = 0 by omega]
    rfl
theorem sp_leastStep (hΓ : Gd Γ) (hL : okL lv) (h0 : σ.2 s = some (sro s)) (h2 : σ.2 (s + 2) = some (al 164 mv)) (h3 : σ.2 (s + 3) = some (al 41 bk)) (hg : σ.2 g = some (sco g cols rows carts)) (h6 : σ.2 (g + 6) = some (al 4 lv)) (fr t : Nat) (hf : fr < 36) (ht : t < 41) : Sp Γ miX3_leastStep 0 0 [.ref s, .ref g, .int (ii fr), .int (ii t)] σ (ri (lst lv mv bk fr t) σ) noX := by
  obtain ⟨tH, hzH, hrH⟩ := st_AHEAD hΓ
  refine Sp_of (L := [_, _, _, _, _, _, _]) hΓ (by decide +kernel) rfl (Nat.le_of_ble_eq_true rfl) rfl ?_
  refine g_iconst q_X3_leastStep_0 ?_
  refine g_istore (L' := [_, _, _, _, _, _, _]) q_X3_leastStep_1 (by decide) rfl ?_
  refine g_loop (fun m => m ≤ 4 ∧ ∀ j, j < m → lsm lv mv bk fr t j = false) (fun m : Nat => G Γ _ cX3_leastStep _ _ 0 0 3 [some (.ref s), some (.ref g), some (.int (ii fr)), some (.int (ii t)), some (.int (ii m)), none, none] [] σ) (fun m => 4 - m) ?_ 0 ⟨Nat.zero_le _, fun j h => absurd h (Nat.not_lt_zero j)⟩
  intro m ⟨hm, hno⟩ ih
  refine g_iload q_X3_leastStep_3 rfl ?_
  refine g_iconst q_X3_leastStep_5 ?_
  refine g_icmp_ge (tgt := 83) q_X3_leastStep_6 (by decide) ⟨by omega, by omega⟩ ⟨by omega, by omega⟩ (fun hx => ?_) (fun hx => ?_)
  · refine g_iload_n q_X3_leastStep_83 rfl ?_
    refine g_ireturn q_X3_leastStep_84.1 rfl ?_
    refine ⟨?_, rfl⟩
    have e4 : m = 4 := by omega
    subst e4
    unfold lst
    rw [if_pos (fstN_none hno)]
  · have ha := t_ahd_rg m
    have hrest : lsm lv mv bk fr t m = false → ∀ x y, G Γ miX3_leastStep cX3_leastStep (ri (lst lv mv bk fr t) σ) noX 0 0 77 [some (.ref s), some (.ref g), some (.int (ii fr)), some (.int (ii t)), some (.int (ii m)), x, y] [] σ := by
      intro hb x y
      refine g_fl (L2 := [some (.ref s), some (.ref g), some (.int (ii fr)), some (.int (ii t)), some (.int (ii m)), none, none]) ?_ ⟨rfl, rfl, rfl, rfl, rfl, trivial⟩
      refine g_iinc (L' := [_, _, _, _, _, _, _]) q_X3_leastStep_77 rfl rfl ?_
      refine g_goto (tgt := 3) q_X3_leastStep_80 (by decide) ?_
      refine ih (m + 1) ⟨by omega, fun j hj => ?_⟩ (by omega)
      rcases Nat.lt_or_ge j m with q | q
      · exact hno j q
      · rw [show j = m by omega]; exact hb
    refine g_aload_n q_X3_leastStep_9 rfl ?_
    refine g_get fl_X3_54 q_X3_leastStep_10 (by repeat first | with_reducible assumption | with_reducible exact hput_s _ _ _ | refine (hput_n _ _ (by omega)).trans ?_ | exact hput_s _ _ _ | assumption) rfl ?_
    refine g_iload q_X3_leastStep_13 rfl ?_
    refine g_laload q_X3_leastStep_15 (by repeat first | with_reducible assumption | with_reducible exact hput_s _ _ _ | refine (hput_n _ _ (by omega)).trans ?_ | exact hput_s _ _ _ | assumption) (by omega) (by omega) ?_
    refine g_aload_n q_X3_leastStep_16 rfl ?_
    refine g_get fl_X3_15 q_X3_leastStep_17 (by repeat first | with_reducible assumption | with_reducible exact hput_s _ _ _ | refine (hput_n _ _ (by omega)).trans ?_ | exact hput_s _ _ _ | assumption) rfl ?_
    refine g_bipush q_X3_leastStep_20 bp_41 ?_
    refine g_iload q_X3_leastStep_22 rfl ?_
    refine g_imul q_X3_leastStep_24 ?_
    refine g_iload_n q_X3_leastStep_25 rfl ?_
    refine g_iadd q_X3_leastStep_26 ?_
    refine g_laload q_X3_leastStep_27 (by repeat first | with_reducible assumption | with_reducible exact hput_s _ _ _ | refine (hput_n _ _ (by omega)).trans ?_ | exact hput_s _ _ _ | assumption) (by omega) (by omega) ?_
    refine g_ldc2 q_X3_leastStep_28 kc_X3_61 rfl ?_
    refine g_lxor q_X3_leastStep_31 ?_
    refine g_land q_X3_leastStep_32 ?_
    refine g_lstore (L' := [_, _, _, _, _, _, _]) q_X3_leastStep_33 (by decide) rfl ?_
    refine g_lload q_X3_leastStep_35 rfl ?_
    refine g_iload_n q_X3_leastStep_37 rfl ?_
    refine g_lushr q_X3_leastStep_38 (by omega) (by omega) ?_
    refine g_lconst q_X3_leastStep_39 ?_
    refine g_land q_X3_leastStep_40 ?_
    refine g_lconst q_X3_leastStep_41 ?_
    refine g_lcmp q_X3_leastStep_42 ?_
    refine g_topi (b := tbz ((lv m &&& (mv (41 * m + t) ^^^ FF)).getLsbD fr)) (by exact bit_lcm _ _) ?_
    refine g_if_ne (tgt := 77) q_X3_leastStep_43 (by decide) (tbz_rg _) (fun hd => ?_) (fun hd => ?_)
    · exact hrest (by unfold lsm; rw [tbz_ne hd, Bool.false_and]) _ _
    · have hb1 := tbz_eq hd
      have hb2 := hb1
      rw [BitVec.getLsbD_and, Bool.and_eq_true] at hb2
      have hin := hL m fr (by omega) hf hb2.1
      refine g_aload_n q_X3_leastStep_46 rfl ?_
      refine g_get fl_X3_18 q_X3_leastStep_47 (by repeat first | with_reducible assumption | with_reducible exact hput_s _ _ _ | refine (hput_n _ _ (by omega)).trans ?_ | exact hput_s _ _ _ | assumption) rfl ?_
      refine g_iload_n q_X3_leastStep_50 rfl ?_
      refine g_laload q_X3_leastStep_51 (by repeat first | with_reducible assumption | with_reducible exact hput_s _ _ _ | refine (hput_n _ _ (by omega)).trans ?_ | exact hput_s _ _ _ | assumption) (by omega) (by omega) ?_
      refine g_iload_n q_X3_leastStep_52 rfl ?_
      refine g_getst ls_X3_31 hzH q_X3_leastStep_53 ?_
      refine g_iload q_X3_leastStep_56 rfl ?_
      refine g_iaload_ro q_X3_leastStep_58 (by assumption) (by omega) (by omega) (by decide) ?_
      refine g_topi (b := t_ahd m) rfl ?_
      refine g_iadd q_X3_leastStep_59 ?_
      refine g_lushr q_X3_leastStep_60 (by omega) (by omega) ?_
      refine g_lconst q_X3_leastStep_61 ?_
      refine g_land q_X3_leastStep_62 ?_
      refine g_lconst q_X3_leastStep_63 ?_
      refine g_lcmp q_X3_leastStep_64 ?_
      refine g_topi (b := tbz ((bk t).getLsbD ((fr : Int) + t_ahd m).toNat)) (by exact bit_lcm _ _) ?_
      refine g_if_ne (tgt := 77) q_X3_leastStep_65 (by decide) (tbz_rg _) (fun hd2 => ?_) (fun hd2 => ?_)
      · exact hrest (by unfold lsm; rw [tbz_ne hd2, Bool.and_false]) _ _
      · refine g_iload_n q_X3_leastStep_68 rfl ?_
        refine g_getst ls_X3_31 hzH q_X3_leastStep_69 ?_
        refine g_iload q_X3_leastStep_72 rfl ?_
        refine g_iaload_ro q_X3_leastStep_74 (by assumption) (by omega) (by omega) (by decide) ?_
        refine g_topi (b := t_ahd m) rfl ?_
        refine g_iadd q_X3_leastStep_75 ?_
        refine g_ireturn q_X3_leastStep_76.1 rfl ?_
        refine ⟨?_, rfl⟩
        have e : fstN (lsm lv mv bk fr t) 4 = m := fstN_some (by omega) (by unfold lsm; rw [hb1, tbz_eq hd2]; rfl) hno
        unfold lst
        rw [if_neg (by omega), e, show ((m : Nat) : Int).toNat = m from rfl, Int.toNat_of_nonneg hin.1]
end SR2

