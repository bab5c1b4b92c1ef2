/-! the reference: laysWay, back and laid -/
section LX
variable {Γ : GT} {σ : AH} {m : Nat} {I : Nat → Int} {cols rows : Nat} {so SO : Nat → Int} {bc bm : Nat → Int} {mv ce : Nat → BitVec 64} {PLm GOm : Nat → Int} {Q : Option Value → AH → Prop} {QX : String → AH → Prop}
/-- the first time at which the goal is come to for good -/
theorem lw_from (hΓ : Gd Γ) (hH : LWh σ m I cols rows so SO bc bm mv ce PLm GOm) {c0 pl g : Nat} (hc0 : c0 < 5) (hg : GOm c0 = g) (hg36 : g < 36) {cm : Nat → Int} (h1 : σ.2 (m + 13) = some (az 1476 cm)) (hc : cmI (lvF SO cols rows) mv ce pl 41 cm) (k1 : ∀ le : Nat, le < 41 → lcs (lvF SO cols rows) mv ce pl g = le → (ce le).getLsbD g = false → (hsN (lvF SO cols rows) mv ce pl le).getLsbD g = true → G Γ miX10_laysWay cX10_laysWay Q QX 0 0 225 [some (.ref m), some (.int (ii c0)), some (.int (ii le)), none, none, none] [] σ) (k2 : lcs (lvF SO cols rows) mv ce pl g = -1 → G Γ miX10_laysWay cX10_laysWay Q QX 0 0 223 [some (.ref m), some (.int (ii c0)), none, none, none, none] [] σ) : G Γ miX10_laysWay cX10_laysWay Q QX 0 0 147 [some (.ref m), some (.int (ii c0)), none, none, none, none] [] σ := by
  obtain ⟨hG, h8, h9, h11, h12, zb, zm, hW⟩ := hH
  have h0 := hG.1
  have hb := hW.2.2.2.1
  have hfce : ∀ n, ∀ t, ffr ce g n ≤ t → t < n → (ce t).getLsbD g = false := by
    intro n
    induction n with
    | zero => intro t _ h; omega
    | succ n ih =>
      intro t h1 h2
      unfold ffr at h1
      by_cases e : (ce n).getLsbD g = true
      · rw [if_pos e] at h1; omega
      · rw [if_neg e] at h1
        by_cases e2 : t = n
        · rw [e2]; exact Bool.eq_false_iff.mpr e
        · exact ih t h1 (by omega)
  refine g_iconst q_X10_laysWay_147 ?_
  refine g_istore_n (L' := [_, _, _, _, _, _]) q_X10_laysWay_148 (by decide) rfl ?_
  refine g_iconst q_X10_laysWay_149 ?_
  refine g_istore_n (L' := [_, _, _, _, _, _]) q_X10_laysWay_150 (by decide) rfl ?_
  refine g_loop (fun t => t ≤ 41) (fun t : Nat => G Γ _ cX10_laysWay _ _ 0 0 151 [some (.ref m), some (.int (ii c0)), some (.int (ii (ffr ce g t : Nat))), some (.int (ii t)), none, none] [] σ) (fun t => 41 - t) ?_ 0 (Nat.zero_le _)
  intro t ht ih
  refine g_iload_n q_X10_laysWay_151 rfl ?_
  refine g_bipush q_X10_laysWay_152 bp_41 ?_
  refine g_icmp_ge (tgt := 186) q_X10_laysWay_154 (by decide) ⟨by omega, by omega⟩ ⟨by omega, by omega⟩ (fun b1 => ?_) (fun b1 => ?_)
  · have e : t = 41 := by omega
    subst e
    refine g_fl (L2 := [some (.ref m), some (.int (ii c0)), some (.int (ii (ffr ce g 41 : Nat))), none, none, none]) ?_ ⟨rfl, rfl, rfl, trivial⟩
    have hfl := ffr_le ce g 41
    refine g_loop (fun f => ffr ce g 41 ≤ f ∧ f ≤ 41 ∧ ∀ j, ffr ce g 41 ≤ j → j < f → (hsN (lvF SO cols rows) mv ce pl j).getLsbD g = false) (fun f : Nat => G Γ _ cX10_laysWay _ _ 0 0 186 [some (.ref m), some (.int (ii c0)), some (.int (ii f)), none, none, none] [] σ) (fun f => 41 - f) ?_ (ffr ce g 41) ⟨Nat.le_refl _, hfl, fun j h1 h2 => by omega⟩
    rintro f ⟨f1, f2, f3⟩ ih2
    refine g_iload_n q_X10_laysWay_186 rfl ?_
    refine g_bipush q_X10_laysWay_187 bp_41 ?_
    refine g_icmp_ge (tgt := 217) q_X10_laysWay_189 (by decide) ⟨by omega, by omega⟩ ⟨by omega, by omega⟩ (fun b2 => ?_) (fun b2 => ?_)
    · have e : f = 41 := by omega
      subst e
      have hl : lcs (lvF SO cols rows) mv ce pl g = -1 := fstN_none fun j hj => by
        by_cases w : ffr ce g 41 ≤ j
        · rw [f3 j w hj, Bool.and_false]
        · rw [decide_eq_false w, Bool.false_and]
      refine g_iload_n q_X10_laysWay_217 rfl ?_
      refine g_bipush q_X10_laysWay_218 bp_41 ?_
      refine g_icmp_lt (tgt := 225) q_X10_laysWay_220 (by decide) ⟨by omega, by omega⟩ ⟨by omega, by omega⟩ (fun b3 => ?_) (fun b3 => ?_)
      · omega
      · exact g_fl (k2 hl) ⟨rfl, rfl, trivial⟩
    have eh : cm (36 * f + g) = bi ((hsN (lvF SO cols rows) mv ce pl f).getLsbD g) := hc.2.1 f g (by omega) hg36
    refine g_aload_n q_X10_laysWay_192 rfl ?_
    refine g_get fl_X10_52 q_X10_laysWay_193 (by repeat first | with_reducible assumption | with_reducible exact hput_s _ _ _ | refine (hput_n _ _ (by omega)).trans ?_ | exact hput_s _ _ _ | assumption) rfl ?_
    refine g_bipush q_X10_laysWay_196 bp_36 ?_
    refine g_iload_n q_X10_laysWay_198 rfl ?_
    refine g_imul q_X10_laysWay_199 ?_
    refine g_aload_n q_X10_laysWay_200 rfl ?_
    refine g_get fl_X10_39 q_X10_laysWay_201 (by repeat first | with_reducible assumption | with_reducible exact hput_s _ _ _ | refine (hput_n _ _ (by omega)).trans ?_ | exact hput_s _ _ _ | assumption) rfl ?_
    refine g_iload_n q_X10_laysWay_204 rfl ?_
    refine g_iaload q_X10_laysWay_205 (by repeat first | with_reducible assumption | with_reducible exact hput_s _ _ _ | refine (hput_n _ _ (by omega)).trans ?_ | exact hput_s _ _ _ | assumption) (by omega) (by omega) ?_
    refine g_topi (b := (g : Int)) (by exact hg) ?_
    refine g_iadd q_X10_laysWay_206 ?_
    refine g_zaload q_X10_laysWay_207 (by repeat first | with_reducible assumption | with_reducible exact hput_s _ _ _ | refine (hput_n _ _ (by omega)).trans ?_ | exact hput_s _ _ _ | assumption) (by omega) (by omega) ?_
    refine g_topi (b := bi ((hsN (lvF SO cols rows) mv ce pl f).getLsbD g)) (by rw [← eh]; congr 1) ?_
    refine g_if_ne (tgt := 217) q_X10_laysWay_208 (by decide) (bi_rg _) (fun b3 => ?_) (fun b3 => ?_)
    · have hbit := bi_t b3
      have hl : lcs (lvF SO cols rows) mv ce pl g = f := fstN_some (by omega) (by rw [decide_eq_true f1, hbit]; rfl) (fun j hj => by
        by_cases w : ffr ce g 41 ≤ j
        · rw [f3 j w hj, Bool.and_false]
        · rw [decide_eq_false w, Bool.false_and])
      refine g_iload_n q_X10_laysWay_217 rfl ?_
      refine g_bipush q_X10_laysWay_218 bp_41 ?_
      refine g_icmp_lt (tgt := 225) q_X10_laysWay_220 (by decide) ⟨by omega, by omega⟩ ⟨by omega, by omega⟩ (fun b4 => ?_) (fun b4 => ?_)
      · exact k1 f (by omega) hl (hfce 41 f f1 (by omega)) hbit
      · omega
    · have hnx := ih2 (f + 1) ⟨by omega, by omega, fun j h1 h2 => by
        by_cases e : j = f
        · rw [e]; exact bi_f (by omega)
        · exact f3 j h1 (by omega)⟩ (by omega)
      refine g_iinc (L' := [_, _, _, _, _, _]) q_X10_laysWay_211 rfl rfl ?_
      refine g_goto (tgt := 186) q_X10_laysWay_214 (by decide) ?_
      exact hnx
  have eb : bc (36 * t + g) = bi ((ce t).getLsbD g) := hb t g (by omega) hg36
  have hnx := ih (t + 1) (by omega) (by omega)
  refine g_aload_n q_X10_laysWay_157 rfl ?_
  refine g_get fl_X10_45 q_X10_laysWay_158 (by repeat first | with_reducible assumption | with_reducible exact hput_s _ _ _ | refine (hput_n _ _ (by omega)).trans ?_ | exact hput_s _ _ _ | assumption) rfl ?_
  refine g_bipush q_X10_laysWay_161 bp_36 ?_
  refine g_iload_n q_X10_laysWay_163 rfl ?_
  refine g_imul q_X10_laysWay_164 ?_
  refine g_aload_n q_X10_laysWay_165 rfl ?_
  refine g_get fl_X10_39 q_X10_laysWay_166 (by repeat first | with_reducible assumption | with_reducible exact hput_s _ _ _ | refine (hput_n _ _ (by omega)).trans ?_ | exact hput_s _ _ _ | assumption) rfl ?_
  refine g_iload_n q_X10_laysWay_169 rfl ?_
  refine g_iaload q_X10_laysWay_170 (by repeat first | with_reducible assumption | with_reducible exact hput_s _ _ _ | refine (hput_n _ _ (by omega)).trans ?_ | exact hput_s _ _ _ | assumption) (by omega) (by omega) ?_
  refine g_topi (b := (g : Int)) (by exact hg) ?_
  refine g_iadd q_X10_laysWay_171 ?_
  refine g_zaload q_X10_laysWay_172 (by repeat first | with_reducible assumption | with_reducible exact hput_s _ _ _ | refine (hput_n _ _ (by omega)).trans ?_ | exact hput_s _ _ _ | assumption) (by omega) (by omega) ?_
  refine g_topi (b := bi ((ce t).getLsbD g)) (by rw [← eb]; congr 1) ?_
  refine g_if_eq (tgt := 180) q_X10_laysWay_173 (by decide) (bi_rg _) (fun b2 => ?_) (fun b2 => ?_)
  · rw [show ffr ce g (t + 1) = ffr ce g t from if_neg (by rw [bi_f b2]; decide)] at hnx
    refine g_iinc (L' := [_, _, _, _, _, _]) q_X10_laysWay_180 rfl rfl ?_
    refine g_goto (tgt := 151) q_X10_laysWay_183 (by decide) ?_
    exact hnx
  · rw [show ffr ce g (t + 1) = t + 1 from if_pos (bi_t b2)] at hnx
    refine g_iload_n q_X10_laysWay_176 rfl ?_
    refine g_iconst q_X10_laysWay_177 ?_
    refine g_iadd q_X10_laysWay_178 ?_
    refine g_istore_n (L' := [_, _, _, _, _, _]) q_X10_laysWay_179 (by decide) rfl ?_
    refine g_iinc (L' := [_, _, _, _, _, _]) q_X10_laysWay_180 rfl rfl ?_
    refine g_goto (tgt := 151) q_X10_laysWay_183 (by decide) ?_
    exact hnx
/-- back from the end -/
theorem lw_back (hΓ : Gd Γ) (hH : LWh σ m I cols rows so SO bc bm mv ce PLm GOm) {c0 pl g le : Nat} (hc0 : c0 < 5) (hg : GOm c0 = g) (hg36 : g < 36) (hp : gIn cols rows pl) (hp1 : SO pl ≠ 1) {cm : Nat → Int} (h1 : σ.2 (m + 13) = some (az 1476 cm)) (hc : cmI (lvF SO cols rows) mv ce pl 41 cm) (h2 : σ.2 (m + 14) = some (az 1476 fun _ => 0)) (hle : le < 41) (hce : (ce le).getLsbD g = false) (hhs : (hsN (lvF SO cols rows) mv ce pl le).getLsbD g = true) (kk : ∀ τ en, eqOff σ τ (inb (m + 14) 1) → τ.2 (m + 14) = some (az 1476 en) → z01 en → (∀ u c, u ≤ le → c < 36 → en (36 * u + c) = bi (eS (lvF SO cols rows) mv ce pl g le u c)) → G Γ miX10_laysWay cX10_laysWay Q QX 0 0 352 [some (.ref m), some (.int (ii c0)), some (.int (ii le)), none, none, none] [] τ) : G Γ miX10_laysWay cX10_laysWay Q QX 0 0 225 [some (.ref m), some (.int (ii c0)), some (.int (ii le)), none, none, none] [] σ := by
  have hW := hH.2.2.2.2.2.2.2
  have hHs := hH
  obtain ⟨hG, h8, h9, -⟩ := hHs
  have h0 := hG.1
  have c6 := hW.1.1
  have r6 := hW.1.2
  refine g_aload_n q_X10_laysWay_225 rfl ?_
  refine g_get fl_X10_55 q_X10_laysWay_226 (by repeat first | with_reducible assumption | with_reducible exact hput_s _ _ _ | refine (hput_n _ _ (by omega)).trans ?_ | exact hput_s _ _ _ | assumption) rfl ?_
  refine g_bipush q_X10_laysWay_229 bp_36 ?_
  refine g_iload_n q_X10_laysWay_231 rfl ?_
  refine g_imul q_X10_laysWay_232 ?_
  refine g_aload_n q_X10_laysWay_233 rfl ?_
  refine g_get fl_X10_39 q_X10_laysWay_234 (by repeat first | with_reducible assumption | with_reducible exact hput_s _ _ _ | refine (hput_n _ _ (by omega)).trans ?_ | exact hput_s _ _ _ | assumption) rfl ?_
  refine g_iload_n q_X10_laysWay_237 rfl ?_
  refine g_iaload q_X10_laysWay_238 (by repeat first | with_reducible assumption | with_reducible exact hput_s _ _ _ | refine (hput_n _ _ (by omega)).trans ?_ | exact hput_s _ _ _ | assumption) (by omega) (by omega) ?_
  refine g_topi (b := (g : Int)) (by exact hg) ?_
  refine g_iadd q_X10_laysWay_239 ?_
  refine g_iconst q_X10_laysWay_240 ?_
  refine g_zastore q_X10_laysWay_241 (by repeat first | with_reducible assumption | with_reducible exact hput_s _ _ _ | refine (hput_n _ _ (by omega)).trans ?_ | exact hput_s _ _ _ | assumption) (by omega) (by omega) (by first | exact Or.inl rfl | exact Or.inr rfl | omega) ?_
  refine g_eq (σ2 := hput σ (m + 14) (az 1476 (va_up (fun _ => 0) (36 * le + g) 1))) rfl rfl (by congr 3) ?_
  have t0' : (hput σ (m + 14) (az 1476 (va_up (fun _ => 0) (36 * le + g) 1))).2 m = some (mdo m I) := (hput_n _ _ (by omega)).trans h0
  obtain ⟨τ0, hτ0⟩ : ∃ τ, τ = hput σ (m + 14) (az 1476 (va_up (fun _ => 0) (36 * le + g) 1)) := ⟨_, rfl⟩
  refine g_eq (σ2 := τ0) rfl rfl hτ0.symm ?_
  have hE0 : eqOff σ τ0 (inb (m + 14) 1) := by rw [hτ0]; exact eqOff.rfl'.put ⟨by omega, by omega⟩ _
  have s14 : τ0.2 (m + 14) = some (az 1476 (va_up (fun _ => 0) (36 * le + g) 1)) := by rw [hτ0]; exact hput_s _ _ _
  clear hτ0 t0'
  refine g_iload_n q_X10_laysWay_242 rfl ?_
  refine g_iconst q_X10_laysWay_243 ?_
  refine g_isub q_X10_laysWay_244 ?_
  refine g_istore_n (L' := [_, _, _, _, _, _]) q_X10_laysWay_245 (by decide) rfl ?_
  refine g_loop2 (fun (v : Nat) (τ : AH) => v ≤ le ∧ eqOff σ τ (inb (m + 14) 1) ∧ ∃ en, τ.2 (m + 14) = some (az 1476 en) ∧ z01 en ∧ (∀ u c, v ≤ u → u ≤ le → c < 36 → en (36 * u + c) = bi (eS (lvF SO cols rows) mv ce pl g le u c)) ∧ ∀ i, i < 36 * v → en i = 0) (fun v τ => G Γ _ cX10_laysWay _ _ 0 0 246 [some (.ref m), some (.int (ii c0)), some (.int (ii le)), some (.int (ii ((v : Int) - 1))), none, none] [] τ) (fun v τ => v) ?_ le τ0 ⟨Nat.le_refl _, hE0, _, s14, z01_up (fun _ => Or.inl rfl) _ (Or.inr rfl), fun u c hu1 hu2 hcc => ?_, fun i hi => va_ne (by omega)⟩
  rotate_left
  · have eu : u = le := by omega
    subst eu
    unfold eS
    rw [Nat.sub_self]
    show _ = bi (_ && (bt1 g).getLsbD c)
    rw [bt1_b (by omega)]
    by_cases ec : c = g
    · subst ec
      rw [va_eq, hhs, decide_eq_true rfl]
      rfl
    · rw [va_ne (by omega), decide_eq_false ec, Bool.and_false]
      rfl
  rintro v τ ⟨hv, hE, en, t1, z1, e1, e2⟩ ih
  refine g_iload_n q_X10_laysWay_246 rfl ?_
  refine g_if_lt (tgt := 352) q_X10_laysWay_247 (by decide) ⟨by omega, by omega⟩ (fun b1 => ?_) (fun b1 => ?_)
  · have ev : v = 0 := by omega
    subst ev
    exact g_fl (kk τ en hE t1 z1 (fun u c hu hcc => e1 u c (Nat.zero_le _) hu hcc)) ⟨rfl, rfl, rfl, trivial⟩
  obtain ⟨t, ht⟩ : ∃ t, v = t + 1 := ⟨v - 1, by omega⟩
  subst ht
  rw [show ((t + 1 : Nat) : Int) - 1 = (t : Int) by omega]
  refine g_iconst q_X10_laysWay_250 ?_
  refine g_istore (L' := [_, _, _, _, _, _]) q_X10_laysWay_251 (by decide) rfl ?_
  /- over cells -/
  refine g_loop2 (fun (c : Nat) (τ : AH) => c ≤ 36 ∧ eqOff σ τ (inb (m + 14) 1) ∧ ∃ en, τ.2 (m + 14) = some (az 1476 en) ∧ z01 en ∧ (∀ u d, t + 1 ≤ u → u ≤ le → d < 36 → en (36 * u + d) = bi (eS (lvF SO cols rows) mv ce pl g le u d)) ∧ (∀ d, d < c → en (36 * t + d) = bi (eS (lvF SO cols rows) mv ce pl g le t d)) ∧ (∀ d, c ≤ d → d < 36 → en (36 * t + d) = 0) ∧ ∀ i, i < 36 * t → en i = 0) (fun c τ => G Γ _ cX10_laysWay _ _ 0 0 253 [some (.ref m), some (.int (ii c0)), some (.int (ii le)), some (.int (ii t)), some (.int (ii c)), none] [] τ) (fun c τ => 36 - c) ?_ 0 τ ⟨Nat.zero_le _, hE, en, t1, z1, e1, fun d hd => absurd hd (Nat.not_lt_zero d), fun d _ hd => e2 _ (by omega), fun i hi => e2 i (by omega)⟩
  clear hE t1 z1 e1 e2
  rintro c τ ⟨hc36, hE, en, t1, z1, e1, e2, e3, e4⟩ ih2
  refine g_iload q_X10_laysWay_253 rfl ?_
  refine g_bipush q_X10_laysWay_255 bp_36 ?_
  refine g_icmp_ge (tgt := 346) q_X10_laysWay_257 (by decide) ⟨by omega, by omega⟩ ⟨by omega, by omega⟩ (fun b2 => ?_) (fun b2 => ?_)
  · have ec : c = 36 := by omega
    subst ec
    have hnx := ih t τ ⟨by omega, hE, en, t1, z1, fun u d hu1 hu2 hd => by
      by_cases eu : u = t
      · rw [eu]; exact e2 d hd
      · exact e1 u d (by omega) hu2 hd, e4⟩ (by omega)
    refine g_iinc (L' := [_, _, _, _, _, _]) q_X10_laysWay_346 rfl rfl ?_
    refine g_fl (L2 := [some (.ref m), some (.int (ii c0)), some (.int (ii le)), some (.int (ii ((t : Int) + -1))), none, none]) ?_ ⟨rfl, rfl, rfl, rfl, trivial⟩
    refine g_goto (tgt := 246) q_X10_laysWay_349 (by decide) ?_
    rw [show (t : Int) + -1 = (t : Int) - 1 by omega]
    exact hnx
  refine g_iconst q_X10_laysWay_260 ?_
  refine g_istore (L' := [_, _, _, _, _, _]) q_X10_laysWay_261 (by decide) rfl ?_
  have hcm : cm (36 * t + c) = bi ((hsN (lvF SO cols rows) mv ce pl t).getLsbD c) := hc.2.1 t c (by omega) (by omega)
  refine g_loop2 (fun (k : Nat) (τ : AH) => k ≤ 5 ∧ eqOff σ τ (inb (m + 14) 1) ∧ ∃ en, τ.2 (m + 14) = some (az 1476 en) ∧ z01 en ∧ (∀ u d, t + 1 ≤ u → u ≤ le → d < 36 → en (36 * u + d) = bi (eS (lvF SO cols rows) mv ce pl g le u d)) ∧ (∀ d, d < c → en (36 * t + d) = bi (eS (lvF SO cols rows) mv ce pl g le t d)) ∧ (en (36 * t + c) = 1 ↔ (hsN (lvF SO cols rows) mv ce pl t).getLsbD c = true ∧ ∃ j, j < k ∧ mgo so cols rows bc bm c j (t + 1) = true ∧ eS (lvF SO cols rows) mv ce pl g le (t + 1) (nxt so cols rows c j).toNat = true) ∧ (∀ d, c < d → d < 36 → en (36 * t + d) = 0) ∧ ∀ i, i < 36 * t → en i = 0) (fun k τ => G Γ _ cX10_laysWay _ _ 0 0 263 [some (.ref m), some (.int (ii c0)), some (.int (ii le)), some (.int (ii t)), some (.int (ii c)), some (.int (ii k))] [] τ) (fun k τ => 5 - k) ?_ 0 τ ⟨Nat.zero_le _, hE, en, t1, z1, e1, e2, ⟨fun q => by rw [e3 c (Nat.le_refl _) (by omega)] at q; omega, fun ⟨_, j, hj, _⟩ => absurd hj (Nat.not_lt_zero j)⟩, fun d h1 h2 => e3 d (by omega) h2, e4⟩
  clear hE t1 z1 e1 e2 e3 e4
  rintro k τ ⟨hk, hE, en, t1, z1, e1, e2, e3, e4, e5⟩ ih3
  have hHt := hH.kp (σ' := τ) (eqOff.rfl'.trans hE (fun a i => by unfold inb at *; omega))
  obtain ⟨hGt, -, -, g11, g12, zb, zm, -⟩ := hHt
  have t0 := hGt.1
  have t13 := (hE.2 (m + 13) (by unfold inb; omega)).trans h1
  have hstep := eS_step hW hp hp1 hg36 hle hce (show t < le by omega) (show c < 36 by omega)
  have done : (k = 5 ∨ (hsN (lvF SO cols rows) mv ce pl t).getLsbD c = false) → G Γ miX10_laysWay cX10_laysWay Q QX 0 0 340 [some (.ref m), some (.int (ii c0)), some (.int (ii le)), some (.int (ii t)), some (.int (ii c)), some (.int (ii k))] [] τ := by
    intro h5
    have hval : en (36 * t + c) = 1 ↔ eS (lvF SO cols rows) mv ce pl g le t c = true := by
      rw [e3, hstep]
      refine and_congr_right (fun hh => ?_)
      rcases h5 with h5 | h5
      · subst h5; exact Iff.rfl
      · rw [h5] at hh; cases hh
    have hval2 : en (36 * t + c) = bi (eS (lvF SO cols rows) mv ce pl g le t c) := by
      rcases z1 (36 * t + c) with e | e
      · rw [e]
        cases hb9 : eS (lvF SO cols rows) mv ce pl g le t c with
        | false => rfl
        | true => rw [hval.mpr hb9] at e; omega
      · rw [e, hval.mp e]; rfl
    have hnx := ih2 (c + 1) τ ⟨by omega, hE, en, t1, z1, e1, fun d hd => by
      by_cases ed : d = c
      · rw [ed]; exact hval2
      · exact e2 d (by omega), fun d h1 h2 => e4 d (by omega) h2, e5⟩ (by omega)
    refine g_iinc (L' := [_, _, _, _, _, _]) q_X10_laysWay_340 rfl rfl ?_
    refine g_goto (tgt := 253) q_X10_laysWay_343 (by decide) ?_
    exact g_fl hnx ⟨rfl, rfl, rfl, rfl, rfl, trivial⟩
  refine g_iload q_X10_laysWay_263 rfl ?_
  refine g_iconst q_X10_laysWay_265 ?_
  refine g_icmp_ge (tgt := 340) q_X10_laysWay_266 (by decide) ⟨by omega, by omega⟩ ⟨by omega, by omega⟩ (fun b3 => ?_) (fun b3 => ?_)
  · exact done (Or.inl (by omega))
  refine g_aload_n q_X10_laysWay_269 rfl ?_
  refine g_get fl_X10_52 q_X10_laysWay_270 (by repeat first | with_reducible assumption | with_reducible exact hput_s _ _ _ | refine (hput_n _ _ (by omega)).trans ?_ | exact hput_s _ _ _ | assumption) rfl ?_
  refine g_bipush q_X10_laysWay_273 bp_36 ?_
  refine g_iload_n q_X10_laysWay_275 rfl ?_
  refine g_imul q_X10_laysWay_276 ?_
  refine g_iload q_X10_laysWay_277 rfl ?_
  refine g_iadd q_X10_laysWay_279 ?_
  refine g_zaload q_X10_laysWay_280 (by repeat first | with_reducible assumption | with_reducible exact hput_s _ _ _ | refine (hput_n _ _ (by omega)).trans ?_ | exact hput_s _ _ _ | assumption) (by omega) (by omega) ?_
  refine g_topi (b := bi ((hsN (lvF SO cols rows) mv ce pl t).getLsbD c)) (by rw [← hcm]; congr 1) ?_
  refine g_if_eq (tgt := 340) q_X10_laysWay_281 (by decide) (bi_rg _) (fun b4 => ?_) (fun b4 => ?_)
  · exact done (Or.inr (bi_f b4))
  have hbit := bi_t b4
  have next9 : ∀ (τ2 : AH) (en' : Nat → Int), eqOff σ τ2 (inb (m + 14) 1) → τ2.2 (m + 14) = some (az 1476 en') → z01 en' → (∀ u d, t + 1 ≤ u → u ≤ le → d < 36 → en' (36 * u + d) = bi (eS (lvF SO cols rows) mv ce pl g le u d)) → (∀ d, d < c → en' (36 * t + d) = bi (eS (lvF SO cols rows) mv ce pl g le t d)) → (en' (36 * t + c) = 1 ↔ (hsN (lvF SO cols rows) mv ce pl t).getLsbD c = true ∧ ∃ j, j < k + 1 ∧ mgo so cols rows bc bm c j (t + 1) = true ∧ eS (lvF SO cols rows) mv ce pl g le (t + 1) (nxt so cols rows c j).toNat = true) → (∀ d, c < d → d < 36 → en' (36 * t + d) = 0) → (∀ i, i < 36 * t → en' i = 0) → G Γ miX10_laysWay cX10_laysWay Q QX 0 0 334 [some (.ref m), some (.int (ii c0)), some (.int (ii le)), some (.int (ii t)), some (.int (ii c)), some (.int (ii k))] [] τ2 := by
    intro τ2 en' a1 a2 a3 a4 a5 a6 a7 a8
    have hnx := ih3 (k + 1) τ2 ⟨by omega, a1, en', a2, a3, a4, a5, a6, a7, a8⟩ (by omega)
    refine g_iinc (L' := [_, _, _, _, _, _]) q_X10_laysWay_334 rfl rfl ?_
    refine g_goto (tgt := 263) q_X10_laysWay_337 (by decide) ?_
    exact hnx
  have stay : ¬ (mgo so cols rows bc bm c k (t + 1) = true ∧ eS (lvF SO cols rows) mv ce pl g le (t + 1) (nxt so cols rows c k).toNat = true) → G Γ miX10_laysWay cX10_laysWay Q QX 0 0 334 [some (.ref m), some (.int (ii c0)), some (.int (ii le)), some (.int (ii t)), some (.int (ii c)), some (.int (ii k))] [] τ := by
    intro hno
    refine next9 τ en hE t1 z1 e1 e2 ?_ e4 e5
    rw [e3]
    refine and_congr_right (fun _ => ⟨fun ⟨j, hj, q⟩ => ⟨j, by omega, q⟩, fun ⟨j, hj, q⟩ => ⟨j, ?_, q⟩⟩)
    by_cases ej : j = k
    · rw [ej] at q; exact absurd q hno
    · omega
  refine g_aload_n q_X10_laysWay_284 rfl ?_
  refine g_iload q_X10_laysWay_285 rfl ?_
  refine g_iload q_X10_laysWay_287 rfl ?_
  refine g_iload_n q_X10_laysWay_289 rfl ?_
  refine g_iconst q_X10_laysWay_290 ?_
  refine g_iadd q_X10_laysWay_291 ?_
  refine g_topi (b := ((t + 1 : Nat) : Int)) rfl ?_
  refine g_callV (rc' := 0) (rs' := 0) (As := [_, _, _]) cs_X10_254 q_X10_laysWay_292 (sp_mayGo hΓ hGt g11 g12 zb zm c k (t + 1) (by omega) (by omega) (by omega)) rfl (by repeat first | with_reducible assumption | with_reducible exact hput_s _ _ _ | refine (hput_n _ _ (by omega)).trans ?_ | exact hput_s _ _ _ | assumption) rfl rfl rfl rfl (Nat.le_of_ble_eq_true rfl) (by decide) (by decide) (by decide) (fun _ _ h => h.elim) (k_rb ?_)
  refine g_if_eq (tgt := 334) q_X10_laysWay_295 (by decide) (bi_rg _) (fun b5 => ?_) (fun b5 => ?_)
  · exact stay (fun q => by rw [bi_f b5] at q; cases q.1)
  have hmg := bi_t b5
  obtain ⟨n, hn⟩ : ∃ n : Nat, nxt so cols rows c k = n := ⟨(nxt so cols rows c k).toNat, by
    have h9 := (of_decide_eq_true (show decide (_ ∧ _ ∧ _) = true from hmg)).1
    have := nxt_rg (so := so) (m := k) c6 r6 (show c < 36 by omega)
    omega⟩
  have hn36 : n < 36 := by
    have := nxt_rg (so := so) (m := k) c6 r6 (show c < 36 by omega)
    omega
  have een : en (36 * (t + 1) + n) = bi (eS (lvF SO cols rows) mv ce pl g le (t + 1) n) := e1 (t + 1) n (Nat.le_refl _) (by omega) hn36
  refine g_aload_n q_X10_laysWay_298 rfl ?_
  refine g_get fl_X10_55 q_X10_laysWay_299 (by repeat first | with_reducible assumption | with_reducible exact hput_s _ _ _ | refine (hput_n _ _ (by omega)).trans ?_ | exact hput_s _ _ _ | assumption) rfl ?_
  refine g_bipush q_X10_laysWay_302 bp_36 ?_
  refine g_iload_n q_X10_laysWay_304 rfl ?_
  refine g_iconst q_X10_laysWay_305 ?_
  refine g_iadd q_X10_laysWay_306 ?_
  refine g_imul q_X10_laysWay_307 ?_
  refine g_aload_n q_X10_laysWay_308 rfl ?_
  refine g_iload q_X10_laysWay_309 rfl ?_
  refine g_iload q_X10_laysWay_311 rfl ?_
  refine g_callV (rc' := 0) (rs' := 0) (As := [_, _]) cs_X10_250 q_X10_laysWay_313 (sp_next hΓ hGt c k (by omega) (by omega)) rfl (by repeat first | with_reducible assumption | with_reducible exact hput_s _ _ _ | refine (hput_n _ _ (by omega)).trans ?_ | exact hput_s _ _ _ | assumption) rfl rfl rfl rfl (Nat.le_of_ble_eq_true rfl) (by decide) (by decide) (by decide) (fun _ _ h => h.elim) (k_ri ?_)
  rw [hn]
  refine g_iadd q_X10_laysWay_316 ?_
  refine g_zaload q_X10_laysWay_317 (by repeat first | with_reducible assumption | with_reducible exact hput_s _ _ _ | refine (hput_n _ _ (by omega)).trans ?_ | exact hput_s _ _ _ | assumption) (by omega) (by omega) ?_
  refine g_topi (b := bi (eS (lvF SO cols rows) mv ce pl g le (t + 1) n)) (by rw [← een]; congr 1) ?_
  refine g_if_eq (tgt := 334) q_X10_laysWay_318 (by decide) (bi_rg _) (fun b6 => ?_) (fun b6 => ?_)
  · exact stay (fun q => by rw [hn, Int.toNat_natCast, bi_f b6] at q; cases q.2)
  have hes := bi_t b6
  refine g_aload_n q_X10_laysWay_321 rfl ?_
  refine g_get fl_X10_55 q_X10_laysWay_322 (by repeat first | with_reducible assumption | with_reducible exact hput_s _ _ _ | refine (hput_n _ _ (by omega)).trans ?_ | exact hput_s _ _ _ | assumption) rfl ?_
  refine g_bipush q_X10_laysWay_325 bp_36 ?_
  refine g_iload_n q_X10_laysWay_327 rfl ?_
  refine g_imul q_X10_laysWay_328 ?_
  refine g_iload q_X10_laysWay_329 rfl ?_
  refine g_iadd q_X10_laysWay_331 ?_
  refine g_iconst q_X10_laysWay_332 ?_
  refine g_zastore q_X10_laysWay_333 (by repeat first | with_reducible assumption | with_reducible exact hput_s _ _ _ | refine (hput_n _ _ (by omega)).trans ?_ | exact hput_s _ _ _ | assumption) (by omega) (by omega) (by first | exact Or.inl rfl | exact Or.inr rfl | omega) ?_
  refine g_eq (σ2 := hput τ (m + 14) (az 1476 (va_up en (36 * t + c) 1))) rfl rfl (by congr 3) ?_
  refine next9 _ (va_up en (36 * t + c) 1) (hE.put ⟨by omega, by omega⟩ _) (hput_s _ _ _) (z01_up z1 _ (Or.inr rfl)) (fun u d h1 h2 h3 => by rw [va_ne (by omega)]; exact e1 u d h1 h2 h3) (fun d hd => by rw [va_ne (by omega)]; exact e2 d hd) ?_ (fun d h1 h2 => by rw [va_ne (by omega)]; exact e4 d h1 h2) (fun i hi => by rw [va_ne (by omega)]; exact e5 i hi)
  rw [va_eq]
  exact ⟨fun _ => ⟨hbit, k, by omega, hmg, by rw [hn, Int.toNat_natCast]; exact hes⟩, fun _ => rfl⟩
end LX

