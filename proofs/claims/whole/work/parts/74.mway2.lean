/-! the reference: laysWay -/
section LW
variable {Γ : GT} {σ : AH} {m : Nat} {I : Nat → Int} {cols rows : Nat} {so SO : Nat → Int} {bc bm : Nat → Int} {mv ce : Nat → BitVec 64} {PLm GOm : Nat → Int} {Q : Option Value → AH → Prop} {QX : String → AH → Prop}
/-- what laysWay has before it -/
def LWh (σ : AH) (m : Nat) (I : Nat → Int) (cols rows : Nat) (so SO bc bm : Nat → Int) (mv ce : Nat → BitVec 64) (PLm GOm : Nat → Int) : Prop := MG σ m I cols rows so ∧ σ.2 (m + 8) = some (ai 5 PLm) ∧ σ.2 (m + 9) = some (ai 5 GOm) ∧ σ.2 (m + 11) = some (az 1476 bc) ∧ σ.2 (m + 12) = some (az 7380 bm) ∧ z01 bc ∧ z01 bm ∧ WH SO so cols rows bc bm mv ce
theorem LWh.kp {σ' : AH} (h : LWh σ m I cols rows so SO bc bm mv ce PLm GOm) (hE : eqOff σ σ' (inb (m + 13) 3)) : LWh σ' m I cols rows so SO bc bm mv ce PLm GOm := by
  obtain ⟨⟨g0, g1, g2, g3, g4, g5, g6⟩, h1, h2, h3, h4, h5⟩ := h
  have e := hE.2
  exact ⟨⟨(e _ (by unfold inb; omega)).trans g0, g1, g2, g3, g4, (e _ (by unfold inb; omega)).trans g5, g6⟩, (e _ (by unfold inb; omega)).trans h1, (e _ (by unfold inb; omega)).trans h2, (e _ (by unfold inb; omega)).trans h3, (e _ (by unfold inb; omega)).trans h4, h5⟩
/-- rows cleared -/
theorem lw_clear (hΓ : Gd Γ) (h0 : σ.2 m = some (mdo m I)) {c0 : Nat} {cm en : Nat → Int} (h1 : σ.2 (m + 13) = some (az 1476 cm)) (h2 : σ.2 (m + 14) = some (az 1476 en)) (kk : ∀ τ, eqOff σ τ (inb (m + 13) 2) → τ.2 (m + 13) = some (az 1476 fun _ => 0) → τ.2 (m + 14) = some (az 1476 fun _ => 0) → G Γ miX10_laysWay cX10_laysWay Q QX 0 0 29 [some (.ref m), some (.int (ii c0)), none, none, none, none] [] τ) : G Γ miX10_laysWay cX10_laysWay Q QX 0 0 0 [some (.ref m), some (.int (ii c0)), none, none, none, none] [] σ := by
  refine g_iconst q_X10_laysWay_0 ?_
  refine g_istore_n (L' := [_, _, _, _, _, _]) q_X10_laysWay_1 (by decide) rfl ?_
  refine g_loop2 (fun (k : Nat) (τ : AH) => k ≤ 1476 ∧ eqOff σ τ (inb (m + 13) 2) ∧ ∃ f g, τ.2 (m + 13) = some (az 1476 f) ∧ τ.2 (m + 14) = some (az 1476 g) ∧ ∀ j, j < k → f j = 0 ∧ g j = 0) (fun k τ => G Γ _ cX10_laysWay _ _ 0 0 2 [some (.ref m), some (.int (ii c0)), some (.int (ii k)), none, none, none] [] τ) (fun k τ => 1476 - k) ?_ 0 σ ⟨Nat.zero_le _, eqOff.rfl', cm, en, h1, h2, fun j hj => absurd hj (Nat.not_lt_zero j)⟩
  rintro k τ ⟨hk, hE, f, g, t1, t2, hf⟩ ih
  have t0 := (hE.2 m (by unfold inb; omega)).trans h0
  refine g_iload_n q_X10_laysWay_2 rfl ?_
  refine g_sipush q_X10_laysWay_3 sp_1476 ?_
  refine g_icmp_ge (tgt := 29) q_X10_laysWay_6 (by decide) ⟨by omega, by omega⟩ ⟨by omega, by omega⟩ (fun b1 => ?_) (fun b1 => ?_)
  · have e : k = 1476 := by omega
    subst e
    refine g_fl (L2 := [some (.ref m), some (.int (ii c0)), none, none, none, none]) ?_ ⟨rfl, rfl, trivial⟩
    refine g_repI t1 (f' := fun _ => 0) (fun j hj => (hf j hj).1) ?_
    refine g_repI (a := m + 14) (f := g) ((hput_n _ _ (by omega)).trans t2) (f' := fun _ => 0) (fun j hj => (hf j hj).2) ?_
    exact kk _ ((hE.put ⟨by omega, by omega⟩ _).put ⟨by omega, by omega⟩ _) ((hput_n _ _ (by omega)).trans (hput_s _ _ _)) (hput_s _ _ _)
  · refine g_aload_n q_X10_laysWay_9 rfl ?_
    refine g_get fl_X10_52 q_X10_laysWay_10 (by repeat first | with_reducible assumption | with_reducible exact hput_s _ _ _ | refine (hput_n _ _ (by omega)).trans ?_ | exact hput_s _ _ _ | assumption) rfl ?_
    refine g_iload_n q_X10_laysWay_13 rfl ?_
    refine g_iconst q_X10_laysWay_14 ?_
    refine g_zastore q_X10_laysWay_15 (by repeat first | with_reducible assumption | with_reducible exact hput_s _ _ _ | refine (hput_n _ _ (by omega)).trans ?_ | exact hput_s _ _ _ | assumption) (by omega) (by omega) (by first | exact Or.inl rfl | exact Or.inr rfl | omega) ?_
    refine g_aload_n q_X10_laysWay_16 rfl ?_
    refine g_get fl_X10_55 q_X10_laysWay_17 (by repeat first | with_reducible assumption | with_reducible exact hput_s _ _ _ | refine (hput_n _ _ (by omega)).trans ?_ | exact hput_s _ _ _ | assumption) rfl ?_
    refine g_iload_n q_X10_laysWay_20 rfl ?_
    refine g_iconst q_X10_laysWay_21 ?_
    refine g_zastore q_X10_laysWay_22 (by repeat first | with_reducible assumption | with_reducible exact hput_s _ _ _ | refine (hput_n _ _ (by omega)).trans ?_ | exact hput_s _ _ _ | assumption) (by omega) (by omega) (by first | exact Or.inl rfl | exact Or.inr rfl | omega) ?_
    have hnx := ih (k + 1) _ ⟨by omega, (hE.put (a := m + 13) ⟨by omega, by omega⟩ (az 1476 (va_up f k 0))).put (a := m + 14) ⟨by omega, by omega⟩ (az 1476 (va_up g k 0)), _, _, (hput_n _ _ (by omega)).trans (hput_s _ _ _), hput_s _ _ _, fun j hj => by
      unfold va_up
      by_cases e : j = k
      · rw [if_pos e, if_pos e]; exact ⟨rfl, rfl⟩
      · rw [if_neg e, if_neg e]; exact hf j (by omega)⟩ (by omega)
    refine g_iinc (L' := [_, _, _, _, _, _]) q_X10_laysWay_23 rfl rfl ?_
    refine g_goto (tgt := 2) q_X10_laysWay_26 (by decide) ?_
    exact hnx
/-- the rows of what can be come to, by times below t -/
def cmI (lv mv ce : Nat → BitVec 64) (pl t : Nat) (cm : Nat → Int) : Prop := z01 cm ∧ (∀ u c, u < t → c < 36 → cm (36 * u + c) = bi ((hsN lv mv ce pl u).getLsbD c)) ∧ ∀ i, 36 * t ≤ i → i < 1476 → cm i = 0
/-- a cell is come to from one of the first cells, by one of the first moves -/
def prI (so : Nat → Int) (cols rows : Nat) (bc bm : Nat → Int) (h : BitVec 64) (t cell k d : Nat) : Prop := ∃ c j : Nat, (c < cell ∧ j < 5 ∨ c = cell ∧ j < k) ∧ h.getLsbD c = true ∧ mgo so cols rows bc bm c j t = true ∧ nxt so cols rows c j = d
theorem bi_1 {b : Bool} : bi b = 1 ↔ b = true := by cases b <;> simp [bi]
theorem lw_fwd (hΓ : Gd Γ) (hH : LWh σ m I cols rows so SO bc bm mv ce PLm GOm) {c0 pl : Nat} (hp : gIn cols rows pl) (hp1 : SO pl ≠ 1) {cm : Nat → Int} (h1 : σ.2 (m + 13) = some (az 1476 cm)) (hc : cmI (lvF SO cols rows) mv ce pl 1 cm) (kk : ∀ τ cm', eqOff σ τ (inb (m + 13) 1) → τ.2 (m + 13) = some (az 1476 cm') → cmI (lvF SO cols rows) mv ce pl 41 cm' → G Γ miX10_laysWay cX10_laysWay Q QX 0 0 147 [some (.ref m), some (.int (ii c0)), none, none, none, none] [] τ) : G Γ miX10_laysWay cX10_laysWay Q QX 0 0 59 [some (.ref m), some (.int (ii c0)), none, none, none, none] [] σ := by
  have hW := hH.2.2.2.2.2.2.2
  obtain ⟨⟨c6, r6⟩, oS, hso, hb, hm⟩ := hW
  refine g_iconst q_X10_laysWay_59 ?_
  refine g_istore_n (L' := [_, _, _, _, _, _]) q_X10_laysWay_60 (by decide) rfl ?_
  refine g_loop2 (fun (u : Nat) (τ : AH) => u ≤ 40 ∧ eqOff σ τ (inb (m + 13) 1) ∧ ∃ f, τ.2 (m + 13) = some (az 1476 f) ∧ cmI (lvF SO cols rows) mv ce pl (u + 1) f) (fun u τ => G Γ _ cX10_laysWay _ _ 0 0 61 [some (.ref m), some (.int (ii c0)), some (.int (ii ((u + 1 : Nat) : Int))), none, none, none] [] τ) (fun u τ => 40 - u) ?_ 0 σ ⟨Nat.zero_le _, eqOff.rfl', cm, h1, hc⟩
  rintro u τ ⟨hu, hE, f, t1, hf⟩ ih
  refine g_iload_n q_X10_laysWay_61 rfl ?_
  refine g_bipush q_X10_laysWay_62 bp_41 ?_
  refine g_icmp_ge (tgt := 147) q_X10_laysWay_64 (by decide) ⟨by omega, by omega⟩ ⟨by omega, by omega⟩ (fun b1 => ?_) (fun b1 => ?_)
  · have e : u = 40 := by omega
    subst e
    exact g_fl (kk τ f hE t1 hf) ⟨rfl, rfl, trivial⟩
  obtain ⟨f01, f1, f2⟩ := hf
  refine g_iconst q_X10_laysWay_67 ?_
  refine g_istore_n (L' := [_, _, _, _, _, _]) q_X10_laysWay_68 (by decide) rfl ?_
  have hin := hs_in (mv := mv) (ce := ce) c6 r6 oS hp hp1 u
  /- over cells -/
  refine g_loop2 (fun (c : Nat) (τ : AH) => c ≤ 36 ∧ eqOff σ τ (inb (m + 13) 1) ∧ ∃ f, τ.2 (m + 13) = some (az 1476 f) ∧ z01 f ∧ (∀ v d, v < u + 1 → d < 36 → f (36 * v + d) = bi ((hsN (lvF SO cols rows) mv ce pl v).getLsbD d)) ∧ (∀ d, d < 36 → (f (36 * (u + 1) + d) = 1 ↔ prI so cols rows bc bm (hsN (lvF SO cols rows) mv ce pl u) (u + 1) c 0 d)) ∧ ∀ i, 36 * (u + 2) ≤ i → i < 1476 → f i = 0) (fun c τ => G Γ _ cX10_laysWay _ _ 0 0 69 [some (.ref m), some (.int (ii c0)), some (.int (ii ((u + 1 : Nat) : Int))), some (.int (ii c)), none, none] [] τ) (fun c τ => 36 - c) ?_ 0 τ ⟨Nat.zero_le _, hE, f, t1, f01, f1, fun d hd => ⟨fun q => by rw [f2 _ (by omega) (by omega)] at q; omega, fun ⟨c, j, w, _⟩ => by omega⟩, fun i h1 h2 => f2 i (by omega) h2⟩
  clear hE t1 f01 f1 f2
  rintro c τ ⟨hc36, hE, f, t1, f01, f1, f2, f3⟩ ih2
  refine g_iload_n q_X10_laysWay_69 rfl ?_
  refine g_bipush q_X10_laysWay_70 bp_36 ?_
  refine g_icmp_ge (tgt := 141) q_X10_laysWay_72 (by decide) ⟨by omega, by omega⟩ ⟨by omega, by omega⟩ (fun b2 => ?_) (fun b2 => ?_)
  · have e : c = 36 := by omega
    subst e
    have hnx := ih (u + 1) τ ⟨by omega, hE, f, t1, f01, fun v d hv hd => ?_, fun i h1 h2 => f3 i (by omega) h2⟩ (by omega)
    · refine g_iinc (L' := [_, _, _, _, _, _]) q_X10_laysWay_141 rfl rfl ?_
      refine g_goto (tgt := 61) q_X10_laysWay_144 (by decide) ?_
      exact g_fl hnx ⟨rfl, rfl, rfl, trivial⟩
    · by_cases ev : v = u + 1
      · subst ev
        have hst := hs_step (so := so) (bc := bc) (bm := bm) ⟨⟨c6, r6⟩, oS, hso, hb, hm⟩ hp hp1 (show u + 1 < 41 by omega) hd
        have hp2 : f (36 * (u + 1) + d) = 1 ↔ (hsN (lvF SO cols rows) mv ce pl (u + 1)).getLsbD d = true := by
          rw [f2 d hd, hst]
          exact ⟨fun ⟨c, j, w, q⟩ => ⟨c, j, by omega, by omega, q⟩, fun ⟨c, j, w1, w2, q⟩ => ⟨c, j, Or.inl ⟨w1, w2⟩, q⟩⟩
        rcases f01 (36 * (u + 1) + d) with e | e
        · rw [e]
          cases hb9 : (hsN (lvF SO cols rows) mv ce pl (u + 1)).getLsbD d with
          | false => rfl
          | true => rw [hp2.mpr hb9] at e; omega
        · rw [e, hp2.mp e]; rfl
      · exact f1 v d (by omega) hd
  refine g_iconst q_X10_laysWay_75 ?_
  refine g_istore (L' := [_, _, _, _, _, _]) q_X10_laysWay_76 (by decide) rfl ?_
  have eh : f (36 * u + c) = bi ((hsN (lvF SO cols rows) mv ce pl u).getLsbD c) := f1 u c (by omega) (by omega)
  /- over moves -/
  refine g_loop2 (fun (k : Nat) (τ : AH) => k ≤ 5 ∧ eqOff σ τ (inb (m + 13) 1) ∧ ∃ f, τ.2 (m + 13) = some (az 1476 f) ∧ z01 f ∧ (∀ v d, v < u + 1 → d < 36 → f (36 * v + d) = bi ((hsN (lvF SO cols rows) mv ce pl v).getLsbD d)) ∧ (∀ d, d < 36 → (f (36 * (u + 1) + d) = 1 ↔ prI so cols rows bc bm (hsN (lvF SO cols rows) mv ce pl u) (u + 1) c k d)) ∧ ∀ i, 36 * (u + 2) ≤ i → i < 1476 → f i = 0) (fun k τ => G Γ _ cX10_laysWay _ _ 0 0 78 [some (.ref m), some (.int (ii c0)), some (.int (ii ((u + 1 : Nat) : Int))), some (.int (ii c)), some (.int (ii k)), none] [] τ) (fun k τ => 5 - k) ?_ 0 τ ⟨Nat.zero_le _, hE, f, t1, f01, f1, f2, f3⟩
  clear hE t1 f01 f1 f2 f3 eh
  rintro k τ ⟨hk, hE, f, t1, f01, f1, f2, f3⟩ ih3
  have eh : f (36 * u + c) = bi ((hsN (lvF SO cols rows) mv ce pl u).getLsbD c) := f1 u c (by omega) (by omega)
  have hHt := hH.kp (σ' := τ) (eqOff.rfl'.trans hE (fun a i => by unfold inb at *; omega))
  obtain ⟨hG, -, -, g11, g12, zb, zm, -⟩ := hHt
  have t0 := hG.1
  have done : (k = 5 ∨ (hsN (lvF SO cols rows) mv ce pl u).getLsbD c = false) → G Γ miX10_laysWay cX10_laysWay Q QX 0 0 135 [some (.ref m), some (.int (ii c0)), some (.int (ii ((u + 1 : Nat) : Int))), some (.int (ii c)), some (.int (ii k)), none] [] τ := by
    intro hd5
    have hnx := ih2 (c + 1) τ ⟨by omega, hE, f, t1, f01, f1, fun d hd => by
      rw [f2 d hd]
      constructor
      · rintro ⟨c', j, w, q⟩
        exact ⟨c', j, Or.inl (by omega), q⟩
      · rintro ⟨c', j, w, q1, q2⟩
        refine ⟨c', j, ?_, q1, q2⟩
        by_cases ec : c' = c
        · rcases hd5 with h5 | h5
          · exact Or.inr ⟨ec, by omega⟩
          · rw [ec, h5] at q1; cases q1
        · exact Or.inl ⟨by omega, by omega⟩, f3⟩ (by omega)
    refine g_iinc (L' := [_, _, _, _, _, _]) q_X10_laysWay_135 rfl rfl ?_
    refine g_goto (tgt := 69) q_X10_laysWay_138 (by decide) ?_
    exact g_fl hnx ⟨rfl, rfl, rfl, rfl, trivial⟩
  refine g_iload q_X10_laysWay_78 rfl ?_
  refine g_iconst q_X10_laysWay_80 ?_
  refine g_icmp_ge (tgt := 135) q_X10_laysWay_81 (by decide) ⟨by omega, by omega⟩ ⟨by omega, by omega⟩ (fun b3 => ?_) (fun b3 => ?_)
  · exact done (Or.inl (by omega))
  refine g_aload_n q_X10_laysWay_84 rfl ?_
  refine g_get fl_X10_52 q_X10_laysWay_85 (by repeat first | with_reducible assumption | with_reducible exact hput_s _ _ _ | refine (hput_n _ _ (by omega)).trans ?_ | exact hput_s _ _ _ | assumption) rfl ?_
  refine g_bipush q_X10_laysWay_88 bp_36 ?_
  refine g_iload_n q_X10_laysWay_90 rfl ?_
  refine g_iconst q_X10_laysWay_91 ?_
  refine g_isub q_X10_laysWay_92 ?_
  refine g_topi (b := (u : Int)) (by omega) ?_
  refine g_imul q_X10_laysWay_93 ?_
  refine g_iload_n q_X10_laysWay_94 rfl ?_
  refine g_iadd q_X10_laysWay_95 ?_
  refine g_zaload q_X10_laysWay_96 (by repeat first | with_reducible assumption | with_reducible exact hput_s _ _ _ | refine (hput_n _ _ (by omega)).trans ?_ | exact hput_s _ _ _ | assumption) (by omega) (by omega) ?_
  refine g_topi (b := bi ((hsN (lvF SO cols rows) mv ce pl u).getLsbD c)) (by rw [← eh]; congr 1) ?_
  refine g_if_eq (tgt := 135) q_X10_laysWay_97 (by decide) (bi_rg _) (fun b4 => ?_) (fun b4 => ?_)
  · exact done (Or.inr (bi_f b4))
  have hbit := bi_t b4
  refine g_aload_n q_X10_laysWay_100 rfl ?_
  refine g_iload_n q_X10_laysWay_101 rfl ?_
  refine g_iload q_X10_laysWay_102 rfl ?_
  refine g_iload_n q_X10_laysWay_104 rfl ?_
  refine g_callV (rc' := 0) (rs' := 0) (As := [_, _, _]) cs_X10_254 q_X10_laysWay_105 (sp_mayGo hΓ hG g11 g12 zb zm c k (u + 1) (by omega) (by omega) (by omega)) rfl (by repeat first | with_reducible assumption | with_reducible exact hput_s _ _ _ | refine (hput_n _ _ (by omega)).trans ?_ | exact hput_s _ _ _ | assumption) rfl rfl rfl rfl (Nat.le_of_ble_eq_true rfl) (by decide) (by decide) (by decide) (fun _ _ h => h.elim) (k_rb ?_)
  have next9 : ∀ (τ2 : AH) (f' : Nat → Int), eqOff σ τ2 (inb (m + 13) 1) → τ2.2 (m + 13) = some (az 1476 f') → z01 f' → (∀ v d, v < u + 1 → d < 36 → f' (36 * v + d) = bi ((hsN (lvF SO cols rows) mv ce pl v).getLsbD d)) → (∀ d, d < 36 → (f' (36 * (u + 1) + d) = 1 ↔ prI so cols rows bc bm (hsN (lvF SO cols rows) mv ce pl u) (u + 1) c (k + 1) d)) → (∀ i, 36 * (u + 2) ≤ i → i < 1476 → f' i = 0) → G Γ miX10_laysWay cX10_laysWay Q QX 0 0 129 [some (.ref m), some (.int (ii c0)), some (.int (ii ((u + 1 : Nat) : Int))), some (.int (ii c)), some (.int (ii k)), none] [] τ2 := by
    intro τ2 f' a1 a2 a3 a4 a5 a6
    have hnx := ih3 (k + 1) τ2 ⟨by omega, a1, f', a2, a3, a4, a5, a6⟩ (by omega)
    refine g_iinc (L' := [_, _, _, _, _, _]) q_X10_laysWay_129 rfl rfl ?_
    refine g_goto (tgt := 78) q_X10_laysWay_132 (by decide) ?_
    exact hnx
  refine g_if_eq (tgt := 129) q_X10_laysWay_108 (by decide) (bi_rg _) (fun b5 => ?_) (fun b5 => ?_)
  · have hmg := bi_f b5
    refine next9 τ f hE t1 f01 f1 (fun d hd => ?_) f3
    rw [f2 d hd]
    constructor
    · rintro ⟨c', j, w, q⟩
      exact ⟨c', j, w.imp id (fun w => ⟨w.1, by omega⟩), q⟩
    · rintro ⟨c', j, w, q1, q2, q3⟩
      refine ⟨c', j, ?_, q1, q2, q3⟩
      rcases w with w | ⟨w1, w2⟩
      · exact Or.inl w
      · by_cases ej : j = k
        · rw [w1, ej, hmg] at q2; cases q2
        · exact Or.inr ⟨w1, by omega⟩
  have hmg := bi_t b5
  obtain ⟨n, hn⟩ : ∃ n : Nat, nxt so cols rows c k = n := ⟨(nxt so cols rows c k).toNat, by
    have h9 := (of_decide_eq_true (show decide (_ ∧ _ ∧ _) = true from hmg)).1
    have := nxt_rg (so := so) (m := k) c6 r6 (show c < 36 by omega)
    omega⟩
  have hn36 : n < 36 := by
    have := nxt_rg (so := so) (m := k) c6 r6 (show c < 36 by omega)
    omega
  refine g_aload_n q_X10_laysWay_111 rfl ?_
  refine g_get fl_X10_52 q_X10_laysWay_112 (by repeat first | with_reducible assumption | with_reducible exact hput_s _ _ _ | refine (hput_n _ _ (by omega)).trans ?_ | exact hput_s _ _ _ | assumption) rfl ?_
  refine g_bipush q_X10_laysWay_115 bp_36 ?_
  refine g_iload_n q_X10_laysWay_117 rfl ?_
  refine g_imul q_X10_laysWay_118 ?_
  refine g_aload_n q_X10_laysWay_119 rfl ?_
  refine g_iload_n q_X10_laysWay_120 rfl ?_
  refine g_iload q_X10_laysWay_121 rfl ?_
  refine g_callV (rc' := 0) (rs' := 0) (As := [_, _]) cs_X10_250 q_X10_laysWay_123 (sp_next hΓ hG c k (by omega) (by omega)) rfl (by repeat first | with_reducible assumption | with_reducible exact hput_s _ _ _ | refine (hput_n _ _ (by omega)).trans ?_ | exact hput_s _ _ _ | assumption) rfl rfl rfl rfl (Nat.le_of_ble_eq_true rfl) (by decide) (by decide) (by decide) (fun _ _ h => h.elim) (k_ri ?_)
  rw [hn]
  refine g_iadd q_X10_laysWay_126 ?_
  refine g_iconst q_X10_laysWay_127 ?_
  refine g_zastore q_X10_laysWay_128 (by repeat first | with_reducible assumption | with_reducible exact hput_s _ _ _ | refine (hput_n _ _ (by omega)).trans ?_ | exact hput_s _ _ _ | assumption) (by omega) (by omega) (by first | exact Or.inl rfl | exact Or.inr rfl | omega) ?_
  refine g_eq (σ2 := hput τ (m + 13) (az 1476 (va_up f (36 * (u + 1) + n) 1))) rfl rfl (by congr 3) ?_
  refine next9 _ (va_up f (36 * (u + 1) + n) 1) (hE.put ⟨by omega, by omega⟩ _) (hput_s _ _ _) (z01_up f01 _ (Or.inr rfl)) (fun v d hv hd => ?_) (fun d hd => ?_) (fun i h1 h2 => ?_)
  · rw [va_ne (by omega)]; exact f1 v d hv hd
  · by_cases ed : d = n
    · subst ed
      rw [va_eq]
      exact ⟨fun _ => ⟨c, k, Or.inr ⟨rfl, by omega⟩, hbit, hmg, hn⟩, fun _ => rfl⟩
    · rw [va_ne (by omega), f2 d hd]
      constructor
      · rintro ⟨c', j, w, q⟩
        exact ⟨c', j, w.imp id (fun w => ⟨w.1, by omega⟩), q⟩
      · rintro ⟨c', j, w, q1, q2, q3⟩
        refine ⟨c', j, ?_, q1, q2, q3⟩
        rcases w with w | ⟨w1, w2⟩
        · exact Or.inl w
        · by_cases ej : j = k
          · rw [w1, ej, hn] at q3; omega
          · exact Or.inr ⟨w1, by omega⟩
  · rw [va_ne (by omega)]; exact f3 i h1 h2
end LW

