/-! Turns.goInOrder -/
theorem tuS_s (lv : Nat → BitVec 64) (PL GO : Nat → Int) (OR : Nat → Nat) (k : Nat) (h : (tuS lv PL GO OR k).1 = true) : tuS lv PL GO OR (k + 1) = if tuc lv PL GO OR k = -1 then (false, (tuS lv PL GO OR k).2.1, (tuS lv PL GO OR k).2.2) else (true, fwC (tuS lv PL GO OR k).2.1 (tuw lv PL GO OR k), fwM (tuS lv PL GO OR k).2.2 (tuw lv PL GO OR k) 40) := by
  rw [tuS]
  simp only [h, if_true]
  rfl
theorem tuS_f (lv : Nat → BitVec 64) (PL GO : Nat → Int) (OR : Nat → Nat) {k : Nat} (h : (tuS lv PL GO OR k).1 = false) : ∀ m, (tuS lv PL GO OR (k + m)).1 = false
  | 0 => h
  | m + 1 => by
    have ih := tuS_f lv PL GO OR h m
    rw [show k + (m + 1) = (k + m) + 1 by omega, tuS]
    simp only [ih, Bool.false_eq_true, if_false]
section TU2
variable {Γ : GT} {σ : AH} {u s g cols rows carts n0 : Nat} {lv : Nat → BitVec 64} {PL GO P C ORi : Nat → Int} {OR : Nat → Nat} {ve nu bv bn bs : Int}
theorem sp_goInOrder (hΓ : Gd Γ) (hL : okL lv) (h0 : σ.2 u = some (tuo u ve nu bv bn bs)) (h4 : σ.2 (u + 4) = some (ai 5 ORi)) (hO : ∀ k, k < carts → ORi k = (OR k : Int) ∧ OR k < carts) (hinj : ∀ i j, i < carts → j < carts → OR i = OR j → i = j) (hS : SRo σ s) (hG : SCg σ g cols rows carts PL GO lv) (hW : WYo σ (u + 1) n0 P C) (hsg : s + 3 < g ∨ g + 6 < s) (hus : u + 4 < s ∨ s + 3 < u) (hug : u + 4 < g ∨ g + 6 < u) (hn : carts ≤ 5) (hp : okQ carts PL) (hgo : okQ carts GO) (hP : okP P) (hC : okC C) : Sp Γ miX7_goInOrder 0 0 [.ref u, .ref g, .ref s] σ (fun r σ' => r = none ∧ SRo σ' s ∧ eqOff σ σ' (fun a => inb (u + 1) 3 a ∨ inb s 4 a) ∧ ∃ P' C', WYo σ' (u + 1) carts P' C' ∧ okP P' ∧ okC C' ∧ ((tuS lv PL GO OR carts).1 = true → ∀ k, k < carts → C' (OR k) = tuc lv PL GO OR k ∧ tuc lv PL GO OR k ≠ -1 ∧ ∀ t, t < 41 → P' (41 * OR k + t) = tuw lv PL GO OR k t) ∧ ((tuS lv PL GO OR carts).1 = false → ∃ c, c < carts ∧ C' c = -1)) noX := by
  obtain ⟨s0, ⟨ce, s1⟩, ⟨mv, s2⟩, bk, s3⟩ := hS
  obtain ⟨hg, hg2, hg3, h6⟩ := hG
  obtain ⟨⟨ct, cs, cl, co, hw0⟩, hw1, hw2⟩ := hW
  refine Sp_of (L := [_, _, _, _, _, _]) hΓ (by decide +kernel) rfl (Nat.le_of_ble_eq_true rfl) rfl ?_
  refine g_aload_n q_X7_goInOrder_0 rfl ?_
  refine g_get fl_X7_12 q_X7_goInOrder_1 (by repeat first | with_reducible assumption | with_reducible exact hput_s _ _ _ | refine (hput_n _ _ (by omega)).trans ?_ | exact hput_s _ _ _ | assumption) rfl ?_
  refine g_aload_n q_X7_goInOrder_4 rfl ?_
  refine g_get fl_X7_45 q_X7_goInOrder_5 (by repeat first | with_reducible assumption | with_reducible exact hput_s _ _ _ | refine (hput_n _ _ (by omega)).trans ?_ | exact hput_s _ _ _ | assumption) rfl ?_
  refine g_put fp_X7_50 q_X7_goInOrder_8 (by repeat first | with_reducible assumption | with_reducible exact hput_s _ _ _ | refine (hput_n _ _ (by omega)).trans ?_ | exact hput_s _ _ _ | assumption) rfl rfl ?_
  refine g_aload_n q_X7_goInOrder_11 rfl ?_
  refine g_callVN (rc' := 0) (rs' := 0) (As := []) cs_X7_51 q_X7_goInOrder_12 (sp_clear hΓ ((hput_n _ _ (by omega)).trans s0) ((hput_n _ _ (by omega)).trans s1) ((hput_n _ _ (by omega)).trans s2)) rfl (by repeat first | with_reducible assumption | with_reducible exact hput_s _ _ _ | refine (hput_n _ _ (by omega)).trans ?_ | exact hput_s _ _ _ | assumption) rfl rfl rfl rfl (Nat.le_of_ble_eq_true rfl) (by decide) (by decide) (by decide) (fun _ _ h => h.elim) (k_rv ?_)
  refine g_iconst q_X7_goInOrder_15 ?_
  refine g_istore_n (L' := [_, _, _, _, _, _]) q_X7_goInOrder_16 (by decide) rfl ?_
  refine g_iconst q_X7_goInOrder_17 ?_
  refine g_istore (L' := [_, _, _, _, _, _]) q_X7_goInOrder_18 (by decide) rfl ?_
  refine g_loop2 (fun (k : Nat) (τ : AH) => k ≤ carts ∧ (tuS lv PL GO OR k).1 = true ∧ τ.2 (u + 1) = some (wyo (u + 1) carts ct cs cl co) ∧ τ.2 (s + 1) = some (al 41 (tuS lv PL GO OR k).2.1) ∧ τ.2 (s + 2) = some (al 164 (tuS lv PL GO OR k).2.2) ∧ (∃ B, τ.2 (s + 3) = some (al 41 B)) ∧ eqOff σ τ (fun a => inb (u + 1) 3 a ∨ inb (s + 1) 3 a) ∧ ∃ P' C', τ.2 (u + 1 + 1) = some (ai 205 P') ∧ τ.2 (u + 1 + 2) = some (ai 5 C') ∧ okP P' ∧ okC C' ∧ ∀ j, j < k → C' (OR j) = tuc lv PL GO OR j ∧ tuc lv PL GO OR j ≠ -1 ∧ ∀ t, t < 41 → P' (41 * OR j + t) = tuw lv PL GO OR j t) (fun k τ => G Γ _ cX7_goInOrder _ _ 0 0 20 [some (.ref u), some (.ref g), some (.ref s), some (.int (ii 1)), some (.int (ii k)), none] [] τ) (fun k _ => carts - k) ?_ 0 _ ⟨Nat.zero_le _, rfl, ?_, ?_, ?_, ⟨bk, ?_⟩, ⟨rfl, fun a ha => ?_⟩, P, C, ?_, ?_, hP, hC, fun c h => absurd h (Nat.not_lt_zero c)⟩
  · rintro k τ ⟨hk, hgo1, q0, q1, q2, ⟨B, q3⟩, hE, P1, C1, p1, p2, o1, o2, hcs⟩ ih
    have kg : ∀ a, inb g 7 a → τ.2 a = σ.2 a := fun a ha => hE.2 a (fun q => by unfold inb at ha q; omega)
    have ks : τ.2 s = some (sro s) := (hE.2 s (fun q => by unfold inb at q; omega)).trans s0
    have ku : τ.2 u = some (tuo u ve nu bv bn bs) := (hE.2 u (fun q => by unfold inb at q; omega)).trans h0
    have ku4 : τ.2 (u + 4) = some (ai 5 ORi) := (hE.2 (u + 4) (fun q => by unfold inb at q; omega)).trans h4
    have kg0 := (kg g ⟨by omega, by omega⟩).trans hg
    have kg2 := (kg (g + 2) ⟨by omega, by omega⟩).trans hg2
    have kg3 := (kg (g + 3) ⟨by omega, by omega⟩).trans hg3
    have kg6 := (kg (g + 6) ⟨by omega, by omega⟩).trans h6
    refine g_iload_n q_X7_goInOrder_20 rfl ?_
    refine g_if_eq (tgt := 108) q_X7_goInOrder_21 (by decide) ⟨by omega, by omega⟩ (fun z0 => ?_) (fun z0 => ?_)
    · exact absurd z0 (by decide)
    · refine g_iload q_X7_goInOrder_24 rfl ?_
      refine g_aload_n q_X7_goInOrder_26 rfl ?_
      refine g_get fl_X7_45 q_X7_goInOrder_27 (by repeat first | with_reducible assumption | with_reducible exact hput_s _ _ _ | refine (hput_n _ _ (by omega)).trans ?_ | exact hput_s _ _ _ | assumption) rfl ?_
      refine g_icmp_ge (tgt := 108) q_X7_goInOrder_30 (by decide) ⟨by omega, by omega⟩ ⟨by omega, by omega⟩ (fun hx => ?_) (fun hx => ?_)
      · refine g_return q_X7_goInOrder_108.1 rfl ?_
        have e : k = carts := by omega
        subst e
        exact ⟨rfl, ⟨ks, ⟨_, q1⟩, ⟨_, q2⟩, B, q3⟩, ⟨hE.1, fun a ha => hE.2 a (fun q => ha (by unfold inb at q ⊢; omega))⟩, P1, C1, ⟨⟨ct, cs, cl, co, q0⟩, p1, p2⟩, o1, o2, fun _ => hcs, (fun z => by rw [hgo1] at z; cases z)⟩
      · obtain ⟨hOk, hOl⟩ := hO k (by omega)
        have hpk : 0 ≤ PL (OR k) ∧ PL (OR k) < 36 := ⟨(hp (OR k)).2 (by omega), (hp (OR k)).1.2⟩
        have hgk : 0 ≤ GO (OR k) ∧ GO (OR k) < 36 := ⟨(hgo (OR k)).2 (by omega), (hgo (OR k)).1.2⟩
        have hl9 : -1 ≤ tuc lv PL GO OR k ∧ tuc lv PL GO OR k ≤ 40 := lcs_rg lv (tuS lv PL GO OR k).2.2 (tuS lv PL GO OR k).2.1 (PL (OR k)).toNat (GO (OR k)).toNat
        refine g_aload_n q_X7_goInOrder_33 rfl ?_
        refine g_get fl_X7_18 q_X7_goInOrder_34 (by repeat first | with_reducible assumption | with_reducible exact hput_s _ _ _ | refine (hput_n _ _ (by omega)).trans ?_ | exact hput_s _ _ _ | assumption) rfl ?_
        refine g_iload q_X7_goInOrder_37 rfl ?_
        refine g_iaload q_X7_goInOrder_39 (by repeat first | with_reducible assumption | with_reducible exact hput_s _ _ _ | refine (hput_n _ _ (by omega)).trans ?_ | exact hput_s _ _ _ | assumption) (by omega) (by omega) ?_
        refine g_topi (b := (OR k : Int)) (by exact hOk) ?_
        refine g_istore (L' := [_, _, _, _, _, _]) q_X7_goInOrder_40 (by decide) rfl ?_
        refine g_aload_n q_X7_goInOrder_42 rfl ?_
        refine g_get fl_X7_12 q_X7_goInOrder_43 (by repeat first | with_reducible assumption | with_reducible exact hput_s _ _ _ | refine (hput_n _ _ (by omega)).trans ?_ | exact hput_s _ _ _ | assumption) rfl ?_
        refine g_get fl_X7_56 q_X7_goInOrder_46 (by repeat first | with_reducible assumption | with_reducible exact hput_s _ _ _ | refine (hput_n _ _ (by omega)).trans ?_ | exact hput_s _ _ _ | assumption) rfl ?_
        refine g_iload q_X7_goInOrder_49 rfl ?_
        refine g_aload_n q_X7_goInOrder_51 rfl ?_
        refine g_aload_n q_X7_goInOrder_52 rfl ?_
        refine g_iload q_X7_goInOrder_53 rfl ?_
        refine g_aload_n q_X7_goInOrder_55 rfl ?_
        refine g_get fl_X7_12 q_X7_goInOrder_56 (by repeat first | with_reducible assumption | with_reducible exact hput_s _ _ _ | refine (hput_n _ _ (by omega)).trans ?_ | exact hput_s _ _ _ | assumption) rfl ?_
        refine g_get fl_X7_59 q_X7_goInOrder_59 (by repeat first | with_reducible assumption | with_reducible exact hput_s _ _ _ | refine (hput_n _ _ (by omega)).trans ?_ | exact hput_s _ _ _ | assumption) rfl ?_
        refine g_bipush q_X7_goInOrder_62 bp_41 ?_
        refine g_iload q_X7_goInOrder_64 rfl ?_
        refine g_imul q_X7_goInOrder_66 ?_
        refine g_callVN (rc' := 0) (rs' := 0) (As := [_, _, _, _]) cs_X7_62 q_X7_goInOrder_67 (sp_find hΓ hL ks q1 q2 q3 kg0 kg2 kg3 kg6 hsg (OR k) (u + 1 + 1) 205 (41 * OR k) P1 (by omega) hpk hgk p1 (by omega) (by decide) ⟨by omega, by omega⟩) rfl (by repeat first | with_reducible assumption | with_reducible exact hput_s _ _ _ | refine (hput_n _ _ (by omega)).trans ?_ | exact hput_s _ _ _ | assumption) rfl rfl rfl rfl (Nat.le_of_ble_eq_true rfl) (by decide) (by decide) (by decide) (fun _ _ h => h.elim) (fun v σ' hq => ?_)
        obtain ⟨rfl, ⟨hm, rfl⟩ | ⟨hm, B2, rfl⟩⟩ := hq
        · have hm9 : tuc lv PL GO OR k = -1 := hm
          have ev : va_up C1 (OR k) (tuc lv PL GO OR k) (OR k) = -1 := by unfold va_up; rw [if_pos rfl, hm9]
          refine g_iastore q_X7_goInOrder_70 (by repeat first | with_reducible assumption | with_reducible exact hput_s _ _ _ | refine (hput_n _ _ (by omega)).trans ?_ | exact hput_s _ _ _ | assumption) (by omega) (by omega) ?_
          refine g_aload_n q_X7_goInOrder_71 rfl ?_
          refine g_get fl_X7_12 q_X7_goInOrder_72 (by repeat first | with_reducible assumption | with_reducible exact hput_s _ _ _ | refine (hput_n _ _ (by omega)).trans ?_ | exact hput_s _ _ _ | assumption) rfl ?_
          refine g_get fl_X7_56 q_X7_goInOrder_75 (by repeat first | with_reducible assumption | with_reducible exact hput_s _ _ _ | refine (hput_n _ _ (by omega)).trans ?_ | exact hput_s _ _ _ | assumption) rfl ?_
          refine g_iload q_X7_goInOrder_78 rfl ?_
          refine g_iaload q_X7_goInOrder_80 (by repeat first | with_reducible assumption | with_reducible exact hput_s _ _ _ | refine (hput_n _ _ (by omega)).trans ?_ | exact hput_s _ _ _ | assumption) (by omega) (by omega) ?_
          refine g_topi (b := -1) (by exact ev) ?_
          refine g_iconst q_X7_goInOrder_81 ?_
          refine g_icmp_eq (tgt := 89) q_X7_goInOrder_82 (by decide) ⟨by omega, by omega⟩ ⟨by omega, by omega⟩ (fun z1 => ?_) (fun z1 => ?_)
          · refine g_iconst q_X7_goInOrder_89 ?_
            refine g_istore_n (L' := [_, _, _, _, _, _]) q_X7_goInOrder_90 (by decide) rfl ?_
            refine g_iload_n q_X7_goInOrder_91 rfl ?_
            refine g_if_eq (tgt := 102) q_X7_goInOrder_92 (by decide) ⟨by omega, by omega⟩ (fun z2 => ?_) (fun z2 => ?_)
            · refine g_iinc (L' := [_, _, _, _, _, _]) q_X7_goInOrder_102 rfl rfl ?_
              refine g_goto (tgt := 20) q_X7_goInOrder_105 (by decide) ?_
              refine g_iload_n q_X7_goInOrder_20 rfl ?_
              refine g_if_eq (tgt := 108) q_X7_goInOrder_21 (by decide) ⟨by omega, by omega⟩ (fun z3 => ?_) (fun z3 => ?_)
              · refine g_return q_X7_goInOrder_108.1 rfl ?_
                have hs := tuS_s lv PL GO OR k hgo1
                rw [if_pos hm9] at hs
                have hf : (tuS lv PL GO OR carts).1 = false := by
                  have := tuS_f lv PL GO OR (k := k + 1) (by rw [hs]) (carts - (k + 1))
                  rw [show k + 1 + (carts - (k + 1)) = carts by omega] at this
                  exact this
                refine ⟨rfl, ⟨(by repeat first | with_reducible assumption | with_reducible exact hput_s _ _ _ | refine (hput_n _ _ (by omega)).trans ?_ | exact hput_s _ _ _ | assumption), ⟨_, (by repeat first | with_reducible assumption | with_reducible exact hput_s _ _ _ | refine (hput_n _ _ (by omega)).trans ?_ | exact hput_s _ _ _ | assumption)⟩, ⟨_, (by repeat first | with_reducible assumption | with_reducible exact hput_s _ _ _ | refine (hput_n _ _ (by omega)).trans ?_ | exact hput_s _ _ _ | assumption)⟩, B, (by repeat first | with_reducible assumption | with_reducible exact hput_s _ _ _ | refine (hput_n _ _ (by omega)).trans ?_ | exact hput_s _ _ _ | assumption)⟩, ⟨hE.1, fun a ha => ?_⟩, P1, va_up C1 (OR k) (tuc lv PL GO OR k), ⟨⟨ct, cs, cl, co, (by repeat first | with_reducible assumption | with_reducible exact hput_s _ _ _ | refine (hput_n _ _ (by omega)).trans ?_ | exact hput_s _ _ _ | assumption)⟩, (by repeat first | with_reducible assumption | with_reducible exact hput_s _ _ _ | refine (hput_n _ _ (by omega)).trans ?_ | exact hput_s _ _ _ | assumption), hput_s _ _ _⟩, o1, okC_up o2 _ hl9, (fun z => by rw [hf] at z; cases z), fun _ => ⟨OR k, hOl, ev⟩⟩
                unfold inb at ha
                rw [hput_n _ _ (by omega)]
                exact hE.2 a (by unfold inb; omega)
              · exact absurd rfl z3
            · exact absurd rfl z2
          · exact absurd rfl z1
        · have hm9 : tuc lv PL GO OR k ≠ -1 := hm
          have ev : va_up C1 (OR k) (tuc lv PL GO OR k) (OR k) = tuc lv PL GO OR k := by unfold va_up; rw [if_pos rfl]
          refine g_iastore q_X7_goInOrder_70 (by repeat first | with_reducible assumption | with_reducible exact hput_s _ _ _ | refine (hput_n _ _ (by omega)).trans ?_ | exact hput_s _ _ _ | assumption) (by omega) (by omega) ?_
          refine g_aload_n q_X7_goInOrder_71 rfl ?_
          refine g_get fl_X7_12 q_X7_goInOrder_72 (by repeat first | with_reducible assumption | with_reducible exact hput_s _ _ _ | refine (hput_n _ _ (by omega)).trans ?_ | exact hput_s _ _ _ | assumption) rfl ?_
          refine g_get fl_X7_56 q_X7_goInOrder_75 (by repeat first | with_reducible assumption | with_reducible exact hput_s _ _ _ | refine (hput_n _ _ (by omega)).trans ?_ | exact hput_s _ _ _ | assumption) rfl ?_
          refine g_iload q_X7_goInOrder_78 rfl ?_
          refine g_iaload q_X7_goInOrder_80 (by repeat first | with_reducible assumption | with_reducible exact hput_s _ _ _ | refine (hput_n _ _ (by omega)).trans ?_ | exact hput_s _ _ _ | assumption) (by omega) (by omega) ?_
          refine g_topi (b := tuc lv PL GO OR k) (by exact ev) ?_
          refine g_iconst q_X7_goInOrder_81 ?_
          refine g_icmp_eq (tgt := 89) q_X7_goInOrder_82 (by decide) ⟨by omega, by omega⟩ ⟨by omega, by omega⟩ (fun z1 => ?_) (fun z1 => ?_)
          · exact absurd z1 hm9
          · refine g_iconst q_X7_goInOrder_85 ?_
            refine g_goto (tgt := 90) q_X7_goInOrder_86 (by decide) ?_
            refine g_istore_n (L' := [_, _, _, _, _, _]) q_X7_goInOrder_90 (by decide) rfl ?_
            refine g_iload_n q_X7_goInOrder_91 rfl ?_
            refine g_if_eq (tgt := 102) q_X7_goInOrder_92 (by decide) ⟨by omega, by omega⟩ (fun z2 => ?_) (fun z2 => ?_)
            · exact absurd z2 (by decide)
            · have hoW : okP (tuw lv PL GO OR k) := okP_wyt hL (by omega) (by omega)
              have hoP : okP (va_cpy (tuw lv PL GO OR k) P1 0 (41 * OR k) 41) := okP_cpy o1 hoW _ _ _
              refine g_aload_n q_X7_goInOrder_95 rfl ?_
              refine g_aload_n q_X7_goInOrder_96 rfl ?_
              refine g_iload q_X7_goInOrder_97 rfl ?_
              refine g_callV (rc' := 0) (rs' := 0) (As := [_, _]) cs_X7_66 q_X7_goInOrder_99 (sp_forbidWay (P := va_cpy (tuw lv PL GO OR k) P1 0 (41 * OR k) 41) (C := va_up C1 (OR k) (tuc lv PL GO OR k)) (n := carts) hΓ hoP (by (repeat refine (hput_n _ _ (by omega)).trans ?_); exact ku) ⟨⟨ct, cs, cl, co, by (repeat refine (hput_n _ _ (by omega)).trans ?_); exact q0⟩, (hput_n _ _ (by omega)).trans (hput_s _ _ _), hput_s _ _ _⟩ (by (repeat refine (hput_n _ _ (by omega)).trans ?_); exact ks) (by (repeat refine (hput_n _ _ (by omega)).trans ?_); exact q1) (by (repeat refine (hput_n _ _ (by omega)).trans ?_); exact q2) hus (OR k) (by omega)) rfl (by repeat first | with_reducible assumption | with_reducible exact hput_s _ _ _ | refine (hput_n _ _ (by omega)).trans ?_ | exact hput_s _ _ _ | assumption) rfl rfl rfl rfl (Nat.le_of_ble_eq_true rfl) (by decide) (by decide) (by decide) (fun _ _ h => h.elim) (k_rv ?_)
              refine g_iinc (L' := [_, _, _, _, _, _]) q_X7_goInOrder_102 rfl rfl ?_
              refine g_goto (tgt := 20) q_X7_goInOrder_105 (by decide) ?_
              have hs := tuS_s lv PL GO OR k hgo1
              rw [if_neg hm9] at hs
              have hway : ∀ t, t < 41 → va_cpy (tuw lv PL GO OR k) P1 0 (41 * OR k) 41 (41 * OR k + t) = tuw lv PL GO OR k t := fun t ht => cpy_at _ _ ht
              refine g_repJ (t := 2) (a := s + 1) (n := 41) (f := fwC (tuS lv PL GO OR k).2.1 (fun t => va_cpy (tuw lv PL GO OR k) P1 0 (41 * OR k) 41 (41 * OR k + t))) (f' := fwC (tuS lv PL GO OR k).2.1 (tuw lv PL GO OR k)) (by repeat first | with_reducible assumption | with_reducible exact hput_s _ _ _ | refine (hput_n _ _ (by omega)).trans ?_ | exact hput_s _ _ _ | assumption) (fun j hj => by unfold fwC; dsimp only; rw [hway j hj]) ?_
              have hfm : ∀ t, t ≤ 40 → fwM (tuS lv PL GO OR k).2.2 (fun t => va_cpy (tuw lv PL GO OR k) P1 0 (41 * OR k) 41 (41 * OR k + t)) t = fwM (tuS lv PL GO OR k).2.2 (tuw lv PL GO OR k) t := by
                intro t
                induction t with
                | zero => intro _; rfl
                | succ t iht =>
                  intro h
                  rw [fwM_s, fwM_s, iht (by omega), hway t (by omega), hway (t + 1) (by omega)]
              rw [hfm 40 (by omega)]
              refine g_fl (ih (k + 1) _ ⟨by omega, by rw [hs], (by repeat first | with_reducible assumption | with_reducible exact hput_s _ _ _ | refine (hput_n _ _ (by omega)).trans ?_ | exact hput_s _ _ _ | assumption), by rw [hs]; exact hput_s _ _ _, by rw [hs]; exact (by repeat first | with_reducible assumption | with_reducible exact hput_s _ _ _ | refine (hput_n _ _ (by omega)).trans ?_ | exact hput_s _ _ _ | assumption), ⟨B2, (by repeat first | with_reducible assumption | with_reducible exact hput_s _ _ _ | refine (hput_n _ _ (by omega)).trans ?_ | exact hput_s _ _ _ | assumption)⟩, (((((hE.put (Or.inr ⟨by omega, by omega⟩) _).put (Or.inl ⟨by omega, by omega⟩) _).put (Or.inl ⟨by omega, by omega⟩) _).put (Or.inr ⟨by omega, by omega⟩) _).put (Or.inr ⟨by omega, by omega⟩) _).put (Or.inr ⟨by omega, by omega⟩) _, va_cpy (tuw lv PL GO OR k) P1 0 (41 * OR k) 41, va_up C1 (OR k) (tuc lv PL GO OR k), (by repeat first | with_reducible assumption | with_reducible exact hput_s _ _ _ | refine (hput_n _ _ (by omega)).trans ?_ | exact hput_s _ _ _ | assumption), (by repeat first | with_reducible assumption | with_reducible exact hput_s _ _ _ | refine (hput_n _ _ (by omega)).trans ?_ | exact hput_s _ _ _ | assumption), hoP, okC_up o2 _ hl9, fun j hj => ?_⟩ (by omega)) ⟨rfl, rfl, rfl, rfl, rfl, trivial⟩
              by_cases e : j = k
              · subst e
                exact ⟨ev, hm9, hway⟩
              · have hne : OR j ≠ OR k := fun q => e (hinj j k (by omega) (by omega) q)
                obtain ⟨c1, c2, c3⟩ := hcs j (by omega)
                refine ⟨?_, c2, fun t ht => ?_⟩
                · unfold va_up; rw [if_neg hne]; exact c1
                · rw [cpy_out _ _ (by omega)]; exact c3 t ht
  · exact (by repeat first | with_reducible assumption | with_reducible exact hput_s _ _ _ | refine (hput_n _ _ (by omega)).trans ?_ | exact hput_s _ _ _ | assumption)
  · exact (by repeat first | with_reducible assumption | with_reducible exact hput_s _ _ _ | refine (hput_n _ _ (by omega)).trans ?_ | exact hput_s _ _ _ | assumption)
  · exact (by repeat first | with_reducible assumption | with_reducible exact hput_s _ _ _ | refine (hput_n _ _ (by omega)).trans ?_ | exact hput_s _ _ _ | assumption)
  · exact (by repeat first | with_reducible assumption | with_reducible exact hput_s _ _ _ | refine (hput_n _ _ (by omega)).trans ?_ | exact hput_s _ _ _ | assumption)
  · unfold inb at ha; rw [hput_n _ _ (by omega), hput_n _ _ (by omega), hput_n _ _ (by omega)]
  · exact (by repeat first | with_reducible assumption | with_reducible exact hput_s _ _ _ | refine (hput_n _ _ (by omega)).trans ?_ | exact hput_s _ _ _ | assumption)
  · exact (by repeat first | with_reducible assumption | with_reducible exact hput_s _ _ _ | refine (hput_n _ _ (by omega)).trans ?_ | exact hput_s _ _ _ | assumption)
end TU2

