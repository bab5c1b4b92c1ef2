/-! CartPaths: acts -/
def oV (e : Nat) (S : AH → Prop) : Option Value → AH → Prop := fun v σ' => e = 0 ∧ v = none ∧ S σ'
theorem kpl_rev (l : List (Int × Int × Int)) (q : Int × Int × Int) : (kpl l q).reverse = q :: (if l.length = 16 then l.reverse.dropLast else l.reverse) := by
  unfold kpl
  rw [List.reverse_append]
  split
  · rw [← List.dropLast_reverse]; rfl
  · rfl
theorem okA_kpl {z : PS} {l : List (Int × Int × Int)} {q : Int × Int × Int} {z' : PS} (h : okA z l.reverse) (hw : WFz z) (hq : okq q) (hu : udo z' q = z) : okA z' (kpl l q).reverse := by
  rw [kpl_rev]
  refine ⟨hq, by rw [hu]; exact hw, ?_⟩
  rw [hu]
  split
  · exact okA_dl _ _ h
  · exact h
theorem up_back {f : Nat → Int} {i : Nat} {y : Int} : va_up (va_up f i y) i (f i) = f := by
  funext k
  unfold va_up
  by_cases h : k = i
  · rw [if_pos h, h]
  · rw [if_neg h, if_neg h]
theorem swap_back {f : Nat → Int} {i j : Nat} (hne : i ≠ j) : va_up (va_up (va_up (va_up f i (f j)) j (f i)) i (va_up (va_up f i (f j)) j (f i) j)) j (va_up (va_up f i (f j)) j (f i) i) = f := by
  funext k
  unfold va_up
  by_cases h : k = j
  · rw [if_pos h, if_neg hne, if_pos rfl, h]
  · rw [if_neg h]
    by_cases h2 : k = i
    · rw [if_pos h2, if_pos rfl, h2]
    · rw [if_neg h2, if_neg h, if_neg h2]
section X9C
variable {Γ : GT} {σ : AH} {x lo N : Nat} {R : Nat → Nat} {len : Nat} {tx : Nat → Int} {fa : Int} {z : PS} {l : List (Int × Int × Int)} {wl : Nat} {wr : Nat → Int}
def eTell (z : PS) (a b s : Int) : Nat := if ¬ inXY z a b then 1 else if ¬ (0 ≤ s ∧ s < 6) then 2 else if s = 1 ∧ tkn (zCa z) (zPL z) (zGO z) (6 * b + a) = true then 3 else 0
theorem wf_tell {z : PS} (h : WFz z) {c : Nat} {s : Int} (hs : 0 ≤ s ∧ s < 6) (ht : s = 1 → tkn (zCa z) (zPL z) (zGO z) c = false) : WFz (sZ z (va_up (zSO z) c s) (zGO z)) := by
  obtain ⟨⟨h1, h2, h3⟩, h4, h5, h6⟩ := h
  refine ⟨⟨h1, fun k => ?_, h3⟩, fun k hk => ?_, h5, h6⟩
  · show 0 ≤ va_up (zSO z) c s k ∧ va_up (zSO z) c s k < 6
    unfold va_up
    split
    · exact hs
    · exact h2 k
  · obtain ⟨g1, g2, g3, g4⟩ := h4 k hk
    refine ⟨g1, ?_, g3, ?_⟩
    · show va_up (zSO z) c s (zPL z k).toNat ≠ 1
      unfold va_up
      split
      · rename_i e
        intro q
        have := of_decide_eq_false (ht q)
        exact this ⟨k, hk, Or.inl (by have := g1.1; omega)⟩
      · exact g2
    · show va_up (zSO z) c s (zGO z k).toNat ≠ 1
      unfold va_up
      split
      · rename_i e
        intro q
        have := of_decide_eq_false (ht q)
        exact this ⟨k, hk, Or.inr (by have := g3.1; omega)⟩
      · exact g4
theorem sp_tell (hΓ : Gd Γ) (hN : N < 1000) (hX : CX σ x lo N R len tx fa z l wl wr) (a b s : Int) (ha : rg a) (hb : rg b) (hs : rg s) : Sp Γ miX9_tell 8 48 [.ref x, .int (ii a), .int (ii b), .int (ii s)] σ (oQ (eTell z a b s) (zSO z (6 * b + a).toNat) (SX σ x lo (N + 1) R len tx fa (sZ z (va_up (zSO z) (6 * b + a).toNat s) (zGO z)) (kpl l (0, 6 * b + a, zSO z (6 * b + a).toNat)) wl wr)) (oX [xIOB, xIAE, xISE] (eTell z a b s) (SX σ x lo (N + 1) R len tx fa z l wl wr)) := by
  have hX' := hX
  obtain ⟨ve, av, hh⟩ := hX'
  have hh' := hh
  obtain ⟨h1, h2, h3, h4, h5, q1, q2, q3, q4, q5, q6, -⟩ := hh'
  have hn := h4.1.1
  have q4' := q4
  obtain ⟨g0, g1, g2, g3, g4, g5, g6⟩ := q4'
  refine Sp_of (L := [_, _, _, _, _, _]) hΓ (by decide +kernel) rfl (Nat.le_of_ble_eq_true rfl) rfl ?_
  refine g_aload_n q_X9_tell_0 rfl ?_
  refine g_iload_n q_X9_tell_1 rfl ?_
  refine g_iload_n q_X9_tell_2 rfl ?_
  refine g_callV (rc' := 7) (rs' := 42) (As := [_, _]) cs_X9_129 q_X9_tell_3 (sp_needCell hΓ hX a b ha hb) rfl (by repeat first | with_reducible assumption | with_reducible exact hput_s _ _ _ | refine (hput_n _ _ (by omega)).trans ?_ | exact hput_s _ _ _ | assumption) rfl rfl rfl rfl (Nat.le_of_ble_eq_true rfl) (by decide) (by decide) (by decide) (fun E σ' h => ⟨by unfold eTell; rw [if_pos h.2.1]; decide, by unfold eTell; rw [if_pos h.2.1, h.1]; rfl, SX.gr hX hN h.2.2⟩) (fun v σ' hq => ?_)
  obtain ⟨e1, rfl, rfl⟩ := hq
  have e2 := e1
  unfold inXY at e2
  obtain ⟨c, hc⟩ : ∃ c : Nat, 6 * b + a = c := ⟨(6 * b + a).toNat, by omega⟩
  have bad2 : ¬ (0 ≤ s ∧ s < 6) → eTell z a b s = 2 := fun h => by unfold eTell; rw [if_neg (fun q => q e1), if_pos h]
  rw [hc, Int.toNat_natCast]
  refine g_istore (L' := [_, _, _, _, _, _]) q_X9_tell_6 (by decide) rfl ?_
  refine g_iload_n q_X9_tell_8 rfl ?_
  refine g_if_lt (tgt := 18) q_X9_tell_9 (by decide) hs (fun e3 => ?_) (fun e3 => ?_)
  · refine g_throw th_IAE q_X9_tell_18.1 q_X9_tell_21.1 q_X9_tell_22.1 q_X9_tell_25.1 rfl (by decide) (Nat.le_of_ble_eq_true rfl) (by decide) (by decide) (fun z hz => ?_)
    rw [bad2 (by omega)]
    exact ⟨by decide, rfl, SX.gr hX hN ⟨z, hz, rfl⟩⟩
  refine g_iload_n q_X9_tell_12 rfl ?_
  refine g_bipush q_X9_tell_13 bp_6 ?_
  refine g_icmp_lt (tgt := 26) q_X9_tell_15 (by decide) hs ⟨by omega, by omega⟩ (fun e4 => ?_) (fun e4 => ?_)
  case refine_2 =>
    refine g_throw th_IAE q_X9_tell_18.1 q_X9_tell_21.1 q_X9_tell_22.1 q_X9_tell_25.1 rfl (by decide) (Nat.le_of_ble_eq_true rfl) (by decide) (by decide) (fun z hz => ?_)
    rw [bad2 (by omega)]
    exact ⟨by decide, rfl, SX.gr hX hN ⟨z, hz, rfl⟩⟩
  have good : ¬ (s = 1 ∧ tkn (zCa z) (zPL z) (zGO z) c = true) → G Γ miX9_tell cX9_tell (oQ (eTell z a b s) (zSO z c) (SX σ' x lo (N + 1) R len tx fa (sZ z (va_up (zSO z) c s) (zGO z)) (kpl l (0, (c : Int), zSO z c)) wl wr)) (oX [xIOB, xIAE, xISE] (eTell z a b s) (SX σ' x lo (N + 1) R len tx fa z l wl wr)) 7 42 51 [some (.ref x), some (.int (ii a)), some (.int (ii b)), some (.int (ii s)), some (.int (ii c)), none] [] σ' := by
    intro h
    refine g_aload_n q_X9_tell_51 rfl ?_
    refine g_get fl_X9_19 q_X9_tell_52 (by repeat first | with_reducible assumption | with_reducible exact hput_s _ _ _ | refine (hput_n _ _ (by omega)).trans ?_ | exact hput_s _ _ _ | assumption) rfl ?_
    refine g_get fl_X9_126 q_X9_tell_55 (by repeat first | with_reducible assumption | with_reducible exact hput_s _ _ _ | refine (hput_n _ _ (by omega)).trans ?_ | exact hput_s _ _ _ | assumption) rfl ?_
    refine g_iload q_X9_tell_58 rfl ?_
    refine g_iaload q_X9_tell_60 (by repeat first | with_reducible assumption | with_reducible exact hput_s _ _ _ | refine (hput_n _ _ (by omega)).trans ?_ | exact hput_s _ _ _ | assumption) (by omega) (by omega) ?_
    refine g_istore (L' := [_, _, _, _, _, _]) q_X9_tell_61 (by decide) rfl ?_
    refine g_aload_n q_X9_tell_63 rfl ?_
    refine g_get fl_X9_29 q_X9_tell_64 (by repeat first | with_reducible assumption | with_reducible exact hput_s _ _ _ | refine (hput_n _ _ (by omega)).trans ?_ | exact hput_s _ _ _ | assumption) rfl ?_
    refine g_iconst q_X9_tell_67 ?_
    refine g_iload q_X9_tell_68 rfl ?_
    refine g_iload q_X9_tell_70 rfl ?_
    have k9 := q6.2.1
    refine g_callVN (rc' := 7) (rs' := 42) (As := [_, _, _]) cs_X9_158 q_X9_tell_72 (sp_keep hΓ q6 0 c (zSO z c)) rfl (by repeat first | with_reducible assumption | with_reducible exact hput_s _ _ _ | refine (hput_n _ _ (by omega)).trans ?_ | exact hput_s _ _ _ | assumption) rfl rfl rfl rfl (Nat.le_of_ble_eq_true rfl) (by decide) (by decide) (by decide) (fun _ _ h => h.elim) (fun v σ1 hq => ?_)
    obtain ⟨rfl, hA, hE⟩ := hq
    have qx : σ1.2 x = some (cpo x av wl ve) := (hE.2 x (by unfold inb; omega)).trans q2
    have qs := q4.keep (σ' := σ1) (fun a i => hE.2 a (by unfold inb at i ⊢; omega))
    have qs' := qs
    obtain ⟨g0, g1, g2, g3, g4, g5, g6⟩ := qs'
    refine g_aload_n q_X9_tell_75 rfl ?_
    refine g_get fl_X9_19 q_X9_tell_76 (by repeat first | with_reducible assumption | with_reducible exact hput_s _ _ _ | refine (hput_n _ _ (by omega)).trans ?_ | exact hput_s _ _ _ | assumption) rfl ?_
    refine g_get fl_X9_126 q_X9_tell_79 (by repeat first | with_reducible assumption | with_reducible exact hput_s _ _ _ | refine (hput_n _ _ (by omega)).trans ?_ | exact hput_s _ _ _ | assumption) rfl ?_
    refine g_iload q_X9_tell_82 rfl ?_
    refine g_iload_n q_X9_tell_84 rfl ?_
    refine g_iastore q_X9_tell_85 (by repeat first | with_reducible assumption | with_reducible exact hput_s _ _ _ | refine (hput_n _ _ (by omega)).trans ?_ | exact hput_s _ _ _ | assumption) (by omega) (by omega) ?_
    refine g_aload_n q_X9_tell_86 rfl ?_
    obtain ⟨τ, hτ⟩ : ∃ τ, τ = hput σ1 (x + 10 + 1) (ai 36 (va_up (zSO z) c s)) := ⟨_, rfl⟩
    have tS : SCz τ (x + 10) (sZ z (va_up (zSO z) c s) (zGO z)) (lvZ z) := by rw [hτ]; exact ⟨(by repeat first | with_reducible assumption | with_reducible exact hput_s _ _ _ | refine (hput_n _ _ (by omega)).trans ?_ | exact hput_s _ _ _ | assumption), (by repeat first | with_reducible assumption | with_reducible exact hput_s _ _ _ | refine (hput_n _ _ (by omega)).trans ?_ | exact hput_s _ _ _ | assumption), (by repeat first | with_reducible assumption | with_reducible exact hput_s _ _ _ | refine (hput_n _ _ (by omega)).trans ?_ | exact hput_s _ _ _ | assumption), (by repeat first | with_reducible assumption | with_reducible exact hput_s _ _ _ | refine (hput_n _ _ (by omega)).trans ?_ | exact hput_s _ _ _ | assumption), (by repeat first | with_reducible assumption | with_reducible exact hput_s _ _ _ | refine (hput_n _ _ (by omega)).trans ?_ | exact hput_s _ _ _ | assumption), (by repeat first | with_reducible assumption | with_reducible exact hput_s _ _ _ | refine (hput_n _ _ (by omega)).trans ?_ | exact hput_s _ _ _ | assumption), (by repeat first | with_reducible assumption | with_reducible exact hput_s _ _ _ | refine (hput_n _ _ (by omega)).trans ?_ | exact hput_s _ _ _ | assumption)⟩
    have tx9 : τ.2 x = some (cpo x av wl ve) := by rw [hτ]; exact (by repeat first | with_reducible assumption | with_reducible exact hput_s _ _ _ | refine (hput_n _ _ (by omega)).trans ?_ | exact hput_s _ _ _ | assumption)
    have hE2 : eqOff σ' τ (fun a => a = x ∨ inb (x + 10) 7 a ∨ inb (x + 24) 4 a) := by
      rw [hτ]
      exact (eqOff.rfl'.trans hE (fun a i => Or.inr (Or.inr i))).put (Or.inr (Or.inl ⟨by omega, by omega⟩)) _
    have tA : ACo τ (x + 24) (kpl l (0, (c : Int), zSO z c)) := by rw [hτ]; exact hA.keep (fun a i => hput_n _ _ (by unfold inb at i; omega))
    refine g_eq (σ2 := τ) rfl rfl hτ.symm ?_
    have hw : WFz (sZ z (va_up (zSO z) c s) (zGO z)) := wf_tell h4 ⟨by omega, by omega⟩ (fun q => by cases hb : tkn (zCa z) (zPL z) (zGO z) c with | false => rfl | true => exact absurd ⟨q, hb⟩ h)
    clear hτ
    refine g_callV (rc' := 7) (rs' := 42) (As := []) cs_X9_110 q_X9_tell_87 (sp_sceneChanged hΓ tx9 tS hw.1) rfl (by repeat first | with_reducible assumption | with_reducible exact hput_s _ _ _ | refine (hput_n _ _ (by omega)).trans ?_ | exact hput_s _ _ _ | assumption) rfl rfl rfl rfl (Nat.le_of_ble_eq_true rfl) (by decide) (by decide) (by decide) (fun _ _ h => h.elim) (k_rv ?_)
    refine g_iload q_X9_tell_90 rfl ?_
    refine g_ireturn q_X9_tell_92.1 rfl ?_
    refine ⟨by unfold eTell; rw [hc, if_neg (fun q => q e1), if_neg (fun q => q ⟨by omega, by omega⟩), if_neg h], rfl, hh.zch hN ((hE2.put (Or.inr (Or.inl ⟨by omega, by omega⟩)) _).put (Or.inl rfl) _) (hput_s _ _ _) ?_ ?_ hw (okA_kpl h5 h4 (Or.inl ⟨rfl, by show (0 : Int) ≤ c; omega, by show (c : Int) < 36; omega⟩) ?_), ?_⟩
    · obtain ⟨g0, g1, g2, g3, g4, g5, g6⟩ := tS
      exact ⟨(by repeat first | with_reducible assumption | with_reducible exact hput_s _ _ _ | refine (hput_n _ _ (by omega)).trans ?_ | exact hput_s _ _ _ | assumption), (by repeat first | with_reducible assumption | with_reducible exact hput_s _ _ _ | refine (hput_n _ _ (by omega)).trans ?_ | exact hput_s _ _ _ | assumption), (by repeat first | with_reducible assumption | with_reducible exact hput_s _ _ _ | refine (hput_n _ _ (by omega)).trans ?_ | exact hput_s _ _ _ | assumption), (by repeat first | with_reducible assumption | with_reducible exact hput_s _ _ _ | refine (hput_n _ _ (by omega)).trans ?_ | exact hput_s _ _ _ | assumption), (by repeat first | with_reducible assumption | with_reducible exact hput_s _ _ _ | refine (hput_n _ _ (by omega)).trans ?_ | exact hput_s _ _ _ | assumption), (by repeat first | with_reducible assumption | with_reducible exact hput_s _ _ _ | refine (hput_n _ _ (by omega)).trans ?_ | exact hput_s _ _ _ | assumption), (by repeat first | with_reducible assumption | with_reducible exact hput_s _ _ _ | refine (hput_n _ _ (by omega)).trans ?_ | exact hput_s _ _ _ | assumption)⟩
    · exact tA.keep (fun a i => (hput_n _ _ (by unfold inb at i; omega)).trans (hput_n _ _ (by unfold inb at i; omega)))
    · show sZ z (va_up (va_up (zSO z) c s) c (zSO z c)) (zGO z) = z
      rw [up_back]
      rfl
    · exact eqG_fX ((hE2.put (Or.inr (Or.inl ⟨by omega, by omega⟩)) _).put (Or.inl rfl) _) (fun a i => by rcases i with i | i | i <;> (unfold inb at *; omega))
  refine g_iload_n q_X9_tell_26 rfl ?_
  refine g_iconst q_X9_tell_27 ?_
  refine g_icmp_ne (tgt := 51) q_X9_tell_28 (by decide) hs ⟨by omega, by omega⟩ (fun e5 => ?_) (fun e5 => ?_)
  · exact good (fun q => e5 q.1)
  · refine g_aload_n q_X9_tell_31 rfl ?_
    refine g_get fl_X9_19 q_X9_tell_32 (by repeat first | with_reducible assumption | with_reducible exact hput_s _ _ _ | refine (hput_n _ _ (by omega)).trans ?_ | exact hput_s _ _ _ | assumption) rfl ?_
    refine g_iload q_X9_tell_35 rfl ?_
    refine g_callVN (rc' := 7) (rs' := 42) (As := [_]) cs_X9_151 q_X9_tell_37 (sp_isTaken hΓ q4 hn.2.2 h4.1.2.2.1 h4.1.2.2.2.1 c ⟨by omega, by omega⟩) rfl (by repeat first | with_reducible assumption | with_reducible exact hput_s _ _ _ | refine (hput_n _ _ (by omega)).trans ?_ | exact hput_s _ _ _ | assumption) rfl rfl rfl rfl (Nat.le_of_ble_eq_true rfl) (by decide) (by decide) (by decide) (fun _ _ h => h.elim) (k_rb ?_)
    refine g_if_eq (tgt := 51) q_X9_tell_40 (by decide) (bi_rg _) (fun e6 => ?_) (fun e6 => ?_)
    · exact good (fun q => by rw [bi_f e6] at q; exact absurd q.2 (by decide))
    · have e7 : eTell z a b s = 3 := by unfold eTell; rw [hc, if_neg (fun q => q e1), if_neg (fun q => q ⟨by omega, by omega⟩), if_pos ⟨by omega, bi_t e6⟩]
      refine g_throw th_ISE q_X9_tell_43.1 q_X9_tell_46.1 q_X9_tell_47.1 q_X9_tell_50.1 rfl (by decide) (Nat.le_of_ble_eq_true rfl) (by decide) (by decide) (fun z hz => ?_)
      rw [e7]
      exact ⟨by decide, rfl, SX.gr hX hN ⟨_, hz, rfl⟩⟩
/-- another cart than c has its goal there -/
def oth (z : PS) (c : Int) (g : Int) : Bool := decide (∃ o : Nat, o < zCa z ∧ (o : Int) ≠ c ∧ zGO z o = g)
def eGoal (z : PS) (c a b : Int) : Nat := if ¬ (0 ≤ c ∧ c < zCa z) ∨ ¬ inXY z a b then 1 else if zSO z (6 * b + a).toNat = 1 ∨ oth z c (6 * b + a) = true then 2 else 0
theorem wf_goal {z : PS} (h : WFz z) {c : Nat} {g : Int} (hc : c < zCa z) (hg : inGr z g) (hs : zSO z g.toNat ≠ 1) (ho : oth z c g = false) : WFz (sZ z (zSO z) (va_up (zGO z) c g)) := by
  obtain ⟨⟨h1, h2, h3, h3b, h3c⟩, h4, h5, h6⟩ := h
  have ho' := of_decide_eq_false ho
  have hg36 : g < 36 := by have := hg.2.1; have := hg.2.2; have := h1.1; have := h1.2.1; omega
  refine ⟨⟨h1, h2, h3, fun k => ?_, h3c⟩, fun k hk => ?_, fun i j hij hj => ⟨(h5 i j hij hj).1, ?_⟩, h6⟩
  · show (-1 ≤ va_up (zGO z) c g k ∧ va_up (zGO z) c g k < 36) ∧ (k < zCa z → 0 ≤ va_up (zGO z) c g k)
    unfold va_up
    split
    · exact ⟨⟨by have := hg.1; omega, hg36⟩, fun _ => hg.1⟩
    · exact h3b k
  · obtain ⟨g1, g2, g3, g4⟩ := h4 k hk
    show inGr z (zPL z k) ∧ zSO z (zPL z k).toNat ≠ 1 ∧ inGr z (va_up (zGO z) c g k) ∧ zSO z (va_up (zGO z) c g k).toNat ≠ 1
    unfold va_up
    split
    · exact ⟨g1, g2, hg, hs⟩
    · exact ⟨g1, g2, g3, g4⟩
  · show va_up (zGO z) c g i ≠ va_up (zGO z) c g j
    have hj' : j < zCa z := hj
    unfold va_up
    by_cases e1 : i = c
    · rw [if_pos e1, if_neg (by omega)]
      exact fun q => ho' ⟨j, hj', by omega, q.symm⟩
    · rw [if_neg e1]
      by_cases e2 : j = c
      · rw [if_pos e2]
        exact fun q => ho' ⟨i, by omega, by omega, q⟩
      · rw [if_neg e2]
        exact (h5 i j hij hj).2
/-- behind a change of the scene: keep, then the refreshed scene -/
theorem acts_end {σ σ1 τ : AH} {ve : Nat} {av : Int} {q : Int × Int × Int} {z' : PS} {lv : Nat → BitVec 64} (hh : CXh σ x lo N R len tx fa z l wl wr ve av) (hN : N < 1000) (hE2 : eqOff σ τ (fun a => a = x ∨ inb (x + 10) 7 a ∨ inb (x + 24) 4 a)) (tS : SCz τ (x + 10) z' lv) (tA : ACo τ (x + 24) (kpl l q)) (hw : WFz z') (hq : okq q) (hu : udo z' q = z) : SX σ x lo (N + 1) R len tx fa z' (kpl l q) wl wr (hput (hput τ (x + 10 + 6) (al 4 (lvZ z'))) x (cpo x av wl (ve + 1))) := by
  have h4 := hh.2.2.2.1
  have h5 := hh.2.2.2.2.1
  refine ⟨hh.zch hN ((hE2.put (Or.inr (Or.inl ⟨by omega, by omega⟩)) _).put (Or.inl rfl) _) (hput_s _ _ _) ?_ ?_ hw (okA_kpl h5 h4 hq hu), ?_⟩
  · obtain ⟨g0, g1, g2, g3, g4, g5, g6⟩ := tS
    exact ⟨(by repeat first | with_reducible assumption | with_reducible exact hput_s _ _ _ | refine (hput_n _ _ (by omega)).trans ?_ | exact hput_s _ _ _ | assumption), (by repeat first | with_reducible assumption | with_reducible exact hput_s _ _ _ | refine (hput_n _ _ (by omega)).trans ?_ | exact hput_s _ _ _ | assumption), (by repeat first | with_reducible assumption | with_reducible exact hput_s _ _ _ | refine (hput_n _ _ (by omega)).trans ?_ | exact hput_s _ _ _ | assumption), (by repeat first | with_reducible assumption | with_reducible exact hput_s _ _ _ | refine (hput_n _ _ (by omega)).trans ?_ | exact hput_s _ _ _ | assumption), (by repeat first | with_reducible assumption | with_reducible exact hput_s _ _ _ | refine (hput_n _ _ (by omega)).trans ?_ | exact hput_s _ _ _ | assumption), (by repeat first | with_reducible assumption | with_reducible exact hput_s _ _ _ | refine (hput_n _ _ (by omega)).trans ?_ | exact hput_s _ _ _ | assumption), (by repeat first | with_reducible assumption | with_reducible exact hput_s _ _ _ | refine (hput_n _ _ (by omega)).trans ?_ | exact hput_s _ _ _ | assumption)⟩
  · exact tA.keep (fun a i => (hput_n _ _ (by unfold inb at i; omega)).trans (hput_n _ _ (by unfold inb at i; omega)))
  · exact eqG_fX ((hE2.put (Or.inr (Or.inl ⟨by omega, by omega⟩)) _).put (Or.inl rfl) _) (fun a i => by rcases i with i | i | i <;> (unfold inb at *; omega))
theorem sp_goal (hΓ : Gd Γ) (hN : N < 1000) (hX : CX σ x lo N R len tx fa z l wl wr) (c a b : Int) (hc9 : rg c) (ha : rg a) (hb : rg b) : Sp Γ miX9_goal 8 48 [.ref x, .int (ii c), .int (ii a), .int (ii b)] σ (oQ (eGoal z c a b) (zGO z c.toNat) (SX σ x lo (N + 1) R len tx fa (sZ z (zSO z) (va_up (zGO z) c.toNat (6 * b + a))) (kpl l (1, c, zGO z c.toNat)) wl wr)) (oX [xIOB, xISE] (eGoal z c a b) (SX σ x lo (N + 1) R len tx fa z l wl wr)) := by
  have hX' := hX
  obtain ⟨ve, av, hh⟩ := hX'
  have hh' := hh
  obtain ⟨h1, h2, h3, h4, h5, q1, q2, q3, q4, q5, q6, -⟩ := hh'
  have hn := h4.1.1
  have q4' := q4
  obtain ⟨g0, g1, g2, g3, g4, g5, g6⟩ := q4'
  refine Sp_of (L := [_, _, _, _, _, _, _]) hΓ (by decide +kernel) rfl (Nat.le_of_ble_eq_true rfl) rfl ?_
  refine g_aload_n q_X9_goal_0 rfl ?_
  refine g_iload_n q_X9_goal_1 rfl ?_
  refine g_callV (rc' := 7) (rs' := 42) (As := [_]) cs_X9_133 q_X9_goal_2 (sp_needCart hΓ hX c hc9) rfl (by repeat first | with_reducible assumption | with_reducible exact hput_s _ _ _ | refine (hput_n _ _ (by omega)).trans ?_ | exact hput_s _ _ _ | assumption) rfl rfl rfl rfl (Nat.le_of_ble_eq_true rfl) (by decide) (by decide) (by decide) (fun E σ' h => ⟨by unfold eGoal; rw [if_pos (Or.inl h.2.1)]; decide, by unfold eGoal; rw [if_pos (Or.inl h.2.1), h.1]; rfl, SX.gr hX hN h.2.2⟩) (fun v σ' hq => ?_)
  obtain ⟨rfl, e0, hσ⟩ := hq
  rw [hσ]
  clear hσ
  refine g_aload_n q_X9_goal_5 rfl ?_
  refine g_iload_n q_X9_goal_6 rfl ?_
  refine g_iload_n q_X9_goal_7 rfl ?_
  refine g_callV (rc' := 6) (rs' := 36) (As := [_, _]) cs_X9_129 q_X9_goal_8 (sp_needCell hΓ hX a b ha hb) rfl (by repeat first | with_reducible assumption | with_reducible exact hput_s _ _ _ | refine (hput_n _ _ (by omega)).trans ?_ | exact hput_s _ _ _ | assumption) rfl rfl rfl rfl (Nat.le_of_ble_eq_true rfl) (by decide) (by decide) (by decide) (fun E σ' h => ⟨by unfold eGoal; rw [if_pos (Or.inr h.2.1)]; decide, by unfold eGoal; rw [if_pos (Or.inr h.2.1), h.1]; rfl, SX.gr hX hN h.2.2⟩) (fun v σ2 hq => ?_)
  obtain ⟨e1, rfl, hσ⟩ := hq
  rw [hσ]
  clear hσ
  have e2 := e1
  unfold inXY at e2
  obtain ⟨g, hg⟩ : ∃ c : Nat, 6 * b + a = c := ⟨(6 * b + a).toNat, by omega⟩
  obtain ⟨k, rfl⟩ : ∃ k : Nat, c = k := ⟨c.toNat, by omega⟩
  have hk5 : k < zCa z := by omega
  rw [hg, Int.toNat_natCast]
  have eG : eGoal z k a b = if zSO z g = 1 ∨ oth z k g = true then 2 else 0 := by unfold eGoal; rw [if_neg (fun q => q.elim (fun q => q e0) (fun q => q e1)), hg, Int.toNat_natCast]
  rw [eG]
  refine g_istore (L' := [_, _, _, _, _, _, _]) q_X9_goal_11 (by decide) rfl ?_
  refine g_aload_n q_X9_goal_13 rfl ?_
  refine g_get fl_X9_19 q_X9_goal_14 (by repeat first | with_reducible assumption | with_reducible exact hput_s _ _ _ | refine (hput_n _ _ (by omega)).trans ?_ | exact hput_s _ _ _ | assumption) rfl ?_
  refine g_get fl_X9_139 q_X9_goal_17 (by repeat first | with_reducible assumption | with_reducible exact hput_s _ _ _ | refine (hput_n _ _ (by omega)).trans ?_ | exact hput_s _ _ _ | assumption) rfl ?_
  refine g_aload_n q_X9_goal_20 rfl ?_
  refine g_get fl_X9_19 q_X9_goal_21 (by repeat first | with_reducible assumption | with_reducible exact hput_s _ _ _ | refine (hput_n _ _ (by omega)).trans ?_ | exact hput_s _ _ _ | assumption) rfl ?_
  refine g_get fl_X9_113 q_X9_goal_24 (by repeat first | with_reducible assumption | with_reducible exact hput_s _ _ _ | refine (hput_n _ _ (by omega)).trans ?_ | exact hput_s _ _ _ | assumption) rfl ?_
  refine g_iload q_X9_goal_27 rfl ?_
  refine g_callS (rc' := 6) (rs' := 36) (As := [_, _, _]) cs_X9_162 q_X9_goal_29 (sp_indexOf hΓ (x + 10 + 3) 5 (zCa z) g (zGO z) hn.2.2 (by decide) g3 (fun k _ => by have := (h4.1.2.2.2.1 k).1; exact ⟨by omega, by omega⟩) ⟨by omega, by omega⟩) rfl rfl rfl (Nat.le_of_ble_eq_true rfl) (by decide) (by decide) (by decide) (fun _ _ h => h.elim) (k_ri ?_)
  have hfr := fstN_rg (fun k => decide (zGO z k = g)) (zCa z)
  have hfc := fstN_cases (fun k => decide (zGO z k = g)) (zCa z)
  obtain ⟨f, hf⟩ : ∃ f, f = fstN (fun k => decide (zGO z k = g)) (zCa z) := ⟨_, rfl⟩
  rw [← hf] at hfr hfc ⊢
  have hSr := h4.1.2.1 g
  have good : zSO z g ≠ 1 → oth z k g = false → G Γ miX9_goal cX9_goal (oQ (if zSO z g = 1 ∨ oth z k g = true then 2 else 0) (zGO z k) (SX σ x lo (N + 1) R len tx fa (sZ z (zSO z) (va_up (zGO z) k (g : Int))) (kpl l (1, (k : Int), zGO z k)) wl wr)) (oX [xIOB, xISE] (if zSO z g = 1 ∨ oth z k g = true then 2 else 0) (SX σ x lo (N + 1) R len tx fa z l wl wr)) 6 36 68 [some (.ref x), some (.int (ii k)), some (.int (ii a)), some (.int (ii b)), some (.int (ii g)), some (.int (ii f)), none] [] σ := by
    intro w1 w2
    rw [if_neg (fun q => q.elim w1 (fun q => by rw [w2] at q; cases q))]
    refine g_aload_n q_X9_goal_68 rfl ?_
    refine g_get fl_X9_19 q_X9_goal_69 (by repeat first | with_reducible assumption | with_reducible exact hput_s _ _ _ | refine (hput_n _ _ (by omega)).trans ?_ | exact hput_s _ _ _ | assumption) rfl ?_
    refine g_get fl_X9_139 q_X9_goal_72 (by repeat first | with_reducible assumption | with_reducible exact hput_s _ _ _ | refine (hput_n _ _ (by omega)).trans ?_ | exact hput_s _ _ _ | assumption) rfl ?_
    refine g_iload_n q_X9_goal_75 rfl ?_
    refine g_iaload q_X9_goal_76 (by repeat first | with_reducible assumption | with_reducible exact hput_s _ _ _ | refine (hput_n _ _ (by omega)).trans ?_ | exact hput_s _ _ _ | assumption) (by omega) (by omega) ?_
    refine g_istore (L' := [_, _, _, _, _, _, _]) q_X9_goal_77 (by decide) rfl ?_
    refine g_aload_n q_X9_goal_79 rfl ?_
    refine g_get fl_X9_29 q_X9_goal_80 (by repeat first | with_reducible assumption | with_reducible exact hput_s _ _ _ | refine (hput_n _ _ (by omega)).trans ?_ | exact hput_s _ _ _ | assumption) rfl ?_
    refine g_iconst q_X9_goal_83 ?_
    refine g_iload_n q_X9_goal_84 rfl ?_
    refine g_iload q_X9_goal_85 rfl ?_
    have k9 := q6.2.1
    refine g_callVN (rc' := 6) (rs' := 36) (As := [_, _, _]) cs_X9_158 q_X9_goal_87 (sp_keep hΓ q6 1 k (zGO z k)) rfl (by repeat first | with_reducible assumption | with_reducible exact hput_s _ _ _ | refine (hput_n _ _ (by omega)).trans ?_ | exact hput_s _ _ _ | assumption) rfl rfl rfl rfl (Nat.le_of_ble_eq_true rfl) (by decide) (by decide) (by decide) (fun _ _ h => h.elim) (fun v σ1 hq => ?_)
    obtain ⟨rfl, hA, hE⟩ := hq
    have qx : σ1.2 x = some (cpo x av wl ve) := (hE.2 x (by unfold inb; omega)).trans q2
    have qs := q4.keep (σ' := σ1) (fun a i => hE.2 a (by unfold inb at i ⊢; omega))
    obtain ⟨g0, g1, g2, g3, g4, g5, g6⟩ := qs
    refine g_aload_n q_X9_goal_90 rfl ?_
    refine g_get fl_X9_19 q_X9_goal_91 (by repeat first | with_reducible assumption | with_reducible exact hput_s _ _ _ | refine (hput_n _ _ (by omega)).trans ?_ | exact hput_s _ _ _ | assumption) rfl ?_
    refine g_get fl_X9_139 q_X9_goal_94 (by repeat first | with_reducible assumption | with_reducible exact hput_s _ _ _ | refine (hput_n _ _ (by omega)).trans ?_ | exact hput_s _ _ _ | assumption) rfl ?_
    refine g_iload_n q_X9_goal_97 rfl ?_
    refine g_iload q_X9_goal_98 rfl ?_
    refine g_iastore q_X9_goal_100 (by repeat first | with_reducible assumption | with_reducible exact hput_s _ _ _ | refine (hput_n _ _ (by omega)).trans ?_ | exact hput_s _ _ _ | assumption) (by omega) (by omega) ?_
    refine g_aload_n q_X9_goal_101 rfl ?_
    obtain ⟨τ, hτ⟩ : ∃ τ, τ = hput σ1 (x + 10 + 3) (ai 5 (va_up (zGO z) k (g : Int))) := ⟨_, rfl⟩
    have tS : SCz τ (x + 10) (sZ z (zSO z) (va_up (zGO z) k (g : Int))) (lvZ z) := by rw [hτ]; exact ⟨(by repeat first | with_reducible assumption | with_reducible exact hput_s _ _ _ | refine (hput_n _ _ (by omega)).trans ?_ | exact hput_s _ _ _ | assumption), (by repeat first | with_reducible assumption | with_reducible exact hput_s _ _ _ | refine (hput_n _ _ (by omega)).trans ?_ | exact hput_s _ _ _ | assumption), (by repeat first | with_reducible assumption | with_reducible exact hput_s _ _ _ | refine (hput_n _ _ (by omega)).trans ?_ | exact hput_s _ _ _ | assumption), (by repeat first | with_reducible assumption | with_reducible exact hput_s _ _ _ | refine (hput_n _ _ (by omega)).trans ?_ | exact hput_s _ _ _ | assumption), (by repeat first | with_reducible assumption | with_reducible exact hput_s _ _ _ | refine (hput_n _ _ (by omega)).trans ?_ | exact hput_s _ _ _ | assumption), (by repeat first | with_reducible assumption | with_reducible exact hput_s _ _ _ | refine (hput_n _ _ (by omega)).trans ?_ | exact hput_s _ _ _ | assumption), (by repeat first | with_reducible assumption | with_reducible exact hput_s _ _ _ | refine (hput_n _ _ (by omega)).trans ?_ | exact hput_s _ _ _ | assumption)⟩
    have tx9 : τ.2 x = some (cpo x av wl ve) := by rw [hτ]; exact (by repeat first | with_reducible assumption | with_reducible exact hput_s _ _ _ | refine (hput_n _ _ (by omega)).trans ?_ | exact hput_s _ _ _ | assumption)
    have hE2 : eqOff σ τ (fun a => a = x ∨ inb (x + 10) 7 a ∨ inb (x + 24) 4 a) := by
      rw [hτ]
      exact (eqOff.rfl'.trans hE (fun a i => Or.inr (Or.inr i))).put (Or.inr (Or.inl ⟨by omega, by omega⟩)) _
    have tA : ACo τ (x + 24) (kpl l (1, (k : Int), zGO z k)) := by rw [hτ]; exact hA.keep (fun a i => hput_n _ _ (by unfold inb at i; omega))
    refine g_eq (σ2 := τ) rfl rfl hτ.symm ?_
    have hw : WFz (sZ z (zSO z) (va_up (zGO z) k (g : Int))) := wf_goal h4 hk5 ⟨by omega, by omega, by omega⟩ (by rw [Int.toNat_natCast]; exact w1) w2
    clear hτ
    refine g_callV (rc' := 6) (rs' := 36) (As := []) cs_X9_110 q_X9_goal_102 (sp_sceneChanged hΓ tx9 tS hw.1) rfl (by repeat first | with_reducible assumption | with_reducible exact hput_s _ _ _ | refine (hput_n _ _ (by omega)).trans ?_ | exact hput_s _ _ _ | assumption) rfl rfl rfl rfl (Nat.le_of_ble_eq_true rfl) (by decide) (by decide) (by decide) (fun _ _ h => h.elim) (k_rv ?_)
    refine g_iload q_X9_goal_105 rfl ?_
    refine g_ireturn q_X9_goal_107.1 rfl ?_
    refine ⟨rfl, rfl, acts_end (σ1 := σ1) hh hN hE2 tS tA hw (Or.inr (Or.inl ⟨rfl, by show (0 : Int) ≤ k; omega, by show (k : Int) < 5; omega⟩)) ?_⟩
    show sZ z (zSO z) (va_up (va_up (zGO z) k g) (k : Int).toNat (zGO z k)) = z
    rw [Int.toNat_natCast, up_back]
    rfl
  have bad : (zSO z g = 1 ∨ oth z k g = true) → G Γ miX9_goal cX9_goal (oQ (if zSO z g = 1 ∨ oth z k g = true then 2 else 0) (zGO z k) (SX σ x lo (N + 1) R len tx fa (sZ z (zSO z) (va_up (zGO z) k (g : Int))) (kpl l (1, (k : Int), zGO z k)) wl wr)) (oX [xIOB, xISE] (if zSO z g = 1 ∨ oth z k g = true then 2 else 0) (SX σ x lo (N + 1) R len tx fa z l wl wr)) 6 36 60 [some (.ref x), some (.int (ii k)), some (.int (ii a)), some (.int (ii b)), some (.int (ii g)), some (.int (ii f)), none] [] σ := by
    intro w
    refine g_throw th_ISE q_X9_goal_60.1 q_X9_goal_63.1 q_X9_goal_64.1 q_X9_goal_67.1 rfl (by decide) (Nat.le_of_ble_eq_true rfl) (by decide) (by decide) (fun z hz => ?_)
    rw [if_pos w]
    exact ⟨by decide, rfl, SX.gr hX hN ⟨_, hz, rfl⟩⟩
  have hdis : ∀ o : Nat, o < zCa z → zGO z o = g → f = o := by
    intro o ho e
    rcases hfc with ⟨-, w⟩ | ⟨j, hj, w1, w2, w3⟩
    · exact absurd (decide_eq_true e) (by rw [w o ho]; decide)
    · have e2 := of_decide_eq_true w2
      by_cases hjo : j = o
      · rw [w1, hjo]
      · by_cases hlt : j < o
        · exact absurd (e2.trans e.symm) (h4.2.2.1 j o hlt ho).2
        · exact absurd (e.trans e2.symm) (h4.2.2.1 o j (by omega) hj).2
  refine g_istore (L' := [_, _, _, _, _, _, _]) q_X9_goal_32 (by decide) rfl ?_
  refine g_aload_n q_X9_goal_34 rfl ?_
  refine g_get fl_X9_19 q_X9_goal_35 (by repeat first | with_reducible assumption | with_reducible exact hput_s _ _ _ | refine (hput_n _ _ (by omega)).trans ?_ | exact hput_s _ _ _ | assumption) rfl ?_
  refine g_get fl_X9_126 q_X9_goal_38 (by repeat first | with_reducible assumption | with_reducible exact hput_s _ _ _ | refine (hput_n _ _ (by omega)).trans ?_ | exact hput_s _ _ _ | assumption) rfl ?_
  refine g_iload q_X9_goal_41 rfl ?_
  refine g_iaload q_X9_goal_43 (by repeat first | with_reducible assumption | with_reducible exact hput_s _ _ _ | refine (hput_n _ _ (by omega)).trans ?_ | exact hput_s _ _ _ | assumption) (by omega) (by omega) ?_
  refine g_topi (b := zSO z g) rfl ?_
  refine g_iconst q_X9_goal_44 ?_
  refine g_icmp_eq (tgt := 60) q_X9_goal_45 (by decide) ⟨by omega, by omega⟩ ⟨by omega, by omega⟩ (fun w1 => ?_) (fun w1 => ?_)
  · exact bad (Or.inl w1)
  refine g_iload q_X9_goal_48 rfl ?_
  refine g_iconst q_X9_goal_50 ?_
  refine g_icmp_eq (tgt := 68) q_X9_goal_51 (by decide) ⟨by omega, by omega⟩ ⟨by omega, by omega⟩ (fun w2 => ?_) (fun w2 => ?_)
  · refine good w1 (decide_eq_false ?_)
    rintro ⟨o, ho, -, e⟩
    have := hdis o ho e
    omega
  refine g_iload q_X9_goal_54 rfl ?_
  refine g_iload_n q_X9_goal_56 rfl ?_
  refine g_icmp_eq (tgt := 68) q_X9_goal_57 (by decide) ⟨by omega, by omega⟩ ⟨by omega, by omega⟩ (fun w3 => ?_) (fun w3 => ?_)
  · refine good w1 (decide_eq_false ?_)
    rintro ⟨o, ho, hne, e⟩
    have := hdis o ho e
    omega
  · refine bad (Or.inr (decide_eq_true ?_))
    rcases hfc with ⟨w, -⟩ | ⟨j, hj, w4, w5, -⟩
    · exact absurd w w2
    · exact ⟨j, hj, by omega, of_decide_eq_true w5⟩
def eChg (z : PS) (c d : Int) : Nat := if ¬ (0 ≤ c ∧ c < zCa z) ∨ ¬ (0 ≤ d ∧ d < zCa z) then 1 else if c = d then 2 else 0
def swG (z : PS) (c d : Nat) : PS := sZ z (zSO z) (va_up (va_up (zGO z) c (zGO z d)) d (zGO z c))
theorem wf_chg {z : PS} (h : WFz z) {c d : Nat} (hc : c < zCa z) (hd : d < zCa z) (hne : c ≠ d) : WFz (swG z c d) := by
  obtain ⟨⟨h1, h2, h3, h3b, h3c⟩, h4, h5, h6⟩ := h
  have hp : ∀ k, va_up (va_up (zGO z) c (zGO z d)) d (zGO z c) k = zGO z (if k = d then c else if k = c then d else k) := fun k => by
    unfold va_up
    by_cases e : k = d
    · rw [if_pos e, if_pos e]
    · rw [if_neg e, if_neg e]
      by_cases e2 : k = c
      · rw [if_pos e2, if_pos e2]
      · rw [if_neg e2, if_neg e2]
  have hl : ∀ k, k < zCa z → (if k = d then c else if k = c then d else k) < zCa z := fun k hk => by
    split
    · exact hc
    · split
      · exact hd
      · exact hk
  have hdj : ∀ i j, i < zCa z → j < zCa z → i ≠ j → zGO z i ≠ zGO z j := fun i j hi hj e => by
    by_cases q : i < j
    · exact (h5 i j q hj).2
    · exact fun w => (h5 j i (by omega) hi).2 w.symm
  refine ⟨⟨h1, h2, h3, fun k => ?_, h3c⟩, fun k hk => ?_, fun i j hij hj => ⟨(h5 i j hij hj).1, ?_⟩, h6⟩
  · show (-1 ≤ va_up (va_up (zGO z) c (zGO z d)) d (zGO z c) k ∧ va_up (va_up (zGO z) c (zGO z d)) d (zGO z c) k < 36) ∧ (k < zCa z → 0 ≤ va_up (va_up (zGO z) c (zGO z d)) d (zGO z c) k)
    rw [hp k]
    exact ⟨(h3b _).1, fun hk => (h3b _).2 (hl k hk)⟩
  · obtain ⟨g1, g2, -, -⟩ := h4 k hk
    obtain ⟨-, -, g3, g4⟩ := h4 _ (hl k hk)
    show inGr z (zPL z k) ∧ zSO z (zPL z k).toNat ≠ 1 ∧ inGr z (va_up (va_up (zGO z) c (zGO z d)) d (zGO z c) k) ∧ zSO z (va_up (va_up (zGO z) c (zGO z d)) d (zGO z c) k).toNat ≠ 1
    rw [hp k]
    exact ⟨g1, g2, g3, g4⟩
  · show va_up (va_up (zGO z) c (zGO z d)) d (zGO z c) i ≠ va_up (va_up (zGO z) c (zGO z d)) d (zGO z c) j
    have hj' : j < zCa z := hj
    rw [hp i, hp j]
    refine hdj _ _ (hl i (by omega)) (hl j hj') ?_
    split <;> split <;> (try split) <;> (try split) <;> omega
theorem sp_change (hΓ : Gd Γ) (hN : N < 1000) (hX : CX σ x lo N R len tx fa z l wl wr) (c d : Int) (hc9 : rg c) (hd9 : rg d) : Sp Γ miX9_change 8 48 [.ref x, .int (ii c), .int (ii d)] σ (oV (eChg z c d) (SX σ x lo (N + 1) R len tx fa (swG z c.toNat d.toNat) (kpl l (2, c, d)) wl wr)) (oX [xIOB, xIAE] (eChg z c d) (SX σ x lo (N + 1) R len tx fa z l wl wr)) := by
  have hX' := hX
  obtain ⟨ve, av, hh⟩ := hX'
  have hh' := hh
  obtain ⟨h1, h2, h3, h4, h5, q1, q2, q3, q4, q5, q6, -⟩ := hh'
  have hn := h4.1.1
  refine Sp_of (L := [_, _, _]) hΓ (by decide +kernel) rfl (Nat.le_of_ble_eq_true rfl) rfl ?_
  refine g_aload_n q_X9_change_0 rfl ?_
  refine g_iload_n q_X9_change_1 rfl ?_
  refine g_callV (rc' := 7) (rs' := 42) (As := [_]) cs_X9_133 q_X9_change_2 (sp_needCart hΓ hX c hc9) rfl (by repeat first | with_reducible assumption | with_reducible exact hput_s _ _ _ | refine (hput_n _ _ (by omega)).trans ?_ | exact hput_s _ _ _ | assumption) rfl rfl rfl rfl (Nat.le_of_ble_eq_true rfl) (by decide) (by decide) (by decide) (fun E σ' h => ⟨by unfold eChg; rw [if_pos (Or.inl h.2.1)]; decide, by unfold eChg; rw [if_pos (Or.inl h.2.1), h.1]; rfl, SX.gr hX hN h.2.2⟩) (fun v σ' hq => ?_)
  obtain ⟨rfl, e0, hσ⟩ := hq
  rw [hσ]
  clear hσ
  refine g_aload_n q_X9_change_5 rfl ?_
  refine g_iload_n q_X9_change_6 rfl ?_
  refine g_callV (rc' := 6) (rs' := 36) (As := [_]) cs_X9_133 q_X9_change_7 (sp_needCart hΓ hX d hd9) rfl (by repeat first | with_reducible assumption | with_reducible exact hput_s _ _ _ | refine (hput_n _ _ (by omega)).trans ?_ | exact hput_s _ _ _ | assumption) rfl rfl rfl rfl (Nat.le_of_ble_eq_true rfl) (by decide) (by decide) (by decide) (fun E σ' h => ⟨by unfold eChg; rw [if_pos (Or.inr h.2.1)]; decide, by unfold eChg; rw [if_pos (Or.inr h.2.1), h.1]; rfl, SX.gr hX hN h.2.2⟩) (fun v σ' hq => ?_)
  obtain ⟨rfl, e1, hσ⟩ := hq
  rw [hσ]
  clear hσ
  have eG : eChg z c d = if c = d then 2 else 0 := by unfold eChg; rw [if_neg (fun q => q.elim (fun q => q e0) (fun q => q e1))]
  rw [eG]
  refine g_iload_n q_X9_change_10 rfl ?_
  refine g_iload_n q_X9_change_11 rfl ?_
  refine g_callS (rc' := 5) (rs' := 30) (As := [_, _]) cs_X9_166 q_X9_change_12 (sp_needTwo hΓ c d hc9 hd9) rfl rfl rfl (Nat.le_of_ble_eq_true rfl) (by decide) (by decide) (by decide) (fun E σ' h => ⟨by rw [if_pos (by have := h.2.1; omega)]; decide, by rw [if_pos (by have := h.2.1; omega), h.1]; rfl, SX.gr hX hN h.2.2⟩) (fun v σ' hq => ?_)
  obtain ⟨rfl, e2, hσ⟩ := hq
  rw [hσ, if_neg e2]
  clear hσ
  obtain ⟨i, rfl⟩ : ∃ k : Nat, c = k := ⟨c.toNat, by omega⟩
  obtain ⟨j, rfl⟩ : ∃ k : Nat, d = k := ⟨d.toNat, by omega⟩
  rw [Int.toNat_natCast, Int.toNat_natCast]
  have k9 := q6.2.1
  refine g_aload_n q_X9_change_15 rfl ?_
  refine g_get fl_X9_29 q_X9_change_16 (by repeat first | with_reducible assumption | with_reducible exact hput_s _ _ _ | refine (hput_n _ _ (by omega)).trans ?_ | exact hput_s _ _ _ | assumption) rfl ?_
  refine g_iconst q_X9_change_19 ?_
  refine g_iload_n q_X9_change_20 rfl ?_
  refine g_iload_n q_X9_change_21 rfl ?_
  refine g_callVN (rc' := 5) (rs' := 30) (As := [_, _, _]) cs_X9_158 q_X9_change_22 (sp_keep hΓ q6 2 i j) rfl (by repeat first | with_reducible assumption | with_reducible exact hput_s _ _ _ | refine (hput_n _ _ (by omega)).trans ?_ | exact hput_s _ _ _ | assumption) rfl rfl rfl rfl (Nat.le_of_ble_eq_true rfl) (by decide) (by decide) (by decide) (fun _ _ h => h.elim) (fun v σ1 hq => ?_)
  obtain ⟨rfl, hA, hE⟩ := hq
  have qx : σ1.2 x = some (cpo x av wl ve) := (hE.2 x (by unfold inb; omega)).trans q2
  have qs := q4.keep (σ' := σ1) (fun a i => hE.2 a (by unfold inb at i ⊢; omega))
  obtain ⟨g0, g1, g2, g3, g4, g5, g6⟩ := qs
  refine g_aload_n q_X9_change_25 rfl ?_
  refine g_get fl_X9_19 q_X9_change_26 (by repeat first | with_reducible assumption | with_reducible exact hput_s _ _ _ | refine (hput_n _ _ (by omega)).trans ?_ | exact hput_s _ _ _ | assumption) rfl ?_
  refine g_iload_n q_X9_change_29 rfl ?_
  refine g_iload_n q_X9_change_30 rfl ?_
  refine g_callVN (rc' := 5) (rs' := 30) (As := [_, _]) cs_X9_170 q_X9_change_31 (sp_swapGoals hΓ g0 g3 i j (by omega) (by omega)) rfl (by repeat first | with_reducible assumption | with_reducible exact hput_s _ _ _ | refine (hput_n _ _ (by omega)).trans ?_ | exact hput_s _ _ _ | assumption) rfl rfl rfl rfl (Nat.le_of_ble_eq_true rfl) (by decide) (by decide) (by decide) (fun _ _ h => h.elim) (k_rv ?_)
  refine g_aload_n q_X9_change_34 rfl ?_
  obtain ⟨τ, hτ⟩ : ∃ τ, τ = hput σ1 (x + 10 + 3) (ai 5 (va_up (va_up (zGO z) i (zGO z j)) j (zGO z i))) := ⟨_, rfl⟩
  have tS : SCz τ (x + 10) (swG z i j) (lvZ z) := by rw [hτ]; exact ⟨(by repeat first | with_reducible assumption | with_reducible exact hput_s _ _ _ | refine (hput_n _ _ (by omega)).trans ?_ | exact hput_s _ _ _ | assumption), (by repeat first | with_reducible assumption | with_reducible exact hput_s _ _ _ | refine (hput_n _ _ (by omega)).trans ?_ | exact hput_s _ _ _ | assumption), (by repeat first | with_reducible assumption | with_reducible exact hput_s _ _ _ | refine (hput_n _ _ (by omega)).trans ?_ | exact hput_s _ _ _ | assumption), (by repeat first | with_reducible assumption | with_reducible exact hput_s _ _ _ | refine (hput_n _ _ (by omega)).trans ?_ | exact hput_s _ _ _ | assumption), (by repeat first | with_reducible assumption | with_reducible exact hput_s _ _ _ | refine (hput_n _ _ (by omega)).trans ?_ | exact hput_s _ _ _ | assumption), (by repeat first | with_reducible assumption | with_reducible exact hput_s _ _ _ | refine (hput_n _ _ (by omega)).trans ?_ | exact hput_s _ _ _ | assumption), (by repeat first | with_reducible assumption | with_reducible exact hput_s _ _ _ | refine (hput_n _ _ (by omega)).trans ?_ | exact hput_s _ _ _ | assumption)⟩
  have tx9 : τ.2 x = some (cpo x av wl ve) := by rw [hτ]; exact (by repeat first | with_reducible assumption | with_reducible exact hput_s _ _ _ | refine (hput_n _ _ (by omega)).trans ?_ | exact hput_s _ _ _ | assumption)
  have hE2 : eqOff σ τ (fun a => a = x ∨ inb (x + 10) 7 a ∨ inb (x + 24) 4 a) := by
    rw [hτ]
    exact (eqOff.rfl'.trans hE (fun a i => Or.inr (Or.inr i))).put (Or.inr (Or.inl ⟨by omega, by omega⟩)) _
  have tA : ACo τ (x + 24) (kpl l (2, (i : Int), (j : Int))) := by rw [hτ]; exact hA.keep (fun a i => hput_n _ _ (by unfold inb at i; omega))
  refine g_eq (σ2 := τ) rfl rfl hτ.symm ?_
  have hw : WFz (swG z i j) := wf_chg h4 (by omega) (by omega) (by omega)
  clear hτ
  refine g_callV (rc' := 5) (rs' := 30) (As := []) cs_X9_110 q_X9_change_35 (sp_sceneChanged hΓ tx9 tS hw.1) rfl (by repeat first | with_reducible assumption | with_reducible exact hput_s _ _ _ | refine (hput_n _ _ (by omega)).trans ?_ | exact hput_s _ _ _ | assumption) rfl rfl rfl rfl (Nat.le_of_ble_eq_true rfl) (by decide) (by decide) (by decide) (fun _ _ h => h.elim) (k_rv ?_)
  refine g_return q_X9_change_38.1 rfl ?_
  refine ⟨rfl, rfl, acts_end (σ1 := σ1) hh hN hE2 tS tA hw (Or.inr (Or.inr ⟨rfl, by show (0 : Int) ≤ i; omega, by show (i : Int) < 5; omega, by show (0 : Int) ≤ j; omega, by show (j : Int) < 5; omega⟩)) ?_⟩
  show sZ z (zSO z) (va_up (va_up (va_up (va_up (zGO z) i (zGO z j)) j (zGO z i)) (i : Int).toNat (va_up (va_up (zGO z) i (zGO z j)) j (zGO z i) (j : Int).toNat)) (j : Int).toNat (va_up (va_up (zGO z) i (zGO z j)) j (zGO z i) (i : Int).toNat)) = z
  rw [Int.toNat_natCast, Int.toNat_natCast, swap_back (by omega)]
  rfl
theorem sp_undo0 (hΓ : Gd Γ) (hN : N < 1000) (hX : CX σ x lo N R len tx fa z [] wl wr) : Sp Γ miX9_undo 8 48 [.ref x] σ (oQ 0 (-1) (SX σ x lo (N + 1) R len tx fa z [] wl wr)) noX := by
  have hX' := hX
  obtain ⟨ve, av, h1, h2, h3, h4, h5, q1, q2, q3, q4, q5, q6, -⟩ := hX'
  have k9 : σ.2 (x + 24) = some (aco (x + 24) 0) := q6.2.1
  refine Sp_of (L := [_]) hΓ (by decide +kernel) rfl (Nat.le_of_ble_eq_true rfl) rfl ?_
  refine g_aload_n q_X9_undo_0 rfl ?_
  refine g_get fl_X9_29 q_X9_undo_1 (by repeat first | with_reducible assumption | with_reducible exact hput_s _ _ _ | refine (hput_n _ _ (by omega)).trans ?_ | exact hput_s _ _ _ | assumption) rfl ?_
  refine g_get fl_X9_173 q_X9_undo_4 (by repeat first | with_reducible assumption | with_reducible exact hput_s _ _ _ | refine (hput_n _ _ (by omega)).trans ?_ | exact hput_s _ _ _ | assumption) rfl ?_
  refine g_if_ne (tgt := 12) q_X9_undo_7 (by decide) ⟨by omega, by omega⟩ (fun e1 => ?_) (fun e1 => ?_)
  · omega
  · refine g_iconst q_X9_undo_10 ?_
    refine g_ireturn q_X9_undo_11.1 rfl ?_
    exact ⟨rfl, rfl, SX.of hX hN⟩
theorem sp_undo1 (hΓ : Gd Γ) (hN : N < 1000) {q : Int × Int × Int} (hX : CX σ x lo N R len tx fa z (l ++ [q]) wl wr) : Sp Γ miX9_undo 8 48 [.ref x] σ (oQ 0 l.length (SX σ x lo (N + 1) R len tx fa (udo z q) l wl wr)) noX := by
  have hX' := hX
  obtain ⟨ve, av, hh⟩ := hX'
  have hh' := hh
  obtain ⟨h1, h2, h3, h4, h5, q1, q2, q3, q4, q5, q6, -⟩ := hh'
  have k9 : σ.2 (x + 24) = some (aco (x + 24) (l.length + 1)) := by have := q6.2.1; rw [List.length_append] at this; exact this
  have hl16 : l.length + 1 ≤ 16 := by have := q6.1; rw [List.length_append] at this; exact this
  rw [List.reverse_append] at h5
  obtain ⟨hq, hw, ho⟩ : okq q ∧ WFz (udo z q) ∧ okA (udo z q) l.reverse := h5
  refine Sp_of (L := [_]) hΓ (by decide +kernel) rfl (Nat.le_of_ble_eq_true rfl) rfl ?_
  refine g_aload_n q_X9_undo_0 rfl ?_
  refine g_get fl_X9_29 q_X9_undo_1 (by repeat first | with_reducible assumption | with_reducible exact hput_s _ _ _ | refine (hput_n _ _ (by omega)).trans ?_ | exact hput_s _ _ _ | assumption) rfl ?_
  refine g_get fl_X9_173 q_X9_undo_4 (by repeat first | with_reducible assumption | with_reducible exact hput_s _ _ _ | refine (hput_n _ _ (by omega)).trans ?_ | exact hput_s _ _ _ | assumption) rfl ?_
  refine g_if_ne (tgt := 12) q_X9_undo_7 (by decide) ⟨by omega, by omega⟩ (fun e1 => ?_) (fun e1 => ?_)
  · refine g_aload_n q_X9_undo_12 rfl ?_
    refine g_get fl_X9_29 q_X9_undo_13 (by repeat first | with_reducible assumption | with_reducible exact hput_s _ _ _ | refine (hput_n _ _ (by omega)).trans ?_ | exact hput_s _ _ _ | assumption) rfl ?_
    refine g_aload_n q_X9_undo_16 rfl ?_
    refine g_get fl_X9_19 q_X9_undo_17 (by repeat first | with_reducible assumption | with_reducible exact hput_s _ _ _ | refine (hput_n _ _ (by omega)).trans ?_ | exact hput_s _ _ _ | assumption) rfl ?_
    refine g_callVN (rc' := 8) (rs' := 48) (As := [_]) cs_X9_176 q_X9_undo_20 (sp_undoLatest hΓ q6 q4 (Or.inr (by omega)) hq) rfl (by repeat first | with_reducible assumption | with_reducible exact hput_s _ _ _ | refine (hput_n _ _ (by omega)).trans ?_ | exact hput_s _ _ _ | assumption) rfl rfl rfl rfl (Nat.le_of_ble_eq_true rfl) (by decide) (by decide) (by decide) (fun _ _ h => h.elim) (fun v τ hq9 => ?_)
    obtain ⟨rfl, tA, tS, hE⟩ := hq9
    have tS : SCz τ (x + 10) (udo z q) (lvZ z) := tS
    have tx9 : τ.2 x = some (cpo x av wl ve) := (hE.2 x (by unfold inb; omega)).trans q2
    have hE2 : eqOff σ τ (fun a => a = x ∨ inb (x + 10) 7 a ∨ inb (x + 24) 4 a) := eqOff.rfl'.trans hE (fun a i => Or.inr i.symm)
    have kA := tA.2.1
    refine g_aload_n q_X9_undo_23 rfl ?_
    refine g_callV (rc' := 8) (rs' := 48) (As := []) cs_X9_110 q_X9_undo_24 (sp_sceneChanged hΓ tx9 tS hw.1) rfl (by repeat first | with_reducible assumption | with_reducible exact hput_s _ _ _ | refine (hput_n _ _ (by omega)).trans ?_ | exact hput_s _ _ _ | assumption) rfl rfl rfl rfl (Nat.le_of_ble_eq_true rfl) (by decide) (by decide) (by decide) (fun _ _ h => h.elim) (k_rv ?_)
    refine g_aload_n q_X9_undo_27 rfl ?_
    refine g_get fl_X9_29 q_X9_undo_28 (by repeat first | with_reducible assumption | with_reducible exact hput_s _ _ _ | refine (hput_n _ _ (by omega)).trans ?_ | exact hput_s _ _ _ | assumption) rfl ?_
    refine g_get fl_X9_173 q_X9_undo_31 (by repeat first | with_reducible assumption | with_reducible exact hput_s _ _ _ | refine (hput_n _ _ (by omega)).trans ?_ | exact hput_s _ _ _ | assumption) rfl ?_
    refine g_ireturn q_X9_undo_34.1 rfl ?_
    refine ⟨rfl, rfl, hh.zch hN ((hE2.put (Or.inr (Or.inl ⟨by omega, by omega⟩)) _).put (Or.inl rfl) _) (hput_s _ _ _) ?_ ?_ hw ho, ?_⟩
    · obtain ⟨g0, g1, g2, g3, g4, g5, g6⟩ := tS
      exact ⟨(by repeat first | with_reducible assumption | with_reducible exact hput_s _ _ _ | refine (hput_n _ _ (by omega)).trans ?_ | exact hput_s _ _ _ | assumption), (by repeat first | with_reducible assumption | with_reducible exact hput_s _ _ _ | refine (hput_n _ _ (by omega)).trans ?_ | exact hput_s _ _ _ | assumption), (by repeat first | with_reducible assumption | with_reducible exact hput_s _ _ _ | refine (hput_n _ _ (by omega)).trans ?_ | exact hput_s _ _ _ | assumption), (by repeat first | with_reducible assumption | with_reducible exact hput_s _ _ _ | refine (hput_n _ _ (by omega)).trans ?_ | exact hput_s _ _ _ | assumption), (by repeat first | with_reducible assumption | with_reducible exact hput_s _ _ _ | refine (hput_n _ _ (by omega)).trans ?_ | exact hput_s _ _ _ | assumption), (by repeat first | with_reducible assumption | with_reducible exact hput_s _ _ _ | refine (hput_n _ _ (by omega)).trans ?_ | exact hput_s _ _ _ | assumption), (by repeat first | with_reducible assumption | with_reducible exact hput_s _ _ _ | refine (hput_n _ _ (by omega)).trans ?_ | exact hput_s _ _ _ | assumption)⟩
    · exact tA.keep (fun a i => (hput_n _ _ (by unfold inb at i; omega)).trans (hput_n _ _ (by unfold inb at i; omega)))
    · exact eqG_fX ((hE2.put (Or.inr (Or.inl ⟨by omega, by omega⟩)) _).put (Or.inl rfl) _) (fun a i => by rcases i with i | i | i <;> (unfold inb at *; omega))
  · omega
end X9C

