/-! the reference's tree: what is forbidden; which node is taken next -/
theorem ahd_inj : ∀ j, j < 4 → ∀ k, k < 4 → t_ahd j = t_ahd k → j = k := by decide
section FB
variable {Γ : GT} {σ : AH} {m : Nat} {I : Nat → Int} {A : Nat → Nat → Int} {N : Nat → Nat → BitVec 64} {z : PS} {bc bm so : Nat → Int} {X : (Nat → BitVec 64) × (Nat → BitVec 64)}
theorem mvM_lg (w : WFz z) (hso : ∀ c, gIn (zCo z) (zRo z) c → so c = zSO z c) {f k : Nat} (hg : gIn (zCo z) (zRo z) f) (h1 : zSO z f ≠ 1) (hk : k < 4) (hl : (lvZ z k).getLsbD f = true) : mvM so (zCo z) (zRo z) f ((f : Int) + t_ahd k) = k := by
  have e : ∀ j, j < 4 → nxt so (zCo z) (zRo z) f j = if (lvZ z j).getLsbD f = true then (f : Int) + t_ahd j else -1 := fun j hj => (nxt_lv w.1.1.1 w.1.1.2.1 w.1.2.1 hso hg h1 hj).1
  have h0 := ((nxt_lv w.1.1.1 w.1.1.2.1 w.1.2.1 hso hg h1 hk).2 hl).1
  have hf : fstN (fun j => decide (nxt so (zCo z) (zRo z) f j = (f : Int) + t_ahd k)) 4 = k := fstN_some hk (decide_eq_true (by rw [e k hk, if_pos hl])) (fun j hj => decide_eq_false (fun q => by
    rw [e j (by omega)] at q
    split at q
    · have := ahd_inj j (by omega) k hk (by omega)
      omega
    · omega))
  unfold mvM
  rw [hf, if_neg (by omega)]
/-- what is forbidden lies so -/
def FBr (z : PS) (bc bm : Nat → Int) (X : (Nat → BitVec 64) × (Nat → BitVec 64)) : Prop := z01 bc ∧ z01 bm ∧ bR bc X.1 ∧ mR bm (lvZ z) X.2
/-- it may be forbidden: a cell, or a move that is one -/
def okFb (z : PS) (fr to ti : Int) : Prop := (1 ≤ ti ∧ ti ≤ 40) ∧ (0 ≤ to ∧ to < 36) ∧ (fr = -1 ∨ (0 ≤ fr ∧ fr < 36) ∧ gIn (zCo z) (zRo z) fr.toNat ∧ zSO z fr.toNat ≠ 1 ∧ ∃ k, k < 4 ∧ (lvZ z k).getLsbD fr.toNat = true ∧ to = fr + t_ahd k)
theorem FBr.zero : FBr z (fun _ => 0) (fun _ => 0) (fun _ => 0, fun _ => 0) := ⟨fun _ => Or.inl rfl, fun _ => Or.inl rfl, fun t c _ _ => by simp [bi], fun t c k _ _ _ _ => by simp [bi], fun _ _ _ _ => rfl⟩
theorem FBr.cell (h : FBr z bc bm X) {to ti : Int} (hk : okFb z (-1) to ti) : FBr z (va_up bc (36 * ti + to).toNat 1) bm (fb1 (-1) to ti X) := by
  obtain ⟨z1, z2, h1, h2⟩ := h
  obtain ⟨k1, k2, -⟩ := hk
  unfold fb1
  rw [if_pos rfl]
  refine ⟨z01_up z1 _ (Or.inr rfl), z2, fun t c ht hc => ?_, h2⟩
  show va_up bc (36 * ti + to).toNat 1 (36 * t + c) = bi ((va_up X.1 ti.toNat (X.1 ti.toNat ||| bt1 to.toNat) t).getLsbD c)
  by_cases e : t = ti.toNat
  · rw [e, va_eq, BitVec.getLsbD_or, bt1_b (by omega)]
    by_cases e2 : c = to.toNat
    · rw [decide_eq_true e2, Bool.or_true, show (36 * ti + to).toNat = 36 * ti.toNat + c by omega, va_eq]
      rfl
    · rw [decide_eq_false e2, Bool.or_false, va_ne (by omega)]
      exact h1 _ _ (by omega) hc
  · rw [va_ne e, va_ne (by omega)]
    exact h1 t c ht hc
theorem FBr.move (w : WFz z) (hso : ∀ c, gIn (zCo z) (zRo z) c → so c = zSO z c) (h : FBr z bc bm X) {fr to ti : Int} (hf : fr ≠ -1) (hk : okFb z fr to ti) : FBr z bc (va_up bm (5 * (36 * ti + fr) + mvM so (zCo z) (zRo z) fr.toNat to).toNat 1) (fb1 fr to ti X) ∧ 0 ≤ mvM so (zCo z) (zRo z) fr.toNat to ∧ mvM so (zCo z) (zRo z) fr.toNat to < 4 := by
  obtain ⟨z1, z2, h1, h2⟩ := h
  obtain ⟨k1, k2, k3⟩ := hk
  obtain ⟨f1, f2, f3, k, hk, hl, e⟩ := k3.resolve_left hf
  have hm : mvM so (zCo z) (zRo z) fr.toNat to = k := by
    rw [e, show fr + t_ahd k = ((fr.toNat : Nat) : Int) + t_ahd k by omega]
    exact mvM_lg w hso f2 f3 hk hl
  rw [hm]
  unfold fb1
  rw [if_neg hf]
  refine ⟨⟨z1, z01_up z2 _ (Or.inr rfl), h1, fun t c j ht hc hj hlj => ?_, fun t c ht hc => ?_⟩, by omega, by omega⟩
  · show va_up bm (5 * (36 * ti + fr) + (k : Int)).toNat 1 (5 * (36 * t + c) + j) = bi ((fbm X.2 fr.toNat to ti.toNat 4 (41 * j + t)).getLsbD c)
    unfold fbm
    rw [show (41 * j + t) % 41 = t by omega, show (41 * j + t) / 41 = j by omega]
    by_cases q : t = ti.toNat ∧ j < 4 ∧ (fr.toNat : Int) + t_ahd j = to
    · rw [if_pos q, BitVec.getLsbD_or, bt1_b (by omega)]
      by_cases e2 : c = fr.toNat
      · have ej : j = k := ahd_inj j hj k hk (by omega)
        rw [decide_eq_true e2, Bool.or_true, show (5 * (36 * ti + fr) + (k : Int)).toNat = 5 * (36 * t + c) + j by omega, va_eq]
        rfl
      · rw [decide_eq_false e2, Bool.or_false, va_ne (by omega)]
        exact h2.1 t c j ht hc hj hlj
    · have hne : 5 * (36 * t + c) + j ≠ (5 * (36 * ti + fr) + (k : Int)).toNat := fun q2 => by
        have q3 : t = ti.toNat ∧ c = fr.toNat ∧ j = k := by omega
        exact q ⟨q3.1, hj, by rw [q3.2.2]; omega⟩
      rw [if_neg q, va_ne hne]
      exact h2.1 t c j ht hc hj hlj
  · rw [va_ne (by omega)]
    exact h2.2 t c ht hc
def fbQ (σ : AH) (m : Nat) (I : Nat → Int) (A : Nat → Nat → Int) (N : Nat → Nat → BitVec 64) (z : PS) (Y : (Nat → BitVec 64) × (Nat → BitVec 64)) : Option Value → AH → Prop := fun r σ' => r = none ∧ eqOff σ σ' (inb (m + 11) 2) ∧ ∃ A', MC σ' m I A' N ∧ (∀ k, k < 11 ∨ 12 < k → A' k = A k) ∧ FBr z (A' 11) (A' 12) Y
theorem sp_forbids (hΓ : Gd Γ) (h : MC σ m I A N) (hz : MZ I A z) (w : WFz z) (hF : FBr z (A 11) (A 12) X) (p : Nat) (hp : p < 302) {fr to ti : Int} (hk : okFb z fr to ti) (e22 : A 22 p = if fr = -1 then 0 else 1) (e23 : A 23 p = fr) (e24 : A 24 p = to) (e25 : A 25 p = ti) : Sp Γ miX10_forbids 0 0 [.ref m, .int (ii p)] σ (fbQ σ m I A N z (fb1 fr to ti X)) noX := by
  have h0 := h.1
  have h11 := h.a11
  have h12 := h.a12
  have h22 := h.a22
  have h23 := h.a23
  have h24 := h.a24
  have h25 := h.a25
  have hk0 := hk
  obtain ⟨k1, k2, k3⟩ := hk0
  refine Sp_of (L := [_, _, _]) hΓ (by decide +kernel) rfl (Nat.le_of_ble_eq_true rfl) rfl ?_
  by_cases hf : fr = -1
  · refine g_aload_n q_X10_forbids_0 rfl ?_
    refine g_get fl_X10_92 q_X10_forbids_1 (by repeat first | with_reducible assumption | with_reducible exact hput_s _ _ _ | refine (hput_n _ _ (by omega)).trans ?_ | exact hput_s _ _ _ | assumption) rfl ?_
    refine g_iload_n q_X10_forbids_4 rfl ?_
    refine g_iaload q_X10_forbids_5 (by repeat first | with_reducible assumption | with_reducible exact hput_s _ _ _ | refine (hput_n _ _ (by omega)).trans ?_ | exact hput_s _ _ _ | assumption) (by omega) (by omega) ?_
    refine g_topi (b := ti) (by exact e25) ?_
    refine g_istore_n (L' := [_, _, _]) q_X10_forbids_6 (by decide) rfl ?_
    refine g_aload_n q_X10_forbids_7 rfl ?_
    refine g_get fl_X10_83 q_X10_forbids_8 (by repeat first | with_reducible assumption | with_reducible exact hput_s _ _ _ | refine (hput_n _ _ (by omega)).trans ?_ | exact hput_s _ _ _ | assumption) rfl ?_
    refine g_iload_n q_X10_forbids_11 rfl ?_
    refine g_iaload q_X10_forbids_12 (by repeat first | with_reducible assumption | with_reducible exact hput_s _ _ _ | refine (hput_n _ _ (by omega)).trans ?_ | exact hput_s _ _ _ | assumption) (by omega) (by omega) ?_
    refine g_topi (b := (0 : Int)) (by exact e22.trans (if_pos hf)) ?_
    refine g_if_ne (tgt := 36) q_X10_forbids_13 (by decide) ⟨by omega, by omega⟩ (fun b1 => ?_) (fun b1 => ?_)
    case refine_1 => exact absurd rfl b1
    refine g_aload_n q_X10_forbids_16 rfl ?_
    refine g_get fl_X10_45 q_X10_forbids_17 (by repeat first | with_reducible assumption | with_reducible exact hput_s _ _ _ | refine (hput_n _ _ (by omega)).trans ?_ | exact hput_s _ _ _ | assumption) rfl ?_
    refine g_bipush q_X10_forbids_20 bp_36 ?_
    refine g_iload_n q_X10_forbids_22 rfl ?_
    refine g_imul q_X10_forbids_23 ?_
    refine g_aload_n q_X10_forbids_24 rfl ?_
    refine g_get fl_X10_89 q_X10_forbids_25 (by repeat first | with_reducible assumption | with_reducible exact hput_s _ _ _ | refine (hput_n _ _ (by omega)).trans ?_ | exact hput_s _ _ _ | assumption) rfl ?_
    refine g_iload_n q_X10_forbids_28 rfl ?_
    refine g_iaload q_X10_forbids_29 (by repeat first | with_reducible assumption | with_reducible exact hput_s _ _ _ | refine (hput_n _ _ (by omega)).trans ?_ | exact hput_s _ _ _ | assumption) (by omega) (by omega) ?_
    refine g_topi (b := to) (by exact e24) ?_
    refine g_iadd q_X10_forbids_30 ?_
    refine g_iconst q_X10_forbids_31 ?_
    refine g_zastore q_X10_forbids_32 (by repeat first | with_reducible assumption | with_reducible exact hput_s _ _ _ | refine (hput_n _ _ (by omega)).trans ?_ | exact hput_s _ _ _ | assumption) (by omega) (by omega) (by first | exact Or.inl rfl | exact Or.inr rfl | omega) ?_
    refine g_goto (tgt := 72) q_X10_forbids_33 (by decide) ?_
    refine g_return q_X10_forbids_72.1 rfl ?_
    subst hf
    refine ⟨rfl, eqOff.rfl'.put ⟨by omega, by omega⟩ _, va_up A 11 _, h.putA 11 (by omega) _, fun k hk => va_ne (by omega), ?_⟩
    rw [va_eq, va_ne (by omega)]
    exact hF.cell hk
  · obtain ⟨hF', m1, m2⟩ := hF.move w hz.2.2.1 hf hk
    refine g_aload_n q_X10_forbids_0 rfl ?_
    refine g_get fl_X10_92 q_X10_forbids_1 (by repeat first | with_reducible assumption | with_reducible exact hput_s _ _ _ | refine (hput_n _ _ (by omega)).trans ?_ | exact hput_s _ _ _ | assumption) rfl ?_
    refine g_iload_n q_X10_forbids_4 rfl ?_
    refine g_iaload q_X10_forbids_5 (by repeat first | with_reducible assumption | with_reducible exact hput_s _ _ _ | refine (hput_n _ _ (by omega)).trans ?_ | exact hput_s _ _ _ | assumption) (by omega) (by omega) ?_
    refine g_topi (b := ti) (by exact e25) ?_
    refine g_istore_n (L' := [_, _, _]) q_X10_forbids_6 (by decide) rfl ?_
    refine g_aload_n q_X10_forbids_7 rfl ?_
    refine g_get fl_X10_83 q_X10_forbids_8 (by repeat first | with_reducible assumption | with_reducible exact hput_s _ _ _ | refine (hput_n _ _ (by omega)).trans ?_ | exact hput_s _ _ _ | assumption) rfl ?_
    refine g_iload_n q_X10_forbids_11 rfl ?_
    refine g_iaload q_X10_forbids_12 (by repeat first | with_reducible assumption | with_reducible exact hput_s _ _ _ | refine (hput_n _ _ (by omega)).trans ?_ | exact hput_s _ _ _ | assumption) (by omega) (by omega) ?_
    refine g_topi (b := (1 : Int)) (by exact e22.trans (if_neg hf)) ?_
    refine g_if_ne (tgt := 36) q_X10_forbids_13 (by decide) ⟨by omega, by omega⟩ (fun b1 => ?_) (fun b1 => ?_)
    case refine_2 => exact absurd b1 (by decide)
    refine g_aload_n q_X10_forbids_36 rfl ?_
    refine g_get fl_X10_49 q_X10_forbids_37 (by repeat first | with_reducible assumption | with_reducible exact hput_s _ _ _ | refine (hput_n _ _ (by omega)).trans ?_ | exact hput_s _ _ _ | assumption) rfl ?_
    refine g_iconst q_X10_forbids_40 ?_
    refine g_bipush q_X10_forbids_41 bp_36 ?_
    refine g_iload_n q_X10_forbids_43 rfl ?_
    refine g_imul q_X10_forbids_44 ?_
    refine g_aload_n q_X10_forbids_45 rfl ?_
    refine g_get fl_X10_86 q_X10_forbids_46 (by repeat first | with_reducible assumption | with_reducible exact hput_s _ _ _ | refine (hput_n _ _ (by omega)).trans ?_ | exact hput_s _ _ _ | assumption) rfl ?_
    refine g_iload_n q_X10_forbids_49 rfl ?_
    refine g_iaload q_X10_forbids_50 (by repeat first | with_reducible assumption | with_reducible exact hput_s _ _ _ | refine (hput_n _ _ (by omega)).trans ?_ | exact hput_s _ _ _ | assumption) (by omega) (by omega) ?_
    refine g_topi (b := fr) (by exact e23) ?_
    refine g_iadd q_X10_forbids_51 ?_
    refine g_imul q_X10_forbids_52 ?_
    refine g_aload_n q_X10_forbids_53 rfl ?_
    refine g_aload_n q_X10_forbids_54 rfl ?_
    refine g_get fl_X10_86 q_X10_forbids_55 (by repeat first | with_reducible assumption | with_reducible exact hput_s _ _ _ | refine (hput_n _ _ (by omega)).trans ?_ | exact hput_s _ _ _ | assumption) rfl ?_
    refine g_iload_n q_X10_forbids_58 rfl ?_
    refine g_iaload q_X10_forbids_59 (by repeat first | with_reducible assumption | with_reducible exact hput_s _ _ _ | refine (hput_n _ _ (by omega)).trans ?_ | exact hput_s _ _ _ | assumption) (by omega) (by omega) ?_
    refine g_topi (b := ((fr.toNat : Nat) : Int)) (by exact e23.trans (by omega)) ?_
    refine g_aload_n q_X10_forbids_60 rfl ?_
    refine g_get fl_X10_89 q_X10_forbids_61 (by repeat first | with_reducible assumption | with_reducible exact hput_s _ _ _ | refine (hput_n _ _ (by omega)).trans ?_ | exact hput_s _ _ _ | assumption) rfl ?_
    refine g_iload_n q_X10_forbids_64 rfl ?_
    refine g_iaload q_X10_forbids_65 (by repeat first | with_reducible assumption | with_reducible exact hput_s _ _ _ | refine (hput_n _ _ (by omega)).trans ?_ | exact hput_s _ _ _ | assumption) (by omega) (by omega) ?_
    refine g_topi (b := to) (by exact e24) ?_
    refine g_callV (rc' := 0) (rs' := 0) (As := [_, _]) cs_X10_299 q_X10_forbids_66 (sp_mmoveOf hΓ (hz.g h w) fr.toNat (by omega) to ⟨by omega, by omega⟩) rfl (by repeat first | with_reducible assumption | with_reducible exact hput_s _ _ _ | refine (hput_n _ _ (by omega)).trans ?_ | exact hput_s _ _ _ | assumption) rfl rfl rfl rfl (Nat.le_of_ble_eq_true rfl) (by decide) (by decide) (by decide) (fun _ _ h => h.elim) (k_ri ?_)
    refine g_iadd q_X10_forbids_69 ?_
    refine g_iconst q_X10_forbids_70 ?_
    refine g_zastore q_X10_forbids_71 (by repeat first | with_reducible assumption | with_reducible exact hput_s _ _ _ | refine (hput_n _ _ (by omega)).trans ?_ | exact hput_s _ _ _ | assumption) (by omega) (by omega) (by first | exact Or.inl rfl | exact Or.inr rfl | omega) ?_
    refine g_return q_X10_forbids_72.1 rfl ?_
    refine ⟨rfl, eqOff.rfl'.put ⟨by omega, by omega⟩ _, va_up A 12 _, h.putA 12 (by omega) _, fun k hk => va_ne (by omega), ?_⟩
    rw [va_eq, va_ne (by omega)]
    exact hF'
end FB
section CHS
variable {Γ : GT} {σ : AH} {m : Nat} {I : Nat → Int} {A : Nat → Nat → Int} {N : Nat → Nat → BitVec 64} {pn : Nat → PN} {nc : Nat}
def chI : Option Nat → Int
  | none => -1
  | some k => (k : Int)
/-- nodes as they lie, for choosing -/
def TRo (A : Nat → Nat → Int) (nc : Nat) (pn : Nat → PN) : Prop := ∀ k, k < nc → A 19 k = pSu (pn k) ∧ A 20 k = pCl (pn k) ∧ A 26 k = bi (pSp (pn k))
def chQ (σ : AH) (m : Nat) (I : Nat → Int) (pn : Nat → PN) (nc : Nat) (bd : Int) : Option Value → AH → Prop := fun r σ' => (lwN pn nc = -1 ∧ r = some (.int (ii (-1))) ∧ σ' = σ) ∨ (lwN pn nc ≠ -1 ∧ r = some (.int (ii (chI (chN pn bd (lwN pn nc) nc)))) ∧ σ' = hput σ m (mdo m (va_up I 36 (lwN pn nc))))
theorem sp_chosen (hΓ : Gd Γ) (h : MC σ m I A N) (h34 : I 34 = nc) (hnc : nc ≤ 302) (hR : TRo A nc pn) (hok : okN pn nc) (bd : Int) (hbd : 10 ≤ bd ∧ bd ≤ 30) : Sp Γ miX10_chosen 0 0 [.ref m, .int (ii bd)] σ (chQ σ m I pn nc bd) noX := by
  have h0 := h.1
  have h19 := h.a19
  have h20 := h.a20
  have h26 := h.a26
  have hlr := lwN_rg hok
  refine Sp_of (L := [_, _, _, _, _]) hΓ (by decide +kernel) rfl (Nat.le_of_ble_eq_true rfl) rfl ?_
  refine g_iconst q_X10_chosen_0 ?_
  refine g_istore_n (L' := [_, _, _, _, _]) q_X10_chosen_1 (by decide) rfl ?_
  refine g_iconst q_X10_chosen_2 ?_
  refine g_istore_n (L' := [_, _, _, _, _]) q_X10_chosen_3 (by decide) rfl ?_
  refine g_loop (fun k => k ≤ nc) (fun k : Nat => G Γ _ cX10_chosen _ _ 0 0 4 [some (.ref m), some (.int (ii bd)), some (.int (ii (lwN pn k))), some (.int (ii k)), none] [] σ) (fun k => nc - k) ?_ 0 (Nat.zero_le _)
  intro k hkn ih
  refine g_iload_n q_X10_chosen_4 rfl ?_
  refine g_aload_n q_X10_chosen_5 rfl ?_
  refine g_get fl_X10_302 q_X10_chosen_6 (by repeat first | with_reducible assumption | with_reducible exact hput_s _ _ _ | refine (hput_n _ _ (by omega)).trans ?_ | exact hput_s _ _ _ | assumption) rfl ?_
  refine g_topi (b := (nc : Int)) (by exact h34) ?_
  refine g_icmp_ge (tgt := 49) q_X10_chosen_9 (by decide) ⟨by omega, by omega⟩ ⟨by omega, by omega⟩ (fun b1 => ?_) (fun b1 => ?_)
  case refine_2 =>
    obtain ⟨r19, r20, r26⟩ := hR k (by omega)
    have ho := hok k (by omega)
    have hl := lwN_rg (pn := pn) (nc := k) (fun j hj => hok j (by omega))
    have hnx := ih (k + 1) (by omega) (by omega)
    refine g_aload_n q_X10_chosen_12 rfl ?_
    refine g_get fl_X10_95 q_X10_chosen_13 (by repeat first | with_reducible assumption | with_reducible exact hput_s _ _ _ | refine (hput_n _ _ (by omega)).trans ?_ | exact hput_s _ _ _ | assumption) rfl ?_
    refine g_iload_n q_X10_chosen_16 rfl ?_
    refine g_zaload q_X10_chosen_17 (by repeat first | with_reducible assumption | with_reducible exact hput_s _ _ _ | refine (hput_n _ _ (by omega)).trans ?_ | exact hput_s _ _ _ | assumption) (by omega) (by omega) ?_
    refine g_topi (b := bi (pSp (pn k))) (by exact r26) ?_
    refine g_if_ne (tgt := 43) q_X10_chosen_18 (by decide) (bi_rg _) (fun b2 => ?_) (fun b2 => ?_)
    · rw [show lwN pn (k + 1) = lwN pn k by rw [lwN, if_neg (fun q => by rw [bi_t b2] at q; cases q.1)]] at hnx
      refine g_iinc (L' := [_, _, _, _, _]) q_X10_chosen_43 rfl rfl ?_
      refine g_goto (tgt := 4) q_X10_chosen_46 (by decide) ?_
      exact hnx
    have hs := bi_f (show bi (pSp (pn k)) = 0 by omega)
    have yes : (lwN pn k = -1 ∨ pSu (pn k) < lwN pn k) → G Γ miX10_chosen cX10_chosen (chQ σ m I pn nc bd) noX 0 0 36 [some (.ref m), some (.int (ii bd)), some (.int (ii (lwN pn k))), some (.int (ii k)), none] [] σ := by
      intro q
      rw [show lwN pn (k + 1) = pSu (pn k) by rw [lwN, if_pos ⟨hs, q⟩]] at hnx
      refine g_aload_n q_X10_chosen_36 rfl ?_
      refine g_get fl_X10_74 q_X10_chosen_37 (by repeat first | with_reducible assumption | with_reducible exact hput_s _ _ _ | refine (hput_n _ _ (by omega)).trans ?_ | exact hput_s _ _ _ | assumption) rfl ?_
      refine g_iload_n q_X10_chosen_40 rfl ?_
      refine g_iaload q_X10_chosen_41 (by repeat first | with_reducible assumption | with_reducible exact hput_s _ _ _ | refine (hput_n _ _ (by omega)).trans ?_ | exact hput_s _ _ _ | assumption) (by omega) (by omega) ?_
      refine g_topi (b := pSu (pn k)) (by exact r19) ?_
      refine g_istore_n (L' := [_, _, _, _, _]) q_X10_chosen_42 (by decide) rfl ?_
      refine g_iinc (L' := [_, _, _, _, _]) q_X10_chosen_43 rfl rfl ?_
      refine g_goto (tgt := 4) q_X10_chosen_46 (by decide) ?_
      exact hnx
    refine g_iload_n q_X10_chosen_21 rfl ?_
    refine g_iconst q_X10_chosen_22 ?_
    refine g_icmp_eq (tgt := 36) q_X10_chosen_23 (by decide) ⟨by omega, by omega⟩ ⟨by omega, by omega⟩ (fun b3 => ?_) (fun b3 => ?_)
    · exact yes (Or.inl b3)
    refine g_aload_n q_X10_chosen_26 rfl ?_
    refine g_get fl_X10_74 q_X10_chosen_27 (by repeat first | with_reducible assumption | with_reducible exact hput_s _ _ _ | refine (hput_n _ _ (by omega)).trans ?_ | exact hput_s _ _ _ | assumption) rfl ?_
    refine g_iload_n q_X10_chosen_30 rfl ?_
    refine g_iaload q_X10_chosen_31 (by repeat first | with_reducible assumption | with_reducible exact hput_s _ _ _ | refine (hput_n _ _ (by omega)).trans ?_ | exact hput_s _ _ _ | assumption) (by omega) (by omega) ?_
    refine g_topi (b := pSu (pn k)) (by exact r19) ?_
    refine g_iload_n q_X10_chosen_32 rfl ?_
    refine g_icmp_ge (tgt := 43) q_X10_chosen_33 (by decide) ⟨by omega, by omega⟩ ⟨by omega, by omega⟩ (fun b4 => ?_) (fun b4 => ?_)
    · rw [show lwN pn (k + 1) = lwN pn k by rw [lwN, if_neg (fun q => by rcases q.2 with q | q <;> omega)]] at hnx
      refine g_iinc (L' := [_, _, _, _, _]) q_X10_chosen_43 rfl rfl ?_
      refine g_goto (tgt := 4) q_X10_chosen_46 (by decide) ?_
      exact hnx
    · exact yes (Or.inr (by omega))
  have e : k = nc := by omega
  subst e
  clear ih hkn
  refine g_iload_n q_X10_chosen_49 rfl ?_
  refine g_iconst q_X10_chosen_50 ?_
  refine g_icmp_ne (tgt := 56) q_X10_chosen_51 (by decide) ⟨by omega, by omega⟩ ⟨by omega, by omega⟩ (fun b2 => ?_) (fun b2 => ?_)
  case refine_2 =>
    refine g_iconst q_X10_chosen_54 ?_
    refine g_ireturn q_X10_chosen_55.1 rfl ?_
    exact Or.inl ⟨by omega, rfl, rfl⟩
  refine g_aload_n q_X10_chosen_56 rfl ?_
  refine g_iload_n q_X10_chosen_57 rfl ?_
  refine g_putM fp_X10_311 q_X10_chosen_58 (by repeat first | with_reducible assumption | with_reducible exact hput_s _ _ _ | refine (hput_n _ _ (by omega)).trans ?_ | exact hput_s _ _ _ | assumption) rfl rfl mset_36 ?_
  refine g_iconst q_X10_chosen_61 ?_
  refine g_istore_n (L' := [_, _, _, _, _]) q_X10_chosen_62 (by decide) rfl ?_
  refine g_iconst q_X10_chosen_63 ?_
  refine g_istore (L' := [_, _, _, _, _]) q_X10_chosen_64 (by decide) rfl ?_
  obtain ⟨lw, hlw⟩ : ∃ lw, lw = lwN pn k := ⟨_, rfl⟩
  have eQ : chQ σ m I pn k bd = fun r σ' => (lw = -1 ∧ r = some (.int (ii (-1))) ∧ σ' = σ) ∨ (lw ≠ -1 ∧ r = some (.int (ii (chI (chN pn bd lw k)))) ∧ σ' = hput σ m (mdo m (va_up I 36 lw))) := by rw [hlw]; rfl
  rw [eQ]
  clear eQ
  rw [← hlw] at hlr b2 ⊢
  have hbl : 0 ≤ bd * lw ∧ bd * lw ≤ 30000 := ⟨Int.mul_nonneg (by omega) (by omega), Int.le_trans (Int.mul_le_mul_of_nonneg_right hbd.2 (by omega)) (by omega)⟩
  obtain ⟨τ, hτ⟩ : ∃ τ, τ = hput σ m (mdo m (va_up I 36 lw)) := ⟨_, rfl⟩
  have hM := h.putI (va_up I 36 lw)
  rw [← hτ] at hM ⊢
  have g0 := hM.1
  have g19 := hM.a19
  have g20 := hM.a20
  have g26 := hM.a26
  refine g_loop (fun j => j ≤ k) (fun j : Nat => G Γ _ cX10_chosen _ _ 0 0 66 [some (.ref m), some (.int (ii bd)), some (.int (ii lw)), some (.int (ii (chI (chN pn bd lw j)))), some (.int (ii j))] [] τ) (fun j => k - j) ?_ 0 (Nat.zero_le _)
  intro j hj ih
  refine g_iload q_X10_chosen_66 rfl ?_
  refine g_aload_n q_X10_chosen_68 rfl ?_
  refine g_get fl_X10_302 q_X10_chosen_69 (by repeat first | with_reducible assumption | with_reducible exact hput_s _ _ _ | refine (hput_n _ _ (by omega)).trans ?_ | exact hput_s _ _ _ | assumption) rfl ?_
  refine g_topi (b := (k : Int)) (by exact (va_ne (by omega)).trans h34) ?_
  refine g_icmp_ge (tgt := 166) q_X10_chosen_72 (by decide) ⟨by omega, by omega⟩ ⟨by omega, by omega⟩ (fun b3 => ?_) (fun b3 => ?_)
  · have e : j = k := by omega
    subst e
    refine g_iload_n q_X10_chosen_166 rfl ?_
    refine g_ireturn q_X10_chosen_167.1 rfl ?_
    exact Or.inr ⟨b2, rfl, rfl⟩
  obtain ⟨r19, r20, r26⟩ := hR j (by omega)
  have ho := hok j (by omega)
  have hnx := ih (j + 1) (by omega) (by omega)
  obtain ⟨Q, hQ⟩ : ∃ Q : Option Value → AH → Prop, Q = fun r σ' => (lw = -1 ∧ r = some (.int (ii (-1))) ∧ σ' = σ) ∨ (lw ≠ -1 ∧ r = some (.int (ii (chI (chN pn bd lw k)))) ∧ σ' = τ) := ⟨_, rfl⟩
  rw [← hQ] at hnx ⊢
  have no : chN pn bd lw (j + 1) = chN pn bd lw j → G Γ miX10_chosen cX10_chosen Q noX 0 0 160 [some (.ref m), some (.int (ii bd)), some (.int (ii lw)), some (.int (ii (chI (chN pn bd lw j)))), some (.int (ii j))] [] τ := by
    intro q
    rw [q] at hnx
    refine g_iinc (L' := [_, _, _, _, _]) q_X10_chosen_160 rfl rfl ?_
    refine g_goto (tgt := 66) q_X10_chosen_163 (by decide) ?_
    exact hnx
  have yes : chN pn bd lw (j + 1) = some j → G Γ miX10_chosen cX10_chosen Q noX 0 0 157 [some (.ref m), some (.int (ii bd)), some (.int (ii lw)), some (.int (ii (chI (chN pn bd lw j)))), some (.int (ii j))] [] τ := by
    intro q
    rw [q] at hnx
    refine g_iload q_X10_chosen_157 rfl ?_
    refine g_istore_n (L' := [_, _, _, _, _]) q_X10_chosen_159 (by decide) rfl ?_
    refine g_iinc (L' := [_, _, _, _, _]) q_X10_chosen_160 rfl rfl ?_
    refine g_goto (tgt := 66) q_X10_chosen_163 (by decide) ?_
    exact hnx
  clear hnx ih
  refine g_aload_n q_X10_chosen_75 rfl ?_
  refine g_get fl_X10_95 q_X10_chosen_76 (by repeat first | with_reducible assumption | with_reducible exact hput_s _ _ _ | refine (hput_n _ _ (by omega)).trans ?_ | exact hput_s _ _ _ | assumption) rfl ?_
  refine g_iload q_X10_chosen_79 rfl ?_
  refine g_zaload q_X10_chosen_81 (by repeat first | with_reducible assumption | with_reducible exact hput_s _ _ _ | refine (hput_n _ _ (by omega)).trans ?_ | exact hput_s _ _ _ | assumption) (by omega) (by omega) ?_
  refine g_topi (b := bi (pSp (pn j))) (by exact r26) ?_
  refine g_if_ne (tgt := 160) q_X10_chosen_82 (by decide) (bi_rg _) (fun b4 => ?_) (fun b4 => ?_)
  · exact no (by rw [chN, if_neg (fun q => by rw [bi_t b4] at q; cases q.1)])
  have hs := bi_f (show bi (pSp (pn j)) = 0 by omega)
  refine g_bipush q_X10_chosen_85 bp_10 ?_
  refine g_aload_n q_X10_chosen_87 rfl ?_
  refine g_get fl_X10_74 q_X10_chosen_88 (by repeat first | with_reducible assumption | with_reducible exact hput_s _ _ _ | refine (hput_n _ _ (by omega)).trans ?_ | exact hput_s _ _ _ | assumption) rfl ?_
  refine g_iload q_X10_chosen_91 rfl ?_
  refine g_iaload q_X10_chosen_93 (by repeat first | with_reducible assumption | with_reducible exact hput_s _ _ _ | refine (hput_n _ _ (by omega)).trans ?_ | exact hput_s _ _ _ | assumption) (by omega) (by omega) ?_
  refine g_topi (b := pSu (pn j)) (by exact r19) ?_
  refine g_imul q_X10_chosen_94 ?_
  refine g_iload_n q_X10_chosen_95 rfl ?_
  refine g_iload_n q_X10_chosen_96 rfl ?_
  refine g_imul q_X10_chosen_97 ?_
  refine g_icmp_le (tgt := 104) q_X10_chosen_98 (by decide) ⟨by omega, by omega⟩ ⟨by omega, by omega⟩ (fun b5 => ?_) (fun b5 => ?_)
  case refine_2 =>
    refine g_goto (tgt := 160) q_X10_chosen_101 (by decide) ?_
    exact no (by rw [chN, if_neg (fun q => by have := q.2; omega)])
  cases hch : chN pn bd lw j with
  | none =>
    rw [hch] at yes no
    have y := yes (by rw [chN, if_pos ⟨hs, b5⟩, hch])
    refine g_iload_n q_X10_chosen_104 rfl ?_
    refine g_topi (b := (-1 : Int)) (by rfl) ?_
    refine g_iconst q_X10_chosen_105 ?_
    refine g_icmp_eq (tgt := 157) q_X10_chosen_106 (by decide) ⟨by omega, by omega⟩ ⟨by omega, by omega⟩ (fun b6 => ?_) (fun b6 => ?_)
    · exact y
    · exact absurd rfl b6
  | some b =>
    rw [hch] at yes no
    have hb := chN_lt hch
    obtain ⟨s19, s20, s26⟩ := hR b (by omega)
    have hob := hok b (by omega)
    have e1 : chN pn bd lw (j + 1) = if pCl (pn j) < pCl (pn b) ∨ pCl (pn j) = pCl (pn b) ∧ pSu (pn j) < pSu (pn b) then some j else some b := by rw [chN, if_pos ⟨hs, b5⟩, hch]
    refine g_iload_n q_X10_chosen_104 rfl ?_
    refine g_topi (b := (b : Int)) (by rfl) ?_
    refine g_iconst q_X10_chosen_105 ?_
    refine g_icmp_eq (tgt := 157) q_X10_chosen_106 (by decide) ⟨by omega, by omega⟩ ⟨by omega, by omega⟩ (fun b6 => ?_) (fun b6 => ?_)
    · exact absurd b6 (by omega)
    refine g_aload_n q_X10_chosen_109 rfl ?_
    refine g_get fl_X10_77 q_X10_chosen_110 (by repeat first | with_reducible assumption | with_reducible exact hput_s _ _ _ | refine (hput_n _ _ (by omega)).trans ?_ | exact hput_s _ _ _ | assumption) rfl ?_
    refine g_iload q_X10_chosen_113 rfl ?_
    refine g_iaload q_X10_chosen_115 (by repeat first | with_reducible assumption | with_reducible exact hput_s _ _ _ | refine (hput_n _ _ (by omega)).trans ?_ | exact hput_s _ _ _ | assumption) (by omega) (by omega) ?_
    refine g_topi (b := pCl (pn j)) (by exact r20) ?_
    refine g_aload_n q_X10_chosen_116 rfl ?_
    refine g_get fl_X10_77 q_X10_chosen_117 (by repeat first | with_reducible assumption | with_reducible exact hput_s _ _ _ | refine (hput_n _ _ (by omega)).trans ?_ | exact hput_s _ _ _ | assumption) rfl ?_
    refine g_iload_n q_X10_chosen_120 rfl ?_
    refine g_topi (b := (b : Int)) (by rfl) ?_
    refine g_iaload q_X10_chosen_121 (by repeat first | with_reducible assumption | with_reducible exact hput_s _ _ _ | refine (hput_n _ _ (by omega)).trans ?_ | exact hput_s _ _ _ | assumption) (by omega) (by omega) ?_
    refine g_topi (b := pCl (pn b)) (by exact s20) ?_
    refine g_icmp_lt (tgt := 157) q_X10_chosen_122 (by decide) ⟨by omega, by omega⟩ ⟨by omega, by omega⟩ (fun b7 => ?_) (fun b7 => ?_)
    · exact yes (by rw [e1, if_pos (Or.inl b7)])
    refine g_aload_n q_X10_chosen_125 rfl ?_
    refine g_get fl_X10_77 q_X10_chosen_126 (by repeat first | with_reducible assumption | with_reducible exact hput_s _ _ _ | refine (hput_n _ _ (by omega)).trans ?_ | exact hput_s _ _ _ | assumption) rfl ?_
    refine g_iload q_X10_chosen_129 rfl ?_
    refine g_iaload q_X10_chosen_131 (by repeat first | with_reducible assumption | with_reducible exact hput_s _ _ _ | refine (hput_n _ _ (by omega)).trans ?_ | exact hput_s _ _ _ | assumption) (by omega) (by omega) ?_
    refine g_topi (b := pCl (pn j)) (by exact r20) ?_
    refine g_aload_n q_X10_chosen_132 rfl ?_
    refine g_get fl_X10_77 q_X10_chosen_133 (by repeat first | with_reducible assumption | with_reducible exact hput_s _ _ _ | refine (hput_n _ _ (by omega)).trans ?_ | exact hput_s _ _ _ | assumption) rfl ?_
    refine g_iload_n q_X10_chosen_136 rfl ?_
    refine g_topi (b := (b : Int)) (by rfl) ?_
    refine g_iaload q_X10_chosen_137 (by repeat first | with_reducible assumption | with_reducible exact hput_s _ _ _ | refine (hput_n _ _ (by omega)).trans ?_ | exact hput_s _ _ _ | assumption) (by omega) (by omega) ?_
    refine g_topi (b := pCl (pn b)) (by exact s20) ?_
    refine g_icmp_ne (tgt := 160) q_X10_chosen_138 (by decide) ⟨by omega, by omega⟩ ⟨by omega, by omega⟩ (fun b8 => ?_) (fun b8 => ?_)
    · exact no (by rw [e1, if_neg (by omega)])
    refine g_aload_n q_X10_chosen_141 rfl ?_
    refine g_get fl_X10_74 q_X10_chosen_142 (by repeat first | with_reducible assumption | with_reducible exact hput_s _ _ _ | refine (hput_n _ _ (by omega)).trans ?_ | exact hput_s _ _ _ | assumption) rfl ?_
    refine g_iload q_X10_chosen_145 rfl ?_
    refine g_iaload q_X10_chosen_147 (by repeat first | with_reducible assumption | with_reducible exact hput_s _ _ _ | refine (hput_n _ _ (by omega)).trans ?_ | exact hput_s _ _ _ | assumption) (by omega) (by omega) ?_
    refine g_topi (b := pSu (pn j)) (by exact r19) ?_
    refine g_aload_n q_X10_chosen_148 rfl ?_
    refine g_get fl_X10_74 q_X10_chosen_149 (by repeat first | with_reducible assumption | with_reducible exact hput_s _ _ _ | refine (hput_n _ _ (by omega)).trans ?_ | exact hput_s _ _ _ | assumption) rfl ?_
    refine g_iload_n q_X10_chosen_152 rfl ?_
    refine g_topi (b := (b : Int)) (by rfl) ?_
    refine g_iaload q_X10_chosen_153 (by repeat first | with_reducible assumption | with_reducible exact hput_s _ _ _ | refine (hput_n _ _ (by omega)).trans ?_ | exact hput_s _ _ _ | assumption) (by omega) (by omega) ?_
    refine g_topi (b := pSu (pn b)) (by exact s19) ?_
    refine g_icmp_ge (tgt := 160) q_X10_chosen_154 (by decide) ⟨by omega, by omega⟩ ⟨by omega, by omega⟩ (fun b9 => ?_) (fun b9 => ?_)
    · exact no (by rw [e1, if_neg (by omega)])
    · exact yes (by rw [e1, if_pos (by omega)])
end CHS

