/-! TextReader: append, isToldName -/
/-- the j-th octet of a number, the highest first -/
def oct (z : Int) (j : Nat) : Int := (((ii z).toUInt32.toNat / 2 ^ (24 - 8 * j) % 256 : Nat) : Int)
theorem oct_rg (z : Int) (j : Nat) : 0 ≤ oct z j ∧ oct z j < 256 := by
  unfold oct
  omega
theorem and255 (x : Int32) (n : Nat) (h : x.toBitVec.toNat = n) : x &&& ii 255 = ii ((n % 256 : Nat) : Int) := by
  have e1 : (ii 255).toBitVec = 255#32 := by decide
  refine Int32.toBitVec_inj.mp (BitVec.eq_of_toNat_eq ?_)
  rw [Int32.toBitVec_and, e1, BitVec.toNat_and, h]
  have e2 : n &&& (255#32).toNat = n % 256 := by
    have := Nat.and_two_pow_sub_one_eq_mod n 8
    exact this
  rw [e2]
  show _ = (ii ((n % 256 : Nat) : Int)).toBitVec.toNat
  unfold ii
  simp
  omega
theorem oct_u (z : Int) : ∀ j : Fin 4, ((ii z).toUInt32 >>> ((ii ((24 - 8 * (j : Nat) : Nat) : Int)).toUInt32 &&& Int32.toUInt32 31)).toInt32 &&& ii 255 = ii (oct z j) := by
  intro j
  unfold oct
  refine and255 _ _ ?_
  have key : ∀ (a b : UInt32) (k : Nat), b.toNat % 32 = k → (a >>> b).toInt32.toBitVec.toNat = a.toNat / 2 ^ k := fun a b k h => by
    show (a >>> b).toNat = _
    rw [UInt32.toNat_shiftRight, h, Nat.shiftRight_eq_div_pow]
  have hs : ∀ j : Fin 4, ((ii ((24 - 8 * (j : Nat) : Nat) : Int)).toUInt32 &&& Int32.toUInt32 31).toNat % 32 = 24 - 8 * (j : Nat) := by decide
  exact key _ _ _ (hs j)
/-- the text with the octets of z up to the j-th behind it, as far as there is room -/
def apT (tx : Nat → Int) (len : Nat) (z : Int) (j : Nat) : Nat → Int := fun k => if len ≤ k ∧ k < len + j then oct z (k - len) else tx k
theorem apT_up (tx : Nat → Int) (len : Nat) (z : Int) (j : Nat) : va_up (apT tx len z j) (len + j) (oct z j) = apT tx len z (j + 1) := by
  funext k
  unfold va_up apT
  by_cases h : k = len + j
  · rw [if_pos h, if_pos (by omega), h, show len + j - len = j by omega]
  · rw [if_neg h]
    by_cases h2 : len ≤ k ∧ k < len + j
    · rw [if_pos h2, if_pos (by omega)]
    · rw [if_neg h2, if_neg (by omega)]
section TX3
variable {Γ : GT} {σ : AH} {r len pos ws : Nat} {fa : Int} {tx : Nat → Int}
theorem sp_append (hΓ : Gd Γ) (h0 : σ.2 r = some (rdo r len pos fa ws)) (h1 : σ.2 (r + 1) = some (ai 400 tx)) (hl : len + 4 ≤ 400) (z : Int) : Sp Γ miX5_append 0 0 [.ref r, .int (ii z)] σ (rv (hput (hput σ r (rdo r (len + 4) pos fa ws)) (r + 1) (ai 400 (apT tx len z 4)))) noX := by
  refine Sp_of (L := [_, _, _]) hΓ (by decide +kernel) rfl (Nat.le_of_ble_eq_true rfl) rfl ?_
  refine g_bipush q_X5_append_0 bp_24 ?_
  refine g_istore_n (L' := [_, _, _]) q_X5_append_2 (by decide) rfl ?_
  refine g_loop2 (fun (j : Nat) (τ : AH) => j ≤ 4 ∧ eqOff σ τ (fun a => a = r ∨ a = r + 1) ∧ τ.2 r = some (rdo r (len + j) pos fa ws) ∧ τ.2 (r + 1) = some (ai 400 (apT tx len z j))) (fun j τ => G Γ _ cX5_append _ _ 0 0 3 [some (.ref r), some (.int (ii z)), some (.int (ii (24 - 8 * (j : Int))))] [] τ) (fun j _ => 4 - j) ?_ 0 σ ⟨by decide, eqOff.rfl', h0, by rw [h1]; congr 2; funext k; unfold apT; rw [if_neg (by omega)]⟩
  intro j τ ⟨hj, hE, k0, k1⟩ ih
  refine g_iload_n q_X5_append_3 rfl ?_
  refine g_if_lt (tgt := 49) q_X5_append_4 (by decide) ⟨by omega, by omega⟩ (fun e1 => ?_) (fun e1 => ?_)
  · have hj4 : j = 4 := by omega
    subst hj4
    refine g_return q_X5_append_49.1 rfl ?_
    refine ⟨rfl, ?_⟩
    refine Prod.ext hE.1 (funext fun b => ?_)
    by_cases q : b = r + 1
    · rw [q, k1]; exact (hput_s _ _ _).symm
    · by_cases q2 : b = r
      · rw [q2, k0]; exact ((hput_n _ _ (by omega)).trans (hput_s _ _ _)).symm
      · rw [hE.2 b (fun z => z.elim q2 q)]; exact ((hput_n _ _ q).trans (hput_n _ _ q2)).symm
  · have hj3 : j < 4 := by omega
    refine g_aload_n q_X5_append_7 rfl ?_
    refine g_get fl_X5_15 q_X5_append_8 (by repeat first | with_reducible assumption | with_reducible exact hput_s _ _ _ | refine (hput_n _ _ (by omega)).trans ?_ | exact hput_s _ _ _ | assumption) rfl ?_
    refine g_sipush q_X5_append_11 sp_400 ?_
    refine g_icmp_ge (tgt := 49) q_X5_append_14 (by decide) ⟨by omega, by omega⟩ ⟨by omega, by omega⟩ (fun e2 => ?_) (fun e2 => ?_)
    · exact absurd e2 (by omega)
    refine g_aload_n q_X5_append_17 rfl ?_
    refine g_get fl_X5_9 q_X5_append_18 (by repeat first | with_reducible assumption | with_reducible exact hput_s _ _ _ | refine (hput_n _ _ (by omega)).trans ?_ | exact hput_s _ _ _ | assumption) rfl ?_
    refine g_aload_n q_X5_append_21 rfl ?_
    refine g_get fl_X5_15 q_X5_append_22 (by repeat first | with_reducible assumption | with_reducible exact hput_s _ _ _ | refine (hput_n _ _ (by omega)).trans ?_ | exact hput_s _ _ _ | assumption) rfl ?_
    refine g_iload_n q_X5_append_25 rfl ?_
    refine g_iload_n q_X5_append_26 rfl ?_
    refine g_iushr q_X5_append_27 ?_
    refine g_sipush q_X5_append_28 sp_255 ?_
    refine g_iand q_X5_append_31 ?_
    refine g_top (v' := .int (ii (oct z j))) (by rw [show (24 - 8 * (j : Int)) = ((24 - 8 * j : Nat) : Int) by omega]; exact congrArg Value.int (oct_u z ⟨j, hj3⟩)) ?_
    refine g_iastore q_X5_append_32 (by repeat first | with_reducible assumption | with_reducible exact hput_s _ _ _ | refine (hput_n _ _ (by omega)).trans ?_ | exact hput_s _ _ _ | assumption) (by omega) (by omega) ?_
    refine g_aload_n q_X5_append_33 rfl ?_
    refine g_dup q_X5_append_34 rfl ?_
    refine g_get fl_X5_15 q_X5_append_35 (by repeat first | with_reducible assumption | with_reducible exact hput_s _ _ _ | refine (hput_n _ _ (by omega)).trans ?_ | exact hput_s _ _ _ | assumption) rfl ?_
    refine g_iconst q_X5_append_38 ?_
    refine g_iadd q_X5_append_39 ?_
    refine g_put fp_X5_15 q_X5_append_40 (by repeat first | with_reducible assumption | with_reducible exact hput_s _ _ _ | refine (hput_n _ _ (by omega)).trans ?_ | exact hput_s _ _ _ | assumption) rfl rfl ?_
    refine g_iinc (L' := [_, _, _]) q_X5_append_43 rfl rfl ?_
    refine g_goto (tgt := 3) q_X5_append_46 (by decide) ?_
    rw [show 24 - 8 * (j : Int) + -8 = 24 - 8 * ((j + 1 : Nat) : Int) by omega]
    refine ih (j + 1) _ ⟨by omega, (hE.put (Or.inr rfl) _).put (Or.inl rfl) _, hput_s _ _ _, ?_⟩ (by omega)
    refine (hput_n _ _ (by omega)).trans ((hput_s _ _ _).trans ?_)
    rw [← apT_up]
    rfl
/-- the cart k has the name that lies in the text from ws on, so long -/
def sameN (NL LE tx : Nat → Int) (ws m k : Nat) : Bool := decide (NL k = m) && decide (∀ j, j < m → LE (6 * k + j) = tx (ws + j))
theorem sp_isToldName (hΓ : Gd Γ) {cols rows carts : Nat} {NL LE : Nat → Int} (h0 : σ.2 r = some (rdo r len pos fa ws)) (h1 : σ.2 (r + 1) = some (ai 400 tx)) (oX : okX tx) (hl : len ≤ 400) (hp : ws ≤ pos ∧ pos ≤ len) (hg : σ.2 (r + 2) = some (sco (r + 2) cols rows carts)) (hg4 : σ.2 (r + 2 + 4) = some (ai 30 LE)) (hg5 : σ.2 (r + 2 + 5) = some (ai 5 NL)) (oL : ∀ k, rg (LE k)) (oN : ∀ k, 0 ≤ NL k ∧ NL k ≤ 6) (hn : carts ≤ 5) : Sp Γ miX5_isToldName 0 0 [.ref r] σ (rb (decide (∃ k, k < carts ∧ sameN NL LE tx ws (pos - ws) k = true)) σ) noX := by
  obtain ⟨m, hm⟩ : ∃ m, m = pos - ws := ⟨_, rfl⟩
  rw [← hm]
  refine Sp_of (L := [_, _, _, _]) hΓ (by decide +kernel) rfl (Nat.le_of_ble_eq_true rfl) rfl ?_
  refine g_iconst q_X5_isToldName_0 ?_
  refine g_istore_n (L' := [_, _, _, _]) q_X5_isToldName_1 (by decide) rfl ?_
  refine g_loop (fun k => k ≤ carts ∧ ∀ i, i < k → sameN NL LE tx ws m i = false) (fun k : Nat => G Γ _ cX5_isToldName _ _ 0 0 2 [some (.ref r), some (.int (ii k)), none, none] [] σ) (fun k => carts - k) ?_ 0 ⟨Nat.zero_le _, fun i hi => absurd hi (Nat.not_lt_zero i)⟩
  intro k ⟨hk, hno⟩ ih
  refine g_iload_n q_X5_isToldName_2 rfl ?_
  refine g_aload_n q_X5_isToldName_3 rfl ?_
  refine g_get fl_X5_31 q_X5_isToldName_4 (by repeat first | with_reducible assumption | with_reducible exact hput_s _ _ _ | refine (hput_n _ _ (by omega)).trans ?_ | exact hput_s _ _ _ | assumption) rfl ?_
  refine g_get fl_X5_57 q_X5_isToldName_7 (by repeat first | with_reducible assumption | with_reducible exact hput_s _ _ _ | refine (hput_n _ _ (by omega)).trans ?_ | exact hput_s _ _ _ | assumption) rfl ?_
  refine g_icmp_ge (tgt := 111) q_X5_isToldName_10 (by decide) ⟨by omega, by omega⟩ ⟨by omega, by omega⟩ (fun e1 => ?_) (fun e1 => ?_)
  · have e : k = carts := by omega
    subst e
    rw [show decide (∃ i, i < k ∧ sameN NL LE tx ws m i = true) = false from decide_eq_false (fun ⟨i, hi, hs⟩ => by rw [hno i hi] at hs; cases hs)]
    refine g_iconst q_X5_isToldName_111 ?_
    refine g_zreturn q_X5_isToldName_112.1 rfl (by first | exact Or.inl rfl | exact Or.inr rfl | omega) ?_
    exact ⟨rfl, rfl⟩
  have hNk := oN k
  have next : sameN NL LE tx ws m k = false → ∀ y, G Γ miX5_isToldName cX5_isToldName (rb (decide (∃ k, k < carts ∧ sameN NL LE tx ws m k = true)) σ) noX 0 0 105 [some (.ref r), some (.int (ii k)), some (.int (ii 0)), y] [] σ := by
    intro hs y
    have hnx := ih (k + 1) ⟨by omega, fun i hi => by
      by_cases q : i = k
      · rw [q]; exact hs
      · exact hno i (by omega)⟩ (by omega)
    refine g_fl (L2 := [some (.ref r), some (.int (ii k)), none, none]) ?_ ⟨rfl, rfl, trivial⟩
    refine g_iinc (L' := [_, _, _, _]) q_X5_isToldName_105 rfl rfl ?_
    refine g_goto (tgt := 2) q_X5_isToldName_108 (by decide) ?_
    exact hnx
  have lost : sameN NL LE tx ws m k = false → ∀ y, G Γ miX5_isToldName cX5_isToldName (rb (decide (∃ k, k < carts ∧ sameN NL LE tx ws m k = true)) σ) noX 0 0 99 [some (.ref r), some (.int (ii k)), some (.int (ii 0)), y] [] σ := by
    intro hs y
    refine g_fl (L2 := [some (.ref r), some (.int (ii k)), some (.int (ii 0)), none]) ?_ ⟨rfl, rfl, rfl, trivial⟩
    refine g_iload_n q_X5_isToldName_99 rfl ?_
    refine g_if_eq (tgt := 105) q_X5_isToldName_100 (by decide) ⟨by omega, by omega⟩ (fun z1 => ?_) (fun z1 => ?_)
    · exact next hs _
    · exact absurd rfl z1
  have hend : G Γ miX5_isToldName cX5_isToldName (rb (decide (∃ k, k < carts ∧ sameN NL LE tx ws m k = true)) σ) noX 0 0 40 [some (.ref r), some (.int (ii k)), some (.int (ii (bi (decide (NL k = m))))), none] [] σ := by
    by_cases hm9 : NL k = m
    · rw [decide_eq_true hm9]
      refine g_iconst q_X5_isToldName_40 ?_
      refine g_istore_n (L' := [_, _, _, _]) q_X5_isToldName_41 (by decide) rfl ?_
      refine g_loop (fun j => j ≤ m ∧ ∀ i, i < j → LE (6 * k + i) = tx (ws + i)) (fun j : Nat => G Γ _ cX5_isToldName _ _ 0 0 42 [some (.ref r), some (.int (ii k)), some (.int (ii 1)), some (.int (ii j))] [] σ) (fun j => m - j) ?_ 0 ⟨Nat.zero_le _, fun i hi => absurd hi (Nat.not_lt_zero i)⟩
      intro j ⟨hj, heq⟩ ih2
      refine g_iload_n q_X5_isToldName_42 rfl ?_
      refine g_if_eq (tgt := 99) q_X5_isToldName_43 (by decide) ⟨by omega, by omega⟩ (fun z1 => ?_) (fun z1 => ?_)
      · exact absurd z1 (by decide)
      refine g_iload_n q_X5_isToldName_46 rfl ?_
      refine g_aload_n q_X5_isToldName_47 rfl ?_
      refine g_get fl_X5_31 q_X5_isToldName_48 (by repeat first | with_reducible assumption | with_reducible exact hput_s _ _ _ | refine (hput_n _ _ (by omega)).trans ?_ | exact hput_s _ _ _ | assumption) rfl ?_
      refine g_get fl_X5_122 q_X5_isToldName_51 (by repeat first | with_reducible assumption | with_reducible exact hput_s _ _ _ | refine (hput_n _ _ (by omega)).trans ?_ | exact hput_s _ _ _ | assumption) rfl ?_
      refine g_iload_n q_X5_isToldName_54 rfl ?_
      refine g_iaload q_X5_isToldName_55 (by repeat first | with_reducible assumption | with_reducible exact hput_s _ _ _ | refine (hput_n _ _ (by omega)).trans ?_ | exact hput_s _ _ _ | assumption) (by omega) (by omega) ?_
      refine g_topi (b := NL k) rfl ?_
      refine g_icmp_ge (tgt := 99) q_X5_isToldName_56 (by decide) ⟨by omega, by omega⟩ ⟨by omega, by omega⟩ (fun z2 => ?_) (fun z2 => ?_)
      · have hjm : j = m := by omega
        subst hjm
        rw [show decide (∃ i, i < carts ∧ sameN NL LE tx ws j i = true) = true from decide_eq_true ⟨k, by omega, by unfold sameN; rw [decide_eq_true hm9, decide_eq_true heq]; rfl⟩]
        refine g_iload_n q_X5_isToldName_99 rfl ?_
        refine g_if_eq (tgt := 105) q_X5_isToldName_100 (by decide) ⟨by omega, by omega⟩ (fun z3 => ?_) (fun z3 => ?_)
        · exact absurd z3 (by decide)
        · refine g_iconst q_X5_isToldName_103 ?_
          refine g_zreturn q_X5_isToldName_104.1 rfl (by first | exact Or.inl rfl | exact Or.inr rfl | omega) ?_
          exact ⟨rfl, rfl⟩
      have hLj := oL (6 * k + j)
      have hxj := oX (ws + j)
      refine g_aload_n q_X5_isToldName_59 rfl ?_
      refine g_get fl_X5_31 q_X5_isToldName_60 (by repeat first | with_reducible assumption | with_reducible exact hput_s _ _ _ | refine (hput_n _ _ (by omega)).trans ?_ | exact hput_s _ _ _ | assumption) rfl ?_
      refine g_get fl_X5_119 q_X5_isToldName_63 (by repeat first | with_reducible assumption | with_reducible exact hput_s _ _ _ | refine (hput_n _ _ (by omega)).trans ?_ | exact hput_s _ _ _ | assumption) rfl ?_
      refine g_bipush q_X5_isToldName_66 bp_6 ?_
      refine g_iload_n q_X5_isToldName_68 rfl ?_
      refine g_imul q_X5_isToldName_69 ?_
      refine g_iload_n q_X5_isToldName_70 rfl ?_
      refine g_iadd q_X5_isToldName_71 ?_
      refine g_iaload q_X5_isToldName_72 (by repeat first | with_reducible assumption | with_reducible exact hput_s _ _ _ | refine (hput_n _ _ (by omega)).trans ?_ | exact hput_s _ _ _ | assumption) (by omega) (by omega) ?_
      refine g_topi (b := LE (6 * k + j)) rfl ?_
      refine g_aload_n q_X5_isToldName_73 rfl ?_
      refine g_get fl_X5_9 q_X5_isToldName_74 (by repeat first | with_reducible assumption | with_reducible exact hput_s _ _ _ | refine (hput_n _ _ (by omega)).trans ?_ | exact hput_s _ _ _ | assumption) rfl ?_
      refine g_aload_n q_X5_isToldName_77 rfl ?_
      refine g_get fl_X5_25 q_X5_isToldName_78 (by repeat first | with_reducible assumption | with_reducible exact hput_s _ _ _ | refine (hput_n _ _ (by omega)).trans ?_ | exact hput_s _ _ _ | assumption) rfl ?_
      refine g_iload_n q_X5_isToldName_81 rfl ?_
      refine g_iadd q_X5_isToldName_82 ?_
      refine g_iaload q_X5_isToldName_83 (by repeat first | with_reducible assumption | with_reducible exact hput_s _ _ _ | refine (hput_n _ _ (by omega)).trans ?_ | exact hput_s _ _ _ | assumption) (by omega) (by omega) ?_
      refine g_topi (b := tx (ws + j)) rfl ?_
      refine g_icmp_ne (tgt := 91) q_X5_isToldName_84 (by decide) hLj ⟨by omega, by omega⟩ (fun z4 => ?_) (fun z4 => ?_)
      · refine g_iconst q_X5_isToldName_91 ?_
        refine g_istore_n (L' := [_, _, _, _]) q_X5_isToldName_92 (by decide) rfl ?_
        refine g_iinc (L' := [_, _, _, _]) q_X5_isToldName_93 rfl rfl ?_
        refine g_goto (tgt := 42) q_X5_isToldName_96 (by decide) ?_
        refine g_iload_n q_X5_isToldName_42 rfl ?_
        refine g_if_eq (tgt := 99) q_X5_isToldName_43 (by decide) ⟨by omega, by omega⟩ (fun z5 => ?_) (fun z5 => ?_)
        · exact lost (by unfold sameN; rw [show decide (∀ i, i < m → LE (6 * k + i) = tx (ws + i)) = false from decide_eq_false (fun q => z4 (q j (by omega)))]; exact Bool.and_false _) _
        · exact absurd rfl z5
      · refine g_iconst q_X5_isToldName_87 ?_
        refine g_goto (tgt := 92) q_X5_isToldName_88 (by decide) ?_
        refine g_istore_n (L' := [_, _, _, _]) q_X5_isToldName_92 (by decide) rfl ?_
        refine g_iinc (L' := [_, _, _, _]) q_X5_isToldName_93 rfl rfl ?_
        refine g_goto (tgt := 42) q_X5_isToldName_96 (by decide) ?_
        refine ih2 (j + 1) ⟨by omega, fun i hi => ?_⟩ (by omega)
        by_cases q : i = j
        · rw [q]; exact z4
        · exact heq i (by omega)
    · rw [decide_eq_false hm9]
      refine g_iconst q_X5_isToldName_40 ?_
      refine g_istore_n (L' := [_, _, _, _]) q_X5_isToldName_41 (by decide) rfl ?_
      refine g_iload_n q_X5_isToldName_42 rfl ?_
      refine g_if_eq (tgt := 99) q_X5_isToldName_43 (by decide) (bi_rg _) (fun z1 => ?_) (fun z1 => ?_)
      · exact lost (by unfold sameN; rw [decide_eq_false hm9]; rfl) _
      · exact absurd rfl z1
  refine g_aload_n q_X5_isToldName_13 rfl ?_
  refine g_get fl_X5_31 q_X5_isToldName_14 (by repeat first | with_reducible assumption | with_reducible exact hput_s _ _ _ | refine (hput_n _ _ (by omega)).trans ?_ | exact hput_s _ _ _ | assumption) rfl ?_
  refine g_get fl_X5_122 q_X5_isToldName_17 (by repeat first | with_reducible assumption | with_reducible exact hput_s _ _ _ | refine (hput_n _ _ (by omega)).trans ?_ | exact hput_s _ _ _ | assumption) rfl ?_
  refine g_iload_n q_X5_isToldName_20 rfl ?_
  refine g_iaload q_X5_isToldName_21 (by repeat first | with_reducible assumption | with_reducible exact hput_s _ _ _ | refine (hput_n _ _ (by omega)).trans ?_ | exact hput_s _ _ _ | assumption) (by omega) (by omega) ?_
  refine g_topi (b := NL k) rfl ?_
  refine g_aload_n q_X5_isToldName_22 rfl ?_
  refine g_get fl_X5_19 q_X5_isToldName_23 (by repeat first | with_reducible assumption | with_reducible exact hput_s _ _ _ | refine (hput_n _ _ (by omega)).trans ?_ | exact hput_s _ _ _ | assumption) rfl ?_
  refine g_aload_n q_X5_isToldName_26 rfl ?_
  refine g_get fl_X5_25 q_X5_isToldName_27 (by repeat first | with_reducible assumption | with_reducible exact hput_s _ _ _ | refine (hput_n _ _ (by omega)).trans ?_ | exact hput_s _ _ _ | assumption) rfl ?_
  refine g_isub q_X5_isToldName_30 ?_
  refine g_icmp_ne (tgt := 38) q_X5_isToldName_31 (by decide) ⟨by omega, by omega⟩ ⟨by omega, by omega⟩ (fun e2 => ?_) (fun e2 => ?_)
  · rw [show decide (NL k = (m : Int)) = false from decide_eq_false (by omega)] at hend
    refine g_iconst q_X5_isToldName_38 ?_
    refine g_istore_n (L' := [_, _, _, _]) q_X5_isToldName_39 (by decide) rfl ?_
    exact hend
  · rw [show decide (NL k = (m : Int)) = true from decide_eq_true (by omega)] at hend
    refine g_iconst q_X5_isToldName_34 ?_
    refine g_goto (tgt := 39) q_X5_isToldName_35 (by decide) ?_
    refine g_istore_n (L' := [_, _, _, _]) q_X5_isToldName_39 (by decide) rfl ?_
    exact hend
end TX3

