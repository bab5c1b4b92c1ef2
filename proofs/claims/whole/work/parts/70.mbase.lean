/-! the reference: object m, its scalars by their field, its rows behind it (written by gen70.py) -/
def mfl (m : Nat) (I : Nat → Int) : List Value := [.int (ii (I 0)), .ref (m + 1), .int (ii (I 2)), .int (ii (I 3)), .int (ii (I 4)), .int (ii (I 5)), .int (ii (I 6)), .int (ii (I 7)), .int (ii (I 8)), .ref (m + 2), .ref (m + 3), .ref (m + 4), .ref (m + 5), .int (ii (I 13)), .int (ii (I 14)), .int (ii (I 15)), .ref (m + 6), .ref (m + 7), .ref (m + 8), .ref (m + 9), .int (ii (I 20)), .ref (m + 10), .ref (m + 11), .ref (m + 12), .ref (m + 13), .ref (m + 14), .ref (m + 15), .ref (m + 16), .int (ii (I 28)), .int (ii (I 29)), .int (ii (I 30)), .int (ii (I 31)), .ref (m + 17), .int (ii (I 33)), .int (ii (I 34)), .int (ii (I 35)), .int (ii (I 36)), .int (ii (I 37)), .int (ii (I 38)), .ref (m + 18), .ref (m + 19), .ref (m + 20), .ref (m + 21), .ref (m + 22), .ref (m + 23), .ref (m + 24), .ref (m + 25), .ref (m + 26), .ref (m + 27), .ref (m + 28), .ref (m + 29), .ref (m + 30), .ref (m + 31), .ref (m + 32), .ref (m + 33), .int (ii (I 55))]
abbrev mdo (m : Nat) (I : Nat → Int) : AE := ob 10 (mfl m I)
theorem mset_0 {m : Nat} {I : Nat → Int} {v : Int} : (mfl m I).set 0 (.int (ii v)) = mfl m (va_up I 0 v) := rfl
theorem mset_2 {m : Nat} {I : Nat → Int} {v : Int} : (mfl m I).set 2 (.int (ii v)) = mfl m (va_up I 2 v) := rfl
theorem mset_3 {m : Nat} {I : Nat → Int} {v : Int} : (mfl m I).set 3 (.int (ii v)) = mfl m (va_up I 3 v) := rfl
theorem mset_4 {m : Nat} {I : Nat → Int} {v : Int} : (mfl m I).set 4 (.int (ii v)) = mfl m (va_up I 4 v) := rfl
theorem mset_5 {m : Nat} {I : Nat → Int} {v : Int} : (mfl m I).set 5 (.int (ii v)) = mfl m (va_up I 5 v) := rfl
theorem mset_6 {m : Nat} {I : Nat → Int} {v : Int} : (mfl m I).set 6 (.int (ii v)) = mfl m (va_up I 6 v) := rfl
theorem mset_7 {m : Nat} {I : Nat → Int} {v : Int} : (mfl m I).set 7 (.int (ii v)) = mfl m (va_up I 7 v) := rfl
theorem mset_8 {m : Nat} {I : Nat → Int} {v : Int} : (mfl m I).set 8 (.int (ii v)) = mfl m (va_up I 8 v) := rfl
theorem mset_13 {m : Nat} {I : Nat → Int} {v : Int} : (mfl m I).set 13 (.int (ii v)) = mfl m (va_up I 13 v) := rfl
theorem mset_14 {m : Nat} {I : Nat → Int} {v : Int} : (mfl m I).set 14 (.int (ii v)) = mfl m (va_up I 14 v) := rfl
theorem mset_15 {m : Nat} {I : Nat → Int} {v : Int} : (mfl m I).set 15 (.int (ii v)) = mfl m (va_up I 15 v) := rfl
theorem mset_20 {m : Nat} {I : Nat → Int} {v : Int} : (mfl m I).set 20 (.int (ii v)) = mfl m (va_up I 20 v) := rfl
theorem mset_28 {m : Nat} {I : Nat → Int} {v : Int} : (mfl m I).set 28 (.int (ii v)) = mfl m (va_up I 28 v) := rfl
theorem mset_29 {m : Nat} {I : Nat → Int} {v : Int} : (mfl m I).set 29 (.int (ii v)) = mfl m (va_up I 29 v) := rfl
theorem mset_30 {m : Nat} {I : Nat → Int} {v : Int} : (mfl m I).set 30 (.int (ii v)) = mfl m (va_up I 30 v) := rfl
theorem mset_31 {m : Nat} {I : Nat → Int} {v : Int} : (mfl m I).set 31 (.int (ii v)) = mfl m (va_up I 31 v) := rfl
theorem mset_33 {m : Nat} {I : Nat → Int} {v : Int} : (mfl m I).set 33 (.int (ii v)) = mfl m (va_up I 33 v) := rfl
theorem mset_34 {m : Nat} {I : Nat → Int} {v : Int} : (mfl m I).set 34 (.int (ii v)) = mfl m (va_up I 34 v) := rfl
theorem mset_35 {m : Nat} {I : Nat → Int} {v : Int} : (mfl m I).set 35 (.int (ii v)) = mfl m (va_up I 35 v) := rfl
theorem mset_36 {m : Nat} {I : Nat → Int} {v : Int} : (mfl m I).set 36 (.int (ii v)) = mfl m (va_up I 36 v) := rfl
theorem mset_37 {m : Nat} {I : Nat → Int} {v : Int} : (mfl m I).set 37 (.int (ii v)) = mfl m (va_up I 37 v) := rfl
theorem mset_38 {m : Nat} {I : Nat → Int} {v : Int} : (mfl m I).set 38 (.int (ii v)) = mfl m (va_up I 38 v) := rfl
theorem mset_55 {m : Nat} {I : Nat → Int} {v : Int} : (mfl m I).set 55 (.int (ii v)) = mfl m (va_up I 55 v) := rfl
theorem g_putM {Γ : GT} {mi : MI} {cc : ByteArray} {Q : Option Value → AH → Prop} {QX : String → AH → Prop} {rc rs pc pc' idx k m : Nat} {L : List (Option Value)} {S : List Value} {σ : AH} {I : Nat → Int} {v : Int} {t : FieldType} (fp : FP mi.1.cls idx 10 k t false) (d : De cc pc (.putfield idx) 3 pc') (hcell : σ.2 m = some (mdo m I)) (hn : narrow t (.int (ii v)) = .int (ii v)) (hf : fits t (.int (ii v)) = true) (hs : (mfl m I).set k (.int (ii v)) = mfl m (va_up I k v)) (kk : G Γ mi cc Q QX rc rs pc' L S (hput σ m (mdo m (va_up I k v)))) : G Γ mi cc Q QX rc rs pc L (.int (ii v) :: .ref m :: S) σ :=
  g_put fp d hcell hn hf (by rw [hs]; exact kk)
theorem va_ne {α : Type} {f : Nat → α} {i j : Nat} {x : α} (h : j ≠ i) : va_up f i x j = f j := if_neg h
theorem va_eq {α : Type} {f : Nat → α} {i : Nat} {x : α} : va_up f i x i = x := if_pos rfl
section MB
variable {Γ : GT} {σ : AH} {m : Nat} {I : Nat → Int}
theorem sp_isIn (hΓ : Gd Γ) (v a b : Int) (hv : rg v) (ha : rg a) (hb : rg b) : Sp Γ miX10_isIn 0 0 [.int (ii v), .int (ii a), .int (ii b)] σ (rb (decide (a ≤ v ∧ v ≤ b)) σ) noX := by
  refine Sp_of (L := [_, _, _]) hΓ (by decide +kernel) rfl (Nat.le_of_ble_eq_true rfl) rfl ?_
  refine g_iload_n q_X10_isIn_0 rfl ?_
  refine g_iload_n q_X10_isIn_1 rfl ?_
  refine g_icmp_lt (tgt := 14) q_X10_isIn_2 (by decide) hv ha (fun e1 => ?_) (fun e1 => ?_)
  · refine g_iconst q_X10_isIn_14 ?_
    refine g_zreturn q_X10_isIn_15.1 rfl (by first | exact Or.inl rfl | exact Or.inr rfl | omega) ?_
    rw [decide_eq_false (by omega)]
    exact ⟨rfl, rfl⟩
  refine g_iload_n q_X10_isIn_5 rfl ?_
  refine g_iload_n q_X10_isIn_6 rfl ?_
  refine g_icmp_gt (tgt := 14) q_X10_isIn_7 (by decide) hv hb (fun e2 => ?_) (fun e2 => ?_)
  · refine g_iconst q_X10_isIn_14 ?_
    refine g_zreturn q_X10_isIn_15.1 rfl (by first | exact Or.inl rfl | exact Or.inr rfl | omega) ?_
    rw [decide_eq_false (by omega)]
    exact ⟨rfl, rfl⟩
  · refine g_iconst q_X10_isIn_10 ?_
    refine g_goto (tgt := 15) q_X10_isIn_11 (by decide) ?_
    refine g_zreturn q_X10_isIn_15.1 rfl (by first | exact Or.inl rfl | exact Or.inr rfl | omega) ?_
    rw [decide_eq_true (by omega)]
    exact ⟨rfl, rfl⟩
theorem sp_thrown (hΓ : Gd Γ) (h0 : σ.2 m = some (mdo m I)) : Sp Γ miX10_thrown 0 0 [.ref m] σ (ri (I 0) σ) noX := by
  refine Sp_of (L := [_]) hΓ (by decide +kernel) rfl (Nat.le_of_ble_eq_true rfl) rfl ?_
  refine g_aload_n q_X10_thrown_0 rfl ?_
  refine g_get fl_X10_122 q_X10_thrown_1 (by repeat first | with_reducible assumption | with_reducible exact hput_s _ _ _ | refine (hput_n _ _ (by omega)).trans ?_ | exact hput_s _ _ _ | assumption) rfl ?_
  refine g_ireturn q_X10_thrown_4.1 rfl ?_
  exact ⟨rfl, rfl⟩
theorem sp_isCell (hΓ : Gd Γ) (h0 : σ.2 m = some (mdo m I)) {cols rows : Nat} (hc : I 13 = cols) (hr : I 14 = rows) (hc6 : cols ≤ 6) (hr6 : rows ≤ 6) (a b : Int) (ha : rg a) (hb : rg b) : Sp Γ miX10_isCell 0 0 [.ref m, .int (ii a), .int (ii b)] σ (rb (decide (0 ≤ a ∧ a < cols ∧ 0 ≤ b ∧ b < rows)) σ) noX := by
  refine Sp_of (L := [_, _, _]) hΓ (by decide +kernel) rfl (Nat.le_of_ble_eq_true rfl) rfl ?_
  refine g_iload_n q_X10_isCell_0 rfl ?_
  refine g_iconst q_X10_isCell_1 ?_
  refine g_aload_n q_X10_isCell_2 rfl ?_
  refine g_get fl_X10_214 q_X10_isCell_3 (by repeat first | with_reducible assumption | with_reducible exact hput_s _ _ _ | refine (hput_n _ _ (by omega)).trans ?_ | exact hput_s _ _ _ | assumption) rfl ?_
  refine g_topi (b := (cols : Int)) (by exact hc) ?_
  refine g_iconst q_X10_isCell_6 ?_
  refine g_isub q_X10_isCell_7 ?_
  refine g_callS (rc' := 0) (rs' := 0) (As := [_, _, _]) cs_X10_229 q_X10_isCell_8 (sp_isIn hΓ a 0 ((cols : Int) - 1) ha ⟨by decide, by decide⟩ ⟨by omega, by omega⟩) rfl rfl rfl (Nat.le_of_ble_eq_true rfl) (by decide) (by decide) (by decide) (fun _ _ h => h.elim) (k_rb ?_)
  refine g_if_eq (tgt := 32) q_X10_isCell_11 (by decide) (bi_rg _) (fun e1 => ?_) (fun e1 => ?_)
  · have e2 := of_decide_eq_false (bi_f e1)
    refine g_iconst q_X10_isCell_32 ?_
    refine g_zreturn q_X10_isCell_33.1 rfl (by first | exact Or.inl rfl | exact Or.inr rfl | omega) ?_
    rw [decide_eq_false (by omega)]
    exact ⟨rfl, rfl⟩
  have e2 := of_decide_eq_true (bi_t e1)
  refine g_iload_n q_X10_isCell_14 rfl ?_
  refine g_iconst q_X10_isCell_15 ?_
  refine g_aload_n q_X10_isCell_16 rfl ?_
  refine g_get fl_X10_217 q_X10_isCell_17 (by repeat first | with_reducible assumption | with_reducible exact hput_s _ _ _ | refine (hput_n _ _ (by omega)).trans ?_ | exact hput_s _ _ _ | assumption) rfl ?_
  refine g_topi (b := (rows : Int)) (by exact hr) ?_
  refine g_iconst q_X10_isCell_20 ?_
  refine g_isub q_X10_isCell_21 ?_
  refine g_callS (rc' := 0) (rs' := 0) (As := [_, _, _]) cs_X10_229 q_X10_isCell_22 (sp_isIn hΓ b 0 ((rows : Int) - 1) hb ⟨by decide, by decide⟩ ⟨by omega, by omega⟩) rfl rfl rfl (Nat.le_of_ble_eq_true rfl) (by decide) (by decide) (by decide) (fun _ _ h => h.elim) (k_rb ?_)
  refine g_if_eq (tgt := 32) q_X10_isCell_25 (by decide) (bi_rg _) (fun e3 => ?_) (fun e3 => ?_)
  · have e4 := of_decide_eq_false (bi_f e3)
    refine g_iconst q_X10_isCell_32 ?_
    refine g_zreturn q_X10_isCell_33.1 rfl (by first | exact Or.inl rfl | exact Or.inr rfl | omega) ?_
    rw [decide_eq_false (by omega)]
    exact ⟨rfl, rfl⟩
  · have e4 := of_decide_eq_true (bi_t e3)
    refine g_iconst q_X10_isCell_28 ?_
    refine g_goto (tgt := 33) q_X10_isCell_29 (by decide) ?_
    refine g_zreturn q_X10_isCell_33.1 rfl (by first | exact Or.inl rfl | exact Or.inr rfl | omega) ?_
    rw [decide_eq_true (by omega)]
    exact ⟨rfl, rfl⟩
theorem sp_isCart (hΓ : Gd Γ) (h0 : σ.2 m = some (mdo m I)) {n : Nat} (hn : I 15 = n) (hn5 : n ≤ 5) (c : Int) (hc : rg c) : Sp Γ miX10_isCart 0 0 [.ref m, .int (ii c)] σ (rb (decide (0 ≤ c ∧ c < n)) σ) noX := by
  refine Sp_of (L := [_, _]) hΓ (by decide +kernel) rfl (Nat.le_of_ble_eq_true rfl) rfl ?_
  refine g_iload_n q_X10_isCart_0 rfl ?_
  refine g_iconst q_X10_isCart_1 ?_
  refine g_aload_n q_X10_isCart_2 rfl ?_
  refine g_get fl_X10_220 q_X10_isCart_3 (by repeat first | with_reducible assumption | with_reducible exact hput_s _ _ _ | refine (hput_n _ _ (by omega)).trans ?_ | exact hput_s _ _ _ | assumption) rfl ?_
  refine g_topi (b := (n : Int)) (by exact hn) ?_
  refine g_iconst q_X10_isCart_6 ?_
  refine g_isub q_X10_isCart_7 ?_
  refine g_callS (rc' := 0) (rs' := 0) (As := [_, _, _]) cs_X10_229 q_X10_isCart_8 (sp_isIn hΓ c 0 ((n : Int) - 1) hc ⟨by decide, by decide⟩ ⟨by omega, by omega⟩) rfl rfl rfl (Nat.le_of_ble_eq_true rfl) (by decide) (by decide) (by decide) (fun _ _ h => h.elim) (k_rb ?_)
  rw [decide_eq_decide.mpr (show (0 ≤ c ∧ c ≤ (n : Int) - 1) ↔ (0 ≤ c ∧ c < (n : Int)) from ⟨fun h => by omega, fun h => by omega⟩)]
  refine g_zreturn q_X10_isCart_11.1 rfl (bi_01 _) ?_
  exact ⟨rfl, rfl⟩
/-- the cell to which a move goes; -1: none -/
def nxt (so : Nat → Int) (cols rows c m : Nat) : Int := if m = 4 then (c : Int) else if 1 < so c ∧ so c - 2 ≠ m then -1 else if (0 ≤ (c % 6 : Nat) + t_acr m ∧ (c % 6 : Nat) + t_acr m < cols ∧ 0 ≤ (c / 6 : Nat) + t_dwn m ∧ (c / 6 : Nat) + t_dwn m < rows) ∧ so (6 * ((c / 6 : Nat) + t_dwn m) + ((c % 6 : Nat) + t_acr m)).toNat ≠ 1 then 6 * ((c / 6 : Nat) + t_dwn m) + ((c % 6 : Nat) + t_acr m) else -1
theorem nxt_rg {so : Nat → Int} {cols rows c m : Nat} (hc : cols ≤ 6) (hr : rows ≤ 6) (h : c < 36) : nxt so cols rows c m = -1 ∨ 0 ≤ nxt so cols rows c m ∧ nxt so cols rows c m < 36 := by
  unfold nxt
  split
  · exact Or.inr (by omega)
  · split
    · exact Or.inl rfl
    · split
      · exact Or.inr (by omega)
      · exact Or.inl rfl
/-- the grid of the reference, as it lies -/
def MG (σ : AH) (m : Nat) (I : Nat → Int) (cols rows : Nat) (so : Nat → Int) : Prop := σ.2 m = some (mdo m I) ∧ I 13 = cols ∧ I 14 = rows ∧ cols ≤ 6 ∧ rows ≤ 6 ∧ σ.2 (m + 6) = some (ai 36 so) ∧ okS so
theorem sp_next (hΓ : Gd Γ) {cols rows : Nat} {so : Nat → Int} (hG : MG σ m I cols rows so) (c k : Nat) (hc : c < 36) (hk : k ≤ 4) : Sp Γ miX10_next 0 0 [.ref m, .int (ii c), .int (ii k)] σ (ri (nxt so cols rows c k) σ) noX := by
  obtain ⟨h0, e13, e14, c6, r6, h6, oS⟩ := hG
  have hso := oS c
  refine Sp_of (L := [_, _, _, _, _, _]) hΓ (by decide +kernel) rfl (Nat.le_of_ble_eq_true rfl) rfl ?_
  refine g_iload_n q_X10_next_0 rfl ?_
  refine g_iconst q_X10_next_1 ?_
  refine g_icmp_ne (tgt := 7) q_X10_next_2 (by decide) ⟨by omega, by omega⟩ ⟨by omega, by omega⟩ (fun b0 => ?_) (fun b0 => ?_)
  case refine_2 =>
    refine g_iload_n q_X10_next_5 rfl ?_
    refine g_ireturn q_X10_next_6.1 rfl ?_
    refine ⟨?_, rfl⟩
    unfold nxt
    rw [if_pos (by omega)]
  have no4 : ¬ k = 4 := by omega
  have go : ¬ (1 < so c ∧ so c - 2 ≠ k) → ∀ l3, G Γ miX10_next cX10_next (ri (nxt so cols rows c k) σ) noX 0 0 28 [some (.ref m), some (.int (ii c)), some (.int (ii k)), l3, none, none] [] σ := by
    intro hns l3
    refine g_fl (L2 := [some (.ref m), some (.int (ii c)), some (.int (ii k)), none, none, none]) ?_ ⟨rfl, rfl, rfl, trivial⟩
    have atY : ∀ X : Int, X = (c % 6 : Nat) + t_acr k → G Γ miX10_next cX10_next (ri (nxt so cols rows c k) σ) noX 0 0 52 [some (.ref m), some (.int (ii c)), some (.int (ii k)), none, none, none] [.int (ii X)] σ := by
      intro X hX
      have hXr := t_acr_rg k
      have atZ : ∀ Y : Int, Y = (c / 6 : Nat) + t_dwn k → G Γ miX10_next cX10_next (ri (nxt so cols rows c k) σ) noX 0 0 77 [some (.ref m), some (.int (ii c)), some (.int (ii k)), none, some (.int (ii X)), none] [.int (ii Y)] σ := by
        intro Y hY
        have hYr := t_dwn_rg k
        refine g_istore (L' := [_, _, _, _, _, _]) q_X10_next_77 (by decide) rfl ?_
        refine g_aload_n q_X10_next_79 rfl ?_
        refine g_iload q_X10_next_80 rfl ?_
        refine g_iload q_X10_next_82 rfl ?_
        refine g_callV (rc' := 0) (rs' := 0) (As := [_, _]) cs_X10_233 q_X10_next_84 (sp_isCell hΓ h0 e13 e14 c6 r6 X Y ⟨by omega, by omega⟩ ⟨by omega, by omega⟩) rfl (by repeat first | with_reducible assumption | with_reducible exact hput_s _ _ _ | refine (hput_n _ _ (by omega)).trans ?_ | exact hput_s _ _ _ | assumption) rfl rfl rfl rfl (Nat.le_of_ble_eq_true rfl) (by decide) (by decide) (by decide) (fun _ _ h => h.elim) (k_rb ?_)
        have eN : nxt so cols rows c k = if (0 ≤ X ∧ X < cols ∧ 0 ≤ Y ∧ Y < rows) ∧ so (6 * Y + X).toNat ≠ 1 then 6 * Y + X else -1 := by
          unfold nxt
          rw [if_neg no4, if_neg hns, hX, hY]
        rw [eN]
        refine g_if_eq (tgt := 118) q_X10_next_87 (by decide) (bi_rg _) (fun b1 => ?_) (fun b1 => ?_)
        · have e2 := of_decide_eq_false (bi_f b1)
          refine g_iconst q_X10_next_118 ?_
          refine g_ireturn q_X10_next_119.1 rfl ?_
          rw [if_neg (fun q => e2 q.1)]
          exact ⟨rfl, rfl⟩
        have e2 := of_decide_eq_true (bi_t b1)
        have hso2 := oS (6 * Y + X).toNat
        refine g_aload_n q_X10_next_90 rfl ?_
        refine g_get fl_X10_30 q_X10_next_91 (by repeat first | with_reducible assumption | with_reducible exact hput_s _ _ _ | refine (hput_n _ _ (by omega)).trans ?_ | exact hput_s _ _ _ | assumption) rfl ?_
        refine g_bipush q_X10_next_94 bp_6 ?_
        refine g_iload q_X10_next_96 rfl ?_
        refine g_imul q_X10_next_98 ?_
        refine g_iload q_X10_next_99 rfl ?_
        refine g_iadd q_X10_next_101 ?_
        refine g_iaload q_X10_next_102 (by repeat first | with_reducible assumption | with_reducible exact hput_s _ _ _ | refine (hput_n _ _ (by omega)).trans ?_ | exact hput_s _ _ _ | assumption) (by omega) (by omega) ?_
        refine g_topi (b := so (6 * Y + X).toNat) rfl ?_
        refine g_iconst q_X10_next_103 ?_
        refine g_icmp_eq (tgt := 118) q_X10_next_104 (by decide) ⟨by omega, by omega⟩ ⟨by omega, by omega⟩ (fun b2 => ?_) (fun b2 => ?_)
        · refine g_iconst q_X10_next_118 ?_
          refine g_ireturn q_X10_next_119.1 rfl ?_
          rw [if_neg (fun q => q.2 b2)]
          exact ⟨rfl, rfl⟩
        · refine g_bipush q_X10_next_107 bp_6 ?_
          refine g_iload q_X10_next_109 rfl ?_
          refine g_imul q_X10_next_111 ?_
          refine g_iload q_X10_next_112 rfl ?_
          refine g_iadd q_X10_next_114 ?_
          refine g_goto (tgt := 119) q_X10_next_115 (by decide) ?_
          refine g_ireturn q_X10_next_119.1 rfl ?_
          rw [if_pos ⟨e2, b2⟩]
          exact ⟨rfl, rfl⟩
      refine g_istore (L' := [_, _, _, _, _, _]) q_X10_next_52 (by decide) rfl ?_
      refine g_iload_n q_X10_next_54 rfl ?_
      refine g_bipush q_X10_next_55 bp_6 ?_
      refine g_idiv q_X10_next_57 ⟨by omega, by omega⟩ ⟨by omega, by omega⟩ (by omega) ?_
      refine g_topi (b := ((c / 6 : Nat) : Int)) (by rw [Int.tdiv_eq_ediv_of_nonneg (by omega)]; omega) ?_
      refine g_iload_n q_X10_next_58 rfl ?_
      refine g_if_ne (tgt := 66) q_X10_next_59 (by decide) ⟨by omega, by omega⟩ (fun b1 => ?_) (fun b1 => ?_)
      · refine g_iload_n q_X10_next_66 rfl ?_
        refine g_iconst q_X10_next_67 ?_
        refine g_icmp_ne (tgt := 75) q_X10_next_68 (by decide) ⟨by omega, by omega⟩ ⟨by omega, by omega⟩ (fun b2 => ?_) (fun b2 => ?_)
        · have hk13 : k = 1 ∨ k = 3 := by omega
          refine g_iconst q_X10_next_75 ?_
          refine g_iadd q_X10_next_76 ?_
          exact atZ _ (by rcases hk13 with rfl | rfl <;> rfl)
        · have hk2 : k = 2 := by omega
          subst hk2
          refine g_iconst q_X10_next_71 ?_
          refine g_goto (tgt := 76) q_X10_next_72 (by decide) ?_
          refine g_iadd q_X10_next_76 ?_
          exact atZ _ rfl
      · have hk0 : k = 0 := by omega
        subst hk0
        refine g_iconst q_X10_next_62 ?_
        refine g_goto (tgt := 76) q_X10_next_63 (by decide) ?_
        refine g_iadd q_X10_next_76 ?_
        exact atZ _ rfl
    refine g_iload_n q_X10_next_28 rfl ?_
    refine g_bipush q_X10_next_29 bp_6 ?_
    refine g_irem q_X10_next_31 ⟨by omega, by omega⟩ ⟨by omega, by omega⟩ (by omega) ?_
    refine g_topi (b := ((c % 6 : Nat) : Int)) (by rw [Int.tmod_eq_emod_of_nonneg (by omega)]; omega) ?_
    refine g_iload_n q_X10_next_32 rfl ?_
    refine g_iconst q_X10_next_33 ?_
    refine g_icmp_ne (tgt := 41) q_X10_next_34 (by decide) ⟨by omega, by omega⟩ ⟨by omega, by omega⟩ (fun b1 => ?_) (fun b1 => ?_)
    · refine g_iload_n q_X10_next_41 rfl ?_
      refine g_iconst q_X10_next_42 ?_
      refine g_icmp_ne (tgt := 50) q_X10_next_43 (by decide) ⟨by omega, by omega⟩ ⟨by omega, by omega⟩ (fun b2 => ?_) (fun b2 => ?_)
      · have hk02 : k = 0 ∨ k = 2 := by omega
        refine g_iconst q_X10_next_50 ?_
        refine g_iadd q_X10_next_51 ?_
        exact atY _ (by rcases hk02 with rfl | rfl <;> rfl)
      · have hk3 : k = 3 := by omega
        subst hk3
        refine g_iconst q_X10_next_46 ?_
        refine g_goto (tgt := 51) q_X10_next_47 (by decide) ?_
        refine g_iadd q_X10_next_51 ?_
        exact atY _ rfl
    · have hk1 : k = 1 := by omega
      subst hk1
      refine g_iconst q_X10_next_37 ?_
      refine g_goto (tgt := 51) q_X10_next_38 (by decide) ?_
      refine g_iadd q_X10_next_51 ?_
      exact atY _ rfl
  refine g_aload_n q_X10_next_7 rfl ?_
  refine g_get fl_X10_30 q_X10_next_8 (by repeat first | with_reducible assumption | with_reducible exact hput_s _ _ _ | refine (hput_n _ _ (by omega)).trans ?_ | exact hput_s _ _ _ | assumption) rfl ?_
  refine g_iload_n q_X10_next_11 rfl ?_
  refine g_iaload q_X10_next_12 (by repeat first | with_reducible assumption | with_reducible exact hput_s _ _ _ | refine (hput_n _ _ (by omega)).trans ?_ | exact hput_s _ _ _ | assumption) (by omega) (by omega) ?_
  refine g_topi (b := so c) rfl ?_
  refine g_istore_n (L' := [_, _, _, _, _, _]) q_X10_next_13 (by decide) rfl ?_
  refine g_iload_n q_X10_next_14 rfl ?_
  refine g_iconst q_X10_next_15 ?_
  refine g_icmp_le (tgt := 28) q_X10_next_16 (by decide) ⟨by omega, by omega⟩ ⟨by omega, by omega⟩ (fun b1 => ?_) (fun b1 => ?_)
  · exact go (fun q => by omega) _
  refine g_iload_n q_X10_next_19 rfl ?_
  refine g_iconst q_X10_next_20 ?_
  refine g_isub q_X10_next_21 ?_
  refine g_iload_n q_X10_next_22 rfl ?_
  refine g_icmp_eq (tgt := 28) q_X10_next_23 (by decide) ⟨by omega, by omega⟩ ⟨by omega, by omega⟩ (fun b2 => ?_) (fun b2 => ?_)
  · exact go (fun q => by omega) _
  · refine g_iconst q_X10_next_26 ?_
    refine g_ireturn q_X10_next_27.1 rfl ?_
    refine ⟨?_, rfl⟩
    unfold nxt
    rw [if_neg no4, if_pos ⟨by omega, by omega⟩]
end MB

