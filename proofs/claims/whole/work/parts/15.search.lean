/-! Search: sets of cells as bits -/
def tbz (b : Bool) : Int := if b then 0 else -1
theorem tbz_rg (b : Bool) : rg (tbz b) := by cases b <;> exact ⟨by decide, by decide⟩
theorem tbz_ne {b : Bool} (h : tbz b ≠ 0) : b = false := by cases b <;> simp_all [tbz]
theorem tbz_eq {b : Bool} (h : tbz b = 0) : b = true := by cases b <;> simp_all [tbz]
theorem bit_lcm (x : BitVec 64) (g : Nat) : lcm ((x >>> g) &&& BitVec.ofNat 64 1) (BitVec.ofNat 64 1) = tbz (x.getLsbD g) := by
  have e : (x >>> g) &&& BitVec.ofNat 64 1 = if x.getLsbD g then 1#64 else 0#64 := by
    have h := BitVec.and_one_eq_setWidth_ofBool_getLsbD (x := x >>> g)
    rw [show BitVec.ofNat 64 1 = 1#64 from rfl, h, BitVec.getLsbD_ushiftRight, Nat.add_zero]
    cases x.getLsbD g <;> rfl
  rw [e]
  cases x.getLsbD g <;> rfl
abbrev sro (s : Nat) : AE := ob 3 [.ref (s + 1), .ref (s + 2), .ref (s + 3)]
abbrev sco (g cols rows carts : Nat) : AE := ob 2 [.int (ii cols), .int (ii rows), .ref (g + 1), .int (ii carts), .ref (g + 2), .ref (g + 3), .ref (g + 4), .ref (g + 5), .ref (g + 6)]
abbrev FF : BitVec 64 := BitVec.allOnes 64
def stp (lv mv ce : Nat → BitVec 64) (h : BitVec 64) (t : Nat) : BitVec 64 :=
  (h ||| ((h &&& lv 0) &&& (mv t ^^^ FF)) >>> 6 ||| ((h &&& lv 1) &&& (mv (41 + t) ^^^ FF)) <<< 1 ||| ((h &&& lv 2) &&& (mv (82 + t) ^^^ FF)) <<< 6 ||| ((h &&& lv 3) &&& (mv (123 + t) ^^^ FF)) >>> 1) &&& (ce t ^^^ FF)
def hsN (lv mv ce : Nat → BitVec 64) (pl : Nat) : Nat → BitVec 64
  | 0 => (bt1 pl) &&& (ce 0 ^^^ FF)
  | t + 1 => stp lv mv ce (hsN lv mv ce pl t) (t + 1)
def ffr (ce : Nat → BitVec 64) (g : Nat) : Nat → Nat
  | 0 => 0
  | t + 1 => if (ce t).getLsbD g then t + 1 else ffr ce g t
theorem ffr_le (ce : Nat → BitVec 64) (g : Nat) : ∀ n, ffr ce g n ≤ n
  | 0 => Nat.le_refl 0
  | n + 1 => by
    have := ffr_le ce g n
    unfold ffr
    split <;> omega
def lcs (lv mv ce : Nat → BitVec 64) (pl g : Nat) : Int := fstN (fun t => decide (ffr ce g 41 ≤ t) && (hsN lv mv ce pl t).getLsbD g) 41
section SR
variable {Γ : GT} {σ : AH} {s g cols rows carts : Nat} {lv mv ce bk : Nat → BitVec 64}
theorem sp_fillI (hΓ : Gd Γ) {a N : Nat} {f : Nat → Int} (x : Int) (hN : N < 1000) (ha : σ.2 a = some (ai N f)) : Sp Γ miJ7_fill_53178 0 0 [.ref a, .int (ii x)] σ (rv (hput σ a (ai N fun _ => x))) noX := by
  refine Sp_of (L := [_, _, _, _]) hΓ (by decide +kernel) rfl (Nat.le_of_ble_eq_true rfl) rfl ?_
  refine g_iconst q_J7_fill_53178_0 ?_
  refine g_istore_n (L' := [_, _, _, _]) q_J7_fill_53178_1 (by decide) rfl ?_
  refine g_aload_n q_J7_fill_53178_2 rfl ?_
  refine g_alen q_J7_fill_53178_3 (by repeat first | with_reducible assumption | with_reducible exact hput_s _ _ _ | refine (hput_n _ _ (by omega)).trans ?_ | exact hput_s _ _ _ | assumption) ?_
  refine g_istore_n (L' := [_, _, _, _]) q_J7_fill_53178_4 (by decide) rfl ?_
  refine g_fl (L2 := [some (.ref a), some (.int (ii x)), some (.int (ii 0)), some (.int (ii N))]) ?_ ⟨rfl, rfl, rfl, rfl, trivial⟩
  refine g_eq (σ2 := hput σ a (ai N f)) rfl rfl (hput_id ha).symm ?_
  refine g_loop (β := Nat × (Nat → Int)) (fun q => q.1 ≤ N ∧ ∀ k, q.2 k = if k < q.1 then x else f k) (fun q => G Γ _ cJ7_fill_53178 _ _ 0 0 5 [some (.ref a), some (.int (ii x)), some (.int (ii q.1)), some (.int (ii N))] [] (hput σ a (ai N q.2))) (fun q => N - q.1) ?_ (0, f) ⟨Nat.zero_le _, fun k => by simp⟩
  rintro ⟨k, f2⟩ ⟨hk, hf2⟩ ih
  dsimp only at hk hf2 ih ⊢
  refine g_iload_n q_J7_fill_53178_5 rfl ?_
  refine g_iload_n q_J7_fill_53178_6 rfl ?_
  refine g_icmp_ge (tgt := 20) q_J7_fill_53178_7 (by decide) ⟨by omega, by omega⟩ ⟨by omega, by omega⟩ (fun hx => ?_) (fun hx => ?_)
  · have e : k = N := by omega
    subst e
    refine g_repI (f' := fun _ => x) (hput_s _ _ _) (fun j hj => by rw [hf2 j, if_pos hj]) ?_
    rw [hput_hput]
    refine g_return q_J7_fill_53178_20.1 rfl ?_
    exact ⟨rfl, rfl⟩
  · refine g_aload_n q_J7_fill_53178_10 rfl ?_
    refine g_iload_n q_J7_fill_53178_11 rfl ?_
    refine g_iload_n q_J7_fill_53178_12 rfl ?_
    refine g_iastore q_J7_fill_53178_13 (by repeat first | with_reducible assumption | with_reducible exact hput_s _ _ _ | refine (hput_n _ _ (by omega)).trans ?_ | exact hput_s _ _ _ | assumption) (by omega) (by omega) ?_
    refine g_iinc (L' := [_, _, _, _]) q_J7_fill_53178_14 rfl rfl ?_
    refine g_goto (tgt := 5) q_J7_fill_53178_17 (by decide) ?_
    rw [hput_hput]
    exact ih (k + 1, va_up f2 k x) ⟨by simp only; omega, fun j => by
      simp only [va_up]
      by_cases q : j = k
      · rw [if_pos q, if_pos (by omega)]
      · rw [if_neg q, hf2 j]
        by_cases q2 : j < k
        · rw [if_pos q2, if_pos (by omega)]
        · rw [if_neg q2, if_neg (by omega)]⟩ (by simp only; omega)
theorem sp_fillJ (hΓ : Gd Γ) {a N : Nat} {f : Nat → BitVec 64} (x : BitVec 64) (hN : N < 1000) (ha : σ.2 a = some (al N f)) : Sp Γ miJ7_fill_d0a16 0 0 [.ref a, .long (lb x)] σ (rv (hput σ a (al N fun _ => x))) noX := by
  refine Sp_of (L := [_, _, _, _, _]) hΓ (by decide +kernel) rfl (Nat.le_of_ble_eq_true rfl) rfl ?_
  refine g_iconst q_J7_fill_d0a16_0 ?_
  refine g_istore_n (L' := [_, _, _, _, _]) q_J7_fill_d0a16_1 (by decide) rfl ?_
  refine g_aload_n q_J7_fill_d0a16_2 rfl ?_
  refine g_alen q_J7_fill_d0a16_3 (by repeat first | with_reducible assumption | with_reducible exact hput_s _ _ _ | refine (hput_n _ _ (by omega)).trans ?_ | exact hput_s _ _ _ | assumption) ?_
  refine g_istore (L' := [_, _, _, _, _]) q_J7_fill_d0a16_4 (by decide) rfl ?_
  refine g_fl (L2 := [some (.ref a), some (.long (lb x)), none, some (.int (ii 0)), some (.int (ii N))]) ?_ ⟨rfl, rfl, rfl, rfl, trivial⟩
  refine g_eq (σ2 := hput σ a (al N f)) rfl rfl (hput_id ha).symm ?_
  refine g_loop (β := Nat × (Nat → BitVec 64)) (fun q => q.1 ≤ N ∧ ∀ k, q.2 k = if k < q.1 then x else f k) (fun q => G Γ _ cJ7_fill_d0a16 _ _ 0 0 6 [some (.ref a), some (.long (lb x)), none, some (.int (ii q.1)), some (.int (ii N))] [] (hput σ a (al N q.2))) (fun q => N - q.1) ?_ (0, f) ⟨Nat.zero_le _, fun k => by simp⟩
  rintro ⟨k, f2⟩ ⟨hk, hf2⟩ ih
  dsimp only at hk hf2 ih ⊢
  refine g_iload_n q_J7_fill_d0a16_6 rfl ?_
  refine g_iload q_J7_fill_d0a16_7 rfl ?_
  refine g_icmp_ge (tgt := 22) q_J7_fill_d0a16_9 (by decide) ⟨by omega, by omega⟩ ⟨by omega, by omega⟩ (fun hx => ?_) (fun hx => ?_)
  · have e : k = N := by omega
    subst e
    refine g_repJ (f' := fun _ => x) (hput_s _ _ _) (fun j hj => by rw [hf2 j, if_pos hj]) ?_
    rw [hput_hput]
    refine g_return q_J7_fill_d0a16_22.1 rfl ?_
    exact ⟨rfl, rfl⟩
  · refine g_aload_n q_J7_fill_d0a16_12 rfl ?_
    refine g_iload_n q_J7_fill_d0a16_13 rfl ?_
    refine g_lload_n q_J7_fill_d0a16_14 rfl ?_
    refine g_lastore q_J7_fill_d0a16_15 (by repeat first | with_reducible assumption | with_reducible exact hput_s _ _ _ | refine (hput_n _ _ (by omega)).trans ?_ | exact hput_s _ _ _ | assumption) (by omega) (by omega) ?_
    refine g_iinc (L' := [_, _, _, _, _]) q_J7_fill_d0a16_16 rfl rfl ?_
    refine g_goto (tgt := 6) q_J7_fill_d0a16_19 (by decide) ?_
    rw [hput_hput]
    exact ih (k + 1, va_up f2 k x) ⟨by simp only; omega, fun j => by
      simp only [va_up]
      by_cases q : j = k
      · rw [if_pos q, if_pos (by omega)]
      · rw [if_neg q, hf2 j]
        by_cases q2 : j < k
        · rw [if_pos q2, if_pos (by omega)]
        · rw [if_neg q2, if_neg (by omega)]⟩ (by simp only; omega)
theorem sp_clear (hΓ : Gd Γ) (h0 : σ.2 s = some (sro s)) (h1 : σ.2 (s + 1) = some (al 41 ce)) (h2 : σ.2 (s + 2) = some (al 164 mv)) : Sp Γ miX3_clear 0 0 [.ref s] σ (rv (hput (hput σ (s + 1) (al 41 fun _ => 0)) (s + 2) (al 164 fun _ => 0))) noX := by
  refine Sp_of (L := [_]) hΓ (by decide +kernel) rfl (Nat.le_of_ble_eq_true rfl) rfl ?_
  refine g_aload_n q_X3_clear_0 rfl ?_
  refine g_get fl_X3_9 q_X3_clear_1 (by repeat first | with_reducible assumption | with_reducible exact hput_s _ _ _ | refine (hput_n _ _ (by omega)).trans ?_ | exact hput_s _ _ _ | assumption) rfl ?_
  refine g_lconst q_X3_clear_4 ?_
  refine g_callS (rc' := 0) (rs' := 0) (As := [_, _]) cs_X3_21 q_X3_clear_5 (sp_fillJ hΓ 0 (by decide) h1) rfl rfl rfl (Nat.le_of_ble_eq_true rfl) (by decide) (by decide) (by decide) (fun _ _ h => h.elim) (k_rv ?_)
  refine g_aload_n q_X3_clear_8 rfl ?_
  refine g_get fl_X3_15 q_X3_clear_9 (by repeat first | with_reducible assumption | with_reducible exact hput_s _ _ _ | refine (hput_n _ _ (by omega)).trans ?_ | exact hput_s _ _ _ | assumption) rfl ?_
  refine g_lconst q_X3_clear_12 ?_
  refine g_callS (rc' := 0) (rs' := 0) (As := [_, _]) cs_X3_21 q_X3_clear_13 (sp_fillJ hΓ 0 (by decide) ((hput_n _ _ (by omega)).trans h2)) rfl rfl rfl (Nat.le_of_ble_eq_true rfl) (by decide) (by decide) (by decide) (fun _ _ h => h.elim) (k_rv ?_)
  refine g_return q_X3_clear_16.1 rfl ?_
  exact ⟨rfl, rfl⟩
theorem sp_forbidCell (hΓ : Gd Γ) (h0 : σ.2 s = some (sro s)) (h1 : σ.2 (s + 1) = some (al 41 ce)) (c t : Nat) (hc : c < 64) (ht : t < 41) : Sp Γ miX3_forbidCell 0 0 [.ref s, .int (ii c), .int (ii t)] σ (rv (hput σ (s + 1) (al 41 (va_up ce t (ce t ||| bt1 c))))) noX := by
  refine Sp_of (L := [_, _, _]) hΓ (by decide +kernel) rfl (Nat.le_of_ble_eq_true rfl) rfl ?_
  refine g_aload_n q_X3_forbidCell_0 rfl ?_
  refine g_get fl_X3_9 q_X3_forbidCell_1 (by repeat first | with_reducible assumption | with_reducible exact hput_s _ _ _ | refine (hput_n _ _ (by omega)).trans ?_ | exact hput_s _ _ _ | assumption) rfl ?_
  refine g_iload_n q_X3_forbidCell_4 rfl ?_
  refine g_dup2 q_X3_forbidCell_5 rfl rfl ?_
  refine g_laload q_X3_forbidCell_6 (by repeat first | with_reducible assumption | with_reducible exact hput_s _ _ _ | refine (hput_n _ _ (by omega)).trans ?_ | exact hput_s _ _ _ | assumption) (by omega) (by omega) ?_
  refine g_lconst q_X3_forbidCell_7 ?_
  refine g_iload_n q_X3_forbidCell_8 rfl ?_
  refine g_lshl q_X3_forbidCell_9 (by omega) (by omega) ?_
  refine g_lor q_X3_forbidCell_10 ?_
  refine g_lastore q_X3_forbidCell_11 (by repeat first | with_reducible assumption | with_reducible exact hput_s _ _ _ | refine (hput_n _ _ (by omega)).trans ?_ | exact hput_s _ _ _ | assumption) (by omega) (by omega) ?_
  refine g_return q_X3_forbidCell_12.1 rfl ?_
  exact ⟨rfl, rfl⟩
theorem sp_forbidAlways (hΓ : Gd Γ) (h0 : σ.2 s = some (sro s)) (h1 : σ.2 (s + 1) = some (al 41 ce)) (c : Nat) (hc : c < 64) : Sp Γ miX3_forbidAlways 0 0 [.ref s, .int (ii c)] σ (rv (hput σ (s + 1) (al 41 fun k => ce k ||| bt1 c))) noX := by
  refine Sp_of (L := [_, _, _]) hΓ (by decide +kernel) rfl (Nat.le_of_ble_eq_true rfl) rfl ?_
  refine g_iconst q_X3_forbidAlways_0 ?_
  refine g_istore_n (L' := [_, _, _]) q_X3_forbidAlways_1 (by decide) rfl ?_
  refine g_eq (σ2 := hput σ (s + 1) (al 41 ce)) rfl rfl (hput_id h1).symm ?_
  refine g_loop (β := Nat × (Nat → BitVec 64)) (fun q => q.1 ≤ 41 ∧ ∀ k, q.2 k = if k < q.1 then ce k ||| bt1 c else ce k) (fun q => G Γ _ cX3_forbidAlways _ _ 0 0 2 [some (.ref s), some (.int (ii c)), some (.int (ii q.1))] [] (hput σ (s + 1) (al 41 q.2))) (fun q => 41 - q.1) ?_ (0, ce) ⟨Nat.zero_le _, fun k => by simp⟩
  rintro ⟨k, f2⟩ ⟨hk, hf2⟩ ih
  dsimp only at hk hf2 ih ⊢
  refine g_iload_n q_X3_forbidAlways_2 rfl ?_
  refine g_bipush q_X3_forbidAlways_3 bp_40 ?_
  refine g_icmp_gt (tgt := 20) q_X3_forbidAlways_5 (by decide) ⟨by omega, by omega⟩ ⟨by omega, by omega⟩ (fun hx => ?_) (fun hx => ?_)
  · refine g_repJ (f' := fun k => ce k ||| bt1 c) (hput_s _ _ _) (fun j hj => by rw [hf2, if_pos (by omega)]) ?_
    rw [hput_hput]
    refine g_return q_X3_forbidAlways_20.1 rfl ?_
    exact ⟨rfl, rfl⟩
  · refine g_aload_n q_X3_forbidAlways_8 rfl ?_
    refine g_iload_n q_X3_forbidAlways_9 rfl ?_
    refine g_iload_n q_X3_forbidAlways_10 rfl ?_
    refine g_callV (rc' := 0) (rs' := 0) (As := [_, _]) cs_X3_27 q_X3_forbidAlways_11 (sp_forbidCell hΓ ((hput_n _ _ (by omega)).trans h0) (hput_s _ _ _) c k hc (by omega)) rfl (by repeat first | with_reducible assumption | with_reducible exact hput_s _ _ _ | refine (hput_n _ _ (by omega)).trans ?_ | exact hput_s _ _ _ | assumption) rfl rfl rfl rfl (Nat.le_of_ble_eq_true rfl) (by decide) (by decide) (by decide) (fun _ _ h => h.elim) (k_rv ?_)
    refine g_iinc (L' := [_, _, _]) q_X3_forbidAlways_14 rfl rfl ?_
    refine g_goto (tgt := 2) q_X3_forbidAlways_17 (by decide) ?_
    rw [hput_hput]
    exact ih (k + 1, va_up f2 k (f2 k ||| bt1 c)) ⟨by simp only; omega, fun j => by
      simp only [va_up]
      by_cases q : j = k
      · rw [if_pos q, if_pos (by omega), hf2 k, if_neg (by omega), q]
      · rw [if_neg q, hf2 j]
        by_cases q2 : j < k
        · rw [if_pos q2, if_pos (by omega)]
        · rw [if_neg q2, if_neg (by omega)]⟩ (by simp only; omega)
theorem sp_freeFrom (hΓ : Gd Γ) (h0 : σ.2 s = some (sro s)) (h1 : σ.2 (s + 1) = some (al 41 ce)) (g : Nat) (hg : g < 64) : Sp Γ miX3_freeFrom 0 0 [.ref s, .int (ii g)] σ (ri (ffr ce g 41) σ) noX := by
  refine Sp_of (L := [_, _, _]) hΓ (by decide +kernel) rfl (Nat.le_of_ble_eq_true rfl) rfl ?_
  refine g_bipush q_X3_freeFrom_0 bp_40 ?_
  refine g_istore_n (L' := [_, _, _]) q_X3_freeFrom_2 (by decide) rfl ?_
  refine g_loop (fun t => t ≤ 41 ∧ ffr ce g 41 = ffr ce g t) (fun t : Nat => G Γ _ cX3_freeFrom _ _ 0 0 3 [some (.ref s), some (.int (ii g)), some (.int (ii ((t : Int) - 1)))] [] σ) (fun t => t) ?_ 41 ⟨Nat.le_refl _, rfl⟩
  intro t ⟨ht, he⟩ ih
  refine g_iload_n q_X3_freeFrom_3 rfl ?_
  refine g_if_lt (tgt := 32) q_X3_freeFrom_4 (by decide) ⟨by omega, by omega⟩ (fun hx => ?_) (fun hx => ?_)
  · refine g_iconst q_X3_freeFrom_32 ?_
    refine g_ireturn q_X3_freeFrom_33.1 rfl ?_
    refine ⟨?_, rfl⟩
    rw [he, show t = 0 by omega]
    rfl
  · obtain ⟨u, rfl⟩ : ∃ u, t = u + 1 := ⟨t - 1, by omega⟩
    have e1 : (((u + 1 : Nat) : Int) - 1) = (u : Int) := by omega
    rw [e1]
    refine g_aload_n q_X3_freeFrom_7 rfl ?_
    refine g_get fl_X3_9 q_X3_freeFrom_8 (by repeat first | with_reducible assumption | with_reducible exact hput_s _ _ _ | refine (hput_n _ _ (by omega)).trans ?_ | exact hput_s _ _ _ | assumption) rfl ?_
    refine g_iload_n q_X3_freeFrom_11 rfl ?_
    refine g_laload q_X3_freeFrom_12 (by repeat first | with_reducible assumption | with_reducible exact hput_s _ _ _ | refine (hput_n _ _ (by omega)).trans ?_ | exact hput_s _ _ _ | assumption) (by omega) (by omega) ?_
    refine g_iload_n q_X3_freeFrom_13 rfl ?_
    refine g_lushr q_X3_freeFrom_14 (by omega) (by omega) ?_
    refine g_lconst q_X3_freeFrom_15 ?_
    refine g_land q_X3_freeFrom_16 ?_
    refine g_lconst q_X3_freeFrom_17 ?_
    refine g_lcmp q_X3_freeFrom_18 ?_
    refine g_topi (b := tbz ((ce u).getLsbD g)) (by exact bit_lcm _ _) ?_
    refine g_if_ne (tgt := 26) q_X3_freeFrom_19 (by decide) (tbz_rg _) (fun hd => ?_) (fun hd => ?_)
    · refine g_iinc (L' := [_, _, _]) q_X3_freeFrom_26 rfl rfl ?_
      refine g_goto (tgt := 3) q_X3_freeFrom_29 (by decide) ?_
      have hn : ffr ce g (u + 1) = ffr ce g u := by rw [ffr, if_neg (by rw [tbz_ne hd]; decide)]
      exact ih u ⟨by omega, he.trans hn⟩ (by omega)
    · refine g_iload_n q_X3_freeFrom_22 rfl ?_
      refine g_iconst q_X3_freeFrom_23 ?_
      refine g_iadd q_X3_freeFrom_24 ?_
      refine g_ireturn q_X3_freeFrom_25.1 rfl ?_
      refine ⟨?_, rfl⟩
      rw [he, ffr, if_pos (tbz_eq hd)]
      rfl
end SR

