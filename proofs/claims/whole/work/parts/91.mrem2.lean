/-! the reference: what is remembered tells what was -/
theorem udo_sz (z : PS) (q : Int × Int × Int) : zCo (udo z q) = zCo z ∧ zRo (udo z q) = zRo z ∧ zCa (udo z q) = zCa z := ⟨rfl, rfl, rfl⟩
theorem mPa_cg {pa pb : Nat → Int} : ∀ (r : List (Int × Int × Int)) (z : PS), zRo z ≤ 6 → zCa z ≤ 5 → (∀ i, i < 41 * r.length → pb i = pa i) → mPa pa z r → mPa pb z r
  | [], _, _, _, _, _ => trivial
  | q :: r, z, hr, hc, h, ⟨h1, h2, h3, h4⟩ => by
    have hl : (q :: r).length = r.length + 1 := rfl
    rw [hl] at h
    refine ⟨fun c hc6 => by rw [h _ (by omega)]; exact h1 c hc6, fun c hg => ?_, fun k hk => by rw [h _ (by omega)]; exact h3 k hk, mPa_cg r (udo z q) hr hc (fun i hi => h i (by omega)) h4⟩
    have := gIn_36 hr hg
    rw [h _ (by omega)]
    exact h2 c hg
theorem mPa_dl {pa : Nat → Int} : ∀ (r : List (Int × Int × Int)) (z : PS), mPa pa z r → mPa (fun i => pa (i + 41)) z r.dropLast
  | [], _, _ => trivial
  | [q], _, _ => trivial
  | q :: q2 :: r, z, ⟨h1, h2, h3, h4⟩ => by
    have hl : (q2 :: r).length = r.length + 1 := rfl
    have hd : (q2 :: r).dropLast.length = r.length := by rw [List.length_dropLast]; rfl
    rw [hl] at h1 h2 h3
    refine ⟨fun c hc => ?_, fun c hc => ?_, fun k hk => ?_, mPa_dl (q2 :: r) (udo z q) h4⟩
    · rw [hd]
      show 0 ≤ pa (41 * r.length + c + 41) ∧ pa (41 * r.length + c + 41) < 6
      rw [show 41 * r.length + c + 41 = 41 * (r.length + 1) + c by omega]
      exact h1 c hc
    · rw [hd]
      show pa (41 * r.length + c + 41) = _
      rw [show 41 * r.length + c + 41 = 41 * (r.length + 1) + c by omega]
      exact h2 c hc
    · rw [hd]
      show pa (41 * r.length + 36 + k + 41) = _
      rw [show 41 * r.length + 36 + k + 41 = 41 * (r.length + 1) + 36 + k by omega]
      exact h3 k hk
theorem rmN_at (pb so go : Nat → Int) (a i : Nat) : rmN pb so go a i = if 41 * a + 36 ≤ i ∧ i < 41 * a + 36 + 5 then go (0 + (i - (41 * a + 36))) else if 41 * a ≤ i ∧ i < 41 * a + 36 then so (0 + (i - 41 * a)) else pb i := rfl
/-- one more act -/
theorem mPa_kpl {pa so go : Nat → Int} {z z' : PS} {l : List (Int × Int × Int)} {q : Int × Int × Int} (hl : l.length ≤ 16) (h : mPa pa z l.reverse) (w : WFz z) (hu : udo z' q = z) (hs : okS so) (hso : ∀ c, gIn (zCo z) (zRo z) c → so c = zSO z c) (hgo : ∀ k, k < zCa z → go k = zGO z k) : mPa (rmN (rmP pa l.length) so go (rmA l.length)) z' (kpl l q).reverse ∧ (kpl l q).length = rmA l.length + 1 := by
  have r6 := w.1.1.2.1
  have n5 := w.1.1.2.2
  have e1 : zCo z' = zCo z ∧ zRo z' = zRo z ∧ zCa z' = zCa z := by
    have := udo_sz z' q
    rw [hu] at this
    exact ⟨this.1.symm, this.2.1.symm, this.2.2.symm⟩
  obtain ⟨l2, h2⟩ : ∃ l2, l2 = if l.length = 16 then l.tail else l := ⟨_, rfl⟩
  have hk : kpl l q = l2 ++ [q] := by unfold kpl; rw [h2]
  have hlen : l2.length = rmA l.length := by
    rw [h2]
    unfold rmA
    by_cases e : l.length = 16
    · rw [if_pos e, if_pos e, List.length_tail]; omega
    · rw [if_neg e, if_neg e]
  have hm : mPa (rmP pa l.length) z l2.reverse := by
    rw [h2]
    unfold rmP
    by_cases e : l.length = 16
    · rw [if_pos e, if_pos e, show l.tail.reverse = l.reverse.dropLast by cases l with
        | nil => rfl
        | cons x r => rw [List.tail_cons, List.reverse_cons, List.dropLast_concat]]
      refine mPa_cg _ z r6 n5 (fun i hi => ?_) (mPa_dl _ z h)
      rw [List.length_dropLast, List.length_reverse] at hi
      show (if 0 ≤ i ∧ i < 0 + 615 then pa (0 + (i - 0) + 41) else pa i) = pa (i + 41)
      rw [if_pos (by omega), show 0 + (i - 0) + 41 = i + 41 by omega]
    · rw [if_neg e, if_neg e]
      exact h
  rw [hk, List.reverse_append]
  refine ⟨?_, by rw [List.length_append, hlen]; rfl⟩
  show mPa _ z' (q :: l2.reverse)
  have hr : l2.reverse.length = rmA l.length := by rw [List.length_reverse, hlen]
  refine ⟨fun c hc => ?_, fun c hc => ?_, fun k hk => ?_, ?_⟩
  · rw [hr, rmN_at, if_neg (by omega), if_pos (by omega)]
    exact hs _
  · rw [e1.1, e1.2.1] at hc
    have := gIn_36 r6 hc
    rw [hr, rmN_at, if_neg (by omega), if_pos (by omega), hu, show 0 + (41 * rmA l.length + c - 41 * rmA l.length) = c by omega]
    exact hso c hc
  · rw [e1.2.2] at hk
    rw [hr, rmN_at, if_pos (by omega), hu, show 0 + (41 * rmA l.length + 36 + k - (41 * rmA l.length + 36)) = k by omega]
    exact hgo k hk
  · rw [hu]
    refine mPa_cg _ z r6 n5 (fun i hi => ?_) hm
    rw [hr] at hi
    rw [rmN_at, if_neg (by omega), if_neg (by omega)]
section MPG
variable {Γ : GT} {σ : AH} {m : Nat} {I : Nat → Int} {PLm GOm : Nat → Int}
theorem sp_isPG (hΓ : Gd Γ) (h0 : σ.2 m = some (mdo m I)) (h8 : σ.2 (m + 8) = some (ai 5 PLm)) (h9 : σ.2 (m + 9) = some (ai 5 GOm)) {n : Nat} (hn : I 15 = n) (hn5 : n ≤ 5) (hp : ∀ k, k < n → rg (PLm k) ∧ rg (GOm k)) (c : Int) (hc : rg c) : Sp Γ miX10_isPlaceOrGoal 0 0 [.ref m, .int (ii c)] σ (rb (tkn n PLm GOm c) σ) noX := by
  refine Sp_of (L := [_, _, _]) hΓ (by decide +kernel) rfl (Nat.le_of_ble_eq_true rfl) rfl ?_
  refine g_iconst q_X10_isPlaceOrGoal_0 ?_
  refine g_istore_n (L' := [_, _, _]) q_X10_isPlaceOrGoal_1 (by decide) rfl ?_
  refine g_loop (fun k => k ≤ n ∧ ∀ j, j < k → ¬ (PLm j = c ∨ GOm j = c)) (fun k : Nat => G Γ _ cX10_isPlaceOrGoal _ _ 0 0 2 [some (.ref m), some (.int (ii c)), some (.int (ii k))] [] σ) (fun k => n - k) ?_ 0 ⟨Nat.zero_le _, fun j hj => absurd hj (Nat.not_lt_zero j)⟩
  rintro k ⟨hk, hno⟩ ih
  refine g_iload_n q_X10_isPlaceOrGoal_2 rfl ?_
  refine g_aload_n q_X10_isPlaceOrGoal_3 rfl ?_
  refine g_get fl_X10_220 q_X10_isPlaceOrGoal_4 (by repeat first | with_reducible assumption | with_reducible exact hput_s _ _ _ | refine (hput_n _ _ (by omega)).trans ?_ | exact hput_s _ _ _ | assumption) rfl ?_
  refine g_topi (b := (n : Int)) (by exact hn) ?_
  refine g_icmp_ge (tgt := 38) q_X10_isPlaceOrGoal_7 (by decide) ⟨by omega, by omega⟩ ⟨by omega, by omega⟩ (fun b1 => ?_) (fun b1 => ?_)
  · have e : tkn n PLm GOm c = false := decide_eq_false (fun ⟨j, q1, q2⟩ => hno j (by omega) q2)
    rw [e]
    refine g_iconst q_X10_isPlaceOrGoal_38 ?_
    refine g_zreturn q_X10_isPlaceOrGoal_39.1 rfl (by first | exact Or.inl rfl | exact Or.inr rfl | omega) ?_
    exact ⟨rfl, rfl⟩
  have yes : (PLm k = c ∨ GOm k = c) → G Γ miX10_isPlaceOrGoal cX10_isPlaceOrGoal (rb (tkn n PLm GOm c) σ) noX 0 0 30 [some (.ref m), some (.int (ii c)), some (.int (ii k))] [] σ := fun q => by
    rw [show tkn n PLm GOm c = true from decide_eq_true ⟨k, by omega, q⟩]
    refine g_iconst q_X10_isPlaceOrGoal_30 ?_
    refine g_zreturn q_X10_isPlaceOrGoal_31.1 rfl (by first | exact Or.inl rfl | exact Or.inr rfl | omega) ?_
    exact ⟨rfl, rfl⟩
  obtain ⟨r1, r2⟩ := hp k (by omega)
  refine g_aload_n q_X10_isPlaceOrGoal_10 rfl ?_
  refine g_get fl_X10_36 q_X10_isPlaceOrGoal_11 (by repeat first | with_reducible assumption | with_reducible exact hput_s _ _ _ | refine (hput_n _ _ (by omega)).trans ?_ | exact hput_s _ _ _ | assumption) rfl ?_
  refine g_iload_n q_X10_isPlaceOrGoal_14 rfl ?_
  refine g_iaload q_X10_isPlaceOrGoal_15 (by repeat first | with_reducible assumption | with_reducible exact hput_s _ _ _ | refine (hput_n _ _ (by omega)).trans ?_ | exact hput_s _ _ _ | assumption) (by omega) (by omega) ?_
  refine g_topi (b := PLm k) (by rfl) ?_
  refine g_iload_n q_X10_isPlaceOrGoal_16 rfl ?_
  refine g_icmp_eq (tgt := 30) q_X10_isPlaceOrGoal_17 (by decide) r1 hc (fun b2 => ?_) (fun b2 => ?_)
  · exact yes (Or.inl b2)
  refine g_aload_n q_X10_isPlaceOrGoal_20 rfl ?_
  refine g_get fl_X10_39 q_X10_isPlaceOrGoal_21 (by repeat first | with_reducible assumption | with_reducible exact hput_s _ _ _ | refine (hput_n _ _ (by omega)).trans ?_ | exact hput_s _ _ _ | assumption) rfl ?_
  refine g_iload_n q_X10_isPlaceOrGoal_24 rfl ?_
  refine g_iaload q_X10_isPlaceOrGoal_25 (by repeat first | with_reducible assumption | with_reducible exact hput_s _ _ _ | refine (hput_n _ _ (by omega)).trans ?_ | exact hput_s _ _ _ | assumption) (by omega) (by omega) ?_
  refine g_topi (b := GOm k) (by rfl) ?_
  refine g_iload_n q_X10_isPlaceOrGoal_26 rfl ?_
  refine g_icmp_ne (tgt := 32) q_X10_isPlaceOrGoal_27 (by decide) r2 hc (fun b3 => ?_) (fun b3 => ?_)
  · have hnx := ih (k + 1) ⟨by omega, fun j hj => by
      by_cases e : j = k
      · subst e; exact fun q => q.elim b2 b3
      · exact hno j (by omega)⟩ (by omega)
    refine g_iinc (L' := [_, _, _]) q_X10_isPlaceOrGoal_32 rfl rfl ?_
    refine g_goto (tgt := 2) q_X10_isPlaceOrGoal_35 (by decide) ?_
    exact hnx
  · exact yes (Or.inr (by omega))
end MPG

