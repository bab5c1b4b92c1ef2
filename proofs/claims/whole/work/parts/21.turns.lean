/-! Turns: object u, its ways at u + 1, order at u + 4 -/
abbrev tuo (u : Nat) (ve nu bv bn bs : Int) : AE := ob 7 [.ref (u + 1), .ref (u + 4), .int (ii ve), .int (ii nu), .int (ii bv), .int (ii bn), .int (ii bs)]
def frc5 (T : Nat) : Nat → Nat → Nat
  | 0, _ => 0
  | r + 1, s => if T.testBit (4 - r) then frc5 T r s else if s = 0 then 4 - r else frc5 T r (s - 1)
def frc (T s : Nat) : Nat := frc5 T 5 s
theorem frc5_lt (T : Nat) : ∀ r s, frc5 T r s < 5
  | 0, s => by show 0 < 5; decide
  | r + 1, s => by
    unfold frc5
    split
    · exact frc5_lt T r s
    · split
      · omega
      · exact frc5_lt T r (s - 1)
def facN (j : Nat) : Nat := match j with
  | 0 => 1
  | 1 => 1
  | 2 => 2
  | 3 => 6
  | 4 => 24
  | _ => 120
theorem facN_eq (j : Nat) : t_fac j = (facN j : Int) := by
  match j with
  | 0 => rfl
  | 1 => rfl
  | 2 => rfl
  | 3 => rfl
  | 4 => rfl
  | j + 5 => rfl
theorem facN_pos (j : Nat) : 0 < facN j ∧ facN j ≤ 120 := by
  match j with
  | 0 => decide
  | 1 => decide
  | 2 => decide
  | 3 => decide
  | 4 => decide
  | j + 5 => exact ⟨by show 0 < 120; decide, by show 120 ≤ 120; decide⟩
def odS (n told : Nat) : Nat → Nat × Nat
  | 0 => (told, 0)
  | k + 1 => ((odS n told k).1 % facN (n - 1 - k), (odS n told k).2 ||| 2 ^ frc (odS n told k).2 ((odS n told k).1 / facN (n - 1 - k)))
def ordC (n told k : Nat) : Nat := frc (odS n told k).2 ((odS n told k).1 / facN (n - 1 - k))
theorem odS_rg (n told : Nat) (h : told < 1000) : ∀ k, (odS n told k).1 < 1000 ∧ (odS n told k).2 < 32
  | 0 => ⟨h, by show 0 < 32; decide⟩
  | k + 1 => by
    have ih := odS_rg n told h k
    refine ⟨Nat.lt_of_le_of_lt (Nat.mod_le _ _) ih.1, ?_⟩
    have h5 := frc5_lt (odS n told k).2 5 ((odS n told k).1 / facN (n - 1 - k))
    have h2 : 2 ^ frc (odS n told k).2 ((odS n told k).1 / facN (n - 1 - k)) < 2 ^ 5 := Nat.pow_lt_pow_right (by decide) h5
    exact Nat.or_lt_two_pow (n := 5) ih.2 h2
theorem bt_ush : ∀ T : Fin 32, ∀ c : Fin 5, ((ii ((T : Nat) : Int)).toUInt32 >>> ((ii ((c : Nat) : Int)).toUInt32 &&& Int32.toUInt32 31)).toInt32 &&& ii 1 = ii (bi ((T : Nat).testBit c)) := by decide +kernel
theorem bt_sh : ∀ T : Fin 32, ∀ c : Fin 5, (ii ((T : Nat) : Int) >>> (ii ((c : Nat) : Int) &&& 31)) &&& ii 1 = ii (bi ((T : Nat).testBit c)) := by decide +kernel
theorem bt_or : ∀ T : Fin 32, ∀ c : Fin 5, ii ((T : Nat) : Int) ||| (ii 1 <<< (ii ((c : Nat) : Int) &&& 31)) = ii (((T : Nat) ||| 2 ^ (c : Nat) : Nat) : Int) := by decide +kernel
/-- what a way forbids to those behind -/
def fwC (ce : Nat → BitVec 64) (W : Nat → Int) : Nat → BitVec 64 := fun t => ce t ||| bt1 (W t).toNat
def fwM (mv : Nat → BitVec 64) (W : Nat → Int) : Nat → (Nat → BitVec 64)
  | 0 => mv
  | t + 1 => if W (t + 1) ≠ W t then fbm (fwM mv W t) (W (t + 1)).toNat (W t) (t + 1) 4 else fwM mv W t
theorem fwM_s (mv : Nat → BitVec 64) (W : Nat → Int) (t : Nat) : fwM mv W (t + 1) = if W (t + 1) ≠ W t then fbm (fwM mv W t) (W (t + 1)).toNat (W t) (t + 1) 4 else fwM mv W t := rfl
def tuS (lv : Nat → BitVec 64) (PL GO : Nat → Int) (OR : Nat → Nat) : Nat → Bool × (Nat → BitVec 64) × (Nat → BitVec 64)
  | 0 => (true, (fun _ => 0), (fun _ => 0))
  | k + 1 =>
    let q := tuS lv PL GO OR k
    if q.1 = true then
      (if lcs lv q.2.2 q.2.1 (PL (OR k)).toNat (GO (OR k)).toNat = -1 then (false, q.2.1, q.2.2)
       else (true, fwC q.2.1 (wyt lv q.2.2 q.2.1 (PL (OR k)).toNat (GO (OR k)).toNat), fwM q.2.2 (wyt lv q.2.2 q.2.1 (PL (OR k)).toNat (GO (OR k)).toNat) 40))
    else q
def tuc (lv : Nat → BitVec 64) (PL GO : Nat → Int) (OR : Nat → Nat) (k : Nat) : Int := lcs lv (tuS lv PL GO OR k).2.2 (tuS lv PL GO OR k).2.1 (PL (OR k)).toNat (GO (OR k)).toNat
def tuw (lv : Nat → BitVec 64) (PL GO : Nat → Int) (OR : Nat → Nat) (k : Nat) : Nat → Int := wyt lv (tuS lv PL GO OR k).2.2 (tuS lv PL GO OR k).2.1 (PL (OR k)).toNat (GO (OR k)).toNat
section TU
variable {Γ : GT} {σ : AH} {u s g cols rows carts : Nat} {lv mv ce bk : Nat → BitVec 64} {PL GO P C OR : Nat → Int} {ve nu bv bn bs : Int}
theorem sp_freeCart (hΓ : Gd Γ) (T s : Nat) (hT : T < 32) (hs : s < 1000) : Sp Γ miX7_freeCart 0 0 [.int (ii T), .int (ii s)] σ (ri (frc T s) σ) noX := by
  refine Sp_of (L := [_, _, _, _]) hΓ (by decide +kernel) rfl (Nat.le_of_ble_eq_true rfl) rfl ?_
  refine g_iload_n q_X7_freeCart_0 rfl ?_
  refine g_istore_n (L' := [_, _, _, _]) q_X7_freeCart_1 (by decide) rfl ?_
  refine g_iconst q_X7_freeCart_2 ?_
  refine g_istore_n (L' := [_, _, _, _]) q_X7_freeCart_3 (by decide) rfl ?_
  refine g_loop2 (fun (r s2 : Nat) => r ≤ 5 ∧ s2 < 1000 ∧ frc T s = frc5 T r s2) (fun r s2 => G Γ _ cX7_freeCart _ _ 0 0 4 [some (.int (ii T)), some (.int (ii s)), some (.int (ii s2)), some (.int (ii ((5 - r : Nat) : Int)))] [] σ) (fun r _ => r) ?_ 5 s ⟨Nat.le_refl _, hs, rfl⟩
  rintro r s2 ⟨hr, hs2, he⟩ ih
  refine g_iload_n q_X7_freeCart_4 rfl ?_
  refine g_iconst q_X7_freeCart_5 ?_
  refine g_icmp_ge (tgt := 32) q_X7_freeCart_6 (by decide) ⟨by omega, by omega⟩ ⟨by omega, by omega⟩ (fun hx => ?_) (fun hx => ?_)
  · refine g_iconst q_X7_freeCart_32 ?_
    refine g_ireturn q_X7_freeCart_33.1 rfl ?_
    rw [he, show r = 0 by omega]
    exact ⟨rfl, rfl⟩
  · obtain ⟨r2, rfl⟩ : ∃ r2, r = r2 + 1 := ⟨r - 1, by omega⟩
    have e5 : 5 - (r2 + 1) = 4 - r2 := by omega
    rw [e5] at *
    refine g_iload_n q_X7_freeCart_9 rfl ?_
    refine g_iload_n q_X7_freeCart_10 rfl ?_
    refine g_iushr q_X7_freeCart_11 ?_
    refine g_iconst q_X7_freeCart_12 ?_
    refine g_iand q_X7_freeCart_13 ?_
    refine g_top (v' := .int (ii (bi (T.testBit (4 - r2))))) (congrArg Value.int (bt_ush ⟨T, hT⟩ ⟨4 - r2, by omega⟩)) ?_
    have nxt : ∀ s3, s3 < 1000 → frc T s = frc5 T r2 s3 → G Γ miX7_freeCart cX7_freeCart (ri (frc T s) σ) noX 0 0 26 [some (.int (ii T)), some (.int (ii s)), some (.int (ii s3)), some (.int (ii ((4 - r2 : Nat) : Int)))] [] σ := by
      intro s3 h3 h4
      refine g_iinc (L' := [_, _, _, _]) q_X7_freeCart_26 rfl rfl ?_
      refine g_goto (tgt := 4) q_X7_freeCart_29 (by decide) ?_
      have := ih r2 s3 ⟨by omega, h3, h4⟩ (by omega)
      rw [show 5 - r2 = 4 - r2 + 1 by omega] at this
      exact this
    refine g_if_ne (tgt := 26) q_X7_freeCart_14 (by decide) (bi_rg _) (fun hd => ?_) (fun hd => ?_)
    · exact nxt s2 hs2 (by rw [he, frc5, if_pos (bi_t hd)])
    · have hb := bi_f hd
      refine g_iload_n q_X7_freeCart_17 rfl ?_
      refine g_if_ne (tgt := 23) q_X7_freeCart_18 (by decide) ⟨by omega, by omega⟩ (fun hd2 => ?_) (fun hd2 => ?_)
      · refine g_iinc (L' := [_, _, _, _]) q_X7_freeCart_23 rfl rfl ?_
        have := nxt (s2 - 1) (by omega) (by rw [he, frc5, if_neg (by rw [hb]; decide), if_neg (by omega)])
        rw [show ((s2 - 1 : Nat) : Int) = (s2 : Int) + -1 by omega] at this
        exact this
      · refine g_iload_n q_X7_freeCart_21 rfl ?_
        refine g_ireturn q_X7_freeCart_22.1 rfl ?_
        refine ⟨?_, rfl⟩
        rw [he, frc5, if_neg (by rw [hb]; decide), if_pos (by omega)]
theorem sp_takeOrder (hΓ : Gd Γ) (h0 : σ.2 u = some (tuo u ve nu bv bn bs)) (h4 : σ.2 (u + 4) = some (ai 5 OR)) (told n : Nat) (ht : told < 1000) (hn : n ≤ 5) : Sp Γ miX7_takeOrder 0 0 [.ref u, .int (ii told), .int (ii n)] σ (fun r σ' => r = none ∧ ∃ OR', σ' = hput σ (u + 4) (ai 5 OR') ∧ ∀ k, k < n → OR' k = (ordC n told k : Int)) noX := by
  obtain ⟨tF, hzF, hrF⟩ := st_FACTORIALS hΓ
  refine Sp_of (L := [_, _, _, _, _, _, _, _]) hΓ (by decide +kernel) rfl (Nat.le_of_ble_eq_true rfl) rfl ?_
  refine g_iload_n q_X7_takeOrder_0 rfl ?_
  refine g_istore_n (L' := [_, _, _, _, _, _, _, _]) q_X7_takeOrder_1 (by decide) rfl ?_
  refine g_iconst q_X7_takeOrder_2 ?_
  refine g_istore (L' := [_, _, _, _, _, _, _, _]) q_X7_takeOrder_3 (by decide) rfl ?_
  refine g_iconst q_X7_takeOrder_5 ?_
  refine g_istore (L' := [_, _, _, _, _, _, _, _]) q_X7_takeOrder_6 (by decide) rfl ?_
  refine g_eq (σ2 := hput σ (u + 4) (ai 5 OR)) rfl rfl (hput_id h4).symm ?_
  refine g_loop2 (fun (k : Nat) (OR2 : Nat → Int) => k ≤ n ∧ ∀ j, j < k → OR2 j = (ordC n told j : Int)) (fun k OR2 => G Γ _ cX7_takeOrder _ _ 0 0 8 [some (.ref u), some (.int (ii told)), some (.int (ii n)), some (.int (ii ((odS n told k).1 : Int))), some (.int (ii ((odS n told k).2 : Int))), some (.int (ii k)), none, none] [] (hput σ (u + 4) (ai 5 OR2))) (fun k _ => n - k) ?_ 0 OR ⟨Nat.zero_le _, fun j h => absurd h (Nat.not_lt_zero j)⟩
  rintro k OR2 ⟨hk, hO⟩ ih
  have hrg := odS_rg n told ht k
  obtain ⟨le, hle⟩ : ∃ le, le = (odS n told k).1 := ⟨_, rfl⟩
  obtain ⟨tk, htk⟩ : ∃ tk, tk = (odS n told k).2 := ⟨_, rfl⟩
  rw [← hle, ← htk] at hrg ⊢
  refine g_iload q_X7_takeOrder_8 rfl ?_
  refine g_iload_n q_X7_takeOrder_10 rfl ?_
  refine g_icmp_ge (tgt := 66) q_X7_takeOrder_11 (by decide) ⟨by omega, by omega⟩ ⟨by omega, by omega⟩ (fun hx => ?_) (fun hx => ?_)
  · have e : k = n := by omega
    subst e
    refine g_return q_X7_takeOrder_66.1 rfl ?_
    exact ⟨rfl, OR2, rfl, hO⟩
  · have hf := facN_pos (n - 1 - k)
    have ei : ((n : Int) - 1 - k) = ((n - 1 - k : Nat) : Int) := by omega
    refine g_getst ls_X7_38 hzF q_X7_takeOrder_14 ?_
    refine g_iload_n q_X7_takeOrder_17 rfl ?_
    refine g_iconst q_X7_takeOrder_18 ?_
    refine g_isub q_X7_takeOrder_19 ?_
    refine g_iload q_X7_takeOrder_20 rfl ?_
    refine g_isub q_X7_takeOrder_22 ?_
    refine g_topi (b := ((n - 1 - k : Nat) : Int)) (by exact ei) ?_
    refine g_iaload_ro q_X7_takeOrder_23 (by assumption) (by omega) (by omega) (by decide) ?_
    refine g_topi (b := (facN (n - 1 - k) : Int)) (by exact facN_eq _) ?_
    refine g_istore (L' := [_, _, _, _, _, _, _, _]) q_X7_takeOrder_24 (by decide) rfl ?_
    refine g_iload q_X7_takeOrder_26 rfl ?_
    refine g_iload_n q_X7_takeOrder_28 rfl ?_
    refine g_iload q_X7_takeOrder_29 rfl ?_
    refine g_idiv q_X7_takeOrder_31 ⟨by omega, by omega⟩ ⟨by omega, by omega⟩ (by omega) ?_
    refine g_topi (b := ((le / facN (n - 1 - k) : Nat) : Int)) (by exact Int.ofNat_tdiv le _) ?_
    have hdl : le / facN (n - 1 - k) ≤ le := Nat.div_le_self _ _
    refine g_callS (rc' := 0) (rs' := 0) (As := [_, _]) cs_X7_41 q_X7_takeOrder_32 (sp_freeCart hΓ tk (le / facN (n - 1 - k)) hrg.2 (by omega)) rfl rfl rfl (Nat.le_of_ble_eq_true rfl) (by decide) (by decide) (by decide) (fun _ _ h => h.elim) (k_ri ?_)
    have hc5 : frc tk (le / facN (n - 1 - k)) < 5 := frc5_lt _ _ _
    refine g_istore (L' := [_, _, _, _, _, _, _, _]) q_X7_takeOrder_35 (by decide) rfl ?_
    refine g_iload_n q_X7_takeOrder_37 rfl ?_
    refine g_iload q_X7_takeOrder_38 rfl ?_
    refine g_irem q_X7_takeOrder_40 ⟨by omega, by omega⟩ ⟨by omega, by omega⟩ (by omega) ?_
    refine g_topi (b := ((le % facN (n - 1 - k) : Nat) : Int)) (by exact Int.ofNat_tmod le _) ?_
    refine g_istore_n (L' := [_, _, _, _, _, _, _, _]) q_X7_takeOrder_41 (by decide) rfl ?_
    refine g_iload q_X7_takeOrder_42 rfl ?_
    refine g_iconst q_X7_takeOrder_44 ?_
    refine g_iload q_X7_takeOrder_45 rfl ?_
    refine g_ishl q_X7_takeOrder_47 ?_
    refine g_ior q_X7_takeOrder_48 ?_
    refine g_top (v' := .int (ii ((tk ||| 2 ^ frc tk (le / facN (n - 1 - k)) : Nat) : Int))) (congrArg Value.int (bt_or ⟨tk, hrg.2⟩ ⟨frc tk (le / facN (n - 1 - k)), hc5⟩)) ?_
    refine g_istore (L' := [_, _, _, _, _, _, _, _]) q_X7_takeOrder_49 (by decide) rfl ?_
    refine g_aload_n q_X7_takeOrder_51 rfl ?_
    refine g_get fl_X7_18 q_X7_takeOrder_52 (by repeat first | with_reducible assumption | with_reducible exact hput_s _ _ _ | refine (hput_n _ _ (by omega)).trans ?_ | exact hput_s _ _ _ | assumption) rfl ?_
    refine g_iload q_X7_takeOrder_55 rfl ?_
    refine g_iload q_X7_takeOrder_57 rfl ?_
    refine g_iastore q_X7_takeOrder_59 (by repeat first | with_reducible assumption | with_reducible exact hput_s _ _ _ | refine (hput_n _ _ (by omega)).trans ?_ | exact hput_s _ _ _ | assumption) (by omega) (by omega) ?_
    refine g_iinc (L' := [_, _, _, _, _, _, _, _]) q_X7_takeOrder_60 rfl rfl ?_
    refine g_goto (tgt := 8) q_X7_takeOrder_63 (by decide) ?_
    rw [hput_hput]
    have := ih (k + 1) (va_up OR2 k ((frc tk (le / facN (n - 1 - k)) : Nat) : Int)) ⟨by omega, fun j hj => by
      unfold va_up
      by_cases q : j = k
      · rw [if_pos q, q]; unfold ordC; rw [← hle, ← htk]
      · rw [if_neg q]; exact hO j (by omega)⟩ (by omega)
    rw [odS, ← hle, ← htk] at this
    exact g_fl this ⟨rfl, rfl, rfl, rfl, rfl, rfl, trivial⟩
theorem sp_forbidWay (hΓ : Gd Γ) {n : Nat} (hP : okP P) (h0 : σ.2 u = some (tuo u ve nu bv bn bs)) (hW : WYo σ (u + 1) n P C) (hs0 : σ.2 s = some (sro s)) (hs1 : σ.2 (s + 1) = some (al 41 ce)) (hs2 : σ.2 (s + 2) = some (al 164 mv)) (hus : u + 4 < s ∨ s + 3 < u) (c : Nat) (hc : c < 5) : Sp Γ miX7_forbidWay 0 0 [.ref u, .ref s, .int (ii c)] σ (rv (hput (hput σ (s + 1) (al 41 (fwC ce (fun t => P (41 * c + t))))) (s + 2) (al 164 (fwM mv (fun t => P (41 * c + t)) 40)))) noX := by
  obtain ⟨⟨ct, cs, cl, co, w0⟩, w1, w2⟩ := hW
  have hPt : ∀ t, 0 ≤ P (41 * c + t) ∧ P (41 * c + t) < 36 := fun t => hP _
  have cel : ∀ t, ∃ x : Nat, P (41 * c + t) = x ∧ x < 36 := fun t => ⟨(P (41 * c + t)).toNat, by have := hPt t; omega, by have := hPt t; omega⟩
  refine Sp_of (L := [_, _, _, _]) hΓ (by decide +kernel) rfl (Nat.le_of_ble_eq_true rfl) rfl ?_
  refine g_aload_n q_X7_forbidWay_0 rfl ?_
  refine g_aload_n q_X7_forbidWay_1 rfl ?_
  refine g_get fl_X7_12 q_X7_forbidWay_2 (by repeat first | with_reducible assumption | with_reducible exact hput_s _ _ _ | refine (hput_n _ _ (by omega)).trans ?_ | exact hput_s _ _ _ | assumption) rfl ?_
  refine g_iload_n q_X7_forbidWay_5 rfl ?_
  refine g_iconst q_X7_forbidWay_6 ?_
  refine g_callVN (rc' := 0) (rs' := 0) (As := [_, _]) cs_X7_70 q_X7_forbidWay_7 (sp_cellOf hΓ w0 w1 c 0 hc (by decide)) rfl (by repeat first | with_reducible assumption | with_reducible exact hput_s _ _ _ | refine (hput_n _ _ (by omega)).trans ?_ | exact hput_s _ _ _ | assumption) rfl rfl rfl rfl (Nat.le_of_ble_eq_true rfl) (by decide) (by decide) (by decide) (fun _ _ h => h.elim) (k_ri ?_)
  obtain ⟨x0, hx0, hx0l⟩ := cel 0
  refine g_topi (b := (x0 : Int)) hx0 ?_
  refine g_iconst q_X7_forbidWay_10 ?_
  refine g_callVN (rc' := 0) (rs' := 0) (As := [_, _]) cs_X7_73 q_X7_forbidWay_11 (sp_forbidCell hΓ hs0 hs1 x0 0 (by omega) (by decide)) rfl (by repeat first | with_reducible assumption | with_reducible exact hput_s _ _ _ | refine (hput_n _ _ (by omega)).trans ?_ | exact hput_s _ _ _ | assumption) rfl rfl rfl rfl (Nat.le_of_ble_eq_true rfl) (by decide) (by decide) (by decide) (fun _ _ h => h.elim) (k_rv ?_)
  refine g_iconst q_X7_forbidWay_14 ?_
  refine g_istore_n (L' := [_, _, _, _]) q_X7_forbidWay_15 (by decide) rfl ?_
  refine g_eq (σ2 := hput (hput σ (s + 1) (al 41 (va_up ce 0 (ce 0 ||| bt1 x0)))) (s + 2) (al 164 (fwM mv (fun t => P (41 * c + t)) 0))) rfl rfl (hput_id ((hput_n _ _ (by omega)).trans hs2)).symm ?_
  refine g_loop2 (fun (t : Nat) (ce2 : Nat → BitVec 64) => t ≤ 40 ∧ ∀ j, ce2 j = if j ≤ t then fwC ce (fun t => P (41 * c + t)) j else ce j) (fun t ce2 => G Γ _ cX7_forbidWay _ _ 0 0 16 [some (.ref u), some (.ref s), some (.int (ii c)), some (.int (ii ((t + 1 : Nat) : Int)))] [] (hput (hput σ (s + 1) (al 41 ce2)) (s + 2) (al 164 (fwM mv (fun t => P (41 * c + t)) t)))) (fun t _ => 40 - t) ?_ 0 _ ⟨Nat.zero_le _, fun j => ?_⟩
  · rintro t ce2 ⟨ht, hce⟩ ih
    obtain ⟨mv2, hmv2⟩ : ∃ m, m = fwM mv (fun t => P (41 * c + t)) t := ⟨_, rfl⟩
    rw [← hmv2]
    refine g_iload_n q_X7_forbidWay_16 rfl ?_
    refine g_bipush q_X7_forbidWay_17 bp_40 ?_
    refine g_icmp_gt (tgt := 79) q_X7_forbidWay_19 (by decide) ⟨by omega, by omega⟩ ⟨by omega, by omega⟩ (fun hx => ?_) (fun hx => ?_)
    · have e : t = 40 := by omega
      subst e
      refine g_repJ (t := 2) (a := s + 1) (n := 41) (f := ce2) (f' := fwC ce (fun t => P (41 * c + t))) (by repeat first | with_reducible assumption | with_reducible exact hput_s _ _ _ | refine (hput_n _ _ (by omega)).trans ?_ | exact hput_s _ _ _ | assumption) (fun j hj => by rw [hce, if_pos (by omega)]) ?_
      rw [hput_comm _ _ _ (show s + 2 ≠ s + 1 by omega), hput_hput]
      refine g_return q_X7_forbidWay_79.1 rfl ?_
      rw [hmv2]
      exact ⟨rfl, rfl⟩
    · obtain ⟨x1, hx1, hx1l⟩ := cel (t + 1)
      obtain ⟨x2, hx2, hx2l⟩ := cel t
      have hput3 : ∀ ce3 : Nat → BitVec 64, hput (hput (hput σ (s + 1) (al 41 ce2)) (s + 2) (al 164 mv2)) (s + 1) (al 41 ce3) = hput (hput σ (s + 1) (al 41 ce3)) (s + 2) (al 164 mv2) := fun ce3 => by rw [hput_comm _ _ _ (show s + 2 ≠ s + 1 by omega), hput_hput]
      have k0 : ∀ ce3, (hput (hput σ (s + 1) (al 41 ce3)) (s + 2) (al 164 mv2)).2 (u + 1) = some (wyo (u + 1) n ct cs cl co) := fun ce3 => (by repeat first | with_reducible assumption | with_reducible exact hput_s _ _ _ | refine (hput_n _ _ (by omega)).trans ?_ | exact hput_s _ _ _ | assumption)
      have k1 : ∀ ce3, (hput (hput σ (s + 1) (al 41 ce3)) (s + 2) (al 164 mv2)).2 (u + 1 + 1) = some (ai 205 P) := fun ce3 => (by repeat first | with_reducible assumption | with_reducible exact hput_s _ _ _ | refine (hput_n _ _ (by omega)).trans ?_ | exact hput_s _ _ _ | assumption)
      have ks : ∀ ce3, (hput (hput σ (s + 1) (al 41 ce3)) (s + 2) (al 164 mv2)).2 s = some (sro s) := fun ce3 => (by repeat first | with_reducible assumption | with_reducible exact hput_s _ _ _ | refine (hput_n _ _ (by omega)).trans ?_ | exact hput_s _ _ _ | assumption)
      refine g_aload_n q_X7_forbidWay_22 rfl ?_
      refine g_aload_n q_X7_forbidWay_23 rfl ?_
      refine g_get fl_X7_12 q_X7_forbidWay_24 (by repeat first | with_reducible assumption | with_reducible exact hput_s _ _ _ | refine (hput_n _ _ (by omega)).trans ?_ | exact hput_s _ _ _ | assumption) rfl ?_
      refine g_iload_n q_X7_forbidWay_27 rfl ?_
      refine g_iload_n q_X7_forbidWay_28 rfl ?_
      refine g_callVN (rc' := 0) (rs' := 0) (As := [_, _]) cs_X7_70 q_X7_forbidWay_29 (sp_cellOf hΓ (k0 _) (k1 _) c (t + 1) hc (by omega)) rfl (by repeat first | with_reducible assumption | with_reducible exact hput_s _ _ _ | refine (hput_n _ _ (by omega)).trans ?_ | exact hput_s _ _ _ | assumption) rfl rfl rfl rfl (Nat.le_of_ble_eq_true rfl) (by decide) (by decide) (by decide) (fun _ _ h => h.elim) (k_ri ?_)
      refine g_topi (b := (x1 : Int)) hx1 ?_
      refine g_iload_n q_X7_forbidWay_32 rfl ?_
      refine g_callVN (rc' := 0) (rs' := 0) (As := [_, _]) cs_X7_73 q_X7_forbidWay_33 (sp_forbidCell hΓ (ks _) (ce := ce2) ((hput_n _ _ (by omega)).trans (hput_s _ _ _)) x1 (t + 1) (by omega) (by omega)) rfl (by repeat first | with_reducible assumption | with_reducible exact hput_s _ _ _ | refine (hput_n _ _ (by omega)).trans ?_ | exact hput_s _ _ _ | assumption) rfl rfl rfl rfl (Nat.le_of_ble_eq_true rfl) (by decide) (by decide) (by decide) (fun _ _ h => h.elim) (k_rv ?_)
      rw [hput3]
      obtain ⟨ce3, hce3⟩ : ∃ ce3, ce3 = va_up ce2 (t + 1) (ce2 (t + 1) ||| bt1 x1) := ⟨_, rfl⟩
      have hc3 : ∀ j, ce3 j = if j ≤ t + 1 then fwC ce (fun t => P (41 * c + t)) j else ce j := fun j => by
        rw [hce3]
        unfold va_up
        by_cases q : j = t + 1
        · subst q
          rw [if_pos rfl, if_pos (Nat.le_refl _), hce, if_neg (by omega)]
          show _ = ce (t + 1) ||| bt1 (P (41 * c + (t + 1))).toNat
          rw [hx1]
          rfl
        · rw [if_neg q, hce]
          by_cases q2 : j ≤ t
          · rw [if_pos q2, if_pos (by omega)]
          · rw [if_neg q2, if_neg (by omega)]
      rw [← hce3]
      have hnx := ih (t + 1) ce3 ⟨by omega, hc3⟩ (by omega)
      refine g_aload_n q_X7_forbidWay_36 rfl ?_
      refine g_get fl_X7_12 q_X7_forbidWay_37 (by repeat first | with_reducible assumption | with_reducible exact hput_s _ _ _ | refine (hput_n _ _ (by omega)).trans ?_ | exact hput_s _ _ _ | assumption) rfl ?_
      refine g_iload_n q_X7_forbidWay_40 rfl ?_
      refine g_iload_n q_X7_forbidWay_41 rfl ?_
      refine g_callVN (rc' := 0) (rs' := 0) (As := [_, _]) cs_X7_77 q_X7_forbidWay_42 (sp_comes hΓ hP (k0 _) (k1 _) c t hc (by omega)) rfl (by repeat first | with_reducible assumption | with_reducible exact hput_s _ _ _ | refine (hput_n _ _ (by omega)).trans ?_ | exact hput_s _ _ _ | assumption) rfl rfl rfl rfl (Nat.le_of_ble_eq_true rfl) (by decide) (by decide) (by decide) (fun _ _ h => h.elim) (k_rb ?_)
      refine g_if_eq (tgt := 73) q_X7_forbidWay_45 (by decide) (bi_rg _) (fun hd => ?_) (fun hd => ?_)
      · rw [fwM_s mv _ t, if_neg (of_decide_eq_false (bi_f hd)), ← hmv2] at hnx
        refine g_iinc (L' := [_, _, _, _]) q_X7_forbidWay_73 rfl rfl ?_
        refine g_goto (tgt := 16) q_X7_forbidWay_76 (by decide) ?_
        exact hnx
      · rw [fwM_s mv _ t, if_pos (of_decide_eq_true (bi_t hd)), ← hmv2, hx1, hx2] at hnx
        refine g_aload_n q_X7_forbidWay_48 rfl ?_
        refine g_aload_n q_X7_forbidWay_49 rfl ?_
        refine g_get fl_X7_12 q_X7_forbidWay_50 (by repeat first | with_reducible assumption | with_reducible exact hput_s _ _ _ | refine (hput_n _ _ (by omega)).trans ?_ | exact hput_s _ _ _ | assumption) rfl ?_
        refine g_iload_n q_X7_forbidWay_53 rfl ?_
        refine g_iload_n q_X7_forbidWay_54 rfl ?_
        refine g_callVN (rc' := 0) (rs' := 0) (As := [_, _]) cs_X7_70 q_X7_forbidWay_55 (sp_cellOf hΓ (k0 _) (k1 _) c (t + 1) hc (by omega)) rfl (by repeat first | with_reducible assumption | with_reducible exact hput_s _ _ _ | refine (hput_n _ _ (by omega)).trans ?_ | exact hput_s _ _ _ | assumption) rfl rfl rfl rfl (Nat.le_of_ble_eq_true rfl) (by decide) (by decide) (by decide) (fun _ _ h => h.elim) (k_ri ?_)
        refine g_topi (b := (x1 : Int)) hx1 ?_
        refine g_aload_n q_X7_forbidWay_58 rfl ?_
        refine g_get fl_X7_12 q_X7_forbidWay_59 (by repeat first | with_reducible assumption | with_reducible exact hput_s _ _ _ | refine (hput_n _ _ (by omega)).trans ?_ | exact hput_s _ _ _ | assumption) rfl ?_
        refine g_iload_n q_X7_forbidWay_62 rfl ?_
        refine g_iload_n q_X7_forbidWay_63 rfl ?_
        refine g_iconst q_X7_forbidWay_64 ?_
        refine g_isub q_X7_forbidWay_65 ?_
        refine g_topi (b := ((t : Nat) : Int)) (by omega) ?_
        refine g_callVN (rc' := 0) (rs' := 0) (As := [_, _]) cs_X7_70 q_X7_forbidWay_66 (sp_cellOf hΓ (k0 _) (k1 _) c t hc (by omega)) rfl (by repeat first | with_reducible assumption | with_reducible exact hput_s _ _ _ | refine (hput_n _ _ (by omega)).trans ?_ | exact hput_s _ _ _ | assumption) rfl rfl rfl rfl (Nat.le_of_ble_eq_true rfl) (by decide) (by decide) (by decide) (fun _ _ h => h.elim) (k_ri ?_)
        refine g_topi (b := (x2 : Int)) hx2 ?_
        refine g_iload_n q_X7_forbidWay_69 rfl ?_
        refine g_callVN (rc' := 0) (rs' := 0) (As := [_, _, _]) cs_X7_81 q_X7_forbidWay_70 (sp_forbidMove hΓ (ks _) (hput_s _ _ _) x1 x2 (t + 1) hx1l hx2l (by omega)) rfl (by repeat first | with_reducible assumption | with_reducible exact hput_s _ _ _ | refine (hput_n _ _ (by omega)).trans ?_ | exact hput_s _ _ _ | assumption) rfl rfl rfl rfl (Nat.le_of_ble_eq_true rfl) (by decide) (by decide) (by decide) (fun _ _ h => h.elim) (k_rv ?_)
        rw [hput_hput]
        refine g_iinc (L' := [_, _, _, _]) q_X7_forbidWay_73 rfl rfl ?_
        refine g_goto (tgt := 16) q_X7_forbidWay_76 (by decide) ?_
        exact hnx
  · unfold va_up
    by_cases q : j = 0
    · subst q
      rw [if_pos rfl, if_pos (Nat.le_refl _)]
      show _ = ce 0 ||| bt1 (P (41 * c + 0)).toNat
      rw [hx0]
      rfl
    · rw [if_neg q, if_neg (by omega)]
end TU

