/-! the law: its wrappers (written by lawwrap.py) -/
section LWr
variable {Γ : GT} {σ : AH} {x o mc ms : Nat} {fs : List Value} {g : Nat → BitVec 64} {QI : Int → AH → Prop} {XI : Nat → AH → Prop}
theorem sp_L_read (hΓ : Gd Γ) (hx : σ.2 x = some (ob 9 fs)) (sp : Sp Γ miX9_read mc ms [.ref x] σ (cQ QI) (cX [xIAE] XI)) (ho : ∀ v σ', QI v σ' → σ'.2 o = some (al 1 g)) : SpW Γ miL_read mc ms [.ref x, .ref o] σ (wQ o g QI XI) := by
  refine SpW_of (L := [_, _, _]) hΓ (by decide +kernel) (Nat.le_of_ble_eq_true rfl) rfl ?_
  refine g_aload_n q_L_read_0 rfl ?_
  refine g_iconst q_L_read_1 ?_
  refine g_aload_n q_L_read_2 rfl ?_
  refine g_callVC (rc' := 0) (rs' := 0) (As := []) cs_L_7 q_L_read_3 sp hx rfl rfl rfl rfl (Nat.le_of_ble_eq_true rfl) (by decide) (by omega) (by omega) (fun E σ' h => ?_) (fun v σ' h => ?_)
  · obtain ⟨k, hk, hX⟩ := h
    match k, hk, hX with
    | 0, hk, hX =>
      have hE : xIAE = E := Option.some.inj hk
      subst hE
      refine ⟨11, ⟨[], (0, 8, 11, 13), [], rfl, (fun z hz => by cases hz), by decide, by decide, gw_645, gw_828, rfl⟩, fun q => ?_⟩
      refine g_astore_n (L' := [_, _, _]) q_L_read_11 (by decide) rfl ?_
      refine g_iconst q_L_read_12 ?_
      refine g_ireturn q_L_read_13.1 rfl ?_
      exact Or.inr ⟨1, by omega, hX, rfl⟩
    | n + 1, hk, hX => exact absurd hk (by simp)
  · obtain ⟨v, rfl, hQ⟩ := h
    have hc := ho v σ' hQ
    refine g_top (v' := .int (ii (cn v))) (congrArg Value.int (ii_cn v).symm) ?_
    refine g_i2l q_L_read_6 (cn_rg v) ?_
    refine g_lastore q_L_read_7 (by repeat first | with_reducible assumption | with_reducible exact hput_s _ _ _ | refine (hput_n _ _ (by omega)).trans ?_ | exact hput_s _ _ _ | assumption) (by omega) (by omega) ?_
    refine g_goto (tgt := 14) q_L_read_8 (by decide) ?_
    refine g_iconst q_L_read_14 ?_
    refine g_ireturn q_L_read_15.1 rfl ?_
    exact Or.inl ⟨v, σ', hQ, rfl, rfl⟩
theorem sp_L_cell (hΓ : Gd Γ) (hx : σ.2 x = some (ob 9 fs)) {p0 p1 : Int} (sp : Sp Γ miX9_cell mc ms [.ref x, .int (ii p0), .int (ii p1)] σ (cQ QI) (cX [xIOB] XI)) (ho : ∀ v σ', QI v σ' → σ'.2 o = some (al 1 g)) : SpW Γ miL_cell mc ms [.ref x, .int (ii p0), .int (ii p1), .ref o] σ (wQ o g QI XI) := by
  refine SpW_of (L := [_, _, _, _, _]) hΓ (by decide +kernel) (Nat.le_of_ble_eq_true rfl) rfl ?_
  refine g_aload_n q_L_cell_0 rfl ?_
  refine g_iconst q_L_cell_1 ?_
  refine g_aload_n q_L_cell_2 rfl ?_
  refine g_iload_n q_L_cell_3 rfl ?_
  refine g_iload_n q_L_cell_4 rfl ?_
  refine g_callVC (rc' := 0) (rs' := 0) (As := [_, _]) cs_L_15 q_L_cell_5 sp hx rfl rfl rfl rfl (Nat.le_of_ble_eq_true rfl) (by decide) (by omega) (by omega) (fun E σ' h => ?_) (fun v σ' h => ?_)
  · obtain ⟨k, hk, hX⟩ := h
    match k, hk, hX with
    | 0, hk, hX =>
      have hE : xIOB = E := Option.some.inj hk
      subst hE
      refine ⟨13, ⟨[], (0, 10, 13, 19), [], rfl, (fun z hz => by cases hz), by decide, by decide, gw_905, gw_917, rfl⟩, fun q => ?_⟩
      refine g_astore (L' := [_, _, _, _, _]) q_L_cell_13 (by decide) rfl ?_
      refine g_iconst q_L_cell_15 ?_
      refine g_ireturn q_L_cell_16.1 rfl ?_
      exact Or.inr ⟨1, by omega, hX, rfl⟩
    | n + 1, hk, hX => exact absurd hk (by simp)
  · obtain ⟨v, rfl, hQ⟩ := h
    have hc := ho v σ' hQ
    refine g_top (v' := .int (ii (cn v))) (congrArg Value.int (ii_cn v).symm) ?_
    refine g_i2l q_L_cell_8 (cn_rg v) ?_
    refine g_lastore q_L_cell_9 (by repeat first | with_reducible assumption | with_reducible exact hput_s _ _ _ | refine (hput_n _ _ (by omega)).trans ?_ | exact hput_s _ _ _ | assumption) (by omega) (by omega) ?_
    refine g_goto (tgt := 17) q_L_cell_10 (by decide) ?_
    refine g_iconst q_L_cell_17 ?_
    refine g_ireturn q_L_cell_18.1 rfl ?_
    exact Or.inl ⟨v, σ', hQ, rfl, rfl⟩
theorem sp_L_cart (hΓ : Gd Γ) (hx : σ.2 x = some (ob 9 fs)) {p0 p1 : Int} (sp : Sp Γ miX9_cart mc ms [.ref x, .int (ii p0), .int (ii p1)] σ (cQ QI) (cX [xIOB, xNSE] XI)) (ho : ∀ v σ', QI v σ' → σ'.2 o = some (al 1 g)) : SpW Γ miL_cart mc ms [.ref x, .int (ii p0), .int (ii p1), .ref o] σ (wQ o g QI XI) := by
  refine SpW_of (L := [_, _, _, _, _]) hΓ (by decide +kernel) (Nat.le_of_ble_eq_true rfl) rfl ?_
  refine g_aload_n q_L_cart_0 rfl ?_
  refine g_iconst q_L_cart_1 ?_
  refine g_aload_n q_L_cart_2 rfl ?_
  refine g_iload_n q_L_cart_3 rfl ?_
  refine g_iload_n q_L_cart_4 rfl ?_
  refine g_callVC (rc' := 0) (rs' := 0) (As := [_, _]) cs_L_21 q_L_cart_5 sp hx rfl rfl rfl rfl (Nat.le_of_ble_eq_true rfl) (by decide) (by omega) (by omega) (fun E σ' h => ?_) (fun v σ' h => ?_)
  · obtain ⟨k, hk, hX⟩ := h
    match k, hk, hX with
    | 0, hk, hX =>
      have hE : xIOB = E := Option.some.inj hk
      subst hE
      refine ⟨13, ⟨[], (0, 10, 13, 19), [(0, 10, 17, 24)], rfl, (fun z hz => by cases hz), by decide, by decide, gw_905, gw_917, rfl⟩, fun q => ?_⟩
      refine g_astore (L' := [_, _, _, _, _]) q_L_cart_13 (by decide) rfl ?_
      refine g_iconst q_L_cart_15 ?_
      refine g_ireturn q_L_cart_16.1 rfl ?_
      exact Or.inr ⟨1, by omega, hX, rfl⟩
    | 1, hk, hX =>
      have hE : xNSE = E := Option.some.inj hk
      subst hE
      refine ⟨17, ⟨[(0, 10, 13, 19)], (0, 10, 17, 24), [], rfl, (fun z hz => by
        simp only [List.mem_cons, List.not_mem_nil, or_false] at hz
        rcases hz with rfl
        · exact ⟨by decide, _, gw_905, nc_NSE_IOB hΓ⟩), by decide, by decide, gw_933, gw_944, rfl⟩, fun q => ?_⟩
      refine g_astore (L' := [_, _, _, _, _]) q_L_cart_17 (by decide) rfl ?_
      refine g_iconst q_L_cart_19 ?_
      refine g_ireturn q_L_cart_20.1 rfl ?_
      exact Or.inr ⟨2, by omega, hX, rfl⟩
    | n + 2, hk, hX => exact absurd hk (by simp)
  · obtain ⟨v, rfl, hQ⟩ := h
    have hc := ho v σ' hQ
    refine g_top (v' := .int (ii (cn v))) (congrArg Value.int (ii_cn v).symm) ?_
    refine g_i2l q_L_cart_8 (cn_rg v) ?_
    refine g_lastore q_L_cart_9 (by repeat first | with_reducible assumption | with_reducible exact hput_s _ _ _ | refine (hput_n _ _ (by omega)).trans ?_ | exact hput_s _ _ _ | assumption) (by omega) (by omega) ?_
    refine g_goto (tgt := 21) q_L_cart_10 (by decide) ?_
    refine g_iconst q_L_cart_21 ?_
    refine g_ireturn q_L_cart_22.1 rfl ?_
    exact Or.inl ⟨v, σ', hQ, rfl, rfl⟩
theorem sp_L_name (hΓ : Gd Γ) (hx : σ.2 x = some (ob 9 fs)) {p0 p1 : Int} (sp : Sp Γ miX9_name mc ms [.ref x, .int (ii p0), .int (ii p1)] σ (cQ QI) (cX [xIOB] XI)) (ho : ∀ v σ', QI v σ' → σ'.2 o = some (al 1 g)) : SpW Γ miL_name mc ms [.ref x, .int (ii p0), .int (ii p1), .ref o] σ (wQ o g QI XI) := by
  refine SpW_of (L := [_, _, _, _, _]) hΓ (by decide +kernel) (Nat.le_of_ble_eq_true rfl) rfl ?_
  refine g_aload_n q_L_name_0 rfl ?_
  refine g_iconst q_L_name_1 ?_
  refine g_aload_n q_L_name_2 rfl ?_
  refine g_iload_n q_L_name_3 rfl ?_
  refine g_iload_n q_L_name_4 rfl ?_
  refine g_callVC (rc' := 0) (rs' := 0) (As := [_, _]) cs_L_26 q_L_name_5 sp hx rfl rfl rfl rfl (Nat.le_of_ble_eq_true rfl) (by decide) (by omega) (by omega) (fun E σ' h => ?_) (fun v σ' h => ?_)
  · obtain ⟨k, hk, hX⟩ := h
    match k, hk, hX with
    | 0, hk, hX =>
      have hE : xIOB = E := Option.some.inj hk
      subst hE
      refine ⟨13, ⟨[], (0, 10, 13, 19), [], rfl, (fun z hz => by cases hz), by decide, by decide, gw_905, gw_917, rfl⟩, fun q => ?_⟩
      refine g_astore (L' := [_, _, _, _, _]) q_L_name_13 (by decide) rfl ?_
      refine g_iconst q_L_name_15 ?_
      refine g_ireturn q_L_name_16.1 rfl ?_
      exact Or.inr ⟨1, by omega, hX, rfl⟩
    | n + 1, hk, hX => exact absurd hk (by simp)
  · obtain ⟨v, rfl, hQ⟩ := h
    have hc := ho v σ' hQ
    refine g_top (v' := .int (ii (cn v))) (congrArg Value.int (ii_cn v).symm) ?_
    refine g_i2l q_L_name_8 (cn_rg v) ?_
    refine g_lastore q_L_name_9 (by repeat first | with_reducible assumption | with_reducible exact hput_s _ _ _ | refine (hput_n _ _ (by omega)).trans ?_ | exact hput_s _ _ _ | assumption) (by omega) (by omega) ?_
    refine g_goto (tgt := 17) q_L_name_10 (by decide) ?_
    refine g_iconst q_L_name_17 ?_
    refine g_ireturn q_L_name_18.1 rfl ?_
    exact Or.inl ⟨v, σ', hQ, rfl, rfl⟩
theorem sp_L_tell (hΓ : Gd Γ) (hx : σ.2 x = some (ob 9 fs)) {p0 p1 p2 : Int} (sp : Sp Γ miX9_tell mc ms [.ref x, .int (ii p0), .int (ii p1), .int (ii p2)] σ (cQ QI) (cX [xIOB, xIAE, xISE] XI)) (ho : ∀ v σ', QI v σ' → σ'.2 o = some (al 1 g)) : SpW Γ miL_tell mc ms [.ref x, .int (ii p0), .int (ii p1), .int (ii p2), .ref o] σ (wQ o g QI XI) := by
  refine SpW_of (L := [_, _, _, _, _, _]) hΓ (by decide +kernel) (Nat.le_of_ble_eq_true rfl) rfl ?_
  refine g_aload q_L_tell_0 rfl ?_
  refine g_iconst q_L_tell_2 ?_
  refine g_aload_n q_L_tell_3 rfl ?_
  refine g_iload_n q_L_tell_4 rfl ?_
  refine g_iload_n q_L_tell_5 rfl ?_
  refine g_iload_n q_L_tell_6 rfl ?_
  refine g_callVC (rc' := 0) (rs' := 0) (As := [_, _, _]) cs_L_29 q_L_tell_7 sp hx rfl rfl rfl rfl (Nat.le_of_ble_eq_true rfl) (by decide) (by omega) (by omega) (fun E σ' h => ?_) (fun v σ' h => ?_)
  · obtain ⟨k, hk, hX⟩ := h
    match k, hk, hX with
    | 0, hk, hX =>
      have hE : xIOB = E := Option.some.inj hk
      subst hE
      refine ⟨15, ⟨[], (0, 12, 15, 19), [(0, 12, 19, 13), (0, 12, 23, 33)], rfl, (fun z hz => by cases hz), by decide, by decide, gw_905, gw_917, rfl⟩, fun q => ?_⟩
      refine g_astore (L' := [_, _, _, _, _, _]) q_L_tell_15 (by decide) rfl ?_
      refine g_iconst q_L_tell_17 ?_
      refine g_ireturn q_L_tell_18.1 rfl ?_
      exact Or.inr ⟨1, by omega, hX, rfl⟩
    | 1, hk, hX =>
      have hE : xIAE = E := Option.some.inj hk
      subst hE
      refine ⟨19, ⟨[(0, 12, 15, 19)], (0, 12, 19, 13), [(0, 12, 23, 33)], rfl, (fun z hz => by
        simp only [List.mem_cons, List.not_mem_nil, or_false] at hz
        rcases hz with rfl
        · exact ⟨by decide, _, gw_905, nc_IAE_IOB hΓ⟩), by decide, by decide, gw_645, gw_828, rfl⟩, fun q => ?_⟩
      refine g_astore (L' := [_, _, _, _, _, _]) q_L_tell_19 (by decide) rfl ?_
      refine g_iconst q_L_tell_21 ?_
      refine g_ireturn q_L_tell_22.1 rfl ?_
      exact Or.inr ⟨2, by omega, hX, rfl⟩
    | 2, hk, hX =>
      have hE : xISE = E := Option.some.inj hk
      subst hE
      refine ⟨23, ⟨[(0, 12, 15, 19), (0, 12, 19, 13)], (0, 12, 23, 33), [], rfl, (fun z hz => by
        simp only [List.mem_cons, List.not_mem_nil, or_false] at hz
        rcases hz with rfl | rfl
        · exact ⟨by decide, _, gw_905, nc_ISE_IOB hΓ⟩
        · exact ⟨by decide, _, gw_645, nc_ISE_IAE hΓ⟩), by decide, by decide, gw_967, gw_979, rfl⟩, fun q => ?_⟩
      refine g_astore (L' := [_, _, _, _, _, _]) q_L_tell_23 (by decide) rfl ?_
      refine g_iconst q_L_tell_25 ?_
      refine g_ireturn q_L_tell_26.1 rfl ?_
      exact Or.inr ⟨3, by omega, hX, rfl⟩
    | n + 3, hk, hX => exact absurd hk (by simp)
  · obtain ⟨v, rfl, hQ⟩ := h
    have hc := ho v σ' hQ
    refine g_top (v' := .int (ii (cn v))) (congrArg Value.int (ii_cn v).symm) ?_
    refine g_i2l q_L_tell_10 (cn_rg v) ?_
    refine g_lastore q_L_tell_11 (by repeat first | with_reducible assumption | with_reducible exact hput_s _ _ _ | refine (hput_n _ _ (by omega)).trans ?_ | exact hput_s _ _ _ | assumption) (by omega) (by omega) ?_
    refine g_goto (tgt := 27) q_L_tell_12 (by decide) ?_
    refine g_iconst q_L_tell_27 ?_
    refine g_ireturn q_L_tell_28.1 rfl ?_
    exact Or.inl ⟨v, σ', hQ, rfl, rfl⟩
theorem sp_L_goal (hΓ : Gd Γ) (hx : σ.2 x = some (ob 9 fs)) {p0 p1 p2 : Int} (sp : Sp Γ miX9_goal mc ms [.ref x, .int (ii p0), .int (ii p1), .int (ii p2)] σ (cQ QI) (cX [xIOB, xISE] XI)) (ho : ∀ v σ', QI v σ' → σ'.2 o = some (al 1 g)) : SpW Γ miL_goal mc ms [.ref x, .int (ii p0), .int (ii p1), .int (ii p2), .ref o] σ (wQ o g QI XI) := by
  refine SpW_of (L := [_, _, _, _, _, _]) hΓ (by decide +kernel) (Nat.le_of_ble_eq_true rfl) rfl ?_
  refine g_aload q_L_goal_0 rfl ?_
  refine g_iconst q_L_goal_2 ?_
  refine g_aload_n q_L_goal_3 rfl ?_
  refine g_iload_n q_L_goal_4 rfl ?_
  refine g_iload_n q_L_goal_5 rfl ?_
  refine g_iload_n q_L_goal_6 rfl ?_
  refine g_callVC (rc' := 0) (rs' := 0) (As := [_, _, _]) cs_L_35 q_L_goal_7 sp hx rfl rfl rfl rfl (Nat.le_of_ble_eq_true rfl) (by decide) (by omega) (by omega) (fun E σ' h => ?_) (fun v σ' h => ?_)
  · obtain ⟨k, hk, hX⟩ := h
    match k, hk, hX with
    | 0, hk, hX =>
      have hE : xIOB = E := Option.some.inj hk
      subst hE
      refine ⟨15, ⟨[], (0, 12, 15, 19), [(0, 12, 19, 33)], rfl, (fun z hz => by cases hz), by decide, by decide, gw_905, gw_917, rfl⟩, fun q => ?_⟩
      refine g_astore (L' := [_, _, _, _, _, _]) q_L_goal_15 (by decide) rfl ?_
      refine g_iconst q_L_goal_17 ?_
      refine g_ireturn q_L_goal_18.1 rfl ?_
      exact Or.inr ⟨1, by omega, hX, rfl⟩
    | 1, hk, hX =>
      have hE : xISE = E := Option.some.inj hk
      subst hE
      refine ⟨19, ⟨[(0, 12, 15, 19)], (0, 12, 19, 33), [], rfl, (fun z hz => by
        simp only [List.mem_cons, List.not_mem_nil, or_false] at hz
        rcases hz with rfl
        · exact ⟨by decide, _, gw_905, nc_ISE_IOB hΓ⟩), by decide, by decide, gw_967, gw_979, rfl⟩, fun q => ?_⟩
      refine g_astore (L' := [_, _, _, _, _, _]) q_L_goal_19 (by decide) rfl ?_
      refine g_iconst q_L_goal_21 ?_
      refine g_ireturn q_L_goal_22.1 rfl ?_
      exact Or.inr ⟨2, by omega, hX, rfl⟩
    | n + 2, hk, hX => exact absurd hk (by simp)
  · obtain ⟨v, rfl, hQ⟩ := h
    have hc := ho v σ' hQ
    refine g_top (v' := .int (ii (cn v))) (congrArg Value.int (ii_cn v).symm) ?_
    refine g_i2l q_L_goal_10 (cn_rg v) ?_
    refine g_lastore q_L_goal_11 (by repeat first | with_reducible assumption | with_reducible exact hput_s _ _ _ | refine (hput_n _ _ (by omega)).trans ?_ | exact hput_s _ _ _ | assumption) (by omega) (by omega) ?_
    refine g_goto (tgt := 23) q_L_goal_12 (by decide) ?_
    refine g_iconst q_L_goal_23 ?_
    refine g_ireturn q_L_goal_24.1 rfl ?_
    exact Or.inl ⟨v, σ', hQ, rfl, rfl⟩
theorem sp_L_change (hΓ : Gd Γ) (hx : σ.2 x = some (ob 9 fs)) {p0 p1 : Int} {QV : AH → Prop} (sp : Sp Γ miX9_change mc ms [.ref x, .int (ii p0), .int (ii p1)] σ (fun r σ' => r = none ∧ QV σ') (cX [xIOB, xIAE] XI)) : SpW Γ miL_change mc ms [.ref x, .int (ii p0), .int (ii p1)] σ (fun r σ' => (QV σ' ∧ r = some (.int (ii ((0 : Nat) : Int)))) ∨ ∃ k : Nat, (1 ≤ k ∧ k ≤ 4) ∧ XI k σ' ∧ r = some (.int (ii (k : Int)))) := by
  refine SpW_of (L := [_, _, _, _]) hΓ (by decide +kernel) (Nat.le_of_ble_eq_true rfl) rfl ?_
  refine g_aload_n q_L_change_0 rfl ?_
  refine g_iload_n q_L_change_1 rfl ?_
  refine g_iload_n q_L_change_2 rfl ?_
  refine g_callVC (rc' := 0) (rs' := 0) (As := [_, _]) cs_L_38 q_L_change_3 sp hx rfl rfl rfl rfl (Nat.le_of_ble_eq_true rfl) (by decide) (by omega) (by omega) (fun E σ' h => ?_) (fun v σ' h => ?_)
  · obtain ⟨k, hk, hX⟩ := h
    match k, hk, hX with
    | 0, hk, hX =>
      have hE : xIOB = E := Option.some.inj hk
      subst hE
      refine ⟨9, ⟨[], (0, 6, 9, 19), [(0, 6, 12, 13)], rfl, (fun z hz => by cases hz), by decide, by decide, gw_905, gw_917, rfl⟩, fun q => ?_⟩
      refine g_astore_n (L' := [_, _, _, _]) q_L_change_9 (by decide) rfl ?_
      refine g_iconst q_L_change_10 ?_
      refine g_ireturn q_L_change_11.1 rfl ?_
      exact Or.inr ⟨1, by omega, hX, rfl⟩
    | 1, hk, hX =>
      have hE : xIAE = E := Option.some.inj hk
      subst hE
      refine ⟨12, ⟨[(0, 6, 9, 19)], (0, 6, 12, 13), [], rfl, (fun z hz => by
        simp only [List.mem_cons, List.not_mem_nil, or_false] at hz
        rcases hz with rfl
        · exact ⟨by decide, _, gw_905, nc_IAE_IOB hΓ⟩), by decide, by decide, gw_645, gw_828, rfl⟩, fun q => ?_⟩
      refine g_astore_n (L' := [_, _, _, _]) q_L_change_12 (by decide) rfl ?_
      refine g_iconst q_L_change_13 ?_
      refine g_ireturn q_L_change_14.1 rfl ?_
      exact Or.inr ⟨2, by omega, hX, rfl⟩
    | n + 2, hk, hX => exact absurd hk (by simp)
  · obtain ⟨rfl, hQ⟩ := h
    refine g_goto (tgt := 15) q_L_change_6 (by decide) ?_
    refine g_iconst q_L_change_15 ?_
    refine g_ireturn q_L_change_16.1 rfl ?_
    exact Or.inl ⟨hQ, rfl⟩
theorem sp_L_cost (hΓ : Gd Γ) (hx : σ.2 x = some (ob 9 fs)) {p0 : Int} (sp : Sp Γ miX9_cost mc ms [.ref x, .int (ii p0)] σ (cQ QI) (cX [xIOB] XI)) (ho : ∀ v σ', QI v σ' → σ'.2 o = some (al 1 g)) : SpW Γ miL_cost mc ms [.ref x, .int (ii p0), .ref o] σ (wQ o g QI XI) := by
  refine SpW_of (L := [_, _, _, _]) hΓ (by decide +kernel) (Nat.le_of_ble_eq_true rfl) rfl ?_
  refine g_aload_n q_L_cost_0 rfl ?_
  refine g_iconst q_L_cost_1 ?_
  refine g_aload_n q_L_cost_2 rfl ?_
  refine g_iload_n q_L_cost_3 rfl ?_
  refine g_callVC (rc' := 0) (rs' := 0) (As := [_]) cs_L_42 q_L_cost_4 sp hx rfl rfl rfl rfl (Nat.le_of_ble_eq_true rfl) (by decide) (by omega) (by omega) (fun E σ' h => ?_) (fun v σ' h => ?_)
  · obtain ⟨k, hk, hX⟩ := h
    match k, hk, hX with
    | 0, hk, hX =>
      have hE : xIOB = E := Option.some.inj hk
      subst hE
      refine ⟨12, ⟨[], (0, 9, 12, 19), [], rfl, (fun z hz => by cases hz), by decide, by decide, gw_905, gw_917, rfl⟩, fun q => ?_⟩
      refine g_astore_n (L' := [_, _, _, _]) q_L_cost_12 (by decide) rfl ?_
      refine g_iconst q_L_cost_13 ?_
      refine g_ireturn q_L_cost_14.1 rfl ?_
      exact Or.inr ⟨1, by omega, hX, rfl⟩
    | n + 1, hk, hX => exact absurd hk (by simp)
  · obtain ⟨v, rfl, hQ⟩ := h
    have hc := ho v σ' hQ
    refine g_top (v' := .int (ii (cn v))) (congrArg Value.int (ii_cn v).symm) ?_
    refine g_i2l q_L_cost_7 (cn_rg v) ?_
    refine g_lastore q_L_cost_8 (by repeat first | with_reducible assumption | with_reducible exact hput_s _ _ _ | refine (hput_n _ _ (by omega)).trans ?_ | exact hput_s _ _ _ | assumption) (by omega) (by omega) ?_
    refine g_goto (tgt := 15) q_L_cost_9 (by decide) ?_
    refine g_iconst q_L_cost_15 ?_
    refine g_ireturn q_L_cost_16.1 rfl ?_
    exact Or.inl ⟨v, σ', hQ, rfl, rfl⟩
theorem sp_L_alone (hΓ : Gd Γ) (hx : σ.2 x = some (ob 9 fs)) {p0 p1 : Int} (sp : Sp Γ miX9_alone mc ms [.ref x, .int (ii p0), .int (ii p1)] σ (cQ QI) (cX [xIOB, xIAE] XI)) (ho : ∀ v σ', QI v σ' → σ'.2 o = some (al 1 g)) : SpW Γ miL_alone mc ms [.ref x, .int (ii p0), .int (ii p1), .ref o] σ (wQ o g QI XI) := by
  refine SpW_of (L := [_, _, _, _, _]) hΓ (by decide +kernel) (Nat.le_of_ble_eq_true rfl) rfl ?_
  refine g_aload_n q_L_alone_0 rfl ?_
  refine g_iconst q_L_alone_1 ?_
  refine g_aload_n q_L_alone_2 rfl ?_
  refine g_iload_n q_L_alone_3 rfl ?_
  refine g_iload_n q_L_alone_4 rfl ?_
  refine g_callVC (rc' := 0) (rs' := 0) (As := [_, _]) cs_L_46 q_L_alone_5 sp hx rfl rfl rfl rfl (Nat.le_of_ble_eq_true rfl) (by decide) (by omega) (by omega) (fun E σ' h => ?_) (fun v σ' h => ?_)
  · obtain ⟨k, hk, hX⟩ := h
    match k, hk, hX with
    | 0, hk, hX =>
      have hE : xIOB = E := Option.some.inj hk
      subst hE
      refine ⟨13, ⟨[], (0, 10, 13, 19), [(0, 10, 17, 13)], rfl, (fun z hz => by cases hz), by decide, by decide, gw_905, gw_917, rfl⟩, fun q => ?_⟩
      refine g_astore (L' := [_, _, _, _, _]) q_L_alone_13 (by decide) rfl ?_
      refine g_iconst q_L_alone_15 ?_
      refine g_ireturn q_L_alone_16.1 rfl ?_
      exact Or.inr ⟨1, by omega, hX, rfl⟩
    | 1, hk, hX =>
      have hE : xIAE = E := Option.some.inj hk
      subst hE
      refine ⟨17, ⟨[(0, 10, 13, 19)], (0, 10, 17, 13), [], rfl, (fun z hz => by
        simp only [List.mem_cons, List.not_mem_nil, or_false] at hz
        rcases hz with rfl
        · exact ⟨by decide, _, gw_905, nc_IAE_IOB hΓ⟩), by decide, by decide, gw_645, gw_828, rfl⟩, fun q => ?_⟩
      refine g_astore (L' := [_, _, _, _, _]) q_L_alone_17 (by decide) rfl ?_
      refine g_iconst q_L_alone_19 ?_
      refine g_ireturn q_L_alone_20.1 rfl ?_
      exact Or.inr ⟨2, by omega, hX, rfl⟩
    | n + 2, hk, hX => exact absurd hk (by simp)
  · obtain ⟨v, rfl, hQ⟩ := h
    have hc := ho v σ' hQ
    refine g_top (v' := .int (ii (cn v))) (congrArg Value.int (ii_cn v).symm) ?_
    refine g_i2l q_L_alone_8 (cn_rg v) ?_
    refine g_lastore q_L_alone_9 (by repeat first | with_reducible assumption | with_reducible exact hput_s _ _ _ | refine (hput_n _ _ (by omega)).trans ?_ | exact hput_s _ _ _ | assumption) (by omega) (by omega) ?_
    refine g_goto (tgt := 21) q_L_alone_10 (by decide) ?_
    refine g_iconst q_L_alone_21 ?_
    refine g_ireturn q_L_alone_22.1 rfl ?_
    exact Or.inl ⟨v, σ', hQ, rfl, rfl⟩
theorem sp_L_clash (hΓ : Gd Γ) (hx : σ.2 x = some (ob 9 fs)) {p0 : Int} (sp : Sp Γ miX9_clash mc ms [.ref x, .int (ii p0)] σ (cQ QI) (cX [xNSE, xISE] XI)) (ho : ∀ v σ', QI v σ' → σ'.2 o = some (al 1 g)) : SpW Γ miL_clash mc ms [.ref x, .int (ii p0), .ref o] σ (wQ o g QI XI) := by
  refine SpW_of (L := [_, _, _, _]) hΓ (by decide +kernel) (Nat.le_of_ble_eq_true rfl) rfl ?_
  refine g_aload_n q_L_clash_0 rfl ?_
  refine g_iconst q_L_clash_1 ?_
  refine g_aload_n q_L_clash_2 rfl ?_
  refine g_iload_n q_L_clash_3 rfl ?_
  refine g_callVC (rc' := 0) (rs' := 0) (As := [_]) cs_L_49 q_L_clash_4 sp hx rfl rfl rfl rfl (Nat.le_of_ble_eq_true rfl) (by decide) (by omega) (by omega) (fun E σ' h => ?_) (fun v σ' h => ?_)
  · obtain ⟨k, hk, hX⟩ := h
    match k, hk, hX with
    | 0, hk, hX =>
      have hE : xNSE = E := Option.some.inj hk
      subst hE
      refine ⟨12, ⟨[], (0, 9, 12, 24), [(0, 9, 15, 33)], rfl, (fun z hz => by cases hz), by decide, by decide, gw_933, gw_944, rfl⟩, fun q => ?_⟩
      refine g_astore_n (L' := [_, _, _, _]) q_L_clash_12 (by decide) rfl ?_
      refine g_iconst q_L_clash_13 ?_
      refine g_ireturn q_L_clash_14.1 rfl ?_
      exact Or.inr ⟨1, by omega, hX, rfl⟩
    | 1, hk, hX =>
      have hE : xISE = E := Option.some.inj hk
      subst hE
      refine ⟨15, ⟨[(0, 9, 12, 24)], (0, 9, 15, 33), [], rfl, (fun z hz => by
        simp only [List.mem_cons, List.not_mem_nil, or_false] at hz
        rcases hz with rfl
        · exact ⟨by decide, _, gw_933, nc_ISE_NSE hΓ⟩), by decide, by decide, gw_967, gw_979, rfl⟩, fun q => ?_⟩
      refine g_astore_n (L' := [_, _, _, _]) q_L_clash_15 (by decide) rfl ?_
      refine g_iconst q_L_clash_16 ?_
      refine g_ireturn q_L_clash_17.1 rfl ?_
      exact Or.inr ⟨2, by omega, hX, rfl⟩
    | n + 2, hk, hX => exact absurd hk (by simp)
  · obtain ⟨v, rfl, hQ⟩ := h
    have hc := ho v σ' hQ
    refine g_top (v' := .int (ii (cn v))) (congrArg Value.int (ii_cn v).symm) ?_
    refine g_i2l q_L_clash_7 (cn_rg v) ?_
    refine g_lastore q_L_clash_8 (by repeat first | with_reducible assumption | with_reducible exact hput_s _ _ _ | refine (hput_n _ _ (by omega)).trans ?_ | exact hput_s _ _ _ | assumption) (by omega) (by omega) ?_
    refine g_goto (tgt := 18) q_L_clash_9 (by decide) ?_
    refine g_iconst q_L_clash_18 ?_
    refine g_ireturn q_L_clash_19.1 rfl ?_
    exact Or.inl ⟨v, σ', hQ, rfl, rfl⟩
theorem sp_L_reach (hΓ : Gd Γ) (hx : σ.2 x = some (ob 9 fs)) {p0 : Int} (sp : Sp Γ miX9_reach mc ms [.ref x, .int (ii p0)] σ (cQ QI) (cX [xIOB] XI)) (ho : ∀ v σ', QI v σ' → σ'.2 o = some (al 1 g)) : SpW Γ miL_reach mc ms [.ref x, .int (ii p0), .ref o] σ (wQ o g QI XI) := by
  refine SpW_of (L := [_, _, _, _]) hΓ (by decide +kernel) (Nat.le_of_ble_eq_true rfl) rfl ?_
  refine g_aload_n q_L_reach_0 rfl ?_
  refine g_iconst q_L_reach_1 ?_
  refine g_aload_n q_L_reach_2 rfl ?_
  refine g_iload_n q_L_reach_3 rfl ?_
  refine g_callVC (rc' := 0) (rs' := 0) (As := [_]) cs_L_52 q_L_reach_4 sp hx rfl rfl rfl rfl (Nat.le_of_ble_eq_true rfl) (by decide) (by omega) (by omega) (fun E σ' h => ?_) (fun v σ' h => ?_)
  · obtain ⟨k, hk, hX⟩ := h
    match k, hk, hX with
    | 0, hk, hX =>
      have hE : xIOB = E := Option.some.inj hk
      subst hE
      refine ⟨12, ⟨[], (0, 9, 12, 19), [], rfl, (fun z hz => by cases hz), by decide, by decide, gw_905, gw_917, rfl⟩, fun q => ?_⟩
      refine g_astore_n (L' := [_, _, _, _]) q_L_reach_12 (by decide) rfl ?_
      refine g_iconst q_L_reach_13 ?_
      refine g_ireturn q_L_reach_14.1 rfl ?_
      exact Or.inr ⟨1, by omega, hX, rfl⟩
    | n + 1, hk, hX => exact absurd hk (by simp)
  · obtain ⟨v, rfl, hQ⟩ := h
    have hc := ho v σ' hQ
    refine g_top (v' := .int (ii (cn v))) (congrArg Value.int (ii_cn v).symm) ?_
    refine g_i2l q_L_reach_7 (cn_rg v) ?_
    refine g_lastore q_L_reach_8 (by repeat first | with_reducible assumption | with_reducible exact hput_s _ _ _ | refine (hput_n _ _ (by omega)).trans ?_ | exact hput_s _ _ _ | assumption) (by omega) (by omega) ?_
    refine g_goto (tgt := 15) q_L_reach_9 (by decide) ?_
    refine g_iconst q_L_reach_15 ?_
    refine g_ireturn q_L_reach_16.1 rfl ?_
    exact Or.inl ⟨v, σ', hQ, rfl, rfl⟩
theorem sp_L_far (hΓ : Gd Γ) (hx : σ.2 x = some (ob 9 fs)) {p0 p1 p2 p3 : Int} (sp : Sp Γ miX9_far mc ms [.ref x, .int (ii p0), .int (ii p1), .int (ii p2), .int (ii p3)] σ (cQ QI) (cX [xIOB] XI)) (ho : ∀ v σ', QI v σ' → σ'.2 o = some (al 1 g)) : SpW Γ miL_far mc ms [.ref x, .int (ii p0), .int (ii p1), .int (ii p2), .int (ii p3), .ref o] σ (wQ o g QI XI) := by
  refine SpW_of (L := [_, _, _, _, _, _, _]) hΓ (by decide +kernel) (Nat.le_of_ble_eq_true rfl) rfl ?_
  refine g_aload q_L_far_0 rfl ?_
  refine g_iconst q_L_far_2 ?_
  refine g_aload_n q_L_far_3 rfl ?_
  refine g_iload_n q_L_far_4 rfl ?_
  refine g_iload_n q_L_far_5 rfl ?_
  refine g_iload_n q_L_far_6 rfl ?_
  refine g_iload q_L_far_7 rfl ?_
  refine g_callVC (rc' := 0) (rs' := 0) (As := [_, _, _, _]) cs_L_55 q_L_far_9 sp hx rfl rfl rfl rfl (Nat.le_of_ble_eq_true rfl) (by decide) (by omega) (by omega) (fun E σ' h => ?_) (fun v σ' h => ?_)
  · obtain ⟨k, hk, hX⟩ := h
    match k, hk, hX with
    | 0, hk, hX =>
      have hE : xIOB = E := Option.some.inj hk
      subst hE
      refine ⟨17, ⟨[], (0, 14, 17, 19), [], rfl, (fun z hz => by cases hz), by decide, by decide, gw_905, gw_917, rfl⟩, fun q => ?_⟩
      refine g_astore (L' := [_, _, _, _, _, _, _]) q_L_far_17 (by decide) rfl ?_
      refine g_iconst q_L_far_19 ?_
      refine g_ireturn q_L_far_20.1 rfl ?_
      exact Or.inr ⟨1, by omega, hX, rfl⟩
    | n + 1, hk, hX => exact absurd hk (by simp)
  · obtain ⟨v, rfl, hQ⟩ := h
    have hc := ho v σ' hQ
    refine g_top (v' := .int (ii (cn v))) (congrArg Value.int (ii_cn v).symm) ?_
    refine g_i2l q_L_far_12 (cn_rg v) ?_
    refine g_lastore q_L_far_13 (by repeat first | with_reducible assumption | with_reducible exact hput_s _ _ _ | refine (hput_n _ _ (by omega)).trans ?_ | exact hput_s _ _ _ | assumption) (by omega) (by omega) ?_
    refine g_goto (tgt := 21) q_L_far_14 (by decide) ?_
    refine g_iconst q_L_far_21 ?_
    refine g_ireturn q_L_far_22.1 rfl ?_
    exact Or.inl ⟨v, σ', hQ, rfl, rfl⟩
theorem sp_L_plan (hΓ : Gd Γ) (hx : σ.2 x = some (ob 9 fs)) {p0 p1 : Int} (sp : Sp Γ miX9_plan mc ms [.ref x, .int (ii p0), .int (ii p1)] σ (cQ QI) (cX [xIAE, xNSE] XI)) (ho : ∀ v σ', QI v σ' → σ'.2 o = some (al 1 g)) : SpW Γ miL_plan mc ms [.ref x, .int (ii p0), .int (ii p1), .ref o] σ (wQ o g QI XI) := by
  refine SpW_of (L := [_, _, _, _, _]) hΓ (by decide +kernel) (Nat.le_of_ble_eq_true rfl) rfl ?_
  refine g_aload_n q_L_plan_0 rfl ?_
  refine g_iconst q_L_plan_1 ?_
  refine g_aload_n q_L_plan_2 rfl ?_
  refine g_iload_n q_L_plan_3 rfl ?_
  refine g_iload_n q_L_plan_4 rfl ?_
  refine g_callVC (rc' := 0) (rs' := 0) (As := [_, _]) cs_L_59 q_L_plan_5 sp hx rfl rfl rfl rfl (Nat.le_of_ble_eq_true rfl) (by decide) (by omega) (by omega) (fun E σ' h => ?_) (fun v σ' h => ?_)
  · obtain ⟨k, hk, hX⟩ := h
    match k, hk, hX with
    | 0, hk, hX =>
      have hE : xIAE = E := Option.some.inj hk
      subst hE
      refine ⟨13, ⟨[], (0, 10, 13, 13), [(0, 10, 17, 24)], rfl, (fun z hz => by cases hz), by decide, by decide, gw_645, gw_828, rfl⟩, fun q => ?_⟩
      refine g_astore (L' := [_, _, _, _, _]) q_L_plan_13 (by decide) rfl ?_
      refine g_iconst q_L_plan_15 ?_
      refine g_ireturn q_L_plan_16.1 rfl ?_
      exact Or.inr ⟨1, by omega, hX, rfl⟩
    | 1, hk, hX =>
      have hE : xNSE = E := Option.some.inj hk
      subst hE
      refine ⟨17, ⟨[(0, 10, 13, 13)], (0, 10, 17, 24), [], rfl, (fun z hz => by
        simp only [List.mem_cons, List.not_mem_nil, or_false] at hz
        rcases hz with rfl
        · exact ⟨by decide, _, gw_645, nc_NSE_IAE hΓ⟩), by decide, by decide, gw_933, gw_944, rfl⟩, fun q => ?_⟩
      refine g_astore (L' := [_, _, _, _, _]) q_L_plan_17 (by decide) rfl ?_
      refine g_iconst q_L_plan_19 ?_
      refine g_ireturn q_L_plan_20.1 rfl ?_
      exact Or.inr ⟨2, by omega, hX, rfl⟩
    | n + 2, hk, hX => exact absurd hk (by simp)
  · obtain ⟨v, rfl, hQ⟩ := h
    have hc := ho v σ' hQ
    refine g_top (v' := .int (ii (cn v))) (congrArg Value.int (ii_cn v).symm) ?_
    refine g_i2l q_L_plan_8 (cn_rg v) ?_
    refine g_lastore q_L_plan_9 (by repeat first | with_reducible assumption | with_reducible exact hput_s _ _ _ | refine (hput_n _ _ (by omega)).trans ?_ | exact hput_s _ _ _ | assumption) (by omega) (by omega) ?_
    refine g_goto (tgt := 21) q_L_plan_10 (by decide) ?_
    refine g_iconst q_L_plan_21 ?_
    refine g_ireturn q_L_plan_22.1 rfl ?_
    exact Or.inl ⟨v, σ', hQ, rfl, rfl⟩
theorem sp_L_node (hΓ : Gd Γ) (hx : σ.2 x = some (ob 9 fs)) {p0 p1 p2 : Int} (sp : Sp Γ miX9_node mc ms [.ref x, .int (ii p0), .int (ii p1), .int (ii p2)] σ (cQ QI) (cX [xIAE, xNSE] XI)) (ho : ∀ v σ', QI v σ' → σ'.2 o = some (al 1 g)) : SpW Γ miL_node mc ms [.ref x, .int (ii p0), .int (ii p1), .int (ii p2), .ref o] σ (wQ o g QI XI) := by
  refine SpW_of (L := [_, _, _, _, _, _]) hΓ (by decide +kernel) (Nat.le_of_ble_eq_true rfl) rfl ?_
  refine g_aload q_L_node_0 rfl ?_
  refine g_iconst q_L_node_2 ?_
  refine g_aload_n q_L_node_3 rfl ?_
  refine g_iload_n q_L_node_4 rfl ?_
  refine g_iload_n q_L_node_5 rfl ?_
  refine g_iload_n q_L_node_6 rfl ?_
  refine g_callVC (rc' := 0) (rs' := 0) (As := [_, _, _]) cs_L_62 q_L_node_7 sp hx rfl rfl rfl rfl (Nat.le_of_ble_eq_true rfl) (by decide) (by omega) (by omega) (fun E σ' h => ?_) (fun v σ' h => ?_)
  · obtain ⟨k, hk, hX⟩ := h
    match k, hk, hX with
    | 0, hk, hX =>
      have hE : xIAE = E := Option.some.inj hk
      subst hE
      refine ⟨15, ⟨[], (0, 12, 15, 13), [(0, 12, 19, 24)], rfl, (fun z hz => by cases hz), by decide, by decide, gw_645, gw_828, rfl⟩, fun q => ?_⟩
      refine g_astore (L' := [_, _, _, _, _, _]) q_L_node_15 (by decide) rfl ?_
      refine g_iconst q_L_node_17 ?_
      refine g_ireturn q_L_node_18.1 rfl ?_
      exact Or.inr ⟨1, by omega, hX, rfl⟩
    | 1, hk, hX =>
      have hE : xNSE = E := Option.some.inj hk
      subst hE
      refine ⟨19, ⟨[(0, 12, 15, 13)], (0, 12, 19, 24), [], rfl, (fun z hz => by
        simp only [List.mem_cons, List.not_mem_nil, or_false] at hz
        rcases hz with rfl
        · exact ⟨by decide, _, gw_645, nc_NSE_IAE hΓ⟩), by decide, by decide, gw_933, gw_944, rfl⟩, fun q => ?_⟩
      refine g_astore (L' := [_, _, _, _, _, _]) q_L_node_19 (by decide) rfl ?_
      refine g_iconst q_L_node_21 ?_
      refine g_ireturn q_L_node_22.1 rfl ?_
      exact Or.inr ⟨2, by omega, hX, rfl⟩
    | n + 2, hk, hX => exact absurd hk (by simp)
  · obtain ⟨v, rfl, hQ⟩ := h
    have hc := ho v σ' hQ
    refine g_top (v' := .int (ii (cn v))) (congrArg Value.int (ii_cn v).symm) ?_
    refine g_i2l q_L_node_10 (cn_rg v) ?_
    refine g_lastore q_L_node_11 (by repeat first | with_reducible assumption | with_reducible exact hput_s _ _ _ | refine (hput_n _ _ (by omega)).trans ?_ | exact hput_s _ _ _ | assumption) (by omega) (by omega) ?_
    refine g_goto (tgt := 23) q_L_node_12 (by decide) ?_
    refine g_iconst q_L_node_23 ?_
    refine g_ireturn q_L_node_24.1 rfl ?_
    exact Or.inl ⟨v, σ', hQ, rfl, rfl⟩
theorem sp_L_at (hΓ : Gd Γ) (hx : σ.2 x = some (ob 9 fs)) {p0 p1 p2 : Int} (sp : Sp Γ miX9_at mc ms [.ref x, .int (ii p0), .int (ii p1), .int (ii p2)] σ (cQ QI) (cX [xIOB, xIAE, xISE] XI)) (ho : ∀ v σ', QI v σ' → σ'.2 o = some (al 1 g)) : SpW Γ miL_at mc ms [.ref x, .int (ii p0), .int (ii p1), .int (ii p2), .ref o] σ (wQ o g QI XI) := by
  refine SpW_of (L := [_, _, _, _, _, _]) hΓ (by decide +kernel) (Nat.le_of_ble_eq_true rfl) rfl ?_
  refine g_aload q_L_at_0 rfl ?_
  refine g_iconst q_L_at_2 ?_
  refine g_aload_n q_L_at_3 rfl ?_
  refine g_iload_n q_L_at_4 rfl ?_
  refine g_iload_n q_L_at_5 rfl ?_
  refine g_iload_n q_L_at_6 rfl ?_
  refine g_callVC (rc' := 0) (rs' := 0) (As := [_, _, _]) cs_L_65 q_L_at_7 sp hx rfl rfl rfl rfl (Nat.le_of_ble_eq_true rfl) (by decide) (by omega) (by omega) (fun E σ' h => ?_) (fun v σ' h => ?_)
  · obtain ⟨k, hk, hX⟩ := h
    match k, hk, hX with
    | 0, hk, hX =>
      have hE : xIOB = E := Option.some.inj hk
      subst hE
      refine ⟨15, ⟨[], (0, 12, 15, 19), [(0, 12, 19, 13), (0, 12, 23, 33)], rfl, (fun z hz => by cases hz), by decide, by decide, gw_905, gw_917, rfl⟩, fun q => ?_⟩
      refine g_astore (L' := [_, _, _, _, _, _]) q_L_at_15 (by decide) rfl ?_
      refine g_iconst q_L_at_17 ?_
      refine g_ireturn q_L_at_18.1 rfl ?_
      exact Or.inr ⟨1, by omega, hX, rfl⟩
    | 1, hk, hX =>
      have hE : xIAE = E := Option.some.inj hk
      subst hE
      refine ⟨19, ⟨[(0, 12, 15, 19)], (0, 12, 19, 13), [(0, 12, 23, 33)], rfl, (fun z hz => by
        simp only [List.mem_cons, List.not_mem_nil, or_false] at hz
        rcases hz with rfl
        · exact ⟨by decide, _, gw_905, nc_IAE_IOB hΓ⟩), by decide, by decide, gw_645, gw_828, rfl⟩, fun q => ?_⟩
      refine g_astore (L' := [_, _, _, _, _, _]) q_L_at_19 (by decide) rfl ?_
      refine g_iconst q_L_at_21 ?_
      refine g_ireturn q_L_at_22.1 rfl ?_
      exact Or.inr ⟨2, by omega, hX, rfl⟩
    | 2, hk, hX =>
      have hE : xISE = E := Option.some.inj hk
      subst hE
      refine ⟨23, ⟨[(0, 12, 15, 19), (0, 12, 19, 13)], (0, 12, 23, 33), [], rfl, (fun z hz => by
        simp only [List.mem_cons, List.not_mem_nil, or_false] at hz
        rcases hz with rfl | rfl
        · exact ⟨by decide, _, gw_905, nc_ISE_IOB hΓ⟩
        · exact ⟨by decide, _, gw_645, nc_ISE_IAE hΓ⟩), by decide, by decide, gw_967, gw_979, rfl⟩, fun q => ?_⟩
      refine g_astore (L' := [_, _, _, _, _, _]) q_L_at_23 (by decide) rfl ?_
      refine g_iconst q_L_at_25 ?_
      refine g_ireturn q_L_at_26.1 rfl ?_
      exact Or.inr ⟨3, by omega, hX, rfl⟩
    | n + 3, hk, hX => exact absurd hk (by simp)
  · obtain ⟨v, rfl, hQ⟩ := h
    have hc := ho v σ' hQ
    refine g_top (v' := .int (ii (cn v))) (congrArg Value.int (ii_cn v).symm) ?_
    refine g_i2l q_L_at_10 (cn_rg v) ?_
    refine g_lastore q_L_at_11 (by repeat first | with_reducible assumption | with_reducible exact hput_s _ _ _ | refine (hput_n _ _ (by omega)).trans ?_ | exact hput_s _ _ _ | assumption) (by omega) (by omega) ?_
    refine g_goto (tgt := 27) q_L_at_12 (by decide) ?_
    refine g_iconst q_L_at_27 ?_
    refine g_ireturn q_L_at_28.1 rfl ?_
    exact Or.inl ⟨v, σ', hQ, rfl, rfl⟩
theorem sp_L_move (hΓ : Gd Γ) (hx : σ.2 x = some (ob 9 fs)) {p0 p1 p2 : Int} (sp : Sp Γ miX9_move mc ms [.ref x, .int (ii p0), .int (ii p1), .int (ii p2)] σ (cQ QI) (cX [xIOB, xIAE, xISE] XI)) (ho : ∀ v σ', QI v σ' → σ'.2 o = some (al 1 g)) : SpW Γ miL_move mc ms [.ref x, .int (ii p0), .int (ii p1), .int (ii p2), .ref o] σ (wQ o g QI XI) := by
  refine SpW_of (L := [_, _, _, _, _, _]) hΓ (by decide +kernel) (Nat.le_of_ble_eq_true rfl) rfl ?_
  refine g_aload q_L_move_0 rfl ?_
  refine g_iconst q_L_move_2 ?_
  refine g_aload_n q_L_move_3 rfl ?_
  refine g_iload_n q_L_move_4 rfl ?_
  refine g_iload_n q_L_move_5 rfl ?_
  refine g_iload_n q_L_move_6 rfl ?_
  refine g_callVC (rc' := 0) (rs' := 0) (As := [_, _, _]) cs_L_68 q_L_move_7 sp hx rfl rfl rfl rfl (Nat.le_of_ble_eq_true rfl) (by decide) (by omega) (by omega) (fun E σ' h => ?_) (fun v σ' h => ?_)
  · obtain ⟨k, hk, hX⟩ := h
    match k, hk, hX with
    | 0, hk, hX =>
      have hE : xIOB = E := Option.some.inj hk
      subst hE
      refine ⟨15, ⟨[], (0, 12, 15, 19), [(0, 12, 19, 13), (0, 12, 23, 33)], rfl, (fun z hz => by cases hz), by decide, by decide, gw_905, gw_917, rfl⟩, fun q => ?_⟩
      refine g_astore (L' := [_, _, _, _, _, _]) q_L_move_15 (by decide) rfl ?_
      refine g_iconst q_L_move_17 ?_
      refine g_ireturn q_L_move_18.1 rfl ?_
      exact Or.inr ⟨1, by omega, hX, rfl⟩
    | 1, hk, hX =>
      have hE : xIAE = E := Option.some.inj hk
      subst hE
      refine ⟨19, ⟨[(0, 12, 15, 19)], (0, 12, 19, 13), [(0, 12, 23, 33)], rfl, (fun z hz => by
        simp only [List.mem_cons, List.not_mem_nil, or_false] at hz
        rcases hz with rfl
        · exact ⟨by decide, _, gw_905, nc_IAE_IOB hΓ⟩), by decide, by decide, gw_645, gw_828, rfl⟩, fun q => ?_⟩
      refine g_astore (L' := [_, _, _, _, _, _]) q_L_move_19 (by decide) rfl ?_
      refine g_iconst q_L_move_21 ?_
      refine g_ireturn q_L_move_22.1 rfl ?_
      exact Or.inr ⟨2, by omega, hX, rfl⟩
    | 2, hk, hX =>
      have hE : xISE = E := Option.some.inj hk
      subst hE
      refine ⟨23, ⟨[(0, 12, 15, 19), (0, 12, 19, 13)], (0, 12, 23, 33), [], rfl, (fun z hz => by
        simp only [List.mem_cons, List.not_mem_nil, or_false] at hz
        rcases hz with rfl | rfl
        · exact ⟨by decide, _, gw_905, nc_ISE_IOB hΓ⟩
        · exact ⟨by decide, _, gw_645, nc_ISE_IAE hΓ⟩), by decide, by decide, gw_967, gw_979, rfl⟩, fun q => ?_⟩
      refine g_astore (L' := [_, _, _, _, _, _]) q_L_move_23 (by decide) rfl ?_
      refine g_iconst q_L_move_25 ?_
      refine g_ireturn q_L_move_26.1 rfl ?_
      exact Or.inr ⟨3, by omega, hX, rfl⟩
    | n + 3, hk, hX => exact absurd hk (by simp)
  · obtain ⟨v, rfl, hQ⟩ := h
    have hc := ho v σ' hQ
    refine g_top (v' := .int (ii (cn v))) (congrArg Value.int (ii_cn v).symm) ?_
    refine g_i2l q_L_move_10 (cn_rg v) ?_
    refine g_lastore q_L_move_11 (by repeat first | with_reducible assumption | with_reducible exact hput_s _ _ _ | refine (hput_n _ _ (by omega)).trans ?_ | exact hput_s _ _ _ | assumption) (by omega) (by omega) ?_
    refine g_goto (tgt := 27) q_L_move_12 (by decide) ?_
    refine g_iconst q_L_move_27 ?_
    refine g_ireturn q_L_move_28.1 rfl ?_
    exact Or.inl ⟨v, σ', hQ, rfl, rfl⟩
theorem sp_L_used (hΓ : Gd Γ) (hx : σ.2 x = some (ob 9 fs)) {p0 p1 p2 p3 : Int} (sp : Sp Γ miX9_used mc ms [.ref x, .int (ii p0), .int (ii p1), .int (ii p2), .int (ii p3)] σ (cQ QI) (cX [xIOB, xIAE, xISE] XI)) (ho : ∀ v σ', QI v σ' → σ'.2 o = some (al 1 g)) : SpW Γ miL_used mc ms [.ref x, .int (ii p0), .int (ii p1), .int (ii p2), .int (ii p3), .ref o] σ (wQ o g QI XI) := by
  refine SpW_of (L := [_, _, _, _, _, _, _]) hΓ (by decide +kernel) (Nat.le_of_ble_eq_true rfl) rfl ?_
  refine g_aload q_L_used_0 rfl ?_
  refine g_iconst q_L_used_2 ?_
  refine g_aload_n q_L_used_3 rfl ?_
  refine g_iload_n q_L_used_4 rfl ?_
  refine g_iload_n q_L_used_5 rfl ?_
  refine g_iload_n q_L_used_6 rfl ?_
  refine g_iload q_L_used_7 rfl ?_
  refine g_callVC (rc' := 0) (rs' := 0) (As := [_, _, _, _]) cs_L_71 q_L_used_9 sp hx rfl rfl rfl rfl (Nat.le_of_ble_eq_true rfl) (by decide) (by omega) (by omega) (fun E σ' h => ?_) (fun v σ' h => ?_)
  · obtain ⟨k, hk, hX⟩ := h
    match k, hk, hX with
    | 0, hk, hX =>
      have hE : xIOB = E := Option.some.inj hk
      subst hE
      refine ⟨17, ⟨[], (0, 14, 17, 19), [(0, 14, 21, 13), (0, 14, 25, 33)], rfl, (fun z hz => by cases hz), by decide, by decide, gw_905, gw_917, rfl⟩, fun q => ?_⟩
      refine g_astore (L' := [_, _, _, _, _, _, _]) q_L_used_17 (by decide) rfl ?_
      refine g_iconst q_L_used_19 ?_
      refine g_ireturn q_L_used_20.1 rfl ?_
      exact Or.inr ⟨1, by omega, hX, rfl⟩
    | 1, hk, hX =>
      have hE : xIAE = E := Option.some.inj hk
      subst hE
      refine ⟨21, ⟨[(0, 14, 17, 19)], (0, 14, 21, 13), [(0, 14, 25, 33)], rfl, (fun z hz => by
        simp only [List.mem_cons, List.not_mem_nil, or_false] at hz
        rcases hz with rfl
        · exact ⟨by decide, _, gw_905, nc_IAE_IOB hΓ⟩), by decide, by decide, gw_645, gw_828, rfl⟩, fun q => ?_⟩
      refine g_astore (L' := [_, _, _, _, _, _, _]) q_L_used_21 (by decide) rfl ?_
      refine g_iconst q_L_used_23 ?_
      refine g_ireturn q_L_used_24.1 rfl ?_
      exact Or.inr ⟨2, by omega, hX, rfl⟩
    | 2, hk, hX =>
      have hE : xISE = E := Option.some.inj hk
      subst hE
      refine ⟨25, ⟨[(0, 14, 17, 19), (0, 14, 21, 13)], (0, 14, 25, 33), [], rfl, (fun z hz => by
        simp only [List.mem_cons, List.not_mem_nil, or_false] at hz
        rcases hz with rfl | rfl
        · exact ⟨by decide, _, gw_905, nc_ISE_IOB hΓ⟩
        · exact ⟨by decide, _, gw_645, nc_ISE_IAE hΓ⟩), by decide, by decide, gw_967, gw_979, rfl⟩, fun q => ?_⟩
      refine g_astore (L' := [_, _, _, _, _, _, _]) q_L_used_25 (by decide) rfl ?_
      refine g_iconst q_L_used_27 ?_
      refine g_ireturn q_L_used_28.1 rfl ?_
      exact Or.inr ⟨3, by omega, hX, rfl⟩
    | n + 3, hk, hX => exact absurd hk (by simp)
  · obtain ⟨v, rfl, hQ⟩ := h
    have hc := ho v σ' hQ
    refine g_top (v' := .int (ii (cn v))) (congrArg Value.int (ii_cn v).symm) ?_
    refine g_i2l q_L_used_12 (cn_rg v) ?_
    refine g_lastore q_L_used_13 (by repeat first | with_reducible assumption | with_reducible exact hput_s _ _ _ | refine (hput_n _ _ (by omega)).trans ?_ | exact hput_s _ _ _ | assumption) (by omega) (by omega) ?_
    refine g_goto (tgt := 29) q_L_used_14 (by decide) ?_
    refine g_iconst q_L_used_29 ?_
    refine g_ireturn q_L_used_30.1 rfl ?_
    exact Or.inl ⟨v, σ', hQ, rfl, rfl⟩
theorem sp_L_busiest (hΓ : Gd Γ) (hx : σ.2 x = some (ob 9 fs)) {p0 : Int} (sp : Sp Γ miX9_busiest mc ms [.ref x, .int (ii p0)] σ (cQ QI) (cX [xIAE, xISE] XI)) (ho : ∀ v σ', QI v σ' → σ'.2 o = some (al 1 g)) : SpW Γ miL_busiest mc ms [.ref x, .int (ii p0), .ref o] σ (wQ o g QI XI) := by
  refine SpW_of (L := [_, _, _, _]) hΓ (by decide +kernel) (Nat.le_of_ble_eq_true rfl) rfl ?_
  refine g_aload_n q_L_busiest_0 rfl ?_
  refine g_iconst q_L_busiest_1 ?_
  refine g_aload_n q_L_busiest_2 rfl ?_
  refine g_iload_n q_L_busiest_3 rfl ?_
  refine g_callVC (rc' := 0) (rs' := 0) (As := [_]) cs_L_75 q_L_busiest_4 sp hx rfl rfl rfl rfl (Nat.le_of_ble_eq_true rfl) (by decide) (by omega) (by omega) (fun E σ' h => ?_) (fun v σ' h => ?_)
  · obtain ⟨k, hk, hX⟩ := h
    match k, hk, hX with
    | 0, hk, hX =>
      have hE : xIAE = E := Option.some.inj hk
      subst hE
      refine ⟨12, ⟨[], (0, 9, 12, 13), [(0, 9, 15, 33)], rfl, (fun z hz => by cases hz), by decide, by decide, gw_645, gw_828, rfl⟩, fun q => ?_⟩
      refine g_astore_n (L' := [_, _, _, _]) q_L_busiest_12 (by decide) rfl ?_
      refine g_iconst q_L_busiest_13 ?_
      refine g_ireturn q_L_busiest_14.1 rfl ?_
      exact Or.inr ⟨1, by omega, hX, rfl⟩
    | 1, hk, hX =>
      have hE : xISE = E := Option.some.inj hk
      subst hE
      refine ⟨15, ⟨[(0, 9, 12, 13)], (0, 9, 15, 33), [], rfl, (fun z hz => by
        simp only [List.mem_cons, List.not_mem_nil, or_false] at hz
        rcases hz with rfl
        · exact ⟨by decide, _, gw_645, nc_ISE_IAE hΓ⟩), by decide, by decide, gw_967, gw_979, rfl⟩, fun q => ?_⟩
      refine g_astore_n (L' := [_, _, _, _]) q_L_busiest_15 (by decide) rfl ?_
      refine g_iconst q_L_busiest_16 ?_
      refine g_ireturn q_L_busiest_17.1 rfl ?_
      exact Or.inr ⟨2, by omega, hX, rfl⟩
    | n + 2, hk, hX => exact absurd hk (by simp)
  · obtain ⟨v, rfl, hQ⟩ := h
    have hc := ho v σ' hQ
    refine g_top (v' := .int (ii (cn v))) (congrArg Value.int (ii_cn v).symm) ?_
    refine g_i2l q_L_busiest_7 (cn_rg v) ?_
    refine g_lastore q_L_busiest_8 (by repeat first | with_reducible assumption | with_reducible exact hput_s _ _ _ | refine (hput_n _ _ (by omega)).trans ?_ | exact hput_s _ _ _ | assumption) (by omega) (by omega) ?_
    refine g_goto (tgt := 18) q_L_busiest_9 (by decide) ?_
    refine g_iconst q_L_busiest_18 ?_
    refine g_ireturn q_L_busiest_19.1 rfl ?_
    exact Or.inl ⟨v, σ', hQ, rfl, rfl⟩
theorem sp_L_waits (hΓ : Gd Γ) (hx : σ.2 x = some (ob 9 fs)) {p0 : Int} (sp : Sp Γ miX9_waits mc ms [.ref x, .int (ii p0)] σ (cQ QI) (cX [xIAE, xISE] XI)) (ho : ∀ v σ', QI v σ' → σ'.2 o = some (al 1 g)) : SpW Γ miL_waits mc ms [.ref x, .int (ii p0), .ref o] σ (wQ o g QI XI) := by
  refine SpW_of (L := [_, _, _, _]) hΓ (by decide +kernel) (Nat.le_of_ble_eq_true rfl) rfl ?_
  refine g_aload_n q_L_waits_0 rfl ?_
  refine g_iconst q_L_waits_1 ?_
  refine g_aload_n q_L_waits_2 rfl ?_
  refine g_iload_n q_L_waits_3 rfl ?_
  refine g_callVC (rc' := 0) (rs' := 0) (As := [_]) cs_L_78 q_L_waits_4 sp hx rfl rfl rfl rfl (Nat.le_of_ble_eq_true rfl) (by decide) (by omega) (by omega) (fun E σ' h => ?_) (fun v σ' h => ?_)
  · obtain ⟨k, hk, hX⟩ := h
    match k, hk, hX with
    | 0, hk, hX =>
      have hE : xIAE = E := Option.some.inj hk
      subst hE
      refine ⟨12, ⟨[], (0, 9, 12, 13), [(0, 9, 15, 33)], rfl, (fun z hz => by cases hz), by decide, by decide, gw_645, gw_828, rfl⟩, fun q => ?_⟩
      refine g_astore_n (L' := [_, _, _, _]) q_L_waits_12 (by decide) rfl ?_
      refine g_iconst q_L_waits_13 ?_
      refine g_ireturn q_L_waits_14.1 rfl ?_
      exact Or.inr ⟨1, by omega, hX, rfl⟩
    | 1, hk, hX =>
      have hE : xISE = E := Option.some.inj hk
      subst hE
      refine ⟨15, ⟨[(0, 9, 12, 13)], (0, 9, 15, 33), [], rfl, (fun z hz => by
        simp only [List.mem_cons, List.not_mem_nil, or_false] at hz
        rcases hz with rfl
        · exact ⟨by decide, _, gw_645, nc_ISE_IAE hΓ⟩), by decide, by decide, gw_967, gw_979, rfl⟩, fun q => ?_⟩
      refine g_astore_n (L' := [_, _, _, _]) q_L_waits_15 (by decide) rfl ?_
      refine g_iconst q_L_waits_16 ?_
      refine g_ireturn q_L_waits_17.1 rfl ?_
      exact Or.inr ⟨2, by omega, hX, rfl⟩
    | n + 2, hk, hX => exact absurd hk (by simp)
  · obtain ⟨v, rfl, hQ⟩ := h
    have hc := ho v σ' hQ
    refine g_top (v' := .int (ii (cn v))) (congrArg Value.int (ii_cn v).symm) ?_
    refine g_i2l q_L_waits_7 (cn_rg v) ?_
    refine g_lastore q_L_waits_8 (by repeat first | with_reducible assumption | with_reducible exact hput_s _ _ _ | refine (hput_n _ _ (by omega)).trans ?_ | exact hput_s _ _ _ | assumption) (by omega) (by omega) ?_
    refine g_goto (tgt := 18) q_L_waits_9 (by decide) ?_
    refine g_iconst q_L_waits_18 ?_
    refine g_ireturn q_L_waits_19.1 rfl ?_
    exact Or.inl ⟨v, σ', hQ, rfl, rfl⟩
theorem sp_L_late (hΓ : Gd Γ) (hx : σ.2 x = some (ob 9 fs)) {p0 p1 p2 p3 p4 : Int} (sp : Sp Γ miX9_late mc ms [.ref x, .int (ii p0), .int (ii p1), .int (ii p2), .int (ii p3), .int (ii p4)] σ (cQ QI) (cX [xIOB, xIAE, xISE] XI)) (ho : ∀ v σ', QI v σ' → σ'.2 o = some (al 1 g)) : SpW Γ miL_late mc ms [.ref x, .int (ii p0), .int (ii p1), .int (ii p2), .int (ii p3), .int (ii p4), .ref o] σ (wQ o g QI XI) := by
  refine SpW_of (L := [_, _, _, _, _, _, _, _]) hΓ (by decide +kernel) (Nat.le_of_ble_eq_true rfl) rfl ?_
  refine g_aload q_L_late_0 rfl ?_
  refine g_iconst q_L_late_2 ?_
  refine g_aload_n q_L_late_3 rfl ?_
  refine g_iload_n q_L_late_4 rfl ?_
  refine g_iload_n q_L_late_5 rfl ?_
  refine g_iload_n q_L_late_6 rfl ?_
  refine g_iload q_L_late_7 rfl ?_
  refine g_iload q_L_late_9 rfl ?_
  refine g_callVC (rc' := 0) (rs' := 0) (As := [_, _, _, _, _]) cs_L_81 q_L_late_11 sp hx rfl rfl rfl rfl (Nat.le_of_ble_eq_true rfl) (by decide) (by omega) (by omega) (fun E σ' h => ?_) (fun v σ' h => ?_)
  · obtain ⟨k, hk, hX⟩ := h
    match k, hk, hX with
    | 0, hk, hX =>
      have hE : xIOB = E := Option.some.inj hk
      subst hE
      refine ⟨19, ⟨[], (0, 16, 19, 19), [(0, 16, 23, 13), (0, 16, 27, 33)], rfl, (fun z hz => by cases hz), by decide, by decide, gw_905, gw_917, rfl⟩, fun q => ?_⟩
      refine g_astore (L' := [_, _, _, _, _, _, _, _]) q_L_late_19 (by decide) rfl ?_
      refine g_iconst q_L_late_21 ?_
      refine g_ireturn q_L_late_22.1 rfl ?_
      exact Or.inr ⟨1, by omega, hX, rfl⟩
    | 1, hk, hX =>
      have hE : xIAE = E := Option.some.inj hk
      subst hE
      refine ⟨23, ⟨[(0, 16, 19, 19)], (0, 16, 23, 13), [(0, 16, 27, 33)], rfl, (fun z hz => by
        simp only [List.mem_cons, List.not_mem_nil, or_false] at hz
        rcases hz with rfl
        · exact ⟨by decide, _, gw_905, nc_IAE_IOB hΓ⟩), by decide, by decide, gw_645, gw_828, rfl⟩, fun q => ?_⟩
      refine g_astore (L' := [_, _, _, _, _, _, _, _]) q_L_late_23 (by decide) rfl ?_
      refine g_iconst q_L_late_25 ?_
      refine g_ireturn q_L_late_26.1 rfl ?_
      exact Or.inr ⟨2, by omega, hX, rfl⟩
    | 2, hk, hX =>
      have hE : xISE = E := Option.some.inj hk
      subst hE
      refine ⟨27, ⟨[(0, 16, 19, 19), (0, 16, 23, 13)], (0, 16, 27, 33), [], rfl, (fun z hz => by
        simp only [List.mem_cons, List.not_mem_nil, or_false] at hz
        rcases hz with rfl | rfl
        · exact ⟨by decide, _, gw_905, nc_ISE_IOB hΓ⟩
        · exact ⟨by decide, _, gw_645, nc_ISE_IAE hΓ⟩), by decide, by decide, gw_967, gw_979, rfl⟩, fun q => ?_⟩
      refine g_astore (L' := [_, _, _, _, _, _, _, _]) q_L_late_27 (by decide) rfl ?_
      refine g_iconst q_L_late_29 ?_
      refine g_ireturn q_L_late_30.1 rfl ?_
      exact Or.inr ⟨3, by omega, hX, rfl⟩
    | n + 3, hk, hX => exact absurd hk (by simp)
  · obtain ⟨v, rfl, hQ⟩ := h
    have hc := ho v σ' hQ
    refine g_top (v' := .int (ii (cn v))) (congrArg Value.int (ii_cn v).symm) ?_
    refine g_i2l q_L_late_14 (cn_rg v) ?_
    refine g_lastore q_L_late_15 (by repeat first | with_reducible assumption | with_reducible exact hput_s _ _ _ | refine (hput_n _ _ (by omega)).trans ?_ | exact hput_s _ _ _ | assumption) (by omega) (by omega) ?_
    refine g_goto (tgt := 31) q_L_late_16 (by decide) ?_
    refine g_iconst q_L_late_31 ?_
    refine g_ireturn q_L_late_32.1 rfl ?_
    exact Or.inl ⟨v, σ', hQ, rfl, rfl⟩
theorem sp_L_worse (hΓ : Gd Γ) (hx : σ.2 x = some (ob 9 fs)) {p0 : Int} (sp : Sp Γ miX9_worse mc ms [.ref x, .int (ii p0)] σ (cQ QI) (cX [xIAE, xISE] XI)) (ho : ∀ v σ', QI v σ' → σ'.2 o = some (al 1 g)) : SpW Γ miL_worse mc ms [.ref x, .int (ii p0), .ref o] σ (wQ o g QI XI) := by
  refine SpW_of (L := [_, _, _, _]) hΓ (by decide +kernel) (Nat.le_of_ble_eq_true rfl) rfl ?_
  refine g_aload_n q_L_worse_0 rfl ?_
  refine g_iconst q_L_worse_1 ?_
  refine g_aload_n q_L_worse_2 rfl ?_
  refine g_iload_n q_L_worse_3 rfl ?_
  refine g_callVC (rc' := 0) (rs' := 0) (As := [_]) cs_L_85 q_L_worse_4 sp hx rfl rfl rfl rfl (Nat.le_of_ble_eq_true rfl) (by decide) (by omega) (by omega) (fun E σ' h => ?_) (fun v σ' h => ?_)
  · obtain ⟨k, hk, hX⟩ := h
    match k, hk, hX with
    | 0, hk, hX =>
      have hE : xIAE = E := Option.some.inj hk
      subst hE
      refine ⟨12, ⟨[], (0, 9, 12, 13), [(0, 9, 15, 33)], rfl, (fun z hz => by cases hz), by decide, by decide, gw_645, gw_828, rfl⟩, fun q => ?_⟩
      refine g_astore_n (L' := [_, _, _, _]) q_L_worse_12 (by decide) rfl ?_
      refine g_iconst q_L_worse_13 ?_
      refine g_ireturn q_L_worse_14.1 rfl ?_
      exact Or.inr ⟨1, by omega, hX, rfl⟩
    | 1, hk, hX =>
      have hE : xISE = E := Option.some.inj hk
      subst hE
      refine ⟨15, ⟨[(0, 9, 12, 13)], (0, 9, 15, 33), [], rfl, (fun z hz => by
        simp only [List.mem_cons, List.not_mem_nil, or_false] at hz
        rcases hz with rfl
        · exact ⟨by decide, _, gw_645, nc_ISE_IAE hΓ⟩), by decide, by decide, gw_967, gw_979, rfl⟩, fun q => ?_⟩
      refine g_astore_n (L' := [_, _, _, _]) q_L_worse_15 (by decide) rfl ?_
      refine g_iconst q_L_worse_16 ?_
      refine g_ireturn q_L_worse_17.1 rfl ?_
      exact Or.inr ⟨2, by omega, hX, rfl⟩
    | n + 2, hk, hX => exact absurd hk (by simp)
  · obtain ⟨v, rfl, hQ⟩ := h
    have hc := ho v σ' hQ
    refine g_top (v' := .int (ii (cn v))) (congrArg Value.int (ii_cn v).symm) ?_
    refine g_i2l q_L_worse_7 (cn_rg v) ?_
    refine g_lastore q_L_worse_8 (by repeat first | with_reducible assumption | with_reducible exact hput_s _ _ _ | refine (hput_n _ _ (by omega)).trans ?_ | exact hput_s _ _ _ | assumption) (by omega) (by omega) ?_
    refine g_goto (tgt := 18) q_L_worse_9 (by decide) ?_
    refine g_iconst q_L_worse_18 ?_
    refine g_ireturn q_L_worse_19.1 rfl ?_
    exact Or.inl ⟨v, σ', hQ, rfl, rfl⟩
theorem sp_L_who (hΓ : Gd Γ) (hx : σ.2 x = some (ob 9 fs)) {p0 p1 p2 p3 : Int} (sp : Sp Γ miX9_who mc ms [.ref x, .int (ii p0), .int (ii p1), .int (ii p2), .int (ii p3)] σ (cQ QI) (cX [xIOB, xIAE, xISE] XI)) (ho : ∀ v σ', QI v σ' → σ'.2 o = some (al 1 g)) : SpW Γ miL_who mc ms [.ref x, .int (ii p0), .int (ii p1), .int (ii p2), .int (ii p3), .ref o] σ (wQ o g QI XI) := by
  refine SpW_of (L := [_, _, _, _, _, _, _]) hΓ (by decide +kernel) (Nat.le_of_ble_eq_true rfl) rfl ?_
  refine g_aload q_L_who_0 rfl ?_
  refine g_iconst q_L_who_2 ?_
  refine g_aload_n q_L_who_3 rfl ?_
  refine g_iload_n q_L_who_4 rfl ?_
  refine g_iload_n q_L_who_5 rfl ?_
  refine g_iload_n q_L_who_6 rfl ?_
  refine g_iload q_L_who_7 rfl ?_
  refine g_callVC (rc' := 0) (rs' := 0) (As := [_, _, _, _]) cs_L_88 q_L_who_9 sp hx rfl rfl rfl rfl (Nat.le_of_ble_eq_true rfl) (by decide) (by omega) (by omega) (fun E σ' h => ?_) (fun v σ' h => ?_)
  · obtain ⟨k, hk, hX⟩ := h
    match k, hk, hX with
    | 0, hk, hX =>
      have hE : xIOB = E := Option.some.inj hk
      subst hE
      refine ⟨17, ⟨[], (0, 14, 17, 19), [(0, 14, 21, 13), (0, 14, 25, 33)], rfl, (fun z hz => by cases hz), by decide, by decide, gw_905, gw_917, rfl⟩, fun q => ?_⟩
      refine g_astore (L' := [_, _, _, _, _, _, _]) q_L_who_17 (by decide) rfl ?_
      refine g_iconst q_L_who_19 ?_
      refine g_ireturn q_L_who_20.1 rfl ?_
      exact Or.inr ⟨1, by omega, hX, rfl⟩
    | 1, hk, hX =>
      have hE : xIAE = E := Option.some.inj hk
      subst hE
      refine ⟨21, ⟨[(0, 14, 17, 19)], (0, 14, 21, 13), [(0, 14, 25, 33)], rfl, (fun z hz => by
        simp only [List.mem_cons, List.not_mem_nil, or_false] at hz
        rcases hz with rfl
        · exact ⟨by decide, _, gw_905, nc_IAE_IOB hΓ⟩), by decide, by decide, gw_645, gw_828, rfl⟩, fun q => ?_⟩
      refine g_astore (L' := [_, _, _, _, _, _, _]) q_L_who_21 (by decide) rfl ?_
      refine g_iconst q_L_who_23 ?_
      refine g_ireturn q_L_who_24.1 rfl ?_
      exact Or.inr ⟨2, by omega, hX, rfl⟩
    | 2, hk, hX =>
      have hE : xISE = E := Option.some.inj hk
      subst hE
      refine ⟨25, ⟨[(0, 14, 17, 19), (0, 14, 21, 13)], (0, 14, 25, 33), [], rfl, (fun z hz => by
        simp only [List.mem_cons, List.not_mem_nil, or_false] at hz
        rcases hz with rfl | rfl
        · exact ⟨by decide, _, gw_905, nc_ISE_IOB hΓ⟩
        · exact ⟨by decide, _, gw_645, nc_ISE_IAE hΓ⟩), by decide, by decide, gw_967, gw_979, rfl⟩, fun q => ?_⟩
      refine g_astore (L' := [_, _, _, _, _, _, _]) q_L_who_25 (by decide) rfl ?_
      refine g_iconst q_L_who_27 ?_
      refine g_ireturn q_L_who_28.1 rfl ?_
      exact Or.inr ⟨3, by omega, hX, rfl⟩
    | n + 3, hk, hX => exact absurd hk (by simp)
  · obtain ⟨v, rfl, hQ⟩ := h
    have hc := ho v σ' hQ
    refine g_top (v' := .int (ii (cn v))) (congrArg Value.int (ii_cn v).symm) ?_
    refine g_i2l q_L_who_12 (cn_rg v) ?_
    refine g_lastore q_L_who_13 (by repeat first | with_reducible assumption | with_reducible exact hput_s _ _ _ | refine (hput_n _ _ (by omega)).trans ?_ | exact hput_s _ _ _ | assumption) (by omega) (by omega) ?_
    refine g_goto (tgt := 29) q_L_who_14 (by decide) ?_
    refine g_iconst q_L_who_29 ?_
    refine g_ireturn q_L_who_30.1 rfl ?_
    exact Or.inl ⟨v, σ', hQ, rfl, rfl⟩
theorem sp_L_near (hΓ : Gd Γ) (hx : σ.2 x = some (ob 9 fs)) {p0 p1 p2 p3 : Int} (sp : Sp Γ miX9_near mc ms [.ref x, .int (ii p0), .int (ii p1), .int (ii p2), .int (ii p3)] σ (cQ QI) (cX [xIOB, xIAE, xISE] XI)) (ho : ∀ v σ', QI v σ' → σ'.2 o = some (al 1 g)) : SpW Γ miL_near mc ms [.ref x, .int (ii p0), .int (ii p1), .int (ii p2), .int (ii p3), .ref o] σ (wQ o g QI XI) := by
  refine SpW_of (L := [_, _, _, _, _, _, _]) hΓ (by decide +kernel) (Nat.le_of_ble_eq_true rfl) rfl ?_
  refine g_aload q_L_near_0 rfl ?_
  refine g_iconst q_L_near_2 ?_
  refine g_aload_n q_L_near_3 rfl ?_
  refine g_iload_n q_L_near_4 rfl ?_
  refine g_iload_n q_L_near_5 rfl ?_
  refine g_iload_n q_L_near_6 rfl ?_
  refine g_iload q_L_near_7 rfl ?_
  refine g_callVC (rc' := 0) (rs' := 0) (As := [_, _, _, _]) cs_L_91 q_L_near_9 sp hx rfl rfl rfl rfl (Nat.le_of_ble_eq_true rfl) (by decide) (by omega) (by omega) (fun E σ' h => ?_) (fun v σ' h => ?_)
  · obtain ⟨k, hk, hX⟩ := h
    match k, hk, hX with
    | 0, hk, hX =>
      have hE : xIOB = E := Option.some.inj hk
      subst hE
      refine ⟨17, ⟨[], (0, 14, 17, 19), [(0, 14, 21, 13), (0, 14, 25, 33)], rfl, (fun z hz => by cases hz), by decide, by decide, gw_905, gw_917, rfl⟩, fun q => ?_⟩
      refine g_astore (L' := [_, _, _, _, _, _, _]) q_L_near_17 (by decide) rfl ?_
      refine g_iconst q_L_near_19 ?_
      refine g_ireturn q_L_near_20.1 rfl ?_
      exact Or.inr ⟨1, by omega, hX, rfl⟩
    | 1, hk, hX =>
      have hE : xIAE = E := Option.some.inj hk
      subst hE
      refine ⟨21, ⟨[(0, 14, 17, 19)], (0, 14, 21, 13), [(0, 14, 25, 33)], rfl, (fun z hz => by
        simp only [List.mem_cons, List.not_mem_nil, or_false] at hz
        rcases hz with rfl
        · exact ⟨by decide, _, gw_905, nc_IAE_IOB hΓ⟩), by decide, by decide, gw_645, gw_828, rfl⟩, fun q => ?_⟩
      refine g_astore (L' := [_, _, _, _, _, _, _]) q_L_near_21 (by decide) rfl ?_
      refine g_iconst q_L_near_23 ?_
      refine g_ireturn q_L_near_24.1 rfl ?_
      exact Or.inr ⟨2, by omega, hX, rfl⟩
    | 2, hk, hX =>
      have hE : xISE = E := Option.some.inj hk
      subst hE
      refine ⟨25, ⟨[(0, 14, 17, 19), (0, 14, 21, 13)], (0, 14, 25, 33), [], rfl, (fun z hz => by
        simp only [List.mem_cons, List.not_mem_nil, or_false] at hz
        rcases hz with rfl | rfl
        · exact ⟨by decide, _, gw_905, nc_ISE_IOB hΓ⟩
        · exact ⟨by decide, _, gw_645, nc_ISE_IAE hΓ⟩), by decide, by decide, gw_967, gw_979, rfl⟩, fun q => ?_⟩
      refine g_astore (L' := [_, _, _, _, _, _, _]) q_L_near_25 (by decide) rfl ?_
      refine g_iconst q_L_near_27 ?_
      refine g_ireturn q_L_near_28.1 rfl ?_
      exact Or.inr ⟨3, by omega, hX, rfl⟩
    | n + 3, hk, hX => exact absurd hk (by simp)
  · obtain ⟨v, rfl, hQ⟩ := h
    have hc := ho v σ' hQ
    refine g_top (v' := .int (ii (cn v))) (congrArg Value.int (ii_cn v).symm) ?_
    refine g_i2l q_L_near_12 (cn_rg v) ?_
    refine g_lastore q_L_near_13 (by repeat first | with_reducible assumption | with_reducible exact hput_s _ _ _ | refine (hput_n _ _ (by omega)).trans ?_ | exact hput_s _ _ _ | assumption) (by omega) (by omega) ?_
    refine g_goto (tgt := 29) q_L_near_14 (by decide) ?_
    refine g_iconst q_L_near_29 ?_
    refine g_ireturn q_L_near_30.1 rfl ?_
    exact Or.inl ⟨v, σ', hQ, rfl, rfl⟩
theorem sp_L_without (hΓ : Gd Γ) (hx : σ.2 x = some (ob 9 fs)) {p0 p1 p2 : Int} (sp : Sp Γ miX9_without mc ms [.ref x, .int (ii p0), .int (ii p1), .int (ii p2)] σ (cQ QI) (cX [xIOB, xIAE, xISE] XI)) (ho : ∀ v σ', QI v σ' → σ'.2 o = some (al 1 g)) : SpW Γ miL_without mc ms [.ref x, .int (ii p0), .int (ii p1), .int (ii p2), .ref o] σ (wQ o g QI XI) := by
  refine SpW_of (L := [_, _, _, _, _, _]) hΓ (by decide +kernel) (Nat.le_of_ble_eq_true rfl) rfl ?_
  refine g_aload q_L_without_0 rfl ?_
  refine g_iconst q_L_without_2 ?_
  refine g_aload_n q_L_without_3 rfl ?_
  refine g_iload_n q_L_without_4 rfl ?_
  refine g_iload_n q_L_without_5 rfl ?_
  refine g_iload_n q_L_without_6 rfl ?_
  refine g_callVC (rc' := 0) (rs' := 0) (As := [_, _, _]) cs_L_94 q_L_without_7 sp hx rfl rfl rfl rfl (Nat.le_of_ble_eq_true rfl) (by decide) (by omega) (by omega) (fun E σ' h => ?_) (fun v σ' h => ?_)
  · obtain ⟨k, hk, hX⟩ := h
    match k, hk, hX with
    | 0, hk, hX =>
      have hE : xIOB = E := Option.some.inj hk
      subst hE
      refine ⟨15, ⟨[], (0, 12, 15, 19), [(0, 12, 19, 13), (0, 12, 23, 33)], rfl, (fun z hz => by cases hz), by decide, by decide, gw_905, gw_917, rfl⟩, fun q => ?_⟩
      refine g_astore (L' := [_, _, _, _, _, _]) q_L_without_15 (by decide) rfl ?_
      refine g_iconst q_L_without_17 ?_
      refine g_ireturn q_L_without_18.1 rfl ?_
      exact Or.inr ⟨1, by omega, hX, rfl⟩
    | 1, hk, hX =>
      have hE : xIAE = E := Option.some.inj hk
      subst hE
      refine ⟨19, ⟨[(0, 12, 15, 19)], (0, 12, 19, 13), [(0, 12, 23, 33)], rfl, (fun z hz => by
        simp only [List.mem_cons, List.not_mem_nil, or_false] at hz
        rcases hz with rfl
        · exact ⟨by decide, _, gw_905, nc_IAE_IOB hΓ⟩), by decide, by decide, gw_645, gw_828, rfl⟩, fun q => ?_⟩
      refine g_astore (L' := [_, _, _, _, _, _]) q_L_without_19 (by decide) rfl ?_
      refine g_iconst q_L_without_21 ?_
      refine g_ireturn q_L_without_22.1 rfl ?_
      exact Or.inr ⟨2, by omega, hX, rfl⟩
    | 2, hk, hX =>
      have hE : xISE = E := Option.some.inj hk
      subst hE
      refine ⟨23, ⟨[(0, 12, 15, 19), (0, 12, 19, 13)], (0, 12, 23, 33), [], rfl, (fun z hz => by
        simp only [List.mem_cons, List.not_mem_nil, or_false] at hz
        rcases hz with rfl | rfl
        · exact ⟨by decide, _, gw_905, nc_ISE_IOB hΓ⟩
        · exact ⟨by decide, _, gw_645, nc_ISE_IAE hΓ⟩), by decide, by decide, gw_967, gw_979, rfl⟩, fun q => ?_⟩
      refine g_astore (L' := [_, _, _, _, _, _]) q_L_without_23 (by decide) rfl ?_
      refine g_iconst q_L_without_25 ?_
      refine g_ireturn q_L_without_26.1 rfl ?_
      exact Or.inr ⟨3, by omega, hX, rfl⟩
    | n + 3, hk, hX => exact absurd hk (by simp)
  · obtain ⟨v, rfl, hQ⟩ := h
    have hc := ho v σ' hQ
    refine g_top (v' := .int (ii (cn v))) (congrArg Value.int (ii_cn v).symm) ?_
    refine g_i2l q_L_without_10 (cn_rg v) ?_
    refine g_lastore q_L_without_11 (by repeat first | with_reducible assumption | with_reducible exact hput_s _ _ _ | refine (hput_n _ _ (by omega)).trans ?_ | exact hput_s _ _ _ | assumption) (by omega) (by omega) ?_
    refine g_goto (tgt := 27) q_L_without_12 (by decide) ?_
    refine g_iconst q_L_without_27 ?_
    refine g_ireturn q_L_without_28.1 rfl ?_
    exact Or.inl ⟨v, σ', hQ, rfl, rfl⟩
theorem sp_L_follows (hΓ : Gd Γ) (hx : σ.2 x = some (ob 9 fs)) {p0 p1 p2 : Int} (sp : Sp Γ miX9_follows mc ms [.ref x, .int (ii p0), .int (ii p1), .int (ii p2)] σ (cQ QI) (cX [xIOB, xIAE, xISE] XI)) (ho : ∀ v σ', QI v σ' → σ'.2 o = some (al 1 g)) : SpW Γ miL_follows mc ms [.ref x, .int (ii p0), .int (ii p1), .int (ii p2), .ref o] σ (wQ o g QI XI) := by
  refine SpW_of (L := [_, _, _, _, _, _]) hΓ (by decide +kernel) (Nat.le_of_ble_eq_true rfl) rfl ?_
  refine g_aload q_L_follows_0 rfl ?_
  refine g_iconst q_L_follows_2 ?_
  refine g_aload_n q_L_follows_3 rfl ?_
  refine g_iload_n q_L_follows_4 rfl ?_
  refine g_iload_n q_L_follows_5 rfl ?_
  refine g_iload_n q_L_follows_6 rfl ?_
  refine g_callVC (rc' := 0) (rs' := 0) (As := [_, _, _]) cs_L_97 q_L_follows_7 sp hx rfl rfl rfl rfl (Nat.le_of_ble_eq_true rfl) (by decide) (by omega) (by omega) (fun E σ' h => ?_) (fun v σ' h => ?_)
  · obtain ⟨k, hk, hX⟩ := h
    match k, hk, hX with
    | 0, hk, hX =>
      have hE : xIOB = E := Option.some.inj hk
      subst hE
      refine ⟨15, ⟨[], (0, 12, 15, 19), [(0, 12, 19, 13), (0, 12, 23, 33)], rfl, (fun z hz => by cases hz), by decide, by decide, gw_905, gw_917, rfl⟩, fun q => ?_⟩
      refine g_astore (L' := [_, _, _, _, _, _]) q_L_follows_15 (by decide) rfl ?_
      refine g_iconst q_L_follows_17 ?_
      refine g_ireturn q_L_follows_18.1 rfl ?_
      exact Or.inr ⟨1, by omega, hX, rfl⟩
    | 1, hk, hX =>
      have hE : xIAE = E := Option.some.inj hk
      subst hE
      refine ⟨19, ⟨[(0, 12, 15, 19)], (0, 12, 19, 13), [(0, 12, 23, 33)], rfl, (fun z hz => by
        simp only [List.mem_cons, List.not_mem_nil, or_false] at hz
        rcases hz with rfl
        · exact ⟨by decide, _, gw_905, nc_IAE_IOB hΓ⟩), by decide, by decide, gw_645, gw_828, rfl⟩, fun q => ?_⟩
      refine g_astore (L' := [_, _, _, _, _, _]) q_L_follows_19 (by decide) rfl ?_
      refine g_iconst q_L_follows_21 ?_
      refine g_ireturn q_L_follows_22.1 rfl ?_
      exact Or.inr ⟨2, by omega, hX, rfl⟩
    | 2, hk, hX =>
      have hE : xISE = E := Option.some.inj hk
      subst hE
      refine ⟨23, ⟨[(0, 12, 15, 19), (0, 12, 19, 13)], (0, 12, 23, 33), [], rfl, (fun z hz => by
        simp only [List.mem_cons, List.not_mem_nil, or_false] at hz
        rcases hz with rfl | rfl
        · exact ⟨by decide, _, gw_905, nc_ISE_IOB hΓ⟩
        · exact ⟨by decide, _, gw_645, nc_ISE_IAE hΓ⟩), by decide, by decide, gw_967, gw_979, rfl⟩, fun q => ?_⟩
      refine g_astore (L' := [_, _, _, _, _, _]) q_L_follows_23 (by decide) rfl ?_
      refine g_iconst q_L_follows_25 ?_
      refine g_ireturn q_L_follows_26.1 rfl ?_
      exact Or.inr ⟨3, by omega, hX, rfl⟩
    | n + 3, hk, hX => exact absurd hk (by simp)
  · obtain ⟨v, rfl, hQ⟩ := h
    have hc := ho v σ' hQ
    refine g_top (v' := .int (ii (cn v))) (congrArg Value.int (ii_cn v).symm) ?_
    refine g_i2l q_L_follows_10 (cn_rg v) ?_
    refine g_lastore q_L_follows_11 (by repeat first | with_reducible assumption | with_reducible exact hput_s _ _ _ | refine (hput_n _ _ (by omega)).trans ?_ | exact hput_s _ _ _ | assumption) (by omega) (by omega) ?_
    refine g_goto (tgt := 27) q_L_follows_12 (by decide) ?_
    refine g_iconst q_L_follows_27 ?_
    refine g_ireturn q_L_follows_28.1 rfl ?_
    exact Or.inl ⟨v, σ', hQ, rfl, rfl⟩
theorem sp_L_shared (hΓ : Gd Γ) (hx : σ.2 x = some (ob 9 fs)) {p0 p1 : Int} (sp : Sp Γ miX9_shared mc ms [.ref x, .int (ii p0), .int (ii p1)] σ (cQ QI) (cX [xIAE, xISE] XI)) (ho : ∀ v σ', QI v σ' → σ'.2 o = some (al 1 g)) : SpW Γ miL_shared mc ms [.ref x, .int (ii p0), .int (ii p1), .ref o] σ (wQ o g QI XI) := by
  refine SpW_of (L := [_, _, _, _, _]) hΓ (by decide +kernel) (Nat.le_of_ble_eq_true rfl) rfl ?_
  refine g_aload_n q_L_shared_0 rfl ?_
  refine g_iconst q_L_shared_1 ?_
  refine g_aload_n q_L_shared_2 rfl ?_
  refine g_iload_n q_L_shared_3 rfl ?_
  refine g_iload_n q_L_shared_4 rfl ?_
  refine g_callVC (rc' := 0) (rs' := 0) (As := [_, _]) cs_L_100 q_L_shared_5 sp hx rfl rfl rfl rfl (Nat.le_of_ble_eq_true rfl) (by decide) (by omega) (by omega) (fun E σ' h => ?_) (fun v σ' h => ?_)
  · obtain ⟨k, hk, hX⟩ := h
    match k, hk, hX with
    | 0, hk, hX =>
      have hE : xIAE = E := Option.some.inj hk
      subst hE
      refine ⟨13, ⟨[], (0, 10, 13, 13), [(0, 10, 17, 33)], rfl, (fun z hz => by cases hz), by decide, by decide, gw_645, gw_828, rfl⟩, fun q => ?_⟩
      refine g_astore (L' := [_, _, _, _, _]) q_L_shared_13 (by decide) rfl ?_
      refine g_iconst q_L_shared_15 ?_
      refine g_ireturn q_L_shared_16.1 rfl ?_
      exact Or.inr ⟨1, by omega, hX, rfl⟩
    | 1, hk, hX =>
      have hE : xISE = E := Option.some.inj hk
      subst hE
      refine ⟨17, ⟨[(0, 10, 13, 13)], (0, 10, 17, 33), [], rfl, (fun z hz => by
        simp only [List.mem_cons, List.not_mem_nil, or_false] at hz
        rcases hz with rfl
        · exact ⟨by decide, _, gw_645, nc_ISE_IAE hΓ⟩), by decide, by decide, gw_967, gw_979, rfl⟩, fun q => ?_⟩
      refine g_astore (L' := [_, _, _, _, _]) q_L_shared_17 (by decide) rfl ?_
      refine g_iconst q_L_shared_19 ?_
      refine g_ireturn q_L_shared_20.1 rfl ?_
      exact Or.inr ⟨2, by omega, hX, rfl⟩
    | n + 2, hk, hX => exact absurd hk (by simp)
  · obtain ⟨v, rfl, hQ⟩ := h
    have hc := ho v σ' hQ
    refine g_top (v' := .int (ii (cn v))) (congrArg Value.int (ii_cn v).symm) ?_
    refine g_i2l q_L_shared_8 (cn_rg v) ?_
    refine g_lastore q_L_shared_9 (by repeat first | with_reducible assumption | with_reducible exact hput_s _ _ _ | refine (hput_n _ _ (by omega)).trans ?_ | exact hput_s _ _ _ | assumption) (by omega) (by omega) ?_
    refine g_goto (tgt := 21) q_L_shared_10 (by decide) ?_
    refine g_iconst q_L_shared_21 ?_
    refine g_ireturn q_L_shared_22.1 rfl ?_
    exact Or.inl ⟨v, σ', hQ, rfl, rfl⟩
theorem sp_L_slack (hΓ : Gd Γ) (hx : σ.2 x = some (ob 9 fs)) {p0 p1 p2 : Int} (sp : Sp Γ miX9_slack mc ms [.ref x, .int (ii p0), .int (ii p1), .int (ii p2)] σ (cQ QI) (cX [xIOB, xIAE, xISE] XI)) (ho : ∀ v σ', QI v σ' → σ'.2 o = some (al 1 g)) : SpW Γ miL_slack mc ms [.ref x, .int (ii p0), .int (ii p1), .int (ii p2), .ref o] σ (wQ o g QI XI) := by
  refine SpW_of (L := [_, _, _, _, _, _]) hΓ (by decide +kernel) (Nat.le_of_ble_eq_true rfl) rfl ?_
  refine g_aload q_L_slack_0 rfl ?_
  refine g_iconst q_L_slack_2 ?_
  refine g_aload_n q_L_slack_3 rfl ?_
  refine g_iload_n q_L_slack_4 rfl ?_
  refine g_iload_n q_L_slack_5 rfl ?_
  refine g_iload_n q_L_slack_6 rfl ?_
  refine g_callVC (rc' := 0) (rs' := 0) (As := [_, _, _]) cs_L_103 q_L_slack_7 sp hx rfl rfl rfl rfl (Nat.le_of_ble_eq_true rfl) (by decide) (by omega) (by omega) (fun E σ' h => ?_) (fun v σ' h => ?_)
  · obtain ⟨k, hk, hX⟩ := h
    match k, hk, hX with
    | 0, hk, hX =>
      have hE : xIOB = E := Option.some.inj hk
      subst hE
      refine ⟨15, ⟨[], (0, 12, 15, 19), [(0, 12, 19, 13), (0, 12, 23, 33)], rfl, (fun z hz => by cases hz), by decide, by decide, gw_905, gw_917, rfl⟩, fun q => ?_⟩
      refine g_astore (L' := [_, _, _, _, _, _]) q_L_slack_15 (by decide) rfl ?_
      refine g_iconst q_L_slack_17 ?_
      refine g_ireturn q_L_slack_18.1 rfl ?_
      exact Or.inr ⟨1, by omega, hX, rfl⟩
    | 1, hk, hX =>
      have hE : xIAE = E := Option.some.inj hk
      subst hE
      refine ⟨19, ⟨[(0, 12, 15, 19)], (0, 12, 19, 13), [(0, 12, 23, 33)], rfl, (fun z hz => by
        simp only [List.mem_cons, List.not_mem_nil, or_false] at hz
        rcases hz with rfl
        · exact ⟨by decide, _, gw_905, nc_IAE_IOB hΓ⟩), by decide, by decide, gw_645, gw_828, rfl⟩, fun q => ?_⟩
      refine g_astore (L' := [_, _, _, _, _, _]) q_L_slack_19 (by decide) rfl ?_
      refine g_iconst q_L_slack_21 ?_
      refine g_ireturn q_L_slack_22.1 rfl ?_
      exact Or.inr ⟨2, by omega, hX, rfl⟩
    | 2, hk, hX =>
      have hE : xISE = E := Option.some.inj hk
      subst hE
      refine ⟨23, ⟨[(0, 12, 15, 19), (0, 12, 19, 13)], (0, 12, 23, 33), [], rfl, (fun z hz => by
        simp only [List.mem_cons, List.not_mem_nil, or_false] at hz
        rcases hz with rfl | rfl
        · exact ⟨by decide, _, gw_905, nc_ISE_IOB hΓ⟩
        · exact ⟨by decide, _, gw_645, nc_ISE_IAE hΓ⟩), by decide, by decide, gw_967, gw_979, rfl⟩, fun q => ?_⟩
      refine g_astore (L' := [_, _, _, _, _, _]) q_L_slack_23 (by decide) rfl ?_
      refine g_iconst q_L_slack_25 ?_
      refine g_ireturn q_L_slack_26.1 rfl ?_
      exact Or.inr ⟨3, by omega, hX, rfl⟩
    | n + 3, hk, hX => exact absurd hk (by simp)
  · obtain ⟨v, rfl, hQ⟩ := h
    have hc := ho v σ' hQ
    refine g_top (v' := .int (ii (cn v))) (congrArg Value.int (ii_cn v).symm) ?_
    refine g_i2l q_L_slack_10 (cn_rg v) ?_
    refine g_lastore q_L_slack_11 (by repeat first | with_reducible assumption | with_reducible exact hput_s _ _ _ | refine (hput_n _ _ (by omega)).trans ?_ | exact hput_s _ _ _ | assumption) (by omega) (by omega) ?_
    refine g_goto (tgt := 27) q_L_slack_12 (by decide) ?_
    refine g_iconst q_L_slack_27 ?_
    refine g_ireturn q_L_slack_28.1 rfl ?_
    exact Or.inl ⟨v, σ', hQ, rfl, rfl⟩
theorem sp_L_critical (hΓ : Gd Γ) (hx : σ.2 x = some (ob 9 fs)) {p0 p1 p2 : Int} (sp : Sp Γ miX9_critical mc ms [.ref x, .int (ii p0), .int (ii p1), .int (ii p2)] σ (cQ QI) (cX [xIAE, xISE] XI)) (ho : ∀ v σ', QI v σ' → σ'.2 o = some (al 1 g)) : SpW Γ miL_critical mc ms [.ref x, .int (ii p0), .int (ii p1), .int (ii p2), .ref o] σ (wQ o g QI XI) := by
  refine SpW_of (L := [_, _, _, _, _, _]) hΓ (by decide +kernel) (Nat.le_of_ble_eq_true rfl) rfl ?_
  refine g_aload q_L_critical_0 rfl ?_
  refine g_iconst q_L_critical_2 ?_
  refine g_aload_n q_L_critical_3 rfl ?_
  refine g_iload_n q_L_critical_4 rfl ?_
  refine g_iload_n q_L_critical_5 rfl ?_
  refine g_iload_n q_L_critical_6 rfl ?_
  refine g_callVC (rc' := 0) (rs' := 0) (As := [_, _, _]) cs_L_106 q_L_critical_7 sp hx rfl rfl rfl rfl (Nat.le_of_ble_eq_true rfl) (by decide) (by omega) (by omega) (fun E σ' h => ?_) (fun v σ' h => ?_)
  · obtain ⟨k, hk, hX⟩ := h
    match k, hk, hX with
    | 0, hk, hX =>
      have hE : xIAE = E := Option.some.inj hk
      subst hE
      refine ⟨15, ⟨[], (0, 12, 15, 13), [(0, 12, 19, 33)], rfl, (fun z hz => by cases hz), by decide, by decide, gw_645, gw_828, rfl⟩, fun q => ?_⟩
      refine g_astore (L' := [_, _, _, _, _, _]) q_L_critical_15 (by decide) rfl ?_
      refine g_iconst q_L_critical_17 ?_
      refine g_ireturn q_L_critical_18.1 rfl ?_
      exact Or.inr ⟨1, by omega, hX, rfl⟩
    | 1, hk, hX =>
      have hE : xISE = E := Option.some.inj hk
      subst hE
      refine ⟨19, ⟨[(0, 12, 15, 13)], (0, 12, 19, 33), [], rfl, (fun z hz => by
        simp only [List.mem_cons, List.not_mem_nil, or_false] at hz
        rcases hz with rfl
        · exact ⟨by decide, _, gw_645, nc_ISE_IAE hΓ⟩), by decide, by decide, gw_967, gw_979, rfl⟩, fun q => ?_⟩
      refine g_astore (L' := [_, _, _, _, _, _]) q_L_critical_19 (by decide) rfl ?_
      refine g_iconst q_L_critical_21 ?_
      refine g_ireturn q_L_critical_22.1 rfl ?_
      exact Or.inr ⟨2, by omega, hX, rfl⟩
    | n + 2, hk, hX => exact absurd hk (by simp)
  · obtain ⟨v, rfl, hQ⟩ := h
    have hc := ho v σ' hQ
    refine g_top (v' := .int (ii (cn v))) (congrArg Value.int (ii_cn v).symm) ?_
    refine g_i2l q_L_critical_10 (cn_rg v) ?_
    refine g_lastore q_L_critical_11 (by repeat first | with_reducible assumption | with_reducible exact hput_s _ _ _ | refine (hput_n _ _ (by omega)).trans ?_ | exact hput_s _ _ _ | assumption) (by omega) (by omega) ?_
    refine g_goto (tgt := 23) q_L_critical_12 (by decide) ?_
    refine g_iconst q_L_critical_23 ?_
    refine g_ireturn q_L_critical_24.1 rfl ?_
    exact Or.inl ⟨v, σ', hQ, rfl, rfl⟩
theorem sp_L_ended (hΓ : Gd Γ) (hx : σ.2 x = some (ob 9 fs)) {p0 p1 : Int} (sp : Sp Γ miX9_ended mc ms [.ref x, .int (ii p0), .int (ii p1)] σ (cQ QI) (cX [xIAE, xISE] XI)) (ho : ∀ v σ', QI v σ' → σ'.2 o = some (al 1 g)) : SpW Γ miL_ended mc ms [.ref x, .int (ii p0), .int (ii p1), .ref o] σ (wQ o g QI XI) := by
  refine SpW_of (L := [_, _, _, _, _]) hΓ (by decide +kernel) (Nat.le_of_ble_eq_true rfl) rfl ?_
  refine g_aload_n q_L_ended_0 rfl ?_
  refine g_iconst q_L_ended_1 ?_
  refine g_aload_n q_L_ended_2 rfl ?_
  refine g_iload_n q_L_ended_3 rfl ?_
  refine g_iload_n q_L_ended_4 rfl ?_
  refine g_callVC (rc' := 0) (rs' := 0) (As := [_, _]) cs_L_110 q_L_ended_5 sp hx rfl rfl rfl rfl (Nat.le_of_ble_eq_true rfl) (by decide) (by omega) (by omega) (fun E σ' h => ?_) (fun v σ' h => ?_)
  · obtain ⟨k, hk, hX⟩ := h
    match k, hk, hX with
    | 0, hk, hX =>
      have hE : xIAE = E := Option.some.inj hk
      subst hE
      refine ⟨13, ⟨[], (0, 10, 13, 13), [(0, 10, 17, 33)], rfl, (fun z hz => by cases hz), by decide, by decide, gw_645, gw_828, rfl⟩, fun q => ?_⟩
      refine g_astore (L' := [_, _, _, _, _]) q_L_ended_13 (by decide) rfl ?_
      refine g_iconst q_L_ended_15 ?_
      refine g_ireturn q_L_ended_16.1 rfl ?_
      exact Or.inr ⟨1, by omega, hX, rfl⟩
    | 1, hk, hX =>
      have hE : xISE = E := Option.some.inj hk
      subst hE
      refine ⟨17, ⟨[(0, 10, 13, 13)], (0, 10, 17, 33), [], rfl, (fun z hz => by
        simp only [List.mem_cons, List.not_mem_nil, or_false] at hz
        rcases hz with rfl
        · exact ⟨by decide, _, gw_645, nc_ISE_IAE hΓ⟩), by decide, by decide, gw_967, gw_979, rfl⟩, fun q => ?_⟩
      refine g_astore (L' := [_, _, _, _, _]) q_L_ended_17 (by decide) rfl ?_
      refine g_iconst q_L_ended_19 ?_
      refine g_ireturn q_L_ended_20.1 rfl ?_
      exact Or.inr ⟨2, by omega, hX, rfl⟩
    | n + 2, hk, hX => exact absurd hk (by simp)
  · obtain ⟨v, rfl, hQ⟩ := h
    have hc := ho v σ' hQ
    refine g_top (v' := .int (ii (cn v))) (congrArg Value.int (ii_cn v).symm) ?_
    refine g_i2l q_L_ended_8 (cn_rg v) ?_
    refine g_lastore q_L_ended_9 (by repeat first | with_reducible assumption | with_reducible exact hput_s _ _ _ | refine (hput_n _ _ (by omega)).trans ?_ | exact hput_s _ _ _ | assumption) (by omega) (by omega) ?_
    refine g_goto (tgt := 21) q_L_ended_10 (by decide) ?_
    refine g_iconst q_L_ended_21 ?_
    refine g_ireturn q_L_ended_22.1 rfl ?_
    exact Or.inl ⟨v, σ', hQ, rfl, rfl⟩
theorem sp_L_way (hΓ : Gd Γ) (hx : σ.2 x = some (ob 9 fs)) {p0 p1 p2 : Int} (sp : Sp Γ miX9_way mc ms [.ref x, .int (ii p0), .int (ii p1), .int (ii p2)] σ (cQ QI) (cX [xIOB, xIAE, xISE, xNSE] XI)) (ho : ∀ v σ', QI v σ' → σ'.2 o = some (al 1 g)) : SpW Γ miL_way mc ms [.ref x, .int (ii p0), .int (ii p1), .int (ii p2), .ref o] σ (wQ o g QI XI) := by
  refine SpW_of (L := [_, _, _, _, _, _]) hΓ (by decide +kernel) (Nat.le_of_ble_eq_true rfl) rfl ?_
  refine g_aload q_L_way_0 rfl ?_
  refine g_iconst q_L_way_2 ?_
  refine g_aload_n q_L_way_3 rfl ?_
  refine g_iload_n q_L_way_4 rfl ?_
  refine g_iload_n q_L_way_5 rfl ?_
  refine g_iload_n q_L_way_6 rfl ?_
  refine g_callVC (rc' := 0) (rs' := 0) (As := [_, _, _]) cs_L_113 q_L_way_7 sp hx rfl rfl rfl rfl (Nat.le_of_ble_eq_true rfl) (by decide) (by omega) (by omega) (fun E σ' h => ?_) (fun v σ' h => ?_)
  · obtain ⟨k, hk, hX⟩ := h
    match k, hk, hX with
    | 0, hk, hX =>
      have hE : xIOB = E := Option.some.inj hk
      subst hE
      refine ⟨15, ⟨[], (0, 12, 15, 19), [(0, 12, 19, 13), (0, 12, 23, 33), (0, 12, 27, 24)], rfl, (fun z hz => by cases hz), by decide, by decide, gw_905, gw_917, rfl⟩, fun q => ?_⟩
      refine g_astore (L' := [_, _, _, _, _, _]) q_L_way_15 (by decide) rfl ?_
      refine g_iconst q_L_way_17 ?_
      refine g_ireturn q_L_way_18.1 rfl ?_
      exact Or.inr ⟨1, by omega, hX, rfl⟩
    | 1, hk, hX =>
      have hE : xIAE = E := Option.some.inj hk
      subst hE
      refine ⟨19, ⟨[(0, 12, 15, 19)], (0, 12, 19, 13), [(0, 12, 23, 33), (0, 12, 27, 24)], rfl, (fun z hz => by
        simp only [List.mem_cons, List.not_mem_nil, or_false] at hz
        rcases hz with rfl
        · exact ⟨by decide, _, gw_905, nc_IAE_IOB hΓ⟩), by decide, by decide, gw_645, gw_828, rfl⟩, fun q => ?_⟩
      refine g_astore (L' := [_, _, _, _, _, _]) q_L_way_19 (by decide) rfl ?_
      refine g_iconst q_L_way_21 ?_
      refine g_ireturn q_L_way_22.1 rfl ?_
      exact Or.inr ⟨2, by omega, hX, rfl⟩
    | 2, hk, hX =>
      have hE : xISE = E := Option.some.inj hk
      subst hE
      refine ⟨23, ⟨[(0, 12, 15, 19), (0, 12, 19, 13)], (0, 12, 23, 33), [(0, 12, 27, 24)], rfl, (fun z hz => by
        simp only [List.mem_cons, List.not_mem_nil, or_false] at hz
        rcases hz with rfl | rfl
        · exact ⟨by decide, _, gw_905, nc_ISE_IOB hΓ⟩
        · exact ⟨by decide, _, gw_645, nc_ISE_IAE hΓ⟩), by decide, by decide, gw_967, gw_979, rfl⟩, fun q => ?_⟩
      refine g_astore (L' := [_, _, _, _, _, _]) q_L_way_23 (by decide) rfl ?_
      refine g_iconst q_L_way_25 ?_
      refine g_ireturn q_L_way_26.1 rfl ?_
      exact Or.inr ⟨3, by omega, hX, rfl⟩
    | 3, hk, hX =>
      have hE : xNSE = E := Option.some.inj hk
      subst hE
      refine ⟨27, ⟨[(0, 12, 15, 19), (0, 12, 19, 13), (0, 12, 23, 33)], (0, 12, 27, 24), [], rfl, (fun z hz => by
        simp only [List.mem_cons, List.not_mem_nil, or_false] at hz
        rcases hz with rfl | rfl | rfl
        · exact ⟨by decide, _, gw_905, nc_NSE_IOB hΓ⟩
        · exact ⟨by decide, _, gw_645, nc_NSE_IAE hΓ⟩
        · exact ⟨by decide, _, gw_967, nc_NSE_ISE hΓ⟩), by decide, by decide, gw_933, gw_944, rfl⟩, fun q => ?_⟩
      refine g_astore (L' := [_, _, _, _, _, _]) q_L_way_27 (by decide) rfl ?_
      refine g_iconst q_L_way_29 ?_
      refine g_ireturn q_L_way_30.1 rfl ?_
      exact Or.inr ⟨4, by omega, hX, rfl⟩
    | n + 4, hk, hX => exact absurd hk (by simp)
  · obtain ⟨v, rfl, hQ⟩ := h
    have hc := ho v σ' hQ
    refine g_top (v' := .int (ii (cn v))) (congrArg Value.int (ii_cn v).symm) ?_
    refine g_i2l q_L_way_10 (cn_rg v) ?_
    refine g_lastore q_L_way_11 (by repeat first | with_reducible assumption | with_reducible exact hput_s _ _ _ | refine (hput_n _ _ (by omega)).trans ?_ | exact hput_s _ _ _ | assumption) (by omega) (by omega) ?_
    refine g_goto (tgt := 31) q_L_way_12 (by decide) ?_
    refine g_iconst q_L_way_31 ?_
    refine g_ireturn q_L_way_32.1 rfl ?_
    exact Or.inl ⟨v, σ', hQ, rfl, rfl⟩
theorem sp_L_again (hΓ : Gd Γ) (hx : σ.2 x = some (ob 9 fs)) {p0 p1 : Int} (sp : Sp Γ miX9_again mc ms [.ref x, .int (ii p0), .int (ii p1)] σ (cQ QI) (cX [xIAE, xISE] XI)) (ho : ∀ v σ', QI v σ' → σ'.2 o = some (al 1 g)) : SpW Γ miL_again mc ms [.ref x, .int (ii p0), .int (ii p1), .ref o] σ (wQ o g QI XI) := by
  refine SpW_of (L := [_, _, _, _, _]) hΓ (by decide +kernel) (Nat.le_of_ble_eq_true rfl) rfl ?_
  refine g_aload_n q_L_again_0 rfl ?_
  refine g_iconst q_L_again_1 ?_
  refine g_aload_n q_L_again_2 rfl ?_
  refine g_iload_n q_L_again_3 rfl ?_
  refine g_iload_n q_L_again_4 rfl ?_
  refine g_callVC (rc' := 0) (rs' := 0) (As := [_, _]) cs_L_116 q_L_again_5 sp hx rfl rfl rfl rfl (Nat.le_of_ble_eq_true rfl) (by decide) (by omega) (by omega) (fun E σ' h => ?_) (fun v σ' h => ?_)
  · obtain ⟨k, hk, hX⟩ := h
    match k, hk, hX with
    | 0, hk, hX =>
      have hE : xIAE = E := Option.some.inj hk
      subst hE
      refine ⟨13, ⟨[], (0, 10, 13, 13), [(0, 10, 17, 33)], rfl, (fun z hz => by cases hz), by decide, by decide, gw_645, gw_828, rfl⟩, fun q => ?_⟩
      refine g_astore (L' := [_, _, _, _, _]) q_L_again_13 (by decide) rfl ?_
      refine g_iconst q_L_again_15 ?_
      refine g_ireturn q_L_again_16.1 rfl ?_
      exact Or.inr ⟨1, by omega, hX, rfl⟩
    | 1, hk, hX =>
      have hE : xISE = E := Option.some.inj hk
      subst hE
      refine ⟨17, ⟨[(0, 10, 13, 13)], (0, 10, 17, 33), [], rfl, (fun z hz => by
        simp only [List.mem_cons, List.not_mem_nil, or_false] at hz
        rcases hz with rfl
        · exact ⟨by decide, _, gw_645, nc_ISE_IAE hΓ⟩), by decide, by decide, gw_967, gw_979, rfl⟩, fun q => ?_⟩
      refine g_astore (L' := [_, _, _, _, _]) q_L_again_17 (by decide) rfl ?_
      refine g_iconst q_L_again_19 ?_
      refine g_ireturn q_L_again_20.1 rfl ?_
      exact Or.inr ⟨2, by omega, hX, rfl⟩
    | n + 2, hk, hX => exact absurd hk (by simp)
  · obtain ⟨v, rfl, hQ⟩ := h
    have hc := ho v σ' hQ
    refine g_top (v' := .int (ii (cn v))) (congrArg Value.int (ii_cn v).symm) ?_
    refine g_i2l q_L_again_8 (cn_rg v) ?_
    refine g_lastore q_L_again_9 (by repeat first | with_reducible assumption | with_reducible exact hput_s _ _ _ | refine (hput_n _ _ (by omega)).trans ?_ | exact hput_s _ _ _ | assumption) (by omega) (by omega) ?_
    refine g_goto (tgt := 21) q_L_again_10 (by decide) ?_
    refine g_iconst q_L_again_21 ?_
    refine g_ireturn q_L_again_22.1 rfl ?_
    exact Or.inl ⟨v, σ', hQ, rfl, rfl⟩
theorem sp_L_among (hΓ : Gd Γ) (hx : σ.2 x = some (ob 9 fs)) {p0 : Int} (sp : Sp Γ miX9_among mc ms [.ref x, .int (ii p0)] σ (cQ QI) (cX [xIOB] XI)) (ho : ∀ v σ', QI v σ' → σ'.2 o = some (al 1 g)) : SpW Γ miL_among mc ms [.ref x, .int (ii p0), .ref o] σ (wQ o g QI XI) := by
  refine SpW_of (L := [_, _, _, _]) hΓ (by decide +kernel) (Nat.le_of_ble_eq_true rfl) rfl ?_
  refine g_aload_n q_L_among_0 rfl ?_
  refine g_iconst q_L_among_1 ?_
  refine g_aload_n q_L_among_2 rfl ?_
  refine g_iload_n q_L_among_3 rfl ?_
  refine g_callVC (rc' := 0) (rs' := 0) (As := [_]) cs_L_119 q_L_among_4 sp hx rfl rfl rfl rfl (Nat.le_of_ble_eq_true rfl) (by decide) (by omega) (by omega) (fun E σ' h => ?_) (fun v σ' h => ?_)
  · obtain ⟨k, hk, hX⟩ := h
    match k, hk, hX with
    | 0, hk, hX =>
      have hE : xIOB = E := Option.some.inj hk
      subst hE
      refine ⟨12, ⟨[], (0, 9, 12, 19), [], rfl, (fun z hz => by cases hz), by decide, by decide, gw_905, gw_917, rfl⟩, fun q => ?_⟩
      refine g_astore_n (L' := [_, _, _, _]) q_L_among_12 (by decide) rfl ?_
      refine g_iconst q_L_among_13 ?_
      refine g_ireturn q_L_among_14.1 rfl ?_
      exact Or.inr ⟨1, by omega, hX, rfl⟩
    | n + 1, hk, hX => exact absurd hk (by simp)
  · obtain ⟨v, rfl, hQ⟩ := h
    have hc := ho v σ' hQ
    refine g_top (v' := .int (ii (cn v))) (congrArg Value.int (ii_cn v).symm) ?_
    refine g_i2l q_L_among_7 (cn_rg v) ?_
    refine g_lastore q_L_among_8 (by repeat first | with_reducible assumption | with_reducible exact hput_s _ _ _ | refine (hput_n _ _ (by omega)).trans ?_ | exact hput_s _ _ _ | assumption) (by omega) (by omega) ?_
    refine g_goto (tgt := 15) q_L_among_9 (by decide) ?_
    refine g_iconst q_L_among_15 ?_
    refine g_ireturn q_L_among_16.1 rfl ?_
    exact Or.inl ⟨v, σ', hQ, rfl, rfl⟩
theorem sp_L_byTurns (hΓ : Gd Γ) (hx : σ.2 x = some (ob 9 fs)) {p0 : Int} (sp : Sp Γ miX9_byTurns mc ms [.ref x, .int (ii p0)] σ (cQ QI) (cX [xNSE] XI)) (ho : ∀ v σ', QI v σ' → σ'.2 o = some (al 1 g)) : SpW Γ miL_byTurns mc ms [.ref x, .int (ii p0), .ref o] σ (wQ o g QI XI) := by
  refine SpW_of (L := [_, _, _, _]) hΓ (by decide +kernel) (Nat.le_of_ble_eq_true rfl) rfl ?_
  refine g_aload_n q_L_byTurns_0 rfl ?_
  refine g_iconst q_L_byTurns_1 ?_
  refine g_aload_n q_L_byTurns_2 rfl ?_
  refine g_iload_n q_L_byTurns_3 rfl ?_
  refine g_callVC (rc' := 0) (rs' := 0) (As := [_]) cs_L_122 q_L_byTurns_4 sp hx rfl rfl rfl rfl (Nat.le_of_ble_eq_true rfl) (by decide) (by omega) (by omega) (fun E σ' h => ?_) (fun v σ' h => ?_)
  · obtain ⟨k, hk, hX⟩ := h
    match k, hk, hX with
    | 0, hk, hX =>
      have hE : xNSE = E := Option.some.inj hk
      subst hE
      refine ⟨12, ⟨[], (0, 9, 12, 24), [], rfl, (fun z hz => by cases hz), by decide, by decide, gw_933, gw_944, rfl⟩, fun q => ?_⟩
      refine g_astore_n (L' := [_, _, _, _]) q_L_byTurns_12 (by decide) rfl ?_
      refine g_iconst q_L_byTurns_13 ?_
      refine g_ireturn q_L_byTurns_14.1 rfl ?_
      exact Or.inr ⟨1, by omega, hX, rfl⟩
    | n + 1, hk, hX => exact absurd hk (by simp)
  · obtain ⟨v, rfl, hQ⟩ := h
    have hc := ho v σ' hQ
    refine g_top (v' := .int (ii (cn v))) (congrArg Value.int (ii_cn v).symm) ?_
    refine g_i2l q_L_byTurns_7 (cn_rg v) ?_
    refine g_lastore q_L_byTurns_8 (by repeat first | with_reducible assumption | with_reducible exact hput_s _ _ _ | refine (hput_n _ _ (by omega)).trans ?_ | exact hput_s _ _ _ | assumption) (by omega) (by omega) ?_
    refine g_goto (tgt := 15) q_L_byTurns_9 (by decide) ?_
    refine g_iconst q_L_byTurns_15 ?_
    refine g_ireturn q_L_byTurns_16.1 rfl ?_
    exact Or.inl ⟨v, σ', hQ, rfl, rfl⟩
theorem sp_L_turned (hΓ : Gd Γ) (hx : σ.2 x = some (ob 9 fs)) {p0 p1 p2 : Int} (sp : Sp Γ miX9_turned mc ms [.ref x, .int (ii p0), .int (ii p1), .int (ii p2)] σ (cQ QI) (cX [xIOB, xNSE, xIAE, xISE] XI)) (ho : ∀ v σ', QI v σ' → σ'.2 o = some (al 1 g)) : SpW Γ miL_turned mc ms [.ref x, .int (ii p0), .int (ii p1), .int (ii p2), .ref o] σ (wQ o g QI XI) := by
  refine SpW_of (L := [_, _, _, _, _, _]) hΓ (by decide +kernel) (Nat.le_of_ble_eq_true rfl) rfl ?_
  refine g_aload q_L_turned_0 rfl ?_
  refine g_iconst q_L_turned_2 ?_
  refine g_aload_n q_L_turned_3 rfl ?_
  refine g_iload_n q_L_turned_4 rfl ?_
  refine g_iload_n q_L_turned_5 rfl ?_
  refine g_iload_n q_L_turned_6 rfl ?_
  refine g_callVC (rc' := 0) (rs' := 0) (As := [_, _, _]) cs_L_125 q_L_turned_7 sp hx rfl rfl rfl rfl (Nat.le_of_ble_eq_true rfl) (by decide) (by omega) (by omega) (fun E σ' h => ?_) (fun v σ' h => ?_)
  · obtain ⟨k, hk, hX⟩ := h
    match k, hk, hX with
    | 0, hk, hX =>
      have hE : xIOB = E := Option.some.inj hk
      subst hE
      refine ⟨15, ⟨[], (0, 12, 15, 19), [(0, 12, 19, 24), (0, 12, 23, 13), (0, 12, 27, 33)], rfl, (fun z hz => by cases hz), by decide, by decide, gw_905, gw_917, rfl⟩, fun q => ?_⟩
      refine g_astore (L' := [_, _, _, _, _, _]) q_L_turned_15 (by decide) rfl ?_
      refine g_iconst q_L_turned_17 ?_
      refine g_ireturn q_L_turned_18.1 rfl ?_
      exact Or.inr ⟨1, by omega, hX, rfl⟩
    | 1, hk, hX =>
      have hE : xNSE = E := Option.some.inj hk
      subst hE
      refine ⟨19, ⟨[(0, 12, 15, 19)], (0, 12, 19, 24), [(0, 12, 23, 13), (0, 12, 27, 33)], rfl, (fun z hz => by
        simp only [List.mem_cons, List.not_mem_nil, or_false] at hz
        rcases hz with rfl
        · exact ⟨by decide, _, gw_905, nc_NSE_IOB hΓ⟩), by decide, by decide, gw_933, gw_944, rfl⟩, fun q => ?_⟩
      refine g_astore (L' := [_, _, _, _, _, _]) q_L_turned_19 (by decide) rfl ?_
      refine g_iconst q_L_turned_21 ?_
      refine g_ireturn q_L_turned_22.1 rfl ?_
      exact Or.inr ⟨2, by omega, hX, rfl⟩
    | 2, hk, hX =>
      have hE : xIAE = E := Option.some.inj hk
      subst hE
      refine ⟨23, ⟨[(0, 12, 15, 19), (0, 12, 19, 24)], (0, 12, 23, 13), [(0, 12, 27, 33)], rfl, (fun z hz => by
        simp only [List.mem_cons, List.not_mem_nil, or_false] at hz
        rcases hz with rfl | rfl
        · exact ⟨by decide, _, gw_905, nc_IAE_IOB hΓ⟩
        · exact ⟨by decide, _, gw_933, nc_IAE_NSE hΓ⟩), by decide, by decide, gw_645, gw_828, rfl⟩, fun q => ?_⟩
      refine g_astore (L' := [_, _, _, _, _, _]) q_L_turned_23 (by decide) rfl ?_
      refine g_iconst q_L_turned_25 ?_
      refine g_ireturn q_L_turned_26.1 rfl ?_
      exact Or.inr ⟨3, by omega, hX, rfl⟩
    | 3, hk, hX =>
      have hE : xISE = E := Option.some.inj hk
      subst hE
      refine ⟨27, ⟨[(0, 12, 15, 19), (0, 12, 19, 24), (0, 12, 23, 13)], (0, 12, 27, 33), [], rfl, (fun z hz => by
        simp only [List.mem_cons, List.not_mem_nil, or_false] at hz
        rcases hz with rfl | rfl | rfl
        · exact ⟨by decide, _, gw_905, nc_ISE_IOB hΓ⟩
        · exact ⟨by decide, _, gw_933, nc_ISE_NSE hΓ⟩
        · exact ⟨by decide, _, gw_645, nc_ISE_IAE hΓ⟩), by decide, by decide, gw_967, gw_979, rfl⟩, fun q => ?_⟩
      refine g_astore (L' := [_, _, _, _, _, _]) q_L_turned_27 (by decide) rfl ?_
      refine g_iconst q_L_turned_29 ?_
      refine g_ireturn q_L_turned_30.1 rfl ?_
      exact Or.inr ⟨4, by omega, hX, rfl⟩
    | n + 4, hk, hX => exact absurd hk (by simp)
  · obtain ⟨v, rfl, hQ⟩ := h
    have hc := ho v σ' hQ
    refine g_top (v' := .int (ii (cn v))) (congrArg Value.int (ii_cn v).symm) ?_
    refine g_i2l q_L_turned_10 (cn_rg v) ?_
    refine g_lastore q_L_turned_11 (by repeat first | with_reducible assumption | with_reducible exact hput_s _ _ _ | refine (hput_n _ _ (by omega)).trans ?_ | exact hput_s _ _ _ | assumption) (by omega) (by omega) ?_
    refine g_goto (tgt := 31) q_L_turned_12 (by decide) ?_
    refine g_iconst q_L_turned_31 ?_
    refine g_ireturn q_L_turned_32.1 rfl ?_
    exact Or.inl ⟨v, σ', hQ, rfl, rfl⟩
theorem sp_L_ordered (hΓ : Gd Γ) (hx : σ.2 x = some (ob 9 fs)) {p0 p1 : Int} (sp : Sp Γ miX9_ordered mc ms [.ref x, .int (ii p0), .int (ii p1)] σ (cQ QI) (cX [xNSE] XI)) (ho : ∀ v σ', QI v σ' → σ'.2 o = some (al 1 g)) : SpW Γ miL_ordered mc ms [.ref x, .int (ii p0), .int (ii p1), .ref o] σ (wQ o g QI XI) := by
  refine SpW_of (L := [_, _, _, _, _]) hΓ (by decide +kernel) (Nat.le_of_ble_eq_true rfl) rfl ?_
  refine g_aload_n q_L_ordered_0 rfl ?_
  refine g_iconst q_L_ordered_1 ?_
  refine g_aload_n q_L_ordered_2 rfl ?_
  refine g_iload_n q_L_ordered_3 rfl ?_
  refine g_iload_n q_L_ordered_4 rfl ?_
  refine g_callVC (rc' := 0) (rs' := 0) (As := [_, _]) cs_L_128 q_L_ordered_5 sp hx rfl rfl rfl rfl (Nat.le_of_ble_eq_true rfl) (by decide) (by omega) (by omega) (fun E σ' h => ?_) (fun v σ' h => ?_)
  · obtain ⟨k, hk, hX⟩ := h
    match k, hk, hX with
    | 0, hk, hX =>
      have hE : xNSE = E := Option.some.inj hk
      subst hE
      refine ⟨13, ⟨[], (0, 10, 13, 24), [], rfl, (fun z hz => by cases hz), by decide, by decide, gw_933, gw_944, rfl⟩, fun q => ?_⟩
      refine g_astore (L' := [_, _, _, _, _]) q_L_ordered_13 (by decide) rfl ?_
      refine g_iconst q_L_ordered_15 ?_
      refine g_ireturn q_L_ordered_16.1 rfl ?_
      exact Or.inr ⟨1, by omega, hX, rfl⟩
    | n + 1, hk, hX => exact absurd hk (by simp)
  · obtain ⟨v, rfl, hQ⟩ := h
    have hc := ho v σ' hQ
    refine g_top (v' := .int (ii (cn v))) (congrArg Value.int (ii_cn v).symm) ?_
    refine g_i2l q_L_ordered_8 (cn_rg v) ?_
    refine g_lastore q_L_ordered_9 (by repeat first | with_reducible assumption | with_reducible exact hput_s _ _ _ | refine (hput_n _ _ (by omega)).trans ?_ | exact hput_s _ _ _ | assumption) (by omega) (by omega) ?_
    refine g_goto (tgt := 17) q_L_ordered_10 (by decide) ?_
    refine g_iconst q_L_ordered_17 ?_
    refine g_ireturn q_L_ordered_18.1 rfl ?_
    exact Or.inl ⟨v, σ', hQ, rfl, rfl⟩
theorem sp_L_write (hΓ : Gd Γ) (hx : σ.2 x = some (ob 9 fs)) {p0 p1 : Int} (sp : Sp Γ miX9_write mc ms [.ref x, .int (ii p0), .int (ii p1)] σ (cQ QI) (cX [xIAE, xISE] XI)) (ho : ∀ v σ', QI v σ' → σ'.2 o = some (al 1 g)) : SpW Γ miL_write mc ms [.ref x, .int (ii p0), .int (ii p1), .ref o] σ (wQ o g QI XI) := by
  refine SpW_of (L := [_, _, _, _, _]) hΓ (by decide +kernel) (Nat.le_of_ble_eq_true rfl) rfl ?_
  refine g_aload_n q_L_write_0 rfl ?_
  refine g_iconst q_L_write_1 ?_
  refine g_aload_n q_L_write_2 rfl ?_
  refine g_iload_n q_L_write_3 rfl ?_
  refine g_iload_n q_L_write_4 rfl ?_
  refine g_callVC (rc' := 0) (rs' := 0) (As := [_, _]) cs_L_131 q_L_write_5 sp hx rfl rfl rfl rfl (Nat.le_of_ble_eq_true rfl) (by decide) (by omega) (by omega) (fun E σ' h => ?_) (fun v σ' h => ?_)
  · obtain ⟨k, hk, hX⟩ := h
    match k, hk, hX with
    | 0, hk, hX =>
      have hE : xIAE = E := Option.some.inj hk
      subst hE
      refine ⟨13, ⟨[], (0, 10, 13, 13), [(0, 10, 17, 33)], rfl, (fun z hz => by cases hz), by decide, by decide, gw_645, gw_828, rfl⟩, fun q => ?_⟩
      refine g_astore (L' := [_, _, _, _, _]) q_L_write_13 (by decide) rfl ?_
      refine g_iconst q_L_write_15 ?_
      refine g_ireturn q_L_write_16.1 rfl ?_
      exact Or.inr ⟨1, by omega, hX, rfl⟩
    | 1, hk, hX =>
      have hE : xISE = E := Option.some.inj hk
      subst hE
      refine ⟨17, ⟨[(0, 10, 13, 13)], (0, 10, 17, 33), [], rfl, (fun z hz => by
        simp only [List.mem_cons, List.not_mem_nil, or_false] at hz
        rcases hz with rfl
        · exact ⟨by decide, _, gw_645, nc_ISE_IAE hΓ⟩), by decide, by decide, gw_967, gw_979, rfl⟩, fun q => ?_⟩
      refine g_astore (L' := [_, _, _, _, _]) q_L_write_17 (by decide) rfl ?_
      refine g_iconst q_L_write_19 ?_
      refine g_ireturn q_L_write_20.1 rfl ?_
      exact Or.inr ⟨2, by omega, hX, rfl⟩
    | n + 2, hk, hX => exact absurd hk (by simp)
  · obtain ⟨v, rfl, hQ⟩ := h
    have hc := ho v σ' hQ
    refine g_top (v' := .int (ii (cn v))) (congrArg Value.int (ii_cn v).symm) ?_
    refine g_i2l q_L_write_8 (cn_rg v) ?_
    refine g_lastore q_L_write_9 (by repeat first | with_reducible assumption | with_reducible exact hput_s _ _ _ | refine (hput_n _ _ (by omega)).trans ?_ | exact hput_s _ _ _ | assumption) (by omega) (by omega) ?_
    refine g_goto (tgt := 21) q_L_write_10 (by decide) ?_
    refine g_iconst q_L_write_21 ?_
    refine g_ireturn q_L_write_22.1 rfl ?_
    exact Or.inl ⟨v, σ', hQ, rfl, rfl⟩
end LWr

