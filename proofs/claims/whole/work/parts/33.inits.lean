/-! the constructors -/
/-- σ0 and a block of new cells behind it -/
def hblk (σ0 : AH) (es : List AE) : AH := (σ0.1 + es.length, fun b => if b < σ0.1 then σ0.2 b else match es[b - σ0.1]? with
  | some e => some e
  | none => σ0.2 b)
theorem hblk_0 (σ0 : AH) (e : AE) (es : List AE) : (hblk σ0 (e :: es)).2 σ0.1 = some e := by
  unfold hblk
  simp
theorem hblk_at (σ0 : AH) (es : List AE) (i : Nat) {e : AE} (h : es[i]? = some e) : (hblk σ0 es).2 (σ0.1 + i) = some e := by
  unfold hblk
  simp only
  rw [if_neg (by omega), show σ0.1 + i - σ0.1 = i by omega, h]
theorem hblk_lo (σ0 : AH) (es : List AE) {b : Nat} (h : b < σ0.1) : (hblk σ0 es).2 b = σ0.2 b := by
  unfold hblk
  simp only
  rw [if_pos h]
theorem hnew_b1 (σ0 : AH) (e : AE) : hnew σ0 e = hblk σ0 [e] := by
  unfold hnew hblk
  refine Prod.ext rfl (funext fun b => ?_)
  simp only
  by_cases h : b = σ0.1
  · subst h; simp
  · by_cases h2 : b < σ0.1
    · rw [if_neg h, if_pos h2]
    · rw [if_neg h, if_neg h2]
      have : [e][b - σ0.1]? = none := List.getElem?_eq_none (by show 1 ≤ b - σ0.1; omega)
      rw [this]
theorem hput_b0 (σ0 : AH) (e e' : AE) (es : List AE) : hput (hblk σ0 (e :: es)) σ0.1 e' = hblk σ0 (e' :: es) := by
  unfold hput hblk
  refine Prod.ext rfl (funext fun b => ?_)
  simp only
  by_cases h : b = σ0.1
  · subst h; simp
  · by_cases h2 : b < σ0.1
    · rw [if_neg h, if_pos h2, if_pos h2]
    · rw [if_neg h, if_neg h2, if_neg h2]
      obtain ⟨j, hj⟩ : ∃ j, b - σ0.1 = j + 1 := ⟨b - σ0.1 - 1, by omega⟩
      rw [hj]
      rfl
theorem hblk_app (σ0 : AH) (e : AE) (es bs : List AE) : hblk (hblk σ0 (e :: es)) bs = hblk σ0 (e :: (es ++ bs)) := by
  unfold hblk
  refine Prod.ext ?_ (funext fun b => ?_)
  · simp only [List.length_cons, List.length_append]; omega
  · simp only [List.length_cons]
    by_cases h : b < σ0.1
    · rw [if_pos (by omega), if_pos h, if_pos h]
    · by_cases h2 : b < σ0.1 + (es.length + 1)
      · rw [if_pos h2, if_neg h, if_neg h, ← List.cons_append, List.getElem?_append_left (by simp only [List.length_cons]; omega)]
      · rw [if_neg h2, if_neg h, if_neg h, ← List.cons_append, List.getElem?_append_right (by simp only [List.length_cons]; omega)]
        rw [show (e :: es)[b - σ0.1]? = none from List.getElem?_eq_none (by simp only [List.length_cons]; omega)]
        rw [show b - (σ0.1 + (es.length + 1)) = b - σ0.1 - (e :: es).length by simp only [List.length_cons]; omega]
theorem hnew_b (σ0 : AH) (e : AE) (es : List AE) (c : AE) : hnew (hblk σ0 (e :: es)) c = hblk σ0 (e :: (es ++ [c])) := by rw [hnew_b1, hblk_app]
section INI
variable {Γ : GT} {σ0 : AH}
theorem sp_Ways_init (hΓ : Gd Γ) : Sp Γ miX8_init 2 210 [.ref σ0.1] (hblk σ0 [ob 8 [.null, .null, .int (ii 0), .int (ii 0), .int (ii 0), .int (ii 0), .int (ii 0)]]) (rv (hblk σ0 [ob 8 [.ref (σ0.1 + 1), .ref (σ0.1 + 2), .int (ii 0), .int (ii (-1)), .int (ii (-1)), .int (ii (-1)), .int (ii (-1))], ai 205 (fun _ => 0), ai 5 (fun _ => 0)])) noX := by
  refine Sp_of (L := [_]) hΓ (by decide +kernel) rfl (Nat.le_of_ble_eq_true rfl) rfl ?_
  refine g_aload_n q_X8_init_0 rfl ?_
  refine g_oinit q_X8_init_1 oi_X8_3 (Nat.le_of_ble_eq_true rfl) (by decide) ?_
  refine g_aload_n q_X8_init_4 rfl ?_
  refine g_sipush q_X8_init_5 sp_205 ?_
  refine g_newI (rc' := 1) (rs' := 5) q_X8_init_8 (by decide) (by decide) (by decide) (by decide) ?_
  rw [hnew_b]
  refine g_putF fp_X8_9 rfl ⟨_, _, rfl⟩ ⟨_, _, _, rfl, gw_301⟩ q_X8_init_10 (hblk_0 _ _ _) rfl rfl ?_
  rw [hput_b0]
  refine g_aload_n q_X8_init_13 rfl ?_
  refine g_iconst q_X8_init_14 ?_
  refine g_newI (rc' := 0) (rs' := 0) q_X8_init_15 (by decide) (by decide) (by decide) (by decide) ?_
  rw [hnew_b]
  refine g_putF fp_X8_15 rfl ⟨_, _, rfl⟩ ⟨_, _, _, rfl, gw_304⟩ q_X8_init_17 (hblk_0 _ _ _) rfl rfl ?_
  rw [hput_b0]
  refine g_aload_n q_X8_init_20 rfl ?_
  refine g_iconst q_X8_init_21 ?_
  refine g_put fp_X8_18 q_X8_init_22 (hblk_0 _ _ _) rfl rfl ?_
  rw [hput_b0]
  refine g_aload_n q_X8_init_25 rfl ?_
  refine g_iconst q_X8_init_26 ?_
  refine g_put fp_X8_22 q_X8_init_27 (hblk_0 _ _ _) rfl rfl ?_
  rw [hput_b0]
  refine g_aload_n q_X8_init_30 rfl ?_
  refine g_iconst q_X8_init_31 ?_
  refine g_put fp_X8_25 q_X8_init_32 (hblk_0 _ _ _) rfl rfl ?_
  rw [hput_b0]
  refine g_aload_n q_X8_init_35 rfl ?_
  refine g_iconst q_X8_init_36 ?_
  refine g_put fp_X8_28 q_X8_init_37 (hblk_0 _ _ _) rfl rfl ?_
  rw [hput_b0]
  refine g_aload_n q_X8_init_40 rfl ?_
  refine g_iconst q_X8_init_41 ?_
  refine g_put fp_X8_31 q_X8_init_42 (hblk_0 _ _ _) rfl rfl ?_
  rw [hput_b0]
  refine g_return q_X8_init_45.1 rfl ?_
  exact ⟨rfl, rfl⟩
theorem sp_Search_init (hΓ : Gd Γ) : Sp Γ miX3_init 3 246 [.ref σ0.1] (hblk σ0 [ob 3 [.null, .null, .null]]) (rv (hblk σ0 [ob 3 [.ref (σ0.1 + 1), .ref (σ0.1 + 2), .ref (σ0.1 + 3)], al 41 (fun _ => 0), al 164 (fun _ => 0), al 41 (fun _ => 0)])) noX := by
  refine Sp_of (L := [_]) hΓ (by decide +kernel) rfl (Nat.le_of_ble_eq_true rfl) rfl ?_
  refine g_aload_n q_X3_init_0 rfl ?_
  refine g_oinit q_X3_init_1 oi_X3_3 (Nat.le_of_ble_eq_true rfl) (by decide) ?_
  refine g_aload_n q_X3_init_4 rfl ?_
  refine g_bipush q_X3_init_5 bp_41 ?_
  refine g_newJ (rc' := 2) (rs' := 205) q_X3_init_7 (by decide) (by decide) (by decide) (by decide) ?_
  rw [hnew_b]
  refine g_putF fp_X3_9 rfl ⟨_, _, rfl⟩ ⟨_, _, _, rfl, gw_285⟩ q_X3_init_9 (hblk_0 _ _ _) rfl rfl ?_
  rw [hput_b0]
  refine g_aload_n q_X3_init_12 rfl ?_
  refine g_sipush q_X3_init_13 sp_164 ?_
  refine g_newJ (rc' := 1) (rs' := 41) q_X3_init_16 (by decide) (by decide) (by decide) (by decide) ?_
  rw [hnew_b]
  refine g_putF fp_X3_15 rfl ⟨_, _, rfl⟩ ⟨_, _, _, rfl, gw_286⟩ q_X3_init_18 (hblk_0 _ _ _) rfl rfl ?_
  rw [hput_b0]
  refine g_aload_n q_X3_init_21 rfl ?_
  refine g_bipush q_X3_init_22 bp_41 ?_
  refine g_newJ (rc' := 0) (rs' := 0) q_X3_init_24 (by decide) (by decide) (by decide) (by decide) ?_
  rw [hnew_b]
  refine g_putF fp_X3_18 rfl ⟨_, _, rfl⟩ ⟨_, _, _, rfl, gw_287⟩ q_X3_init_26 (hblk_0 _ _ _) rfl rfl ?_
  rw [hput_b0]
  refine g_return q_X3_init_29.1 rfl ?_
  exact ⟨rfl, rfl⟩
theorem sp_Scene_init (hΓ : Gd Γ) : Sp Γ miX2_init 6 85 [.ref σ0.1] (hblk σ0 [ob 2 [.int (ii 0), .int (ii 0), .null, .int (ii 0), .null, .null, .null, .null, .null]]) (rv (hblk σ0 [ob 2 [.int (ii 0), .int (ii 0), .ref (σ0.1 + 1), .int (ii 0), .ref (σ0.1 + 2), .ref (σ0.1 + 3), .ref (σ0.1 + 4), .ref (σ0.1 + 5), .ref (σ0.1 + 6)], ai 36 (fun _ => 0), ai 5 (fun _ => 0), ai 5 (fun _ => 0), ai 30 (fun _ => 0), ai 5 (fun _ => 0), al 4 (fun _ => 0)])) noX := by
  refine Sp_of (L := [_]) hΓ (by decide +kernel) rfl (Nat.le_of_ble_eq_true rfl) rfl ?_
  refine g_aload_n q_X2_init_0 rfl ?_
  refine g_oinit q_X2_init_1 oi_X2_3 (Nat.le_of_ble_eq_true rfl) (by decide) ?_
  refine g_aload_n q_X2_init_4 rfl ?_
  refine g_iconst q_X2_init_5 ?_
  refine g_put fp_X2_9 q_X2_init_6 (hblk_0 _ _ _) rfl rfl ?_
  rw [hput_b0]
  refine g_aload_n q_X2_init_9 rfl ?_
  refine g_iconst q_X2_init_10 ?_
  refine g_put fp_X2_15 q_X2_init_11 (hblk_0 _ _ _) rfl rfl ?_
  rw [hput_b0]
  refine g_aload_n q_X2_init_14 rfl ?_
  refine g_bipush q_X2_init_15 bp_36 ?_
  refine g_newI (rc' := 5) (rs' := 49) q_X2_init_17 (by decide) (by decide) (by decide) (by decide) ?_
  rw [hnew_b]
  refine g_putF fp_X2_18 rfl ⟨_, _, rfl⟩ ⟨_, _, _, rfl, gw_188⟩ q_X2_init_19 (hblk_0 _ _ _) rfl rfl ?_
  rw [hput_b0]
  refine g_aload_n q_X2_init_22 rfl ?_
  refine g_iconst q_X2_init_23 ?_
  refine g_put fp_X2_22 q_X2_init_24 (hblk_0 _ _ _) rfl rfl ?_
  rw [hput_b0]
  refine g_aload_n q_X2_init_27 rfl ?_
  refine g_iconst q_X2_init_28 ?_
  refine g_newI (rc' := 4) (rs' := 44) q_X2_init_29 (by decide) (by decide) (by decide) (by decide) ?_
  rw [hnew_b]
  refine g_putF fp_X2_25 rfl ⟨_, _, rfl⟩ ⟨_, _, _, rfl, gw_197⟩ q_X2_init_31 (hblk_0 _ _ _) rfl rfl ?_
  rw [hput_b0]
  refine g_aload_n q_X2_init_34 rfl ?_
  refine g_iconst q_X2_init_35 ?_
  refine g_newI (rc' := 3) (rs' := 39) q_X2_init_36 (by decide) (by decide) (by decide) (by decide) ?_
  rw [hnew_b]
  refine g_putF fp_X2_28 rfl ⟨_, _, rfl⟩ ⟨_, _, _, rfl, gw_201⟩ q_X2_init_38 (hblk_0 _ _ _) rfl rfl ?_
  rw [hput_b0]
  refine g_aload_n q_X2_init_41 rfl ?_
  refine g_bipush q_X2_init_42 bp_30 ?_
  refine g_newI (rc' := 2) (rs' := 9) q_X2_init_44 (by decide) (by decide) (by decide) (by decide) ?_
  rw [hnew_b]
  refine g_putF fp_X2_31 rfl ⟨_, _, rfl⟩ ⟨_, _, _, rfl, gw_206⟩ q_X2_init_46 (hblk_0 _ _ _) rfl rfl ?_
  rw [hput_b0]
  refine g_aload_n q_X2_init_49 rfl ?_
  refine g_iconst q_X2_init_50 ?_
  refine g_newI (rc' := 1) (rs' := 4) q_X2_init_51 (by decide) (by decide) (by decide) (by decide) ?_
  rw [hnew_b]
  refine g_putF fp_X2_34 rfl ⟨_, _, rfl⟩ ⟨_, _, _, rfl, gw_209⟩ q_X2_init_53 (hblk_0 _ _ _) rfl rfl ?_
  rw [hput_b0]
  refine g_aload_n q_X2_init_56 rfl ?_
  refine g_iconst q_X2_init_57 ?_
  refine g_newJ (rc' := 0) (rs' := 0) q_X2_init_58 (by decide) (by decide) (by decide) (by decide) ?_
  rw [hnew_b]
  refine g_putF fp_X2_37 rfl ⟨_, _, rfl⟩ ⟨_, _, _, rfl, gw_212⟩ q_X2_init_60 (hblk_0 _ _ _) rfl rfl ?_
  rw [hput_b0]
  refine g_return q_X2_init_63.1 rfl ?_
  exact ⟨rfl, rfl⟩
theorem sp_Acts_init (hΓ : Gd Γ) : Sp Γ miX0_init 3 48 [.ref σ0.1] (hblk σ0 [ob 0 [.null, .null, .null, .int (ii 0)]]) (rv (hblk σ0 [ob 0 [.ref (σ0.1 + 1), .ref (σ0.1 + 2), .ref (σ0.1 + 3), .int (ii 0)], ai 16 (fun _ => 0), ai 16 (fun _ => 0), ai 16 (fun _ => 0)])) noX := by
  refine Sp_of (L := [_]) hΓ (by decide +kernel) rfl (Nat.le_of_ble_eq_true rfl) rfl ?_
  refine g_aload_n q_X0_init_0 rfl ?_
  refine g_oinit q_X0_init_1 oi_X0_3 (Nat.le_of_ble_eq_true rfl) (by decide) ?_
  refine g_aload_n q_X0_init_4 rfl ?_
  refine g_bipush q_X0_init_5 bp_16 ?_
  refine g_newI (rc' := 2) (rs' := 32) q_X0_init_7 (by decide) (by decide) (by decide) (by decide) ?_
  rw [hnew_b]
  refine g_putF fp_X0_9 rfl ⟨_, _, rfl⟩ ⟨_, _, _, rfl, gw_265⟩ q_X0_init_9 (hblk_0 _ _ _) rfl rfl ?_
  rw [hput_b0]
  refine g_aload_n q_X0_init_12 rfl ?_
  refine g_bipush q_X0_init_13 bp_16 ?_
  refine g_newI (rc' := 1) (rs' := 16) q_X0_init_15 (by decide) (by decide) (by decide) (by decide) ?_
  rw [hnew_b]
  refine g_putF fp_X0_15 rfl ⟨_, _, rfl⟩ ⟨_, _, _, rfl, gw_266⟩ q_X0_init_17 (hblk_0 _ _ _) rfl rfl ?_
  rw [hput_b0]
  refine g_aload_n q_X0_init_20 rfl ?_
  refine g_bipush q_X0_init_21 bp_16 ?_
  refine g_newI (rc' := 0) (rs' := 0) q_X0_init_23 (by decide) (by decide) (by decide) (by decide) ?_
  rw [hnew_b]
  refine g_putF fp_X0_18 rfl ⟨_, _, rfl⟩ ⟨_, _, _, rfl, gw_267⟩ q_X0_init_25 (hblk_0 _ _ _) rfl rfl ?_
  rw [hput_b0]
  refine g_aload_n q_X0_init_28 rfl ?_
  refine g_iconst q_X0_init_29 ?_
  refine g_put fp_X0_21 q_X0_init_30 (hblk_0 _ _ _) rfl rfl ?_
  rw [hput_b0]
  refine g_return q_X0_init_33.1 rfl ?_
  exact ⟨rfl, rfl⟩
theorem sp_Stop_init (hΓ : Gd Γ) : Sp Γ miX4_init 2 41 [.ref σ0.1] (hblk σ0 [ob 4 [.null, .null]]) (rv (hblk σ0 [ob 4 [.ref (σ0.1 + 1), .ref (σ0.1 + 2)], ai 5 (fun _ => 0), ai 36 (fun _ => 0)])) noX := by
  refine Sp_of (L := [_]) hΓ (by decide +kernel) rfl (Nat.le_of_ble_eq_true rfl) rfl ?_
  refine g_aload_n q_X4_init_0 rfl ?_
  refine g_oinit q_X4_init_1 oi_X4_3 (Nat.le_of_ble_eq_true rfl) (by decide) ?_
  refine g_aload_n q_X4_init_4 rfl ?_
  refine g_iconst q_X4_init_5 ?_
  refine g_newI (rc' := 1) (rs' := 36) q_X4_init_6 (by decide) (by decide) (by decide) (by decide) ?_
  rw [hnew_b]
  refine g_putF fp_X4_9 rfl ⟨_, _, rfl⟩ ⟨_, _, _, rfl, gw_434⟩ q_X4_init_8 (hblk_0 _ _ _) rfl rfl ?_
  rw [hput_b0]
  refine g_aload_n q_X4_init_11 rfl ?_
  refine g_bipush q_X4_init_12 bp_36 ?_
  refine g_newI (rc' := 0) (rs' := 0) q_X4_init_14 (by decide) (by decide) (by decide) (by decide) ?_
  rw [hnew_b]
  refine g_putF fp_X4_15 rfl ⟨_, _, rfl⟩ ⟨_, _, _, rfl, gw_435⟩ q_X4_init_16 (hblk_0 _ _ _) rfl rfl ?_
  rw [hput_b0]
  refine g_return q_X4_init_19.1 rfl ?_
  exact ⟨rfl, rfl⟩
theorem sp_Turns_init (hΓ : Gd Γ) : Sp Γ miX7_init 4 222 [.ref σ0.1] (hblk σ0 [ob 7 [.null, .null, .int (ii 0), .int (ii 0), .int (ii 0), .int (ii 0), .int (ii 0)]]) (rv (hblk σ0 [ob 7 [.ref (σ0.1 + 1), .ref (σ0.1 + 4), .int (ii (-1)), .int (ii (-1)), .int (ii (-1)), .int (ii (-1)), .int (ii (-1))], ob 8 [.ref (σ0.1 + 1 + 1), .ref (σ0.1 + 1 + 2), .int (ii 0), .int (ii (-1)), .int (ii (-1)), .int (ii (-1)), .int (ii (-1))], ai 205 (fun _ => 0), ai 5 (fun _ => 0), ai 5 (fun _ => 0)])) noX := by
  refine Sp_of (L := [_]) hΓ (by decide +kernel) rfl (Nat.le_of_ble_eq_true rfl) rfl ?_
  refine g_aload_n q_X7_init_0 rfl ?_
  refine g_oinit q_X7_init_1 oi_X7_3 (Nat.le_of_ble_eq_true rfl) (by decide) ?_
  refine g_aload_n q_X7_init_4 rfl ?_
  refine g_new (rc' := 3) (rs' := 215) nw_X7_9 rfl q_X7_init_5 (by decide) (by decide) ?_
  rw [hnew_b1 (hblk _ _)]
  refine g_dup q_X7_init_8 rfl ?_
  refine g_callIN (rc' := 1) (rs' := 5) (As := []) cs_X7_11 q_X7_init_9 (sp_Ways_init hΓ) rfl rfl rfl rfl rfl (Nat.le_of_ble_eq_true rfl) (by decide) (by decide) (by decide) (fun _ _ h => h.elim) (k_rv ?_)
  rw [hblk_app]
  refine g_putF fp_X7_12 rfl ⟨_, _, rfl⟩ ⟨_, _, _, rfl, gw_399⟩ q_X7_init_12 (hblk_0 _ _ _) rfl rfl ?_
  rw [hput_b0]
  refine g_aload_n q_X7_init_15 rfl ?_
  refine g_iconst q_X7_init_16 ?_
  refine g_newI (rc' := 0) (rs' := 0) q_X7_init_17 (by decide) (by decide) (by decide) (by decide) ?_
  rw [hnew_b]
  refine g_putF fp_X7_18 rfl ⟨_, _, rfl⟩ ⟨_, _, _, rfl, gw_401⟩ q_X7_init_19 (hblk_0 _ _ _) rfl rfl ?_
  rw [hput_b0]
  refine g_aload_n q_X7_init_22 rfl ?_
  refine g_iconst q_X7_init_23 ?_
  refine g_put fp_X7_22 q_X7_init_24 (hblk_0 _ _ _) rfl rfl ?_
  rw [hput_b0]
  refine g_aload_n q_X7_init_27 rfl ?_
  refine g_iconst q_X7_init_28 ?_
  refine g_put fp_X7_26 q_X7_init_29 (hblk_0 _ _ _) rfl rfl ?_
  rw [hput_b0]
  refine g_aload_n q_X7_init_32 rfl ?_
  refine g_iconst q_X7_init_33 ?_
  refine g_put fp_X7_29 q_X7_init_34 (hblk_0 _ _ _) rfl rfl ?_
  rw [hput_b0]
  refine g_aload_n q_X7_init_37 rfl ?_
  refine g_iconst q_X7_init_38 ?_
  refine g_put fp_X7_32 q_X7_init_39 (hblk_0 _ _ _) rfl rfl ?_
  rw [hput_b0]
  refine g_aload_n q_X7_init_42 rfl ?_
  refine g_iconst q_X7_init_43 ?_
  refine g_put fp_X7_35 q_X7_init_44 (hblk_0 _ _ _) rfl rfl ?_
  rw [hput_b0]
  refine g_return q_X7_init_47.1 rfl ?_
  exact ⟨rfl, rfl⟩
theorem sp_Tree_init (hΓ : Gd Γ) : Sp Γ miX6_init 8 776 [.ref σ0.1] (hblk σ0 [ob 6 [.null, .null, .null, .null, .int (ii 0), .int (ii 0), .int (ii 0), .int (ii 0), .int (ii 0), .int (ii 0)]]) (rv (hblk σ0 [ob 6 [.ref (σ0.1 + 1), .ref (σ0.1 + 2), .ref (σ0.1 + 5), .ref (σ0.1 + 8), .int (ii (-1)), .int (ii 0), .int (ii 0), .int (ii (-1)), .int (ii (-1)), .int (ii 0)], aq 3 301 (fun _ => none), ob 8 [.ref (σ0.1 + 2 + 1), .ref (σ0.1 + 2 + 2), .int (ii 0), .int (ii (-1)), .int (ii (-1)), .int (ii (-1)), .int (ii (-1))], ai 205 (fun _ => 0), ai 5 (fun _ => 0), ob 8 [.ref (σ0.1 + 5 + 1), .ref (σ0.1 + 5 + 2), .int (ii 0), .int (ii (-1)), .int (ii (-1)), .int (ii (-1)), .int (ii (-1))], ai 205 (fun _ => 0), ai 5 (fun _ => 0), ai 41 (fun _ => 0)])) noX := by
  refine Sp_of (L := [_]) hΓ (by decide +kernel) rfl (Nat.le_of_ble_eq_true rfl) rfl ?_
  refine g_aload_n q_X6_init_0 rfl ?_
  refine g_oinit q_X6_init_1 oi_X6_3 (Nat.le_of_ble_eq_true rfl) (by decide) ?_
  refine g_aload_n q_X6_init_4 rfl ?_
  refine g_sipush q_X6_init_5 sp_301 ?_
  refine g_newQ (t := 3) (rc' := 7) (rs' := 475) q_X6_init_8 rfl na_X6_9 (by decide) (by decide) (by decide) (by decide) ?_
  rw [hnew_b]
  refine g_putF fp_X6_11 rfl ⟨_, _, rfl⟩ ⟨_, _, _, rfl, gw_352⟩ q_X6_init_11 (hblk_0 _ _ _) rfl rfl ?_
  rw [hput_b0]
  refine g_aload_n q_X6_init_14 rfl ?_
  refine g_new (rc' := 6) (rs' := 468) nw_X6_17 rfl q_X6_init_15 (by decide) (by decide) ?_
  rw [hnew_b1 (hblk _ _)]
  refine g_dup q_X6_init_18 rfl ?_
  refine g_callIN (rc' := 4) (rs' := 258) (As := []) cs_X6_19 q_X6_init_19 (sp_Ways_init hΓ) rfl rfl rfl rfl rfl (Nat.le_of_ble_eq_true rfl) (by decide) (by decide) (by decide) (fun _ _ h => h.elim) (k_rv ?_)
  rw [hblk_app]
  refine g_putF fp_X6_20 rfl ⟨_, _, rfl⟩ ⟨_, _, _, rfl, gw_354⟩ q_X6_init_22 (hblk_0 _ _ _) rfl rfl ?_
  rw [hput_b0]
  refine g_aload_n q_X6_init_25 rfl ?_
  refine g_new (rc' := 3) (rs' := 251) nw_X6_17 rfl q_X6_init_26 (by decide) (by decide) ?_
  rw [hnew_b1 (hblk _ _)]
  refine g_dup q_X6_init_29 rfl ?_
  refine g_callIN (rc' := 1) (rs' := 41) (As := []) cs_X6_19 q_X6_init_30 (sp_Ways_init hΓ) rfl rfl rfl rfl rfl (Nat.le_of_ble_eq_true rfl) (by decide) (by decide) (by decide) (fun _ _ h => h.elim) (k_rv ?_)
  rw [hblk_app]
  refine g_putF fp_X6_24 rfl ⟨_, _, rfl⟩ ⟨_, _, _, rfl, gw_355⟩ q_X6_init_33 (hblk_0 _ _ _) rfl rfl ?_
  rw [hput_b0]
  refine g_aload_n q_X6_init_36 rfl ?_
  refine g_bipush q_X6_init_37 bp_41 ?_
  refine g_newI (rc' := 0) (rs' := 0) q_X6_init_39 (by decide) (by decide) (by decide) (by decide) ?_
  rw [hnew_b]
  refine g_putF fp_X6_27 rfl ⟨_, _, rfl⟩ ⟨_, _, _, rfl, gw_357⟩ q_X6_init_41 (hblk_0 _ _ _) rfl rfl ?_
  rw [hput_b0]
  refine g_aload_n q_X6_init_44 rfl ?_
  refine g_iconst q_X6_init_45 ?_
  refine g_put fp_X6_31 q_X6_init_46 (hblk_0 _ _ _) rfl rfl ?_
  rw [hput_b0]
  refine g_aload_n q_X6_init_49 rfl ?_
  refine g_iconst q_X6_init_50 ?_
  refine g_put fp_X6_35 q_X6_init_51 (hblk_0 _ _ _) rfl rfl ?_
  rw [hput_b0]
  refine g_aload_n q_X6_init_54 rfl ?_
  refine g_iconst q_X6_init_55 ?_
  refine g_put fp_X6_38 q_X6_init_56 (hblk_0 _ _ _) rfl rfl ?_
  rw [hput_b0]
  refine g_aload_n q_X6_init_59 rfl ?_
  refine g_iconst q_X6_init_60 ?_
  refine g_put fp_X6_41 q_X6_init_61 (hblk_0 _ _ _) rfl rfl ?_
  rw [hput_b0]
  refine g_aload_n q_X6_init_64 rfl ?_
  refine g_iconst q_X6_init_65 ?_
  refine g_put fp_X6_44 q_X6_init_66 (hblk_0 _ _ _) rfl rfl ?_
  rw [hput_b0]
  refine g_aload_n q_X6_init_69 rfl ?_
  refine g_iconst q_X6_init_70 ?_
  refine g_put fp_X6_47 q_X6_init_71 (hblk_0 _ _ _) rfl rfl ?_
  rw [hput_b0]
  refine g_return q_X6_init_74.1 rfl ?_
  exact ⟨rfl, rfl⟩
theorem sp_TextReader_init (hΓ : Gd Γ) : Sp Γ miX5_init 8 494 [.ref σ0.1] (hblk σ0 [ob 5 [.null, .int (ii 0), .int (ii 0), .int (ii 0), .int (ii 0), .null]]) (rv (hblk σ0 [ob 5 [.ref (σ0.1 + 1), .int (ii 0), .int (ii 0), .int (ii (-1)), .int (ii 0), .ref (σ0.1 + 2)], ai 400 (fun _ => 0), ob 2 [.int (ii 0), .int (ii 0), .ref (σ0.1 + 2 + 1), .int (ii 0), .ref (σ0.1 + 2 + 2), .ref (σ0.1 + 2 + 3), .ref (σ0.1 + 2 + 4), .ref (σ0.1 + 2 + 5), .ref (σ0.1 + 2 + 6)], ai 36 (fun _ => 0), ai 5 (fun _ => 0), ai 5 (fun _ => 0), ai 30 (fun _ => 0), ai 5 (fun _ => 0), al 4 (fun _ => 0)])) noX := by
  refine Sp_of (L := [_]) hΓ (by decide +kernel) rfl (Nat.le_of_ble_eq_true rfl) rfl ?_
  refine g_aload_n q_X5_init_0 rfl ?_
  refine g_oinit q_X5_init_1 oi_X5_3 (Nat.le_of_ble_eq_true rfl) (by decide) ?_
  refine g_aload_n q_X5_init_4 rfl ?_
  refine g_sipush q_X5_init_5 sp_400 ?_
  refine g_newI (rc' := 7) (rs' := 94) q_X5_init_8 (by decide) (by decide) (by decide) (by decide) ?_
  rw [hnew_b]
  refine g_putF fp_X5_9 rfl ⟨_, _, rfl⟩ ⟨_, _, _, rfl, gw_235⟩ q_X5_init_10 (hblk_0 _ _ _) rfl rfl ?_
  rw [hput_b0]
  refine g_aload_n q_X5_init_13 rfl ?_
  refine g_iconst q_X5_init_14 ?_
  refine g_put fp_X5_15 q_X5_init_15 (hblk_0 _ _ _) rfl rfl ?_
  rw [hput_b0]
  refine g_aload_n q_X5_init_18 rfl ?_
  refine g_iconst q_X5_init_19 ?_
  refine g_put fp_X5_19 q_X5_init_20 (hblk_0 _ _ _) rfl rfl ?_
  rw [hput_b0]
  refine g_aload_n q_X5_init_23 rfl ?_
  refine g_iconst q_X5_init_24 ?_
  refine g_put fp_X5_22 q_X5_init_25 (hblk_0 _ _ _) rfl rfl ?_
  rw [hput_b0]
  refine g_aload_n q_X5_init_28 rfl ?_
  refine g_iconst q_X5_init_29 ?_
  refine g_put fp_X5_25 q_X5_init_30 (hblk_0 _ _ _) rfl rfl ?_
  rw [hput_b0]
  refine g_aload_n q_X5_init_33 rfl ?_
  refine g_new (rc' := 6) (rs' := 85) nw_X5_28 rfl q_X5_init_34 (by decide) (by decide) ?_
  rw [hnew_b1 (hblk _ _)]
  refine g_dup q_X5_init_37 rfl ?_
  refine g_callIN (rc' := 0) (rs' := 0) (As := []) cs_X5_30 q_X5_init_38 (sp_Scene_init hΓ) rfl rfl rfl rfl rfl (Nat.le_of_ble_eq_true rfl) (by decide) (by decide) (by decide) (fun _ _ h => h.elim) (k_rv ?_)
  rw [hblk_app]
  refine g_putF fp_X5_31 rfl ⟨_, _, rfl⟩ ⟨_, _, _, rfl, gw_242⟩ q_X5_init_41 (hblk_0 _ _ _) rfl rfl ?_
  rw [hput_b0]
  refine g_return q_X5_init_44.1 rfl ?_
  exact ⟨rfl, rfl⟩
theorem sp_CartPaths_init (hΓ : Gd Γ) : Sp Γ miX9_init 53 2327 [.ref σ0.1] (hblk σ0 [ob 9 [.null, .null, .null, .null, .null, .null, .int (ii 0), .null, .null, .null, .null, .null, .int (ii 0), .int (ii 0)]]) (rv (hblk σ0 [ob 9 [.ref (σ0.1 + 1), .ref (σ0.1 + 10), .ref (σ0.1 + 17), .ref (σ0.1 + 24), .ref (σ0.1 + 28), .ref (σ0.1 + 32), .int (ii (-1)), .ref (σ0.1 + 35), .ref (σ0.1 + 36), .ref (σ0.1 + 45), .ref (σ0.1 + 50), .ref (σ0.1 + 53), .int (ii 0), .int (ii 0)], ob 5 [.ref (σ0.1 + 1 + 1), .int (ii 0), .int (ii 0), .int (ii (-1)), .int (ii 0), .ref (σ0.1 + 1 + 2)], ai 400 (fun _ => 0), ob 2 [.int (ii 0), .int (ii 0), .ref (σ0.1 + 1 + 2 + 1), .int (ii 0), .ref (σ0.1 + 1 + 2 + 2), .ref (σ0.1 + 1 + 2 + 3), .ref (σ0.1 + 1 + 2 + 4), .ref (σ0.1 + 1 + 2 + 5), .ref (σ0.1 + 1 + 2 + 6)], ai 36 (fun _ => 0), ai 5 (fun _ => 0), ai 5 (fun _ => 0), ai 30 (fun _ => 0), ai 5 (fun _ => 0), al 4 (fun _ => 0), ob 2 [.int (ii 0), .int (ii 0), .ref (σ0.1 + 10 + 1), .int (ii 0), .ref (σ0.1 + 10 + 2), .ref (σ0.1 + 10 + 3), .ref (σ0.1 + 10 + 4), .ref (σ0.1 + 10 + 5), .ref (σ0.1 + 10 + 6)], ai 36 (fun _ => 0), ai 5 (fun _ => 0), ai 5 (fun _ => 0), ai 30 (fun _ => 0), ai 5 (fun _ => 0), al 4 (fun _ => 0), ob 2 [.int (ii 0), .int (ii 0), .ref (σ0.1 + 17 + 1), .int (ii 0), .ref (σ0.1 + 17 + 2), .ref (σ0.1 + 17 + 3), .ref (σ0.1 + 17 + 4), .ref (σ0.1 + 17 + 5), .ref (σ0.1 + 17 + 6)], ai 36 (fun _ => 0), ai 5 (fun _ => 0), ai 5 (fun _ => 0), ai 30 (fun _ => 0), ai 5 (fun _ => 0), al 4 (fun _ => 0), ob 0 [.ref (σ0.1 + 24 + 1), .ref (σ0.1 + 24 + 2), .ref (σ0.1 + 24 + 3), .int (ii 0)], ai 16 (fun _ => 0), ai 16 (fun _ => 0), ai 16 (fun _ => 0), ob 3 [.ref (σ0.1 + 28 + 1), .ref (σ0.1 + 28 + 2), .ref (σ0.1 + 28 + 3)], al 41 (fun _ => 0), al 164 (fun _ => 0), al 41 (fun _ => 0), ob 8 [.ref (σ0.1 + 32 + 1), .ref (σ0.1 + 32 + 2), .int (ii 0), .int (ii (-1)), .int (ii (-1)), .int (ii (-1)), .int (ii (-1))], ai 205 (fun _ => 0), ai 5 (fun _ => 0), aq 4 21 (fun _ => none), ob 6 [.ref (σ0.1 + 36 + 1), .ref (σ0.1 + 36 + 2), .ref (σ0.1 + 36 + 5), .ref (σ0.1 + 36 + 8), .int (ii (-1)), .int (ii 0), .int (ii 0), .int (ii (-1)), .int (ii (-1)), .int (ii 0)], aq 3 301 (fun _ => none), ob 8 [.ref (σ0.1 + 36 + 2 + 1), .ref (σ0.1 + 36 + 2 + 2), .int (ii 0), .int (ii (-1)), .int (ii (-1)), .int (ii (-1)), .int (ii (-1))], ai 205 (fun _ => 0), ai 5 (fun _ => 0), ob 8 [.ref (σ0.1 + 36 + 5 + 1), .ref (σ0.1 + 36 + 5 + 2), .int (ii 0), .int (ii (-1)), .int (ii (-1)), .int (ii (-1)), .int (ii (-1))], ai 205 (fun _ => 0), ai 5 (fun _ => 0), ai 41 (fun _ => 0), ob 7 [.ref (σ0.1 + 45 + 1), .ref (σ0.1 + 45 + 4), .int (ii (-1)), .int (ii (-1)), .int (ii (-1)), .int (ii (-1)), .int (ii (-1))], ob 8 [.ref (σ0.1 + 45 + 1 + 1), .ref (σ0.1 + 45 + 1 + 2), .int (ii 0), .int (ii (-1)), .int (ii (-1)), .int (ii (-1)), .int (ii (-1))], ai 205 (fun _ => 0), ai 5 (fun _ => 0), ai 5 (fun _ => 0), ob 4 [.ref (σ0.1 + 50 + 1), .ref (σ0.1 + 50 + 2)], ai 5 (fun _ => 0), ai 36 (fun _ => 0), ai 42 (fun _ => 0)])) noX := by
  refine Sp_of (L := [_]) hΓ (by decide +kernel) rfl (Nat.le_of_ble_eq_true rfl) rfl ?_
  refine g_aload_n q_X9_init_0 rfl ?_
  refine g_oinit q_X9_init_1 oi_X9_1 (Nat.le_of_ble_eq_true rfl) (by decide) ?_
  refine g_aload_n q_X9_init_4 rfl ?_
  refine g_new (rc' := 52) (rs' := 2321) nw_X9_7 rfl q_X9_init_5 (by decide) (by decide) ?_
  rw [hnew_b1 (hblk _ _)]
  refine g_dup q_X9_init_8 rfl ?_
  refine g_callIN (rc' := 44) (rs' := 1827) (As := []) cs_X9_9 q_X9_init_9 (sp_TextReader_init hΓ) rfl rfl rfl rfl rfl (Nat.le_of_ble_eq_true rfl) (by decide) (by decide) (by decide) (fun _ _ h => h.elim) (k_rv ?_)
  rw [hblk_app]
  refine g_putF fp_X9_10 rfl ⟨_, _, rfl⟩ ⟨_, _, _, rfl, gw_441⟩ q_X9_init_12 (hblk_0 _ _ _) rfl rfl ?_
  rw [hput_b0]
  refine g_aload_n q_X9_init_15 rfl ?_
  refine g_new (rc' := 43) (rs' := 1818) nw_X9_16 rfl q_X9_init_16 (by decide) (by decide) ?_
  rw [hnew_b1 (hblk _ _)]
  refine g_dup q_X9_init_19 rfl ?_
  refine g_callIN (rc' := 37) (rs' := 1733) (As := []) cs_X9_18 q_X9_init_20 (sp_Scene_init hΓ) rfl rfl rfl rfl rfl (Nat.le_of_ble_eq_true rfl) (by decide) (by decide) (by decide) (fun _ _ h => h.elim) (k_rv ?_)
  rw [hblk_app]
  refine g_putF fp_X9_19 rfl ⟨_, _, rfl⟩ ⟨_, _, _, rfl, gw_442⟩ q_X9_init_23 (hblk_0 _ _ _) rfl rfl ?_
  rw [hput_b0]
  refine g_aload_n q_X9_init_26 rfl ?_
  refine g_new (rc' := 36) (rs' := 1724) nw_X9_16 rfl q_X9_init_27 (by decide) (by decide) ?_
  rw [hnew_b1 (hblk _ _)]
  refine g_dup q_X9_init_30 rfl ?_
  refine g_callIN (rc' := 30) (rs' := 1639) (As := []) cs_X9_18 q_X9_init_31 (sp_Scene_init hΓ) rfl rfl rfl rfl rfl (Nat.le_of_ble_eq_true rfl) (by decide) (by decide) (by decide) (fun _ _ h => h.elim) (k_rv ?_)
  rw [hblk_app]
  refine g_putF fp_X9_23 rfl ⟨_, _, rfl⟩ ⟨_, _, _, rfl, gw_443⟩ q_X9_init_34 (hblk_0 _ _ _) rfl rfl ?_
  rw [hput_b0]
  refine g_aload_n q_X9_init_37 rfl ?_
  refine g_new (rc' := 29) (rs' := 1635) nw_X9_26 rfl q_X9_init_38 (by decide) (by decide) ?_
  rw [hnew_b1 (hblk _ _)]
  refine g_dup q_X9_init_41 rfl ?_
  refine g_callIN (rc' := 26) (rs' := 1587) (As := []) cs_X9_28 q_X9_init_42 (sp_Acts_init hΓ) rfl rfl rfl rfl rfl (Nat.le_of_ble_eq_true rfl) (by decide) (by decide) (by decide) (fun _ _ h => h.elim) (k_rv ?_)
  rw [hblk_app]
  refine g_putF fp_X9_29 rfl ⟨_, _, rfl⟩ ⟨_, _, _, rfl, gw_444⟩ q_X9_init_45 (hblk_0 _ _ _) rfl rfl ?_
  rw [hput_b0]
  refine g_aload_n q_X9_init_48 rfl ?_
  refine g_new (rc' := 25) (rs' := 1584) nw_X9_33 rfl q_X9_init_49 (by decide) (by decide) ?_
  rw [hnew_b1 (hblk _ _)]
  refine g_dup q_X9_init_52 rfl ?_
  refine g_callIN (rc' := 22) (rs' := 1338) (As := []) cs_X9_35 q_X9_init_53 (sp_Search_init hΓ) rfl rfl rfl rfl rfl (Nat.le_of_ble_eq_true rfl) (by decide) (by decide) (by decide) (fun _ _ h => h.elim) (k_rv ?_)
  rw [hblk_app]
  refine g_putF fp_X9_36 rfl ⟨_, _, rfl⟩ ⟨_, _, _, rfl, gw_445⟩ q_X9_init_56 (hblk_0 _ _ _) rfl rfl ?_
  rw [hput_b0]
  refine g_aload_n q_X9_init_59 rfl ?_
  refine g_new (rc' := 21) (rs' := 1331) nw_X9_40 rfl q_X9_init_60 (by decide) (by decide) ?_
  rw [hnew_b1 (hblk _ _)]
  refine g_dup q_X9_init_63 rfl ?_
  refine g_callIN (rc' := 19) (rs' := 1121) (As := []) cs_X9_42 q_X9_init_64 (sp_Ways_init hΓ) rfl rfl rfl rfl rfl (Nat.le_of_ble_eq_true rfl) (by decide) (by decide) (by decide) (fun _ _ h => h.elim) (k_rv ?_)
  rw [hblk_app]
  refine g_putF fp_X9_43 rfl ⟨_, _, rfl⟩ ⟨_, _, _, rfl, gw_446⟩ q_X9_init_67 (hblk_0 _ _ _) rfl rfl ?_
  rw [hput_b0]
  refine g_aload_n q_X9_init_70 rfl ?_
  refine g_iconst q_X9_init_71 ?_
  refine g_put fp_X9_47 q_X9_init_72 (hblk_0 _ _ _) rfl rfl ?_
  rw [hput_b0]
  refine g_aload_n q_X9_init_75 rfl ?_
  refine g_bipush q_X9_init_76 bp_21 ?_
  refine g_newQ (t := 4) (rc' := 18) (rs' := 1100) q_X9_init_78 rfl na_X9_51 (by decide) (by decide) (by decide) (by decide) ?_
  rw [hnew_b]
  refine g_putF fp_X9_53 rfl ⟨_, _, rfl⟩ ⟨_, _, _, rfl, gw_448⟩ q_X9_init_81 (hblk_0 _ _ _) rfl rfl ?_
  rw [hput_b0]
  refine g_aload_n q_X9_init_84 rfl ?_
  refine g_new (rc' := 17) (rs' := 1090) nw_X9_51 rfl q_X9_init_85 (by decide) (by decide) ?_
  rw [hnew_b1 (hblk _ _)]
  refine g_dup q_X9_init_88 rfl ?_
  refine g_callIN (rc' := 9) (rs' := 314) (As := []) cs_X9_57 q_X9_init_89 (sp_Tree_init hΓ) rfl rfl rfl rfl rfl (Nat.le_of_ble_eq_true rfl) (by decide) (by decide) (by decide) (fun _ _ h => h.elim) (k_rv ?_)
  rw [hblk_app]
  refine g_putF fp_X9_58 rfl ⟨_, _, rfl⟩ ⟨_, _, _, rfl, gw_449⟩ q_X9_init_92 (hblk_0 _ _ _) rfl rfl ?_
  rw [hput_b0]
  refine g_aload_n q_X9_init_95 rfl ?_
  refine g_new (rc' := 8) (rs' := 307) nw_X9_62 rfl q_X9_init_96 (by decide) (by decide) ?_
  rw [hnew_b1 (hblk _ _)]
  refine g_dup q_X9_init_99 rfl ?_
  refine g_callIN (rc' := 4) (rs' := 85) (As := []) cs_X9_64 q_X9_init_100 (sp_Turns_init hΓ) rfl rfl rfl rfl rfl (Nat.le_of_ble_eq_true rfl) (by decide) (by decide) (by decide) (fun _ _ h => h.elim) (k_rv ?_)
  rw [hblk_app]
  refine g_putF fp_X9_65 rfl ⟨_, _, rfl⟩ ⟨_, _, _, rfl, gw_450⟩ q_X9_init_103 (hblk_0 _ _ _) rfl rfl ?_
  rw [hput_b0]
  refine g_aload_n q_X9_init_106 rfl ?_
  refine g_new (rc' := 3) (rs' := 83) nw_X9_69 rfl q_X9_init_107 (by decide) (by decide) ?_
  rw [hnew_b1 (hblk _ _)]
  refine g_dup q_X9_init_110 rfl ?_
  refine g_callIN (rc' := 1) (rs' := 42) (As := []) cs_X9_71 q_X9_init_111 (sp_Stop_init hΓ) rfl rfl rfl rfl rfl (Nat.le_of_ble_eq_true rfl) (by decide) (by decide) (by decide) (fun _ _ h => h.elim) (k_rv ?_)
  rw [hblk_app]
  refine g_putF fp_X9_72 rfl ⟨_, _, rfl⟩ ⟨_, _, _, rfl, gw_451⟩ q_X9_init_114 (hblk_0 _ _ _) rfl rfl ?_
  rw [hput_b0]
  refine g_aload_n q_X9_init_117 rfl ?_
  refine g_bipush q_X9_init_118 bp_42 ?_
  refine g_newI (rc' := 0) (rs' := 0) q_X9_init_120 (by decide) (by decide) (by decide) (by decide) ?_
  rw [hnew_b]
  refine g_putF fp_X9_76 rfl ⟨_, _, rfl⟩ ⟨_, _, _, rfl, gw_452⟩ q_X9_init_122 (hblk_0 _ _ _) rfl rfl ?_
  rw [hput_b0]
  refine g_aload_n q_X9_init_125 rfl ?_
  refine g_iconst q_X9_init_126 ?_
  refine g_put fp_X9_80 q_X9_init_127 (hblk_0 _ _ _) rfl rfl ?_
  rw [hput_b0]
  refine g_aload_n q_X9_init_130 rfl ?_
  refine g_iconst q_X9_init_131 ?_
  refine g_put fp_X9_83 q_X9_init_132 (hblk_0 _ _ _) rfl rfl ?_
  rw [hput_b0]
  refine g_return q_X9_init_135.1 rfl ?_
  exact ⟨rfl, rfl⟩
theorem sp_Model_init (hΓ : Gd Γ) : Sp Γ miX10_init 33 77933 [.ref σ0.1] (hblk σ0 [ob 10 [.int (ii 0), .null, .int (ii 0), .int (ii 0), .int (ii 0), .int (ii 0), .int (ii 0), .int (ii 0), .int (ii 0), .null, .null, .null, .null, .int (ii 0), .int (ii 0), .int (ii 0), .null, .null, .null, .null, .int (ii 0), .null, .null, .null, .null, .null, .null, .null, .int (ii 0), .int (ii 0), .int (ii 0), .int (ii 0), .null, .int (ii 0), .int (ii 0), .int (ii 0), .int (ii 0), .int (ii 0), .int (ii 0), .null, .null, .null, .null, .null, .null, .null, .null, .null, .null, .null, .null, .null, .null, .null, .null, .int (ii 0)]]) (rv (hblk σ0 [ob 10 [.int (ii 0), .ref (σ0.1 + 1), .int (ii 0), .int (ii 0), .int (ii 0), .int (ii (-1)), .int (ii 0), .int (ii 0), .int (ii 0), .ref (σ0.1 + 2), .ref (σ0.1 + 3), .ref (σ0.1 + 4), .ref (σ0.1 + 5), .int (ii 0), .int (ii 0), .int (ii 0), .ref (σ0.1 + 6), .ref (σ0.1 + 7), .ref (σ0.1 + 8), .ref (σ0.1 + 9), .int (ii 0), .ref (σ0.1 + 10), .ref (σ0.1 + 11), .ref (σ0.1 + 12), .ref (σ0.1 + 13), .ref (σ0.1 + 14), .ref (σ0.1 + 15), .ref (σ0.1 + 16), .int (ii 0), .int (ii 0), .int (ii 0), .int (ii 0), .ref (σ0.1 + 17), .int (ii (-1)), .int (ii 0), .int (ii 0), .int (ii 0), .int (ii 0), .int (ii 0), .ref (σ0.1 + 18), .ref (σ0.1 + 19), .ref (σ0.1 + 20), .ref (σ0.1 + 21), .ref (σ0.1 + 22), .ref (σ0.1 + 23), .ref (σ0.1 + 24), .ref (σ0.1 + 25), .ref (σ0.1 + 26), .ref (σ0.1 + 27), .ref (σ0.1 + 28), .ref (σ0.1 + 29), .ref (σ0.1 + 30), .ref (σ0.1 + 31), .ref (σ0.1 + 32), .ref (σ0.1 + 33), .int (ii 0)], ai 400 (fun _ => 0), ai 36 (fun _ => 0), al 5 (fun _ => 0), ai 5 (fun _ => 0), ai 5 (fun _ => 0), ai 36 (fun _ => 0), al 5 (fun _ => 0), ai 5 (fun _ => 0), ai 5 (fun _ => 0), ai 656 (fun _ => 0), az 1476 (fun _ => 0), az 7380 (fun _ => 0), az 1476 (fun _ => 0), az 1476 (fun _ => 0), ai 41 (fun _ => 0), ai 61500 (fun _ => 0), ai 36 (fun _ => 0), ai 302 (fun _ => 0), ai 302 (fun _ => 0), ai 302 (fun _ => 0), ai 302 (fun _ => 0), ai 302 (fun _ => 0), ai 302 (fun _ => 0), ai 302 (fun _ => 0), ai 302 (fun _ => 0), az 302 (fun _ => 0), ai 5 (fun _ => 0), ai 205 (fun _ => 0), ai 205 (fun _ => 0), ai 205 (fun _ => 0), ai 5 (fun _ => 0), ai 5 (fun _ => 0), ai 42 (fun _ => 0)])) noX := by
  refine Sp_of (L := [_]) hΓ (by decide +kernel) rfl (Nat.le_of_ble_eq_true rfl) rfl ?_
  refine g_aload_n q_X10_init_0 rfl ?_
  refine g_oinit q_X10_init_1 oi_X10_1 (Nat.le_of_ble_eq_true rfl) (by decide) ?_
  refine g_aload_n q_X10_init_4 rfl ?_
  refine g_sipush q_X10_init_5 sp_400 ?_
  refine g_newI (rc' := 32) (rs' := 77533) q_X10_init_8 (by decide) (by decide) (by decide) (by decide) ?_
  rw [hnew_b]
  refine g_putF fp_X10_7 rfl ⟨_, _, rfl⟩ ⟨_, _, _, rfl, gw_1485⟩ q_X10_init_10 (hblk_0 _ _ _) rfl rfl ?_
  rw [hput_b0]
  refine g_aload_n q_X10_init_13 rfl ?_
  refine g_iconst q_X10_init_14 ?_
  refine g_put fp_X10_13 q_X10_init_15 (hblk_0 _ _ _) rfl rfl ?_
  rw [hput_b0]
  refine g_aload_n q_X10_init_18 rfl ?_
  refine g_bipush q_X10_init_19 bp_36 ?_
  refine g_newI (rc' := 31) (rs' := 77497) q_X10_init_21 (by decide) (by decide) (by decide) (by decide) ?_
  rw [hnew_b]
  refine g_putF fp_X10_17 rfl ⟨_, _, rfl⟩ ⟨_, _, _, rfl, gw_1493⟩ q_X10_init_23 (hblk_0 _ _ _) rfl rfl ?_
  rw [hput_b0]
  refine g_aload_n q_X10_init_26 rfl ?_
  refine g_iconst q_X10_init_27 ?_
  refine g_newJ (rc' := 30) (rs' := 77492) q_X10_init_28 (by decide) (by decide) (by decide) (by decide) ?_
  rw [hnew_b]
  refine g_putF fp_X10_20 rfl ⟨_, _, rfl⟩ ⟨_, _, _, rfl, gw_1494⟩ q_X10_init_30 (hblk_0 _ _ _) rfl rfl ?_
  rw [hput_b0]
  refine g_aload_n q_X10_init_33 rfl ?_
  refine g_iconst q_X10_init_34 ?_
  refine g_newI (rc' := 29) (rs' := 77487) q_X10_init_35 (by decide) (by decide) (by decide) (by decide) ?_
  rw [hnew_b]
  refine g_putF fp_X10_24 rfl ⟨_, _, rfl⟩ ⟨_, _, _, rfl, gw_1495⟩ q_X10_init_37 (hblk_0 _ _ _) rfl rfl ?_
  rw [hput_b0]
  refine g_aload_n q_X10_init_40 rfl ?_
  refine g_iconst q_X10_init_41 ?_
  refine g_newI (rc' := 28) (rs' := 77482) q_X10_init_42 (by decide) (by decide) (by decide) (by decide) ?_
  rw [hnew_b]
  refine g_putF fp_X10_27 rfl ⟨_, _, rfl⟩ ⟨_, _, _, rfl, gw_1496⟩ q_X10_init_44 (hblk_0 _ _ _) rfl rfl ?_
  rw [hput_b0]
  refine g_aload_n q_X10_init_47 rfl ?_
  refine g_bipush q_X10_init_48 bp_36 ?_
  refine g_newI (rc' := 27) (rs' := 77446) q_X10_init_50 (by decide) (by decide) (by decide) (by decide) ?_
  rw [hnew_b]
  refine g_putF fp_X10_30 rfl ⟨_, _, rfl⟩ ⟨_, _, _, rfl, gw_1500⟩ q_X10_init_52 (hblk_0 _ _ _) rfl rfl ?_
  rw [hput_b0]
  refine g_aload_n q_X10_init_55 rfl ?_
  refine g_iconst q_X10_init_56 ?_
  refine g_newJ (rc' := 26) (rs' := 77441) q_X10_init_57 (by decide) (by decide) (by decide) (by decide) ?_
  rw [hnew_b]
  refine g_putF fp_X10_33 rfl ⟨_, _, rfl⟩ ⟨_, _, _, rfl, gw_1501⟩ q_X10_init_59 (hblk_0 _ _ _) rfl rfl ?_
  rw [hput_b0]
  refine g_aload_n q_X10_init_62 rfl ?_
  refine g_iconst q_X10_init_63 ?_
  refine g_newI (rc' := 25) (rs' := 77436) q_X10_init_64 (by decide) (by decide) (by decide) (by decide) ?_
  rw [hnew_b]
  refine g_putF fp_X10_36 rfl ⟨_, _, rfl⟩ ⟨_, _, _, rfl, gw_1502⟩ q_X10_init_66 (hblk_0 _ _ _) rfl rfl ?_
  rw [hput_b0]
  refine g_aload_n q_X10_init_69 rfl ?_
  refine g_iconst q_X10_init_70 ?_
  refine g_newI (rc' := 24) (rs' := 77431) q_X10_init_71 (by decide) (by decide) (by decide) (by decide) ?_
  rw [hnew_b]
  refine g_putF fp_X10_39 rfl ⟨_, _, rfl⟩ ⟨_, _, _, rfl, gw_1503⟩ q_X10_init_73 (hblk_0 _ _ _) rfl rfl ?_
  rw [hput_b0]
  refine g_aload_n q_X10_init_76 rfl ?_
  refine g_sipush q_X10_init_77 sp_656 ?_
  refine g_newI (rc' := 23) (rs' := 76775) q_X10_init_80 (by decide) (by decide) (by decide) (by decide) ?_
  rw [hnew_b]
  refine g_putF fp_X10_42 rfl ⟨_, _, rfl⟩ ⟨_, _, _, rfl, gw_1505⟩ q_X10_init_82 (hblk_0 _ _ _) rfl rfl ?_
  rw [hput_b0]
  refine g_aload_n q_X10_init_85 rfl ?_
  refine g_sipush q_X10_init_86 sp_1476 ?_
  refine g_newZ (rc' := 22) (rs' := 75299) q_X10_init_89 (by decide) (by decide) (by decide) (by decide) ?_
  rw [hnew_b]
  refine g_putF fp_X10_45 rfl ⟨_, _, rfl⟩ ⟨_, _, _, rfl, gw_1506⟩ q_X10_init_91 (hblk_0 _ _ _) rfl rfl ?_
  rw [hput_b0]
  refine g_aload_n q_X10_init_94 rfl ?_
  refine g_sipush q_X10_init_95 sp_7380 ?_
  refine g_newZ (rc' := 21) (rs' := 67919) q_X10_init_98 (by decide) (by decide) (by decide) (by decide) ?_
  rw [hnew_b]
  refine g_putF fp_X10_49 rfl ⟨_, _, rfl⟩ ⟨_, _, _, rfl, gw_1507⟩ q_X10_init_100 (hblk_0 _ _ _) rfl rfl ?_
  rw [hput_b0]
  refine g_aload_n q_X10_init_103 rfl ?_
  refine g_sipush q_X10_init_104 sp_1476 ?_
  refine g_newZ (rc' := 20) (rs' := 66443) q_X10_init_107 (by decide) (by decide) (by decide) (by decide) ?_
  rw [hnew_b]
  refine g_putF fp_X10_52 rfl ⟨_, _, rfl⟩ ⟨_, _, _, rfl, gw_1508⟩ q_X10_init_109 (hblk_0 _ _ _) rfl rfl ?_
  rw [hput_b0]
  refine g_aload_n q_X10_init_112 rfl ?_
  refine g_sipush q_X10_init_113 sp_1476 ?_
  refine g_newZ (rc' := 19) (rs' := 64967) q_X10_init_116 (by decide) (by decide) (by decide) (by decide) ?_
  rw [hnew_b]
  refine g_putF fp_X10_55 rfl ⟨_, _, rfl⟩ ⟨_, _, _, rfl, gw_1509⟩ q_X10_init_118 (hblk_0 _ _ _) rfl rfl ?_
  rw [hput_b0]
  refine g_aload_n q_X10_init_121 rfl ?_
  refine g_bipush q_X10_init_122 bp_41 ?_
  refine g_newI (rc' := 18) (rs' := 64926) q_X10_init_124 (by decide) (by decide) (by decide) (by decide) ?_
  rw [hnew_b]
  refine g_putF fp_X10_58 rfl ⟨_, _, rfl⟩ ⟨_, _, _, rfl, gw_1510⟩ q_X10_init_126 (hblk_0 _ _ _) rfl rfl ?_
  rw [hput_b0]
  refine g_aload_n q_X10_init_129 rfl ?_
  refine g_ldc q_X10_init_130 kc_X10_61 rfl ?_
  refine g_newI (rc' := 17) (rs' := 3426) q_X10_init_132 (by decide) (by decide) (by decide) (by decide) ?_
  rw [hnew_b]
  refine g_putF fp_X10_62 rfl ⟨_, _, rfl⟩ ⟨_, _, _, rfl, gw_1511⟩ q_X10_init_134 (hblk_0 _ _ _) rfl rfl ?_
  rw [hput_b0]
  refine g_aload_n q_X10_init_137 rfl ?_
  refine g_bipush q_X10_init_138 bp_36 ?_
  refine g_newI (rc' := 16) (rs' := 3390) q_X10_init_140 (by decide) (by decide) (by decide) (by decide) ?_
  rw [hnew_b]
  refine g_putF fp_X10_65 rfl ⟨_, _, rfl⟩ ⟨_, _, _, rfl, gw_1516⟩ q_X10_init_142 (hblk_0 _ _ _) rfl rfl ?_
  rw [hput_b0]
  refine g_aload_n q_X10_init_145 rfl ?_
  refine g_iconst q_X10_init_146 ?_
  refine g_put fp_X10_68 q_X10_init_147 (hblk_0 _ _ _) rfl rfl ?_
  rw [hput_b0]
  refine g_aload_n q_X10_init_150 rfl ?_
  refine g_sipush q_X10_init_151 sp_302 ?_
  refine g_newI (rc' := 15) (rs' := 3088) q_X10_init_154 (by decide) (by decide) (by decide) (by decide) ?_
  rw [hnew_b]
  refine g_putF fp_X10_71 rfl ⟨_, _, rfl⟩ ⟨_, _, _, rfl, gw_1523⟩ q_X10_init_156 (hblk_0 _ _ _) rfl rfl ?_
  rw [hput_b0]
  refine g_aload_n q_X10_init_159 rfl ?_
  refine g_sipush q_X10_init_160 sp_302 ?_
  refine g_newI (rc' := 14) (rs' := 2786) q_X10_init_163 (by decide) (by decide) (by decide) (by decide) ?_
  rw [hnew_b]
  refine g_putF fp_X10_74 rfl ⟨_, _, rfl⟩ ⟨_, _, _, rfl, gw_1524⟩ q_X10_init_165 (hblk_0 _ _ _) rfl rfl ?_
  rw [hput_b0]
  refine g_aload_n q_X10_init_168 rfl ?_
  refine g_sipush q_X10_init_169 sp_302 ?_
  refine g_newI (rc' := 13) (rs' := 2484) q_X10_init_172 (by decide) (by decide) (by decide) (by decide) ?_
  rw [hnew_b]
  refine g_putF fp_X10_77 rfl ⟨_, _, rfl⟩ ⟨_, _, _, rfl, gw_1525⟩ q_X10_init_174 (hblk_0 _ _ _) rfl rfl ?_
  rw [hput_b0]
  refine g_aload_n q_X10_init_177 rfl ?_
  refine g_sipush q_X10_init_178 sp_302 ?_
  refine g_newI (rc' := 12) (rs' := 2182) q_X10_init_181 (by decide) (by decide) (by decide) (by decide) ?_
  rw [hnew_b]
  refine g_putF fp_X10_80 rfl ⟨_, _, rfl⟩ ⟨_, _, _, rfl, gw_1526⟩ q_X10_init_183 (hblk_0 _ _ _) rfl rfl ?_
  rw [hput_b0]
  refine g_aload_n q_X10_init_186 rfl ?_
  refine g_sipush q_X10_init_187 sp_302 ?_
  refine g_newI (rc' := 11) (rs' := 1880) q_X10_init_190 (by decide) (by decide) (by decide) (by decide) ?_
  rw [hnew_b]
  refine g_putF fp_X10_83 rfl ⟨_, _, rfl⟩ ⟨_, _, _, rfl, gw_1527⟩ q_X10_init_192 (hblk_0 _ _ _) rfl rfl ?_
  rw [hput_b0]
  refine g_aload_n q_X10_init_195 rfl ?_
  refine g_sipush q_X10_init_196 sp_302 ?_
  refine g_newI (rc' := 10) (rs' := 1578) q_X10_init_199 (by decide) (by decide) (by decide) (by decide) ?_
  rw [hnew_b]
  refine g_putF fp_X10_86 rfl ⟨_, _, rfl⟩ ⟨_, _, _, rfl, gw_1528⟩ q_X10_init_201 (hblk_0 _ _ _) rfl rfl ?_
  rw [hput_b0]
  refine g_aload_n q_X10_init_204 rfl ?_
  refine g_sipush q_X10_init_205 sp_302 ?_
  refine g_newI (rc' := 9) (rs' := 1276) q_X10_init_208 (by decide) (by decide) (by decide) (by decide) ?_
  rw [hnew_b]
  refine g_putF fp_X10_89 rfl ⟨_, _, rfl⟩ ⟨_, _, _, rfl, gw_1529⟩ q_X10_init_210 (hblk_0 _ _ _) rfl rfl ?_
  rw [hput_b0]
  refine g_aload_n q_X10_init_213 rfl ?_
  refine g_sipush q_X10_init_214 sp_302 ?_
  refine g_newI (rc' := 8) (rs' := 974) q_X10_init_217 (by decide) (by decide) (by decide) (by decide) ?_
  rw [hnew_b]
  refine g_putF fp_X10_92 rfl ⟨_, _, rfl⟩ ⟨_, _, _, rfl, gw_1530⟩ q_X10_init_219 (hblk_0 _ _ _) rfl rfl ?_
  rw [hput_b0]
  refine g_aload_n q_X10_init_222 rfl ?_
  refine g_sipush q_X10_init_223 sp_302 ?_
  refine g_newZ (rc' := 7) (rs' := 672) q_X10_init_226 (by decide) (by decide) (by decide) (by decide) ?_
  rw [hnew_b]
  refine g_putF fp_X10_95 rfl ⟨_, _, rfl⟩ ⟨_, _, _, rfl, gw_1531⟩ q_X10_init_228 (hblk_0 _ _ _) rfl rfl ?_
  rw [hput_b0]
  refine g_aload_n q_X10_init_231 rfl ?_
  refine g_iconst q_X10_init_232 ?_
  refine g_newI (rc' := 6) (rs' := 667) q_X10_init_233 (by decide) (by decide) (by decide) (by decide) ?_
  rw [hnew_b]
  refine g_putF fp_X10_98 rfl ⟨_, _, rfl⟩ ⟨_, _, _, rfl, gw_1532⟩ q_X10_init_235 (hblk_0 _ _ _) rfl rfl ?_
  rw [hput_b0]
  refine g_aload_n q_X10_init_238 rfl ?_
  refine g_sipush q_X10_init_239 sp_205 ?_
  refine g_newI (rc' := 5) (rs' := 462) q_X10_init_242 (by decide) (by decide) (by decide) (by decide) ?_
  rw [hnew_b]
  refine g_putF fp_X10_101 rfl ⟨_, _, rfl⟩ ⟨_, _, _, rfl, gw_1533⟩ q_X10_init_244 (hblk_0 _ _ _) rfl rfl ?_
  rw [hput_b0]
  refine g_aload_n q_X10_init_247 rfl ?_
  refine g_sipush q_X10_init_248 sp_205 ?_
  refine g_newI (rc' := 4) (rs' := 257) q_X10_init_251 (by decide) (by decide) (by decide) (by decide) ?_
  rw [hnew_b]
  refine g_putF fp_X10_104 rfl ⟨_, _, rfl⟩ ⟨_, _, _, rfl, gw_1534⟩ q_X10_init_253 (hblk_0 _ _ _) rfl rfl ?_
  rw [hput_b0]
  refine g_aload_n q_X10_init_256 rfl ?_
  refine g_sipush q_X10_init_257 sp_205 ?_
  refine g_newI (rc' := 3) (rs' := 52) q_X10_init_260 (by decide) (by decide) (by decide) (by decide) ?_
  rw [hnew_b]
  refine g_putF fp_X10_107 rfl ⟨_, _, rfl⟩ ⟨_, _, _, rfl, gw_1535⟩ q_X10_init_262 (hblk_0 _ _ _) rfl rfl ?_
  rw [hput_b0]
  refine g_aload_n q_X10_init_265 rfl ?_
  refine g_iconst q_X10_init_266 ?_
  refine g_newI (rc' := 2) (rs' := 47) q_X10_init_267 (by decide) (by decide) (by decide) (by decide) ?_
  rw [hnew_b]
  refine g_putF fp_X10_110 rfl ⟨_, _, rfl⟩ ⟨_, _, _, rfl, gw_1536⟩ q_X10_init_269 (hblk_0 _ _ _) rfl rfl ?_
  rw [hput_b0]
  refine g_aload_n q_X10_init_272 rfl ?_
  refine g_iconst q_X10_init_273 ?_
  refine g_newI (rc' := 1) (rs' := 42) q_X10_init_274 (by decide) (by decide) (by decide) (by decide) ?_
  rw [hnew_b]
  refine g_putF fp_X10_113 rfl ⟨_, _, rfl⟩ ⟨_, _, _, rfl, gw_1537⟩ q_X10_init_276 (hblk_0 _ _ _) rfl rfl ?_
  rw [hput_b0]
  refine g_aload_n q_X10_init_279 rfl ?_
  refine g_bipush q_X10_init_280 bp_42 ?_
  refine g_newI (rc' := 0) (rs' := 0) q_X10_init_282 (by decide) (by decide) (by decide) (by decide) ?_
  rw [hnew_b]
  refine g_putF fp_X10_116 rfl ⟨_, _, rfl⟩ ⟨_, _, _, rfl, gw_1538⟩ q_X10_init_284 (hblk_0 _ _ _) rfl rfl ?_
  rw [hput_b0]
  refine g_aload_n q_X10_init_287 rfl ?_
  refine g_iconst q_X10_init_288 ?_
  refine g_put fp_X10_119 q_X10_init_289 (hblk_0 _ _ _) rfl rfl ?_
  rw [hput_b0]
  refine g_return q_X10_init_292.1 rfl ?_
  exact ⟨rfl, rfl⟩
end INI

