/-! String.charAt, indexOf over the constants -/
theorem fs_sio : Cond.fieldLink "java/lang/String" 1053 "jdk/internal/util/Preconditions" "SIOOBE_FORMATTER" "Ljava/util/function/BiFunction;" ∈ GW := gw_t3 90 rfl rfl
theorem st_sio {Γ : GT} (hΓ : Gd Γ) : ∃ x : Value, (x = .null ∨ ∃ t, x = .ref t) ∧ va_Z "jdk/internal/util/Preconditions" "SIOOBE_FORMATTER" "Ljava/util/function/BiFunction;" x (fr0 Γ) Γ.2.1 Γ.2.1.heap := by
  obtain ⟨⟨a0, h0, hn⟩, -⟩ := hΓ
  have hf := flat_of_before _ hn
  have hA : ∀ a : Nat, a < Γ.2.1.heap.size → ¬ fr0 Γ a := fun a ha => Nat.not_le.mpr ha
  have hq := va_Zqof (h0 (.laysStatic "jdk/internal/util/Preconditions" "SIOOBE_FORMATTER" "Ljava/util/function/BiFunction;") (by decide +kernel)) (h0 (.initialized "jdk/internal/util/Preconditions") (by decide +kernel)) (hf (.isRef (.static "jdk/internal/util/Preconditions" "SIOOBE_FORMATTER" "Ljava/util/function/BiFunction;")) (by decide +kernel)) hA
  rcases hq with h | ⟨t, h⟩
  · exact ⟨_, Or.inl rfl, h⟩
  · exact ⟨_, Or.inr ⟨t, rfl⟩, h⟩
section STR2
variable {Γ : GT} {σ : AH} {a v n : Nat} {f : Nat → Int}
theorem sp_checkIndex3 (hΓ : Gd Γ) (i : Nat) (x : Value) (hx : x = .null ∨ ∃ t, x = .ref t) (hi : i < n) (hn : n < 8) : Sp Γ miJ3_checkIndex_8e157 0 0 [.int (ii i), .int (ii n), x] σ (ri i σ) noX := by
  rcases hx with rfl | ⟨t, rfl⟩
  · refine Sp_of (L := [_, _, _]) hΓ (by decide +kernel) rfl (Nat.le_of_ble_eq_true rfl) rfl ?_
    refine g_iload_n q_J3_checkIndex_8e157_0 rfl ?_
    refine g_if_lt (tgt := 9) q_J3_checkIndex_8e157_1 (by decide) ⟨by omega, by omega⟩ (fun e1 => ?_) (fun e1 => ?_)
    · exact absurd e1 (by omega)
    refine g_iload_n q_J3_checkIndex_8e157_4 rfl ?_
    refine g_iload_n q_J3_checkIndex_8e157_5 rfl ?_
    refine g_icmp_lt (tgt := 16) q_J3_checkIndex_8e157_6 (by decide) ⟨by omega, by omega⟩ ⟨by omega, by omega⟩ (fun e2 => ?_) (fun e2 => ?_)
    · refine g_iload_n q_J3_checkIndex_8e157_16 rfl ?_
      exact g_ireturn q_J3_checkIndex_8e157_17.1 rfl ⟨rfl, rfl⟩
    · exact absurd e2 (by omega)
  · refine Sp_of (L := [_, _, _]) hΓ (by decide +kernel) rfl (Nat.le_of_ble_eq_true rfl) rfl ?_
    refine g_iload_n q_J3_checkIndex_8e157_0 rfl ?_
    refine g_if_lt (tgt := 9) q_J3_checkIndex_8e157_1 (by decide) ⟨by omega, by omega⟩ (fun e1 => ?_) (fun e1 => ?_)
    · exact absurd e1 (by omega)
    refine g_iload_n q_J3_checkIndex_8e157_4 rfl ?_
    refine g_iload_n q_J3_checkIndex_8e157_5 rfl ?_
    refine g_icmp_lt (tgt := 16) q_J3_checkIndex_8e157_6 (by decide) ⟨by omega, by omega⟩ ⟨by omega, by omega⟩ (fun e2 => ?_) (fun e2 => ?_)
    · refine g_iload_n q_J3_checkIndex_8e157_16 rfl ?_
      exact g_ireturn q_J3_checkIndex_8e157_17.1 rfl ⟨rfl, rfl⟩
    · exact absurd e2 (by omega)
theorem sp_checkIndex0 (hΓ : Gd Γ) (i : Nat) (hi : i < n) (hn : n < 8) : Sp Γ miJ0_checkIndex_df160 0 0 [.int (ii i), .int (ii n)] σ (rv σ) noX := by
  obtain ⟨x, hx, ht⟩ := st_sio hΓ
  refine Sp_of (L := [_, _]) hΓ (by decide +kernel) rfl (Nat.le_of_ble_eq_true rfl) rfl ?_
  refine g_iload_n q_J0_checkIndex_df160_0 rfl ?_
  refine g_iload_n q_J0_checkIndex_df160_1 rfl ?_
  refine g_getstJ fs_sio ht q_J0_checkIndex_df160_2 ?_
  refine g_callS (rc' := 0) (rs' := 0) (As := [_, _, _]) cs_J0_1059 q_J0_checkIndex_df160_5 (sp_checkIndex3 hΓ i x hx hi hn) rfl rfl rfl (Nat.le_of_ble_eq_true rfl) (by decide) (by decide) (by decide) (fun _ _ h => h.elim) (k_ri ?_)
  refine g_pop q_J0_checkIndex_df160_8 rfl ?_
  exact g_return q_J0_checkIndex_df160_9.1 rfl ⟨rfl, rfl⟩
theorem c255 : ∀ b : Fin 128, ii ((b : Nat) : Int) &&& ii 255 = ii ((b : Nat) : Int) := by decide +kernel
theorem cnar : ∀ b : Fin 128, narrow .char (.int (ii ((b : Nat) : Int))) = .int (ii ((b : Nat) : Int)) := by decide +kernel
theorem sp_charAt1 (hΓ : Gd Γ) (hs : ST Γ a v n f) (hf : ∀ j, j < n → 0 ≤ f j ∧ f j < 128) (i : Nat) (hi : i < n) (hn : n < 8) : Sp Γ miJ1_charAt_3b067 0 0 [.ref v, .int (ii i)] σ (ri (f i) σ) noX := by
  obtain ⟨s1, s2, s3, s4⟩ := hs
  have hfi := hf i hi
  refine Sp_of (L := [_, _]) hΓ (by decide +kernel) rfl (Nat.le_of_ble_eq_true rfl) rfl ?_
  refine g_iload_n q_J1_charAt_3b067_0 rfl ?_
  refine g_aload_n q_J1_charAt_3b067_1 rfl ?_
  refine g_blen q_J1_charAt_3b067_2 s4 ?_
  refine g_callS (rc' := 0) (rs' := 0) (As := [_, _]) cs_J1_9 q_J1_charAt_3b067_3 (sp_checkIndex0 hΓ i hi hn) rfl rfl rfl (Nat.le_of_ble_eq_true rfl) (by decide) (by decide) (by decide) (fun _ _ h => h.elim) (k_rv ?_)
  refine g_aload_n q_J1_charAt_3b067_6 rfl ?_
  refine g_iload_n q_J1_charAt_3b067_7 rfl ?_
  refine g_bload q_J1_charAt_3b067_8 s4 (by omega) (by omega) (by omega) ?_
  obtain ⟨b, hb⟩ : ∃ b : Nat, f i = b := ⟨(f i).toNat, by omega⟩
  refine g_topi (b := (b : Int)) hb ?_
  rw [hb]
  refine g_sipush q_J1_charAt_3b067_9 sp_255 ?_
  refine g_iand q_J1_charAt_3b067_12 ?_
  refine g_top (v' := .int (ii (b : Int))) (congrArg Value.int (c255 ⟨b, by omega⟩)) ?_
  refine g_i2c q_J1_charAt_3b067_13 (by omega) (by omega) ?_
  exact g_nreturn q_J1_charAt_3b067_14.1 rfl (cnar ⟨b, by omega⟩) (Or.inr (Or.inr rfl)) ⟨rfl, rfl⟩
theorem sp_charAt (hΓ : Gd Γ) (hs : ST Γ a v n f) (hf : ∀ j, j < n → 0 ≤ f j ∧ f j < 128) (i : Nat) (hi : i < n) (hn : n < 8) : Sp Γ miJ0_charAt_5068e 0 0 [.ref a, .int (ii i)] σ (ri (f i) σ) noX := by
  have hs0 := hs
  obtain ⟨s1, s2, s3, s4⟩ := hs
  have hfi := hf i hi
  obtain ⟨b, hb⟩ : ∃ b : Nat, f i = b := ⟨(f i).toNat, by omega⟩
  refine Sp_of (L := [_, _]) hΓ (by decide +kernel) rfl (Nat.le_of_ble_eq_true rfl) rfl ?_
  refine g_aload_n q_J0_charAt_5068e_0 rfl ?_
  refine g_callVS (rc' := 0) (rs' := 0) (As := []) cs_J0_492 q_J0_charAt_5068e_1 (sp_isLatin1 hΓ hs0) rfl s1 rfl rfl (Nat.le_of_ble_eq_true rfl) (by decide) (by decide) (by decide) (fun _ _ h => h.elim) (k_ri ?_)
  refine g_if_eq (tgt := 16) q_J0_charAt_5068e_4 (by decide) ⟨by omega, by omega⟩ (fun e1 => ?_) (fun e1 => ?_)
  · exact absurd e1 (by decide)
  refine g_aload_n q_J0_charAt_5068e_7 rfl ?_
  refine g_getS fs_value s3 q_J0_charAt_5068e_8 ?_
  refine g_iload_n q_J0_charAt_5068e_11 rfl ?_
  refine g_callS (rc' := 0) (rs' := 0) (As := [_, _]) cs_J0_495 q_J0_charAt_5068e_12 (sp_charAt1 hΓ hs0 hf i hi hn) rfl rfl rfl (Nat.le_of_ble_eq_true rfl) (by decide) (by decide) (by decide) (fun _ _ h => h.elim) (k_ri ?_)
  rw [hb]
  exact g_nreturn q_J0_charAt_5068e_15.1 rfl (cnar ⟨b, by omega⟩) (Or.inr (Or.inr rfl)) ⟨rfl, rfl⟩
end STR2

