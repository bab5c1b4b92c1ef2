/-! String.indexOf over the constants, the rest -/
theorem mw_min : Cond.static Lib.Math.min.name ∈ GW ∧ Cond.initialized "java/lang/Math" ∈ GW ∧ Cond.code Lib.Math.min.name Lib.Math.min.code 2 (some .int) ∈ GW := ⟨gw_750, gw_148, gw_751⟩
section STR6
variable {Γ : GT} {mi : MI} {cc : ByteArray} {Q : Option Value → AH → Prop} {QX : String → AH → Prop} {rc rs pc pc' idx : Nat} {L : List (Option Value)} {S : List Value} {σ : AH}
theorem g_minE {a : Int} (hlk : Cond.methodLink mi.1.cls idx Lib.Math.min.name ∈ GW) (d : De cc pc (.invokestatic idx) 3 pc') (hR : 1 ≤ mi.2.2.2.2.1 ∧ 25 ≤ mi.2.2.2.2.2.1) (hcat : (S.map fun v => v.category).sum ≤ 8) (kk : G Γ mi cc Q QX rc rs pc' L (.int (ii a) :: S) σ) : G Γ mi cc Q QX rc rs pc L (.int (ii a) :: .int (ii a) :: S) σ := by
  intro p e R s m args below meth c H locs cells slots ls hΓ C hc hs hw hS hl
  obtain ⟨d, rfl⟩ := d
  have hk := kk p e R s m args below meth c H locs cells slots ls hΓ C hc hs hw hS hl
  have hWm := C.2.2.2.2.2.2.1
  have hR2 := C.2.2.2.2.2.2.2.1
  refine va_mmin C.1 C.2.1 (C.2.2.1.trans hl.2.1.symm) C.2.2.2.1 (hΓ.w hlk _ _ hWm) (hΓ.w mw_min.1 _ _ hWm) (hΓ.w mw_min.2.1 _ _ hWm) (hΓ.w mw_min.2.2 _ _ hWm) (by omega) (by omega) (by omega) (by omega) d ?_
  rw [ite_self]
  exact hk
end STR6
section STR7
variable {Γ : GT} {σ : AH} {a v n : Nat} {f : Nat → Int}
theorem sp_indexOf1 (hΓ : Gd Γ) (hs : ST Γ a v n f) (hf : ∀ j, j < n → 0 ≤ f j ∧ f j < 128) (hn : 0 < n ∧ n < 8) (c : Int) (hc : 0 ≤ c ∧ c < 256) : Sp Γ miJ1_indexOf_4cfef 0 0 [.ref v, .int (ii c), .int (ii 0), .int (ii n)] σ (ri (fstN (fun k => decide (f k = c)) n) σ) noX := by
  have hs0 := hs
  obtain ⟨s1, s2, s3, s4⟩ := hs
  refine Sp_of (L := [_, _, _, _]) hΓ (by decide +kernel) rfl (Nat.le_of_ble_eq_true rfl) rfl ?_
  refine g_iload_n q_J1_indexOf_4cfef_0 rfl ?_
  refine g_callS (rc' := 0) (rs' := 0) (As := [_]) cs_J1_88 q_J1_indexOf_4cfef_1 (sp_canEncode hΓ c hc) rfl rfl rfl (Nat.le_of_ble_eq_true rfl) (by decide) (by decide) (by decide) (fun _ _ h => h.elim) (k_ri ?_)
  refine g_if_ne (tgt := 9) q_J1_indexOf_4cfef_4 (by decide) ⟨by omega, by omega⟩ (fun e1 => ?_) (fun e1 => ?_)
  · refine g_iload_n q_J1_indexOf_4cfef_9 rfl ?_
    refine g_iconst q_J1_indexOf_4cfef_10 ?_
    refine g_max gw_746 q_J1_indexOf_4cfef_11 (by decide) (Nat.le_of_ble_eq_true rfl) ⟨by omega, by omega⟩ ⟨by omega, by omega⟩ ?_
    refine g_topi (b := 0) rfl ?_
    refine g_istore_n (L' := [_, _, _, _]) q_J1_indexOf_4cfef_14 (by decide) rfl ?_
    refine g_iload_n q_J1_indexOf_4cfef_15 rfl ?_
    refine g_aload_n q_J1_indexOf_4cfef_16 rfl ?_
    refine g_blen q_J1_indexOf_4cfef_17 s4 ?_
    refine g_minE gw_749 q_J1_indexOf_4cfef_18 (by decide) (Nat.le_of_ble_eq_true rfl) ?_
    refine g_istore_n (L' := [_, _, _, _]) q_J1_indexOf_4cfef_21 (by decide) rfl ?_
    refine g_iload_n q_J1_indexOf_4cfef_22 rfl ?_
    refine g_iload_n q_J1_indexOf_4cfef_23 rfl ?_
    refine g_icmp_lt (tgt := 29) q_J1_indexOf_4cfef_24 (by decide) ⟨by omega, by omega⟩ ⟨by omega, by omega⟩ (fun e2 => ?_) (fun e2 => ?_)
    · refine g_aload_n q_J1_indexOf_4cfef_29 rfl ?_
      refine g_iload_n q_J1_indexOf_4cfef_30 rfl ?_
      refine g_iload_n q_J1_indexOf_4cfef_31 rfl ?_
      refine g_iload_n q_J1_indexOf_4cfef_32 rfl ?_
      refine g_callS (rc' := 0) (rs' := 0) (As := [_, _, _, _]) cs_J1_95 q_J1_indexOf_4cfef_33 (sp_indexOfChar hΓ hs0 hf hn.2 c hc) rfl rfl rfl (Nat.le_of_ble_eq_true rfl) (by decide) (by decide) (by decide) (fun _ _ h => h.elim) (k_ri ?_)
      exact g_ireturn q_J1_indexOf_4cfef_36.1 rfl ⟨rfl, rfl⟩
    · exact absurd e2 (by omega)
  · exact absurd e1 (by decide)
theorem sp_indexOf0 (hΓ : Gd Γ) (hs : ST Γ a v n f) (hf : ∀ j, j < n → 0 ≤ f j ∧ f j < 128) (hn : 0 < n ∧ n < 8) (c : Int) (hc : 0 ≤ c ∧ c < 256) : Sp Γ miJ0_indexOf_7cf53 0 0 [.ref a, .int (ii c), .int (ii 0)] σ (ri (fstN (fun k => decide (f k = c)) n) σ) noX := by
  have hs0 := hs
  obtain ⟨s1, s2, s3, s4⟩ := hs
  refine Sp_of (L := [_, _, _]) hΓ (by decide +kernel) rfl (Nat.le_of_ble_eq_true rfl) rfl ?_
  refine g_aload_n q_J0_indexOf_7cf53_0 rfl ?_
  refine g_callVS (rc' := 0) (rs' := 0) (As := []) cs_J0_492 q_J0_indexOf_7cf53_1 (sp_isLatin1 hΓ hs0) rfl s1 rfl rfl (Nat.le_of_ble_eq_true rfl) (by decide) (by decide) (by decide) (fun _ _ h => h.elim) (k_ri ?_)
  refine g_if_eq (tgt := 23) q_J0_indexOf_7cf53_4 (by decide) ⟨by omega, by omega⟩ (fun e1 => ?_) (fun e1 => ?_)
  · exact absurd e1 (by decide)
  refine g_aload_n q_J0_indexOf_7cf53_7 rfl ?_
  refine g_getS fs_value s3 q_J0_indexOf_7cf53_8 ?_
  refine g_iload_n q_J0_indexOf_7cf53_11 rfl ?_
  refine g_iload_n q_J0_indexOf_7cf53_12 rfl ?_
  refine g_aload_n q_J0_indexOf_7cf53_13 rfl ?_
  refine g_callVS (rc' := 0) (rs' := 0) (As := []) cs_J0_505 q_J0_indexOf_7cf53_14 (sp_length hΓ hs0 hn.2) rfl s1 rfl rfl (Nat.le_of_ble_eq_true rfl) (by decide) (by decide) (by decide) (fun _ _ h => h.elim) (k_ri ?_)
  refine g_callS (rc' := 0) (rs' := 0) (As := [_, _, _, _]) cs_J0_637 q_J0_indexOf_7cf53_17 (sp_indexOf1 hΓ hs0 hf hn c hc) rfl rfl rfl (Nat.le_of_ble_eq_true rfl) (by decide) (by decide) (by decide) (fun _ _ h => h.elim) (k_ri ?_)
  refine g_goto (tgt := 36) q_J0_indexOf_7cf53_20 (by decide) ?_
  exact g_ireturn q_J0_indexOf_7cf53_36.1 rfl ⟨rfl, rfl⟩
theorem sp_sindexOf (hΓ : Gd Γ) (hs : ST Γ a v n f) (hf : ∀ j, j < n → 0 ≤ f j ∧ f j < 128) (hn : 0 < n ∧ n < 8) (c : Int) (hc : 0 ≤ c ∧ c < 256) : Sp Γ miJ0_indexOf_0f7a4 0 0 [.ref a, .int (ii c)] σ (ri (fstN (fun k => decide (f k = c)) n) σ) noX := by
  refine Sp_of (L := [_, _]) hΓ (by decide +kernel) rfl (Nat.le_of_ble_eq_true rfl) rfl ?_
  refine g_aload_n q_J0_indexOf_0f7a4_0 rfl ?_
  refine g_iload_n q_J0_indexOf_0f7a4_1 rfl ?_
  refine g_iconst q_J0_indexOf_0f7a4_2 ?_
  refine g_callVS (rc' := 0) (rs' := 0) (As := [_, _]) cs_J0_633 q_J0_indexOf_0f7a4_3 (sp_indexOf0 hΓ hs hf hn c hc) rfl hs.1 rfl rfl (Nat.le_of_ble_eq_true rfl) (by decide) (by decide) (by decide) (fun _ _ h => h.elim) (k_ri ?_)
  exact g_ireturn q_J0_indexOf_0f7a4_6.1 rfl ⟨rfl, rfl⟩
end STR7

