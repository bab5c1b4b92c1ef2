/-! String.coder, length, isLatin1, charAt over the constants -/
theorem fs_value : Cond.fieldLink "java/lang/String" 9 "java/lang/String" "value" "[B" ∈ GW := gw_t9 23 rfl rfl
theorem fs_coder : Cond.fieldLink "java/lang/String" 15 "java/lang/String" "coder" "B" ∈ GW := gw_t9 24 rfl rfl
theorem fs_compact : Cond.fieldLink "java/lang/String" 38 "java/lang/String" "COMPACT_STRINGS" "Z" ∈ GW := gw_t3 74 rfl rfl
theorem st_compact {Γ : GT} (hΓ : Gd Γ) : va_Z "java/lang/String" "COMPACT_STRINGS" "Z" (.int 1) (fr0 Γ) Γ.2.1 Γ.2.1.heap := by
  obtain ⟨⟨a0, h0, hn⟩, -⟩ := hΓ
  have hf := flat_of_before _ hn
  have hA : ∀ a : Nat, a < Γ.2.1.heap.size → ¬ fr0 Γ a := fun a ha => Nat.not_le.mpr ha
  exact va_Zof (h0 (.laysStatic "java/lang/String" "COMPACT_STRINGS" "Z") (by decide +kernel)) (h0 (.initialized "java/lang/String") (by decide +kernel)) (va_eqi (hf (.eq (.static "java/lang/String" "COMPACT_STRINGS" "Z") (.int 1)) (by decide +kernel))) hA
section GS2
variable {Γ : GT} {mi mi' : MI} {cc : ByteArray} {Q Q' : Option Value → AH → Prop} {QX QX' : String → AH → Prop} {rc rs rc' rs' mc ms pc pc' tgt idx : Nat} {L : List (Option Value)} {S0 S As : List Value} {σ : AH}
theorem g_getstJ {C9 nm d9 : String} {v : Value} (hlk : Cond.fieldLink mi.1.cls idx C9 nm d9 ∈ GW) (hz : va_Z C9 nm d9 v (fr0 Γ) Γ.2.1 Γ.2.1.heap) (d : De cc pc (.getstatic idx) 3 pc') (kk : G Γ mi cc Q QX rc rs pc' L (v :: S) σ) : G Γ mi cc Q QX rc rs pc L S σ := by
  intro p e R s m args below meth c H locs cells slots ls hΓ C hc hs hw hS hl
  obtain ⟨d, rfl⟩ := d
  have hk := kk p e R s m args below meth c H locs cells slots ls hΓ C hc hs hw hS hl
  have hWm := C.2.2.2.2.2.2.1
  exact va_gets C.1 C.2.1 (va_Z.kept (va_Z.moved hWm.alike hz) (g_kept C)) (g_vaS C hw hS) C.2.2.2.1 (hΓ.w hlk _ _ hWm) (fun _ h9 => h9) d hk
/-- a return of a narrow type: what fits is not changed -/
theorem g_nreturn {x : Int32} {ty : FieldType} (d : decode cc pc = .ok (.ireturn, 1)) (hr : mi.2.2.2.1 = some ty) (ha : narrow ty (.int x) = .int x) (hty : ty = .boolean ∨ ty = .byte ∨ ty = .char) (hQ : Q (some (.int x)) σ) : G Γ mi cc Q QX rc rs pc L [.int x] σ := by
  intro p e R s m args below meth c H locs cells slots ls hΓ C hc hs hw hS hl
  refine vx_ret (W.widen (k := R.cells) (n := R.slots) (by omega) (by omega) ?_)
  rcases hty with rfl | rfl | rfl
  · exact W.zret (ty := .boolean) C.1 C.2.1 (C.2.2.2.2.1.trans hr) ha (fun t ht _ => ⟨(some (.int x)), σ, rfl, hQ, by rw [ht]; exact hw, by rw [ht]; exact hS.1⟩) hS.2 d C.2.2.2.2.2.1
  · exact W.zret (ty := .byte) C.1 C.2.1 (C.2.2.2.2.1.trans hr) ha (fun t ht _ => ⟨(some (.int x)), σ, rfl, hQ, by rw [ht]; exact hw, by rw [ht]; exact hS.1⟩) hS.2 d C.2.2.2.2.2.1
  · exact W.zret (ty := .char) C.1 C.2.1 (C.2.2.2.2.1.trans hr) ha (fun t ht _ => ⟨(some (.int x)), σ, rfl, hQ, by rw [ht]; exact hw, by rw [ht]; exact hS.1⟩) hS.2 d C.2.2.2.2.2.1
end GS2
section STR
variable {Γ : GT} {σ : AH} {a v n : Nat} {f : Nat → Int}
theorem sp_coder (hΓ : Gd Γ) (hs : ST Γ a v n f) : Sp Γ miJ0_coder_7d493 0 0 [.ref a] σ (ri 0 σ) noX := by
  obtain ⟨s1, s2, s3, s4⟩ := hs
  refine Sp_of (L := [_]) hΓ (by decide +kernel) rfl (Nat.le_of_ble_eq_true rfl) rfl ?_
  refine g_getstJ fs_compact (st_compact hΓ) q_J0_coder_7d493_0 ?_
  refine g_top (v' := .int (ii 1)) rfl ?_
  refine g_if_eq (tgt := 13) q_J0_coder_7d493_3 (by decide) ⟨by omega, by omega⟩ (fun e1 => ?_) (fun e1 => ?_)
  · exact absurd e1 (by decide)
  refine g_aload_n q_J0_coder_7d493_6 rfl ?_
  refine g_getS fs_coder s2 q_J0_coder_7d493_7 ?_
  refine g_goto (tgt := 14) q_J0_coder_7d493_10 (by decide) ?_
  exact g_nreturn q_J0_coder_7d493_14.1 rfl (by decide) (Or.inr (Or.inl rfl)) ⟨rfl, rfl⟩
theorem sp_isLatin1 (hΓ : Gd Γ) (hs : ST Γ a v n f) : Sp Γ miJ0_isLatin1_aae02 0 0 [.ref a] σ (ri 1 σ) noX := by
  obtain ⟨s1, s2, s3, s4⟩ := hs
  refine Sp_of (L := [_]) hΓ (by decide +kernel) rfl (Nat.le_of_ble_eq_true rfl) rfl ?_
  refine g_getstJ fs_compact (st_compact hΓ) q_J0_isLatin1_aae02_0 ?_
  refine g_top (v' := .int (ii 1)) rfl ?_
  refine g_if_eq (tgt := 17) q_J0_isLatin1_aae02_3 (by decide) ⟨by omega, by omega⟩ (fun e1 => ?_) (fun e1 => ?_)
  · exact absurd e1 (by decide)
  refine g_aload_n q_J0_isLatin1_aae02_6 rfl ?_
  refine g_getS fs_coder s2 q_J0_isLatin1_aae02_7 ?_
  refine g_top (v' := .int (ii 0)) rfl ?_
  refine g_if_ne (tgt := 17) q_J0_isLatin1_aae02_10 (by decide) ⟨by omega, by omega⟩ (fun e2 => ?_) (fun e2 => ?_)
  · exact absurd rfl e2
  refine g_iconst q_J0_isLatin1_aae02_13 ?_
  refine g_goto (tgt := 18) q_J0_isLatin1_aae02_14 (by decide) ?_
  exact g_nreturn q_J0_isLatin1_aae02_18.1 rfl (by decide) (Or.inl rfl) ⟨rfl, rfl⟩
theorem shr0 : ∀ m : Fin 8, ii ((m : Nat) : Int) >>> (ii 0 &&& 31) = ii ((m : Nat) : Int) := by decide
theorem sp_length (hΓ : Gd Γ) (hs : ST Γ a v n f) (hn : n < 8) : Sp Γ miJ0_length_8abf5 0 0 [.ref a] σ (ri n σ) noX := by
  have hs0 := hs
  obtain ⟨s1, s2, s3, s4⟩ := hs
  refine Sp_of (L := [_]) hΓ (by decide +kernel) rfl (Nat.le_of_ble_eq_true rfl) rfl ?_
  refine g_aload_n q_J0_length_8abf5_0 rfl ?_
  refine g_getS fs_value s3 q_J0_length_8abf5_1 ?_
  refine g_blen q_J0_length_8abf5_4 s4 ?_
  refine g_aload_n q_J0_length_8abf5_5 rfl ?_
  refine g_callVS (rc' := 0) (rs' := 0) (As := []) cs_J0_335 q_J0_length_8abf5_6 (sp_coder hΓ hs0) rfl s1 rfl rfl (Nat.le_of_ble_eq_true rfl) (by decide) (by decide) (by decide) (fun _ _ h => h.elim) (k_ri ?_)
  refine g_ishr q_J0_length_8abf5_9 ?_
  refine g_top (v' := .int (ii n)) (congrArg Value.int (shr0 ⟨n, hn⟩)) ?_
  exact g_ireturn q_J0_length_8abf5_10.1 rfl ⟨rfl, rfl⟩
end STR

