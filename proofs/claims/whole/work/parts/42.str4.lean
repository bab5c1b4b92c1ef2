/-! String.indexOf over the constants -/
section STR4
variable {Γ : GT} {mi : MI} {cc : ByteArray} {Q : Option Value → AH → Prop} {QX : String → AH → Prop} {rc rs pc pc' : Nat} {L : List (Option Value)} {S : List Value} {σ : AH}
theorem g_i2b {x y : Int32} (d : De cc pc (.i2b) 1 pc') (h : x.toInt8.toInt32 = y) (kk : G Γ mi cc Q QX rc rs pc' L (.int y :: S) σ) : G Γ mi cc Q QX rc rs pc L (.int x :: S) σ := by
  intro p e R s m args below meth c H locs cells slots ls hΓ C hc hs hw hS hl
  obtain ⟨d, rfl⟩ := d
  have hk := kk p e R s m args below meth c H locs cells slots ls hΓ C hc hs hw hS hl
  exact lv_i2b C.1 C.2.1 d h hk
theorem i2b_256 : ∀ b : Fin 256, (ii ((b : Nat) : Int)).toInt8.toInt32 = ii (if (b : Nat) < 128 then ((b : Nat) : Int) else ((b : Nat) : Int) - 256) := by decide +kernel
end STR4
section STR5
variable {Γ : GT} {σ : AH} {a v n : Nat} {f : Nat → Int}
theorem sp_canEncode (hΓ : Gd Γ) (c : Int) (hc : 0 ≤ c ∧ c < 256) : Sp Γ miJ1_canEncode_9a6ad 0 0 [.int (ii c)] σ (ri 1 σ) noX := by
  refine Sp_of (L := [_]) hΓ (by decide +kernel) rfl (Nat.le_of_ble_eq_true rfl) rfl ?_
  refine g_iload_n q_J1_canEncode_9a6ad_0 rfl ?_
  refine g_if_lt (tgt := 15) q_J1_canEncode_9a6ad_1 (by decide) ⟨by omega, by omega⟩ (fun e1 => ?_) (fun e1 => ?_)
  · exact absurd e1 (by omega)
  refine g_iload_n q_J1_canEncode_9a6ad_4 rfl ?_
  refine g_sipush q_J1_canEncode_9a6ad_5 sp_255 ?_
  refine g_icmp_gt (tgt := 15) q_J1_canEncode_9a6ad_8 (by decide) ⟨by omega, by omega⟩ ⟨by omega, by omega⟩ (fun e2 => ?_) (fun e2 => ?_)
  · exact absurd e2 (by omega)
  refine g_iconst q_J1_canEncode_9a6ad_11 ?_
  refine g_goto (tgt := 16) q_J1_canEncode_9a6ad_12 (by decide) ?_
  exact g_nreturn q_J1_canEncode_9a6ad_16.1 rfl (by decide) (Or.inl rfl) ⟨rfl, rfl⟩
theorem sp_indexOfChar (hΓ : Gd Γ) (hs : ST Γ a v n f) (hf : ∀ j, j < n → 0 ≤ f j ∧ f j < 128) (hn : n < 8) (c : Int) (hc : 0 ≤ c ∧ c < 256) : Sp Γ miJ1_indexOfChar_4cfef 0 0 [.ref v, .int (ii c), .int (ii 0), .int (ii n)] σ (ri (fstN (fun k => decide (f k = c)) n) σ) noX := by
  obtain ⟨s1, s2, s3, s4⟩ := hs
  obtain ⟨b, hb⟩ : ∃ b : Nat, c = b := ⟨c.toNat, by omega⟩
  obtain ⟨z, hz⟩ : ∃ z : Int, z = if b < 128 then (b : Int) else (b : Int) - 256 := ⟨_, rfl⟩
  have hzr : rg z := by rw [hz]; split <;> exact ⟨by omega, by omega⟩
  have hiff : ∀ k, k < n → (f k = z ↔ f k = c) := fun k hk => by
    have := hf k hk
    rw [hz, hb]
    split <;> omega
  have hcz : (ii c).toInt8.toInt32 = ii z := by rw [hb, hz]; exact i2b_256 ⟨b, by omega⟩
  refine Sp_of (L := [_, _, _, _, _, _]) hΓ (by decide +kernel) rfl (Nat.le_of_ble_eq_true rfl) rfl ?_
  refine g_iload_n q_J1_indexOfChar_4cfef_0 rfl ?_
  refine g_i2b q_J1_indexOfChar_4cfef_1 hcz ?_
  refine g_istore (L' := [_, _, _, _, _, _]) q_J1_indexOfChar_4cfef_2 (by decide) rfl ?_
  refine g_iload_n q_J1_indexOfChar_4cfef_4 rfl ?_
  refine g_istore (L' := [_, _, _, _, _, _]) q_J1_indexOfChar_4cfef_5 (by decide) rfl ?_
  refine g_loop (fun k => k ≤ n ∧ ∀ j, j < k → f j ≠ c) (fun k : Nat => G Γ _ cJ1_indexOfChar_4cfef _ _ 0 0 7 [some (.ref v), some (.int (ii c)), some (.int (ii 0)), some (.int (ii n)), some (.int (ii z)), some (.int (ii k))] [] σ) (fun k => n - k) ?_ 0 ⟨Nat.zero_le _, fun j hj => absurd hj (Nat.not_lt_zero j)⟩
  intro k ⟨hk, hno⟩ ih
  refine g_iload q_J1_indexOfChar_4cfef_7 rfl ?_
  refine g_iload_n q_J1_indexOfChar_4cfef_9 rfl ?_
  refine g_icmp_ge (tgt := 31) q_J1_indexOfChar_4cfef_10 (by decide) ⟨by omega, by omega⟩ ⟨by omega, by omega⟩ (fun e1 => ?_) (fun e1 => ?_)
  · refine g_iconst q_J1_indexOfChar_4cfef_31 ?_
    refine g_ireturn q_J1_indexOfChar_4cfef_32.1 rfl ⟨?_, rfl⟩
    rw [fstN_none fun j hj => decide_eq_false (hno j (by omega))]
  have hfk := hf k (by omega)
  refine g_aload_n q_J1_indexOfChar_4cfef_13 rfl ?_
  refine g_iload q_J1_indexOfChar_4cfef_14 rfl ?_
  refine g_bload q_J1_indexOfChar_4cfef_16 s4 (by omega) (by omega) (by omega) ?_
  refine g_topi (b := f k) rfl ?_
  refine g_iload q_J1_indexOfChar_4cfef_17 rfl ?_
  refine g_icmp_ne (tgt := 25) q_J1_indexOfChar_4cfef_19 (by decide) ⟨by omega, by omega⟩ hzr (fun e2 => ?_) (fun e2 => ?_)
  · refine g_iinc (L' := [_, _, _, _, _, _]) q_J1_indexOfChar_4cfef_25 rfl rfl ?_
    refine g_goto (tgt := 7) q_J1_indexOfChar_4cfef_28 (by decide) ?_
    exact ih (k + 1) ⟨by omega, fun j hj => by
      rcases Nat.lt_or_ge j k with q | q
      · exact hno j q
      · rw [show j = k by omega]; exact fun q2 => e2 ((hiff k (by omega)).mpr q2)⟩ (by omega)
  · refine g_iload q_J1_indexOfChar_4cfef_22 rfl ?_
    refine g_ireturn q_J1_indexOfChar_4cfef_24.1 rfl ⟨?_, rfl⟩
    rw [fstN_some (k := k) (by omega) (decide_eq_true ((hiff k (by omega)).mp e2)) fun j hj => decide_eq_false (hno j hj)]
end STR5

