/-! the reference: tell -/
section MT
variable {Γ : GT} {σ σ' : AH} {m : Nat} {I J : Nat → Int} {A A' : Nat → Nat → Int} {N : Nat → Nat → BitVec 64} {len : Nat} {tx : Nat → Int} {fa e0 : Int} {z : PS} {l : List (Int × Int × Int)} {wl : Nat} {wr : Nat → Int}
theorem MC.putA (h : MC σ m I A N) (k : Nat) (h1 : 1 ≤ k) (f : Nat → Int) : MC (hput σ (m + k) (mar k f (N k))) m I (va_up A k f) N := by
  refine ⟨(hput_n _ _ (by omega)).trans h.1, fun j q1 q2 => ?_⟩
  by_cases e : j = k
  · subst e
    rw [va_eq]
    exact hput_s _ _ _
  · rw [va_ne e, hput_n _ _ (by omega)]
    exact h.2 j q1 q2
/-- an answer, with one state for an answer and one for a throw -/
def mQ2 (e : Nat) (a : Int) (S S' : AH → Prop) : Option Value → AH → Prop := fun r σ' => r = some (.int (ii (if e = 0 then a else 0))) ∧ (e = 0 → S σ') ∧ (e ≠ 0 → S' σ')
theorem tkn_cg {n : Nat} {P P' Q Q' : Nat → Int} {c : Int} (h : ∀ k, k < n → P k = P' k ∧ Q k = Q' k) : tkn n P Q c = tkn n P' Q' c := by
  unfold tkn
  have e : (∃ k, k < n ∧ (P k = c ∨ Q k = c)) ↔ ∃ k, k < n ∧ (P' k = c ∨ Q' k = c) := ⟨fun ⟨k, q1, q2⟩ => ⟨k, q1, by rw [← (h k q1).1, ← (h k q1).2]; exact q2⟩, fun ⟨k, q1, q2⟩ => ⟨k, q1, by rw [(h k q1).1, (h k q1).2]; exact q2⟩⟩
  by_cases q : ∃ k, k < n ∧ (P k = c ∨ Q k = c)
  · rw [decide_eq_true q, decide_eq_true (e.mp q)]
  · rw [decide_eq_false q, decide_eq_false (fun x => q (e.mpr x))]
/-- an act is done -/
theorem MW.act (hW : MW I A N len tx fa z l wl wr) {z' : PS} {q : Int × Int × Int} (hw' : WFz z') (hq : okq q) (hu : udo z' q = z) (hz' : MZ J A' z') (hJ : ∀ k, k ≠ 0 → k ≠ 20 → k ≠ 33 → J k = I k) (j20 : J 20 = ((rmA l.length + 1 : Nat) : Int)) (j33 : J 33 = -1) (hA : ∀ k, k ≠ 6 → k ≠ 9 → k ≠ 10 → A' k = A k) (a10 : A' 10 = rmN (rmP (A 10) l.length) (A 6) (A 9) (rmA l.length)) : MW J A' N len tx fa z' (kpl l q) wl wr := by
  obtain ⟨a1, a2, ⟨a3, a3w⟩, a4, ⟨b1, b2, b3, b4⟩, a6, a7, a8⟩ := hW
  have hn : zCa z = zCa z' ∧ zLE z = zLE z' ∧ zNL z = zNL z' := by rw [← hu]; exact ⟨rfl, rfl, rfl⟩
  obtain ⟨p1, p2⟩ := mPa_kpl (q := q) b2 b4 a3w hu a3.2.1 a3.2.2.1 (fun k hk => (a3.2.2.2 k hk).2)
  refine ⟨?_, ?_, ⟨hz', hw'⟩, ?_, ⟨?_, ?_, okA_kpl b3 a3w hq hu, ?_⟩, Or.inl j33, ?_, ?_⟩
  · rw [hJ 2 (by omega) (by omega) (by omega), hA 1 (by omega) (by omega) (by omega), hA 2 (by omega) (by omega) (by omega)]; exact a1
  · rw [hJ 5 (by omega) (by omega) (by omega)]; exact a2
  · rw [← hn.1, ← hn.2.1, ← hn.2.2]; exact a4
  · rw [j20, p2]
  · rw [p2]
    unfold rmA
    split <;> omega
  · rw [a10]; exact p1
  · rw [hJ 55 (by omega) (by omega) (by omega), hA 33 (by omega) (by omega) (by omega)]; exact a7
  · rw [hA 16 (by omega) (by omega) (by omega)]; exact a8
theorem sp_mtell (hΓ : Gd Γ) (hX : MX σ m e0 len tx fa z l wl wr) (a b s : Int) (ha : rg a) (hb : rg b) (hs : rg s) : Sp Γ miX10_tell 0 0 [.ref m, .int (ii a), .int (ii b), .int (ii s)] σ (mQ2 (eTell z a b s) (zSO z (6 * b + a).toNat) (SM σ m 0 len tx fa (sZ z (va_up (zSO z) (6 * b + a).toNat s) (zGO z)) (kpl l (0, 6 * b + a, zSO z (6 * b + a).toNat)) wl wr) (SM σ m (eTell z a b s) len tx fa z l wl wr)) noX := by
  obtain ⟨I, A, N, -, h, hW⟩ := hX
  have h0 := h.1
  have hz := hW.2.2.1.1
  have wf := hW.2.2.1.2
  have c6 := wf.1.1.1
  have r6 := wf.1.1.2.1
  have n5 := wf.1.1.2.2
  have h6 := h.a6
  have h8 := h.a8
  have h9 := h.a9
  have h10 := h.a10
  have hac := hW.2.2.2.2.1
  have bad : ∀ e : Nat, e ≠ 0 → e < 4 → eTell z a b s = e → G Γ miX10_tell cX10_tell (mQ2 (eTell z a b s) (zSO z (6 * b + a).toNat) (SM σ m 0 len tx fa (sZ z (va_up (zSO z) (6 * b + a).toNat s) (zGO z)) (kpl l (0, 6 * b + a, zSO z (6 * b + a).toNat)) wl wr) (SM σ m (eTell z a b s) len tx fa z l wl wr)) noX 0 0 50 [some (.ref m), some (.int (ii a)), some (.int (ii b)), some (.int (ii s)), none] [.int (ii (e : Int)), .ref m] σ := by
    intro e he he4 hE
    refine g_putM fp_X10_122 q_X10_tell_50 (by repeat first | with_reducible assumption | with_reducible exact hput_s _ _ _ | refine (hput_n _ _ (by omega)).trans ?_ | exact hput_s _ _ _ | assumption) rfl rfl mset_0 ?_
    refine g_aload_n q_X10_tell_53 rfl ?_
    refine g_get fl_X10_122 q_X10_tell_54 (by repeat first | with_reducible assumption | with_reducible exact hput_s _ _ _ | refine (hput_n _ _ (by omega)).trans ?_ | exact hput_s _ _ _ | assumption) rfl ?_
    refine g_topi (b := (e : Int)) (by rfl) ?_
    refine g_if_le (tgt := 62) q_X10_tell_57 (by decide) ⟨by omega, by omega⟩ (fun b9 => ?_) (fun b9 => ?_)
    case refine_1 => exact absurd b9 (by omega)
    refine g_iconst q_X10_tell_60 ?_
    refine g_ireturn q_X10_tell_61.1 rfl ?_
    rw [hE]
    exact ⟨by rw [if_neg he], fun q => absurd q he, fun _ => SM.t h hW e⟩
  refine Sp_of (L := [_, _, _, _, _]) hΓ (by decide +kernel) rfl (Nat.le_of_ble_eq_true rfl) rfl ?_
  refine g_aload_n q_X10_tell_0 rfl ?_
  refine g_aload_n q_X10_tell_1 rfl ?_
  refine g_iload_n q_X10_tell_2 rfl ?_
  refine g_iload_n q_X10_tell_3 rfl ?_
  refine g_callV (rc' := 0) (rs' := 0) (As := [_, _]) cs_X10_233 q_X10_tell_4 (sp_isCell hΓ h0 hz.1.1 hz.1.2.1 c6 r6 a b ha hb) rfl (by repeat first | with_reducible assumption | with_reducible exact hput_s _ _ _ | refine (hput_n _ _ (by omega)).trans ?_ | exact hput_s _ _ _ | assumption) rfl rfl rfl rfl (Nat.le_of_ble_eq_true rfl) (by decide) (by decide) (by decide) (fun _ _ h => h.elim) (k_rb ?_)
  refine g_if_ne (tgt := 14) q_X10_tell_7 (by decide) (bi_rg _) (fun b1 => ?_) (fun b1 => ?_)
  case refine_2 =>
    have hf := of_decide_eq_false (bi_f (show bi (decide (0 ≤ a ∧ a < zCo z ∧ 0 ≤ b ∧ b < zRo z)) = 0 by omega))
    have e1 : eTell z a b s = 1 := if_pos hf
    refine g_iconst q_X10_tell_10 ?_
    refine g_goto (tgt := 50) q_X10_tell_11 (by decide) ?_
    exact bad 1 (by decide) (by decide) e1
  have hxy := of_decide_eq_true (bi_t b1)
  obtain ⟨c, hc⟩ : ∃ c : Nat, 6 * b + a = c := ⟨(6 * b + a).toNat, by omega⟩
  have hgi : gIn (zCo z) (zRo z) c := ⟨by omega, by omega⟩
  have c36 := gIn_36 r6 hgi
  refine g_iload_n q_X10_tell_14 rfl ?_
  refine g_iconst q_X10_tell_15 ?_
  refine g_iconst q_X10_tell_16 ?_
  refine g_callS (rc' := 0) (rs' := 0) (As := [_, _, _]) cs_X10_229 q_X10_tell_17 (sp_isIn hΓ s 0 5 hs ⟨by decide, by decide⟩ ⟨by decide, by decide⟩) rfl rfl rfl (Nat.le_of_ble_eq_true rfl) (by decide) (by decide) (by decide) (fun _ _ h => h.elim) (k_rb ?_)
  refine g_if_ne (tgt := 27) q_X10_tell_20 (by decide) (bi_rg _) (fun b2 => ?_) (fun b2 => ?_)
  case refine_2 =>
    have hf := of_decide_eq_false (bi_f (show bi (decide (0 ≤ s ∧ s ≤ 5)) = 0 by omega))
    have e1 : eTell z a b s = 2 := by unfold eTell; rw [if_neg (fun q => q hxy), if_pos (by omega)]
    refine g_iconst q_X10_tell_23 ?_
    refine g_goto (tgt := 50) q_X10_tell_24 (by decide) ?_
    exact bad 2 (by decide) (by decide) e1
  have hs5 := of_decide_eq_true (bi_t b2)
  have ok : (s = 1 → tkn (zCa z) (zPL z) (zGO z) c = false) → G Γ miX10_tell cX10_tell (mQ2 (eTell z a b s) (zSO z (6 * b + a).toNat) (SM σ m 0 len tx fa (sZ z (va_up (zSO z) (6 * b + a).toNat s) (zGO z)) (kpl l (0, 6 * b + a, zSO z (6 * b + a).toNat)) wl wr) (SM σ m (eTell z a b s) len tx fa z l wl wr)) noX 0 0 49 [some (.ref m), some (.int (ii a)), some (.int (ii b)), some (.int (ii s)), none] [.ref m] σ := by
    intro ht
    have e1 : eTell z a b s = 0 := by
      unfold eTell
      rw [if_neg (fun q => q hxy), if_neg (by omega), hc, if_neg (fun q => by rw [ht q.1] at q; cases q.2)]
    have hM1 := h.putI (va_up I 0 ((0 : Nat) : Int))
    have hM2 := (hM1.putA 10 (by omega) (rmN (rmP (A 10) l.length) (A 6) (A 9) (rmA l.length))).putI (va_up (va_up (va_up I 0 ((0 : Nat) : Int)) 20 ((rmA l.length + 1 : Nat) : Int)) 33 (-1))
    have h02 := hM2.1
    have h62 := hM2.a6
    have hso : A 6 c = zSO z c := hz.2.2.1 c hgi
    refine g_iconst q_X10_tell_49 ?_
    refine g_putM fp_X10_122 q_X10_tell_50 (by repeat first | with_reducible assumption | with_reducible exact hput_s _ _ _ | refine (hput_n _ _ (by omega)).trans ?_ | exact hput_s _ _ _ | assumption) rfl rfl mset_0 ?_
    refine g_aload_n q_X10_tell_53 rfl ?_
    refine g_get fl_X10_122 q_X10_tell_54 (by repeat first | with_reducible assumption | with_reducible exact hput_s _ _ _ | refine (hput_n _ _ (by omega)).trans ?_ | exact hput_s _ _ _ | assumption) rfl ?_
    refine g_topi (b := (0 : Int)) (by rfl) ?_
    refine g_if_le (tgt := 62) q_X10_tell_57 (by decide) ⟨by omega, by omega⟩ (fun b9 => ?_) (fun b9 => ?_)
    case refine_2 => exact absurd b9 (by decide)
    refine g_aload_n q_X10_tell_62 rfl ?_
    refine g_callV (rc' := 0) (rs' := 0) (As := []) cs_X10_247 q_X10_tell_63 (sp_remembers hΓ hM1.1 hM1.a6 hM1.a9 hM1.a10 l.length hac.2.1 hac.1) rfl (by repeat first | with_reducible assumption | with_reducible exact hput_s _ _ _ | refine (hput_n _ _ (by omega)).trans ?_ | exact hput_s _ _ _ | assumption) rfl rfl rfl rfl (Nat.le_of_ble_eq_true rfl) (by decide) (by decide) (by decide) (fun _ _ h => h.elim) (k_rv ?_)
    refine g_aload_n q_X10_tell_66 rfl ?_
    refine g_get fl_X10_30 q_X10_tell_67 (by repeat first | with_reducible assumption | with_reducible exact hput_s _ _ _ | refine (hput_n _ _ (by omega)).trans ?_ | exact hput_s _ _ _ | assumption) rfl ?_
    refine g_bipush q_X10_tell_70 bp_6 ?_
    refine g_iload_n q_X10_tell_72 rfl ?_
    refine g_imul q_X10_tell_73 ?_
    refine g_iload_n q_X10_tell_74 rfl ?_
    refine g_iadd q_X10_tell_75 ?_
    refine g_topi (b := (c : Int)) (by exact hc) ?_
    refine g_iaload q_X10_tell_76 (by repeat first | with_reducible assumption | with_reducible exact hput_s _ _ _ | refine (hput_n _ _ (by omega)).trans ?_ | exact hput_s _ _ _ | assumption) (by omega) (by omega) ?_
    refine g_topi (b := A 6 c) (by rfl) ?_
    refine g_istore (L' := [_, _, _, _, _]) q_X10_tell_77 (by decide) rfl ?_
    refine g_aload_n q_X10_tell_79 rfl ?_
    refine g_get fl_X10_30 q_X10_tell_80 (by repeat first | with_reducible assumption | with_reducible exact hput_s _ _ _ | refine (hput_n _ _ (by omega)).trans ?_ | exact hput_s _ _ _ | assumption) rfl ?_
    refine g_bipush q_X10_tell_83 bp_6 ?_
    refine g_iload_n q_X10_tell_85 rfl ?_
    refine g_imul q_X10_tell_86 ?_
    refine g_iload_n q_X10_tell_87 rfl ?_
    refine g_iadd q_X10_tell_88 ?_
    refine g_topi (b := (c : Int)) (by exact hc) ?_
    refine g_iload_n q_X10_tell_89 rfl ?_
    refine g_iastore q_X10_tell_90 (by repeat first | with_reducible assumption | with_reducible exact hput_s _ _ _ | refine (hput_n _ _ (by omega)).trans ?_ | exact hput_s _ _ _ | assumption) (by omega) (by omega) ?_
    refine g_iload q_X10_tell_91 rfl ?_
    refine g_ireturn q_X10_tell_93.1 rfl ?_
    rw [e1, hc, Int.toNat_natCast]
    refine ⟨by rw [if_pos rfl, hso], fun _ => ⟨⟨va_up (va_up (va_up I 0 ((0 : Nat) : Int)) 20 ((rmA l.length + 1 : Nat) : Int)) 33 (-1), _, N, rfl, hM2.putA 6 (by omega) (va_up (A 6) c s), ?_⟩, ?_⟩, fun q => absurd rfl q⟩
    · refine hW.act (wf_tell wf ⟨hs5.1, by omega⟩ ht) (Or.inl ⟨rfl, by show (0 : Int) ≤ (c : Int); omega, by show (c : Int) < 36; omega⟩) ?_ ?_ (fun k q1 q2 q3 => by rw [va_ne q3, va_ne q2, va_ne q1]) rfl rfl (fun k q1 q2 q3 => by rw [va_ne q1, va_ne q3]) rfl
      · show sZ z (va_up (va_up (zSO z) c s) (c : Int).toNat (zSO z c)) (zGO z) = z
        rw [Int.toNat_natCast, up_back]
        rfl
      · refine ⟨hz.1, fun k => ?_, fun d hd => ?_, hz.2.2.2⟩
        · show 0 ≤ va_up (A 6) c s k ∧ va_up (A 6) c s k < 6
          by_cases e : k = c
          · rw [e, va_eq]; omega
          · rw [va_ne e]; exact hz.2.1 k
        · show va_up (A 6) c s d = va_up (zSO z) c s d
          by_cases e : d = c
          · rw [e, va_eq, va_eq]
          · rw [va_ne e, va_ne e]; exact hz.2.2.1 d hd
    · exact (((eqOff.rfl'.put (a := m) ⟨by omega, by omega⟩ _).put (a := m + 10) ⟨by omega, by omega⟩ _).put (a := m) ⟨by omega, by omega⟩ _).put (a := m + 6) ⟨by omega, by omega⟩ _
  refine g_iload_n q_X10_tell_27 rfl ?_
  refine g_iconst q_X10_tell_28 ?_
  refine g_icmp_ne (tgt := 49) q_X10_tell_29 (by decide) hs ⟨by omega, by omega⟩ (fun b3 => ?_) (fun b3 => ?_)
  · exact ok (fun q => absurd q b3)
  refine g_aload_n q_X10_tell_32 rfl ?_
  refine g_bipush q_X10_tell_33 bp_6 ?_
  refine g_iload_n q_X10_tell_35 rfl ?_
  refine g_imul q_X10_tell_36 ?_
  refine g_iload_n q_X10_tell_37 rfl ?_
  refine g_iadd q_X10_tell_38 ?_
  refine g_topi (b := (c : Int)) (by exact hc) ?_
  refine g_callV (rc' := 0) (rs' := 0) (As := [_]) cs_X10_244 q_X10_tell_39 (sp_isPG hΓ h0 h8 h9 hz.1.2.2 n5 (fun k hk => by obtain ⟨-, p1, p2, -, -, p3, p4⟩ := hz.pg wf hk; rw [p1, p2]; unfold rg; omega) (c : Int) (by unfold rg; omega)) rfl (by repeat first | with_reducible assumption | with_reducible exact hput_s _ _ _ | refine (hput_n _ _ (by omega)).trans ?_ | exact hput_s _ _ _ | assumption) rfl rfl rfl rfl (Nat.le_of_ble_eq_true rfl) (by decide) (by decide) (by decide) (fun _ _ h => h.elim) (k_rb ?_)
  rw [tkn_cg (fun k hk => hz.2.2.2 k hk)]
  refine g_if_eq (tgt := 49) q_X10_tell_42 (by decide) (bi_rg _) (fun b4 => ?_) (fun b4 => ?_)
  · exact ok (fun _ => bi_f b4)
  · have e1 : eTell z a b s = 3 := by
      unfold eTell
      rw [if_neg (fun q => q hxy), if_neg (by omega), hc, if_pos ⟨by omega, bi_t (by omega)⟩]
    refine g_iconst q_X10_tell_45 ?_
    refine g_goto (tgt := 50) q_X10_tell_46 (by decide) ?_
    exact bad 3 (by decide) (by decide) e1
end MT

