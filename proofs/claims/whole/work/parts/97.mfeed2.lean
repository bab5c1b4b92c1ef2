/-! the reference: feed, the call -/
section MFe
variable {Γ : GT} {σ σ' : AH} {m : Nat} {len : Nat} {tx : Nat → Int} {fa e0 : Int} {z : PS} {l : List (Int × Int × Int)} {wl : Nat} {wr : Nat → Int}
theorem sp_mfeed (hΓ : Gd Γ) (hX : MX σ m e0 len tx fa z l wl wr) (a b c d e : Int) : Sp Γ miX10_feed 0 0 [.ref m, .int (ii a), .int (ii b), .int (ii c), .int (ii d), .int (ii e)] σ (mQ 0 (if 380 < len then -1 else (len : Int) + 20) (SM σ m 0 (if 380 < len then len else len + 20) (if 380 < len then tx else fdT tx len a b c d e) fa z l wl wr)) noX := by
  obtain ⟨I, A, N, -, h, hW⟩ := hX
  have h0 := h.1
  obtain ⟨t1, t2, t3, t4⟩ := hW.1
  have h1 := h.a1
  refine Sp_of (L := [_, _, _, _, _, _, _, _]) hΓ (by decide +kernel) rfl (Nat.le_of_ble_eq_true rfl) rfl ?_
  refine g_aload_n q_X10_feed_0 rfl ?_
  refine g_iconst q_X10_feed_1 ?_
  refine g_putM fp_X10_122 q_X10_feed_2 (by repeat first | with_reducible assumption | with_reducible exact hput_s _ _ _ | refine (hput_n _ _ (by omega)).trans ?_ | exact hput_s _ _ _ | assumption) rfl rfl mset_0 ?_
  refine g_aload_n q_X10_feed_5 rfl ?_
  refine g_get fl_X10_119 q_X10_feed_6 (by repeat first | with_reducible assumption | with_reducible exact hput_s _ _ _ | refine (hput_n _ _ (by omega)).trans ?_ | exact hput_s _ _ _ | assumption) rfl ?_
  refine g_topi (b := (len : Int)) (by exact t1) ?_
  refine g_bipush q_X10_feed_9 bp_20 ?_
  refine g_iadd q_X10_feed_11 ?_
  refine g_sipush q_X10_feed_12 sp_400 ?_
  refine g_icmp_le (tgt := 20) q_X10_feed_15 (by decide) ⟨by omega, by omega⟩ ⟨by omega, by omega⟩ (fun b1 => ?_) (fun b1 => ?_)
  case refine_2 =>
    rw [if_pos (by omega), if_pos (by omega), if_pos (by omega)]
    refine g_iconst q_X10_feed_18 ?_
    refine g_ireturn q_X10_feed_19.1 rfl ?_
    exact ⟨rfl, SM.t h hW 0⟩
  rw [if_neg (by omega), if_neg (by omega), if_neg (by omega)]
  refine g_iconst q_X10_feed_20 ?_
  refine g_istore (L' := [_, _, _, _, _, _, _, _]) q_X10_feed_21 (by decide) rfl ?_
  obtain ⟨J, hJ⟩ : ∃ J : Nat → Int, J = va_up I 0 0 := ⟨_, rfl⟩
  have hJ2 : J 2 = (len : Int) := by rw [hJ]; exact t1
  refine g_eq (σ2 := hput (hput σ (m + 1) (ai 400 (fdK (A 1) len a b c d e 0))) m (mdo m (va_up J 2 ((len + 0 : Nat) : Int)))) rfl rfl ?_ ?_
  · have q1 : fdK (A 1) len a b c d e 0 = A 1 := funext fun i => if_neg (by omega)
    have q2 : va_up J 2 ((len + 0 : Nat) : Int) = J := funext fun i => by
      by_cases e9 : i = 2
      · rw [e9, va_eq, hJ2]; rfl
      · rw [va_ne e9]
    rw [q1, q2, hput_id h1, hJ]
  refine g_loop (fun k => k ≤ 20) (fun k : Nat => G Γ _ cX10_feed _ _ 0 0 23 [some (.ref m), some (.int (ii a)), some (.int (ii b)), some (.int (ii c)), some (.int (ii d)), some (.int (ii e)), some (.int (ii k)), none] [] (hput (hput σ (m + 1) (ai 400 (fdK (A 1) len a b c d e k))) m (mdo m (va_up J 2 ((len + k : Nat) : Int))))) (fun k => 20 - k) ?_ 0 (Nat.zero_le _)
  intro k hk ih
  refine g_iload q_X10_feed_23 rfl ?_
  refine g_bipush q_X10_feed_25 bp_20 ?_
  refine g_icmp_ge (tgt := 120) q_X10_feed_27 (by decide) ⟨by omega, by omega⟩ ⟨by omega, by omega⟩ (fun b2 => ?_) (fun b2 => ?_)
  · have e9 : k = 20 := by omega
    subst e9
    refine g_aload_n q_X10_feed_120 rfl ?_
    refine g_get fl_X10_119 q_X10_feed_121 (by repeat first | with_reducible assumption | with_reducible exact hput_s _ _ _ | refine (hput_n _ _ (by omega)).trans ?_ | exact hput_s _ _ _ | assumption) rfl ?_
    refine g_topi (b := ((len + 20 : Nat) : Int)) (by rfl) ?_
    refine g_ireturn q_X10_feed_124.1 rfl ?_
    have hM := (h.putA 1 (by omega) (fdK (A 1) len a b c d e 20)).putI (va_up J 2 ((len + 20 : Nat) : Int))
    refine ⟨by rw [if_pos rfl]; rfl, ⟨⟨_, _, N, ?_, hM, ?_⟩, (eqOff.rfl'.put (a := m + 1) ⟨by omega, by omega⟩ _).put (a := m) ⟨by omega, by omega⟩ _⟩⟩
    · rw [va_ne (by omega), hJ]; rfl
    · obtain ⟨a1, a2, a3, a4, a5, a6, a7, a8⟩ := hW
      have hk9 : ∀ k, k ≠ 0 → k ≠ 2 → va_up J 2 ((len + 20 : Nat) : Int) k = I k := fun k q1 q2 => by rw [va_ne q2, hJ, va_ne q1]
      refine ⟨⟨va_eq, by omega, fun i hi => ?_, okX_ap (okX_ap (okX_ap (okX_ap (okX_ap t4.1 _ _ _) _ _ _) _ _ _) _ _ _) _ _ _, t4.2⟩, ?_, ⟨a3.1.cg ⟨hk9 13 (by omega) (by omega), hk9 14 (by omega) (by omega), hk9 15 (by omega) (by omega)⟩ rfl rfl rfl, a3.2⟩, a4, ?_, a6.cg (fun k hk => hk9 k (by omega) (by omega)) (fun k hk => va_ne (by omega)) (fun _ _ => rfl) a3.2, ?_, a8⟩
      · rw [← fdK_T, va_eq]
        unfold fdK
        rw [t3 i hi]
      · rw [hk9 5 (by omega) (by omega)]; exact a2
      · rw [hk9 20 (by omega) (by omega)]; exact a5
      · rw [hk9 55 (by omega) (by omega)]; exact a7
  have body : ∀ w, w = wsl a b c d e k → G Γ miX10_feed cX10_feed (mQ 0 ((len : Int) + 20) (SM σ m 0 (len + 20) (fdT tx len a b c d e) fa z l wl wr)) noX 0 0 76 [some (.ref m), some (.int (ii a)), some (.int (ii b)), some (.int (ii c)), some (.int (ii d)), some (.int (ii e)), some (.int (ii k)), none] [.int (ii w)] (hput (hput σ (m + 1) (ai 400 (fdK (A 1) len a b c d e k))) m (mdo m (va_up J 2 ((len + k : Nat) : Int)))) := by
    intro w hw
    have hnx := ih (k + 1) (by omega) (by omega)
    have hm4 : ((k : Int)).tmod 4 = ((k % 4 : Nat) : Int) := by rw [Int.tmod_eq_emod_of_nonneg (by omega)]; rfl
    refine g_istore (L' := [_, _, _, _, _, _, _, _]) q_X10_feed_76 (by decide) rfl ?_
    refine g_aload_n q_X10_feed_78 rfl ?_
    refine g_get fl_X10_7 q_X10_feed_79 (by repeat first | with_reducible assumption | with_reducible exact hput_s _ _ _ | refine (hput_n _ _ (by omega)).trans ?_ | exact hput_s _ _ _ | assumption) rfl ?_
    refine g_aload_n q_X10_feed_82 rfl ?_
    refine g_get fl_X10_119 q_X10_feed_83 (by repeat first | with_reducible assumption | with_reducible exact hput_s _ _ _ | refine (hput_n _ _ (by omega)).trans ?_ | exact hput_s _ _ _ | assumption) rfl ?_
    refine g_topi (b := ((len + k : Nat) : Int)) (by rfl) ?_
    refine g_iload q_X10_feed_86 rfl ?_
    refine g_bipush q_X10_feed_88 bp_24 ?_
    refine g_bipush q_X10_feed_90 bp_8 ?_
    refine g_iload q_X10_feed_92 rfl ?_
    refine g_iconst q_X10_feed_94 ?_
    refine g_irem q_X10_feed_95 ⟨by omega, by omega⟩ ⟨by omega, by omega⟩ (by omega) ?_
    refine g_topi (b := ((k % 4 : Nat) : Int)) (by exact hm4) ?_
    refine g_imul q_X10_feed_96 ?_
    refine g_isub q_X10_feed_97 ?_
    refine g_topi (b := ((24 - 8 * (k % 4) : Nat) : Int)) (by omega) ?_
    refine g_ishr q_X10_feed_98 ?_
    refine g_sipush q_X10_feed_99 sp_255 ?_
    refine g_iand q_X10_feed_102 ?_
    refine g_top (v' := .int (ii (oct w (k % 4)))) (congrArg Value.int (oct_s w ⟨k % 4, by omega⟩)) ?_
    refine g_iastore q_X10_feed_103 (by repeat first | with_reducible assumption | with_reducible exact hput_s _ _ _ | refine (hput_n _ _ (by omega)).trans ?_ | exact hput_s _ _ _ | assumption) (by omega) (by omega) ?_
    rw [hp3 _ _ _ _ (by omega)]
    refine g_eq (σ2 := hput (hput σ (m + 1) (ai 400 (fdK (A 1) len a b c d e (k + 1)))) m (mdo m (va_up J 2 ((len + k : Nat) : Int)))) rfl rfl (by rw [← fdK_up, hw]; rfl) ?_
    refine g_aload_n q_X10_feed_104 rfl ?_
    refine g_dup q_X10_feed_105 rfl ?_
    refine g_get fl_X10_119 q_X10_feed_106 (by repeat first | with_reducible assumption | with_reducible exact hput_s _ _ _ | refine (hput_n _ _ (by omega)).trans ?_ | exact hput_s _ _ _ | assumption) rfl ?_
    refine g_topi (b := ((len + k : Nat) : Int)) (by rfl) ?_
    refine g_iconst q_X10_feed_109 ?_
    refine g_iadd q_X10_feed_110 ?_
    refine g_topi (b := ((len + (k + 1) : Nat) : Int)) (by omega) ?_
    refine g_putM fp_X10_119 q_X10_feed_111 (by repeat first | with_reducible assumption | with_reducible exact hput_s _ _ _ | refine (hput_n _ _ (by omega)).trans ?_ | exact hput_s _ _ _ | assumption) rfl rfl mset_2 ?_
    rw [hput_hput, va_upup]
    refine g_iinc (L' := [_, _, _, _, _, _, _, _]) q_X10_feed_114 rfl rfl ?_
    refine g_goto (tgt := 23) q_X10_feed_117 (by decide) ?_
    exact g_fl hnx ⟨rfl, rfl, rfl, rfl, rfl, rfl, rfl, trivial⟩
  refine g_iload q_X10_feed_30 rfl ?_
  refine g_iconst q_X10_feed_32 ?_
  refine g_icmp_ge (tgt := 40) q_X10_feed_33 (by decide) ⟨by omega, by omega⟩ ⟨by omega, by omega⟩ (fun b3 => ?_) (fun b3 => ?_)
  case refine_2 =>
    refine g_iload_n q_X10_feed_36 rfl ?_
    refine g_goto (tgt := 76) q_X10_feed_37 (by decide) ?_
    exact body a (by unfold wsl; rw [if_pos (by omega)])
  refine g_iload q_X10_feed_40 rfl ?_
  refine g_bipush q_X10_feed_42 bp_8 ?_
  refine g_icmp_ge (tgt := 51) q_X10_feed_44 (by decide) ⟨by omega, by omega⟩ ⟨by omega, by omega⟩ (fun b4 => ?_) (fun b4 => ?_)
  case refine_2 =>
    refine g_iload_n q_X10_feed_47 rfl ?_
    refine g_goto (tgt := 76) q_X10_feed_48 (by decide) ?_
    exact body b (by unfold wsl; rw [if_neg (by omega), if_pos (by omega)])
  refine g_iload q_X10_feed_51 rfl ?_
  refine g_bipush q_X10_feed_53 bp_12 ?_
  refine g_icmp_ge (tgt := 62) q_X10_feed_55 (by decide) ⟨by omega, by omega⟩ ⟨by omega, by omega⟩ (fun b5 => ?_) (fun b5 => ?_)
  case refine_2 =>
    refine g_iload_n q_X10_feed_58 rfl ?_
    refine g_goto (tgt := 76) q_X10_feed_59 (by decide) ?_
    exact body c (by unfold wsl; rw [if_neg (by omega), if_neg (by omega), if_pos (by omega)])
  refine g_iload q_X10_feed_62 rfl ?_
  refine g_bipush q_X10_feed_64 bp_16 ?_
  refine g_icmp_ge (tgt := 74) q_X10_feed_66 (by decide) ⟨by omega, by omega⟩ ⟨by omega, by omega⟩ (fun b6 => ?_) (fun b6 => ?_)
  case refine_2 =>
    refine g_iload q_X10_feed_69 rfl ?_
    refine g_goto (tgt := 76) q_X10_feed_71 (by decide) ?_
    exact body d (by unfold wsl; rw [if_neg (by omega), if_neg (by omega), if_neg (by omega), if_pos (by omega)])
  refine g_iload q_X10_feed_74 rfl ?_
  exact body e (by unfold wsl; rw [if_neg (by omega), if_neg (by omega), if_neg (by omega), if_neg (by omega)])
end MFe

