/-! the reference: write, way (written by gena4.py) -/
theorem cnt_or {b : BitVec 64} {x : Nat} (hx : x < 64) : bcn (b ||| bt1 x) = bcn b + bi (!b.getLsbD x) := by
  have e : ∀ n, n ≤ 64 → cntN (fun c => (b ||| bt1 x).getLsbD c) n = cntN (fun c => b.getLsbD c) n + (if x < n then bi (!b.getLsbD x) else 0) := by
    intro n
    induction n with
    | zero => intro _; rfl
    | succ n ih =>
      intro hn
      have h1 : cntN (fun c => (b ||| bt1 x).getLsbD c) (n + 1) = cntN (fun c => (b ||| bt1 x).getLsbD c) n + bi ((b ||| bt1 x).getLsbD n) := rfl
      have h2 : cntN (fun c => b.getLsbD c) (n + 1) = cntN (fun c => b.getLsbD c) n + bi (b.getLsbD n) := rfl
      rw [h1, h2, ih (by omega), BitVec.getLsbD_or, bt1_b hx]
      by_cases q : n = x
      · subst q
        rw [if_neg (by omega), if_pos (by omega), decide_eq_true rfl, Bool.or_true]
        cases b.getLsbD n
        · show _ + 0 + 1 = _ + 0 + 1
          rfl
        · show _ + 0 + 1 = _ + 1 + 0
          omega
      · rw [decide_eq_false q, Bool.or_false]
        by_cases q2 : x < n
        · rw [if_pos q2, if_pos (by omega)]; omega
        · rw [if_neg q2, if_neg (by omega)]; omega
  have := e 64 (Nat.le_refl _)
  rw [if_pos hx] at this
  exact this
theorem vs_b {f : Nat → Int} (hf : ∀ t, t < 41 → 0 ≤ f t ∧ f t < 36) : ∀ (n : Nat), n ≤ 41 → ∀ c, (vsN f n).getLsbD c = decide (∃ t, t < n ∧ f t = (c : Int))
  | 0, _, c => by
    rw [decide_eq_false (fun ⟨t, q, _⟩ => absurd q (Nat.not_lt_zero t))]
    show (0 : BitVec 64).getLsbD c = false
    simp
  | n + 1, hn, c => by
    have hfn := hf n (by omega)
    show (vsN f n ||| bt1 (f n).toNat).getLsbD c = _
    rw [BitVec.getLsbD_or, bt1_b (by omega), vs_b hf n (by omega) c]
    by_cases q : ∃ t, t < n ∧ f t = (c : Int)
    · obtain ⟨t, q1, q2⟩ := q
      rw [decide_eq_true ⟨t, q1, q2⟩, decide_eq_true (show ∃ t, t < n + 1 ∧ f t = (c : Int) from ⟨t, by omega, q2⟩)]
      rfl
    · rw [decide_eq_false q, Bool.false_or]
      by_cases q3 : c = (f n).toNat
      · rw [decide_eq_true q3, decide_eq_true (show ∃ t, t < n + 1 ∧ f t = (c : Int) from ⟨n, by omega, by omega⟩)]
      · rw [decide_eq_false q3, decide_eq_false]
        rintro ⟨t, q4, q5⟩
        by_cases q6 : t = n
        · subst q6; exact q3 (by omega)
        · exact q ⟨t, by omega, q5⟩
theorem vs_s {f : Nat → Int} (hf : ∀ t, t < 41 → 0 ≤ f t ∧ f t < 36) {n : Nat} (hn : n < 41) : bcn (vsN f (n + 1)) = bcn (vsN f n) + bi (decide (∀ u, u < n → f u ≠ f n)) := by
  have hfn := hf n hn
  show bcn (vsN f n ||| bt1 (f n).toNat) = _
  rw [cnt_or (by omega), vs_b hf n (by omega)]
  congr 2
  rw [← decide_not]
  refine decide_eq_decide.mpr ⟨fun h u hu q => h ⟨u, hu, by omega⟩, fun h ⟨u, hu, q⟩ => h u hu (by omega)⟩
section MPL5
variable {Γ : GT} {σ : AH} {m : Nat} {len : Nat} {tx : Nat → Int} {fa e0 : Int} {z : PS} {l : List (Int × Int × Int)} {wl : Nat} {wr : Nat → Int}
theorem fs_i {p : Nat → Bool} {t : Nat} : fstN p (t + 1) = if fstN p t = -1 ∧ p t = true then (t : Int) else fstN p t := by
  rcases fstN_cases p t with ⟨e, hn⟩ | ⟨k, hk, e, hp, hn⟩
  · by_cases q : p t = true
    · rw [if_pos ⟨e, q⟩]
      exact fstN_some (by omega) q hn
    · rw [if_neg (fun w => q w.2), e]
      exact fstN_none (fun j hj => by
        by_cases q2 : j = t
        · rw [q2]; exact Bool.eq_false_iff.mpr q
        · exact hn j (by omega))
  · rw [if_neg (fun w => by omega), e]
    exact fstN_some (by omega) hp hn
set_option maxHeartbeats 1000000 in
theorem sp_mway (hΓ : Gd Γ) (hX : MX σ m e0 len tx fa z l wl wr) (bd c w : Int) (hbd : rg bd) (hc : rg c) (hw : rg w) : Sp Γ miX10_way 0 0 [.ref m, .int (ii bd), .int (ii c), .int (ii w)] σ (mQ (eWay z bd c w) (aWay z (pPZ z bd) (pCZ z bd) c.toNat w) (SM σ m (eWay z bd c w) len tx fa z l wl wr)) noX := by
  obtain ⟨I, A, N, -, h, hW⟩ := hX
  have h0 := h.1
  have hz := hW.2.2.1.1
  have wf := hW.2.2.1.2
  have n5 := wf.1.1.2.2
  obtain ⟨e, hEe⟩ : ∃ e, e = eQ (cOK z c) true bd z := ⟨_, rfl⟩
  have he4 : e ≤ 4 := by rw [hEe]; exact eQ_le _ _ _ _
  have eW : eWay z bd c w = if e ≠ 0 then e else if 0 ≤ w ∧ w ≤ 4 then 0 else 4 := by unfold eWay; rw [← hEe]
  have fin : ∀ τ J B, eqOff σ τ (inb m 34) → MC τ m J B N → MW J B N len tx fa z l wl wr → (e = 0 → PLd J B z bd) → G Γ miX10_way cX10_way (mQ (eWay z bd c w) (aWay z (pPZ z bd) (pCZ z bd) c.toNat w) (SM σ m (eWay z bd c w) len tx fa z l wl wr)) noX 0 0 21 [some (.ref m), some (.int (ii bd)), some (.int (ii c)), some (.int (ii w)), none, none, none, none, none, none, none] [.int (ii (e : Int)), .ref m] τ := by
    intro τ J B hE hM hWB hP
    have t0 := hM.1
    refine g_putM fp_X10_122 q_X10_way_21 (by repeat first | with_reducible assumption | with_reducible exact hput_s _ _ _ | refine (hput_n _ _ (by omega)).trans ?_ | exact hput_s _ _ _ | assumption) rfl rfl mset_0 ?_
    refine g_aload_n q_X10_way_24 rfl ?_
    refine g_get fl_X10_122 q_X10_way_25 (by repeat first | with_reducible assumption | with_reducible exact hput_s _ _ _ | refine (hput_n _ _ (by omega)).trans ?_ | exact hput_s _ _ _ | assumption) rfl ?_
    refine g_topi (b := (e : Int)) (by rfl) ?_
    refine g_if_ne (tgt := 45) q_X10_way_28 (by decide) ⟨by omega, by omega⟩ (fun b1 => ?_) (fun b1 => ?_)
    · rw [if_pos (by omega)] at eW
      refine g_aload_n q_X10_way_45 rfl ?_
      refine g_get fl_X10_122 q_X10_way_46 (by repeat first | with_reducible assumption | with_reducible exact hput_s _ _ _ | refine (hput_n _ _ (by omega)).trans ?_ | exact hput_s _ _ _ | assumption) rfl ?_
      refine g_topi (b := (e : Int)) (by rfl) ?_
      refine g_if_le (tgt := 54) q_X10_way_49 (by decide) ⟨by omega, by omega⟩ (fun b2 => ?_) (fun b2 => ?_)
      case refine_1 => exact absurd b2 (by omega)
      refine g_iconst q_X10_way_52 ?_
      refine g_ireturn q_X10_way_53.1 rfl ?_
      rw [eW]
      exact ⟨by rw [if_neg (by omega)], SM.w hE hM hWB e⟩
    have ee : e = 0 := by omega
    subst ee
    rw [if_neg (fun q => q rfl)] at eW
    refine g_iload_n q_X10_way_31 rfl ?_
    refine g_iconst q_X10_way_32 ?_
    refine g_iconst q_X10_way_33 ?_
    refine g_callS (rc' := 0) (rs' := 0) (As := [_, _, _]) cs_X10_229 q_X10_way_34 (sp_isIn hΓ w 0 4 hw ⟨by decide, by decide⟩ ⟨by decide, by decide⟩) rfl rfl rfl (Nat.le_of_ble_eq_true rfl) (by decide) (by decide) (by decide) (fun _ _ h => h.elim) (k_rb ?_)
    refine g_if_ne (tgt := 45) q_X10_way_37 (by decide) (bi_rg _) (fun b2 => ?_) (fun b2 => ?_)
    case refine_2 =>
      have q := of_decide_eq_false (bi_f (show bi (decide (0 ≤ w ∧ w ≤ 4)) = 0 by omega))
      rw [if_neg q] at eW
      refine g_aload_n q_X10_way_40 rfl ?_
      refine g_iconst q_X10_way_41 ?_
      refine g_putM fp_X10_122 q_X10_way_42 (by repeat first | with_reducible assumption | with_reducible exact hput_s _ _ _ | refine (hput_n _ _ (by omega)).trans ?_ | exact hput_s _ _ _ | assumption) rfl rfl mset_0 ?_
      rw [hput_hput]
      refine g_eq (σ2 := hput τ m (mdo m (va_up J 0 ((4 : Nat) : Int)))) rfl rfl (by congr 2; funext k; unfold va_up; by_cases q9 : k = 0 <;> simp [q9]) ?_
      refine g_aload_n q_X10_way_45 rfl ?_
      refine g_get fl_X10_122 q_X10_way_46 (by repeat first | with_reducible assumption | with_reducible exact hput_s _ _ _ | refine (hput_n _ _ (by omega)).trans ?_ | exact hput_s _ _ _ | assumption) rfl ?_
      refine g_topi (b := (4 : Int)) (by rfl) ?_
      refine g_if_le (tgt := 54) q_X10_way_49 (by decide) ⟨by omega, by omega⟩ (fun b3 => ?_) (fun b3 => ?_)
      case refine_1 => exact absurd b3 (by decide)
      refine g_iconst q_X10_way_52 ?_
      refine g_ireturn q_X10_way_53.1 rfl ?_
      rw [eW]
      exact ⟨rfl, SM.w hE hM hWB 4⟩
    have hw4 := of_decide_eq_true (bi_t b2)
    rw [if_pos hw4] at eW
    rw [eW]
    unfold mQ
    rw [if_pos rfl]
    obtain ⟨kp, hkp, j35, ha, hrow, hgo, hsum, hsum0, hrow0, hcc⟩ := hP rfl
    have hS := SM.w hE hM hWB 0
    have hM1 := hM.putI (va_up J 0 ((0 : Nat) : Int))
    obtain ⟨τ1, hτ1⟩ : ∃ τ1, τ1 = hput τ m (mdo m (va_up J 0 ((0 : Nat) : Int))) := ⟨_, rfl⟩
    rw [← hτ1] at hS hM1 ⊢
    clear hτ1 hE t0 hP
    have hrB := hWB.2.2.2.2.2.2.2
    have hzB := hWB.2.2.1.1
    have j35 : va_up J 0 ((0 : Nat) : Int) 35 = kp := j35
    have j0 : va_up J 0 ((0 : Nat) : Int) 0 = 0 := rfl
    obtain ⟨J1, hJ1⟩ : ∃ J1, J1 = va_up J 0 ((0 : Nat) : Int) := ⟨_, rfl⟩
    rw [← hJ1] at j35 j0 hM1
    clear hJ1
    have u0 := hM1.1
    have u16 := hM1.a16
    have u9 := hM1.a9
    obtain ⟨eq1, eq2⟩ := eQ_z hEe.symm
    have hc1 := of_decide_eq_true eq1
    obtain ⟨i, hi⟩ : ∃ i : Nat, c = i := ⟨c.toNat, by omega⟩
    subst hi
    rw [Int.toNat_natCast]
    obtain ⟨P, hP⟩ : ∃ P, P = pPZ z bd := ⟨_, rfl⟩
    obtain ⟨C, hC⟩ : ∃ C, C = pCZ z bd := ⟨_, rfl⟩
    rw [← hP] at hrow
    rw [← hP, ← hC] at hgo
    rw [← hP, ← hC]
    have hgi := hgo i (by omega)
    have hgin : ∀ t, t < 41 → 0 ≤ P (41 * i + t) ∧ P (41 * i + t) < 36 := fun t ht => (hgi.gin wf (by omega) t ht).1
    have e9 : B 9 i = zGO z i := (hzB.2.2.2 i (by omega)).2
    have hg9 : 0 ≤ zGO z i ∧ zGO z i < 36 := by
      have := (wf.1.2.2.2.1 i)
      have q := this.2 (by omega)
      exact ⟨q, this.1.2⟩
    have hct : (ctN (fun t => B 16 (205 * kp + (41 * i + t))) 40 : Int) = C i := by
      rw [ctN_cg (g := fun t => P (41 * i + t)) (fun t ht => hrow _ (by omega)) 40 (Nat.le_refl _)]
      exact hgi.2.2.2.2.1
    have hct0 : (ctN (fun t => B 16 (205 * 0 + (41 * i + t))) 40 : Int) = alcZ z i := by
      obtain ⟨q1, -⟩ := alw_ct wf (c := i) (by omega) (of_decide_eq_true ha i (by omega))
      rw [← q1]
      refine congrArg Nat.cast (ctN_cg (fun t ht => ?_) 40 (Nat.le_refl _))
      rw [show 205 * 0 + (41 * i + t) = 41 * i + t by omega, hrow0 _ (by omega)]
      show alw (lvZ z) (zPL z) (zGO z) ((41 * i + t) / 41) ((41 * i + t) % 41) = _
      rw [show (41 * i + t) / 41 = i by omega, show (41 * i + t) % 41 = t by omega]
    obtain ⟨f, hf⟩ : ∃ f : Nat → Int, f = fun t => P (41 * i + t) := ⟨_, rfl⟩
    have fe : ∀ t, P (41 * i + t) = f t := fun t => by rw [hf]
    have hfr : ∀ t, t < 41 → 0 ≤ f t ∧ f t < 36 := fun t ht => by rw [hf]; exact hgin t ht
    obtain ⟨mv, hmv⟩ : ∃ mv : Nat → Bool, mv = fun t => decide (f (t + 1) ≠ f t) := ⟨_, rfl⟩
    obtain ⟨gl, hgl⟩ : ∃ gl : Nat → Bool, gl = fun t => decide (f t = zGO z i) := ⟨_, rfl⟩
    have eAns : aWay z P C i w = if w = 0 then C i else if w = 1 then C i - alcZ z i else if w = 2 then bcn (vsN f 41) else if w = 3 then cntN mv 40 else fstN gl 41 := by
      rw [hgl, hmv, hf]
      rfl
    rw [eAns]
    refine g_aload_n q_X10_way_45 rfl ?_
    refine g_get fl_X10_122 q_X10_way_46 (by repeat first | with_reducible assumption | with_reducible exact hput_s _ _ _ | refine (hput_n _ _ (by omega)).trans ?_ | exact hput_s _ _ _ | assumption) rfl ?_
    refine g_topi (b := (0 : Int)) (by exact j0) ?_
    refine g_if_le (tgt := 54) q_X10_way_49 (by decide) ⟨by omega, by omega⟩ (fun b3 => ?_) (fun b3 => ?_)
    case refine_2 => exact absurd b3 (by decide)
    refine g_iconst q_X10_way_54 ?_
    refine g_istore (L' := [_, _, _, _, _, _, _, _, _, _, _]) q_X10_way_55 (by decide) rfl ?_
    refine g_iconst q_X10_way_57 ?_
    refine g_istore (L' := [_, _, _, _, _, _, _, _, _, _, _]) q_X10_way_58 (by decide) rfl ?_
    refine g_iconst q_X10_way_60 ?_
    refine g_istore (L' := [_, _, _, _, _, _, _, _, _, _, _]) q_X10_way_61 (by decide) rfl ?_
    refine g_iconst q_X10_way_63 ?_
    refine g_istore (L' := [_, _, _, _, _, _, _, _, _, _, _]) q_X10_way_64 (by decide) rfl ?_
    have b00 : bcn (vsN f 0) = 0 := by
      show bcn (0#64) = 0
      decide +kernel
    refine g_eq (L2 := [some (.ref m), some (.int (ii bd)), some (.int (ii (i : Int))), some (.int (ii w)), some (.int (ii (cntN mv (0 - 1)))), some (.int (ii (bcn (vsN f 0)))), some (.int (ii (fstN gl 0))), some (.int (ii ((0 : Nat) : Int))), none, none, none]) (by rw [b00]; rfl) rfl rfl ?_
    refine g_loop (fun t => t ≤ 41) (fun t : Nat => G Γ _ cX10_way _ _ 0 0 66 [some (.ref m), some (.int (ii bd)), some (.int (ii (i : Int))), some (.int (ii w)), some (.int (ii (cntN mv (t - 1)))), some (.int (ii (bcn (vsN f t)))), some (.int (ii (fstN gl t))), some (.int (ii t)), none, none, none] [] τ1) (fun t => 41 - t) ?_ 0 (Nat.zero_le _)
    intro t ht ih
    refine g_iload q_X10_way_66 rfl ?_
    refine g_bipush q_X10_way_68 bp_41 ?_
    refine g_icmp_ge (tgt := 213) q_X10_way_70 (by decide) ⟨by omega, by omega⟩ ⟨by omega, by omega⟩ (fun b4 => ?_) (fun b4 => ?_)
    · have e : t = 41 := by omega
      subst e
      show G Γ miX10_way cX10_way _ noX 0 0 213 [some (.ref m), some (.int (ii bd)), some (.int (ii (i : Int))), some (.int (ii w)), some (.int (ii (cntN mv 40))), some (.int (ii (bcn (vsN f 41)))), some (.int (ii (fstN gl 41))), some (.int (ii ((41 : Nat) : Int))), none, none, none] [] τ1
      refine g_aload_n q_X10_way_213 rfl ?_
      refine g_aload_n q_X10_way_214 rfl ?_
      refine g_get fl_X10_314 q_X10_way_215 (by repeat first | with_reducible assumption | with_reducible exact hput_s _ _ _ | refine (hput_n _ _ (by omega)).trans ?_ | exact hput_s _ _ _ | assumption) rfl ?_
      refine g_topi (b := (kp : Int)) (by exact j35) ?_
      refine g_iload_n q_X10_way_218 rfl ?_
      refine g_callV (rc' := 0) (rs' := 0) (As := [_, _]) cs_X10_287 q_X10_way_219 (sp_costAt hΓ u0 u16 hrB kp i (by omega) (by omega)) rfl (by repeat first | with_reducible assumption | with_reducible exact hput_s _ _ _ | refine (hput_n _ _ (by omega)).trans ?_ | exact hput_s _ _ _ | assumption) rfl rfl rfl rfl (Nat.le_of_ble_eq_true rfl) (by decide) (by decide) (by decide) (fun _ _ h => h.elim) (k_ri ?_)
      refine g_topi (b := C i) hct ?_
      refine g_istore (L' := [_, _, _, _, _, _, _, _, _, _, _]) q_X10_way_222 (by decide) rfl ?_
      refine g_iload_n q_X10_way_224 rfl ?_
      refine g_if_ne (tgt := 233) q_X10_way_225 (by decide) ⟨by omega, by omega⟩ (fun b5 => ?_) (fun b5 => ?_)
      case refine_2 =>
        refine g_iload q_X10_way_228 rfl ?_
        refine g_goto (tgt := 272) q_X10_way_230 (by decide) ?_
        refine g_ireturn q_X10_way_272.1 rfl ?_
        rw [if_pos (by omega)]
        exact ⟨rfl, hS⟩
      rw [if_neg b5]
      refine g_iload_n q_X10_way_233 rfl ?_
      refine g_iconst q_X10_way_234 ?_
      refine g_icmp_ne (tgt := 250) q_X10_way_235 (by decide) ⟨by omega, by omega⟩ ⟨by omega, by omega⟩ (fun b6 => ?_) (fun b6 => ?_)
      case refine_2 =>
        refine g_iload q_X10_way_238 rfl ?_
        refine g_aload_n q_X10_way_240 rfl ?_
        refine g_iconst q_X10_way_241 ?_
        refine g_iload_n q_X10_way_242 rfl ?_
        refine g_callV (rc' := 0) (rs' := 0) (As := [_, _]) cs_X10_287 q_X10_way_243 (sp_costAt hΓ u0 u16 hrB 0 i (by omega) (by omega)) rfl (by repeat first | with_reducible assumption | with_reducible exact hput_s _ _ _ | refine (hput_n _ _ (by omega)).trans ?_ | exact hput_s _ _ _ | assumption) rfl rfl rfl rfl (Nat.le_of_ble_eq_true rfl) (by decide) (by decide) (by decide) (fun _ _ h => h.elim) (k_ri ?_)
        refine g_topi (b := alcZ z i) hct0 ?_
        refine g_isub q_X10_way_246 ?_
        refine g_goto (tgt := 272) q_X10_way_247 (by decide) ?_
        refine g_ireturn q_X10_way_272.1 rfl ?_
        rw [if_pos (by omega)]
        exact ⟨rfl, hS⟩
      rw [if_neg b6]
      refine g_iload_n q_X10_way_250 rfl ?_
      refine g_iconst q_X10_way_251 ?_
      refine g_icmp_ne (tgt := 260) q_X10_way_252 (by decide) ⟨by omega, by omega⟩ ⟨by omega, by omega⟩ (fun b7 => ?_) (fun b7 => ?_)
      case refine_2 =>
        refine g_iload q_X10_way_255 rfl ?_
        refine g_goto (tgt := 272) q_X10_way_257 (by decide) ?_
        refine g_ireturn q_X10_way_272.1 rfl ?_
        rw [if_pos (by omega)]
        exact ⟨rfl, hS⟩
      rw [if_neg b7]
      refine g_iload_n q_X10_way_260 rfl ?_
      refine g_iconst q_X10_way_261 ?_
      refine g_icmp_ne (tgt := 270) q_X10_way_262 (by decide) ⟨by omega, by omega⟩ ⟨by omega, by omega⟩ (fun b8 => ?_) (fun b8 => ?_)
      case refine_2 =>
        refine g_iload q_X10_way_265 rfl ?_
        refine g_goto (tgt := 272) q_X10_way_267 (by decide) ?_
        refine g_ireturn q_X10_way_272.1 rfl ?_
        rw [if_pos (by omega)]
        exact ⟨rfl, hS⟩
      rw [if_neg b8]
      refine g_iload q_X10_way_270 rfl ?_
      refine g_ireturn q_X10_way_272.1 rfl ?_
      exact ⟨rfl, hS⟩
    have hnx := ih (t + 1) (by omega) (by omega)
    clear ih
    have hft := hfr t (by omega)
    rw [vs_s hfr (n := t) (by omega), fs_i (p := gl) (t := t), show t + 1 - 1 = t by omega] at hnx
    obtain ⟨u1, hu1⟩ : ∃ x, x = bcn (vsN f t) := ⟨_, rfl⟩
    obtain ⟨f1, hf1⟩ : ∃ x, x = fstN gl t := ⟨_, rfl⟩
    have hf1r := fstN_rg gl t
    rw [← hf1] at hf1r
    rw [← hu1, ← hf1] at hnx ⊢
    refine g_aload_n q_X10_way_73 rfl ?_
    refine g_aload_n q_X10_way_74 rfl ?_
    refine g_get fl_X10_314 q_X10_way_75 (by repeat first | with_reducible assumption | with_reducible exact hput_s _ _ _ | refine (hput_n _ _ (by omega)).trans ?_ | exact hput_s _ _ _ | assumption) rfl ?_
    refine g_topi (b := (kp : Int)) (by exact j35) ?_
    refine g_iload_n q_X10_way_78 rfl ?_
    refine g_iload q_X10_way_79 rfl ?_
    refine g_callV (rc' := 0) (rs' := 0) (As := [_, _, _]) cs_X10_263 q_X10_way_81 (sp_wayAt hΓ u0 u16 kp i t (by omega) (by omega) (by omega)) rfl (by repeat first | with_reducible assumption | with_reducible exact hput_s _ _ _ | refine (hput_n _ _ (by omega)).trans ?_ | exact hput_s _ _ _ | assumption) rfl rfl rfl rfl (Nat.le_of_ble_eq_true rfl) (by decide) (by decide) (by decide) (fun _ _ h => h.elim) (k_ri ?_)
    refine g_topi (b := f t) ((hrow _ (by omega)).trans (fe t)) ?_
    refine g_istore (L' := [_, _, _, _, _, _, _, _, _, _, _]) q_X10_way_84 (by decide) rfl ?_
    refine g_iconst q_X10_way_86 ?_
    refine g_istore (L' := [_, _, _, _, _, _, _, _, _, _, _]) q_X10_way_87 (by decide) rfl ?_
    refine g_iconst q_X10_way_89 ?_
    refine g_istore (L' := [_, _, _, _, _, _, _, _, _, _, _]) q_X10_way_90 (by decide) rfl ?_
    refine g_loop (fun u => u ≤ t) (fun u : Nat => G Γ _ cX10_way _ _ 0 0 92 [some (.ref m), some (.int (ii bd)), some (.int (ii (i : Int))), some (.int (ii w)), some (.int (ii (cntN mv (t - 1)))), some (.int (ii u1)), some (.int (ii f1)), some (.int (ii t)), some (.int (ii (f t))), some (.int (ii (bi (decide (∀ v, v < u → f v ≠ f t))))), some (.int (ii u))] [] τ1) (fun u => t - u) ?_ 0 (Nat.zero_le _)
    intro u hu ih2
    refine g_iload q_X10_way_92 rfl ?_
    refine g_iload q_X10_way_94 rfl ?_
    refine g_icmp_ge (tgt := 133) q_X10_way_96 (by decide) ⟨by omega, by omega⟩ ⟨by omega, by omega⟩ (fun b5 => ?_) (fun b5 => ?_)
    · have e : u = t := by omega
      subst e
      -- how many, moves, the first
      have three : ∀ (x4 : Int), x4 = cntN mv u → G Γ miX10_way cX10_way (fun r σ' => r = some (.int (ii (if w = 0 then C i else if w = 1 then C i - alcZ z i else if w = 2 then bcn (vsN f 41) else if w = 3 then cntN mv 40 else fstN gl 41))) ∧ SM σ m 0 len tx fa z l wl wr σ') noX 0 0 179 [some (.ref m), some (.int (ii bd)), some (.int (ii (i : Int))), some (.int (ii w)), some (.int (ii (cntN mv (u - 1)))), some (.int (ii (u1 + bi (decide (∀ v, v < u → f v ≠ f u))))), some (.int (ii f1)), some (.int (ii u)), some (.int (ii (f u))), some (.int (ii (bi (decide (∀ v, v < u → f v ≠ f u))))), some (.int (ii u))] [.int (ii x4)] τ1 := by
        intro x4 hx4
        subst hx4
        have no : ¬ (f1 = -1 ∧ gl u = true) → G Γ miX10_way cX10_way (fun r σ' => r = some (.int (ii (if w = 0 then C i else if w = 1 then C i - alcZ z i else if w = 2 then bcn (vsN f 41) else if w = 3 then cntN mv 40 else fstN gl 41))) ∧ SM σ m 0 len tx fa z l wl wr σ') noX 0 0 203 [some (.ref m), some (.int (ii bd)), some (.int (ii (i : Int))), some (.int (ii w)), some (.int (ii (cntN mv u))), some (.int (ii (u1 + bi (decide (∀ v, v < u → f v ≠ f u))))), some (.int (ii f1)), some (.int (ii u)), some (.int (ii (f u))), some (.int (ii (bi (decide (∀ v, v < u → f v ≠ f u))))), some (.int (ii u))] [] τ1 := fun q => by
          rw [if_neg q] at hnx
          refine g_iload q_X10_way_203 rfl ?_
          refine g_istore (L' := [_, _, _, _, _, _, _, _, _, _, _]) q_X10_way_205 (by decide) rfl ?_
          refine g_iinc (L' := [_, _, _, _, _, _, _, _, _, _, _]) q_X10_way_207 rfl rfl ?_
          refine g_goto (tgt := 66) q_X10_way_210 (by decide) ?_
          exact g_fl hnx ⟨rfl, rfl, rfl, rfl, rfl, rfl, rfl, rfl, trivial⟩
        refine g_istore (L' := [_, _, _, _, _, _, _, _, _, _, _]) q_X10_way_179 (by decide) rfl ?_
        refine g_iload q_X10_way_181 rfl ?_
        refine g_iconst q_X10_way_183 ?_
        refine g_icmp_ne (tgt := 203) q_X10_way_184 (by decide) ⟨by omega, by omega⟩ ⟨by omega, by omega⟩ (fun b6 => ?_) (fun b6 => ?_)
        · exact no (fun q => b6 q.1)
        refine g_iload q_X10_way_187 rfl ?_
        refine g_aload_n q_X10_way_189 rfl ?_
        refine g_get fl_X10_39 q_X10_way_190 (by repeat first | with_reducible assumption | with_reducible exact hput_s _ _ _ | refine (hput_n _ _ (by omega)).trans ?_ | exact hput_s _ _ _ | assumption) rfl ?_
        refine g_iload_n q_X10_way_193 rfl ?_
        refine g_iaload q_X10_way_194 (by repeat first | with_reducible assumption | with_reducible exact hput_s _ _ _ | refine (hput_n _ _ (by omega)).trans ?_ | exact hput_s _ _ _ | assumption) (by omega) (by omega) ?_
        refine g_topi (b := zGO z i) (by exact e9) ?_
        refine g_icmp_ne (tgt := 203) q_X10_way_195 (by decide) ⟨by omega, by omega⟩ ⟨by omega, by omega⟩ (fun b7 => ?_) (fun b7 => ?_)
        · exact no (fun q => by rw [hgl] at q; exact b7 (of_decide_eq_true q.2))
        · rw [if_pos (show f1 = -1 ∧ gl u = true from ⟨by omega, by rw [hgl]; exact decide_eq_true (by omega)⟩)] at hnx
          refine g_iload q_X10_way_198 rfl ?_
          refine g_goto (tgt := 205) q_X10_way_200 (by decide) ?_
          refine g_istore (L' := [_, _, _, _, _, _, _, _, _, _, _]) q_X10_way_205 (by decide) rfl ?_
          refine g_iinc (L' := [_, _, _, _, _, _, _, _, _, _, _]) q_X10_way_207 rfl rfl ?_
          refine g_goto (tgt := 66) q_X10_way_210 (by decide) ?_
          exact g_fl hnx ⟨rfl, rfl, rfl, rfl, rfl, rfl, rfl, rfl, trivial⟩
      have two : G Γ miX10_way cX10_way (fun r σ' => r = some (.int (ii (if w = 0 then C i else if w = 1 then C i - alcZ z i else if w = 2 then bcn (vsN f 41) else if w = 3 then cntN mv 40 else fstN gl 41))) ∧ SM σ m 0 len tx fa z l wl wr σ') noX 0 0 148 [some (.ref m), some (.int (ii bd)), some (.int (ii (i : Int))), some (.int (ii w)), some (.int (ii (cntN mv (u - 1)))), some (.int (ii (u1 + bi (decide (∀ v, v < u → f v ≠ f u))))), some (.int (ii f1)), some (.int (ii u)), some (.int (ii (f u))), some (.int (ii (bi (decide (∀ v, v < u → f v ≠ f u))))), some (.int (ii u))] [] τ1 := by
        refine g_iload q_X10_way_148 rfl ?_
        refine g_iload q_X10_way_150 rfl ?_
        refine g_if_le (tgt := 177) q_X10_way_152 (by decide) ⟨by omega, by omega⟩ (fun b6 => ?_) (fun b6 => ?_)
        · have e : u = 0 := by omega
          refine g_iconst q_X10_way_177 ?_
          refine g_iadd q_X10_way_178 ?_
          refine three _ ?_
          rw [e]
          exact Int.add_zero _
        obtain ⟨v, hv⟩ : ∃ v, u = v + 1 := ⟨u - 1, by omega⟩
        have hfv := hfr v (by omega)
        have eC : cntN mv u = cntN mv (u - 1) + bi (mv v) := by rw [hv]; rfl
        refine g_iload q_X10_way_155 rfl ?_
        refine g_aload_n q_X10_way_157 rfl ?_
        refine g_aload_n q_X10_way_158 rfl ?_
        refine g_get fl_X10_314 q_X10_way_159 (by repeat first | with_reducible assumption | with_reducible exact hput_s _ _ _ | refine (hput_n _ _ (by omega)).trans ?_ | exact hput_s _ _ _ | assumption) rfl ?_
        refine g_topi (b := (kp : Int)) (by exact j35) ?_
        refine g_iload_n q_X10_way_162 rfl ?_
        refine g_iload q_X10_way_163 rfl ?_
        refine g_iconst q_X10_way_165 ?_
        refine g_isub q_X10_way_166 ?_
        refine g_topi (b := (v : Int)) (by omega) ?_
        refine g_callV (rc' := 0) (rs' := 0) (As := [_, _, _]) cs_X10_263 q_X10_way_167 (sp_wayAt hΓ u0 u16 kp i v (by omega) (by omega) (by omega)) rfl (by repeat first | with_reducible assumption | with_reducible exact hput_s _ _ _ | refine (hput_n _ _ (by omega)).trans ?_ | exact hput_s _ _ _ | assumption) rfl rfl rfl rfl (Nat.le_of_ble_eq_true rfl) (by decide) (by decide) (by decide) (fun _ _ h => h.elim) (k_ri ?_)
        refine g_topi (b := f v) ((hrow _ (by omega)).trans (fe v)) ?_
        refine g_icmp_eq (tgt := 177) q_X10_way_170 (by decide) ⟨by omega, by omega⟩ ⟨by omega, by omega⟩ (fun b7 => ?_) (fun b7 => ?_)
        · have q : mv v = false := by rw [hmv]; exact decide_eq_false (fun q => q (by rw [← hv]; exact b7))
          refine g_iconst q_X10_way_177 ?_
          refine g_iadd q_X10_way_178 ?_
          exact three _ (by rw [eC, q]; rfl)
        · have q : mv v = true := by rw [hmv]; exact decide_eq_true (by rw [← hv]; exact b7)
          refine g_iconst q_X10_way_173 ?_
          refine g_goto (tgt := 178) q_X10_way_174 (by decide) ?_
          refine g_iadd q_X10_way_178 ?_
          exact three _ (by rw [eC, q]; rfl)
      refine g_iload q_X10_way_133 rfl ?_
      refine g_iload q_X10_way_135 rfl ?_
      refine g_if_eq (tgt := 144) q_X10_way_137 (by decide) (bi_rg _) (fun b6 => ?_) (fun b6 => ?_)
      · rw [b6] at two ⊢
        refine g_iconst q_X10_way_144 ?_
        refine g_iadd q_X10_way_145 ?_
        refine g_istore (L' := [_, _, _, _, _, _, _, _, _, _, _]) q_X10_way_146 (by decide) rfl ?_
        exact two
      · rw [show bi (decide (∀ v, v < u → f v ≠ f u)) = 1 by have := bi_le (decide (∀ v, v < u → f v ≠ f u)); omega] at two ⊢
        refine g_iconst q_X10_way_140 ?_
        refine g_goto (tgt := 145) q_X10_way_141 (by decide) ?_
        refine g_iadd q_X10_way_145 ?_
        refine g_istore (L' := [_, _, _, _, _, _, _, _, _, _, _]) q_X10_way_146 (by decide) rfl ?_
        exact two
    have hnx2 := ih2 (u + 1) (by omega) (by omega)
    clear ih2 hnx
    have hfu := hfr u (by omega)
    have no : decide (∀ v, v < u + 1 → f v ≠ f t) = false → G Γ miX10_way cX10_way (fun r σ' => r = some (.int (ii (if w = 0 then C i else if w = 1 then C i - alcZ z i else if w = 2 then bcn (vsN f 41) else if w = 3 then cntN mv 40 else fstN gl 41))) ∧ SM σ m 0 len tx fa z l wl wr σ') noX 0 0 124 [some (.ref m), some (.int (ii bd)), some (.int (ii (i : Int))), some (.int (ii w)), some (.int (ii (cntN mv (t - 1)))), some (.int (ii u1)), some (.int (ii f1)), some (.int (ii t)), some (.int (ii (f t))), some (.int (ii (bi (decide (∀ v, v < u → f v ≠ f t))))), some (.int (ii u))] [] τ1 := fun q => by
      rw [q] at hnx2
      refine g_iconst q_X10_way_124 ?_
      refine g_istore (L' := [_, _, _, _, _, _, _, _, _, _, _]) q_X10_way_125 (by decide) rfl ?_
      refine g_iinc (L' := [_, _, _, _, _, _, _, _, _, _, _]) q_X10_way_127 rfl rfl ?_
      refine g_goto (tgt := 92) q_X10_way_130 (by decide) ?_
      exact hnx2
    refine g_iload q_X10_way_99 rfl ?_
    refine g_if_eq (tgt := 124) q_X10_way_101 (by decide) (bi_rg _) (fun b6 => ?_) (fun b6 => ?_)
    · have q := of_decide_eq_false (bi_f b6)
      exact no (decide_eq_false (fun q2 => q (fun v hv => q2 v (by omega))))
    have q6 := of_decide_eq_true (bi_t b6)
    refine g_aload_n q_X10_way_104 rfl ?_
    refine g_aload_n q_X10_way_105 rfl ?_
    refine g_get fl_X10_314 q_X10_way_106 (by repeat first | with_reducible assumption | with_reducible exact hput_s _ _ _ | refine (hput_n _ _ (by omega)).trans ?_ | exact hput_s _ _ _ | assumption) rfl ?_
    refine g_topi (b := (kp : Int)) (by exact j35) ?_
    refine g_iload_n q_X10_way_109 rfl ?_
    refine g_iload q_X10_way_110 rfl ?_
    refine g_callV (rc' := 0) (rs' := 0) (As := [_, _, _]) cs_X10_263 q_X10_way_112 (sp_wayAt hΓ u0 u16 kp i u (by omega) (by omega) (by omega)) rfl (by repeat first | with_reducible assumption | with_reducible exact hput_s _ _ _ | refine (hput_n _ _ (by omega)).trans ?_ | exact hput_s _ _ _ | assumption) rfl rfl rfl rfl (Nat.le_of_ble_eq_true rfl) (by decide) (by decide) (by decide) (fun _ _ h => h.elim) (k_ri ?_)
    refine g_topi (b := f u) ((hrow _ (by omega)).trans (fe u)) ?_
    refine g_iload q_X10_way_115 rfl ?_
    refine g_icmp_eq (tgt := 124) q_X10_way_117 (by decide) ⟨by omega, by omega⟩ ⟨by omega, by omega⟩ (fun b7 => ?_) (fun b7 => ?_)
    · exact no (decide_eq_false (fun q2 => q2 u (by omega) b7))
    · rw [decide_eq_true (show ∀ v, v < u + 1 → f v ≠ f t from fun v hv => by
        by_cases q : v = u
        · rw [q]; exact b7
        · exact q6 v (by omega))] at hnx2
      refine g_iconst q_X10_way_120 ?_
      refine g_goto (tgt := 125) q_X10_way_121 (by decide) ?_
      refine g_istore (L' := [_, _, _, _, _, _, _, _, _, _, _]) q_X10_way_125 (by decide) rfl ?_
      refine g_iinc (L' := [_, _, _, _, _, _, _, _, _, _, _]) q_X10_way_127 rfl rfl ?_
      refine g_goto (tgt := 92) q_X10_way_130 (by decide) ?_
      exact hnx2
  refine Sp_of (L := [_, _, _, _, _, _, _, _, _, _, _]) hΓ (by decide +kernel) rfl (Nat.le_of_ble_eq_true rfl) rfl ?_
  refine g_aload_n q_X10_way_0 rfl ?_
  refine g_aload_n q_X10_way_1 rfl ?_
  refine g_iload_n q_X10_way_2 rfl ?_
  refine g_callV (rc' := 0) (rs' := 0) (As := [_]) cs_X10_237 q_X10_way_3 (sp_isCart hΓ h0 hz.1.2.2 n5 c hc) rfl (by repeat first | with_reducible assumption | with_reducible exact hput_s _ _ _ | refine (hput_n _ _ (by omega)).trans ?_ | exact hput_s _ _ _ | assumption) rfl rfl rfl rfl (Nat.le_of_ble_eq_true rfl) (by decide) (by decide) (by decide) (fun _ _ h => h.elim) (k_rb ?_)
  refine g_if_ne (tgt := 13) q_X10_way_6 (by decide) (bi_rg _) (fun b1 => ?_) (fun b1 => ?_)
  case refine_2 =>
    have e1 : e = 1 := by rw [hEe]; exact eQ_f (decide_eq_false (of_decide_eq_false (bi_f (show bi (decide (0 ≤ c ∧ c < (zCa z : Int))) = 0 by omega))))
    refine g_iconst q_X10_way_9 ?_
    refine g_goto (tgt := 21) q_X10_way_10 (by decide) ?_
    refine g_topi (b := (e : Int)) (by rw [e1]; rfl) ?_
    exact fin σ I A eqOff.rfl' h hW (fun q => by omega)
  have c1 : cOK z c = true := decide_eq_true (of_decide_eq_true (bi_t b1))
  refine g_aload_n q_X10_way_13 rfl ?_
  refine g_iconst q_X10_way_14 ?_
  refine g_iload_n q_X10_way_15 rfl ?_
  refine g_iconst q_X10_way_16 ?_
  refine g_iconst q_X10_way_17 ?_
  refine g_callV (rc' := 0) (rs' := 0) (As := [_, _, _, _]) cs_X10_337 q_X10_way_18 (sp_wrongPlan hΓ h hW true bd hbd 2 3 (by decide) (by decide)) rfl (by repeat first | with_reducible assumption | with_reducible exact hput_s _ _ _ | refine (hput_n _ _ (by omega)).trans ?_ | exact hput_s _ _ _ | assumption) rfl rfl rfl rfl (Nat.le_of_ble_eq_true rfl) (by decide) (by decide) (by decide) (fun _ _ h => h.elim) (fun v τ hq => ?_)
  rw [← show e = _ from hEe.trans (eQ_t c1)] at hq
  obtain ⟨rfl, hE, J, B, hM, hWB, hP⟩ := hq
  exact fin τ J B hE hM hWB hP
end MPL5

