/-! CartPaths: far, among, count -/
section X9F
variable {Γ : GT} {σ : AH} {x lo N : Nat} {R : Nat → Nat} {len : Nat} {tx : Nat → Int} {fa : Int} {z : PS} {l : List (Int × Int × Int)} {wl : Nat} {wr : Nat → Int}
/-- the search alone has changed -/
theorem CXh.sch {σ σ' : AH} {ve : Nat} {av : Int} (h : CXh σ x lo N R len tx fa z l wl wr ve av) (hE : eqOff σ σ' (inb (x + 28) 4)) (hs : SRo σ' (x + 28)) : CXh σ' x lo N R len tx fa z l wl wr ve av := by
  have hx := h.2.2.2.2.2.2.1
  have ha := h.2.2.2.2.2.1.2
  have hk := h.2.2.2.2.2.2.2.2.2.2.2.2.1
  exact h.awch (eqOff.rfl'.trans hE (fun a i => Or.inr (by unfold inb at *; omega))) ((hE.2 x (by unfold inb; omega)).trans hx) ha hs (hk.kp (fun a i => hE.2 a (by unfold inb at *; omega)))
def eFar (z : PS) (a b c d : Int) : Nat := if inXY z a b ∧ inXY z c d then 0 else 1
def aFar (z : PS) (a b c d : Int) : Int := if zSO z (6 * b + a).toNat = 1 then -1 else lcs (lvZ z) (fun _ => 0) (fun _ => 0) (6 * b + a).toNat (6 * d + c).toNat
theorem sp_far (hΓ : Gd Γ) (hN : N < 1000) (hX : CX σ x lo N R len tx fa z l wl wr) (a b c d : Int) (ha : rg a) (hb : rg b) (hc : rg c) (hd : rg d) : Sp Γ miX9_far 8 48 [.ref x, .int (ii a), .int (ii b), .int (ii c), .int (ii d)] σ (oQ (eFar z a b c d) (aFar z a b c d) (SX σ x lo (N + 1) R len tx fa z l wl wr)) (oX [xIOB] (eFar z a b c d) (SX σ x lo (N + 1) R len tx fa z l wl wr)) := by
  have hX' := hX
  obtain ⟨ve, av, hh⟩ := hX'
  have hh' := hh
  obtain ⟨h1, h2, h3, h4, h5, q1, q2, q3, q4, q5, q6, q7, -⟩ := hh'
  have hn := h4.1.1
  have q4' := q4
  obtain ⟨g0, g1, g2, g3, g4, g5, g6⟩ := q4'
  refine Sp_of (L := [_, _, _, _, _, _, _]) hΓ (by decide +kernel) rfl (Nat.le_of_ble_eq_true rfl) rfl ?_
  refine g_aload_n q_X9_far_0 rfl ?_
  refine g_iload_n q_X9_far_1 rfl ?_
  refine g_iload_n q_X9_far_2 rfl ?_
  refine g_callV (rc' := 7) (rs' := 42) (As := [_, _]) cs_X9_129 q_X9_far_3 (sp_needCell hΓ hX a b ha hb) rfl (by repeat first | with_reducible assumption | with_reducible exact hput_s _ _ _ | refine (hput_n _ _ (by omega)).trans ?_ | exact hput_s _ _ _ | assumption) rfl rfl rfl rfl (Nat.le_of_ble_eq_true rfl) (by decide) (by decide) (by decide) (fun E σ' h => ⟨by unfold eFar; rw [if_neg (fun q => h.2.1 q.1)]; decide, by unfold eFar; rw [if_neg (fun q => h.2.1 q.1), h.1]; rfl, SX.gr hX hN h.2.2⟩) (fun v σ' hq => ?_)
  obtain ⟨e1, rfl, hσ⟩ := hq
  rw [hσ]
  clear hσ
  refine g_istore (L' := [_, _, _, _, _, _, _]) q_X9_far_6 (by decide) rfl ?_
  refine g_aload_n q_X9_far_8 rfl ?_
  refine g_iload_n q_X9_far_9 rfl ?_
  refine g_iload q_X9_far_10 rfl ?_
  refine g_callV (rc' := 6) (rs' := 36) (As := [_, _]) cs_X9_129 q_X9_far_12 (sp_needCell hΓ hX c d hc hd) rfl (by repeat first | with_reducible assumption | with_reducible exact hput_s _ _ _ | refine (hput_n _ _ (by omega)).trans ?_ | exact hput_s _ _ _ | assumption) rfl rfl rfl rfl (Nat.le_of_ble_eq_true rfl) (by decide) (by decide) (by decide) (fun E σ' h => ⟨by unfold eFar; rw [if_neg (fun q => h.2.1 q.2)]; decide, by unfold eFar; rw [if_neg (fun q => h.2.1 q.2), h.1]; rfl, SX.gr hX hN h.2.2⟩) (fun v σ' hq => ?_)
  obtain ⟨e2, rfl, hσ⟩ := hq
  rw [hσ]
  clear hσ
  have e3 : eFar z a b c d = 0 := by unfold eFar; rw [if_pos ⟨e1, e2⟩]
  rw [e3]
  unfold inXY at e1 e2
  unfold aFar
  obtain ⟨f, hf⟩ : ∃ c : Nat, 6 * b + a = c := ⟨(6 * b + a).toNat, by omega⟩
  obtain ⟨g, hg⟩ : ∃ k : Nat, 6 * d + c = k := ⟨(6 * d + c).toNat, by omega⟩
  rw [hf, hg, Int.toNat_natCast, Int.toNat_natCast]
  have hSr := h4.1.2.1 f
  refine g_istore (L' := [_, _, _, _, _, _, _]) q_X9_far_15 (by decide) rfl ?_
  refine g_aload_n q_X9_far_17 rfl ?_
  refine g_get fl_X9_19 q_X9_far_18 (by repeat first | with_reducible assumption | with_reducible exact hput_s _ _ _ | refine (hput_n _ _ (by omega)).trans ?_ | exact hput_s _ _ _ | assumption) rfl ?_
  refine g_get fl_X9_126 q_X9_far_21 (by repeat first | with_reducible assumption | with_reducible exact hput_s _ _ _ | refine (hput_n _ _ (by omega)).trans ?_ | exact hput_s _ _ _ | assumption) rfl ?_
  refine g_iload q_X9_far_24 rfl ?_
  refine g_iaload q_X9_far_26 (by repeat first | with_reducible assumption | with_reducible exact hput_s _ _ _ | refine (hput_n _ _ (by omega)).trans ?_ | exact hput_s _ _ _ | assumption) (by omega) (by omega) ?_
  refine g_topi (b := zSO z f) rfl ?_
  refine g_iconst q_X9_far_27 ?_
  refine g_icmp_ne (tgt := 33) q_X9_far_28 (by decide) ⟨by omega, by omega⟩ ⟨by omega, by omega⟩ (fun b1 => ?_) (fun b1 => ?_)
  · rw [if_neg b1]
    obtain ⟨s0, ⟨ce, s1⟩, ⟨mv, s2⟩, bk, s3⟩ := q7
    refine g_aload_n q_X9_far_33 rfl ?_
    refine g_get fl_X9_36 q_X9_far_34 (by repeat first | with_reducible assumption | with_reducible exact hput_s _ _ _ | refine (hput_n _ _ (by omega)).trans ?_ | exact hput_s _ _ _ | assumption) rfl ?_
    refine g_callVN (rc' := 6) (rs' := 36) (As := []) cs_X9_229 q_X9_far_37 (sp_clear hΓ s0 s1 s2) rfl (by repeat first | with_reducible assumption | with_reducible exact hput_s _ _ _ | refine (hput_n _ _ (by omega)).trans ?_ | exact hput_s _ _ _ | assumption) rfl rfl rfl rfl (Nat.le_of_ble_eq_true rfl) (by decide) (by decide) (by decide) (fun _ _ h => h.elim) (k_rv ?_)
    refine g_aload_n q_X9_far_40 rfl ?_
    refine g_get fl_X9_36 q_X9_far_41 (by repeat first | with_reducible assumption | with_reducible exact hput_s _ _ _ | refine (hput_n _ _ (by omega)).trans ?_ | exact hput_s _ _ _ | assumption) rfl ?_
    refine g_aload_n q_X9_far_44 rfl ?_
    refine g_get fl_X9_19 q_X9_far_45 (by repeat first | with_reducible assumption | with_reducible exact hput_s _ _ _ | refine (hput_n _ _ (by omega)).trans ?_ | exact hput_s _ _ _ | assumption) rfl ?_
    refine g_iload q_X9_far_48 rfl ?_
    refine g_iload q_X9_far_50 rfl ?_
    obtain ⟨τ, hτ⟩ : ∃ τ, τ = hput (hput σ (x + 28 + 1) (al 41 fun _ => 0)) (x + 28 + 2) (al 164 fun _ => 0) := ⟨_, rfl⟩
    have t0 : τ.2 (x + 28) = some (sro (x + 28)) := by rw [hτ]; exact (by repeat first | with_reducible assumption | with_reducible exact hput_s _ _ _ | refine (hput_n _ _ (by omega)).trans ?_ | exact hput_s _ _ _ | assumption)
    have t1 : τ.2 (x + 28 + 1) = some (al 41 fun _ => 0) := by rw [hτ]; exact (by repeat first | with_reducible assumption | with_reducible exact hput_s _ _ _ | refine (hput_n _ _ (by omega)).trans ?_ | exact hput_s _ _ _ | assumption)
    have t2 : τ.2 (x + 28 + 2) = some (al 164 fun _ => 0) := by rw [hτ]; exact (by repeat first | with_reducible assumption | with_reducible exact hput_s _ _ _ | refine (hput_n _ _ (by omega)).trans ?_ | exact hput_s _ _ _ | assumption)
    have t3 : τ.2 (x + 28 + 3) = some (al 41 bk) := by rw [hτ]; exact (by repeat first | with_reducible assumption | with_reducible exact hput_s _ _ _ | refine (hput_n _ _ (by omega)).trans ?_ | exact hput_s _ _ _ | assumption)
    have t4 : τ.2 (x + 10) = some (sco (x + 10) (zCo z) (zRo z) (zCa z)) := by rw [hτ]; exact (by repeat first | with_reducible assumption | with_reducible exact hput_s _ _ _ | refine (hput_n _ _ (by omega)).trans ?_ | exact hput_s _ _ _ | assumption)
    have t5 : τ.2 (x + 10 + 6) = some (al 4 (lvZ z)) := by rw [hτ]; exact (by repeat first | with_reducible assumption | with_reducible exact hput_s _ _ _ | refine (hput_n _ _ (by omega)).trans ?_ | exact hput_s _ _ _ | assumption)
    have hE : eqOff σ τ (inb (x + 28) 4) := by rw [hτ]; exact (eqOff.rfl'.put ⟨by omega, by omega⟩ _).put ⟨by omega, by omega⟩ _
    refine g_eq (σ2 := τ) rfl rfl hτ.symm ?_
    clear hτ
    refine g_callVN (rc' := 6) (rs' := 36) (As := [_, _, _]) cs_X9_230 q_X9_far_52 (sp_leastCost hΓ t0 t1 t2 t4 t5 f g (by omega) (by omega)) rfl (by repeat first | with_reducible assumption | with_reducible exact hput_s _ _ _ | refine (hput_n _ _ (by omega)).trans ?_ | exact hput_s _ _ _ | assumption) rfl rfl rfl rfl (Nat.le_of_ble_eq_true rfl) (by decide) (by decide) (by decide) (fun _ _ h => h.elim) (k_ri ?_)
    refine g_ireturn q_X9_far_55.1 rfl ?_
    exact ⟨rfl, rfl, SX.tr (eqG_fX hE (fun a i => by unfold inb at *; omega)) (SX.of ⟨ve, av, hh.sch hE ⟨t0, ⟨_, t1⟩, ⟨_, t2⟩, _, t3⟩⟩ hN)⟩
  · rw [if_pos (by omega)]
    refine g_iconst q_X9_far_31 ?_
    refine g_ireturn q_X9_far_32.1 rfl ?_
    exact ⟨rfl, rfl, SX.of hX hN⟩
/-- the places of all others of the first n are forbidden always -/
def amN (PL : Nat → Int) (c : Nat) : Nat → (Nat → BitVec 64)
  | 0 => fun _ => 0
  | k + 1 => if k = c then amN PL c k else fun t => amN PL c k t ||| bt1 (PL k).toNat
def aAmong (z : PS) (c : Nat) : Int := lcs (lvZ z) (fun _ => 0) (amN (zPL z) c (zCa z)) (zPL z c).toNat (zGO z c).toNat
theorem sp_among (hΓ : Gd Γ) (hN : N < 1000) (hX : CX σ x lo N R len tx fa z l wl wr) (c : Int) (hc : rg c) : Sp Γ miX9_among 8 48 [.ref x, .int (ii c)] σ (oQ (e1C z c) (aAmong z c.toNat) (SX σ x lo (N + 1) R len tx fa z l wl wr)) (oX [xIOB] (e1C z c) (SX σ x lo (N + 1) R len tx fa z l wl wr)) := by
  have hX' := hX
  obtain ⟨ve, av, hh⟩ := hX'
  have hh' := hh
  obtain ⟨h1, h2, h3, h4, h5, q1, q2, q3, q4, q5, q6, q7, -⟩ := hh'
  have hn := h4.1.1
  obtain ⟨g0, g1, g2, g3, g4, g5, g6⟩ := q4
  refine Sp_of (L := [_, _, _]) hΓ (by decide +kernel) rfl (Nat.le_of_ble_eq_true rfl) rfl ?_
  refine g_aload_n q_X9_among_0 rfl ?_
  refine g_iload_n q_X9_among_1 rfl ?_
  refine g_callV (rc' := 7) (rs' := 42) (As := [_]) cs_X9_133 q_X9_among_2 (sp_needCart hΓ hX c hc) rfl (by repeat first | with_reducible assumption | with_reducible exact hput_s _ _ _ | refine (hput_n _ _ (by omega)).trans ?_ | exact hput_s _ _ _ | assumption) rfl rfl rfl rfl (Nat.le_of_ble_eq_true rfl) (by decide) (by decide) (by decide) (fun E σ' h => ⟨by rw [e1C_1 h.2.1]; decide, by rw [e1C_1 h.2.1, h.1]; rfl, SX.gr hX hN h.2.2⟩) (fun v σ' hq => ?_)
  obtain ⟨rfl, e1, hσ⟩ := hq
  rw [hσ, e1C_0 e1]
  clear hσ
  obtain ⟨k, rfl⟩ : ∃ k : Nat, c = k := ⟨c.toNat, by omega⟩
  rw [Int.toNat_natCast]
  obtain ⟨s0, ⟨ce, s1⟩, ⟨mv, s2⟩, bk, s3⟩ := q7
  refine g_aload_n q_X9_among_5 rfl ?_
  refine g_get fl_X9_36 q_X9_among_6 (by repeat first | with_reducible assumption | with_reducible exact hput_s _ _ _ | refine (hput_n _ _ (by omega)).trans ?_ | exact hput_s _ _ _ | assumption) rfl ?_
  refine g_callVN (rc' := 7) (rs' := 42) (As := []) cs_X9_229 q_X9_among_9 (sp_clear hΓ s0 s1 s2) rfl (by repeat first | with_reducible assumption | with_reducible exact hput_s _ _ _ | refine (hput_n _ _ (by omega)).trans ?_ | exact hput_s _ _ _ | assumption) rfl rfl rfl rfl (Nat.le_of_ble_eq_true rfl) (by decide) (by decide) (by decide) (fun _ _ h => h.elim) (k_rv ?_)
  refine g_iconst q_X9_among_12 ?_
  refine g_istore_n (L' := [_, _, _]) q_X9_among_13 (by decide) rfl ?_
  have hP := h4.1.2.2.1
  have hGo := h4.1.2.2.2.1
  obtain ⟨τ, hτ⟩ : ∃ τ, τ = hput (hput σ (x + 28 + 1) (al 41 fun _ => 0)) (x + 28 + 2) (al 164 fun _ => 0) := ⟨_, rfl⟩
  refine g_eq (σ2 := τ) rfl rfl hτ.symm ?_
  have hE0 : eqOff σ τ (inb (x + 28) 4) := by rw [hτ]; exact (eqOff.rfl'.put ⟨by omega, by omega⟩ _).put ⟨by omega, by omega⟩ _
  have t1 : τ.2 (x + 28 + 1) = some (al 41 (amN (zPL z) k 0)) := by rw [hτ]; exact (by repeat first | with_reducible assumption | with_reducible exact hput_s _ _ _ | refine (hput_n _ _ (by omega)).trans ?_ | exact hput_s _ _ _ | assumption)
  have t2 : τ.2 (x + 28 + 2) = some (al 164 fun _ => 0) := by rw [hτ]; exact (by repeat first | with_reducible assumption | with_reducible exact hput_s _ _ _ | refine (hput_n _ _ (by omega)).trans ?_ | exact hput_s _ _ _ | assumption)
  have t0 : τ.2 (x + 28) = some (sro (x + 28)) := by rw [hτ]; exact (by repeat first | with_reducible assumption | with_reducible exact hput_s _ _ _ | refine (hput_n _ _ (by omega)).trans ?_ | exact hput_s _ _ _ | assumption)
  have t3 : τ.2 (x + 28 + 3) = some (al 41 bk) := by rw [hτ]; exact (by repeat first | with_reducible assumption | with_reducible exact hput_s _ _ _ | refine (hput_n _ _ (by omega)).trans ?_ | exact hput_s _ _ _ | assumption)
  clear hτ
  refine g_loop2 (fun (j : Nat) (τ : AH) => j ≤ zCa z ∧ eqOff σ τ (inb (x + 28) 4) ∧ τ.2 (x + 28) = some (sro (x + 28)) ∧ τ.2 (x + 28 + 1) = some (al 41 (amN (zPL z) k j)) ∧ τ.2 (x + 28 + 2) = some (al 164 fun _ => 0) ∧ τ.2 (x + 28 + 3) = some (al 41 bk)) (fun j τ => G Γ _ cX9_among _ _ 7 42 14 [some (.ref x), some (.int (ii k)), some (.int (ii j))] [] τ) (fun j τ => zCa z - j) ?_ 0 τ ⟨Nat.zero_le _, hE0, t0, t1, t2, t3⟩
  intro j τ ⟨hj, hE, t0, t1, t2, t3⟩ ih
  have e : ∀ a, ¬ inb (x + 28) 4 a → τ.2 a = σ.2 a := hE.2
  have kx := (e x (by unfold inb; omega)).trans q2
  have k0 := (e (x + 10) (by unfold inb; omega)).trans g0
  have k2 := (e (x + 10 + 2) (by unfold inb; omega)).trans g2
  have k3 := (e (x + 10 + 3) (by unfold inb; omega)).trans g3
  have k6 := (e (x + 10 + 6) (by unfold inb; omega)).trans g6
  refine g_iload_n q_X9_among_14 rfl ?_
  refine g_aload_n q_X9_among_15 rfl ?_
  refine g_get fl_X9_19 q_X9_among_16 (by repeat first | with_reducible assumption | with_reducible exact hput_s _ _ _ | refine (hput_n _ _ (by omega)).trans ?_ | exact hput_s _ _ _ | assumption) rfl ?_
  refine g_get fl_X9_113 q_X9_among_19 (by repeat first | with_reducible assumption | with_reducible exact hput_s _ _ _ | refine (hput_n _ _ (by omega)).trans ?_ | exact hput_s _ _ _ | assumption) rfl ?_
  refine g_icmp_ge (tgt := 52) q_X9_among_22 (by decide) ⟨by omega, by omega⟩ ⟨by omega, by omega⟩ (fun b1 => ?_) (fun b1 => ?_)
  · have ej : j = zCa z := by omega
    subst ej
    have hpk := hP k
    have hgk := hGo k
    obtain ⟨p, hp⟩ : ∃ p : Nat, zPL z k = p := ⟨(zPL z k).toNat, by have := hpk.2 (by omega); omega⟩
    obtain ⟨g, hg⟩ : ∃ p : Nat, zGO z k = p := ⟨(zGO z k).toNat, by have := hgk.2 (by omega); omega⟩
    refine g_aload_n q_X9_among_52 rfl ?_
    refine g_get fl_X9_36 q_X9_among_53 (by repeat first | with_reducible assumption | with_reducible exact hput_s _ _ _ | refine (hput_n _ _ (by omega)).trans ?_ | exact hput_s _ _ _ | assumption) rfl ?_
    refine g_aload_n q_X9_among_56 rfl ?_
    refine g_get fl_X9_19 q_X9_among_57 (by repeat first | with_reducible assumption | with_reducible exact hput_s _ _ _ | refine (hput_n _ _ (by omega)).trans ?_ | exact hput_s _ _ _ | assumption) rfl ?_
    refine g_aload_n q_X9_among_60 rfl ?_
    refine g_get fl_X9_19 q_X9_among_61 (by repeat first | with_reducible assumption | with_reducible exact hput_s _ _ _ | refine (hput_n _ _ (by omega)).trans ?_ | exact hput_s _ _ _ | assumption) rfl ?_
    refine g_get fl_X9_136 q_X9_among_64 (by repeat first | with_reducible assumption | with_reducible exact hput_s _ _ _ | refine (hput_n _ _ (by omega)).trans ?_ | exact hput_s _ _ _ | assumption) rfl ?_
    refine g_iload_n q_X9_among_67 rfl ?_
    refine g_iaload q_X9_among_68 (by repeat first | with_reducible assumption | with_reducible exact hput_s _ _ _ | refine (hput_n _ _ (by omega)).trans ?_ | exact hput_s _ _ _ | assumption) (by omega) (by omega) ?_
    refine g_topi (b := (p : Int)) (by exact hp) ?_
    refine g_aload_n q_X9_among_69 rfl ?_
    refine g_get fl_X9_19 q_X9_among_70 (by repeat first | with_reducible assumption | with_reducible exact hput_s _ _ _ | refine (hput_n _ _ (by omega)).trans ?_ | exact hput_s _ _ _ | assumption) rfl ?_
    refine g_get fl_X9_139 q_X9_among_73 (by repeat first | with_reducible assumption | with_reducible exact hput_s _ _ _ | refine (hput_n _ _ (by omega)).trans ?_ | exact hput_s _ _ _ | assumption) rfl ?_
    refine g_iload_n q_X9_among_76 rfl ?_
    refine g_iaload q_X9_among_77 (by repeat first | with_reducible assumption | with_reducible exact hput_s _ _ _ | refine (hput_n _ _ (by omega)).trans ?_ | exact hput_s _ _ _ | assumption) (by omega) (by omega) ?_
    refine g_topi (b := (g : Int)) (by exact hg) ?_
    refine g_callVN (rc' := 7) (rs' := 42) (As := [_, _, _]) cs_X9_230 q_X9_among_78 (sp_leastCost hΓ t0 t1 t2 k0 k6 p g (by omega) (by omega)) rfl (by repeat first | with_reducible assumption | with_reducible exact hput_s _ _ _ | refine (hput_n _ _ (by omega)).trans ?_ | exact hput_s _ _ _ | assumption) rfl rfl rfl rfl (Nat.le_of_ble_eq_true rfl) (by decide) (by decide) (by decide) (fun _ _ h => h.elim) (k_ri ?_)
    refine g_ireturn q_X9_among_81.1 rfl ?_
    refine ⟨rfl, ?_, SX.tr (eqG_fX hE (fun a i => by unfold inb at *; omega)) (SX.of ⟨ve, av, hh.sch hE ⟨t0, ⟨_, t1⟩, ⟨_, t2⟩, _, t3⟩⟩ hN)⟩
    unfold aAmong
    rw [hp, hg, Int.toNat_natCast, Int.toNat_natCast]
  · refine g_iload_n q_X9_among_25 rfl ?_
    refine g_iload_n q_X9_among_26 rfl ?_
    refine g_icmp_eq (tgt := 46) q_X9_among_27 (by decide) ⟨by omega, by omega⟩ ⟨by omega, by omega⟩ (fun b2 => ?_) (fun b2 => ?_)
    · have ej : j = k := by omega
      refine g_iinc (L' := [_, _, _]) q_X9_among_46 rfl rfl ?_
      refine g_goto (tgt := 14) q_X9_among_49 (by decide) ?_
      exact ih (j + 1) τ ⟨by omega, hE, t0, by unfold amN; rw [if_pos ej]; exact t1, t2, t3⟩ (by omega)
    · have hpj := hP j
      obtain ⟨p, hp⟩ : ∃ p : Nat, zPL z j = p := ⟨(zPL z j).toNat, by have := hpj.2 (by omega); omega⟩
      refine g_aload_n q_X9_among_30 rfl ?_
      refine g_get fl_X9_36 q_X9_among_31 (by repeat first | with_reducible assumption | with_reducible exact hput_s _ _ _ | refine (hput_n _ _ (by omega)).trans ?_ | exact hput_s _ _ _ | assumption) rfl ?_
      refine g_aload_n q_X9_among_34 rfl ?_
      refine g_get fl_X9_19 q_X9_among_35 (by repeat first | with_reducible assumption | with_reducible exact hput_s _ _ _ | refine (hput_n _ _ (by omega)).trans ?_ | exact hput_s _ _ _ | assumption) rfl ?_
      refine g_get fl_X9_136 q_X9_among_38 (by repeat first | with_reducible assumption | with_reducible exact hput_s _ _ _ | refine (hput_n _ _ (by omega)).trans ?_ | exact hput_s _ _ _ | assumption) rfl ?_
      refine g_iload_n q_X9_among_41 rfl ?_
      refine g_iaload q_X9_among_42 (by repeat first | with_reducible assumption | with_reducible exact hput_s _ _ _ | refine (hput_n _ _ (by omega)).trans ?_ | exact hput_s _ _ _ | assumption) (by omega) (by omega) ?_
      refine g_topi (b := (p : Int)) (by exact hp) ?_
      refine g_callVN (rc' := 7) (rs' := 42) (As := [_]) cs_X9_356 q_X9_among_43 (sp_forbidAlways hΓ t0 t1 p (by omega)) rfl (by repeat first | with_reducible assumption | with_reducible exact hput_s _ _ _ | refine (hput_n _ _ (by omega)).trans ?_ | exact hput_s _ _ _ | assumption) rfl rfl rfl rfl (Nat.le_of_ble_eq_true rfl) (by decide) (by decide) (by decide) (fun _ _ h => h.elim) (k_rv ?_)
      refine g_iinc (L' := [_, _, _]) q_X9_among_46 rfl rfl ?_
      refine g_goto (tgt := 14) q_X9_among_49 (by decide) ?_
      refine ih (j + 1) _ ⟨by omega, hE.put ⟨by omega, by omega⟩ _, (by repeat first | with_reducible assumption | with_reducible exact hput_s _ _ _ | refine (hput_n _ _ (by omega)).trans ?_ | exact hput_s _ _ _ | assumption), ?_, (by repeat first | with_reducible assumption | with_reducible exact hput_s _ _ _ | refine (hput_n _ _ (by omega)).trans ?_ | exact hput_s _ _ _ | assumption), (by repeat first | with_reducible assumption | with_reducible exact hput_s _ _ _ | refine (hput_n _ _ (by omega)).trans ?_ | exact hput_s _ _ _ | assumption)⟩ (by omega)
      rw [hput_s, show amN (zPL z) k (j + 1) = fun t => amN (zPL z) k j t ||| bt1 (zPL z j).toNat from if_neg (by omega), hp, Int.toNat_natCast]
def aCount (z : PS) (l : List (Int × Int × Int)) (wl : Nat) (w : Int) : Int := if w = 0 then zCo z else if w = 1 then zRo z else if w = 2 then zCa z else if w = 3 then sumN (fun y => frX (zSO z) y (zCo z)) (zRo z) else if w = 4 then facN (zCa z) else if w = 5 then l.length else if w = 6 then wl else if w = 7 then (if allZ z = true then sumN (alcZ z) (zCa z) else -1) else -1
theorem sp_count (hΓ : Gd Γ) (hN : N < 1000) (hX : CX σ x lo N R len tx fa z l wl wr) (w : Int) (hw : rg w) : Sp Γ miX9_count 8 48 [.ref x, .int (ii w)] σ (oQ 0 (aCount z l wl w) (SX σ x lo (N + 1) R len tx fa z l wl wr)) noX := by
  have hX' := hX
  obtain ⟨ve, av, hh⟩ := hX'
  obtain ⟨h1, h2, h3, h4, h5, q1, q2, q3, q4, q5, q6, -⟩ := hh
  have hn := h4.1.1
  have q4' := q4
  obtain ⟨g0, g1, g2, g3, g4, g5, g6⟩ := q4'
  have k9 := q6.2.1
  have hS := SX.of hX hN
  refine Sp_of (L := [_, _]) hΓ (by decide +kernel) rfl (Nat.le_of_ble_eq_true rfl) rfl ?_
  refine g_iload_n q_X9_count_0 rfl ?_
  by_cases hr : 0 ≤ w ∧ w ≤ 7
  · have hc : w = 0 ∨ w = 1 ∨ w = 2 ∨ w = 3 ∨ w = 4 ∨ w = 5 ∨ w = 6 ∨ w = 7 := by omega
    rcases hc with rfl | rfl | rfl | rfl | rfl | rfl | rfl | rfl
    · refine g_tswIn (off := 47) (tgt := 48) q_X9_count_1 ⟨by decide, by decide⟩ (by decide) (by decide) rfl (by decide) ?_
      refine g_aload_n q_X9_count_48 rfl ?_
      refine g_get fl_X9_19 q_X9_count_49 (by repeat first | with_reducible assumption | with_reducible exact hput_s _ _ _ | refine (hput_n _ _ (by omega)).trans ?_ | exact hput_s _ _ _ | assumption) rfl ?_
      refine g_get fl_X9_395 q_X9_count_52 (by repeat first | with_reducible assumption | with_reducible exact hput_s _ _ _ | refine (hput_n _ _ (by omega)).trans ?_ | exact hput_s _ _ _ | assumption) rfl ?_
      refine g_ireturn q_X9_count_55.1 rfl ?_
      exact ⟨rfl, rfl, hS⟩
    · refine g_tswIn (off := 55) (tgt := 56) q_X9_count_1 ⟨by decide, by decide⟩ (by decide) (by decide) rfl (by decide) ?_
      refine g_aload_n q_X9_count_56 rfl ?_
      refine g_get fl_X9_19 q_X9_count_57 (by repeat first | with_reducible assumption | with_reducible exact hput_s _ _ _ | refine (hput_n _ _ (by omega)).trans ?_ | exact hput_s _ _ _ | assumption) rfl ?_
      refine g_get fl_X9_392 q_X9_count_60 (by repeat first | with_reducible assumption | with_reducible exact hput_s _ _ _ | refine (hput_n _ _ (by omega)).trans ?_ | exact hput_s _ _ _ | assumption) rfl ?_
      refine g_ireturn q_X9_count_63.1 rfl ?_
      exact ⟨rfl, rfl, hS⟩
    · refine g_tswIn (off := 63) (tgt := 64) q_X9_count_1 ⟨by decide, by decide⟩ (by decide) (by decide) rfl (by decide) ?_
      refine g_aload_n q_X9_count_64 rfl ?_
      refine g_get fl_X9_19 q_X9_count_65 (by repeat first | with_reducible assumption | with_reducible exact hput_s _ _ _ | refine (hput_n _ _ (by omega)).trans ?_ | exact hput_s _ _ _ | assumption) rfl ?_
      refine g_get fl_X9_113 q_X9_count_68 (by repeat first | with_reducible assumption | with_reducible exact hput_s _ _ _ | refine (hput_n _ _ (by omega)).trans ?_ | exact hput_s _ _ _ | assumption) rfl ?_
      refine g_ireturn q_X9_count_71.1 rfl ?_
      exact ⟨rfl, rfl, hS⟩
    · refine g_tswIn (off := 71) (tgt := 72) q_X9_count_1 ⟨by decide, by decide⟩ (by decide) (by decide) rfl (by decide) ?_
      refine g_aload_n q_X9_count_72 rfl ?_
      refine g_get fl_X9_19 q_X9_count_73 (by repeat first | with_reducible assumption | with_reducible exact hput_s _ _ _ | refine (hput_n _ _ (by omega)).trans ?_ | exact hput_s _ _ _ | assumption) rfl ?_
      refine g_callVN (rc' := 8) (rs' := 48) (As := []) cs_X9_409 q_X9_count_76 (sp_countFree hΓ q4 hn.1 hn.2.1 h4.1.2.1) rfl (by repeat first | with_reducible assumption | with_reducible exact hput_s _ _ _ | refine (hput_n _ _ (by omega)).trans ?_ | exact hput_s _ _ _ | assumption) rfl rfl rfl rfl (Nat.le_of_ble_eq_true rfl) (by decide) (by decide) (by decide) (fun _ _ h => h.elim) (k_ri ?_)
      refine g_ireturn q_X9_count_79.1 rfl ?_
      exact ⟨rfl, rfl, hS⟩
    · obtain ⟨tF, hzF, hrF⟩ := st_FACTORIALS hΓ
      refine g_tswIn (off := 79) (tgt := 80) q_X9_count_1 ⟨by decide, by decide⟩ (by decide) (by decide) rfl (by decide) ?_
      refine g_getst ls_X9_359 hzF q_X9_count_80 ?_
      refine g_aload_n q_X9_count_83 rfl ?_
      refine g_get fl_X9_19 q_X9_count_84 (by repeat first | with_reducible assumption | with_reducible exact hput_s _ _ _ | refine (hput_n _ _ (by omega)).trans ?_ | exact hput_s _ _ _ | assumption) rfl ?_
      refine g_get fl_X9_113 q_X9_count_87 (by repeat first | with_reducible assumption | with_reducible exact hput_s _ _ _ | refine (hput_n _ _ (by omega)).trans ?_ | exact hput_s _ _ _ | assumption) rfl ?_
      refine g_iaload_ro q_X9_count_90 (by assumption) (by omega) (by omega) (by decide) ?_
      refine g_ireturn q_X9_count_91.1 rfl ?_
      refine ⟨rfl, ?_, hS⟩
      rw [Int.toNat_natCast, facN_eq]
      rfl
    · refine g_tswIn (off := 91) (tgt := 92) q_X9_count_1 ⟨by decide, by decide⟩ (by decide) (by decide) rfl (by decide) ?_
      refine g_aload_n q_X9_count_92 rfl ?_
      refine g_get fl_X9_29 q_X9_count_93 (by repeat first | with_reducible assumption | with_reducible exact hput_s _ _ _ | refine (hput_n _ _ (by omega)).trans ?_ | exact hput_s _ _ _ | assumption) rfl ?_
      refine g_get fl_X9_173 q_X9_count_96 (by repeat first | with_reducible assumption | with_reducible exact hput_s _ _ _ | refine (hput_n _ _ (by omega)).trans ?_ | exact hput_s _ _ _ | assumption) rfl ?_
      refine g_ireturn q_X9_count_99.1 rfl ?_
      exact ⟨rfl, rfl, hS⟩
    · refine g_tswIn (off := 99) (tgt := 100) q_X9_count_1 ⟨by decide, by decide⟩ (by decide) (by decide) rfl (by decide) ?_
      refine g_aload_n q_X9_count_100 rfl ?_
      refine g_get fl_X9_80 q_X9_count_101 (by repeat first | with_reducible assumption | with_reducible exact hput_s _ _ _ | refine (hput_n _ _ (by omega)).trans ?_ | exact hput_s _ _ _ | assumption) rfl ?_
      refine g_ireturn q_X9_count_104.1 rfl ?_
      exact ⟨rfl, rfl, hS⟩
    · refine g_tswIn (off := 104) (tgt := 105) q_X9_count_1 ⟨by decide, by decide⟩ (by decide) (by decide) rfl (by decide) ?_
      refine g_aload_n q_X9_count_105 rfl ?_
      refine g_callV (rc' := 8) (rs' := 48) (As := []) cs_X9_183 q_X9_count_106 (sp_waysAlone hΓ hX) rfl (by repeat first | with_reducible assumption | with_reducible exact hput_s _ _ _ | refine (hput_n _ _ (by omega)).trans ?_ | exact hput_s _ _ _ | assumption) rfl rfl rfl rfl (Nat.le_of_ble_eq_true rfl) (by decide) (by decide) (by decide) (fun _ _ h => h.elim) (fun v σ1 hq => ?_)
      obtain ⟨rfl, m1, m2, ct, cs, cl, co, P, C, w0, w1, w2, o1, o2, o3⟩ := hq
      refine g_callVN (rc' := 8) (rs' := 48) (As := []) cs_X9_196 q_X9_count_109 (sp_allGo hΓ hn.2.2 w0 w2 o2) rfl (by repeat first | with_reducible assumption | with_reducible exact hput_s _ _ _ | refine (hput_n _ _ (by omega)).trans ?_ | exact hput_s _ _ _ | assumption) rfl rfl rfl rfl (Nat.le_of_ble_eq_true rfl) (by decide) (by decide) (by decide) (fun _ _ h => h.elim) (k_rb ?_)
      rw [alV_all o3]
      obtain ⟨ve1, av1, hh1⟩ := m1
      have hx1 := hh1.2.2.2.2.2.2.1
      refine g_if_eq (tgt := 125) q_X9_count_112 (by decide) (bi_rg _) (fun e3 => ?_) (fun e3 => ?_)
      · refine g_iconst q_X9_count_125 ?_
        refine g_ireturn q_X9_count_126.1 rfl ?_
        refine ⟨rfl, ?_, SX.tr (awF_fX m2) (SX.of ⟨ve1, av1, hh1⟩ hN)⟩
        show some (Value.int (ii (-1))) = some (.int (ii (if allZ z = true then _ else -1)))
        rw [if_neg (by rw [bi_f e3]; decide)]
      · refine g_aload_n q_X9_count_115 rfl ?_
        refine g_callV (rc' := 8) (rs' := 48) (As := []) cs_X9_183 q_X9_count_116 (sp_waysAlone hΓ ⟨ve1, av1, hh1⟩) rfl (by repeat first | with_reducible assumption | with_reducible exact hput_s _ _ _ | refine (hput_n _ _ (by omega)).trans ?_ | exact hput_s _ _ _ | assumption) rfl rfl rfl rfl (Nat.le_of_ble_eq_true rfl) (by decide) (by decide) (by decide) (fun _ _ h => h.elim) (fun v σ2 hq => ?_)
        obtain ⟨rfl, m3, m4, ct, cs, cl, co, P, C, w0, w1, w2, o1, o2, o4⟩ := hq
        refine g_callVN (rc' := 8) (rs' := 48) (As := []) cs_X9_249 q_X9_count_119 (sp_sumCosts hΓ hn.2.2 w0 w2) rfl (by repeat first | with_reducible assumption | with_reducible exact hput_s _ _ _ | refine (hput_n _ _ (by omega)).trans ?_ | exact hput_s _ _ _ | assumption) rfl rfl rfl rfl (Nat.le_of_ble_eq_true rfl) (by decide) (by decide) (by decide) (fun _ _ h => h.elim) (k_ri ?_)
        refine g_goto (tgt := 126) q_X9_count_122 (by decide) ?_
        refine g_ireturn q_X9_count_126.1 rfl ?_
        refine ⟨rfl, ?_, SX.tr (eqG.trans (awF_fX m2) (awF_fX (lo := lo) m4) (fun _ _ h => h)) (SX.of m3 hN)⟩
        show some (Value.int (ii (sumN C (zCa z)))) = some (.int (ii (if allZ z = true then sumN (alcZ z) (zCa z) else -1)))
        rw [if_pos (bi_t e3), sumN_cong (alV_P o4 (bi_t e3)).2]
  · refine g_tswOut (tgt := 127) q_X9_count_1 hw (by omega) (by decide) ?_
    refine g_iconst q_X9_count_127 ?_
    refine g_ireturn q_X9_count_128.1 rfl ?_
    refine ⟨rfl, ?_, hS⟩
    unfold aCount
    rw [if_neg (by omega), if_neg (by omega), if_neg (by omega), if_neg (by omega), if_neg (by omega), if_neg (by omega), if_neg (by omega), if_neg (by omega)]
end X9F

