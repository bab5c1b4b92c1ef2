/-! CartPaths.worse -/
def qxp (a b : Nat) : Nat → Nat → Nat
  | 0, e => e
  | f + 1, e => if b * 2 ^ (e + 1) ≤ a then qxp a b f (e + 1) else e
theorem qxp_le (a b : Nat) : ∀ f e, e ≤ qxp a b f e ∧ qxp a b f e ≤ e + f
  | 0, e => ⟨Nat.le_refl _, Nat.le_refl _⟩
  | f + 1, e => by
    unfold qxp
    split
    · have := qxp_le a b f (e + 1); omega
    · omega
def qQ (a b e : Nat) : Nat := a * 2 ^ (23 - e) / b
def qR (a b e : Nat) : Nat := a * 2 ^ (23 - e) % b
def qU (a b e : Nat) : Nat := if b < 2 * qR a b e ∨ (2 * qR a b e = b ∧ qQ a b e % 2 = 1) then qQ a b e + 1 else qQ a b e
/-- the bits of the float next to a / b -/
def qbt (a b : Nat) : Int := ((qxp a b 16 0 + 127) * 2 ^ 23 : Nat) + ((qU a b (qxp a b 16 0) : Int) - 2 ^ 23)
def lf (n : Nat) : Int64 := lb (BitVec.ofInt 64 (n : Int))
theorem lf_i {n : Nat} (h : n < 2 ^ 62) : (lf n).toInt = n := Int64.toInt_ofInt_of_le (by omega) (by omega)
theorem bo_i {n : Nat} (h : n < 2 ^ 62) : (BitVec.ofInt 64 (n : Int)).toInt = n := lf_i h
theorem lf_div {n m : Nat} (hn : n < 2 ^ 62) (hm : m < 2 ^ 62) : lf n / lf m = lf (n / m) := by
  apply Int64.toInt_inj.mp
  have h1 : n / m ≤ n := Nat.div_le_self n m
  have hs : Int.bmod ((n / m : Nat) : Int) (2 ^ 64) = ((n / m : Nat) : Int) := by
    generalize n / m = k at h1
    exact Int.bmod_eq_of_le (by omega) (by omega)
  rw [Int64.toInt_div, lf_i hn, lf_i hm, lf_i (by omega), Int.tdiv_eq_ediv_of_nonneg (Int.natCast_nonneg n)]
  exact hs
theorem lf_rem {n m : Nat} (hn : n < 2 ^ 62) (hm : m < 2 ^ 62) : lf n - lf n / lf m * lf m = lf (n % m) := by
  rw [lf_div hn hm]
  apply Int64.toInt_inj.mp
  have h1 : n % m ≤ n := Nat.mod_le n m
  have h2 := Nat.div_add_mod n m
  have h3 : n / m * m ≤ n := by rw [Nat.mul_comm]; omega
  have e1 : (lf (n / m) * lf m).toInt = ((n / m * m : Nat) : Int) := by
    rw [Int64.toInt_mul, lf_i (Nat.lt_of_le_of_lt (Nat.div_le_self n m) hn), lf_i hm, ← Int.natCast_mul]
    exact Int.bmod_eq_of_le (by omega) (by omega)
  rw [Int64.toInt_sub, e1, lf_i hn, lf_i (by omega)]
  have e2 : (n : Int) - ((n / m * m : Nat) : Int) = ((n % m : Nat) : Int) := by
    have : n / m * m = m * (n / m) := Nat.mul_comm _ _
    omega
  rw [e2]
  exact Int.bmod_eq_of_le (by omega) (by omega)
theorem bo_shl {n k : Nat} (h : n * 2 ^ k < 2 ^ 62) : (BitVec.ofInt 64 (n : Int)) <<< k = BitVec.ofInt 64 ((n * 2 ^ k : Nat) : Int) := by
  have hle : n ≤ n * 2 ^ k := Nat.le_mul_of_pos_right n (Nat.two_pow_pos k)
  apply BitVec.eq_of_toNat_eq
  rw [BitVec.toNat_shiftLeft, BitVec.toNat_ofInt, BitVec.toNat_ofInt, Nat.shiftLeft_eq]
  have e1 : ((n : Int) % ((2 ^ 64 : Nat) : Int)).toNat = n := by omega
  have e2 : (((n * 2 ^ k : Nat) : Int) % ((2 ^ 64 : Nat) : Int)).toNat = n * 2 ^ k := by omega
  rw [e1, e2]
  exact Nat.mod_eq_of_lt (by omega)
theorem lcm_i {n m : Nat} (hn : n < 2 ^ 62) (hm : m < 2 ^ 62) : lcm (BitVec.ofInt 64 (n : Int)) (BitVec.ofInt 64 (m : Int)) = if m < n then 1 else if n = m then 0 else -1 := by
  unfold lcm
  have e1 : (BitVec.ofInt 64 (m : Int)).slt (BitVec.ofInt 64 (n : Int)) = decide (m < n) := by
    unfold BitVec.slt
    rw [bo_i hn, bo_i hm]
    by_cases h : m < n
    · rw [decide_eq_true h, decide_eq_true (by omega)]
    · rw [decide_eq_false h, decide_eq_false (by omega)]
  have e2 : (BitVec.ofInt 64 (n : Int) = BitVec.ofInt 64 (m : Int)) ↔ n = m := by
    constructor
    · intro h
      have := congrArg BitVec.toInt h
      rw [bo_i hn, bo_i hm] at this
      omega
    · intro h; rw [h]
  rw [e1]
  by_cases h : m < n
  · rw [if_pos (decide_eq_true h), if_pos h]
  · rw [if_neg (by rw [decide_eq_false h]; decide), if_neg h]
    by_cases h2 : n = m
    · rw [if_pos (e2.mpr h2), if_pos h2]
    · rw [if_neg (fun q => h2 (e2.mp q)), if_neg h2]
theorem lcm_rg (a b : BitVec 64) : rg (lcm a b) := by
  unfold lcm
  split
  · exact ⟨by decide, by decide⟩
  · split <;> exact ⟨by decide, by decide⟩
theorem bo_add {n m : Nat} (h : n + m < 2 ^ 62) : BitVec.ofInt 64 (n : Int) + BitVec.ofInt 64 (m : Int) = BitVec.ofInt 64 ((n + m : Nat) : Int) := by
  rw [← BitVec.ofInt_add]; rfl
theorem bo_mul2 (n : Nat) : BitVec.ofInt 64 (2 : Int) * BitVec.ofInt 64 (n : Int) = BitVec.ofInt 64 ((2 * n : Nat) : Int) := by
  rw [← BitVec.ofInt_mul]; rfl
theorem bo_and1 {n : Nat} (h : n < 2 ^ 62) : BitVec.ofInt 64 (n : Int) &&& BitVec.ofInt 64 (1 : Int) = BitVec.ofInt 64 ((n % 2 : Nat) : Int) := by
  apply BitVec.eq_of_toNat_eq
  rw [BitVec.toNat_and, BitVec.toNat_ofInt, BitVec.toNat_ofInt, BitVec.toNat_ofInt]
  have e1 : ((n : Int) % ((2 ^ 64 : Nat) : Int)).toNat = n := by omega
  have e2 : (((n % 2 : Nat) : Int) % ((2 ^ 64 : Nat) : Int)).toNat = n % 2 := by omega
  have e3 : ((1 : Int) % ((2 ^ 64 : Nat) : Int)).toNat = 1 := by decide
  rw [e1, e2, e3]
  exact Nat.and_two_pow_sub_one_eq_mod n 1
theorem shl23 : ∀ e : Fin 17, ii (((e : Nat) : Int) + 127) <<< (ii 23 &&& 31) = ii (((((e : Nat) + 127) * 2 ^ 23 : Nat)) : Int) := by decide +kernel
section X9Q
variable {Γ : GT} {σ : AH} {x lo N : Nat} {R : Nat → Nat} {len : Nat} {tx : Nat → Int} {fa : Int} {z : PS} {l : List (Int × Int × Int)} {wl : Nat} {wr : Nat → Int} {D E : Nat}
theorem sp_quot0 (hΓ : Gd Γ) (a b : Int) (hb : rg b) (h : b ≤ 0) : Sp Γ miX9_quotientBits 0 0 [.int (ii a), .int (ii b)] σ (ri 1065353216 σ) noX := by
  refine Sp_of (L := [_, _, _, _, _, _, _, _, _]) hΓ (by decide +kernel) rfl (Nat.le_of_ble_eq_true rfl) rfl ?_
  refine g_iload_n q_X9_quotientBits_0 rfl ?_
  refine g_if_gt (tgt := 8) q_X9_quotientBits_1 (by decide) hb (fun e1 => ?_) (fun e1 => ?_)
  · omega
  · refine g_ldcw (z := 1065353216) q_X9_quotientBits_4 kc_X9_328 (by decide) ?_
    refine g_ireturn q_X9_quotientBits_7.1 rfl ?_
    exact ⟨rfl, rfl⟩
theorem sp_quot (hΓ : Gd Γ) (a b : Nat) (ha : a ≤ 1000) (hb : 0 < b) (hb2 : b ≤ 1000) : Sp Γ miX9_quotientBits 0 0 [.int (ii a), .int (ii b)] σ (ri (qbt a b) σ) noX := by
  have hpw : ∀ n e, n ≤ 1000 → e ≤ 23 → n * 2 ^ e < 2 ^ 62 := fun n e hn he => by
    have h1 : 2 ^ e ≤ 2 ^ 23 := Nat.pow_le_pow_right (by decide) he
    have h2 : n * 2 ^ e ≤ 1000 * 2 ^ 23 := Nat.mul_le_mul hn h1
    omega
  have go : ∀ e, e = qxp a b 16 0 → ∀ l3, G Γ miX9_quotientBits cX9_quotientBits (ri (qbt a b) σ) noX 0 0 39 [some (.int (ii a)), some (.int (ii b)), some (.int (ii e)), l3, none, none, none, none, none] [] σ := by
    intro e he l3
    have he16 := qxp_le a b 16 0
    rw [← he] at he16
    refine g_fl (L2 := [some (.int (ii a)), some (.int (ii b)), some (.int (ii e)), none, none, none, none, none, none]) ?_ ⟨rfl, rfl, rfl, trivial⟩
    have hS := hpw a (23 - e) ha (by omega)
    obtain ⟨S, hSe⟩ : ∃ S, S = a * 2 ^ (23 - e) := ⟨_, rfl⟩
    have hQ : qQ a b e = S / b := by unfold qQ; rw [hSe]
    have hRm : qR a b e = S % b := by unfold qR; rw [hSe]
    have hQl : qQ a b e ≤ S := by rw [hQ]; exact Nat.div_le_self S b
    have hRl : qR a b e ≤ S := by rw [hRm]; exact Nat.mod_le S b
    have hS31 : S ≤ 1000 * 2 ^ 23 := by
      rw [hSe]
      exact Nat.mul_le_mul ha (Nat.pow_le_pow_right (by decide) (by omega))
    have hne : ¬ lf b = 0 := fun q => by
      have := congrArg Int64.toInt q
      rw [lf_i (by omega)] at this
      have h0 : (0 : Int64).toInt = 0 := rfl
      omega
    refine g_iload_n q_X9_quotientBits_39 rfl ?_
    refine g_i2l q_X9_quotientBits_40 ⟨by omega, by omega⟩ ?_
    refine g_bipush q_X9_quotientBits_41 bp_23 ?_
    refine g_iload_n q_X9_quotientBits_43 rfl ?_
    refine g_isub q_X9_quotientBits_44 ?_
    refine g_topi (b := ((23 - e : Nat) : Int)) (by omega) ?_
    refine g_lshl q_X9_quotientBits_45 (by omega) (by omega) ?_
    rw [Int.toNat_natCast, bo_shl hS, ← hSe]
    refine g_lstore_n (L' := [_, _, _, _, _, _, _, _, _]) q_X9_quotientBits_46 (by decide) rfl ?_
    refine g_lload_n q_X9_quotientBits_47 rfl ?_
    refine g_iload_n q_X9_quotientBits_48 rfl ?_
    refine g_i2l q_X9_quotientBits_49 ⟨by omega, by omega⟩ ?_
    refine g_ldiv q_X9_quotientBits_50 hne ?_
    refine g_top (v' := .long (lb (BitVec.ofInt 64 ((qQ a b e : Nat) : Int)))) (congrArg Value.long (by rw [hQ]; exact lf_div (n := S) (m := b) (by omega) (by omega))) ?_
    refine g_lstore (L' := [_, _, _, _, _, _, _, _, _]) q_X9_quotientBits_51 (by decide) rfl ?_
    refine g_lload_n q_X9_quotientBits_53 rfl ?_
    refine g_iload_n q_X9_quotientBits_54 rfl ?_
    refine g_i2l q_X9_quotientBits_55 ⟨by omega, by omega⟩ ?_
    refine g_lrem q_X9_quotientBits_56 hne ?_
    refine g_top (v' := .long (lb (BitVec.ofInt 64 ((qR a b e : Nat) : Int)))) (congrArg Value.long (by rw [hRm]; exact lf_rem (n := S) (m := b) (by omega) (by omega))) ?_
    obtain ⟨q, hq⟩ : ∃ q, q = qQ a b e := ⟨_, rfl⟩
    obtain ⟨r, hr⟩ : ∃ r, r = qR a b e := ⟨_, rfl⟩
    rw [← hq, ← hr]
    have hU : qU a b e = if b < 2 * r ∨ (2 * r = b ∧ q % 2 = 1) then q + 1 else q := by unfold qU; rw [← hq, ← hr]
    have fin : ∀ u, u = qU a b e → G Γ miX9_quotientBits cX9_quotientBits (ri (qbt a b) σ) noX 0 0 98 [some (.int (ii a)), some (.int (ii b)), some (.int (ii e)), some (.long (lb (BitVec.ofInt 64 (S : Int)))), none, some (.long (lb (BitVec.ofInt 64 (u : Int)))), none, some (.long (lb (BitVec.ofInt 64 (r : Int)))), none] [] σ := by
      intro u hu
      have hub : u ≤ q + 1 := by rw [hu, hU]; split <;> omega
      refine g_iload_n q_X9_quotientBits_98 rfl ?_
      refine g_bipush q_X9_quotientBits_99 bp_127 ?_
      refine g_iadd q_X9_quotientBits_101 ?_
      refine g_bipush q_X9_quotientBits_102 bp_23 ?_
      refine g_ishl q_X9_quotientBits_104 ?_
      rw [shl23 ⟨e, by omega⟩]
      refine g_lload q_X9_quotientBits_105 rfl ?_
      refine g_ldc2 (b := BitVec.ofInt 64 (8388608 : Int)) q_X9_quotientBits_107 kc_X9_331 (by decide) ?_
      refine g_lsub q_X9_quotientBits_110 ?_
      refine g_l2i q_X9_quotientBits_111 ?_
      have ei : (BitVec.ofInt 64 (u : Int) - BitVec.ofInt 64 (8388608 : Int)).toInt = (u : Int) - 8388608 := by
        rw [BitVec.toInt_sub, bo_i (by omega), show (BitVec.ofInt 64 (8388608 : Int)).toInt = 8388608 by decide]
        exact Int.bmod_eq_of_le (by omega) (by omega)
      rw [ei]
      refine g_iadd q_X9_quotientBits_112 ?_
      refine g_ireturn q_X9_quotientBits_113.1 rfl ?_
      refine ⟨?_, rfl⟩
      unfold qbt
      rw [← he, hu]
      rfl
    have up : b < 2 * r ∨ (2 * r = b ∧ q % 2 = 1) → G Γ miX9_quotientBits cX9_quotientBits (ri (qbt a b) σ) noX 0 0 92 [some (.int (ii a)), some (.int (ii b)), some (.int (ii e)), some (.long (lb (BitVec.ofInt 64 (S : Int)))), none, some (.long (lb (BitVec.ofInt 64 (q : Int)))), none, some (.long (lb (BitVec.ofInt 64 (r : Int)))), none] [] σ := by
      intro h
      refine g_lload q_X9_quotientBits_92 rfl ?_
      refine g_lconst q_X9_quotientBits_94 ?_
      refine g_ladd q_X9_quotientBits_95 ?_
      refine g_top (v' := .long (lb (BitVec.ofInt 64 ((q + 1 : Nat) : Int)))) (congrArg Value.long (congrArg lb (bo_add (m := 1) (by omega)))) ?_
      refine g_lstore (L' := [_, _, _, _, _, _, _, _, _]) q_X9_quotientBits_96 (by decide) rfl ?_
      exact fin (q + 1) (by rw [hU, if_pos h])
    refine g_lstore (L' := [_, _, _, _, _, _, _, _, _]) q_X9_quotientBits_57 (by decide) rfl ?_
    refine g_ldc2 (b := BitVec.ofInt 64 (2 : Int)) q_X9_quotientBits_59 kc_X9_329 (by decide) ?_
    refine g_lload q_X9_quotientBits_62 rfl ?_
    refine g_lmul q_X9_quotientBits_64 ?_
    rw [bo_mul2]
    refine g_iload_n q_X9_quotientBits_65 rfl ?_
    refine g_i2l q_X9_quotientBits_66 ⟨by omega, by omega⟩ ?_
    refine g_lcmp q_X9_quotientBits_67 ?_
    rw [lcm_i (by omega) (by omega)]
    refine g_if_gt (tgt := 92) q_X9_quotientBits_68 (by decide) (by rw [← lcm_i (by omega) (by omega)]; exact lcm_rg _ _) (fun b1 => ?_) (fun b1 => ?_)
    · refine up (Or.inl ?_)
      split at b1
      · assumption
      · split at b1 <;> omega
    have b1' : ¬ b < 2 * r := fun w => by rw [if_pos w] at b1; omega
    refine g_ldc2 (b := BitVec.ofInt 64 (2 : Int)) q_X9_quotientBits_71 kc_X9_329 (by decide) ?_
    refine g_lload q_X9_quotientBits_74 rfl ?_
    refine g_lmul q_X9_quotientBits_76 ?_
    rw [bo_mul2]
    refine g_iload_n q_X9_quotientBits_77 rfl ?_
    refine g_i2l q_X9_quotientBits_78 ⟨by omega, by omega⟩ ?_
    refine g_lcmp q_X9_quotientBits_79 ?_
    rw [lcm_i (by omega) (by omega)]
    refine g_if_ne (tgt := 98) q_X9_quotientBits_80 (by decide) (by rw [← lcm_i (by omega) (by omega)]; exact lcm_rg _ _) (fun b2 => ?_) (fun b2 => ?_)
    · have hne9 : ¬ (b < 2 * r ∨ (2 * r = b ∧ q % 2 = 1)) := by
        rintro (w | ⟨w, -⟩)
        · exact b1' w
        · rw [if_neg b1', if_pos w] at b2; exact b2 rfl
      exact fin q (by rw [hU, if_neg hne9])
    have b2' : 2 * r = b := by
      rw [if_neg b1'] at b2
      split at b2
      · assumption
      · omega
    refine g_lload q_X9_quotientBits_83 rfl ?_
    refine g_lconst q_X9_quotientBits_85 ?_
    refine g_land q_X9_quotientBits_86 ?_
    refine g_top (v' := .long (lb (BitVec.ofInt 64 ((q % 2 : Nat) : Int)))) (congrArg Value.long (congrArg lb (bo_and1 (by omega)))) ?_
    refine g_lconst q_X9_quotientBits_87 ?_
    refine g_top (v' := .long (lb (BitVec.ofInt 64 ((1 : Nat) : Int)))) rfl ?_
    refine g_lcmp q_X9_quotientBits_88 ?_
    rw [lcm_i (by omega) (by omega)]
    refine g_if_ne (tgt := 98) q_X9_quotientBits_89 (by decide) (by rw [← lcm_i (by omega) (by omega)]; exact lcm_rg _ _) (fun b3 => ?_) (fun b3 => ?_)
    · have hne9 : ¬ (b < 2 * r ∨ (2 * r = b ∧ q % 2 = 1)) := by
        rintro (w | ⟨-, w⟩)
        · exact b1' w
        · rw [w] at b3; exact b3 rfl
      exact fin q (by rw [hU, if_neg hne9])
    · refine up (Or.inr ⟨b2', ?_⟩)
      split at b3
      · omega
      · split at b3
        · assumption
        · omega
  refine Sp_of (L := [_, _, _, _, _, _, _, _, _]) hΓ (by decide +kernel) rfl (Nat.le_of_ble_eq_true rfl) rfl ?_
  refine g_iload_n q_X9_quotientBits_0 rfl ?_
  refine g_if_gt (tgt := 8) q_X9_quotientBits_1 (by decide) ⟨by omega, by omega⟩ (fun e1 => ?_) (fun e1 => ?_)
  case refine_2 => omega
  refine g_iconst q_X9_quotientBits_8 ?_
  refine g_istore_n (L' := [_, _, _, _, _, _, _, _, _]) q_X9_quotientBits_9 (by decide) rfl ?_
  refine g_iconst q_X9_quotientBits_10 ?_
  refine g_istore_n (L' := [_, _, _, _, _, _, _, _, _]) q_X9_quotientBits_11 (by decide) rfl ?_
  refine g_loop (fun k => k ≤ 16 ∧ qxp a b (16 - k) k = qxp a b 16 0) (fun k : Nat => G Γ _ cX9_quotientBits _ _ 0 0 12 [some (.int (ii a)), some (.int (ii b)), some (.int (ii k)), some (.int (ii k)), none, none, none, none, none] [] σ) (fun k => 16 - k) ?_ 0 ⟨by decide, rfl⟩
  intro k ⟨hk, hx⟩ ih
  refine g_iload_n q_X9_quotientBits_12 rfl ?_
  refine g_bipush q_X9_quotientBits_13 bp_16 ?_
  refine g_icmp_ge (tgt := 39) q_X9_quotientBits_15 (by decide) ⟨by omega, by omega⟩ ⟨by omega, by omega⟩ (fun b1 => ?_) (fun b1 => ?_)
  · have e : k = 16 := by omega
    subst e
    exact go 16 hx _
  obtain ⟨f, hf⟩ : ∃ f, 16 - k = f + 1 := ⟨15 - k, by omega⟩
  rw [hf] at hx
  have hx' : (if b * 2 ^ (k + 1) ≤ a then qxp a b f (k + 1) else k) = qxp a b 16 0 := hx
  have hsh := hpw b (k + 1) hb2 (by omega)
  refine g_iload_n q_X9_quotientBits_18 rfl ?_
  refine g_i2l q_X9_quotientBits_19 ⟨by omega, by omega⟩ ?_
  refine g_iload_n q_X9_quotientBits_20 rfl ?_
  refine g_iconst q_X9_quotientBits_21 ?_
  refine g_iadd q_X9_quotientBits_22 ?_
  refine g_topi (b := ((k + 1 : Nat) : Int)) (by omega) ?_
  refine g_lshl q_X9_quotientBits_23 (by omega) (by omega) ?_
  rw [Int.toNat_natCast, bo_shl hsh]
  refine g_iload_n q_X9_quotientBits_24 rfl ?_
  refine g_i2l q_X9_quotientBits_25 ⟨by omega, by omega⟩ ?_
  refine g_lcmp q_X9_quotientBits_26 ?_
  rw [lcm_i hsh (by omega)]
  refine g_if_gt (tgt := 39) q_X9_quotientBits_27 (by decide) (by rw [← lcm_i hsh (by omega)]; exact lcm_rg _ _) (fun b2 => ?_) (fun b2 => ?_)
  · have hno : ¬ b * 2 ^ (k + 1) ≤ a := fun w => by
      rw [if_neg (by omega)] at b2
      split at b2 <;> omega
    rw [if_neg hno] at hx'
    exact go k hx' _
  · have hyes : b * 2 ^ (k + 1) ≤ a := by
      by_cases w : a < b * 2 ^ (k + 1)
      · rw [if_pos w] at b2; omega
      · omega
    rw [if_pos hyes] at hx'
    have hnx := ih (k + 1) ⟨by omega, by rw [show 16 - (k + 1) = f by omega]; exact hx'⟩ (by omega)
    refine g_iinc (L' := [_, _, _, _, _, _, _, _, _]) q_X9_quotientBits_30 rfl rfl ?_
    refine g_iinc (L' := [_, _, _, _, _, _, _, _, _]) q_X9_quotientBits_33 rfl rfl ?_
    refine g_goto (tgt := 12) q_X9_quotientBits_36 (by decide) ?_
    exact hnx
noncomputable def aWorse (z : PS) (bd : Int) : Int := if sumN (alcZ z) (zCa z) ≤ 0 then 1065353216 else qbt (sumN (pCZ z bd) (zCa z)).toNat (sumN (alcZ z) (zCa z)).toNat
theorem pC_rg {y : PS} (hg : gZ y) {bd : Int} (h : tP (bZ y bd) ≠ -1) : (∀ c, c < zCa y → 0 ≤ pCZ y bd c ∧ pCZ y bd c ≤ 40) ∧ allZ y = true := by
  rcases bld_inv (bd := bd) (okL_z hg) hg.2.2.1 hg.2.2.2.1 hg.1.2.2 with ⟨h9, -⟩ | ⟨g0, g1, -, -, g4, -⟩
  · exact absurd (show tP (bZ y bd) = -1 by unfold bZ; rw [h9]; rfl) h
  · refine ⟨?_, decide_eq_true g0⟩
    rcases g4 with g4 | ⟨k, g5, g6, -⟩
    · exact absurd g4 h
    · have w := (g1.2.2.2.2.2 k g5).2.2
      intro c hc
      unfold pCZ bZ
      rw [g6, Int.toNat_natCast]
      exact w c hc
theorem sp_worse (hΓ : Gd Γ) (hN : N < 1000) (hX : CX σ x lo N R len tx fa z l wl wr) (bd : Int) (hbd : rg bd) (hD : dC R (rG (bOK bd) R z bd) ≤ D) (hE : dS R (rG (bOK bd) R z bd) ≤ E) : Sp Γ miX9_worse (8 + D) (48 + E) [.ref x, .int (ii bd)] σ (oQ (eP true bd z 1 2) (aWorse z bd) (SX σ x lo (N + 1) (rG (bOK bd) R z bd) len tx fa z l wl wr)) (oX [xIAE, xISE] (eP true bd z 1 2) (SX σ x lo (N + 1) (rG (bOK bd) R z bd) len tx fa z l wl wr)) := by
  have hX' := hX
  obtain ⟨ve, av, h1, h2, h3, h4, h5, q1, q2, -⟩ := hX'
  have hn := h4.1.1
  refine Sp_of (L := [_, _, _, _]) hΓ (by decide +kernel) rfl (Nat.le_of_ble_eq_true rfl) rfl ?_
  refine g_aload_n q_X9_worse_0 rfl ?_
  refine g_iload_n q_X9_worse_1 rfl ?_
  refine g_callV (rc' := 6) (rs' := 36) (As := [_]) cs_X9_296 q_X9_worse_2 (sp_planned hΓ hX bd hbd hD hE) rfl (by repeat first | with_reducible assumption | with_reducible exact hput_s _ _ _ | refine (hput_n _ _ (by omega)).trans ?_ | exact hput_s _ _ _ | assumption) rfl rfl rfl rfl (Nat.le_of_ble_eq_true rfl) (by decide) (by omega) (by omega) (fun E σ' h => plK (pre := true) h hN rfl ⟨by decide, rfl⟩ ⟨by decide, rfl⟩) (fun v σ1 hq => ?_)
  obtain ⟨⟨w1, w2⟩, T, rfl, m1, m2, m3, m4, ct, cs, cl, co, P, C, k0, k1, k2, o1, o2, o3, o4⟩ := hq
  rw [eP_0 rfl w1 w2]
  obtain ⟨r1, r2⟩ := pC_rg h4.1 w2
  have rs := sumN_rg (C := pCZ z bd) (a := 0) (b := 40) (n := zCa z) r1
  refine g_callVN (rc' := 6) (rs' := 36) (As := []) cs_X9_249 q_X9_worse_5 (sp_sumCosts hΓ hn.2.2 k0 k2) rfl (by repeat first | with_reducible assumption | with_reducible exact hput_s _ _ _ | refine (hput_n _ _ (by omega)).trans ?_ | exact hput_s _ _ _ | assumption) rfl rfl rfl rfl (Nat.le_of_ble_eq_true rfl) (by decide) (by decide) (by decide) (fun _ _ h => h.elim) (k_ri ?_)
  rw [sumN_cong o3]
  have m1' := m1
  obtain ⟨ve1, av1, hh1⟩ := m1'
  have kx1 := hh1.2.2.2.2.2.2.1
  refine g_istore_n (L' := [_, _, _, _]) q_X9_worse_8 (by decide) rfl ?_
  refine g_aload_n q_X9_worse_9 rfl ?_
  refine g_callV (rc' := 6) (rs' := 36) (As := []) cs_X9_183 q_X9_worse_10 (sp_waysAlone hΓ m1) rfl (by repeat first | with_reducible assumption | with_reducible exact hput_s _ _ _ | refine (hput_n _ _ (by omega)).trans ?_ | exact hput_s _ _ _ | assumption) rfl rfl rfl rfl (Nat.le_of_ble_eq_true rfl) (by decide) (by decide) (by decide) (fun _ _ h => h.elim) (fun v σ2 hq => ?_)
  obtain ⟨rfl, n1, n2, ct2, cs2, cl2, co2, P2, C2, v0, v1, v2, s1, s2, s3⟩ := hq
  refine g_callVN (rc' := 6) (rs' := 36) (As := []) cs_X9_249 q_X9_worse_13 (sp_sumCosts hΓ hn.2.2 v0 v2) rfl (by repeat first | with_reducible assumption | with_reducible exact hput_s _ _ _ | refine (hput_n _ _ (by omega)).trans ?_ | exact hput_s _ _ _ | assumption) rfl rfl rfl rfl (Nat.le_of_ble_eq_true rfl) (by decide) (by decide) (by decide) (fun _ _ h => h.elim) (k_ri ?_)
  rw [sumN_cong (alV_P s3 r2).2]
  have rs2 := sumN_rg (C := alcZ z) (a := -1) (b := 40) (n := zCa z) (fun k _ => lcs_rg _ _ _ _ _)
  have hSX := SX.tr (m2.trans (awF_fX (lo := lo) n2) (fun _ _ h => h)) (SX.of n1 hN)
  refine g_istore_n (L' := [_, _, _, _]) q_X9_worse_16 (by decide) rfl ?_
  refine g_iload_n q_X9_worse_17 rfl ?_
  refine g_iload_n q_X9_worse_18 rfl ?_
  by_cases hz0 : sumN (alcZ z) (zCa z) ≤ 0
  · refine g_callS (rc' := 6) (rs' := 36) (As := [_, _]) cs_X9_325 q_X9_worse_19 (sp_quot0 hΓ _ _ ⟨by omega, by omega⟩ hz0) rfl rfl rfl (Nat.le_of_ble_eq_true rfl) (by decide) (by decide) (by decide) (fun _ _ h => h.elim) (k_ri ?_)
    refine g_ireturn q_X9_worse_22.1 rfl ?_
    exact ⟨rfl, by unfold aWorse; rw [if_pos hz0], hSX⟩
  · obtain ⟨A, hA⟩ : ∃ k : Nat, sumN (pCZ z bd) (zCa z) = k := ⟨(sumN (pCZ z bd) (zCa z)).toNat, by omega⟩
    obtain ⟨B, hB⟩ : ∃ k : Nat, sumN (alcZ z) (zCa z) = k := ⟨(sumN (alcZ z) (zCa z)).toNat, by omega⟩
    unfold aWorse
    rw [hA] at rs
    rw [hB] at rs2 hz0
    rw [hA, hB]
    rw [if_neg hz0, Int.toNat_natCast, Int.toNat_natCast]
    refine g_callS (rc' := 6) (rs' := 36) (As := [_, _]) cs_X9_325 q_X9_worse_19 (sp_quot hΓ A B (by omega) (by omega) (by omega)) rfl rfl rfl (Nat.le_of_ble_eq_true rfl) (by decide) (by decide) (by decide) (fun _ _ h => h.elim) (k_ri ?_)
    refine g_ireturn q_X9_worse_22.1 rfl ?_
    exact ⟨rfl, rfl, hSX⟩
end X9Q

