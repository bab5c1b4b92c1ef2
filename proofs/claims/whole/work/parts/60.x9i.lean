/-! CartPaths: what is asked of a plan -/
def aUsed (P : Nat → Int) (n : Nat) (c : Int) : Int := cntN (fun k => decide (fstN (fun t => decide (P (41 * k + t) = c)) 41 ≠ -1)) n
def aLeav (P : Nat → Int) (n : Nat) (c : Int) : Int := sumN (fun k => lvN P c k 40) n
def bzN (P : Nat → Int) (n : Nat) : Nat → Int × Int
  | 0 => (-1, 0)
  | k + 1 => if (bzN P n k).2 < aUsed P n k then ((k : Int), aUsed P n k) else bzN P n k
def aStep (P : Nat → Int) (c : Nat) : Int := cntN (fun t => decide (P (41 * c + (t + 1)) ≠ P (41 * c + t))) 40
def aWait (P C : Nat → Int) (n : Nat) : Int := sumN (fun c => C c - aStep P c) n
def aWho (P : Nat → Int) (n : Nat) (c : Int) (t : Nat) : Int := fstN (fun k => decide (P (41 * k + t) = c)) n
def nrN (P : Nat → Int) (c d : Nat) : Nat → Int × Int
  | 0 => (aprt (P (41 * c)) (P (41 * d)), 0)
  | t + 1 => if aprt (P (41 * c + (t + 1))) (P (41 * d + (t + 1))) < (nrN P c d t).1 then (aprt (P (41 * c + (t + 1))) (P (41 * d + (t + 1))), ((t + 1 : Nat) : Int)) else nrN P c d t
def flw (P : Nat → Int) (c d t : Nat) : Bool := (decide (P (41 * c + (t + 1)) ≠ P (41 * c + t)) && decide (P (41 * d + (t + 1)) ≠ P (41 * d + t))) && decide (P (41 * c + (t + 1)) = P (41 * d + t))
def aFoll (P : Nat → Int) (c d : Nat) : Int := cntN (flw P c d) 40
def shP (P : Nat → Int) (n c : Nat) : Bool := decide (2 ≤ aUsed P n c)
def aShar (P : Nat → Int) (n : Nat) (k : Int) : Int := if fstN (fun c => shP P n c && decide (cntN (shP P n) c = k)) 36 ≠ -1 then fstN (fun c => shP P n c && decide (cntN (shP P n) c = k)) 36 else if k = -1 then cntN (shP P n) 36 else -1
def endW (C : Nat → Int) (t : Int) : Nat → Nat
  | 0 => 0
  | c + 1 => if C c ≤ t then endW C t c ||| 2 ^ c else endW C t c
theorem endW_lt (C : Nat → Int) (t : Int) : ∀ c, c ≤ 5 → endW C t c < 32
  | 0, _ => by show 0 < 32; decide
  | c + 1, h => by
    have ih := endW_lt C t c (by omega)
    unfold endW
    split
    · exact Nat.or_lt_two_pow (n := 5) ih (Nat.pow_lt_pow_right (by decide) (by omega))
    · exact ih
section ACO
variable {P P' C C' : Nat → Int} {n : Nat}
theorem aUsed_cg (h : ∀ i, i < 41 * n → P i = P' i) (c : Int) : aUsed P n c = aUsed P' n c := cntN_cong fun k hk => by rw [fstN_cong (q := fun t => decide (P' (41 * k + t) = c)) (fun t ht => by rw [h _ (by omega)])]
theorem aLeav_cg (h : ∀ i, i < 41 * n → P i = P' i) (c : Int) : aLeav P n c = aLeav P' n c := sumN_cong fun k hk => cntN_cong fun t ht => by rw [h _ (by omega), h _ (by omega)]
theorem bzN_cg (h : ∀ i, i < 41 * n → P i = P' i) : ∀ k, bzN P n k = bzN P' n k
  | 0 => rfl
  | k + 1 => by unfold bzN; rw [bzN_cg h k, aUsed_cg h]
theorem aStep_cg (h : ∀ i, i < 41 * n → P i = P' i) {c : Nat} (hc : c < n) : aStep P c = aStep P' c := cntN_cong fun t ht => by rw [h _ (by omega), h _ (by omega)]
theorem aWait_cg (h : ∀ i, i < 41 * n → P i = P' i) (hC : ∀ c, c < n → C c = C' c) : aWait P C n = aWait P' C' n := sumN_cong fun c hc => by rw [hC c hc, aStep_cg h hc]
theorem aWho_cg (h : ∀ i, i < 41 * n → P i = P' i) (c : Int) {t : Nat} (ht : t < 41) : aWho P n c t = aWho P' n c t := fstN_cong fun k hk => by rw [h _ (by omega)]
theorem nrN_cg (h : ∀ i, i < 41 * n → P i = P' i) {c d : Nat} (hc : c < n) (hd : d < n) : ∀ t, t < 41 → nrN P c d t = nrN P' c d t
  | 0, _ => by unfold nrN; rw [h _ (by omega), h _ (by omega)]
  | t + 1, ht => by unfold nrN; rw [nrN_cg h hc hd t (by omega), h _ (by omega), h _ (by omega)]
theorem aFoll_cg (h : ∀ i, i < 41 * n → P i = P' i) {c d : Nat} (hc : c < n) (hd : d < n) : aFoll P c d = aFoll P' c d := cntN_cong fun t ht => by unfold flw; rw [h _ (by omega), h _ (by omega), h _ (by omega), h _ (by omega)]
theorem aShar_cg (h : ∀ i, i < 41 * n → P i = P' i) (k : Int) : aShar P n k = aShar P' n k := by
  have e : shP P n = shP P' n := by funext c; unfold shP; rw [aUsed_cg h]
  unfold aShar
  rw [e]
theorem endW_cg (h : ∀ c, c < n → C c = C' c) (t : Int) : ∀ c, c ≤ n → endW C t c = endW C' t c
  | 0, _ => rfl
  | c + 1, hc => by unfold endW; rw [endW_cg h t c (by omega), h c (by omega)]
theorem aUsed_rg (P : Nat → Int) {n : Nat} (c : Int) : 0 ≤ aUsed P n c ∧ aUsed P n c ≤ n := cntN_rg _ _
theorem aStep_rg (P : Nat → Int) (c : Nat) : 0 ≤ aStep P c ∧ aStep P c ≤ 40 := cntN_rg _ _
theorem bzN_rg (P : Nat → Int) (n : Nat) : ∀ k, 0 ≤ (bzN P n k).2 ∧ (bzN P n k).2 ≤ n
  | 0 => ⟨Int.le_refl 0, by show (0 : Int) ≤ n; omega⟩
  | k + 1 => by
    unfold bzN
    split
    · exact aUsed_rg P k
    · exact bzN_rg P n k
theorem aprt_rg {a b : Int} (ha : 0 ≤ a ∧ a < 36) (hb : 0 ≤ b ∧ b < 36) : 0 ≤ aprt a b ∧ aprt a b ≤ 10 := by
  unfold aprt adf
  split <;> split <;> omega
theorem nrN_rg (hP : okP P) (c d : Nat) : ∀ t, 0 ≤ (nrN P c d t).1 ∧ (nrN P c d t).1 ≤ 10
  | 0 => aprt_rg (hP _) (hP _)
  | t + 1 => by
    unfold nrN
    split
    · exact aprt_rg (hP _) (hP _)
    · exact nrN_rg hP c d t
end ACO
section X9I
variable {Γ : GT} {σ : AH} {x lo N : Nat} {R : Nat → Nat} {len : Nat} {tx : Nat → Int} {fa : Int} {z : PS} {l : List (Int × Int × Int)} {wl : Nat} {wr : Nat → Int} {D E : Nat}
def tOK (t : Int) : Bool := decide (0 ≤ t ∧ t ≤ 40)
def cOK (z : PS) (c : Int) : Bool := decide (0 ≤ c ∧ c < zCa z)
def xyOK (z : PS) (a b : Int) : Bool := decide (inXY z a b)
/-- 1 for what there is not, then the plan's -/
noncomputable def eQ (q : Bool) (pre : Bool) (bd : Int) (z : PS) : Nat := if q = false then 1 else eP pre bd z 2 3
theorem eQ_1 {q pre : Bool} {bd : Int} {z : PS} (h : q = false) : eQ q pre bd z = 1 := if_pos h
theorem eQ_t {q pre : Bool} {bd : Int} {z : PS} (h : q = true) : eQ q pre bd z = eP pre bd z 2 3 := if_neg (by rw [h]; decide)
theorem sp_at (hΓ : Gd Γ) (hN : N < 1000) (hX : CX σ x lo N R len tx fa z l wl wr) (bd c t : Int) (hb : rg bd) (hc : rg c) (ht : rg t) (hD : dC R (rG (cOK z c && (tOK t && bOK bd)) R z bd) ≤ D) (hE : dS R (rG (cOK z c && (tOK t && bOK bd)) R z bd) ≤ E) : Sp Γ miX9_at (8 + D) (48 + E) [.ref x, .int (ii bd), .int (ii c), .int (ii t)] σ (oQ (eQ (cOK z c) (tOK t) bd z) (pPZ z bd (41 * c + t).toNat) (SX σ x lo (N + 1) (rG (cOK z c && (tOK t && bOK bd)) R z bd) len tx fa z l wl wr)) (oX [xIOB, xIAE, xISE] (eQ (cOK z c) (tOK t) bd z) (SX σ x lo (N + 1) (rG (cOK z c && (tOK t && bOK bd)) R z bd) len tx fa z l wl wr)) := by
  have hX' := hX
  obtain ⟨ve, av, h1, h2, h3, h4, h5, q1, q2, -⟩ := hX'
  have hn := h4.1.1
  refine Sp_of (L := [_, _, _, _]) hΓ (by decide +kernel) rfl (Nat.le_of_ble_eq_true rfl) rfl ?_
  refine g_aload_n q_X9_at_0 rfl ?_
  refine g_iload_n q_X9_at_1 rfl ?_
  refine g_callV (rc' := 7 + D) (rs' := 42 + E) (As := [_]) cs_X9_133 q_X9_at_2 (sp_needCart hΓ hX c hc) rfl (by repeat first | with_reducible assumption | with_reducible exact hput_s _ _ _ | refine (hput_n _ _ (by omega)).trans ?_ | exact hput_s _ _ _ | assumption) rfl rfl rfl rfl (Nat.le_of_ble_eq_true rfl) (by decide) (by omega) (by omega) (fun E σ' h => by rw [show cOK z c = false from decide_eq_false h.2.1, eQ_1 rfl, Bool.false_and, rG_f rfl]; exact ⟨by decide, by rw [h.1]; rfl, SX.gr hX hN h.2.2⟩) (fun v σ' hq => ?_)
  obtain ⟨rfl, e1, hσ⟩ := hq
  rw [hσ]
  clear hσ
  have c1 : cOK z c = true := decide_eq_true e1
  rw [c1, Bool.true_and] at hD hE ⊢
  rw [eQ_t rfl]
  refine g_iload_n q_X9_at_5 rfl ?_
  refine g_callS (rc' := 6 + D) (rs' := 36 + E) (As := [_]) cs_X9_190 q_X9_at_6 (sp_needTime hΓ t ht) rfl rfl rfl (Nat.le_of_ble_eq_true rfl) (by decide) (by omega) (by omega) (fun E σ' h => by rw [show tOK t = false from decide_eq_false h.2.1, eP_1 rfl, Bool.false_and, rG_f rfl]; exact ⟨by decide, by rw [h.1]; rfl, SX.gr hX hN h.2.2⟩) (fun v σ' hq => ?_)
  obtain ⟨rfl, e2, hσ⟩ := hq
  rw [hσ]
  clear hσ
  have c2 : tOK t = true := decide_eq_true e2
  have hD' := hD
  have hE' := hE
  rw [c2, Bool.true_and] at hD' hE'
  refine g_aload_n q_X9_at_9 rfl ?_
  refine g_iload_n q_X9_at_10 rfl ?_
  refine g_callV (rc' := 4) (rs' := 24) (As := [_]) cs_X9_296 q_X9_at_11 (sp_planned hΓ hX bd hb hD' hE') rfl (by repeat first | with_reducible assumption | with_reducible exact hput_s _ _ _ | refine (hput_n _ _ (by omega)).trans ?_ | exact hput_s _ _ _ | assumption) rfl rfl rfl rfl (Nat.le_of_ble_eq_true rfl) (by decide) (by omega) (by omega) (fun E σ' h => plK h hN c2 ⟨by decide, rfl⟩ ⟨by decide, rfl⟩) (fun v σ1 hq => ?_)
  obtain ⟨⟨w1, w2⟩, T, rfl, m1, m2, m3, m4, ct, cs, cl, co, P, C, k0, k1, k2, o1, o2, o3, o4⟩ := hq
  obtain ⟨i, rfl⟩ : ∃ k : Nat, c = k := ⟨c.toNat, by omega⟩
  obtain ⟨u, rfl⟩ : ∃ k : Nat, t = k := ⟨t.toNat, by omega⟩
  refine g_iload_n q_X9_at_14 rfl ?_
  refine g_iload_n q_X9_at_15 rfl ?_
  refine g_callVN (rc' := 4) (rs' := 24) (As := [_, _]) cs_X9_193 q_X9_at_16 (sp_cellOf hΓ k0 k1 i u (by omega) (by omega)) rfl (by repeat first | with_reducible assumption | with_reducible exact hput_s _ _ _ | refine (hput_n _ _ (by omega)).trans ?_ | exact hput_s _ _ _ | assumption) rfl rfl rfl rfl (Nat.le_of_ble_eq_true rfl) (by decide) (by decide) (by decide) (fun _ _ h => h.elim) (k_ri ?_)
  refine g_ireturn q_X9_at_19.1 rfl ?_
  refine ⟨eP_0 c2 w1 w2, ?_, ?_⟩
  · rw [o4 _ (by omega), show (41 * (i : Int) + u).toNat = 41 * i + u by omega]
  · rw [c2]; exact SX.tr m2 (SX.of m1 hN)
end X9I

