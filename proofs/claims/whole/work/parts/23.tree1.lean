/-! Tree: object t (T), nodes T + 1, first T + 2 .. T + 4, ways T + 5 .. T + 7, spare T + 8; a node a: object a, its row a + 1 -/
abbrev tro (T : Nat) (ve : Int) (nc spl : Nat) (lo pl : Int) (cu : Bool) : AE := ob 6 [.ref (T + 1), .ref (T + 2), .ref (T + 5), .ref (T + 8), .int (ii ve), .int (ii nc), .int (ii spl), .int (ii lo), .int (ii pl), .int (ii (bi cu))]
abbrev nod (a num : Nat) (pa : Option Nat) (ca ti fr to co su cl fo : Int) (sp : Bool) : AE := ob 1 [.int (ii num), va_rf pa, .int (ii ca), .int (ii ti), .int (ii fr), .int (ii to), .ref (a + 1), .int (ii co), .int (ii su), .int (ii cl), .int (ii fo), .int (ii (bi sp))]
/-- parent's number, cart, time, from, to, cost, sum, clashes, how much is forbidden, split, row -/
abbrev PN : Type := Nat × Int × Int × Int × Int × Int × Int × Int × Int × Bool × (Nat → Int)
def pPi (q : PN) : Nat := q.1
def pCa (q : PN) : Int := q.2.1
def pTi (q : PN) : Int := q.2.2.1
def pFr (q : PN) : Int := q.2.2.2.1
def pTo (q : PN) : Int := q.2.2.2.2.1
def pCo (q : PN) : Int := q.2.2.2.2.2.1
def pSu (q : PN) : Int := q.2.2.2.2.2.2.1
def pCl (q : PN) : Int := q.2.2.2.2.2.2.2.1
def pFo (q : PN) : Int := q.2.2.2.2.2.2.2.2.1
def pSp (q : PN) : Bool := q.2.2.2.2.2.2.2.2.2.1
def pRw (q : PN) : Nat → Int := q.2.2.2.2.2.2.2.2.2.2
def nadF (ad : Nat → Nat) (M : Nat) : Nat → Option Nat := fun k => if k < M then some (ad k) else none
def TND (σ : AH) (T M : Nat) (ad : Nat → Nat) : Prop := σ.2 (T + 1) = some (aq 3 301 (nadF ad M)) ∧ M ≤ 301 ∧ (∀ i j, i < j → j < M → ad i + 1 < ad j) ∧ (∀ k, k < M → T + 8 < ad k ∧ ad k + 1 < σ.1)
def NDx (σ : AH) (a num : Nat) (pa : Option Nat) (ca ti fr to co su cl fo : Int) (sp : Bool) (rw : Nat → Int) : Prop := σ.2 a = some (nod a num pa ca ti fr to co su cl fo sp) ∧ σ.2 (a + 1) = some (ai 41 rw)
def NDp (σ : AH) (ad : Nat → Nat) (k : Nat) (q : PN) : Prop := NDx σ (ad k) k (if k = 0 then none else some (ad (pPi q))) (pCa q) (pTi q) (pFr q) (pTo q) (pCo q) (pSu q) (pCl q) (pFo q) (pSp q) (pRw q)
def NDg (σ : AH) (ad : Nat → Nat) (k : Nat) : Prop := ∃ pa ca ti fr to co su cl fo sp rw, NDx σ (ad k) k pa ca ti fr to co su cl fo sp rw
def eqG (σ σ' : AH) (F : Nat → Prop) : Prop := σ.1 ≤ σ'.1 ∧ ∀ a, a < σ.1 → ¬ F a → σ'.2 a = σ.2 a
theorem eqG.rfl' {σ : AH} {F : Nat → Prop} : eqG σ σ F := ⟨Nat.le_refl _, fun _ _ _ => rfl⟩
theorem eqG.trans {σ σ1 σ2 : AH} {F G : Nat → Prop} (h : eqG σ σ1 F) (h2 : eqG σ1 σ2 G) (hg : ∀ a, a < σ.1 → G a → F a) : eqG σ σ2 F := ⟨Nat.le_trans h.1 h2.1, fun a ha hf => (h2.2 a (Nat.lt_of_lt_of_le ha h.1) (fun q => hf (hg a ha q))).trans (h.2 a ha hf)⟩
theorem eqG.off {σ σ' : AH} {F G : Nat → Prop} (h : eqOff σ σ' F) (hg : ∀ a, a < σ.1 → F a → G a) : eqG σ σ' G := ⟨by rw [h.1]; exact Nat.le_refl _, fun a ha hf => h.2 a (fun q => hf (hg a ha q))⟩
theorem eqG.put {σ σ' : AH} {F : Nat → Prop} (h : eqG σ σ' F) {a : Nat} (ha : a < σ.1 → F a) (e : AE) : eqG σ (hput σ' a e) F := ⟨h.1, fun b hb hf => by rw [hput_n _ _ (fun q => hf (by rw [q]; exact ha (by rw [← q]; exact hb)))]; exact h.2 b hb hf⟩
theorem eqG.new {σ σ' : AH} {F : Nat → Prop} (h : eqG σ σ' F) (e : AE) : eqG σ (hnew σ' e) F := ⟨Nat.le_succ_of_le h.1, fun b hb hf => by rw [hnew_n _ _ (by have := h.1; omega)]; exact h.2 b hb hf⟩
theorem TND.inj {σ : AH} {T M : Nat} {ad : Nat → Nat} (h : TND σ T M ad) {i j : Nat} (hi : i < M) (hj : j < M) (hne : i ≠ j) : ad i + 1 < ad j ∨ ad j + 1 < ad i := by
  rcases Nat.lt_or_ge i j with q | q
  · exact Or.inl (h.2.2.1 i j q hj)
  · exact Or.inr (h.2.2.1 j i (by omega) hi)
theorem NDx.keep {σ σ' : AH} {a num : Nat} {pa : Option Nat} {ca ti fr to co su cl fo : Int} {sp : Bool} {rw : Nat → Int} (h : NDx σ a num pa ca ti fr to co su cl fo sp rw) (e1 : σ'.2 a = σ.2 a) (e2 : σ'.2 (a + 1) = σ.2 (a + 1)) : NDx σ' a num pa ca ti fr to co su cl fo sp rw := ⟨e1.trans h.1, e2.trans h.2⟩
theorem sp_Node_init {Γ : GT} (hΓ : Gd Γ) {σ0 : AH} (num : Nat) : Sp Γ miX1_init 1 41 [.ref σ0.1, .int (ii num)] (hnew σ0 (ob 1 [.int (ii 0), .null, .int (ii 0), .int (ii 0), .int (ii 0), .int (ii 0), .null, .int (ii 0), .int (ii 0), .int (ii 0), .int (ii 0), .int (ii 0)])) (fun r σ' => r = none ∧ σ'.1 = σ0.1 + 2 ∧ NDx σ' σ0.1 num none (-1) (-1) (-1) (-1) 0 0 0 0 false (fun _ => 0) ∧ ∀ a, a < σ0.1 → σ'.2 a = σ0.2 a) noX := by
  obtain ⟨a, ha⟩ : ∃ a, a = σ0.1 := ⟨_, rfl⟩
  obtain ⟨τ, hτ⟩ : ∃ τ, τ = hnew σ0 (ob 1 [.int (ii 0), .null, .int (ii 0), .int (ii 0), .int (ii 0), .int (ii 0), .null, .int (ii 0), .int (ii 0), .int (ii 0), .int (ii 0), .int (ii 0)]) := ⟨_, rfl⟩
  have h0 : τ.2 a = some (ob 1 [.int (ii 0), .null, .int (ii 0), .int (ii 0), .int (ii 0), .int (ii 0), .null, .int (ii 0), .int (ii 0), .int (ii 0), .int (ii 0), .int (ii 0)]) := by rw [hτ, ha]; exact hnew_s _ _
  have h1 : τ.1 = a + 1 := by rw [hτ, ha]; rfl
  have hlow : ∀ b, b < a → τ.2 b = σ0.2 b := fun b hb => by rw [hτ, hnew_n _ _ (by omega)]
  rw [← hτ, ← ha]
  refine Sp_of (L := [_, _]) hΓ (by decide +kernel) rfl (Nat.le_of_ble_eq_true rfl) rfl ?_
  refine g_aload_n q_X1_init_0 rfl ?_
  refine g_oinit q_X1_init_1 oi_X1_3 (Nat.le_of_ble_eq_true rfl) (by decide) ?_
  refine g_aload_n q_X1_init_4 rfl ?_
  refine g_null q_X1_init_5 ?_
  refine g_put fp_X1_9 q_X1_init_6 (by repeat first | with_reducible assumption | with_reducible exact hput_s _ _ _ | refine (hput_n _ _ (by omega)).trans ?_ | exact hput_s _ _ _ | assumption) rfl rfl ?_
  refine g_aload_n q_X1_init_9 rfl ?_
  refine g_iconst q_X1_init_10 ?_
  refine g_put fp_X1_15 q_X1_init_11 (by repeat first | with_reducible assumption | with_reducible exact hput_s _ _ _ | refine (hput_n _ _ (by omega)).trans ?_ | exact hput_s _ _ _ | assumption) rfl rfl ?_
  refine g_aload_n q_X1_init_14 rfl ?_
  refine g_iconst q_X1_init_15 ?_
  refine g_put fp_X1_19 q_X1_init_16 (by repeat first | with_reducible assumption | with_reducible exact hput_s _ _ _ | refine (hput_n _ _ (by omega)).trans ?_ | exact hput_s _ _ _ | assumption) rfl rfl ?_
  refine g_aload_n q_X1_init_19 rfl ?_
  refine g_iconst q_X1_init_20 ?_
  refine g_put fp_X1_22 q_X1_init_21 (by repeat first | with_reducible assumption | with_reducible exact hput_s _ _ _ | refine (hput_n _ _ (by omega)).trans ?_ | exact hput_s _ _ _ | assumption) rfl rfl ?_
  refine g_aload_n q_X1_init_24 rfl ?_
  refine g_iconst q_X1_init_25 ?_
  refine g_put fp_X1_25 q_X1_init_26 (by repeat first | with_reducible assumption | with_reducible exact hput_s _ _ _ | refine (hput_n _ _ (by omega)).trans ?_ | exact hput_s _ _ _ | assumption) rfl rfl ?_
  refine g_aload_n q_X1_init_29 rfl ?_
  refine g_bipush q_X1_init_30 bp_41 ?_
  refine g_newI (rc' := 0) (rs' := 0) q_X1_init_32 (by decide) (by decide) (by decide) (by decide) ?_
  have hz : ∀ e1 e2 e3 e4 e5 : AE, (hput (hput (hput (hput (hput τ a e1) a e2) a e3) a e4) a e5).1 = a + 1 := fun _ _ _ _ _ => h1
  rw [hz]
  refine g_putF fp_X1_28 rfl ⟨_, _, rfl⟩ ⟨_, _, _, rfl, gw_1136⟩ q_X1_init_34 (by repeat first | with_reducible assumption | with_reducible exact hput_s _ _ _ | refine (hput_n _ _ (by (try simp only [hput_1, hnew_1]); omega)).trans ?_ | exact hput_s _ _ _ | exact hnew_at _ (by (try simp only [hput_1, hnew_1]); omega) | refine (hnew_n _ _ (by (try simp only [hput_1, hnew_1]); omega)).trans ?_ | assumption) rfl rfl ?_
  refine g_aload_n q_X1_init_37 rfl ?_
  refine g_iconst q_X1_init_38 ?_
  refine g_put fp_X1_32 q_X1_init_39 (by repeat first | with_reducible assumption | with_reducible exact hput_s _ _ _ | refine (hput_n _ _ (by (try simp only [hput_1, hnew_1]); omega)).trans ?_ | exact hput_s _ _ _ | exact hnew_at _ (by (try simp only [hput_1, hnew_1]); omega) | refine (hnew_n _ _ (by (try simp only [hput_1, hnew_1]); omega)).trans ?_ | assumption) rfl rfl ?_
  refine g_aload_n q_X1_init_42 rfl ?_
  refine g_iconst q_X1_init_43 ?_
  refine g_put fp_X1_35 q_X1_init_44 (by repeat first | with_reducible assumption | with_reducible exact hput_s _ _ _ | refine (hput_n _ _ (by (try simp only [hput_1, hnew_1]); omega)).trans ?_ | exact hput_s _ _ _ | exact hnew_at _ (by (try simp only [hput_1, hnew_1]); omega) | refine (hnew_n _ _ (by (try simp only [hput_1, hnew_1]); omega)).trans ?_ | assumption) rfl rfl ?_
  refine g_aload_n q_X1_init_47 rfl ?_
  refine g_iconst q_X1_init_48 ?_
  refine g_put fp_X1_38 q_X1_init_49 (by repeat first | with_reducible assumption | with_reducible exact hput_s _ _ _ | refine (hput_n _ _ (by (try simp only [hput_1, hnew_1]); omega)).trans ?_ | exact hput_s _ _ _ | exact hnew_at _ (by (try simp only [hput_1, hnew_1]); omega) | refine (hnew_n _ _ (by (try simp only [hput_1, hnew_1]); omega)).trans ?_ | assumption) rfl rfl ?_
  refine g_aload_n q_X1_init_52 rfl ?_
  refine g_iconst q_X1_init_53 ?_
  refine g_put fp_X1_41 q_X1_init_54 (by repeat first | with_reducible assumption | with_reducible exact hput_s _ _ _ | refine (hput_n _ _ (by (try simp only [hput_1, hnew_1]); omega)).trans ?_ | exact hput_s _ _ _ | exact hnew_at _ (by (try simp only [hput_1, hnew_1]); omega) | refine (hnew_n _ _ (by (try simp only [hput_1, hnew_1]); omega)).trans ?_ | assumption) rfl rfl ?_
  refine g_aload_n q_X1_init_57 rfl ?_
  refine g_iconst q_X1_init_58 ?_
  refine g_put fp_X1_44 q_X1_init_59 (by repeat first | with_reducible assumption | with_reducible exact hput_s _ _ _ | refine (hput_n _ _ (by (try simp only [hput_1, hnew_1]); omega)).trans ?_ | exact hput_s _ _ _ | exact hnew_at _ (by (try simp only [hput_1, hnew_1]); omega) | refine (hnew_n _ _ (by (try simp only [hput_1, hnew_1]); omega)).trans ?_ | assumption) rfl rfl ?_
  refine g_aload_n q_X1_init_62 rfl ?_
  refine g_iload_n q_X1_init_63 rfl ?_
  refine g_putF fp_X1_48 rfl ⟨_, _, rfl⟩ ⟨_, _, _, rfl, gw_1121⟩ q_X1_init_64 (by repeat first | with_reducible assumption | with_reducible exact hput_s _ _ _ | refine (hput_n _ _ (by (try simp only [hput_1, hnew_1]); omega)).trans ?_ | exact hput_s _ _ _ | exact hnew_at _ (by (try simp only [hput_1, hnew_1]); omega) | refine (hnew_n _ _ (by (try simp only [hput_1, hnew_1]); omega)).trans ?_ | assumption) rfl rfl ?_
  refine g_return q_X1_init_67.1 rfl ?_
  repeat rw [hput_hput]
  exact ⟨rfl, by rw [hput_1, hnew_1, hput_1, h1], ⟨hput_s _ _ _, (by repeat first | with_reducible assumption | with_reducible exact hput_s _ _ _ | refine (hput_n _ _ (by (try simp only [hput_1, hnew_1]); omega)).trans ?_ | exact hput_s _ _ _ | exact hnew_at _ (by (try simp only [hput_1, hnew_1]); omega) | refine (hnew_n _ _ (by (try simp only [hput_1, hnew_1]); omega)).trans ?_ | assumption)⟩, fun b hb => ((hput_n _ _ (by omega)).trans ((hnew_n _ _ (by rw [hput_1]; omega)).trans (hput_n _ _ (by omega)))).trans (hlow b hb)⟩
section TR1
variable {Γ : GT} {σ : AH} {T M : Nat} {ad : Nat → Nat} {ve lo pl : Int} {nc spl : Nat} {cu : Bool}
theorem sp_nextNode_old (hΓ : Gd Γ) (h0 : σ.2 T = some (tro T ve nc spl lo pl cu)) (hN : TND σ T M ad) (hM : nc < M) : Sp Γ miX6_nextNode 0 0 [.ref T] σ (fun r σ' => r = some (.ref (ad nc)) ∧ σ' = σ) noX := by
  obtain ⟨h1, hM1, hinc, hin⟩ := hN
  have hv : va_rf (nadF ad M nc) = .ref (ad nc) := by unfold nadF; rw [if_pos hM]; rfl
  refine Sp_of (L := [_]) hΓ (by decide +kernel) rfl (Nat.le_of_ble_eq_true rfl) rfl ?_
  refine g_aload_n q_X6_nextNode_0 rfl ?_
  refine g_get fl_X6_11 q_X6_nextNode_1 (by repeat first | with_reducible assumption | with_reducible exact hput_s _ _ _ | refine (hput_n _ _ (by omega)).trans ?_ | exact hput_s _ _ _ | assumption) rfl ?_
  refine g_aload_n q_X6_nextNode_4 rfl ?_
  refine g_get fl_X6_35 q_X6_nextNode_5 (by repeat first | with_reducible assumption | with_reducible exact hput_s _ _ _ | refine (hput_n _ _ (by omega)).trans ?_ | exact hput_s _ _ _ | assumption) rfl ?_
  refine g_aaload q_X6_nextNode_8 rfl (by repeat first | with_reducible assumption | with_reducible exact hput_s _ _ _ | refine (hput_n _ _ (by omega)).trans ?_ | exact hput_s _ _ _ | assumption) (by omega) (by omega) ?_
  refine g_top (v' := .ref (ad nc)) hv ?_
  refine g_ifnonnull (tgt := 32) q_X6_nextNode_9 (by decide) ?_
  refine g_aload_n q_X6_nextNode_32 rfl ?_
  refine g_get fl_X6_11 q_X6_nextNode_33 (by repeat first | with_reducible assumption | with_reducible exact hput_s _ _ _ | refine (hput_n _ _ (by omega)).trans ?_ | exact hput_s _ _ _ | assumption) rfl ?_
  refine g_aload_n q_X6_nextNode_36 rfl ?_
  refine g_get fl_X6_35 q_X6_nextNode_37 (by repeat first | with_reducible assumption | with_reducible exact hput_s _ _ _ | refine (hput_n _ _ (by omega)).trans ?_ | exact hput_s _ _ _ | assumption) rfl ?_
  refine g_aaload q_X6_nextNode_40 rfl (by repeat first | with_reducible assumption | with_reducible exact hput_s _ _ _ | refine (hput_n _ _ (by omega)).trans ?_ | exact hput_s _ _ _ | assumption) (by omega) (by omega) ?_
  refine g_top (v' := .ref (ad nc)) hv ?_
  refine g_areturn q_X6_nextNode_41.1 rfl (Or.inl ⟨_, rfl⟩) (Or.inr ⟨_, rfl⟩) ?_
  exact ⟨rfl, rfl⟩
theorem sp_nextNode_new (hΓ : Gd Γ) (hT : T + 8 < σ.1) (h0 : σ.2 T = some (tro T ve nc spl lo pl cu)) (hN : TND σ T nc ad) (hM : nc < 301) : Sp Γ miX6_nextNode 2 53 [.ref T] σ (fun r σ' => r = some (.ref σ.1) ∧ σ'.1 = σ.1 + 2 ∧ TND σ' T (nc + 1) (va_up ad nc σ.1) ∧ NDx σ' σ.1 nc none (-1) (-1) (-1) (-1) 0 0 0 0 false (fun _ => 0) ∧ ∀ a, a < σ.1 → a ≠ T + 1 → σ'.2 a = σ.2 a) noX := by
  obtain ⟨h1, hM1, hinc, hin⟩ := hN
  have hv : va_rf (nadF ad nc nc) = .null := by unfold nadF; rw [if_neg (by omega)]; rfl
  refine Sp_of (L := [_]) hΓ (by decide +kernel) rfl (Nat.le_of_ble_eq_true rfl) rfl ?_
  refine g_aload_n q_X6_nextNode_0 rfl ?_
  refine g_get fl_X6_11 q_X6_nextNode_1 (by repeat first | with_reducible assumption | with_reducible exact hput_s _ _ _ | refine (hput_n _ _ (by omega)).trans ?_ | exact hput_s _ _ _ | assumption) rfl ?_
  refine g_aload_n q_X6_nextNode_4 rfl ?_
  refine g_get fl_X6_35 q_X6_nextNode_5 (by repeat first | with_reducible assumption | with_reducible exact hput_s _ _ _ | refine (hput_n _ _ (by omega)).trans ?_ | exact hput_s _ _ _ | assumption) rfl ?_
  refine g_aaload q_X6_nextNode_8 rfl (by repeat first | with_reducible assumption | with_reducible exact hput_s _ _ _ | refine (hput_n _ _ (by omega)).trans ?_ | exact hput_s _ _ _ | assumption) (by omega) (by omega) ?_
  refine g_top (v' := .null) hv ?_
  refine g_ifnonnullN q_X6_nextNode_9 ?_
  refine g_aload_n q_X6_nextNode_12 rfl ?_
  refine g_get fl_X6_11 q_X6_nextNode_13 (by repeat first | with_reducible assumption | with_reducible exact hput_s _ _ _ | refine (hput_n _ _ (by omega)).trans ?_ | exact hput_s _ _ _ | assumption) rfl ?_
  refine g_aload_n q_X6_nextNode_16 rfl ?_
  refine g_get fl_X6_35 q_X6_nextNode_17 (by repeat first | with_reducible assumption | with_reducible exact hput_s _ _ _ | refine (hput_n _ _ (by omega)).trans ?_ | exact hput_s _ _ _ | assumption) rfl ?_
  refine g_new (rc' := 1) (rs' := 41) nw_X6_9 rfl q_X6_nextNode_20 (by decide) (by decide) ?_
  refine g_dup q_X6_nextNode_23 rfl ?_
  refine g_aload_n q_X6_nextNode_24 rfl ?_
  refine g_get fl_X6_35 q_X6_nextNode_25 (by repeat first | with_reducible assumption | with_reducible exact hput_s _ _ _ | refine (hput_n _ _ (by (try simp only [hput_1, hnew_1]); omega)).trans ?_ | exact hput_s _ _ _ | exact hnew_at _ (by (try simp only [hput_1, hnew_1]); omega) | refine (hnew_n _ _ (by (try simp only [hput_1, hnew_1]); omega)).trans ?_ | assumption) rfl ?_
  refine g_callIN (rc' := 0) (rs' := 0) (As := [_]) cs_X6_83 q_X6_nextNode_28 (sp_Node_init (σ0 := σ) hΓ nc) rfl rfl rfl rfl rfl (Nat.le_of_ble_eq_true rfl) (by decide) (by decide) (by decide) (fun _ _ h => h.elim) (fun v σ' hq => ?_)
  obtain ⟨rfl, hs1, hnd, hlow⟩ := hq
  have k0 : σ'.2 T = some (tro T ve nc spl lo pl cu) := (hlow T (by omega)).trans h0
  have k1 : σ'.2 (T + 1) = some (aq 3 301 (nadF ad nc)) := (hlow (T + 1) (by omega)).trans h1
  refine g_aastore q_X6_nextNode_31 k1 (by omega) (by omega) hnd.1 (r := (RX1, TX1, 12)) rfl rfl ?_
  have hv2 : va_rf (va_up (nadF ad nc) nc (some σ.1) nc) = .ref σ.1 := by unfold va_up; rw [if_pos rfl]; rfl
  refine g_aload_n q_X6_nextNode_32 rfl ?_
  refine g_get fl_X6_11 q_X6_nextNode_33 (by repeat first | with_reducible assumption | with_reducible exact hput_s _ _ _ | refine (hput_n _ _ (by omega)).trans ?_ | exact hput_s _ _ _ | assumption) rfl ?_
  refine g_aload_n q_X6_nextNode_36 rfl ?_
  refine g_get fl_X6_35 q_X6_nextNode_37 (by repeat first | with_reducible assumption | with_reducible exact hput_s _ _ _ | refine (hput_n _ _ (by omega)).trans ?_ | exact hput_s _ _ _ | assumption) rfl ?_
  refine g_aaload q_X6_nextNode_40 rfl (by repeat first | with_reducible assumption | with_reducible exact hput_s _ _ _ | refine (hput_n _ _ (by omega)).trans ?_ | exact hput_s _ _ _ | assumption) (by omega) (by omega) ?_
  refine g_top (v' := .ref σ.1) hv2 ?_
  refine g_areturn q_X6_nextNode_41.1 rfl (Or.inl ⟨_, rfl⟩) (Or.inr ⟨_, rfl⟩) ?_
  have hf : va_up (nadF ad nc) nc (some σ.1) = nadF (va_up ad nc σ.1) (nc + 1) := by
    funext k
    simp only [va_up, nadF]
    by_cases q : k = nc
    · rw [if_pos q, if_pos (by omega), if_pos q]
    · rw [if_neg q, if_neg q]
      by_cases q2 : k < nc
      · rw [if_pos q2, if_pos (by omega)]
      · rw [if_neg q2, if_neg (by omega)]
  refine ⟨rfl, hs1, ⟨by rw [← hf]; exact hput_s _ _ _, by omega, fun i j hij hj => ?_, fun k hk => ?_⟩, hnd.keep (hput_n _ _ (by omega)) (hput_n _ _ (by omega)), fun a ha hne => (hput_n _ _ hne).trans (hlow a ha)⟩
  · unfold va_up
    by_cases q : j = nc
    · rw [if_pos q, if_neg (by omega)]
      have := hin i (by omega)
      omega
    · rw [if_neg q, if_neg (by omega)]
      exact hinc i j hij (by omega)
  · unfold va_up
    rw [hput_1, hs1]
    by_cases q : k = nc
    · rw [if_pos q]; omega
    · rw [if_neg q]
      have := hin k (by omega)
      omega
def lwN (pn : Nat → PN) : Nat → Int
  | 0 => -1
  | k + 1 => if pSp (pn k) = false ∧ (lwN pn k = -1 ∨ pSu (pn k) < lwN pn k) then pSu (pn k) else lwN pn k
def okN (pn : Nat → PN) (nc : Nat) : Prop := ∀ k, k < nc → 0 ≤ pSu (pn k) ∧ pSu (pn k) ≤ 1000 ∧ 0 ≤ pCl (pn k) ∧ pCl (pn k) ≤ 1000
theorem lwN_rg {pn : Nat → PN} : ∀ {nc : Nat}, okN pn nc → -1 ≤ lwN pn nc ∧ lwN pn nc ≤ 1000
  | 0, _ => ⟨by show (-1 : Int) ≤ -1; decide, by show (-1 : Int) ≤ 1000; decide⟩
  | k + 1, h => by
    have ih := lwN_rg (nc := k) (fun j hj => h j (by omega))
    have := h k (by omega)
    unfold lwN
    split <;> omega
theorem sp_leastWaiting (hΓ : Gd Γ) (h0 : σ.2 T = some (tro T ve nc spl lo pl cu)) (hN : TND σ T M ad) (hM : nc ≤ M) {pn : Nat → PN} (hk : ∀ k, k < nc → NDp σ ad k (pn k)) (hok : okN pn nc) : Sp Γ miX6_leastWaiting 0 0 [.ref T] σ (ri (lwN pn nc) σ) noX := by
  obtain ⟨h1, hM1, hinc, hin⟩ := hN
  refine Sp_of (L := [_, _, _, _]) hΓ (by decide +kernel) rfl (Nat.le_of_ble_eq_true rfl) rfl ?_
  refine g_iconst q_X6_leastWaiting_0 ?_
  refine g_istore_n (L' := [_, _, _, _]) q_X6_leastWaiting_1 (by decide) rfl ?_
  refine g_iconst q_X6_leastWaiting_2 ?_
  refine g_istore_n (L' := [_, _, _, _]) q_X6_leastWaiting_3 (by decide) rfl ?_
  refine g_loop (fun k => k ≤ nc) (fun k : Nat => G Γ _ cX6_leastWaiting _ _ 0 0 4 [some (.ref T), some (.int (ii (lwN pn k))), some (.int (ii k)), none] [] σ) (fun k => nc - k) ?_ 0 (Nat.zero_le _)
  intro k hkn ih
  refine g_iload_n q_X6_leastWaiting_4 rfl ?_
  refine g_aload_n q_X6_leastWaiting_5 rfl ?_
  refine g_get fl_X6_35 q_X6_leastWaiting_6 (by repeat first | with_reducible assumption | with_reducible exact hput_s _ _ _ | refine (hput_n _ _ (by omega)).trans ?_ | exact hput_s _ _ _ | assumption) rfl ?_
  refine g_icmp_ge (tgt := 50) q_X6_leastWaiting_9 (by decide) ⟨by omega, by omega⟩ ⟨by omega, by omega⟩ (fun hx => ?_) (fun hx => ?_)
  · have e : k = nc := by omega
    subst e
    refine g_iload_n q_X6_leastWaiting_50 rfl ?_
    refine g_ireturn q_X6_leastWaiting_51.1 rfl ?_
    exact ⟨rfl, rfl⟩
  · have hn := (hk k (by omega)).1
    have hv : va_rf (nadF ad M k) = .ref (ad k) := by unfold nadF; rw [if_pos (by omega)]; rfl
    have ho := hok k (by omega)
    have hl := lwN_rg (pn := pn) (nc := k) (fun j hj => hok j (by omega))
    have hnx := ih (k + 1) (by omega) (by omega)
    refine g_aload_n q_X6_leastWaiting_12 rfl ?_
    refine g_get fl_X6_11 q_X6_leastWaiting_13 (by repeat first | with_reducible assumption | with_reducible exact hput_s _ _ _ | refine (hput_n _ _ (by omega)).trans ?_ | exact hput_s _ _ _ | assumption) rfl ?_
    refine g_iload_n q_X6_leastWaiting_16 rfl ?_
    refine g_aaload q_X6_leastWaiting_17 rfl (by repeat first | with_reducible assumption | with_reducible exact hput_s _ _ _ | refine (hput_n _ _ (by omega)).trans ?_ | exact hput_s _ _ _ | assumption) (by omega) (by omega) ?_
    refine g_top (v' := .ref (ad k)) hv ?_
    refine g_astore_n (L' := [_, _, _, _]) q_X6_leastWaiting_18 (by decide) rfl ?_
    refine g_aload_n q_X6_leastWaiting_19 rfl ?_
    refine g_get fl_X6_70 q_X6_leastWaiting_20 (by repeat first | with_reducible assumption | with_reducible exact hput_s _ _ _ | refine (hput_n _ _ (by omega)).trans ?_ | exact hput_s _ _ _ | assumption) rfl ?_
    refine g_if_ne (tgt := 44) q_X6_leastWaiting_23 (by decide) (bi_rg _) (fun e1 => ?_) (fun e1 => ?_)
    · rw [show lwN pn (k + 1) = lwN pn k by rw [lwN, if_neg (fun z => by rw [bi_t e1] at z; cases z.1)]] at hnx
      refine g_iinc (L' := [_, _, _, _]) q_X6_leastWaiting_44 rfl rfl ?_
      refine g_goto (tgt := 4) q_X6_leastWaiting_47 (by decide) ?_
      exact g_fl hnx ⟨rfl, rfl, rfl, trivial⟩
    · have hs := bi_f e1
      have yes : (lwN pn k = -1 ∨ pSu (pn k) < lwN pn k) → G Γ miX6_leastWaiting cX6_leastWaiting (ri (lwN pn nc) σ) noX 0 0 39 [some (.ref T), some (.int (ii (lwN pn k))), some (.int (ii k)), some (.ref (ad k))] [] σ := by
        intro h
        rw [show lwN pn (k + 1) = pSu (pn k) by rw [lwN, if_pos ⟨hs, h⟩]] at hnx
        refine g_aload_n q_X6_leastWaiting_39 rfl ?_
        refine g_get fl_X6_94 q_X6_leastWaiting_40 (by repeat first | with_reducible assumption | with_reducible exact hput_s _ _ _ | refine (hput_n _ _ (by omega)).trans ?_ | exact hput_s _ _ _ | assumption) rfl ?_
        refine g_istore_n (L' := [_, _, _, _]) q_X6_leastWaiting_43 (by decide) rfl ?_
        refine g_iinc (L' := [_, _, _, _]) q_X6_leastWaiting_44 rfl rfl ?_
        refine g_goto (tgt := 4) q_X6_leastWaiting_47 (by decide) ?_
        exact g_fl hnx ⟨rfl, rfl, rfl, trivial⟩
      refine g_iload_n q_X6_leastWaiting_26 rfl ?_
      refine g_iconst q_X6_leastWaiting_27 ?_
      refine g_icmp_eq (tgt := 39) q_X6_leastWaiting_28 (by decide) ⟨by omega, by omega⟩ ⟨by omega, by omega⟩ (fun e2 => ?_) (fun e2 => ?_)
      · exact yes (Or.inl e2)
      · refine g_aload_n q_X6_leastWaiting_31 rfl ?_
        refine g_get fl_X6_94 q_X6_leastWaiting_32 (by repeat first | with_reducible assumption | with_reducible exact hput_s _ _ _ | refine (hput_n _ _ (by omega)).trans ?_ | exact hput_s _ _ _ | assumption) rfl ?_
        refine g_iload_n q_X6_leastWaiting_35 rfl ?_
        refine g_icmp_ge (tgt := 44) q_X6_leastWaiting_36 (by decide) ⟨by omega, by omega⟩ ⟨by omega, by omega⟩ (fun e3 => ?_) (fun e3 => ?_)
        · rw [show lwN pn (k + 1) = lwN pn k by rw [lwN, if_neg (fun z => by rcases z.2 with q | q <;> omega)]] at hnx
          refine g_iinc (L' := [_, _, _, _]) q_X6_leastWaiting_44 rfl rfl ?_
          refine g_goto (tgt := 4) q_X6_leastWaiting_47 (by decide) ?_
          exact g_fl hnx ⟨rfl, rfl, rfl, trivial⟩
        · exact yes (Or.inr e3)
def chN (pn : Nat → PN) (bd lw : Int) : Nat → Option Nat
  | 0 => none
  | k + 1 => if pSp (pn k) = false ∧ 10 * pSu (pn k) ≤ bd * lw then (match chN pn bd lw k with
      | none => some k
      | some b => if pCl (pn k) < pCl (pn b) ∨ pCl (pn k) = pCl (pn b) ∧ pSu (pn k) < pSu (pn b) then some k else some b) else chN pn bd lw k
theorem chN_lt {pn : Nat → PN} {bd lw : Int} : ∀ {n b : Nat}, chN pn bd lw n = some b → b < n
  | 0, b, h => by cases h
  | k + 1, b, h => by
    rw [chN] at h
    split at h
    · split at h
      · cases h; omega
      · rename_i b' hb'
        split at h
        · cases h; omega
        · cases h; have := chN_lt hb'; omega
    · have := chN_lt h; omega
theorem sp_choose (hΓ : Gd Γ) (h0 : σ.2 T = some (tro T ve nc spl lo pl cu)) (hN : TND σ T M ad) (hM : nc ≤ M) {pn : Nat → PN} (hk : ∀ k, k < nc → NDp σ ad k (pn k)) (hok : okN pn nc) (bd : Int) (hbd : 10 ≤ bd ∧ bd ≤ 30) : Sp Γ miX6_choose 0 0 [.ref T, .int (ii bd)] σ (fun r σ' => (lwN pn nc = -1 ∧ r = some .null ∧ σ' = σ) ∨ (lwN pn nc ≠ -1 ∧ r = some (va_rf ((chN pn bd (lwN pn nc) nc).map ad)) ∧ σ' = hput σ T (tro T ve nc spl (lwN pn nc) pl cu))) noX := by
  have hN0 := hN
  obtain ⟨h1, hM1, hinc, hin⟩ := hN
  have hlr := lwN_rg hok
  refine Sp_of (L := [_, _, _, _, _, _, _]) hΓ (by decide +kernel) rfl (Nat.le_of_ble_eq_true rfl) rfl ?_
  refine g_aload_n q_X6_choose_0 rfl ?_
  refine g_callV (rc' := 0) (rs' := 0) (As := []) cs_X6_103 q_X6_choose_1 (sp_leastWaiting hΓ h0 hN0 hM hk hok) rfl (by repeat first | with_reducible assumption | with_reducible exact hput_s _ _ _ | refine (hput_n _ _ (by omega)).trans ?_ | exact hput_s _ _ _ | assumption) rfl rfl rfl rfl (Nat.le_of_ble_eq_true rfl) (by decide) (by decide) (by decide) (fun _ _ h => h.elim) (k_ri ?_)
  refine g_istore_n (L' := [_, _, _, _, _, _, _]) q_X6_choose_4 (by decide) rfl ?_
  refine g_iload_n q_X6_choose_5 rfl ?_
  refine g_iconst q_X6_choose_6 ?_
  refine g_icmp_ne (tgt := 12) q_X6_choose_7 (by decide) ⟨by omega, by omega⟩ ⟨by omega, by omega⟩ (fun e1 => ?_) (fun e1 => ?_)
  · refine g_aload_n q_X6_choose_12 rfl ?_
    refine g_iload_n q_X6_choose_13 rfl ?_
    refine g_put fp_X6_41 q_X6_choose_14 (by repeat first | with_reducible assumption | with_reducible exact hput_s _ _ _ | refine (hput_n _ _ (by omega)).trans ?_ | exact hput_s _ _ _ | assumption) rfl rfl ?_
    refine g_null q_X6_choose_17 ?_
    refine g_astore_nN (L' := [_, _, _, _, _, _, _]) q_X6_choose_18 (by decide) rfl ?_
    refine g_iconst q_X6_choose_19 ?_
    refine g_istore (L' := [_, _, _, _, _, _, _]) q_X6_choose_20 (by decide) rfl ?_
    obtain ⟨lw, hlw⟩ : ∃ lw, lw = lwN pn nc := ⟨_, rfl⟩
    rw [← hlw] at hlr e1 ⊢
    obtain ⟨τ, hτ⟩ : ∃ τ, τ = hput σ T (tro T ve nc spl lw pl cu) := ⟨_, rfl⟩
    have k0 : τ.2 T = some (tro T ve nc spl lw pl cu) := by rw [hτ]; exact hput_s _ _ _
    have k1 : τ.2 (T + 1) = some (aq 3 301 (nadF ad M)) := by rw [hτ]; exact (by repeat first | with_reducible assumption | with_reducible exact hput_s _ _ _ | refine (hput_n _ _ (by omega)).trans ?_ | exact hput_s _ _ _ | assumption)
    have kn : ∀ k, k < nc → NDp τ ad k (pn k) := fun k hkk => by
      have := hin k (by omega)
      exact (hk k hkk).keep (by rw [hτ, hput_n _ _ (by omega)]) (by rw [hτ, hput_n _ _ (by omega)])
    refine g_eq (σ2 := τ) rfl rfl hτ.symm ?_
    rw [← hτ]
    refine g_loop (fun k => k ≤ nc) (fun k : Nat => G Γ _ cX6_choose _ _ 0 0 22 [some (.ref T), some (.int (ii bd)), some (.int (ii lw)), some (va_rf ((chN pn bd lw k).map ad)), some (.int (ii k)), none, none] [] τ) (fun k => nc - k) ?_ 0 (Nat.zero_le _)
    intro k hkn ih
    refine g_iload q_X6_choose_22 rfl ?_
    refine g_aload_n q_X6_choose_24 rfl ?_
    refine g_get fl_X6_35 q_X6_choose_25 (by repeat first | with_reducible assumption | with_reducible exact hput_s _ _ _ | refine (hput_n _ _ (by omega)).trans ?_ | exact hput_s _ _ _ | assumption) rfl ?_
    refine g_icmp_ge (tgt := 130) q_X6_choose_28 (by decide) ⟨by omega, by omega⟩ ⟨by omega, by omega⟩ (fun hx => ?_) (fun hx => ?_)
    · have e : k = nc := by omega
      subst e
      cases hb : (chN pn bd lw k).map ad with
      | none =>
        refine g_aload_nN q_X6_choose_130 rfl ?_
        refine g_areturn q_X6_choose_131.1 rfl (Or.inl ⟨_, rfl⟩) (Or.inl rfl) ?_
        exact Or.inr ⟨e1, rfl, rfl⟩
      | some x =>
        refine g_aload_n (x := x) q_X6_choose_130 rfl ?_
        refine g_areturn q_X6_choose_131.1 rfl (Or.inl ⟨_, rfl⟩) (Or.inr ⟨_, rfl⟩) ?_
        exact Or.inr ⟨e1, rfl, rfl⟩
    · have hn := (kn k (by omega)).1
      have hv : va_rf (nadF ad M k) = .ref (ad k) := by unfold nadF; rw [if_pos (by omega)]; rfl
      have ho := hok k (by omega)
      have hnx := ih (k + 1) (by omega) (by omega)
      have hmul : 0 - 30 ≤ bd * lw ∧ bd * lw ≤ 30000 := by
        have h5 : bd * lw ≤ 30 * 1000 := by
          rcases Int.le_total 0 lw with q | q
          · exact Int.mul_le_mul hbd.2 hlr.2 q (by omega)
          · have := Int.mul_nonpos_of_nonneg_of_nonpos (show 0 ≤ bd by omega) q; omega
        have h6 : bd * (-1) ≤ bd * lw := Int.mul_le_mul_of_nonneg_left hlr.1 (by omega)
        omega
      refine g_aload_n q_X6_choose_31 rfl ?_
      refine g_get fl_X6_11 q_X6_choose_32 (by repeat first | with_reducible assumption | with_reducible exact hput_s _ _ _ | refine (hput_n _ _ (by omega)).trans ?_ | exact hput_s _ _ _ | assumption) rfl ?_
      refine g_iload q_X6_choose_35 rfl ?_
      refine g_aaload q_X6_choose_37 rfl (by repeat first | with_reducible assumption | with_reducible exact hput_s _ _ _ | refine (hput_n _ _ (by omega)).trans ?_ | exact hput_s _ _ _ | assumption) (by omega) (by omega) ?_
      refine g_top (v' := .ref (ad k)) hv ?_
      have same : chN pn bd lw (k + 1) = chN pn bd lw k → ∀ x y, G Γ miX6_choose cX6_choose (fun r σ' => (lw = -1 ∧ r = some .null ∧ σ' = σ) ∨ (lw ≠ -1 ∧ r = some (va_rf ((chN pn bd lw nc).map ad)) ∧ σ' = τ)) noX 0 0 124 [some (.ref T), some (.int (ii bd)), some (.int (ii lw)), some (va_rf ((chN pn bd lw k).map ad)), some (.int (ii k)), x, y] [] τ := by
        intro h x y
        rw [h] at hnx
        cases ho9 : (chN pn bd lw k).map ad with
        | none =>
          rw [ho9] at hnx
          refine g_iinc (L' := [_, _, _, _, _, _, _]) q_X6_choose_124 rfl rfl ?_
          refine g_goto (tgt := 22) q_X6_choose_127 (by decide) ?_
          exact g_fl hnx ⟨rfl, rfl, rfl, rfl, rfl, trivial⟩
        | some x9 =>
          rw [ho9] at hnx
          refine g_iinc (L' := [_, _, _, _, _, _, _]) q_X6_choose_124 rfl rfl ?_
          refine g_goto (tgt := 22) q_X6_choose_127 (by decide) ?_
          exact g_fl hnx ⟨rfl, rfl, rfl, rfl, rfl, trivial⟩
      have take : chN pn bd lw (k + 1) = some k → ∀ y z, G Γ miX6_choose cX6_choose (fun r σ' => (lw = -1 ∧ r = some .null ∧ σ' = σ) ∨ (lw ≠ -1 ∧ r = some (va_rf ((chN pn bd lw nc).map ad)) ∧ σ' = τ)) noX 0 0 105 [some (.ref T), some (.int (ii bd)), some (.int (ii lw)), z, some (.int (ii k)), some (.ref (ad k)), y] [] τ := by
        intro h y z
        rw [h] at hnx
        refine g_fl (L2 := [some (.ref T), some (.int (ii bd)), some (.int (ii lw)), none, some (.int (ii k)), some (.ref (ad k)), none]) ?_ ⟨rfl, rfl, rfl, rfl, rfl, trivial⟩
        refine g_iconst q_X6_choose_105 ?_
        refine g_goto (tgt := 110) q_X6_choose_106 (by decide) ?_
        refine g_istore (L' := [_, _, _, _, _, _, _]) q_X6_choose_110 (by decide) rfl ?_
        refine g_iload q_X6_choose_112 rfl ?_
        refine g_if_eq (tgt := 122) q_X6_choose_114 (by decide) ⟨by omega, by omega⟩ (fun z1 => ?_) (fun z1 => ?_)
        · exact absurd z1 (by decide)
        · refine g_aload q_X6_choose_117 rfl ?_
          refine g_goto (tgt := 123) q_X6_choose_119 (by decide) ?_
          refine g_astore_n (L' := [_, _, _, _, _, _, _]) q_X6_choose_123 (by decide) rfl ?_
          refine g_iinc (L' := [_, _, _, _, _, _, _]) q_X6_choose_124 rfl rfl ?_
          refine g_goto (tgt := 22) q_X6_choose_127 (by decide) ?_
          exact g_fl hnx ⟨rfl, rfl, rfl, rfl, rfl, trivial⟩
      refine g_astore (L' := [_, _, _, _, _, _, _]) q_X6_choose_38 (by decide) rfl ?_
      refine g_aload q_X6_choose_40 rfl ?_
      refine g_get fl_X6_70 q_X6_choose_42 (by repeat first | with_reducible assumption | with_reducible exact hput_s _ _ _ | refine (hput_n _ _ (by omega)).trans ?_ | exact hput_s _ _ _ | assumption) rfl ?_
      refine g_if_ne (tgt := 124) q_X6_choose_45 (by decide) (bi_rg _) (fun e2 => ?_) (fun e2 => ?_)
      · exact same (by rw [chN, if_neg (fun z => by rw [bi_t e2] at z; cases z.1)]) _ _
      · have hs := bi_f e2
        refine g_bipush q_X6_choose_48 bp_10 ?_
        refine g_aload q_X6_choose_50 rfl ?_
        refine g_get fl_X6_94 q_X6_choose_52 (by repeat first | with_reducible assumption | with_reducible exact hput_s _ _ _ | refine (hput_n _ _ (by omega)).trans ?_ | exact hput_s _ _ _ | assumption) rfl ?_
        refine g_imul q_X6_choose_55 ?_
        refine g_iload_n q_X6_choose_56 rfl ?_
        refine g_aload_n q_X6_choose_57 rfl ?_
        refine g_get fl_X6_41 q_X6_choose_58 (by repeat first | with_reducible assumption | with_reducible exact hput_s _ _ _ | refine (hput_n _ _ (by omega)).trans ?_ | exact hput_s _ _ _ | assumption) rfl ?_
        refine g_imul q_X6_choose_61 ?_
        refine g_icmp_gt (tgt := 124) q_X6_choose_62 (by decide) ⟨by omega, by omega⟩ ⟨by omega, by omega⟩ (fun e3 => ?_) (fun e3 => ?_)
        · exact same (by rw [chN, if_neg (fun z => by omega)]) _ _
        · have hcond : pSp (pn k) = false ∧ 10 * pSu (pn k) ≤ bd * lw := ⟨hs, e3⟩
          cases hb : chN pn bd lw k with
          | none =>
            refine g_aload_nN q_X6_choose_65 rfl ?_
            refine g_ifnullN (tgt := 105) q_X6_choose_66 (by decide) ?_
            exact take (by rw [chN, if_pos hcond, hb]) _ _
          | some b =>
            have hbl := chN_lt hb
            have hnb := (kn b (by omega)).1
            have hob := hok b (by omega)
            have keepb : ¬ (pCl (pn k) < pCl (pn b) ∨ pCl (pn k) = pCl (pn b) ∧ pSu (pn k) < pSu (pn b)) → G Γ miX6_choose cX6_choose (fun r σ' => (lw = -1 ∧ r = some .null ∧ σ' = σ) ∨ (lw ≠ -1 ∧ r = some (va_rf ((chN pn bd lw nc).map ad)) ∧ σ' = τ)) noX 0 0 109 [some (.ref T), some (.int (ii bd)), some (.int (ii lw)), some (.ref (ad b)), some (.int (ii k)), some (.ref (ad k)), none] [] τ := by
              intro h
              have e9 : chN pn bd lw (k + 1) = some b := by rw [chN, if_pos hcond, hb]; simp only; rw [if_neg h]
              rw [e9] at hnx
              refine g_iconst q_X6_choose_109 ?_
              refine g_istore (L' := [_, _, _, _, _, _, _]) q_X6_choose_110 (by decide) rfl ?_
              refine g_iload q_X6_choose_112 rfl ?_
              refine g_if_eq (tgt := 122) q_X6_choose_114 (by decide) ⟨by omega, by omega⟩ (fun z1 => ?_) (fun z1 => ?_)
              · refine g_aload_n q_X6_choose_122 rfl ?_
                refine g_astore_n (L' := [_, _, _, _, _, _, _]) q_X6_choose_123 (by decide) rfl ?_
                refine g_iinc (L' := [_, _, _, _, _, _, _]) q_X6_choose_124 rfl rfl ?_
                refine g_goto (tgt := 22) q_X6_choose_127 (by decide) ?_
                exact g_fl hnx ⟨rfl, rfl, rfl, rfl, rfl, trivial⟩
              · exact absurd rfl z1
            refine g_aload_n (x := ad b) q_X6_choose_65 rfl ?_
            refine g_ifnull q_X6_choose_66 ?_
            refine g_fl (L2 := [some (.ref T), some (.int (ii bd)), some (.int (ii lw)), some (.ref (ad b)), some (.int (ii k)), some (.ref (ad k)), none]) ?_ ⟨rfl, rfl, rfl, rfl, rfl, rfl, trivial⟩
            refine g_aload q_X6_choose_69 rfl ?_
            refine g_get fl_X6_100 q_X6_choose_71 (by repeat first | with_reducible assumption | with_reducible exact hput_s _ _ _ | refine (hput_n _ _ (by omega)).trans ?_ | exact hput_s _ _ _ | assumption) rfl ?_
            refine g_aload_n q_X6_choose_74 rfl ?_
            refine g_get fl_X6_100 q_X6_choose_75 (by repeat first | with_reducible assumption | with_reducible exact hput_s _ _ _ | refine (hput_n _ _ (by omega)).trans ?_ | exact hput_s _ _ _ | assumption) rfl ?_
            refine g_icmp_lt (tgt := 105) q_X6_choose_78 (by decide) ⟨by omega, by omega⟩ ⟨by omega, by omega⟩ (fun e4 => ?_) (fun e4 => ?_)
            · exact take (by rw [chN, if_pos hcond, hb]; simp only; rw [if_pos (Or.inl e4)]) _ _
            · refine g_aload q_X6_choose_81 rfl ?_
              refine g_get fl_X6_100 q_X6_choose_83 (by repeat first | with_reducible assumption | with_reducible exact hput_s _ _ _ | refine (hput_n _ _ (by omega)).trans ?_ | exact hput_s _ _ _ | assumption) rfl ?_
              refine g_aload_n q_X6_choose_86 rfl ?_
              refine g_get fl_X6_100 q_X6_choose_87 (by repeat first | with_reducible assumption | with_reducible exact hput_s _ _ _ | refine (hput_n _ _ (by omega)).trans ?_ | exact hput_s _ _ _ | assumption) rfl ?_
              refine g_icmp_ne (tgt := 109) q_X6_choose_90 (by decide) ⟨by omega, by omega⟩ ⟨by omega, by omega⟩ (fun e5 => ?_) (fun e5 => ?_)
              · exact keepb (fun z => by rcases z with q | q <;> omega)
              · refine g_aload q_X6_choose_93 rfl ?_
                refine g_get fl_X6_94 q_X6_choose_95 (by repeat first | with_reducible assumption | with_reducible exact hput_s _ _ _ | refine (hput_n _ _ (by omega)).trans ?_ | exact hput_s _ _ _ | assumption) rfl ?_
                refine g_aload_n q_X6_choose_98 rfl ?_
                refine g_get fl_X6_94 q_X6_choose_99 (by repeat first | with_reducible assumption | with_reducible exact hput_s _ _ _ | refine (hput_n _ _ (by omega)).trans ?_ | exact hput_s _ _ _ | assumption) rfl ?_
                refine g_icmp_ge (tgt := 109) q_X6_choose_102 (by decide) ⟨by omega, by omega⟩ ⟨by omega, by omega⟩ (fun e6 => ?_) (fun e6 => ?_)
                · exact keepb (fun z => by rcases z with q | q <;> omega)
                · exact take (by rw [chN, if_pos hcond, hb]; simp only; rw [if_pos (Or.inr ⟨e5, e6⟩)]) _ _
  · refine g_null q_X6_choose_10 ?_
    refine g_areturn q_X6_choose_11.1 rfl (Or.inl ⟨_, rfl⟩) (Or.inl rfl) ?_
    exact Or.inl ⟨e1, rfl, rfl⟩
end TR1

