/-! Tree: nextNode at large, grow -/
def NDr (σ : AH) (ad : Nat → Nat) : Prop := ∃ su cl sp, NDx σ (ad 0) 0 none (-1) (-1) (-1) (-1) 0 su cl 0 sp (fun _ => 0)
def ownF (ad : Nat → Nat) (M a : Nat) : Prop := ∃ k, k < M ∧ (a = ad k ∨ a = ad k + 1)
theorem fbW_cong {pn pn2 : Nat → PN} {c : Int} {nc : Nat} (hp : ∀ k, 0 < k → k < nc → pPi (pn k) < k) (he : ∀ k, k < nc → pn2 k = pn k) : ∀ (g j : Nat) (x : (Nat → BitVec 64) × (Nat → BitVec 64)), j < nc → fbW pn2 c g j x = fbW pn c g j x
  | 0, _, _, _ => rfl
  | g + 1, j, x, hj => by
    rw [fbW, fbW, he j hj]
    by_cases h : j = 0
    · rw [if_pos h, if_pos h]
    · rw [if_neg h, if_neg h]
      exact fbW_cong hp he g _ _ (by have := hp j (by omega) hj; omega)
/-- what is forbidden to a new node under par -/
def grX (pn : Nat → PN) (nc par : Nat) (c fr to ti : Int) : (Nat → BitVec 64) × (Nat → BitVec 64) := fbW pn c (nc - 1) par (fb1 fr to ti (fun _ => 0, fun _ => 0))
theorem grX_eq {pn : Nat → PN} {nc par : Nat} (hp : ∀ k, 0 < k → k < nc → pPi (pn k) < k) (hnc : 0 < nc) (hpar : par < nc) {q : PN} (h1 : pPi q = par) : fbW (va_up pn nc q) (pCa q) nc nc (fun _ => 0, fun _ => 0) = grX pn nc par (pCa q) (pFr q) (pTo q) (pTi q) := by
  obtain ⟨m, rfl⟩ : ∃ m, nc = m + 1 := ⟨nc - 1, by omega⟩
  unfold grX
  rw [fbW, if_neg (by omega), show va_up pn (m + 1) q (m + 1) = q by unfold va_up; rw [if_pos rfl], if_pos rfl, h1]
  exact fbW_cong hp (fun k hk => by unfold va_up; rw [if_neg (by omega)]) _ _ _ hpar
def grF (P : Nat → Int) (c t : Nat) (s : Int) : Int := if s = 0 then -1 else P (41 * c + t)
/-- the node under par that keeps cart c from a clash between t and t + 1; none: it has no way -/
def grN (lv : Nat → BitVec 64) (PL GO : Nat → Int) (n : Nat) (pn : Nat → PN) (nc par c t : Nat) (s : Int) (P C : Nat → Int) : Option PN :=
  let X := grX pn nc par c (grF P c t s) (P (41 * c + (t + 1))) ((t + 1 : Nat) : Int)
  let k := lcs lv X.2 X.1 (PL c).toNat (GO c).toNat
  let W := wyt lv X.2 X.1 (PL c).toNat (GO c).toNat
  if k = -1 then none else some (par, (c : Int), ((t + 1 : Nat) : Int), grF P c t s, P (41 * c + (t + 1)), k, pSu (pn par) - C c + k, ccN (va_cpy W P 0 (41 * c) 41) n (mxN (va_up C c k) n).toNat, pFo (pn par) + 1, false, W)
theorem NDp.ren {σ σ' : AH} {ad ad' : Nat → Nat} {k M : Nat} {q : PN} (h : NDp σ ad k q) (e : ∀ j, j < M → ad' j = ad j) (hk : k < M) (hq : 0 < k → pPi q < k) (e1 : σ'.2 (ad k) = σ.2 (ad k)) (e2 : σ'.2 (ad k + 1) = σ.2 (ad k + 1)) : NDp σ' ad' k q := by
  have h2 := h.keep e1 e2
  unfold NDp
  rw [e k hk]
  by_cases h0 : k = 0
  · rw [if_pos h0] at h2 ⊢; exact h2
  · rw [if_neg h0] at h2 ⊢
    rw [e _ (by have := hq (by omega); omega)]; exact h2
section TR5
variable {Γ : GT} {σ : AH} {T M : Nat} {ad : Nat → Nat} {ve lo pl : Int} {nc spl n : Nat} {cu : Bool} {pn : Nat → PN} {P C : Nat → Int}
theorem sp_nextNode (hΓ : Gd Γ) (hT : T + 8 < σ.1) (h0 : σ.2 T = some (tro T ve nc spl lo pl cu)) (hN : TND σ T M ad) (hM : nc ≤ M) (hnc : nc < 301) (hG : ∀ k, k < M → NDg σ ad k) (hR : 0 < M → NDr σ ad) : Sp Γ miX6_nextNode (2 * (max M (nc + 1) - M)) (53 * (max M (nc + 1) - M)) [.ref T] σ (fun r σ' => ∃ ad', r = some (.ref (ad' nc)) ∧ TND σ' T (max M (nc + 1)) ad' ∧ (∀ k, k < M → ad' k = ad k) ∧ (∀ k, M ≤ k → k < max M (nc + 1) → σ.1 ≤ ad' k) ∧ (∀ k, k < max M (nc + 1) → NDg σ' ad' k) ∧ NDr σ' ad' ∧ eqG σ σ' (fun a => a = T + 1)) noX := by
  by_cases hlt : nc < M
  · have em : max M (nc + 1) = M := Nat.max_eq_left (by omega)
    rw [em, Nat.sub_self]
    have hN0 := hN
    obtain ⟨h1, hM1, hinc, hin⟩ := hN
    have hv : va_rf (nadF ad M nc) = .ref (ad nc) := by unfold nadF; rw [if_pos hlt]; rfl
    refine Sp_of (L := [_]) hΓ (by decide +kernel) rfl (Nat.le_of_ble_eq_true rfl) rfl ?_
    refine g_aload_n q_X6_nextNode_0 rfl ?_
    refine g_get fl_X6_11 q_X6_nextNode_1 (by repeat first | with_reducible assumption | with_reducible exact hput_s _ _ _ | refine (hput_n _ _ (by omega)).trans ?_ | exact hput_s _ _ _ | assumption) rfl ?_
    refine g_aload_n q_X6_nextNode_4 rfl ?_
    refine g_get fl_X6_35 q_X6_nextNode_5 (by repeat first | with_reducible assumption | with_reducible exact hput_s _ _ _ | refine (hput_n _ _ (by omega)).trans ?_ | exact hput_s _ _ _ | assumption) rfl ?_
    refine g_aaload q_X6_nextNode_8 rfl (by repeat first | with_reducible assumption | with_reducible exact hput_s _ _ _ | refine (hput_n _ _ (by omega)).trans ?_ | exact hput_s _ _ _ | assumption) (by omega) (by omega) ?_
    refine g_top (v' := .ref (ad nc)) hv ?_
    refine g_ifnonnull (tgt := 32) q_X6_nextNode_9 (by decide) ?_
    refine g_aload_n q_X6_nextNode_32 rfl ?_
    refine g_get fl_X6_11 q_X6_nextNode_33 (by repeat first | with_reducible assumption | with_reducible exact hput_s _ _ _ | refine (hput_n _ _ (by omega)).trans ?_ | exact hput_s _ _ _ | assumption) rfl ?_
    refine g_aload_n q_X6_nextNode_36 rfl ?_
    refine g_get fl_X6_35 q_X6_nextNode_37 (by repeat first | with_reducible assumption | with_reducible exact hput_s _ _ _ | refine (hput_n _ _ (by omega)).trans ?_ | exact hput_s _ _ _ | assumption) rfl ?_
    refine g_aaload q_X6_nextNode_40 rfl (by repeat first | with_reducible assumption | with_reducible exact hput_s _ _ _ | refine (hput_n _ _ (by omega)).trans ?_ | exact hput_s _ _ _ | assumption) (by omega) (by omega) ?_
    refine g_top (v' := .ref (ad nc)) hv ?_
    refine g_areturn q_X6_nextNode_41.1 rfl (Or.inl ⟨_, rfl⟩) (Or.inr ⟨_, rfl⟩) ?_
    exact ⟨ad, rfl, hN0, fun _ _ => rfl, fun k h1 h2 => absurd h2 (by omega), hG, hR (by omega), eqG.rfl'⟩
  · have e : M = nc := by omega
    subst e
    have em : max M (M + 1) = M + 1 := Nat.max_eq_right (by omega)
    rw [em, show M + 1 - M = 1 by omega]
    obtain ⟨h1, hM1, hinc, hin⟩ := hN
    have hv : va_rf (nadF ad M M) = .null := by unfold nadF; rw [if_neg (by omega)]; rfl
    refine Sp_of (L := [_]) hΓ (by decide +kernel) rfl (Nat.le_of_ble_eq_true rfl) rfl ?_
    refine g_aload_n q_X6_nextNode_0 rfl ?_
    refine g_get fl_X6_11 q_X6_nextNode_1 (by repeat first | with_reducible assumption | with_reducible exact hput_s _ _ _ | refine (hput_n _ _ (by omega)).trans ?_ | exact hput_s _ _ _ | assumption) rfl ?_
    refine g_aload_n q_X6_nextNode_4 rfl ?_
    refine g_get fl_X6_35 q_X6_nextNode_5 (by repeat first | with_reducible assumption | with_reducible exact hput_s _ _ _ | refine (hput_n _ _ (by omega)).trans ?_ | exact hput_s _ _ _ | assumption) rfl ?_
    refine g_aaload q_X6_nextNode_8 rfl (by repeat first | with_reducible assumption | with_reducible exact hput_s _ _ _ | refine (hput_n _ _ (by omega)).trans ?_ | exact hput_s _ _ _ | assumption) (by omega) (by omega) ?_
    refine g_top (v' := .null) hv ?_
    refine g_ifnonnullN q_X6_nextNode_9 ?_
    refine g_aload_n q_X6_nextNode_12 rfl ?_
    refine g_get fl_X6_11 q_X6_nextNode_13 (by repeat first | with_reducible assumption | with_reducible exact hput_s _ _ _ | refine (hput_n _ _ (by omega)).trans ?_ | exact hput_s _ _ _ | assumption) rfl ?_
    refine g_aload_n q_X6_nextNode_16 rfl ?_
    refine g_get fl_X6_35 q_X6_nextNode_17 (by repeat first | with_reducible assumption | with_reducible exact hput_s _ _ _ | refine (hput_n _ _ (by omega)).trans ?_ | exact hput_s _ _ _ | assumption) rfl ?_
    refine g_new (rc' := 1) (rs' := 41) nw_X6_9 rfl q_X6_nextNode_20 (by decide) (by decide) ?_
    refine g_dup q_X6_nextNode_23 rfl ?_
    refine g_aload_n q_X6_nextNode_24 rfl ?_
    refine g_get fl_X6_35 q_X6_nextNode_25 (by repeat first | with_reducible assumption | with_reducible exact hput_s _ _ _ | refine (hput_n _ _ (by (try simp only [hput_1, hnew_1]); omega)).trans ?_ | exact hput_s _ _ _ | exact hnew_at _ (by (try simp only [hput_1, hnew_1]); omega) | refine (hnew_n _ _ (by (try simp only [hput_1, hnew_1]); omega)).trans ?_ | assumption) rfl ?_
    refine g_callIN (rc' := 0) (rs' := 0) (As := [_]) cs_X6_83 q_X6_nextNode_28 (sp_Node_init (σ0 := σ) hΓ M) rfl rfl rfl rfl rfl (Nat.le_of_ble_eq_true rfl) (by decide) (by decide) (by decide) (fun _ _ h => h.elim) (fun v σ' hq => ?_)
    obtain ⟨rfl, hs1, hnd, hlow⟩ := hq
    have k0 : σ'.2 T = some (tro T ve M spl lo pl cu) := (hlow T (by omega)).trans h0
    have k1 : σ'.2 (T + 1) = some (aq 3 301 (nadF ad M)) := (hlow (T + 1) (by omega)).trans h1
    refine g_aastore q_X6_nextNode_31 k1 (by omega) (by omega) hnd.1 (r := (RX1, TX1, 12)) rfl rfl ?_
    have hv2 : va_rf (va_up (nadF ad M) M (some σ.1) M) = .ref σ.1 := by unfold va_up; rw [if_pos rfl]; rfl
    refine g_aload_n q_X6_nextNode_32 rfl ?_
    refine g_get fl_X6_11 q_X6_nextNode_33 (by repeat first | with_reducible assumption | with_reducible exact hput_s _ _ _ | refine (hput_n _ _ (by omega)).trans ?_ | exact hput_s _ _ _ | assumption) rfl ?_
    refine g_aload_n q_X6_nextNode_36 rfl ?_
    refine g_get fl_X6_35 q_X6_nextNode_37 (by repeat first | with_reducible assumption | with_reducible exact hput_s _ _ _ | refine (hput_n _ _ (by omega)).trans ?_ | exact hput_s _ _ _ | assumption) rfl ?_
    refine g_aaload q_X6_nextNode_40 rfl (by repeat first | with_reducible assumption | with_reducible exact hput_s _ _ _ | refine (hput_n _ _ (by omega)).trans ?_ | exact hput_s _ _ _ | assumption) (by omega) (by omega) ?_
    refine g_top (v' := .ref σ.1) hv2 ?_
    refine g_areturn q_X6_nextNode_41.1 rfl (Or.inl ⟨_, rfl⟩) (Or.inr ⟨_, rfl⟩) ?_
    have hf : va_up (nadF ad M) M (some σ.1) = nadF (va_up ad M σ.1) (M + 1) := by
      funext k
      simp only [va_up, nadF]
      by_cases q : k = M
      · rw [if_pos q, if_pos (by omega), if_pos q]
      · rw [if_neg q, if_neg q]
        by_cases q2 : k < M
        · rw [if_pos q2, if_pos (by omega)]
        · rw [if_neg q2, if_neg (by omega)]
    have eM : va_up ad M σ.1 M = σ.1 := by unfold va_up; rw [if_pos rfl]
    have eo : ∀ k, k < M → va_up ad M σ.1 k = ad k := fun k hk => by unfold va_up; rw [if_neg (by omega)]
    have hnd2 : NDx (hput σ' (T + 1) (aq 3 301 (va_up (nadF ad M) M (some σ.1)))) σ.1 M none (-1) (-1) (-1) (-1) 0 0 0 0 false (fun _ => 0) := hnd.keep (hput_n _ _ (by omega)) (hput_n _ _ (by omega))
    have kp : ∀ k, k < M → ∀ b, b = ad k ∨ b = ad k + 1 → (hput σ' (T + 1) (aq 3 301 (va_up (nadF ad M) M (some σ.1)))).2 b = σ.2 b := fun k hk b hb => by
      have := hin k hk
      rw [hput_n _ _ (by omega)]; exact hlow b (by omega)
    refine ⟨va_up ad M σ.1, by rw [eM], ⟨by rw [← hf]; exact hput_s _ _ _, by omega, fun i j hij hj => ?_, fun k hk => ?_⟩, eo, fun k h1 h2 => by rw [show k = M by omega, eM]; exact Nat.le_refl _, fun k hk => ?_, ?_, ⟨by rw [hput_1, hs1]; omega, fun b hb hne => (hput_n _ _ hne).trans (hlow b hb)⟩⟩
    · rw [eo i (by omega)]
      by_cases q : j = M
      · subst q
        rw [eM]
        have := hin i (by omega)
        omega
      · rw [eo j (by omega)]
        exact hinc i j hij (by omega)
    · rw [hput_1, hs1]
      by_cases q : k = M
      · subst q; rw [eM]; omega
      · rw [eo k (by omega)]
        have := hin k (by omega)
        omega
    · by_cases q : k = M
      · subst q
        unfold NDg
        rw [eM]
        exact ⟨_, _, _, _, _, _, _, _, _, _, _, hnd2⟩
      · unfold NDg
        rw [eo k (by omega)]
        obtain ⟨pa, ca, ti, fr, to, co, su, cl, fo, sp, rw, hx⟩ := hG k (by omega)
        exact ⟨pa, ca, ti, fr, to, co, su, cl, fo, sp, rw, hx.keep (kp k (by omega) _ (Or.inl rfl)) (kp k (by omega) _ (Or.inr rfl))⟩
    · unfold NDr
      by_cases q : M = 0
      · subst q
        rw [eM]
        exact ⟨_, _, _, hnd2⟩
      · rw [eo 0 (by omega)]
        obtain ⟨su, cl, sp, hx⟩ := hR (by omega)
        exact ⟨su, cl, sp, hx.keep (kp 0 (by omega) _ (Or.inl rfl)) (kp 0 (by omega) _ (Or.inr rfl))⟩
end TR5

