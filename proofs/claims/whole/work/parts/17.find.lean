/-! Search.find, Ways.goAlone -/
def wyt (lv mv ce : Nat → BitVec 64) (pl go : Nat) : Nat → Int := fun t => if t ≤ (lcs lv mv ce pl go).toNat then (pth lv mv (fun u => bkD lv mv ce go (lcs lv mv ce pl go).toNat ((lcs lv mv ce pl go).toNat - u)) pl t : Int) else (go : Int)
theorem wyt_rg {lv mv ce : Nat → BitVec 64} (hL : okL lv) {pl go : Nat} (hp : pl < 36) (hg : go < 36) (t : Nat) : 0 ≤ wyt lv mv ce pl go t ∧ wyt lv mv ce pl go t < 36 := by
  unfold wyt
  split
  · have := pth_lt (mv := mv) (B := fun u => bkD lv mv ce go (lcs lv mv ce pl go).toNat ((lcs lv mv ce pl go).toNat - u)) hL hp t
    omega
  · omega
theorem lcs_rg (lv mv ce : Nat → BitVec 64) (pl go : Nat) : -1 ≤ lcs lv mv ce pl go ∧ lcs lv mv ce pl go ≤ 40 := by
  have := fstN_rg (fun t => decide (ffr ce go 41 ≤ t) && (hsN lv mv ce pl t).getLsbD go) 41
  unfold lcs
  omega
theorem cpy_up {α : Type} (f g : Nat → α) (st n : Nat) : va_up (va_cpy f g 0 st n) (st + n) (f n) = va_cpy f g 0 st (n + 1) := by
  funext k
  unfold va_up va_cpy
  by_cases h : k = st + n
  · rw [if_pos h, if_pos (by omega), show 0 + (k - st) = n by omega]
  · rw [if_neg h]
    by_cases h2 : st ≤ k ∧ k < st + n
    · rw [if_pos h2, if_pos (by omega)]
    · rw [if_neg h2, if_neg (by omega)]
theorem cpy_0 {α : Type} (f g : Nat → α) (st : Nat) : va_cpy f g 0 st 0 = g := by
  funext k
  unfold va_cpy
  rw [if_neg (by omega)]
theorem cpy_at {α : Type} (f g : Nat → α) {st n k : Nat} (h : k < n) : va_cpy f g 0 st n (st + k) = f k := by
  unfold va_cpy
  rw [if_pos (by omega), show 0 + (st + k - st) = k by omega]
theorem cpy_out {α : Type} (f g : Nat → α) {sp st n k : Nat} (h : k < st ∨ st + n ≤ k) : va_cpy f g sp st n k = g k := by
  unfold va_cpy
  rw [if_neg (by omega)]
section FD
variable {Γ : GT} {σ : AH} {s g cols rows carts : Nat} {lv mv ce bk : Nat → BitVec 64} {PL GO : Nat → Int}
theorem sp_find (hΓ : Gd Γ) (hL : okL lv) (h0 : σ.2 s = some (sro s)) (h1 : σ.2 (s + 1) = some (al 41 ce)) (h2 : σ.2 (s + 2) = some (al 164 mv)) (h3 : σ.2 (s + 3) = some (al 41 bk)) (hg : σ.2 g = some (sco g cols rows carts)) (hg2 : σ.2 (g + 2) = some (ai 5 PL)) (hg3 : σ.2 (g + 3) = some (ai 5 GO)) (h6 : σ.2 (g + 6) = some (al 4 lv)) (hsg : s + 3 < g ∨ g + 6 < s) (c ra N st : Nat) (R : Nat → Int) (hc : c < 5) (hp : 0 ≤ PL c ∧ PL c < 36) (hgo : 0 ≤ GO c ∧ GO c < 36) (hr : σ.2 ra = some (ai N R)) (hN : st + 41 ≤ N) (hN2 : N < 1000) (hra : (ra < s ∨ s + 3 < ra) ∧ (ra < g ∨ g + 6 < ra)) : Sp Γ miX3_find 0 0 [.ref s, .ref g, .int (ii c), .ref ra, .int (ii st)] σ (fun r σ' => r = some (.int (ii (lcs lv mv ce (PL c).toNat (GO c).toNat))) ∧ ((lcs lv mv ce (PL c).toNat (GO c).toNat = -1 ∧ σ' = σ) ∨ (lcs lv mv ce (PL c).toNat (GO c).toNat ≠ -1 ∧ ∃ B, σ' = hput (hput σ (s + 3) (al 41 B)) ra (ai N (va_cpy (wyt lv mv ce (PL c).toNat (GO c).toNat) R 0 st 41))))) noX := by
  obtain ⟨pl, hpl⟩ : ∃ pl : Nat, PL c = pl := ⟨(PL c).toNat, by omega⟩
  obtain ⟨go, hgol⟩ : ∃ go : Nat, GO c = go := ⟨(GO c).toNat, by omega⟩
  rw [hpl, hgol]
  rw [hpl] at hp
  rw [hgol] at hgo
  rw [show ((pl : Nat) : Int).toNat = pl from rfl, show ((go : Nat) : Int).toNat = go from rfl]
  have hlr := lcs_rg lv mv ce pl go
  refine Sp_of (L := [_, _, _, _, _, _, _, _]) hΓ (by decide +kernel) rfl (Nat.le_of_ble_eq_true rfl) rfl ?_
  refine g_aload_n q_X3_find_0 rfl ?_
  refine g_get fl_X3_35 q_X3_find_1 (by repeat first | with_reducible assumption | with_reducible exact hput_s _ _ _ | refine (hput_n _ _ (by omega)).trans ?_ | exact hput_s _ _ _ | assumption) rfl ?_
  refine g_iload_n q_X3_find_4 rfl ?_
  refine g_iaload q_X3_find_5 (by repeat first | with_reducible assumption | with_reducible exact hput_s _ _ _ | refine (hput_n _ _ (by omega)).trans ?_ | exact hput_s _ _ _ | assumption) (by omega) (by omega) ?_
  refine g_topi (b := (go : Int)) (by exact hgol) ?_
  refine g_istore (L' := [_, _, _, _, _, _, _, _]) q_X3_find_6 (by decide) rfl ?_
  refine g_aload_n q_X3_find_8 rfl ?_
  refine g_aload_n q_X3_find_9 rfl ?_
  refine g_aload_n q_X3_find_10 rfl ?_
  refine g_get fl_X3_40 q_X3_find_11 (by repeat first | with_reducible assumption | with_reducible exact hput_s _ _ _ | refine (hput_n _ _ (by omega)).trans ?_ | exact hput_s _ _ _ | assumption) rfl ?_
  refine g_iload_n q_X3_find_14 rfl ?_
  refine g_iaload q_X3_find_15 (by repeat first | with_reducible assumption | with_reducible exact hput_s _ _ _ | refine (hput_n _ _ (by omega)).trans ?_ | exact hput_s _ _ _ | assumption) (by omega) (by omega) ?_
  refine g_topi (b := (pl : Int)) (by exact hpl) ?_
  refine g_iload q_X3_find_16 rfl ?_
  refine g_callV (rc' := 0) (rs' := 0) (As := [_, _, _]) cs_X3_43 q_X3_find_18 (sp_leastCost hΓ h0 h1 h2 hg h6 pl go (by omega) (by omega)) rfl (by repeat first | with_reducible assumption | with_reducible exact hput_s _ _ _ | refine (hput_n _ _ (by omega)).trans ?_ | exact hput_s _ _ _ | assumption) rfl rfl rfl rfl (Nat.le_of_ble_eq_true rfl) (by decide) (by decide) (by decide) (fun _ _ h => h.elim) (k_ri ?_)
  refine g_istore (L' := [_, _, _, _, _, _, _, _]) q_X3_find_21 (by decide) rfl ?_
  refine g_iload q_X3_find_23 rfl ?_
  refine g_iconst q_X3_find_25 ?_
  refine g_icmp_eq (tgt := 115) q_X3_find_26 (by decide) ⟨by omega, by omega⟩ ⟨by omega, by omega⟩ (fun hd => ?_) (fun hd => ?_)
  · refine g_iload q_X3_find_115 rfl ?_
    refine g_ireturn q_X3_find_117.1 rfl ?_
    exact ⟨rfl, Or.inl ⟨hd, rfl⟩⟩
  · obtain ⟨le, hle⟩ : ∃ le : Nat, lcs lv mv ce pl go = le := ⟨(lcs lv mv ce pl go).toNat, by omega⟩
    obtain ⟨W, hW⟩ : ∃ W, W = wyt lv mv ce pl go := ⟨_, rfl⟩
    have hW1 : ∀ t, t ≤ le → W t = (pth lv mv (fun u => bkD lv mv ce go le (le - u)) pl t : Int) := fun t ht => by
      rw [hW]; unfold wyt; rw [hle]; rw [show ((le : Nat) : Int).toNat = le from rfl, if_pos ht]
    have hW2 : ∀ t, le < t → W t = (go : Int) := fun t ht => by
      rw [hW]; unfold wyt; rw [hle]; rw [show ((le : Nat) : Int).toNat = le from rfl, if_neg (by omega)]
    have hpt := pth_lt (mv := mv) (B := fun u => bkD lv mv ce go le (le - u)) hL (show pl < 36 by omega)
    rw [← hW, hle]
    rw [hle] at hlr hd
    refine g_aload_n q_X3_find_29 rfl ?_
    refine g_aload_n q_X3_find_30 rfl ?_
    refine g_iload q_X3_find_31 rfl ?_
    refine g_iload q_X3_find_33 rfl ?_
    refine g_callV (rc' := 0) (rs' := 0) (As := [_, _, _]) cs_X3_47 q_X3_find_35 (sp_lookBack hΓ h0 h1 h2 h3 hg h6 hsg go le (by omega) (by omega)) rfl (by repeat first | with_reducible assumption | with_reducible exact hput_s _ _ _ | refine (hput_n _ _ (by omega)).trans ?_ | exact hput_s _ _ _ | assumption) rfl rfl rfl rfl (Nat.le_of_ble_eq_true rfl) (by decide) (by decide) (by decide) (fun _ _ h => h.elim) (fun v σ' hq => ?_)
    obtain ⟨rfl, B, rfl, hB⟩ := hq
    obtain ⟨τ, hτ⟩ : ∃ τ, τ = hput σ (s + 3) (al 41 B) := ⟨_, rfl⟩
    have k0 : τ.2 s = some (sro s) := by rw [hτ, hput_n _ _ (by omega)]; exact h0
    have k2 : τ.2 (s + 2) = some (al 164 mv) := by rw [hτ, hput_n _ _ (by omega)]; exact h2
    have k3 : τ.2 (s + 3) = some (al 41 B) := by rw [hτ]; exact hput_s _ _ _
    have kg : τ.2 g = some (sco g cols rows carts) := by rw [hτ, hput_n _ _ (by omega)]; exact hg
    have kg2 : τ.2 (g + 2) = some (ai 5 PL) := by rw [hτ, hput_n _ _ (by omega)]; exact hg2
    have k6 : τ.2 (g + 6) = some (al 4 lv) := by rw [hτ, hput_n _ _ (by omega)]; exact h6
    have kr : τ.2 ra = some (ai N R) := by rw [hτ, hput_n _ _ (by omega)]; exact hr
    rw [← hτ]
    refine g_aload_n q_X3_find_38 rfl ?_
    refine g_iload q_X3_find_39 rfl ?_
    refine g_aload_n q_X3_find_41 rfl ?_
    refine g_get fl_X3_40 q_X3_find_42 (by repeat first | with_reducible assumption | with_reducible exact hput_s _ _ _ | refine (hput_n _ _ (by omega)).trans ?_ | exact hput_s _ _ _ | assumption) rfl ?_
    refine g_iload_n q_X3_find_45 rfl ?_
    refine g_iaload q_X3_find_46 (by repeat first | with_reducible assumption | with_reducible exact hput_s _ _ _ | refine (hput_n _ _ (by omega)).trans ?_ | exact hput_s _ _ _ | assumption) (by omega) (by omega) ?_
    refine g_topi (b := (pl : Int)) (by exact hpl) ?_
    refine g_iastore q_X3_find_47 (by repeat first | with_reducible assumption | with_reducible exact hput_s _ _ _ | refine (hput_n _ _ (by omega)).trans ?_ | exact hput_s _ _ _ | assumption) (by omega) (by omega) ?_
    refine g_iconst q_X3_find_48 ?_
    refine g_istore (L' := [_, _, _, _, _, _, _, _]) q_X3_find_49 (by decide) rfl ?_
    have fin : ∀ t9 : Nat, le < t9 → t9 ≤ 41 → G Γ miX3_find cX3_find (fun r σ' => r = some (.int (ii (le : Int))) ∧ (((le : Int) = -1 ∧ σ' = σ) ∨ ((le : Int) ≠ -1 ∧ ∃ B, σ' = hput (hput σ (s + 3) (al 41 B)) ra (ai N (va_cpy W R 0 st 41))))) noX 0 0 93 [some (.ref s), some (.ref g), some (.int (ii c)), some (.ref ra), some (.int (ii st)), some (.int (ii go)), some (.int (ii le)), some (.int (ii t9))] [] (hput τ ra (ai N (va_cpy W R 0 st t9))) := by
      intro t9 h9 h9b
      refine g_loop (fun t => le < t ∧ t ≤ 41) (fun t : Nat => G Γ _ cX3_find _ _ 0 0 93 [some (.ref s), some (.ref g), some (.int (ii c)), some (.ref ra), some (.int (ii st)), some (.int (ii go)), some (.int (ii le)), some (.int (ii t))] [] (hput τ ra (ai N (va_cpy W R 0 st t)))) (fun t => 41 - t) ?_ t9 ⟨h9, h9b⟩
      intro t ⟨ht1, ht2⟩ ih
      refine g_iload q_X3_find_93 rfl ?_
      refine g_bipush q_X3_find_95 bp_40 ?_
      refine g_icmp_gt (tgt := 115) q_X3_find_97 (by decide) ⟨by omega, by omega⟩ ⟨by omega, by omega⟩ (fun hx => ?_) (fun hx => ?_)
      · have e : t = 41 := by omega
        subst e
        refine g_iload q_X3_find_115 rfl ?_
        refine g_ireturn q_X3_find_117.1 rfl ?_
        exact ⟨rfl, Or.inr ⟨hd, B, by rw [hτ]⟩⟩
      · refine g_aload_n q_X3_find_100 rfl ?_
        refine g_iload q_X3_find_101 rfl ?_
        refine g_iload q_X3_find_103 rfl ?_
        refine g_iadd q_X3_find_105 ?_
        refine g_iload q_X3_find_106 rfl ?_
        refine g_iastore q_X3_find_108 (by repeat first | with_reducible assumption | with_reducible exact hput_s _ _ _ | refine (hput_n _ _ (by omega)).trans ?_ | exact hput_s _ _ _ | assumption) (by omega) (by omega) ?_
        refine g_iinc (L' := [_, _, _, _, _, _, _, _]) q_X3_find_109 rfl rfl ?_
        refine g_goto (tgt := 93) q_X3_find_112 (by decide) ?_
        rw [hput_hput]
        have := ih (t + 1) ⟨by omega, by omega⟩ (by omega)
        rw [← cpy_up _ _ _ t, hW2 t ht1] at this
        exact this
    refine g_eq (σ2 := hput τ ra (ai N (va_cpy W R 0 st 1))) rfl rfl ?_ ?_
    · rw [← cpy_up, cpy_0, hW1 0 (Nat.zero_le _)]; rfl
    refine g_loop (fun t => t ≤ le) (fun t : Nat => G Γ _ cX3_find _ _ 0 0 51 [some (.ref s), some (.ref g), some (.int (ii c)), some (.ref ra), some (.int (ii st)), some (.int (ii go)), some (.int (ii le)), some (.int (ii ((t + 1 : Nat) : Int)))] [] (hput τ ra (ai N (va_cpy W R 0 st (t + 1))))) (fun t => le - t) ?_ 0 (Nat.zero_le _)
    intro t ht ih
    refine g_iload q_X3_find_51 rfl ?_
    refine g_iload q_X3_find_53 rfl ?_
    refine g_icmp_gt (tgt := 87) q_X3_find_55 (by decide) ⟨by omega, by omega⟩ ⟨by omega, by omega⟩ (fun hx => ?_) (fun hx => ?_)
    · have e : t = le := by omega
      subst e
      refine g_iload q_X3_find_87 rfl ?_
      refine g_iconst q_X3_find_89 ?_
      refine g_iadd q_X3_find_90 ?_
      refine g_istore (L' := [_, _, _, _, _, _, _, _]) q_X3_find_91 (by decide) rfl ?_
      exact fin (t + 1) (by omega) (by omega)
    · have ei : ((st : Int) + ((t + 1 : Nat) : Int) - 1) = ((st + t : Nat) : Int) := by omega
      have ev : va_cpy W R 0 st (t + 1) (st + t) = (pth lv mv (fun u => bkD lv mv ce go le (le - u)) pl t : Int) := by rw [cpy_at _ _ (by omega), hW1 t (by omega)]
      have hp9 := hpt t
      refine g_aload_n q_X3_find_58 rfl ?_
      refine g_iload q_X3_find_59 rfl ?_
      refine g_iload q_X3_find_61 rfl ?_
      refine g_iadd q_X3_find_63 ?_
      refine g_aload_n q_X3_find_64 rfl ?_
      refine g_aload_n q_X3_find_65 rfl ?_
      refine g_aload_n q_X3_find_66 rfl ?_
      refine g_iload q_X3_find_67 rfl ?_
      refine g_iload q_X3_find_69 rfl ?_
      refine g_iadd q_X3_find_71 ?_
      refine g_iconst q_X3_find_72 ?_
      refine g_isub q_X3_find_73 ?_
      refine g_topi (b := ((st + t : Nat) : Int)) (by exact ei) ?_
      refine g_iaload q_X3_find_74 (by repeat first | with_reducible assumption | with_reducible exact hput_s _ _ _ | refine (hput_n _ _ (by omega)).trans ?_ | exact hput_s _ _ _ | assumption) (by omega) (by omega) ?_
      refine g_topi (b := (pth lv mv (fun u => bkD lv mv ce go le (le - u)) pl t : Int)) (by exact ev) ?_
      refine g_iload q_X3_find_75 rfl ?_
      refine g_callV (rc' := 0) (rs' := 0) (As := [_, _, _]) cs_X3_51 q_X3_find_77 (sp_leastStep (g := g) (cols := cols) (rows := rows) (carts := carts) (lv := lv) (mv := mv) (bk := B) hΓ hL ((hput_n _ _ (by omega)).trans k0) ((hput_n _ _ (by omega)).trans k2) ((hput_n _ _ (by omega)).trans k3) ((hput_n _ _ (by omega)).trans kg) ((hput_n _ _ (by omega)).trans k6) (pth lv mv (fun u => bkD lv mv ce go le (le - u)) pl t) (t + 1) hp9 (by omega)) rfl (by repeat first | with_reducible assumption | with_reducible exact hput_s _ _ _ | refine (hput_n _ _ (by omega)).trans ?_ | exact hput_s _ _ _ | assumption) rfl rfl rfl rfl (Nat.le_of_ble_eq_true rfl) (by decide) (by decide) (by decide) (fun _ _ h => h.elim) (k_ri ?_)
      refine g_topi (b := W (t + 1)) ?_ ?_
      · rw [hW1 (t + 1) (by omega), pth, lst_cong (B' := fun u => bkD lv mv ce go le (le - u)) (hB (t + 1) (by omega))]
      refine g_iastore q_X3_find_80 (by repeat first | with_reducible assumption | with_reducible exact hput_s _ _ _ | refine (hput_n _ _ (by omega)).trans ?_ | exact hput_s _ _ _ | assumption) (by omega) (by omega) ?_
      refine g_iinc (L' := [_, _, _, _, _, _, _, _]) q_X3_find_81 rfl rfl ?_
      refine g_goto (tgt := 51) q_X3_find_84 (by decide) ?_
      rw [hput_hput]
      have := ih (t + 1) (by omega) (by omega)
      rw [← cpy_up _ _ _ (t + 1)] at this
      exact this
/-- the ways of all carts alone -/
def alw (lv : Nat → BitVec 64) (PL GO : Nat → Int) (c t : Nat) : Int := wyt lv (fun _ => 0) (fun _ => 0) (PL c).toNat (GO c).toNat t
def alc (lv : Nat → BitVec 64) (PL GO : Nat → Int) (c : Nat) : Int := lcs lv (fun _ => 0) (fun _ => 0) (PL c).toNat (GO c).toNat
def inb (w k a : Nat) : Prop := w ≤ a ∧ a < w + k
def eqOff (σ σ' : AH) (F : Nat → Prop) : Prop := σ'.1 = σ.1 ∧ ∀ a, ¬ F a → σ'.2 a = σ.2 a
theorem eqOff.rfl' {σ : AH} {F : Nat → Prop} : eqOff σ σ F := ⟨rfl, fun _ _ => rfl⟩
theorem eqOff.put {σ σ' : AH} {F : Nat → Prop} (h : eqOff σ σ' F) {a : Nat} (ha : F a) (e : AE) : eqOff σ (hput σ' a e) F := ⟨h.1, fun b hb => by rw [hput_n _ _ (fun q => hb (by rw [q]; exact ha))]; exact h.2 b hb⟩
theorem eqOff.trans {σ σ1 σ2 : AH} {F G : Nat → Prop} (h : eqOff σ σ1 F) (h2 : eqOff σ1 σ2 G) (hg : ∀ a, G a → F a) : eqOff σ σ2 F := ⟨h2.1.trans h.1, fun a ha => (h2.2 a (fun q => ha (hg a q))).trans (h.2 a ha)⟩
/-- a Search, whatever it holds -/
def SRo (σ : AH) (s : Nat) : Prop := σ.2 s = some (sro s) ∧ (∃ ce, σ.2 (s + 1) = some (al 41 ce)) ∧ (∃ mv, σ.2 (s + 2) = some (al 164 mv)) ∧ ∃ bk, σ.2 (s + 3) = some (al 41 bk)
def WYo (σ : AH) (w n : Nat) (P C : Nat → Int) : Prop := (∃ ct cs cl co, σ.2 w = some (wyo w n ct cs cl co)) ∧ σ.2 (w + 1) = some (ai 205 P) ∧ σ.2 (w + 2) = some (ai 5 C)
theorem SRo.keep {σ σ' : AH} {s : Nat} (h : SRo σ s) (e : ∀ a, inb s 4 a → σ'.2 a = σ.2 a) : SRo σ' s := by
  obtain ⟨h0, ⟨ce, h1⟩, ⟨mv, h2⟩, bk, h3⟩ := h
  exact ⟨(e s ⟨by omega, by omega⟩).trans h0, ⟨ce, (e _ ⟨by omega, by omega⟩).trans h1⟩, ⟨mv, (e _ ⟨by omega, by omega⟩).trans h2⟩, bk, (e _ ⟨by omega, by omega⟩).trans h3⟩
theorem WYo.keep {σ σ' : AH} {w n : Nat} {P C : Nat → Int} (h : WYo σ w n P C) (e : ∀ a, inb w 3 a → σ'.2 a = σ.2 a) : WYo σ' w n P C := by
  obtain ⟨⟨ct, cs, cl, co, h0⟩, h1, h2⟩ := h
  exact ⟨⟨ct, cs, cl, co, (e w ⟨by omega, by omega⟩).trans h0⟩, (e _ ⟨by omega, by omega⟩).trans h1, (e _ ⟨by omega, by omega⟩).trans h2⟩
theorem okP_up {P : Nat → Int} (h : okP P) (k : Nat) {x : Int} (hx : 0 ≤ x ∧ x < 36) : okP (va_up P k x) := fun j => by
  unfold va_up
  split
  · exact hx
  · exact h j
theorem okC_up {C : Nat → Int} (h : okC C) (k : Nat) {x : Int} (hx : -1 ≤ x ∧ x ≤ 40) : okC (va_up C k x) := fun j => by
  unfold va_up
  split
  · exact hx
  · exact h j
theorem okP_cpy {P W : Nat → Int} (h : okP P) (hW : okP W) (sp st n : Nat) : okP (va_cpy W P sp st n) := fun j => by
  unfold va_cpy
  split
  · exact hW _
  · exact h j
theorem okP_wyt {lv mv ce : Nat → BitVec 64} (hL : okL lv) {pl go : Nat} (hp : pl < 36) (hg : go < 36) : okP (wyt lv mv ce pl go) := fun t => wyt_rg hL hp hg t
/-- the grid's cells that matter for ways -/
def SCg (σ : AH) (g cols rows carts : Nat) (PL GO : Nat → Int) (lv : Nat → BitVec 64) : Prop := σ.2 g = some (sco g cols rows carts) ∧ σ.2 (g + 2) = some (ai 5 PL) ∧ σ.2 (g + 3) = some (ai 5 GO) ∧ σ.2 (g + 6) = some (al 4 lv)
theorem SCg.keep {σ σ' : AH} {g cols rows carts : Nat} {PL GO : Nat → Int} {lv : Nat → BitVec 64} (h : SCg σ g cols rows carts PL GO lv) (e : ∀ a, inb g 7 a → σ'.2 a = σ.2 a) : SCg σ' g cols rows carts PL GO lv :=
  ⟨(e _ ⟨by omega, by omega⟩).trans h.1, (e _ ⟨by omega, by omega⟩).trans h.2.1, (e _ ⟨by omega, by omega⟩).trans h.2.2.1, (e _ ⟨by omega, by omega⟩).trans h.2.2.2⟩
theorem sp_goAlone (hΓ : Gd Γ) (hL : okL lv) {w n0 : Nat} {P C : Nat → Int} (hS : SRo σ s) (hG : SCg σ g cols rows carts PL GO lv) (hW : WYo σ w n0 P C) (hsg : s + 3 < g ∨ g + 6 < s) (hws : w + 2 < s ∨ s + 3 < w) (hwg : w + 2 < g ∨ g + 6 < w) (hn : carts ≤ 5) (hp : okQ carts PL) (hgo : okQ carts GO) (hP : okP P) (hC : okC C) : Sp Γ miX8_goAlone 0 0 [.ref w, .ref g, .ref s] σ (fun r σ' => r = none ∧ SRo σ' s ∧ eqOff σ σ' (fun a => inb w 3 a ∨ inb s 4 a) ∧ ∃ P' C', WYo σ' w carts P' C' ∧ okP P' ∧ okC C' ∧ ∀ c, c < carts → C' c = alc lv PL GO c ∧ (alc lv PL GO c ≠ -1 → ∀ t, t < 41 → P' (41 * c + t) = alw lv PL GO c t)) noX := by
  obtain ⟨h0, ⟨ce, h1⟩, ⟨mv, h2⟩, bk, h3⟩ := hS
  obtain ⟨hg, hg2, hg3, h6⟩ := hG
  obtain ⟨⟨ct, cs, cl, co, hw0⟩, hw1, hw2⟩ := hW
  refine Sp_of (L := [_, _, _, _]) hΓ (by decide +kernel) rfl (Nat.le_of_ble_eq_true rfl) rfl ?_
  refine g_aload_n q_X8_goAlone_0 rfl ?_
  refine g_aload_n q_X8_goAlone_1 rfl ?_
  refine g_get fl_X8_34 q_X8_goAlone_2 (by repeat first | with_reducible assumption | with_reducible exact hput_s _ _ _ | refine (hput_n _ _ (by omega)).trans ?_ | exact hput_s _ _ _ | assumption) rfl ?_
  refine g_put fp_X8_18 q_X8_goAlone_5 (by repeat first | with_reducible assumption | with_reducible exact hput_s _ _ _ | refine (hput_n _ _ (by omega)).trans ?_ | exact hput_s _ _ _ | assumption) rfl rfl ?_
  refine g_aload_n q_X8_goAlone_8 rfl ?_
  refine g_callVN (rc' := 0) (rs' := 0) (As := []) cs_X8_37 q_X8_goAlone_9 (sp_clear hΓ ((hput_n _ _ (by omega)).trans h0) ((hput_n _ _ (by omega)).trans h1) ((hput_n _ _ (by omega)).trans h2)) rfl (by repeat first | with_reducible assumption | with_reducible exact hput_s _ _ _ | refine (hput_n _ _ (by omega)).trans ?_ | exact hput_s _ _ _ | assumption) rfl rfl rfl rfl (Nat.le_of_ble_eq_true rfl) (by decide) (by decide) (by decide) (fun _ _ h => h.elim) (k_rv ?_)
  refine g_iconst q_X8_goAlone_12 ?_
  refine g_istore_n (L' := [_, _, _, _]) q_X8_goAlone_13 (by decide) rfl ?_
  refine g_loop2 (fun (k : Nat) (τ : AH) => k ≤ carts ∧ τ.2 w = some (wyo w carts ct cs cl co) ∧ τ.2 (s + 1) = some (al 41 fun _ => 0) ∧ τ.2 (s + 2) = some (al 164 fun _ => 0) ∧ (∃ B, τ.2 (s + 3) = some (al 41 B)) ∧ eqOff σ τ (fun a => inb w 3 a ∨ inb (s + 1) 3 a) ∧ ∃ P' C', τ.2 (w + 1) = some (ai 205 P') ∧ τ.2 (w + 2) = some (ai 5 C') ∧ okP P' ∧ okC C' ∧ ∀ c, c < k → C' c = alc lv PL GO c ∧ (alc lv PL GO c ≠ -1 → ∀ t, t < 41 → P' (41 * c + t) = alw lv PL GO c t)) (fun k τ => G Γ _ cX8_goAlone _ _ 0 0 14 [some (.ref w), some (.ref g), some (.ref s), some (.int (ii k))] [] τ) (fun k _ => carts - k) ?_ 0 _ ⟨Nat.zero_le _, ?_, ?_, ?_, ⟨bk, ?_⟩, ⟨rfl, fun a ha => ?_⟩, P, C, ?_, ?_, hP, hC, fun c h => absurd h (Nat.not_lt_zero c)⟩
  · rintro k τ ⟨hk, q0, q1, q2, ⟨B, q3⟩, hE, P1, C1, p1, p2, o1, o2, hcs⟩ ih
    have kg : ∀ a, inb g 7 a → τ.2 a = σ.2 a := fun a ha => hE.2 a (fun q => by unfold inb at ha q; omega)
    have ks : τ.2 s = some (sro s) := (hE.2 s (fun q => by unfold inb at q; omega)).trans h0
    have kg0 := (kg g ⟨by omega, by omega⟩).trans hg
    have kg2 := (kg (g + 2) ⟨by omega, by omega⟩).trans hg2
    have kg3 := (kg (g + 3) ⟨by omega, by omega⟩).trans hg3
    have kg6 := (kg (g + 6) ⟨by omega, by omega⟩).trans h6
    refine g_iload_n q_X8_goAlone_14 rfl ?_
    refine g_aload_n q_X8_goAlone_15 rfl ?_
    refine g_get fl_X8_18 q_X8_goAlone_16 (by repeat first | with_reducible assumption | with_reducible exact hput_s _ _ _ | refine (hput_n _ _ (by omega)).trans ?_ | exact hput_s _ _ _ | assumption) rfl ?_
    refine g_icmp_ge (tgt := 48) q_X8_goAlone_19 (by decide) ⟨by omega, by omega⟩ ⟨by omega, by omega⟩ (fun hx => ?_) (fun hx => ?_)
    · refine g_return q_X8_goAlone_48.1 rfl ?_
      have e : k = carts := by omega
      subst e
      exact ⟨rfl, ⟨ks, ⟨_, q1⟩, ⟨_, q2⟩, B, q3⟩, ⟨hE.1, fun a ha => hE.2 a (fun q => ha (by unfold inb at q ⊢; omega))⟩, P1, C1, ⟨⟨ct, cs, cl, co, q0⟩, p1, p2⟩, o1, o2, hcs⟩
    · have hpk : 0 ≤ PL k ∧ PL k < 36 := ⟨(hp k).2 (by omega), (hp k).1.2⟩
      have hgk : 0 ≤ GO k ∧ GO k < 36 := ⟨(hgo k).2 (by omega), (hgo k).1.2⟩
      have hl9 := lcs_rg lv (fun _ => 0) (fun _ => 0) (PL k).toNat (GO k).toNat
      refine g_aload_n q_X8_goAlone_22 rfl ?_
      refine g_get fl_X8_15 q_X8_goAlone_23 (by repeat first | with_reducible assumption | with_reducible exact hput_s _ _ _ | refine (hput_n _ _ (by omega)).trans ?_ | exact hput_s _ _ _ | assumption) rfl ?_
      refine g_iload_n q_X8_goAlone_26 rfl ?_
      refine g_aload_n q_X8_goAlone_27 rfl ?_
      refine g_aload_n q_X8_goAlone_28 rfl ?_
      refine g_iload_n q_X8_goAlone_29 rfl ?_
      refine g_aload_n q_X8_goAlone_30 rfl ?_
      refine g_get fl_X8_9 q_X8_goAlone_31 (by repeat first | with_reducible assumption | with_reducible exact hput_s _ _ _ | refine (hput_n _ _ (by omega)).trans ?_ | exact hput_s _ _ _ | assumption) rfl ?_
      refine g_bipush q_X8_goAlone_34 bp_41 ?_
      refine g_iload_n q_X8_goAlone_36 rfl ?_
      refine g_imul q_X8_goAlone_37 ?_
      refine g_callVN (rc' := 0) (rs' := 0) (As := [_, _, _, _]) cs_X8_42 q_X8_goAlone_38 (sp_find hΓ hL ks q1 q2 q3 kg0 kg2 kg3 kg6 hsg k (w + 1) 205 (41 * k) P1 (by omega) hpk hgk p1 (by omega) (by decide) ⟨by omega, by omega⟩) rfl (by repeat first | with_reducible assumption | with_reducible exact hput_s _ _ _ | refine (hput_n _ _ (by omega)).trans ?_ | exact hput_s _ _ _ | assumption) rfl rfl rfl rfl (Nat.le_of_ble_eq_true rfl) (by decide) (by decide) (by decide) (fun _ _ h => h.elim) (fun v σ' hq => ?_)
      obtain ⟨rfl, ⟨hm, rfl⟩ | ⟨hm, B2, rfl⟩⟩ := hq
      · refine g_iastore q_X8_goAlone_41 (by repeat first | with_reducible assumption | with_reducible exact hput_s _ _ _ | refine (hput_n _ _ (by omega)).trans ?_ | exact hput_s _ _ _ | assumption) (by omega) (by omega) ?_
        refine g_iinc (L' := [_, _, _, _]) q_X8_goAlone_42 rfl rfl ?_
        refine g_goto (tgt := 14) q_X8_goAlone_45 (by decide) ?_
        refine ih (k + 1) _ ⟨by omega, (by repeat first | with_reducible assumption | with_reducible exact hput_s _ _ _ | refine (hput_n _ _ (by omega)).trans ?_ | exact hput_s _ _ _ | assumption), (by repeat first | with_reducible assumption | with_reducible exact hput_s _ _ _ | refine (hput_n _ _ (by omega)).trans ?_ | exact hput_s _ _ _ | assumption), (by repeat first | with_reducible assumption | with_reducible exact hput_s _ _ _ | refine (hput_n _ _ (by omega)).trans ?_ | exact hput_s _ _ _ | assumption), ⟨B, (by repeat first | with_reducible assumption | with_reducible exact hput_s _ _ _ | refine (hput_n _ _ (by omega)).trans ?_ | exact hput_s _ _ _ | assumption)⟩, hE.put (Or.inl ⟨by omega, by omega⟩) _, P1, va_up C1 k (alc lv PL GO k), (by repeat first | with_reducible assumption | with_reducible exact hput_s _ _ _ | refine (hput_n _ _ (by omega)).trans ?_ | exact hput_s _ _ _ | assumption), hput_s _ _ _, o1, okC_up o2 k hl9, fun c hc => ?_⟩ (by omega)
        unfold va_up
        by_cases e : c = k
        · subst e
          rw [if_pos rfl]
          exact ⟨rfl, fun z => absurd hm z⟩
        · rw [if_neg e]
          exact hcs c (by omega)
      · refine g_iastore q_X8_goAlone_41 (by repeat first | with_reducible assumption | with_reducible exact hput_s _ _ _ | refine (hput_n _ _ (by omega)).trans ?_ | exact hput_s _ _ _ | assumption) (by omega) (by omega) ?_
        refine g_iinc (L' := [_, _, _, _]) q_X8_goAlone_42 rfl rfl ?_
        refine g_goto (tgt := 14) q_X8_goAlone_45 (by decide) ?_
        refine ih (k + 1) _ ⟨by omega, (by repeat first | with_reducible assumption | with_reducible exact hput_s _ _ _ | refine (hput_n _ _ (by omega)).trans ?_ | exact hput_s _ _ _ | assumption), (by repeat first | with_reducible assumption | with_reducible exact hput_s _ _ _ | refine (hput_n _ _ (by omega)).trans ?_ | exact hput_s _ _ _ | assumption), (by repeat first | with_reducible assumption | with_reducible exact hput_s _ _ _ | refine (hput_n _ _ (by omega)).trans ?_ | exact hput_s _ _ _ | assumption), ⟨B2, (by repeat first | with_reducible assumption | with_reducible exact hput_s _ _ _ | refine (hput_n _ _ (by omega)).trans ?_ | exact hput_s _ _ _ | assumption)⟩, ((hE.put (Or.inr ⟨by omega, by omega⟩) _).put (Or.inl ⟨by omega, by omega⟩) _).put (Or.inl ⟨by omega, by omega⟩) _, va_cpy (wyt lv (fun _ => 0) (fun _ => 0) (PL k).toNat (GO k).toNat) P1 0 (41 * k) 41, va_up C1 k (alc lv PL GO k), (by repeat first | with_reducible assumption | with_reducible exact hput_s _ _ _ | refine (hput_n _ _ (by omega)).trans ?_ | exact hput_s _ _ _ | assumption), hput_s _ _ _, okP_cpy o1 (okP_wyt hL (by omega) (by omega)) _ _ _, okC_up o2 k hl9, fun c hc => ?_⟩ (by omega)
        unfold va_up
        by_cases e : c = k
        · subst e
          rw [if_pos rfl]
          exact ⟨rfl, fun _ t ht => cpy_at _ _ ht⟩
        · rw [if_neg e]
          refine ⟨(hcs c (by omega)).1, fun z t ht => ?_⟩
          rw [cpy_out _ _ (by omega)]
          exact (hcs c (by omega)).2 z t ht
  · exact (by repeat first | with_reducible assumption | with_reducible exact hput_s _ _ _ | refine (hput_n _ _ (by omega)).trans ?_ | exact hput_s _ _ _ | assumption)
  · exact (by repeat first | with_reducible assumption | with_reducible exact hput_s _ _ _ | refine (hput_n _ _ (by omega)).trans ?_ | exact hput_s _ _ _ | assumption)
  · exact (by repeat first | with_reducible assumption | with_reducible exact hput_s _ _ _ | refine (hput_n _ _ (by omega)).trans ?_ | exact hput_s _ _ _ | assumption)
  · exact (by repeat first | with_reducible assumption | with_reducible exact hput_s _ _ _ | refine (hput_n _ _ (by omega)).trans ?_ | exact hput_s _ _ _ | assumption)
  · unfold inb at ha; rw [hput_n _ _ (by omega), hput_n _ _ (by omega), hput_n _ _ (by omega)]
  · exact (by repeat first | with_reducible assumption | with_reducible exact hput_s _ _ _ | refine (hput_n _ _ (by omega)).trans ?_ | exact hput_s _ _ _ | assumption)
  · exact (by repeat first | with_reducible assumption | with_reducible exact hput_s _ _ _ | refine (hput_n _ _ (by omega)).trans ?_ | exact hput_s _ _ _ | assumption)
end FD

