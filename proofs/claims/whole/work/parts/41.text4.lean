/-! TextReader: wordIs, takeGiven -/
section TX4
variable {Γ : GT} {σ : AH} {r len pos ws : Nat} {fa : Int} {tx : Nat → Int} {a v n : Nat} {f : Nat → Int}
def isW (tx : Nat → Int) (ws pos : Nat) (n : Nat) (f : Nat → Int) : Bool := decide (pos - ws = n ∧ ∀ j, j < n → tx (ws + j) = f j)
theorem sp_wordIs (hΓ : Gd Γ) (h0 : σ.2 r = some (rdo r len pos fa ws)) (h1 : σ.2 (r + 1) = some (ai 400 tx)) (oX : okX tx) (hl : len ≤ 400) (hp : ws ≤ pos ∧ pos ≤ len) (hs : ST Γ a v n f) (hf : ∀ j, j < n → 0 ≤ f j ∧ f j < 128) (hn : n < 8) : Sp Γ miX5_wordIs 0 0 [.ref r, .ref a] σ (rb (isW tx ws pos n f) σ) noX := by
  refine Sp_of (L := [_, _, _]) hΓ (by decide +kernel) rfl (Nat.le_of_ble_eq_true rfl) rfl ?_
  refine g_aload_n q_X5_wordIs_0 rfl ?_
  refine g_get fl_X5_19 q_X5_wordIs_1 (by repeat first | with_reducible assumption | with_reducible exact hput_s _ _ _ | refine (hput_n _ _ (by omega)).trans ?_ | exact hput_s _ _ _ | assumption) rfl ?_
  refine g_aload_n q_X5_wordIs_4 rfl ?_
  refine g_get fl_X5_25 q_X5_wordIs_5 (by repeat first | with_reducible assumption | with_reducible exact hput_s _ _ _ | refine (hput_n _ _ (by omega)).trans ?_ | exact hput_s _ _ _ | assumption) rfl ?_
  refine g_isub q_X5_wordIs_8 ?_
  refine g_aload_n q_X5_wordIs_9 rfl ?_
  refine g_callVS (rc' := 0) (rs' := 0) (As := []) cs_X5_75 q_X5_wordIs_10 (sp_length hΓ hs hn) rfl hs.1 rfl rfl (Nat.le_of_ble_eq_true rfl) (by decide) (by decide) (by decide) (fun _ _ h => h.elim) (k_ri ?_)
  refine g_icmp_eq (tgt := 18) q_X5_wordIs_13 (by decide) ⟨by omega, by omega⟩ ⟨by omega, by omega⟩ (fun e1 => ?_) (fun e1 => ?_)
  · refine g_iconst q_X5_wordIs_18 ?_
    refine g_istore_n (L' := [_, _, _]) q_X5_wordIs_19 (by decide) rfl ?_
    refine g_loop (fun k => k ≤ n ∧ ∀ i, i < k → tx (ws + i) = f i) (fun k : Nat => G Γ _ cX5_wordIs _ _ 0 0 20 [some (.ref r), some (.ref a), some (.int (ii k))] [] σ) (fun k => n - k) ?_ 0 ⟨Nat.zero_le _, fun i hi => absurd hi (Nat.not_lt_zero i)⟩
    intro k ⟨hk, heq⟩ ih
    refine g_iload_n q_X5_wordIs_20 rfl ?_
    refine g_aload_n q_X5_wordIs_21 rfl ?_
    refine g_callVS (rc' := 0) (rs' := 0) (As := []) cs_X5_75 q_X5_wordIs_22 (sp_length hΓ hs hn) rfl hs.1 rfl rfl (Nat.le_of_ble_eq_true rfl) (by decide) (by decide) (by decide) (fun _ _ h => h.elim) (k_ri ?_)
    refine g_icmp_ge (tgt := 55) q_X5_wordIs_25 (by decide) ⟨by omega, by omega⟩ ⟨by omega, by omega⟩ (fun e2 => ?_) (fun e2 => ?_)
    · have e : k = n := by omega
      subst e
      rw [show isW tx ws pos k f = true from decide_eq_true ⟨by omega, heq⟩]
      refine g_iconst q_X5_wordIs_55 ?_
      refine g_zreturn q_X5_wordIs_56.1 rfl (by first | exact Or.inl rfl | exact Or.inr rfl | omega) ?_
      exact ⟨rfl, rfl⟩
    have hx := oX (ws + k)
    have hfk := hf k (by omega)
    refine g_aload_n q_X5_wordIs_28 rfl ?_
    refine g_get fl_X5_9 q_X5_wordIs_29 (by repeat first | with_reducible assumption | with_reducible exact hput_s _ _ _ | refine (hput_n _ _ (by omega)).trans ?_ | exact hput_s _ _ _ | assumption) rfl ?_
    refine g_aload_n q_X5_wordIs_32 rfl ?_
    refine g_get fl_X5_25 q_X5_wordIs_33 (by repeat first | with_reducible assumption | with_reducible exact hput_s _ _ _ | refine (hput_n _ _ (by omega)).trans ?_ | exact hput_s _ _ _ | assumption) rfl ?_
    refine g_iload_n q_X5_wordIs_36 rfl ?_
    refine g_iadd q_X5_wordIs_37 ?_
    refine g_iaload q_X5_wordIs_38 (by repeat first | with_reducible assumption | with_reducible exact hput_s _ _ _ | refine (hput_n _ _ (by omega)).trans ?_ | exact hput_s _ _ _ | assumption) (by omega) (by omega) ?_
    refine g_topi (b := tx (ws + k)) rfl ?_
    refine g_aload_n q_X5_wordIs_39 rfl ?_
    refine g_iload_n q_X5_wordIs_40 rfl ?_
    refine g_callVS (rc' := 0) (rs' := 0) (As := [_]) cs_X5_80 q_X5_wordIs_41 (sp_charAt hΓ hs hf k (by omega) hn) rfl hs.1 rfl rfl (Nat.le_of_ble_eq_true rfl) (by decide) (by decide) (by decide) (fun _ _ h => h.elim) (k_ri ?_)
    refine g_icmp_eq (tgt := 49) q_X5_wordIs_44 (by decide) ⟨by omega, by omega⟩ ⟨by omega, by omega⟩ (fun e3 => ?_) (fun e3 => ?_)
    · refine g_iinc (L' := [_, _, _]) q_X5_wordIs_49 rfl rfl ?_
      refine g_goto (tgt := 20) q_X5_wordIs_52 (by decide) ?_
      refine ih (k + 1) ⟨by omega, fun i hi => ?_⟩ (by omega)
      by_cases q : i = k
      · rw [q]; exact e3
      · exact heq i (by omega)
    · rw [show isW tx ws pos n f = false from decide_eq_false (fun q => e3 (q.2 k (by omega)))]
      refine g_iconst q_X5_wordIs_47 ?_
      refine g_zreturn q_X5_wordIs_48.1 rfl (by first | exact Or.inl rfl | exact Or.inr rfl | omega) ?_
      exact ⟨rfl, rfl⟩
  · rw [show isW tx ws pos n f = false from decide_eq_false (fun q => e1 (by have := q.1; omega))]
    refine g_iconst q_X5_wordIs_16 ?_
    refine g_zreturn q_X5_wordIs_17.1 rfl (by first | exact Or.inl rfl | exact Or.inr rfl | omega) ?_
    exact ⟨rfl, rfl⟩
theorem sp_takeGiven (hΓ : Gd Γ) (h0 : σ.2 r = some (rdo r len pos fa ws)) (h1 : σ.2 (r + 1) = some (ai 400 tx)) (oX : okX tx) (hl : len ≤ 400) (hp : pos ≤ len) (hs : ST Γ a v n f) (hf : ∀ j, j < n → 0 ≤ f j ∧ f j < 128) (hn : n < 8) : Sp Γ miX5_takeGiven 0 0 [.ref r, .ref a] σ (rb (isW tx (avn pBl tx len pos) (avn pLe tx len (avn pBl tx len pos)) n f) (hput σ r (rdo r len (avn pLe tx len (avn pBl tx len pos)) (if isW tx (avn pBl tx len pos) (avn pLe tx len (avn pBl tx len pos)) n f = true then fa else (avn pBl tx len pos : Int)) (avn pBl tx len pos)))) noX := by
  have hr1 := avn_rg (p := pBl) (tx := tx) hp
  have hr2 := avn_rg (p := pLe) (tx := tx) hr1.2
  refine Sp_of (L := [_, _]) hΓ (by decide +kernel) rfl (Nat.le_of_ble_eq_true rfl) rfl ?_
  refine g_aload_n q_X5_takeGiven_0 rfl ?_
  refine g_callV (rc' := 0) (rs' := 0) (As := []) cs_X5_48 q_X5_takeGiven_1 (sp_takeWord hΓ h0 h1 oX hl hp) rfl (by repeat first | with_reducible assumption | with_reducible exact hput_s _ _ _ | refine (hput_n _ _ (by omega)).trans ?_ | exact hput_s _ _ _ | assumption) rfl rfl rfl rfl (Nat.le_of_ble_eq_true rfl) (by decide) (by decide) (by decide) (fun _ _ h => h.elim) (k_rv ?_)
  obtain ⟨p1, hp1⟩ : ∃ z, z = avn pBl tx len pos := ⟨_, rfl⟩
  rw [← hp1] at hr1 hr2 ⊢
  obtain ⟨p2, hp2⟩ : ∃ z, z = avn pLe tx len p1 := ⟨_, rfl⟩
  rw [← hp2] at hr2 ⊢
  refine g_aload_n q_X5_takeGiven_4 rfl ?_
  refine g_aload_n q_X5_takeGiven_5 rfl ?_
  refine g_callV (rc' := 0) (rs' := 0) (As := [_]) cs_X5_53 q_X5_takeGiven_6 (sp_wordIs hΓ (hput_s _ _ _) ((hput_n _ _ (by omega)).trans h1) oX hl hr2 hs hf hn) rfl (by repeat first | with_reducible assumption | with_reducible exact hput_s _ _ _ | refine (hput_n _ _ (by omega)).trans ?_ | exact hput_s _ _ _ | assumption) rfl rfl rfl rfl (Nat.le_of_ble_eq_true rfl) (by decide) (by decide) (by decide) (fun _ _ h => h.elim) (k_rb ?_)
  cases hb : isW tx p1 p2 n f with
  | true =>
    rw [if_pos rfl]
    refine g_if_ne (tgt := 23) q_X5_takeGiven_9 (by decide) (bi_rg _) (fun e1 => ?_) (fun e1 => ?_)
    · refine g_iconst q_X5_takeGiven_23 ?_
      refine g_goto (tgt := 28) q_X5_takeGiven_24 (by decide) ?_
      refine g_zreturn q_X5_takeGiven_28.1 rfl (by first | exact Or.inl rfl | exact Or.inr rfl | omega) ?_
      exact ⟨rfl, rfl⟩
    · exact absurd e1 (by decide)
  | false =>
    rw [if_neg (by decide)]
    refine g_if_ne (tgt := 23) q_X5_takeGiven_9 (by decide) (bi_rg _) (fun e1 => ?_) (fun e1 => ?_)
    · exact absurd rfl e1
    · refine g_aload_n q_X5_takeGiven_12 rfl ?_
      refine g_aload_n q_X5_takeGiven_13 rfl ?_
      refine g_get fl_X5_25 q_X5_takeGiven_14 (by repeat first | with_reducible assumption | with_reducible exact hput_s _ _ _ | refine (hput_n _ _ (by omega)).trans ?_ | exact hput_s _ _ _ | assumption) rfl ?_
      refine g_callV (rc' := 0) (rs' := 0) (As := [_]) cs_X5_71 q_X5_takeGiven_17 (sp_failAt hΓ (hput_s _ _ _) p1) rfl (by repeat first | with_reducible assumption | with_reducible exact hput_s _ _ _ | refine (hput_n _ _ (by omega)).trans ?_ | exact hput_s _ _ _ | assumption) rfl rfl rfl rfl (Nat.le_of_ble_eq_true rfl) (by decide) (by decide) (by decide) (fun _ _ h => h.elim) (k_rb ?_)
      rw [hput_hput]
      refine g_if_eq (tgt := 27) q_X5_takeGiven_20 (by decide) (bi_rg _) (fun e2 => ?_) (fun e2 => ?_)
      · refine g_iconst q_X5_takeGiven_27 ?_
        refine g_zreturn q_X5_takeGiven_28.1 rfl (by first | exact Or.inl rfl | exact Or.inr rfl | omega) ?_
        exact ⟨rfl, rfl⟩
      · exact absurd rfl e2
end TX4

