/-! TextReader: takeRow -/
def sgn (z : Int) : Int := fstN (fun k => decide (k_sgn k = z)) 6
def pSg (z : Int) : Bool := decide (0 ≤ sgn z)
def okRw (cols rows w : Nat) : Bool := decide (1 ≤ w ∧ w ≤ 6 ∧ (rows = 0 ∨ w = cols))
section TX6
variable {Γ : GT} {σ : AH} {r len pos ws : Nat} {fa : Int} {tx : Nat → Int}
theorem sp_takeRow (hΓ : Gd Γ) {cols rows carts : Nat} {SO : Nat → Int} (h0 : σ.2 r = some (rdo r len pos fa ws)) (h1 : σ.2 (r + 1) = some (ai 400 tx)) (oX : okX tx) (hl : len ≤ 400) (hp : pos ≤ len) (hg : σ.2 (r + 2) = some (sco (r + 2) cols rows carts)) (hg1 : σ.2 (r + 2 + 1) = some (ai 36 SO)) (hcr : cols ≤ 6 ∧ rows < 6) : Sp Γ miX5_takeRow 0 0 [.ref r] σ (fun v σ' => (okRw cols rows (avn pSg tx len (avn pBl tx len pos) - avn pBl tx len pos) = true ∧ v = some (.int (ii (bi true))) ∧ σ' = hput (hput (hput σ r (rdo r len (avn pSg tx len (avn pBl tx len pos)) fa ws)) (r + 2 + 1) (ai 36 (va_cpy (fun i => sgn (tx i)) SO (avn pBl tx len pos) (6 * rows) (avn pSg tx len (avn pBl tx len pos) - avn pBl tx len pos)))) (r + 2) (sco (r + 2) (avn pSg tx len (avn pBl tx len pos) - avn pBl tx len pos) (rows + 1) carts)) ∨ (okRw cols rows (avn pSg tx len (avn pBl tx len pos) - avn pBl tx len pos) = false ∧ v = some (.int (ii (bi false))) ∧ σ' = hput σ r (rdo r len (avn pSg tx len (avn pBl tx len pos)) (avn pBl tx len pos) ws))) noX := by
  have hr1 := avn_rg (p := pBl) (tx := tx) hp
  have hr2 := avn_rg (p := pSg) (tx := tx) hr1.2
  obtain ⟨q1, u1, ks, ss⟩ := str_X5_84 hΓ
  refine Sp_of (L := [_, _, _, _]) hΓ (by decide +kernel) rfl (Nat.le_of_ble_eq_true rfl) rfl ?_
  refine g_aload_n q_X5_takeRow_0 rfl ?_
  refine g_callV (rc' := 0) (rs' := 0) (As := []) cs_X5_45 q_X5_takeRow_1 (sp_skipBlanks hΓ h0 h1 oX hl hp) rfl (by repeat first | with_reducible assumption | with_reducible exact hput_s _ _ _ | refine (hput_n _ _ (by omega)).trans ?_ | exact hput_s _ _ _ | assumption) rfl rfl rfl rfl (Nat.le_of_ble_eq_true rfl) (by decide) (by decide) (by decide) (fun _ _ h => h.elim) (k_rv ?_)
  obtain ⟨p1, hp1⟩ : ∃ z, z = avn pBl tx len pos := ⟨_, rfl⟩
  rw [← hp1] at hr1 hr2 ⊢
  obtain ⟨p2, hp2⟩ : ∃ z, z = avn pSg tx len p1 := ⟨_, rfl⟩
  rw [← hp2] at hr2 ⊢
  obtain ⟨w, hw⟩ : ∃ w, w = p2 - p1 := ⟨_, rfl⟩
  rw [← hw]
  refine g_aload_n q_X5_takeRow_4 rfl ?_
  refine g_get fl_X5_19 q_X5_takeRow_5 (by repeat first | with_reducible assumption | with_reducible exact hput_s _ _ _ | refine (hput_n _ _ (by omega)).trans ?_ | exact hput_s _ _ _ | assumption) rfl ?_
  refine g_istore_n (L' := [_, _, _, _]) q_X5_takeRow_8 (by decide) rfl ?_
  refine g_iconst q_X5_takeRow_9 ?_
  refine g_istore_n (L' := [_, _, _, _]) q_X5_takeRow_10 (by decide) rfl ?_
  refine g_loop (fun k => p1 + k ≤ len ∧ avn pSg tx len (p1 + k) = p2) (fun k : Nat => G Γ _ cX5_takeRow _ _ 0 0 11 [some (.ref r), some (.int (ii p1)), some (.int (ii k)), none] [] (hput σ r (rdo r len (p1 + k) fa ws))) (fun k => len - k) ?_ 0 ⟨by omega, hp2.symm⟩
  intro k ⟨hk, hav⟩ ih
  have hx := oX (p1 + k)
  have stop : avn pSg tx len (p1 + k) = p1 + k → G Γ miX5_takeRow cX5_takeRow (fun v σ' => (okRw cols rows w = true ∧ v = some (.int (ii (bi true))) ∧ σ' = hput (hput (hput σ r (rdo r len p2 fa ws)) (r + 2 + 1) (ai 36 (va_cpy (fun i => sgn (tx i)) SO p1 (6 * rows) w))) (r + 2) (sco (r + 2) w (rows + 1) carts)) ∨ (okRw cols rows w = false ∧ v = some (.int (ii (bi false))) ∧ σ' = hput σ r (rdo r len p2 p1 ws))) noX 0 0 63 [some (.ref r), some (.int (ii p1)), some (.int (ii k)), none] [] (hput σ r (rdo r len (p1 + k) fa ws)) := by
    intro h
    have e9 : p2 = p1 + k := by rw [← hav, h]
    have ew : w = k := by omega
    rw [← e9, ← ew]
    refine g_fl (L2 := [some (.ref r), some (.int (ii p1)), none, none]) ?_ ⟨rfl, rfl, trivial⟩
    obtain ⟨τ, hτ⟩ : ∃ τ, τ = hput σ r (rdo r len p2 fa ws) := ⟨_, rfl⟩
    have t0 : τ.2 r = some (rdo r len p2 fa ws) := by rw [hτ]; exact hput_s _ _ _
    have t1 : τ.2 (r + 1) = some (ai 400 tx) := by rw [hτ]; exact (by repeat first | with_reducible assumption | with_reducible exact hput_s _ _ _ | refine (hput_n _ _ (by omega)).trans ?_ | exact hput_s _ _ _ | assumption)
    have t2 : τ.2 (r + 2) = some (sco (r + 2) cols rows carts) := by rw [hτ]; exact (by repeat first | with_reducible assumption | with_reducible exact hput_s _ _ _ | refine (hput_n _ _ (by omega)).trans ?_ | exact hput_s _ _ _ | assumption)
    have t3 : τ.2 (r + 2 + 1) = some (ai 36 SO) := by rw [hτ]; exact (by repeat first | with_reducible assumption | with_reducible exact hput_s _ _ _ | refine (hput_n _ _ (by omega)).trans ?_ | exact hput_s _ _ _ | assumption)
    refine g_eq (σ2 := τ) rfl rfl hτ.symm ?_
    have bad : okRw cols rows w = false → G Γ miX5_takeRow cX5_takeRow (fun v σ' => (okRw cols rows w = true ∧ v = some (.int (ii (bi true))) ∧ σ' = hput (hput (hput σ r (rdo r len p2 fa ws)) (r + 2 + 1) (ai 36 (va_cpy (fun i => sgn (tx i)) SO p1 (6 * rows) w))) (r + 2) (sco (r + 2) w (rows + 1) carts)) ∨ (okRw cols rows w = false ∧ v = some (.int (ii (bi false))) ∧ σ' = hput σ r (rdo r len p2 p1 ws))) noX 0 0 102 [some (.ref r), some (.int (ii p1)), some (.int (ii w)), none] [] τ := by
      intro hb
      refine g_aload_n q_X5_takeRow_102 rfl ?_
      refine g_iload_n q_X5_takeRow_103 rfl ?_
      refine g_callV (rc' := 0) (rs' := 0) (As := [_]) cs_X5_71 q_X5_takeRow_104 (sp_failAt hΓ t0 p1) rfl (by repeat first | with_reducible assumption | with_reducible exact hput_s _ _ _ | refine (hput_n _ _ (by omega)).trans ?_ | exact hput_s _ _ _ | assumption) rfl rfl rfl rfl (Nat.le_of_ble_eq_true rfl) (by decide) (by decide) (by decide) (fun _ _ h => h.elim) (k_rb ?_)
      rw [hτ, hput_hput]
      refine g_zreturn q_X5_takeRow_107.1 rfl (by first | exact Or.inl rfl | exact Or.inr rfl | omega) ?_
      exact Or.inr ⟨hb, rfl, rfl⟩
    have go : okRw cols rows w = true → w ≤ 6 → G Γ miX5_takeRow cX5_takeRow (fun v σ' => (okRw cols rows w = true ∧ v = some (.int (ii (bi true))) ∧ σ' = hput (hput (hput σ r (rdo r len p2 fa ws)) (r + 2 + 1) (ai 36 (va_cpy (fun i => sgn (tx i)) SO p1 (6 * rows) w))) (r + 2) (sco (r + 2) w (rows + 1) carts)) ∨ (okRw cols rows w = false ∧ v = some (.int (ii (bi false))) ∧ σ' = hput σ r (rdo r len p2 p1 ws))) noX 0 0 108 [some (.ref r), some (.int (ii p1)), some (.int (ii w)), none] [] τ := by
      intro hb hw6
      refine g_iconst q_X5_takeRow_108 ?_
      refine g_istore_n (L' := [_, _, _, _]) q_X5_takeRow_109 (by decide) rfl ?_
      refine g_eq (σ2 := hput τ (r + 2 + 1) (ai 36 (va_cpy (fun i => sgn (tx i)) SO p1 (6 * rows) 0))) rfl rfl (by rw [cpy_G0]; exact (hput_id t3).symm) ?_
      refine g_loop (fun x => x ≤ w) (fun x : Nat => G Γ _ cX5_takeRow _ _ 0 0 110 [some (.ref r), some (.int (ii p1)), some (.int (ii w)), some (.int (ii x))] [] (hput τ (r + 2 + 1) (ai 36 (va_cpy (fun i => sgn (tx i)) SO p1 (6 * rows) x)))) (fun x => w - x) ?_ 0 (Nat.zero_le _)
      intro x hxw ih3
      refine g_iload_n q_X5_takeRow_110 rfl ?_
      refine g_iload_n q_X5_takeRow_111 rfl ?_
      refine g_icmp_ge (tgt := 155) q_X5_takeRow_112 (by decide) ⟨by omega, by omega⟩ ⟨by omega, by omega⟩ (fun z1 => ?_) (fun z1 => ?_)
      · have e : x = w := by omega
        subst e
        refine g_aload_n q_X5_takeRow_155 rfl ?_
        refine g_get fl_X5_31 q_X5_takeRow_156 (by repeat first | with_reducible assumption | with_reducible exact hput_s _ _ _ | refine (hput_n _ _ (by omega)).trans ?_ | exact hput_s _ _ _ | assumption) rfl ?_
        refine g_iload_n q_X5_takeRow_159 rfl ?_
        refine g_put fp_X5_90 q_X5_takeRow_160 (by repeat first | with_reducible assumption | with_reducible exact hput_s _ _ _ | refine (hput_n _ _ (by omega)).trans ?_ | exact hput_s _ _ _ | assumption) rfl rfl ?_
        refine g_aload_n q_X5_takeRow_163 rfl ?_
        refine g_get fl_X5_31 q_X5_takeRow_164 (by repeat first | with_reducible assumption | with_reducible exact hput_s _ _ _ | refine (hput_n _ _ (by omega)).trans ?_ | exact hput_s _ _ _ | assumption) rfl ?_
        refine g_dup q_X5_takeRow_167 rfl ?_
        refine g_get fl_X5_42 q_X5_takeRow_168 (by repeat first | with_reducible assumption | with_reducible exact hput_s _ _ _ | refine (hput_n _ _ (by omega)).trans ?_ | exact hput_s _ _ _ | assumption) rfl ?_
        refine g_iconst q_X5_takeRow_171 ?_
        refine g_iadd q_X5_takeRow_172 ?_
        refine g_put fp_X5_42 q_X5_takeRow_173 (by repeat first | with_reducible assumption | with_reducible exact hput_s _ _ _ | refine (hput_n _ _ (by omega)).trans ?_ | exact hput_s _ _ _ | assumption) rfl rfl ?_
        refine g_iconst q_X5_takeRow_176 ?_
        refine g_zreturn q_X5_takeRow_177.1 rfl (by first | exact Or.inl rfl | exact Or.inr rfl | omega) ?_
        rw [hτ]
        refine Or.inl ⟨hb, rfl, ?_⟩
        rw [hput_hput]
        rfl
      · have hxx := oX (p1 + x)
        refine g_aload_n q_X5_takeRow_115 rfl ?_
        refine g_get fl_X5_31 q_X5_takeRow_116 (by repeat first | with_reducible assumption | with_reducible exact hput_s _ _ _ | refine (hput_n _ _ (by omega)).trans ?_ | exact hput_s _ _ _ | assumption) rfl ?_
        refine g_get fl_X5_93 q_X5_takeRow_119 (by repeat first | with_reducible assumption | with_reducible exact hput_s _ _ _ | refine (hput_n _ _ (by omega)).trans ?_ | exact hput_s _ _ _ | assumption) rfl ?_
        refine g_bipush q_X5_takeRow_122 bp_6 ?_
        refine g_aload_n q_X5_takeRow_124 rfl ?_
        refine g_get fl_X5_31 q_X5_takeRow_125 (by repeat first | with_reducible assumption | with_reducible exact hput_s _ _ _ | refine (hput_n _ _ (by omega)).trans ?_ | exact hput_s _ _ _ | assumption) rfl ?_
        refine g_get fl_X5_42 q_X5_takeRow_128 (by repeat first | with_reducible assumption | with_reducible exact hput_s _ _ _ | refine (hput_n _ _ (by omega)).trans ?_ | exact hput_s _ _ _ | assumption) rfl ?_
        refine g_imul q_X5_takeRow_131 ?_
        refine g_iload_n q_X5_takeRow_132 rfl ?_
        refine g_iadd q_X5_takeRow_133 ?_
        refine g_ldcS rfl ks q_X5_takeRow_134 ?_
        refine g_aload_n q_X5_takeRow_136 rfl ?_
        refine g_get fl_X5_9 q_X5_takeRow_137 (by repeat first | with_reducible assumption | with_reducible exact hput_s _ _ _ | refine (hput_n _ _ (by omega)).trans ?_ | exact hput_s _ _ _ | assumption) rfl ?_
        refine g_iload_n q_X5_takeRow_140 rfl ?_
        refine g_iload_n q_X5_takeRow_141 rfl ?_
        refine g_iadd q_X5_takeRow_142 ?_
        refine g_iaload q_X5_takeRow_143 (by repeat first | with_reducible assumption | with_reducible exact hput_s _ _ _ | refine (hput_n _ _ (by omega)).trans ?_ | exact hput_s _ _ _ | assumption) (by omega) (by omega) ?_
        refine g_topi (b := tx (p1 + x)) rfl ?_
        refine g_i2c q_X5_takeRow_144 (by omega) (by omega) ?_
        refine g_callVS (rc' := 0) (rs' := 0) (As := [_]) cs_X5_86 q_X5_takeRow_145 (sp_sindexOf hΓ ss kr_sgn (by decide) (tx (p1 + x)) hxx) rfl ss.1 rfl rfl (Nat.le_of_ble_eq_true rfl) (by decide) (by decide) (by decide) (fun _ _ h => h.elim) (k_ri ?_)
        refine g_iastore q_X5_takeRow_148 (by repeat first | with_reducible assumption | with_reducible exact hput_s _ _ _ | refine (hput_n _ _ (by omega)).trans ?_ | exact hput_s _ _ _ | assumption) (by omega) (by omega) ?_
        rw [hput_hput]
        refine g_eq (σ2 := hput τ (r + 2 + 1) (ai 36 (va_cpy (fun i => sgn (tx i)) SO p1 (6 * rows) (x + 1)))) rfl rfl (by rw [← cpy_upG]; rfl) ?_
        refine g_iinc (L' := [_, _, _, _]) q_X5_takeRow_149 rfl rfl ?_
        refine g_goto (tgt := 110) q_X5_takeRow_152 (by decide) ?_
        exact ih3 (x + 1) (by omega) (by omega)
    refine g_aload_n q_X5_takeRow_63 rfl ?_
    refine g_get fl_X5_19 q_X5_takeRow_64 (by repeat first | with_reducible assumption | with_reducible exact hput_s _ _ _ | refine (hput_n _ _ (by omega)).trans ?_ | exact hput_s _ _ _ | assumption) rfl ?_
    refine g_iload_n q_X5_takeRow_67 rfl ?_
    refine g_isub q_X5_takeRow_68 ?_
    refine g_topi (b := (w : Int)) (by omega) ?_
    refine g_istore_n (L' := [_, _, _, _]) q_X5_takeRow_69 (by decide) rfl ?_
    refine g_iload_n q_X5_takeRow_70 rfl ?_
    refine g_iconst q_X5_takeRow_71 ?_
    refine g_icmp_lt (tgt := 102) q_X5_takeRow_72 (by decide) ⟨by omega, by omega⟩ ⟨by omega, by omega⟩ (fun f1 => ?_) (fun f1 => ?_)
    · exact bad (decide_eq_false (by omega))
    refine g_iload_n q_X5_takeRow_75 rfl ?_
    refine g_bipush q_X5_takeRow_76 bp_6 ?_
    refine g_icmp_gt (tgt := 102) q_X5_takeRow_78 (by decide) ⟨by omega, by omega⟩ ⟨by omega, by omega⟩ (fun f2 => ?_) (fun f2 => ?_)
    · exact bad (decide_eq_false (by omega))
    refine g_aload_n q_X5_takeRow_81 rfl ?_
    refine g_get fl_X5_31 q_X5_takeRow_82 (by repeat first | with_reducible assumption | with_reducible exact hput_s _ _ _ | refine (hput_n _ _ (by omega)).trans ?_ | exact hput_s _ _ _ | assumption) rfl ?_
    refine g_get fl_X5_42 q_X5_takeRow_85 (by repeat first | with_reducible assumption | with_reducible exact hput_s _ _ _ | refine (hput_n _ _ (by omega)).trans ?_ | exact hput_s _ _ _ | assumption) rfl ?_
    refine g_if_le (tgt := 108) q_X5_takeRow_88 (by decide) ⟨by omega, by omega⟩ (fun f3 => ?_) (fun f3 => ?_)
    · exact go (decide_eq_true ⟨by omega, by omega, Or.inl (by omega)⟩) (by omega)
    refine g_iload_n q_X5_takeRow_91 rfl ?_
    refine g_aload_n q_X5_takeRow_92 rfl ?_
    refine g_get fl_X5_31 q_X5_takeRow_93 (by repeat first | with_reducible assumption | with_reducible exact hput_s _ _ _ | refine (hput_n _ _ (by omega)).trans ?_ | exact hput_s _ _ _ | assumption) rfl ?_
    refine g_get fl_X5_90 q_X5_takeRow_96 (by repeat first | with_reducible assumption | with_reducible exact hput_s _ _ _ | refine (hput_n _ _ (by omega)).trans ?_ | exact hput_s _ _ _ | assumption) rfl ?_
    refine g_icmp_eq (tgt := 108) q_X5_takeRow_99 (by decide) ⟨by omega, by omega⟩ ⟨by omega, by omega⟩ (fun f4 => ?_) (fun f4 => ?_)
    · exact go (decide_eq_true ⟨by omega, by omega, Or.inr (by omega)⟩) (by omega)
    · exact bad (decide_eq_false (by omega))
  refine g_iload_n q_X5_takeRow_11 rfl ?_
  refine g_sipush q_X5_takeRow_12 sp_400 ?_
  refine g_icmp_gt (tgt := 63) q_X5_takeRow_15 (by decide) ⟨by omega, by omega⟩ ⟨by omega, by omega⟩ (fun e2 => ?_) (fun e2 => ?_)
  · exact absurd hk (by omega)
  refine g_aload_n q_X5_takeRow_18 rfl ?_
  refine g_get fl_X5_19 q_X5_takeRow_19 (by repeat first | with_reducible assumption | with_reducible exact hput_s _ _ _ | refine (hput_n _ _ (by omega)).trans ?_ | exact hput_s _ _ _ | assumption) rfl ?_
  refine g_aload_n q_X5_takeRow_22 rfl ?_
  refine g_get fl_X5_15 q_X5_takeRow_23 (by repeat first | with_reducible assumption | with_reducible exact hput_s _ _ _ | refine (hput_n _ _ (by omega)).trans ?_ | exact hput_s _ _ _ | assumption) rfl ?_
  refine g_icmp_ge (tgt := 63) q_X5_takeRow_26 (by decide) ⟨by omega, by omega⟩ ⟨by omega, by omega⟩ (fun e3 => ?_) (fun e3 => ?_)
  · exact stop (avn_no (fun q => by omega))
  refine g_ldcS rfl ks q_X5_takeRow_29 ?_
  refine g_aload_n q_X5_takeRow_31 rfl ?_
  refine g_get fl_X5_9 q_X5_takeRow_32 (by repeat first | with_reducible assumption | with_reducible exact hput_s _ _ _ | refine (hput_n _ _ (by omega)).trans ?_ | exact hput_s _ _ _ | assumption) rfl ?_
  refine g_aload_n q_X5_takeRow_35 rfl ?_
  refine g_get fl_X5_19 q_X5_takeRow_36 (by repeat first | with_reducible assumption | with_reducible exact hput_s _ _ _ | refine (hput_n _ _ (by omega)).trans ?_ | exact hput_s _ _ _ | assumption) rfl ?_
  refine g_iaload q_X5_takeRow_39 (by repeat first | with_reducible assumption | with_reducible exact hput_s _ _ _ | refine (hput_n _ _ (by omega)).trans ?_ | exact hput_s _ _ _ | assumption) (by omega) (by omega) ?_
  refine g_topi (b := tx (p1 + k)) rfl ?_
  refine g_i2c q_X5_takeRow_40 (by omega) (by omega) ?_
  refine g_callVS (rc' := 0) (rs' := 0) (As := [_]) cs_X5_86 q_X5_takeRow_41 (sp_sindexOf hΓ ss kr_sgn (by decide) (tx (p1 + k)) hx) rfl ss.1 rfl rfl (Nat.le_of_ble_eq_true rfl) (by decide) (by decide) (by decide) (fun _ _ h => h.elim) (k_ri ?_)
  have hfr := fstN_rg (fun j => decide (k_sgn j = tx (p1 + k))) 6
  refine g_if_lt (tgt := 63) q_X5_takeRow_44 (by decide) ⟨by omega, by omega⟩ (fun e4 => ?_) (fun e4 => ?_)
  · exact stop (avn_no (fun q => by have h9 := q.2; unfold pSg sgn at h9; have := of_decide_eq_true h9; omega))
  have hnx := ih (k + 1) ⟨by omega, by rw [← hav, avn_go (i := p1 + k) (by omega) (by unfold pSg sgn; exact decide_eq_true (by omega))]; rfl⟩ (by omega)
  refine g_aload_n q_X5_takeRow_47 rfl ?_
  refine g_dup q_X5_takeRow_48 rfl ?_
  refine g_get fl_X5_19 q_X5_takeRow_49 (by repeat first | with_reducible assumption | with_reducible exact hput_s _ _ _ | refine (hput_n _ _ (by omega)).trans ?_ | exact hput_s _ _ _ | assumption) rfl ?_
  refine g_iconst q_X5_takeRow_52 ?_
  refine g_iadd q_X5_takeRow_53 ?_
  refine g_put fp_X5_19 q_X5_takeRow_54 (by repeat first | with_reducible assumption | with_reducible exact hput_s _ _ _ | refine (hput_n _ _ (by omega)).trans ?_ | exact hput_s _ _ _ | assumption) rfl rfl ?_
  refine g_iinc (L' := [_, _, _, _]) q_X5_takeRow_57 rfl rfl ?_
  refine g_goto (tgt := 11) q_X5_takeRow_60 (by decide) ?_
  rw [hput_hput]
  exact hnx
end TX6

