/-! wide constants; CartPaths.write -/
section LDW
variable {Γ : GT} {mi : MI} {cc : ByteArray} {Q : Option Value → AH → Prop} {QX : String → AH → Prop} {rc rs pc pc' idx : Nat} {L : List (Option Value)} {S : List Value} {σ : AH}
theorem va_ldcwS {p : Program} {l : Launch} {e : Env} {R : Room} {s : State} {m : MethodId} {args : Array Value} {below : List Frame} {meth : Method} {c : Code} {H : Heap} {locs : List Loc} {cells slots : Nat} {Q : State → Prop} {ls : Array Slot} {rest : List Value} (hexec : p.tables.exec = Jvm.exec) (hb : c.code = cc) {own tx : String} {index q : Nat} (hown : s.vm.findClass own = some m.cls) (hZ : vk_R own index tx q s) (hdg : decode cc pc = .ok (.ldc_w index, 3))
    (k : W p l e R s m args below meth c H locs cells slots Q (F0 m (pc + 3) ls (.ref q :: rest))) : W p l e R s m args below meth c H locs cells slots Q (F0 m pc ls rest) := by
  intro T hT X
  obtain ⟨t, a1, b1⟩ := k T hT X
  exact ⟨t, X.ldcStringW hexec hown (text := tx) (a := q) hZ.1 hZ.2 (g := F0 m pc ls rest) rfl (by rw [hb]; exact hdg) t a1, b1⟩
theorem g_ldcSw {own tx : String} {q : Nat} (ho : mi.1.cls = own) (hk : vk_R own idx tx q Γ.2.1) (d : De cc pc (.ldc_w idx) 3 pc') (kk : G Γ mi cc Q QX rc rs pc' L (.ref q :: S) σ) : G Γ mi cc Q QX rc rs pc L S σ := by
  intro p e R s m args below meth c H locs cells slots ls hΓ C hc hs hw hS hl
  obtain ⟨d, rfl⟩ := d
  have h9 := kk p e R s m args below meth c H locs cells slots ls hΓ C hc hs hw hS hl
  subst ho
  exact va_ldcwS C.1 C.2.1 C.2.2.2.1 (vk_R.warm C.2.2.2.2.2.2.1 hk) d h9
theorem g_ldcw {v : Int32} {z : Int} (d : De cc pc (.ldc_w idx) 3 pc') (hw9 : Cond.constant mi.1.cls idx v ∈ GW) (hz : ii z = v) (kk : G Γ mi cc Q QX rc rs pc' L (.int (ii z) :: S) σ) : G Γ mi cc Q QX rc rs pc L S σ := by
  intro p e R s m args below meth c H locs cells slots ls hΓ C hc hs hw hS hl
  obtain ⟨d, rfl⟩ := d
  have hk := kk p e R s m args below meth c H locs cells slots ls hΓ C hc hs hw hS hl
  exact lv_ldcw C.1 C.2.1 C.2.2.2.1 (hΓ.w hw9 _ _ C.2.2.2.2.2.2.1) d (hz ▸ hk)
end LDW
/-- what is written at a cell -/
def wrC (z : PS) (P : Nat → Int) (t c : Nat) : Int := if aWho P (zCa z) c t = -1 then k_sgn (zSO z c).toNat else 48 + aWho P (zCa z) c t
def chr9 (z : PS) (P : Nat → Int) (t i : Nat) : Int := if i % (zCo z + 1) = zCo z then 10 else wrC z P t (6 * (i / (zCo z + 1)) + i % (zCo z + 1))
def wrF (z : PS) (P : Nat → Int) (t : Nat) (wr : Nat → Int) (m : Nat) : Nat → Int := fun i => if i < m then chr9 z P t i else wr i
theorem chr9_cg {z : PS} {P P' : Nat → Int} (h : ∀ i, i < 41 * zCa z → P i = P' i) {t : Nat} (ht : t < 41) (i : Nat) : chr9 z P t i = chr9 z P' t i := by
  unfold chr9 wrC
  rw [aWho_cg h _ ht]
theorem wrF_up (z : PS) (P : Nat → Int) (t : Nat) (wr : Nat → Int) (m : Nat) : va_up (wrF z P t wr m) m (chr9 z P t m) = wrF z P t wr (m + 1) := by
  funext i
  unfold va_up wrF
  by_cases e : i = m
  · rw [if_pos e, if_pos (by omega), e]
  · rw [if_neg e]
    by_cases e2 : i < m
    · rw [if_pos e2, if_pos (by omega)]
    · rw [if_neg e2, if_neg (by omega)]
section X9O
variable {Γ : GT} {σ : AH} {x lo N : Nat} {R : Nat → Nat} {len : Nat} {tx : Nat → Int} {fa : Int} {z : PS} {l : List (Int × Int × Int)} {wl : Nat} {wr : Nat → Int} {D E : Nat}
def wrFr (x a : Nat) : Prop := a = x ∨ a = x + 53
theorem CXh.wch {σ σ' : AH} {ve : Nat} {av : Int} {wl' : Nat} {wr' : Nat → Int} (h : CXh σ x lo N R len tx fa z l wl wr ve av) (hE : eqOff σ σ' (wrFr x)) (hx : σ'.2 x = some (cpo x av wl' ve)) (hw : σ'.2 (x + 53) = some (ai 42 wr')) (hl : wl' ≤ 42) : CXh σ' x lo N R len tx fa z l wl' wr' ve av := by
  obtain ⟨h1, h2, h3, h4, h5, q1, q2, q3, q4, q5, q6, q7, q8, ⟨TA, q9⟩, q10, q11, q12⟩ := h
  have hlo := h1.1
  have hlo2 := h1.2.1
  have e : ∀ a, a ≠ x → a ≠ x + 53 → σ'.2 a = σ.2 a := fun a i1 i2 => hE.2 a (by rintro (h | h) <;> contradiction)
  exact ⟨⟨h1.1, by rw [hE.1]; exact h1.2.1, h1.2.2.1, h1.2.2.2.1, hl⟩, h2, h3, h4, h5, q1, hx, q3.kp (fun a i => e a (by unfold inb at i; omega) (by unfold inb at i; omega)), q4.keep (fun a i => e a (by unfold inb at i; omega) (by unfold inb at i; omega)), q5.kp (fun a i => e a (by unfold inb at i; omega) (by unfold inb at i; omega)), q6.keep (fun a i => e a (by unfold inb at i; omega) (by unfold inb at i; omega)), q7.keep (fun a i => e a (by unfold inb at i; omega) (by unfold inb at i; omega)), q8.kp (fun a i => e a (by unfold inb at i; omega) (by unfold inb at i; omega)), ⟨TA, q9.kp (by rw [hE.1]; exact Nat.le_refl _) (fun a ha i => e a (by unfold inb at i; omega) (by unfold inb at i; omega)) (by omega)⟩, q10.kp (fun a i => e a (by unfold inb at i; omega) (by unfold inb at i; omega)), q11.kp (fun a i => e a (by unfold inb at i; omega) (by unfold inb at i; omega)), hw⟩
theorem sp_putWritten (hΓ : Gd Γ) {av : Int} {ve k : Nat} {w : Nat → Int} (hx : σ.2 x = some (cpo x av k ve)) (hw : σ.2 (x + 53) = some (ai 42 w)) (hk : k < 42) (o : Int) : Sp Γ miX9_putWritten 0 0 [.ref x, .int (ii o)] σ (rv (hput (hput σ (x + 53) (ai 42 (va_up w k o))) x (cpo x av (k + 1) ve))) noX := by
  refine Sp_of (L := [_, _]) hΓ (by decide +kernel) rfl (Nat.le_of_ble_eq_true rfl) rfl ?_
  refine g_aload_n q_X9_putWritten_0 rfl ?_
  refine g_get fl_X9_80 q_X9_putWritten_1 (by repeat first | with_reducible assumption | with_reducible exact hput_s _ _ _ | refine (hput_n _ _ (by omega)).trans ?_ | exact hput_s _ _ _ | assumption) rfl ?_
  refine g_aload_n q_X9_putWritten_4 rfl ?_
  refine g_get fl_X9_76 q_X9_putWritten_5 (by repeat first | with_reducible assumption | with_reducible exact hput_s _ _ _ | refine (hput_n _ _ (by omega)).trans ?_ | exact hput_s _ _ _ | assumption) rfl ?_
  refine g_alen q_X9_putWritten_8 (by repeat first | with_reducible assumption | with_reducible exact hput_s _ _ _ | refine (hput_n _ _ (by omega)).trans ?_ | exact hput_s _ _ _ | assumption) ?_
  refine g_icmp_ge (tgt := 32) q_X9_putWritten_9 (by decide) ⟨by omega, by omega⟩ ⟨by omega, by omega⟩ (fun b1 => ?_) (fun b1 => ?_)
  · omega
  · refine g_aload_n q_X9_putWritten_12 rfl ?_
    refine g_get fl_X9_76 q_X9_putWritten_13 (by repeat first | with_reducible assumption | with_reducible exact hput_s _ _ _ | refine (hput_n _ _ (by omega)).trans ?_ | exact hput_s _ _ _ | assumption) rfl ?_
    refine g_aload_n q_X9_putWritten_16 rfl ?_
    refine g_get fl_X9_80 q_X9_putWritten_17 (by repeat first | with_reducible assumption | with_reducible exact hput_s _ _ _ | refine (hput_n _ _ (by omega)).trans ?_ | exact hput_s _ _ _ | assumption) rfl ?_
    refine g_iload_n q_X9_putWritten_20 rfl ?_
    refine g_iastore q_X9_putWritten_21 (by repeat first | with_reducible assumption | with_reducible exact hput_s _ _ _ | refine (hput_n _ _ (by omega)).trans ?_ | exact hput_s _ _ _ | assumption) (by omega) (by omega) ?_
    refine g_aload_n q_X9_putWritten_22 rfl ?_
    refine g_dup q_X9_putWritten_23 rfl ?_
    refine g_get fl_X9_80 q_X9_putWritten_24 (by repeat first | with_reducible assumption | with_reducible exact hput_s _ _ _ | refine (hput_n _ _ (by omega)).trans ?_ | exact hput_s _ _ _ | assumption) rfl ?_
    refine g_iconst q_X9_putWritten_27 ?_
    refine g_iadd q_X9_putWritten_28 ?_
    refine g_put fp_X9_80 q_X9_putWritten_29 (by repeat first | with_reducible assumption | with_reducible exact hput_s _ _ _ | refine (hput_n _ _ (by omega)).trans ?_ | exact hput_s _ _ _ | assumption) rfl rfl ?_
    refine g_return q_X9_putWritten_32.1 rfl ?_
    exact ⟨rfl, rfl⟩
noncomputable def wrL (z : PS) (bd t : Int) (wl : Nat) : Nat := if eP (tOK t) bd z 1 2 = 0 then (zCo z + 1) * zRo z else wl
noncomputable def wrW (z : PS) (bd t : Int) (wr : Nat → Int) : Nat → Int := if eP (tOK t) bd z 1 2 = 0 then wrF z (pPZ z bd) t.toNat wr ((zCo z + 1) * zRo z) else wr
theorem wr_lt {c r y : Nat} (hc : c ≤ 6) (hr : r ≤ 6) (hy : y < r) : (c + 1) * y + c < 42 := by
  have h1 : (c + 1) * y ≤ 7 * 5 := Nat.mul_le_mul (by omega) (by omega)
  omega
theorem sp_write (hΓ : Gd Γ) (hN : N < 1000) (hX : CX σ x lo N R len tx fa z l wl wr) (bd t : Int) (hbd : rg bd) (ht : rg t) (hD : dC R (rG (tOK t && bOK bd) R z bd) ≤ D) (hE : dS R (rG (tOK t && bOK bd) R z bd) ≤ E) : Sp Γ miX9_write (8 + D) (48 + E) [.ref x, .int (ii bd), .int (ii t)] σ (oQ (eP (tOK t) bd z 1 2) (((zCo z + 1) * zRo z : Nat) : Int) (SX σ x lo (N + 1) (rG (tOK t && bOK bd) R z bd) len tx fa z l (wrL z bd t wl) (wrW z bd t wr))) (oX [xIAE, xISE] (eP (tOK t) bd z 1 2) (SX σ x lo (N + 1) (rG (tOK t && bOK bd) R z bd) len tx fa z l (wrL z bd t wl) (wrW z bd t wr))) := by
  have hX' := hX
  obtain ⟨ve, av, h1, h2, h3, h4, h5, q1, q2, -⟩ := hX'
  have hn := h4.1.1
  obtain ⟨q8, u8, ks, ss⟩ := str_X9_398 hΓ
  have bad : ∀ Ex σ', oX [xIAE, xISE] (eP (tOK t) bd z 1 2) (SX σ x lo (N + 1) (rG (tOK t && bOK bd) R z bd) len tx fa z l wl wr) Ex σ' → oX [xIAE, xISE] (eP (tOK t) bd z 1 2) (SX σ x lo (N + 1) (rG (tOK t && bOK bd) R z bd) len tx fa z l (wrL z bd t wl) (wrW z bd t wr)) Ex σ' := by
    intro Ex σ' h
    have e1 : wrL z bd t wl = wl := if_neg h.1
    have e2 : wrW z bd t wr = wr := if_neg h.1
    rw [e1, e2]
    exact h
  refine Sp_of (L := [_, _, _, _, _, _, _, _]) hΓ (by decide +kernel) rfl (Nat.le_of_ble_eq_true rfl) rfl ?_
  refine g_iload_n q_X9_write_0 rfl ?_
  refine g_callS (rc' := 7 + D) (rs' := 42 + E) (As := [_]) cs_X9_190 q_X9_write_1 (sp_needTime hΓ t ht) rfl rfl rfl (Nat.le_of_ble_eq_true rfl) (by decide) (by omega) (by omega) (fun E σ' h => bad E σ' (by have hf : tOK t = false := decide_eq_false h.2.1; rw [hf, eP_1 rfl, Bool.false_and, rG_f rfl]; exact ⟨by decide, by rw [h.1]; rfl, SX.gr hX hN h.2.2⟩)) (fun v σ' hq => ?_)
  obtain ⟨rfl, e1, hσ⟩ := hq
  rw [hσ]
  clear hσ
  have cP : tOK t = true := decide_eq_true e1
  have hD' := hD
  have hE' := hE
  rw [cP, Bool.true_and] at hD' hE'
  refine g_aload_n q_X9_write_4 rfl ?_
  refine g_iload_n q_X9_write_5 rfl ?_
  refine g_callV (rc' := 5) (rs' := 30) (As := [_]) cs_X9_296 q_X9_write_6 (sp_planned hΓ hX bd hbd hD' hE') rfl (by repeat first | with_reducible assumption | with_reducible exact hput_s _ _ _ | refine (hput_n _ _ (by omega)).trans ?_ | exact hput_s _ _ _ | assumption) rfl rfl rfl rfl (Nat.le_of_ble_eq_true rfl) (by decide) (by omega) (by omega) (fun E σ' h => bad E σ' (plK h hN cP ⟨by decide, rfl⟩ ⟨by decide, rfl⟩)) (fun v σ1 hq => ?_)
  obtain ⟨⟨w1, w2⟩, T, rfl, m1, m2, m3, m4, ct, cs, cl, co, P, C, k0, k1, k2, o1, o2, o3, o4⟩ := hq
  have e0 : eP (tOK t) bd z 1 2 = 0 := eP_0 cP w1 w2
  obtain ⟨u, rfl⟩ : ∃ k : Nat, t = k := ⟨t.toNat, by omega⟩
  have eL : wrL z bd u wl = (zCo z + 1) * zRo z := if_pos e0
  have eW : wrW z bd u wr = wrF z P u wr ((zCo z + 1) * zRo z) := by
    unfold wrW
    rw [if_pos e0, Int.toNat_natCast]
    funext i
    unfold wrF
    rw [chr9_cg o4 (by omega)]
  rw [e0, eL, eW]
  have hG1 : rG (tOK u && bOK bd) R z bd = rG (bOK bd) R z bd := by rw [cP, Bool.true_and]
  rw [hG1]
  obtain ⟨ve1, av1, hh1⟩ := m1
  have kx1 := hh1.2.2.2.2.2.2.1
  have kw1 := hh1.2.2.2.2.2.2.2.2.2.2.2.2.2.2.2.2
  have kS := hh1.2.2.2.2.2.2.2.2.1
  have hlo := hh1.1.1
  refine g_astore_n (L' := [_, _, _, _, _, _, _, _]) q_X9_write_9 (by decide) rfl ?_
  refine g_aload_n q_X9_write_10 rfl ?_
  refine g_iconst q_X9_write_11 ?_
  refine g_put fp_X9_80 q_X9_write_12 (by repeat first | with_reducible assumption | with_reducible exact hput_s _ _ _ | refine (hput_n _ _ (by omega)).trans ?_ | exact hput_s _ _ _ | assumption) rfl rfl ?_
  refine g_iconst q_X9_write_15 ?_
  refine g_istore (L' := [_, _, _, _, _, _, _, _]) q_X9_write_16 (by decide) rfl ?_
  have inv0 : eqOff σ1 (hput σ1 x (cpo x av1 0 ve1)) (wrFr x) := eqOff.rfl'.put (Or.inl rfl) _
  refine g_loop2 (fun (y : Nat) (τ : AH) => y ≤ zRo z ∧ eqOff σ1 τ (wrFr x) ∧ τ.2 x = some (cpo x av1 ((zCo z + 1) * y) ve1) ∧ τ.2 (x + 53) = some (ai 42 (wrF z P u wr ((zCo z + 1) * y)))) (fun y τ => G Γ _ cX9_write _ _ 5 30 18 [some (.ref x), some (.int (ii bd)), some (.int (ii u)), some (.ref (T + 5)), some (.int (ii y)), none, none, none] [] τ) (fun y τ => zRo z - y) ?_ 0 (hput σ1 x (cpo x av1 0 ve1)) ⟨Nat.zero_le _, inv0, by rw [Nat.mul_zero]; exact hput_s _ _ _, by rw [Nat.mul_zero, hput_n _ _ (by omega), kw1]; rfl⟩
  intro y τ ⟨hy, g1, g2, g3⟩ ih
  have kS1 := kS.keep (σ' := τ) (fun a i => g1.2 a (by rintro (h | h) <;> (unfold inb at i; omega)))
  have kS10 := kS1.1
  refine g_iload q_X9_write_18 rfl ?_
  refine g_aload_n q_X9_write_20 rfl ?_
  refine g_get fl_X9_19 q_X9_write_21 (by repeat first | with_reducible assumption | with_reducible exact hput_s _ _ _ | refine (hput_n _ _ (by omega)).trans ?_ | exact hput_s _ _ _ | assumption) rfl ?_
  refine g_get fl_X9_392 q_X9_write_24 (by repeat first | with_reducible assumption | with_reducible exact hput_s _ _ _ | refine (hput_n _ _ (by omega)).trans ?_ | exact hput_s _ _ _ | assumption) rfl ?_
  refine g_icmp_ge (tgt := 116) q_X9_write_27 (by decide) ⟨by omega, by omega⟩ ⟨by omega, by omega⟩ (fun b1 => ?_) (fun b1 => ?_)
  · have e : y = zRo z := by omega
    subst e
    refine g_aload_n q_X9_write_116 rfl ?_
    refine g_get fl_X9_80 q_X9_write_117 (by repeat first | with_reducible assumption | with_reducible exact hput_s _ _ _ | refine (hput_n _ _ (by omega)).trans ?_ | exact hput_s _ _ _ | assumption) rfl ?_
    refine g_ireturn q_X9_write_120.1 rfl ?_
    exact ⟨rfl, rfl, SX.tr (m2.trans (eqG_fX (lo := lo) g1 (fun a i => by rcases i with i | i <;> (unfold inb; omega))) (fun _ _ h => h)) (SX.of ⟨ve1, av1, hh1.wch g1 g2 g3 (by
      have := wr_lt (r := zRo z + 1) (y := zRo z) hn.1
      have h9 : (zCo z + 1) * zRo z ≤ 7 * 6 := Nat.mul_le_mul (by omega) hn.2.1
      omega)⟩ hN)⟩
  refine g_iconst q_X9_write_30 ?_
  refine g_istore (L' := [_, _, _, _, _, _, _, _]) q_X9_write_31 (by decide) rfl ?_
  have hlt := wr_lt hn.1 hn.2.1 (show y < zRo z by omega)
  refine g_loop2 (fun (c : Nat) (τ : AH) => c ≤ zCo z ∧ eqOff σ1 τ (wrFr x) ∧ τ.2 x = some (cpo x av1 ((zCo z + 1) * y + c) ve1) ∧ τ.2 (x + 53) = some (ai 42 (wrF z P u wr ((zCo z + 1) * y + c)))) (fun c τ => G Γ _ cX9_write _ _ 5 30 33 [some (.ref x), some (.int (ii bd)), some (.int (ii u)), some (.ref (T + 5)), some (.int (ii y)), some (.int (ii c)), none, none] [] τ) (fun c τ => zCo z - c) ?_ 0 τ ⟨Nat.zero_le _, g1, g2, g3⟩
  clear g1 g2 g3 kS1 kS10
  intro c τ ⟨hc, g1, g2, g3⟩ ih2
  have kS1 := kS.keep (σ' := τ) (fun a i => g1.2 a (by rintro (h | h) <;> (unfold inb at i; omega)))
  have kS1' := kS1
  obtain ⟨s0, s1, -⟩ := kS1'
  have emod : ((zCo z + 1) * y + c) % (zCo z + 1) = c := by rw [Nat.mul_add_mod, Nat.mod_eq_of_lt (by omega)]
  have ediv : ((zCo z + 1) * y + c) / (zCo z + 1) = y := by rw [Nat.mul_add_div (by omega), Nat.div_eq_of_lt (by omega), Nat.add_zero]
  /- one more is written -/
  have put : ∀ (pc : Nat) (o : Int) (τ2 : AH), o = chr9 z P u ((zCo z + 1) * y + c) → τ2 = hput (hput τ (x + 53) (ai 42 (va_up (wrF z P u wr ((zCo z + 1) * y + c)) ((zCo z + 1) * y + c) o))) x (cpo x av1 ((zCo z + 1) * y + c + 1) ve1) → eqOff σ1 τ2 (wrFr x) ∧ τ2.2 x = some (cpo x av1 ((zCo z + 1) * y + c + 1) ve1) ∧ τ2.2 (x + 53) = some (ai 42 (wrF z P u wr ((zCo z + 1) * y + c + 1))) := by
    intro pc o τ2 ho h2
    rw [ho, wrF_up] at h2
    rw [h2]
    exact ⟨(g1.put (Or.inr rfl) _).put (Or.inl rfl) _, hput_s _ _ _, (hput_n _ _ (by omega)).trans (hput_s _ _ _)⟩
  refine g_iload q_X9_write_33 rfl ?_
  refine g_aload_n q_X9_write_35 rfl ?_
  refine g_get fl_X9_19 q_X9_write_36 (by repeat first | with_reducible assumption | with_reducible exact hput_s _ _ _ | refine (hput_n _ _ (by omega)).trans ?_ | exact hput_s _ _ _ | assumption) rfl ?_
  refine g_get fl_X9_395 q_X9_write_39 (by repeat first | with_reducible assumption | with_reducible exact hput_s _ _ _ | refine (hput_n _ _ (by omega)).trans ?_ | exact hput_s _ _ _ | assumption) rfl ?_
  refine g_icmp_ge (tgt := 104) q_X9_write_42 (by decide) ⟨by omega, by omega⟩ ⟨by omega, by omega⟩ (fun b2 => ?_) (fun b2 => ?_)
  · have e : c = zCo z := by omega
    subst e
    refine g_aload_n q_X9_write_104 rfl ?_
    refine g_bipush q_X9_write_105 bp_10 ?_
    refine g_callV (rc' := 5) (rs' := 30) (As := [_]) cs_X9_406 q_X9_write_107 (sp_putWritten hΓ g2 g3 hlt 10) rfl (by repeat first | with_reducible assumption | with_reducible exact hput_s _ _ _ | refine (hput_n _ _ (by omega)).trans ?_ | exact hput_s _ _ _ | assumption) rfl rfl rfl rfl (Nat.le_of_ble_eq_true rfl) (by decide) (by decide) (by decide) (fun _ _ h => h.elim) (k_rv ?_)
    obtain ⟨n1, n2, n3⟩ := put 0 10 _ (by unfold chr9; rw [if_pos emod]) rfl
    have hnx := ih (y + 1) _ ⟨by omega, n1, by rw [show (zCo z + 1) * (y + 1) = (zCo z + 1) * y + zCo z + 1 by rw [Nat.mul_add]; omega]; exact n2, by rw [show (zCo z + 1) * (y + 1) = (zCo z + 1) * y + zCo z + 1 by rw [Nat.mul_add]; omega]; exact n3⟩ (by omega)
    refine g_iinc (L' := [_, _, _, _, _, _, _, _]) q_X9_write_110 rfl rfl ?_
    refine g_goto (tgt := 18) q_X9_write_113 (by decide) ?_
    exact g_fl hnx ⟨rfl, rfl, rfl, rfl, rfl, trivial⟩
  have t0 := (g1.2 (T + 5) (by rintro (h | h) <;> omega)).trans k0
  have t1 := (g1.2 (T + 5 + 1) (by rintro (h | h) <;> omega)).trans k1
  refine g_bipush q_X9_write_45 bp_6 ?_
  refine g_iload q_X9_write_47 rfl ?_
  refine g_imul q_X9_write_49 ?_
  refine g_iload q_X9_write_50 rfl ?_
  refine g_iadd q_X9_write_52 ?_
  refine g_istore (L' := [_, _, _, _, _, _, _, _]) q_X9_write_53 (by decide) rfl ?_
  refine g_aload_n q_X9_write_55 rfl ?_
  refine g_iload q_X9_write_56 rfl ?_
  refine g_iload_n q_X9_write_58 rfl ?_
  refine g_fl (L2 := [some (.ref x), some (.int (ii bd)), some (.int (ii u)), some (.ref (T + 5)), some (.int (ii y)), some (.int (ii c)), some (.int (ii (6 * (y : Int) + c))), none]) ?_ ⟨rfl, rfl, rfl, rfl, rfl, rfl, rfl, trivial⟩
  obtain ⟨d, hd⟩ : ∃ d, d = 6 * y + c := ⟨_, rfl⟩
  rw [show 6 * (y : Int) + c = (d : Int) by omega]
  have hchr : chr9 z P u ((zCo z + 1) * y + c) = wrC z P u d := by unfold chr9; rw [emod, ediv, if_neg (by omega), hd]
  refine g_callVN (rc' := 5) (rs' := 30) (As := [_, _]) cs_X9_333 q_X9_write_59 (sp_cartIn hΓ hn.2.2 o1 t0 t1 d ⟨by omega, by omega⟩ u (by omega)) rfl (by repeat first | with_reducible assumption | with_reducible exact hput_s _ _ _ | refine (hput_n _ _ (by omega)).trans ?_ | exact hput_s _ _ _ | assumption) rfl rfl rfl rfl (Nat.le_of_ble_eq_true rfl) (by decide) (by decide) (by decide) (fun _ _ h => h.elim) (k_ri ?_)
  rw [show fstN (fun c => decide (P (41 * c + u) = (d : Int))) (zCa z) = aWho P (zCa z) d u from rfl]
  have hwr := fstN_rg (fun c => decide (P (41 * c + u) = (d : Int))) (zCa z)
  have hwr2 : -1 ≤ aWho P (zCa z) d u ∧ aWho P (zCa z) d u < zCa z + 1 := ⟨hwr.1, hwr.2.1⟩
  have hso := h4.1.2.1 d
  have nx : ∀ o, o = chr9 z P u ((zCo z + 1) * y + c) → G Γ miX9_write cX9_write (oQ 0 (((zCo z + 1) * zRo z : Nat) : Int) (SX σ x lo (N + 1) (rG (bOK bd) R z bd) len tx fa z l ((zCo z + 1) * zRo z) (wrF z P u wr ((zCo z + 1) * zRo z)))) (oX [xIAE, xISE] 0 (SX σ x lo (N + 1) (rG (bOK bd) R z bd) len tx fa z l ((zCo z + 1) * zRo z) (wrF z P u wr ((zCo z + 1) * zRo z)))) 5 30 95 [some (.ref x), some (.int (ii bd)), some (.int (ii u)), some (.ref (T + 5)), some (.int (ii y)), some (.int (ii c)), some (.int (ii d)), some (.int (ii (aWho P (zCa z) d u)))] [.int (ii o), .ref x] τ := by
    intro o ho
    refine g_callV (rc' := 5) (rs' := 30) (As := [_]) cs_X9_406 q_X9_write_95 (sp_putWritten hΓ g2 g3 (by omega) o) rfl (by repeat first | with_reducible assumption | with_reducible exact hput_s _ _ _ | refine (hput_n _ _ (by omega)).trans ?_ | exact hput_s _ _ _ | assumption) rfl rfl rfl rfl (Nat.le_of_ble_eq_true rfl) (by decide) (by decide) (by decide) (fun _ _ h => h.elim) (k_rv ?_)
    obtain ⟨n1, n2, n3⟩ := put 0 o _ ho rfl
    have hnx := ih2 (c + 1) _ ⟨by omega, n1, n2, n3⟩ (by omega)
    refine g_iinc (L' := [_, _, _, _, _, _, _, _]) q_X9_write_98 rfl rfl ?_
    refine g_goto (tgt := 33) q_X9_write_101 (by decide) ?_
    exact g_fl hnx ⟨rfl, rfl, rfl, rfl, rfl, rfl, trivial⟩
  refine g_istore (L' := [_, _, _, _, _, _, _, _]) q_X9_write_62 (by decide) rfl ?_
  refine g_aload_n q_X9_write_64 rfl ?_
  refine g_iload q_X9_write_65 rfl ?_
  refine g_iconst q_X9_write_67 ?_
  refine g_icmp_ne (tgt := 90) q_X9_write_68 (by decide) ⟨by omega, by omega⟩ ⟨by omega, by omega⟩ (fun b3 => ?_) (fun b3 => ?_)
  · refine g_bipush q_X9_write_90 bp_48 ?_
    refine g_iload q_X9_write_92 rfl ?_
    refine g_iadd q_X9_write_94 ?_
    exact nx (48 + aWho P (zCa z) d u) (by rw [hchr]; unfold wrC; rw [if_neg b3])
  · obtain ⟨sg, hsg⟩ : ∃ k : Nat, zSO z d = k := ⟨(zSO z d).toNat, by omega⟩
    refine g_ldcSw rfl ks q_X9_write_71 ?_
    refine g_aload_n q_X9_write_74 rfl ?_
    refine g_get fl_X9_19 q_X9_write_75 (by repeat first | with_reducible assumption | with_reducible exact hput_s _ _ _ | refine (hput_n _ _ (by omega)).trans ?_ | exact hput_s _ _ _ | assumption) rfl ?_
    refine g_get fl_X9_126 q_X9_write_78 (by repeat first | with_reducible assumption | with_reducible exact hput_s _ _ _ | refine (hput_n _ _ (by omega)).trans ?_ | exact hput_s _ _ _ | assumption) rfl ?_
    refine g_iload q_X9_write_81 rfl ?_
    refine g_iaload q_X9_write_83 (by repeat first | with_reducible assumption | with_reducible exact hput_s _ _ _ | refine (hput_n _ _ (by omega)).trans ?_ | exact hput_s _ _ _ | assumption) (by omega) (by omega) ?_
    refine g_topi (b := (sg : Int)) (by exact hsg) ?_
    refine g_callVS (rc' := 5) (rs' := 30) (As := [_]) cs_X9_400 q_X9_write_84 (sp_charAt hΓ ss kr_sgn sg (by omega) (by decide)) rfl ss.1 rfl rfl (Nat.le_of_ble_eq_true rfl) (by decide) (by decide) (by decide) (fun _ _ h => h.elim) (k_ri ?_)
    refine g_goto (tgt := 95) q_X9_write_87 (by decide) ?_
    exact nx (k_sgn sg) (by rw [hchr]; unfold wrC; rw [if_pos (by omega), hsg, Int.toNat_natCast])
end X9O

