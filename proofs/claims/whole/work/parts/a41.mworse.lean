/-! the reference: worse (written by gena6.py) -/
theorem gw_1987 : (Cond.methodLink "java/lang/Float" (74 : Nat) ({ cls := "java/lang/Float", name := "floatToRawIntBits", desc := "(F)I" } : MethodName)) ∈ GW := gw_t8 175 rfl rfl
theorem gw_1988 : (Cond.static ({ cls := "java/lang/Float", name := "floatToRawIntBits", desc := "(F)I" } : MethodName)) ∈ GW := gw_t8 176 rfl rfl
theorem gw_1989 : (Cond.native ({ cls := "java/lang/Float", name := "floatToRawIntBits", desc := "(F)I" } : MethodName)) ∈ GW := gw_t8 177 rfl rfl
section FLT
variable {Γ : GT} {mi : MI} {cc : ByteArray} {Q : Option Value → AH → Prop} {QX : String → AH → Prop} {rc rs pc pc' idx : Nat} {L : List (Option Value)} {S : List Value} {σ : AH}
theorem g_fload_n {k : Fin 4} {x : UInt32} (d : De cc pc (.fload_n k) 1 pc') (hv : L[(k : Nat)]? = some (some (.float x))) (kk : G Γ mi cc Q QX rc rs pc' L (.float x :: S) σ) : G Γ mi cc Q QX rc rs pc L S σ := by
  intro p e R s m args below meth c H locs cells slots ls hΓ C hc hs hw hS hl
  obtain ⟨d, rfl⟩ := d
  have hk := kk p e R s m args below meth c H locs cells slots ls hΓ C hc hs hw hS hl
  exact lv_fload_n C.1 C.2.1 d rfl (hl.2.2.2 _ _ hv) hk
theorem g_fconst1 (d : De cc pc (.fconst 1) 1 pc') (kk : G Γ mi cc Q QX rc rs pc' L (.float FP.fconst1 :: S) σ) : G Γ mi cc Q QX rc rs pc L S σ := by
  intro p e R s m args below meth c H locs cells slots ls hΓ C hc hs hw hS hl
  obtain ⟨d, rfl⟩ := d
  have hk := kk p e R s m args below meth c H locs cells slots ls hΓ C hc hs hw hS hl
  exact lv_fconst1 C.1 C.2.1 d hk
theorem g_i2f {x : Int32} (d : De cc pc .i2f 1 pc') (kk : G Γ mi cc Q QX rc rs pc' L (.float (FP.i2f x) :: S) σ) : G Γ mi cc Q QX rc rs pc L (.int x :: S) σ := by
  intro p e R s m args below meth c H locs cells slots ls hΓ C hc hs hw hS hl
  obtain ⟨d, rfl⟩ := d
  have hk := kk p e R s m args below meth c H locs cells slots ls hΓ C hc hs hw hS hl
  exact lv_i2f C.1 C.2.1 d hk
theorem g_fdiv {x y : UInt32} (d : De cc pc .fdiv 1 pc') (hne : vf_n32 (FP.fdiv x y)) (kk : G Γ mi cc Q QX rc rs pc' L (.float (FP.fdiv x y) :: S) σ) : G Γ mi cc Q QX rc rs pc L (.float y :: .float x :: S) σ := by
  intro p e R s m args below meth c H locs cells slots ls hΓ C hc hs hw hS hl
  obtain ⟨d, rfl⟩ := d
  have hk := kk p e R s m args below meth c H locs cells slots ls hΓ C hc hs hw hS hl
  exact lv_fdiv C.1 C.2.1 d hne hk
theorem g_fcmp {x y : UInt32} {op : CmpOp} (d : De cc pc (.fcmp op) 1 pc') (kk : G Γ mi cc Q QX rc rs pc' L (.int (Op.cmpValue (FP.fcmp x y) op) :: S) σ) : G Γ mi cc Q QX rc rs pc L (.float y :: .float x :: S) σ := by
  intro p e R s m args below meth c H locs cells slots ls hΓ C hc hs hw hS hl
  obtain ⟨d, rfl⟩ := d
  have hk := kk p e R s m args below meth c H locs cells slots ls hΓ C hc hs hw hS hl
  exact lv_fcmp C.1 C.2.1 d hk
theorem g_raw {b : UInt32} (hlk : Cond.methodLink mi.1.cls idx ⟨"java/lang/Float", "floatToRawIntBits", "(F)I"⟩ ∈ GW) (d : De cc pc (.invokestatic idx) 3 pc') (hR : 1 ≤ mi.2.2.2.2.1 ∧ 25 ≤ mi.2.2.2.2.2.1) (hcat : (S.map fun v => v.category).sum ≤ 8) (kk : G Γ mi cc Q QX rc rs pc' L (.int b.toInt32 :: S) σ) : G Γ mi cc Q QX rc rs pc L (.float b :: S) σ := by
  intro p e R s m args below meth c H locs cells slots ls hΓ C hc hs hw hS hl
  obtain ⟨d, rfl⟩ := d
  have hk := kk p e R s m args below meth c H locs cells slots ls hΓ C hc hs hw hS hl
  have hWm := C.2.2.2.2.2.2.1
  have hR2 := C.2.2.2.2.2.2.2.1
  exact vn_f2i C.1 C.2.1 (C.2.2.1.trans hl.2.1.symm) C.2.2.2.1 (hΓ.w hlk _ _ hWm) (hΓ.w gw_1989 _ _ hWm) (hΓ.w gw_1988 _ _ hWm) (hΓ.w gw_161 _ _ hWm) (by omega) (by omega) d hk
end FLT
/-- as vx_ofW (kit), by plainFor -/
theorem vx_ofWF {l : Launch} {y : MethodName} {ws ws' : List Cond} {rm : Room} {Pc : Array Value → State → Prop} {Qc : Array Value → State → Outcome → State → Prop} {XC : String → State → State → Prop} {mc ms : Nat} {free : Addr → Prop} {cc : ByteArray} {maxL : Nat} {ret : Option FieldType}
    (hy : plainFor y = true) (hw : ws = Cond.code y cc maxL ret :: ws')
    (body : ∀ p e s m args below meth c s₁, BodyLoose p l y (headSpec ws rm) cc maxL ret e s m args below meth c s₁ → c.maxLocals = maxL → (∀ x ∈ c.exceptionTable.toList, False) → Pc args s →
      W p l e (headSpec ws rm).room s m args below meth c s.heap [] 0 0 (vx_MQ below Qc XC args s mc ms free) (entryFrame m args maxL)) : vx_Met l y ws rm Pc Qc XC mc ms free := by
  refine MetFree.of_bodySF (code := cc) (maxLocals := maxL) (ret := ret) hy ?_ ?_
  · intro args s m h hn
    obtain ⟨meth, c, h1, h2, h3, h4, h5, h6, -, -⟩ := Cond.code_spec hn (atoms_spec (ws := ws) h _ (by rw [hw]; exact List.mem_cons_self))
    exact ⟨meth, c, h1, h2, h3, h4, h5, h6⟩
  · intro p e s m args below meth c s₁ B hml hP _
    have hh0 : s₁.heap = s.heap := by rw [B.state]; rfl
    have ht : ∀ x ∈ c.exceptionTable.toList, False := by
      obtain ⟨meth9, c9, h1, h2, -, -, -, -, h7, -⟩ := Cond.code_spec B.named (atoms_spec (ws := ws) B.pre _ (by rw [hw]; exact List.mem_cons_self))
      cases Option.some.inj (h1.symm.trans B.method)
      cases Option.some.inj (h2.symm.trans (Stand.of_body B).code)
      intro x hx
      rw [Array.isEmpty_iff.mp h7] at hx
      cases hx
    obtain ⟨t, a1, o, b1, b2, b3⟩ := body p e s m args below meth c s₁ B hml ht hP s₁ hh0 (Stand.of_body B)
    exact ⟨t, o, a1, b1, b2, b3⟩
theorem Sp_ofF {Γ : GT} {mi : MI} {mc ms : Nat} {vs : List Value} {σ : AH} {Q : Option Value → AH → Prop} {QX : String → AH → Prop} {L : List (Option Value)} (hΓ : Gd Γ) (hp : plainFor mi.1 = true) (hh : mi.2.2.2.2.2.2.1 = []) (hn : (enl vs).length ≤ mi.2.2.1) (hL : enp vs mi.2.2.1 = L) (k : G Γ mi mi.2.1 Q QX mc ms 0 L [] σ) : Sp Γ mi mc ms vs σ Q QX := by
  refine vx_ofWF (cc := mi.2.1) (maxL := mi.2.2.1) (ret := mi.2.2.2.1) hp rfl ?_
  intro p e s m args below meth c s₁ B hml ht hv
  obtain ⟨rfl, hW, hw⟩ := hv
  rw [lg_entry_eq]
  refine k p e _ s m _ below meth c s.heap [] 0 0 _ hΓ ⟨B.exec, B.bytes, hml, findClass_of_methodNamed B.named, B.returns, B.notSynchronized, hW, ⟨Nat.le_refl _, Nat.le_refl _⟩, hw.2.2.1, ?_, (name_of_methodNamed B.named B.method).1, ?_⟩ (by show 0 + mc ≤ mc; omega) (by show 0 + ms ≤ ms; omega) hw ⟨Nat.le_refl _, fun q h => by cases h⟩ (hL ▸ lh.entry vs hn)
  · have := hw.2.1; rw [← hw.1] at this; exact this
  · rw [hh]
    cases he : c.exceptionTable.toList with
    | nil => rfl
    | cons x xs => exact absurd (show x ∈ c.exceptionTable.toList by rw [he]; exact List.mem_cons_self) (fun h => ht x h)
/-- the model has no rows of its own for these two -/
theorem fl_rows : (Jvm.natives.all fun r => r.cls != "java/lang/Float" || !(r.name == "isNaN" || r.name == "floatToIntBits")) = true := by decide +kernel
theorem fl_plain {x : MethodName} (hc : x.cls = "java/lang/Float") (hd : (x.name == "isNaN" || x.name == "floatToIntBits") = true) : plainFor x = true := by
  unfold plainFor
  rw [Bool.or_eq_true]; right
  rw [Option.isNone_iff_eq_none, NativeRow.find?, List.find?_eq_none]
  intro r hr h
  have hq := List.all_eq_true.mp fl_rows r hr
  simp only [Bool.and_eq_true, beq_iff_eq] at h
  have h1 : r.cls = "java/lang/Float" := by first | exact h.1.2.trans hc | exact h.1.1.trans hc
  have h2 : r.name = x.name := by first | exact h.1.1 | exact h.1.2
  rw [h1, h2, hd] at hq
  simp at hq
section FLS
variable {Γ : GT} {σ : AH}
theorem sp_isNaN (hΓ : Gd Γ) (b : UInt32) (hb : FP.fcmp b b = some .eq) : Sp Γ miJxf58ca_isNaN_12338 0 0 [.float b] σ (rb false σ) noX := by
  refine Sp_ofF (L := [_]) hΓ (fl_plain rfl (by decide)) rfl (Nat.le_of_ble_eq_true rfl) rfl ?_
  refine g_fload_n q_Jxf58ca_isNaN_12338_0 rfl ?_
  refine g_fload_n q_Jxf58ca_isNaN_12338_1 rfl ?_
  refine g_fcmp q_Jxf58ca_isNaN_12338_2 ?_
  refine g_top (v' := .int (ii 0)) (by rw [hb]; rfl) ?_
  refine g_if_eq (tgt := 10) q_Jxf58ca_isNaN_12338_3 (by decide) ⟨by omega, by omega⟩ (fun e1 => ?_) (fun e1 => ?_)
  · refine g_iconst q_Jxf58ca_isNaN_12338_10 ?_
    refine g_zreturn q_Jxf58ca_isNaN_12338_11.1 rfl (by first | exact Or.inl rfl | exact Or.inr rfl | omega) ?_
    exact ⟨rfl, rfl⟩
  · exact absurd rfl e1
theorem sp_fbits (hΓ : Gd Γ) (b : UInt32) (hb : FP.fcmp b b = some .eq) {v : Int} (hv : b.toInt32 = ii v) : Sp Γ miJxf58ca_floatToIntBits_5c35a 0 0 [.float b] σ (ri v σ) noX := by
  refine Sp_ofF (L := [_]) hΓ (fl_plain rfl (by decide)) rfl (Nat.le_of_ble_eq_true rfl) rfl ?_
  refine g_fload_n q_Jxf58ca_floatToIntBits_5c35a_0 rfl ?_
  refine g_callS (rc' := 0) (rs' := 0) (As := [_]) cs_Jxf58ca_59 q_Jxf58ca_floatToIntBits_5c35a_1 (sp_isNaN hΓ b hb) rfl rfl rfl (Nat.le_of_ble_eq_true rfl) (by decide) (by decide) (by decide) (fun _ _ h => h.elim) (k_rb ?_)
  refine g_if_ne (tgt := 12) q_Jxf58ca_floatToIntBits_5c35a_4 (by decide) (bi_rg _) (fun e1 => ?_) (fun e1 => ?_)
  · exact absurd (show bi false = 0 from rfl) e1
  refine g_fload_n q_Jxf58ca_floatToIntBits_5c35a_7 rfl ?_
  refine g_raw gw_1987 q_Jxf58ca_floatToIntBits_5c35a_8 (by decide) (Nat.le_of_ble_eq_true rfl) ?_
  refine g_top (v' := .int (ii v)) (congrArg Value.int hv) ?_
  exact g_ireturn q_Jxf58ca_floatToIntBits_5c35a_11.1 rfl ⟨rfl, rfl⟩
end FLS
section MPL8
variable {Γ : GT} {σ : AH} {m : Nat} {len : Nat} {tx : Nat → Int} {fa e0 : Int} {z : PS} {l : List (Int × Int × Int)} {wl : Nat} {wr : Nat → Int}
/-- by a way that a cart may go it comes to its goal no sooner than alone -/
theorem alc_le {I : Nat → Int} {A : Nat → Nat → Int} (w : WFz z) (hz : MZ I A z) {c : Nat} (hc : c < zCa z) {W : Nat → Int} {C : Int} (h : goW z c W C) : alcZ z c ≤ C := by
  obtain ⟨k5, -, -, pg, pw, g36, p36⟩ := hz.pg w hc
  have hin := h.gin w hc
  have key : ∀ t, t ≤ 40 → hH z (zPL z c).toNat t (W t).toNat = true := by
    intro t
    induction t with
    | zero =>
      intro _
      rw [h.1]
      exact hH_0 (by omega)
    | succ t ih =>
      intro ht
      have h1 := ih (by omega)
      have i0 := hin t (by omega)
      have i1 := hin (t + 1) (by omega)
      refine (hH_s w hz pg pw (t := t) (by omega) (by have := i1.1; omega)).mpr ?_
      rcases h.2.2.2.2.2 t (by omega) with e | ⟨k, hk, hl, e⟩
      · rw [e]; exact Or.inl h1
      · refine Or.inr ⟨(W t).toNat, k, by have := i0.1; omega, hk, h1, ?_⟩
        rw [(nxt_lv w.1.1.1 w.1.1.2.1 w.1.2.1 hz.2.2.1 i0.2.1 i0.2.2 hk).1, if_pos (show (lvF (zSO z) (zCo z) (zRo z) k).getLsbD (W t).toNat = true from hl)]
        have := i0.1
        have := i1.1
        omega
  have hC := h.2.1
  have hC2 := h.2.2.1
  have hg := h.2.2.2.1 C.toNat (by omega) (by omega)
  have hk := key C.toNat (by omega)
  rw [hg] at hk
  have e : alcZ z c = fstN (fun t => hH z (zPL z c).toNat t (zGO z c).toNat) 41 := lcs_hH z (zPL z c).toNat (zGO z c).toNat
  rw [e]
  rcases fstN_cases (fun t => hH z (zPL z c).toNat t (zGO z c).toNat) 41 with ⟨e1, -⟩ | ⟨k, hk1, e1, -, hn⟩
  · rw [e1]; omega
  · rw [e1]
    refine Classical.byContradiction fun q => ?_
    have := hn C.toNat (by omega)
    rw [hk] at this
    cases this
theorem sp_mworse (hΓ : Gd Γ) (hX : MX σ m e0 len tx fa z l wl wr) (bd : Int) (hbd : rg bd) : Sp Γ miX10_worse 0 0 [.ref m, .int (ii bd)] σ (mQ (eP (true) bd z 1 2) (aWorse z bd) (SM σ m (eP (true) bd z 1 2) len tx fa z l wl wr)) noX := by
  obtain ⟨I, A, N, -, h, hW⟩ := hX
  have h0 := h.1
  have hz := hW.2.2.1.1
  have wf := hW.2.2.1.2
  have n5 := wf.1.1.2.2
  obtain ⟨e, hEe⟩ : ∃ e, e = eP (true) bd z 1 2 := ⟨_, rfl⟩
  have he4 : e ≤ 4 := by rw [hEe]; exact eP_le _ _ _ (by decide) (by decide)
  rw [← hEe]
  have fin : ∀ τ J B, eqOff σ τ (inb m 34) → MC τ m J B N → MW J B N len tx fa z l wl wr → (e = 0 → PLd J B z bd) → G Γ miX10_worse cX10_worse (mQ e (aWorse z bd) (SM σ m e len tx fa z l wl wr)) noX 0 0 9 [some (.ref m), some (.int (ii bd))] [.int (ii (e : Int)), .ref m] τ := by
    intro τ J B hE hM hWB hP
    have t0 := hM.1
    refine g_putM fp_X10_122 q_X10_worse_9 (by repeat first | with_reducible assumption | with_reducible exact hput_s _ _ _ | refine (hput_n _ _ (by omega)).trans ?_ | exact hput_s _ _ _ | assumption) rfl rfl mset_0 ?_
    refine g_aload_n q_X10_worse_12 rfl ?_
    refine g_get fl_X10_122 q_X10_worse_13 (by repeat first | with_reducible assumption | with_reducible exact hput_s _ _ _ | refine (hput_n _ _ (by omega)).trans ?_ | exact hput_s _ _ _ | assumption) rfl ?_
    refine g_topi (b := (e : Int)) (by rfl) ?_
    refine g_if_le (tgt := 21) q_X10_worse_16 (by decide) ⟨by omega, by omega⟩ (fun b9 => ?_) (fun b9 => ?_)
    case refine_2 =>
      refine g_iconst q_X10_worse_19 ?_
      refine g_ireturn q_X10_worse_20.1 rfl ?_
      exact ⟨by rw [if_neg (by omega)], SM.w hE hM hWB e⟩
    have ee : e = 0 := by omega
    subst ee
    obtain ⟨kp, hkp, j35, ha, hrow, hgo, hsum, hsum0, hrow0, hcc⟩ := hP rfl
    have hS := SM.w hE hM hWB 0
    have hM1 := hM.putI (va_up J 0 ((0 : Nat) : Int))
    obtain ⟨τ1, hτ1⟩ : ∃ τ1, τ1 = hput τ m (mdo m (va_up J 0 ((0 : Nat) : Int))) := ⟨_, rfl⟩
    rw [← hτ1] at hS hM1 ⊢
    clear hτ1 hE t0 hP
    have hrB := hWB.2.2.2.2.2.2.2
    have hzB := hWB.2.2.1.1
    have j35 : va_up J 0 ((0 : Nat) : Int) 35 = kp := j35
    have j15 : va_up J 0 ((0 : Nat) : Int) 15 = zCa z := hzB.1.2.2
    obtain ⟨J1, hJ1⟩ : ∃ J1, J1 = va_up J 0 ((0 : Nat) : Int) := ⟨_, rfl⟩
    rw [← hJ1] at j35 j15 hM1
    have hzJ : MZ J1 B z := by rw [hJ1]; exact hzB.cg ⟨rfl, rfl, rfl⟩ rfl rfl rfl
    clear hJ1
    have u0 := hM1.1
    have u16 := hM1.a16
    have eq2 := eP_z (by decide) hEe.symm
    unfold mQ
    rw [if_pos rfl]
    have u19 := hM1.a19
    have hal := of_decide_eq_true ha
    have hra : ∀ c, c < zCa z → 0 ≤ alcZ z c ∧ alcZ z c ≤ 40 := fun c hc => by
      have e9 : -1 ≤ alcZ z c ∧ alcZ z c ≤ 40 := lcs_rg (lvZ z) (fun _ => 0) (fun _ => 0) (zPL z c).toNat (zGO z c).toNat
      have : alcZ z c ≠ -1 := hal c hc
      omega
    have hrp : ∀ c, c < zCa z → 0 ≤ pCZ z bd c ∧ pCZ z bd c ≤ 40 := fun c hc => ⟨(hgo c hc).2.1, (hgo c hc).2.2.1⟩
    have s1 := sumN_rg (C := alcZ z) (a := 0) (b := 40) (n := zCa z) hra
    have s2 := sumN_rg (C := pCZ z bd) (a := 0) (b := 40) (n := zCa z) hrp
    have s3 : sumN (alcZ z) (zCa z) ≤ sumN (pCZ z bd) (zCa z) := sumN_le' fun c hc => alc_le wf hzJ hc (hgo c hc)
    unfold aWorse
    obtain ⟨X, hX⟩ : ∃ X : Nat, sumN (pCZ z bd) (zCa z) = X := ⟨(sumN (pCZ z bd) (zCa z)).toNat, by omega⟩
    obtain ⟨Y, hY⟩ : ∃ Y : Nat, sumN (alcZ z) (zCa z) = Y := ⟨(sumN (alcZ z) (zCa z)).toNat, by omega⟩
    rw [hX] at s2 s3 hsum
    rw [hY] at s1 s3 hsum0
    rw [hX, hY, Int.toNat_natCast, Int.toNat_natCast]
    refine g_aload_n q_X10_worse_21 rfl ?_
    refine g_get fl_X10_74 q_X10_worse_22 (by repeat first | with_reducible assumption | with_reducible exact hput_s _ _ _ | refine (hput_n _ _ (by omega)).trans ?_ | exact hput_s _ _ _ | assumption) rfl ?_
    refine g_iconst q_X10_worse_25 ?_
    refine g_iaload q_X10_worse_26 (by repeat first | with_reducible assumption | with_reducible exact hput_s _ _ _ | refine (hput_n _ _ (by omega)).trans ?_ | exact hput_s _ _ _ | assumption) (by omega) (by omega) ?_
    refine g_topi (b := (Y : Int)) (by exact hsum0) ?_
    refine g_if_ne (tgt := 34) q_X10_worse_27 (by decide) ⟨by omega, by omega⟩ (fun d1 => ?_) (fun d1 => ?_)
    · have hck := ck_all (a := X) (b := Y) (by omega) (by omega) (by omega)
      unfold ckF at hck
      rw [Bool.and_eq_true, Bool.and_eq_true] at hck
      have k1 := of_decide_eq_true hck.1
      have k2 := of_decide_eq_true hck.2.1
      have k3 := of_decide_eq_true hck.2.2
      rw [if_neg (by omega)]
      refine g_aload_n q_X10_worse_34 rfl ?_
      refine g_get fl_X10_74 q_X10_worse_35 (by repeat first | with_reducible assumption | with_reducible exact hput_s _ _ _ | refine (hput_n _ _ (by omega)).trans ?_ | exact hput_s _ _ _ | assumption) rfl ?_
      refine g_aload_n q_X10_worse_38 rfl ?_
      refine g_get fl_X10_314 q_X10_worse_39 (by repeat first | with_reducible assumption | with_reducible exact hput_s _ _ _ | refine (hput_n _ _ (by omega)).trans ?_ | exact hput_s _ _ _ | assumption) rfl ?_
      refine g_topi (b := (kp : Int)) (by exact j35) ?_
      refine g_iaload q_X10_worse_42 (by repeat first | with_reducible assumption | with_reducible exact hput_s _ _ _ | refine (hput_n _ _ (by omega)).trans ?_ | exact hput_s _ _ _ | assumption) (by omega) (by omega) ?_
      refine g_topi (b := (X : Int)) (by exact hsum) ?_
      refine g_i2f q_X10_worse_43 ?_
      refine g_aload_n q_X10_worse_44 rfl ?_
      refine g_get fl_X10_74 q_X10_worse_45 (by repeat first | with_reducible assumption | with_reducible exact hput_s _ _ _ | refine (hput_n _ _ (by omega)).trans ?_ | exact hput_s _ _ _ | assumption) rfl ?_
      refine g_iconst q_X10_worse_48 ?_
      refine g_iaload q_X10_worse_49 (by repeat first | with_reducible assumption | with_reducible exact hput_s _ _ _ | refine (hput_n _ _ (by omega)).trans ?_ | exact hput_s _ _ _ | assumption) (by omega) (by omega) ?_
      refine g_topi (b := (Y : Int)) (by exact hsum0) ?_
      refine g_i2f q_X10_worse_50 ?_
      refine g_fdiv q_X10_worse_51 k1 ?_
      refine g_callS (rc' := 0) (rs' := 0) (As := [_]) cs_X10_360 q_X10_worse_52 (sp_fbits hΓ _ k2 k3) rfl rfl rfl (Nat.le_of_ble_eq_true rfl) (by decide) (by decide) (by decide) (fun _ _ h => h.elim) (k_ri ?_)
      refine g_ireturn q_X10_worse_55.1 rfl ?_
      exact ⟨rfl, hS⟩
    · rw [if_pos (by omega)]
      refine g_fconst1 q_X10_worse_30 ?_
      refine g_goto (tgt := 52) q_X10_worse_31 (by decide) ?_
      refine g_callS (rc' := 0) (rs' := 0) (As := [_]) cs_X10_360 q_X10_worse_52 (sp_fbits hΓ FP.fconst1 (by decide +kernel) (v := 1065353216) (by decide +kernel)) rfl rfl rfl (Nat.le_of_ble_eq_true rfl) (by decide) (by decide) (by decide) (fun _ _ h => h.elim) (k_ri ?_)
      refine g_ireturn q_X10_worse_55.1 rfl ?_
      exact ⟨rfl, hS⟩
  refine Sp_of (L := [_, _]) hΓ (by decide +kernel) rfl (Nat.le_of_ble_eq_true rfl) rfl ?_
  refine g_aload_n q_X10_worse_0 rfl ?_
  refine g_aload_n q_X10_worse_1 rfl ?_
  refine g_iconst q_X10_worse_2 ?_
  refine g_iload_n q_X10_worse_3 rfl ?_
  refine g_iconst q_X10_worse_4 ?_
  refine g_iconst q_X10_worse_5 ?_
  refine g_callV (rc' := 0) (rs' := 0) (As := [_, _, _, _]) cs_X10_337 q_X10_worse_6 (sp_wrongPlan hΓ h hW true bd hbd 1 2 (by decide) (by decide)) rfl (by repeat first | with_reducible assumption | with_reducible exact hput_s _ _ _ | refine (hput_n _ _ (by omega)).trans ?_ | exact hput_s _ _ _ | assumption) rfl rfl rfl rfl (Nat.le_of_ble_eq_true rfl) (by decide) (by decide) (by decide) (fun _ _ h => h.elim) (fun v τ hq => ?_)
  rw [← hEe] at hq
  obtain ⟨rfl, hE, J, B, hM, hWB, hP⟩ := hq
  exact fin τ J B hE hM hWB hP

end MPL8

