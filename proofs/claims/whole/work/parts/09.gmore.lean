theorem gw_148 : (Cond.initialized "java/lang/Math") ∈ GW := gw_t1 16 rfl rfl
theorem gw_154 : (Cond.initialized "java/lang/System") ∈ GW := gw_t1 22 rfl rfl
theorem gw_524 : (Cond.fieldLinkNest "CartPaths$Scene" (61 : Nat) "CartPaths" "ACROSS" "[I" "CartPaths") ∈ GW := gw_t2 152 rfl rfl
theorem gw_526 : (Cond.fieldLinkNest "CartPaths$Scene" (64 : Nat) "CartPaths" "DOWN" "[I" "CartPaths") ∈ GW := gw_t2 154 rfl rfl
theorem gw_540 : (Cond.fieldLink "CartPaths" (359 : Nat) "CartPaths" "FACTORIALS" "[I") ∈ GW := gw_t2 168 rfl rfl
theorem gw_550 : (Cond.fieldLinkNest "CartPaths$Turns" (38 : Nat) "CartPaths" "FACTORIALS" "[I" "CartPaths") ∈ GW := gw_t2 178 rfl rfl
theorem gw_586 : (Cond.fieldLinkNest "CartPaths$Search" (31 : Nat) "CartPaths" "AHEAD" "[I" "CartPaths") ∈ GW := gw_t2 214 rfl rfl
theorem gw_747 : (Cond.static ({ cls := "java/lang/Math", name := "max", desc := "(II)I" } : MethodName)) ∈ GW := gw_t3 135 rfl rfl
theorem gw_748 : (Cond.code ({ cls := "java/lang/Math", name := "max", desc := "(II)I" } : MethodName) prog_23_method_65_code (2 : Nat) (Option.some FieldType.int)) ∈ GW := gw_t3 136 rfl rfl
theorem gw_895 : (Cond.methodLink "CartPaths$Scene" (47 : Nat) ({ cls := "java/lang/System", name := "arraycopy", desc := "(Ljava/lang/Object;ILjava/lang/Object;II)V" } : MethodName)) ∈ GW := gw_t4 43 rfl rfl
theorem gw_896 : (Cond.static ({ cls := "java/lang/System", name := "arraycopy", desc := "(Ljava/lang/Object;ILjava/lang/Object;II)V" } : MethodName)) ∈ GW := gw_t4 44 rfl rfl
theorem gw_897 : (Cond.native ({ cls := "java/lang/System", name := "arraycopy", desc := "(Ljava/lang/Object;ILjava/lang/Object;II)V" } : MethodName)) ∈ GW := gw_t4 45 rfl rfl
theorem gw_996 : (Cond.methodLink "CartPaths$Acts" (25 : Nat) ({ cls := "java/lang/System", name := "arraycopy", desc := "(Ljava/lang/Object;ILjava/lang/Object;II)V" } : MethodName)) ∈ GW := gw_t4 144 rfl rfl
theorem gw_1199 : (Cond.methodLink "CartPaths$Ways" (46 : Nat) ({ cls := "java/lang/System", name := "arraycopy", desc := "(Ljava/lang/Object;ILjava/lang/Object;II)V" } : MethodName)) ∈ GW := gw_t5 107 rfl rfl
theorem gw_1217 : (Cond.methodLink "CartPaths$Tree" (189 : Nat) ({ cls := "java/lang/System", name := "arraycopy", desc := "(Ljava/lang/Object;ILjava/lang/Object;II)V" } : MethodName)) ∈ GW := gw_t5 125 rfl rfl
theorem gw_1248 : (Cond.fieldLinkNest "CartPaths$Ways" (60 : Nat) "CartPaths" "AHEAD" "[I" "CartPaths") ∈ GW := gw_t5 156 rfl rfl
theorem gw_1303 : (Cond.methodLink "CartPaths$Stop" (34 : Nat) ({ cls := "java/lang/Math", name := "max", desc := "(II)I" } : MethodName)) ∈ GW := gw_t5 211 rfl rfl
theorem gw_1353 : (Cond.methodLink "CartPaths$Ways" (70 : Nat) ({ cls := "java/lang/Math", name := "abs", desc := "(I)I" } : MethodName)) ∈ GW := gw_t6 21 rfl rfl
theorem gw_1354 : (Cond.static ({ cls := "java/lang/Math", name := "abs", desc := "(I)I" } : MethodName)) ∈ GW := gw_t6 22 rfl rfl
theorem gw_1355 : (Cond.code ({ cls := "java/lang/Math", name := "abs", desc := "(I)I" } : MethodName) prog_23_method_59_code (1 : Nat) (Option.some FieldType.int)) ∈ GW := gw_t6 23 rfl rfl
def LStat (own : String) (idx : Nat) (nm d : String) : Prop := Cond.fieldLink own idx "CartPaths" nm d ∈ GW ∨ ∃ host, Cond.fieldLinkNest own idx "CartPaths" nm d host ∈ GW
theorem mw_max : Cond.static Lib.Math.max.name ∈ GW ∧ Cond.initialized "java/lang/Math" ∈ GW ∧ Cond.code Lib.Math.max.name Lib.Math.max.code 2 (some .int) ∈ GW := ⟨gw_747, gw_148, gw_748⟩
theorem mw_abs : Cond.static Lib.Math.abs.name ∈ GW ∧ Cond.initialized "java/lang/Math" ∈ GW ∧ Cond.code Lib.Math.abs.name Lib.Math.abs.code 1 (some .int) ∈ GW := ⟨gw_1354, gw_148, gw_1355⟩
theorem mw_cp : Cond.native arraycopyName ∈ GW ∧ Cond.static arraycopyName ∈ GW ∧ Cond.initialized "java/lang/System" ∈ GW := ⟨gw_897, gw_896, gw_154⟩
theorem lk_X0_25 : Cond.methodLink RX0 25 arraycopyName ∈ GW := gw_996
theorem lk_X2_47 : Cond.methodLink RX2 47 arraycopyName ∈ GW := gw_895
theorem ls_X2_61 : LStat RX2 61 "ACROSS" "[I" := Or.inr ⟨_, gw_524⟩
theorem ls_X2_64 : LStat RX2 64 "DOWN" "[I" := Or.inr ⟨_, gw_526⟩
theorem ls_X3_31 : LStat RX3 31 "AHEAD" "[I" := Or.inr ⟨_, gw_586⟩
theorem lk_X4_34 : Cond.methodLink RX4 34 Lib.Math.max.name ∈ GW := gw_1303
theorem lk_X6_189 : Cond.methodLink RX6 189 arraycopyName ∈ GW := gw_1217
theorem ls_X7_38 : LStat RX7 38 "FACTORIALS" "[I" := Or.inr ⟨_, gw_550⟩
theorem lk_X8_46 : Cond.methodLink RX8 46 arraycopyName ∈ GW := gw_1199
theorem ls_X8_60 : LStat RX8 60 "AHEAD" "[I" := Or.inr ⟨_, gw_1248⟩
theorem lk_X8_70 : Cond.methodLink RX8 70 Lib.Math.abs.name ∈ GW := gw_1353
theorem ls_X9_359 : LStat RX9 359 "FACTORIALS" "[I" := Or.inl gw_540
/-- a static row of ints, as it was at the start -/
def RO (Γ : GT) (t n : Nat) (f : Nat → Int) : Prop := va_T .int t n (fun j => .int (ii (f j))) (fr0 Γ) Γ.2.1 Γ.2.1.heap
def RZ (Γ : GT) (nm : String) (t : Nat) : Prop := va_Z "CartPaths" nm "[I" (.ref t) (fr0 Γ) Γ.2.1 Γ.2.1.heap
def t_acr : Nat → Int := fun j => match j with
  | 0 => 0
  | 1 => 1
  | 2 => 0
  | _ => -1
theorem st_ACROSS {Γ : GT} (hΓ : Gd Γ) : ∃ t, RZ Γ "ACROSS" t ∧ RO Γ t 4 t_acr := by
  obtain ⟨⟨a0, h0, hn⟩, -⟩ := hΓ
  have hf := flat_of_before _ hn
  have hA : ∀ a : Nat, a < Γ.2.1.heap.size → ¬ fr0 Γ a := fun a ha => Nat.not_le.mpr ha
  obtain ⟨t, h1, h2⟩ := va_Tof (tm := .static "CartPaths" "ACROSS" "[I") (ty := .int) (N := 4) (f := fun j => .int (ii (t_acr j))) (A := fr0 Γ) (by decide) (hf _ (by decide +kernel)) (va_eqt (hf (.eq (.length (.static "CartPaths" "ACROSS" "[I")) (.int 4)) (by decide +kernel))) (fun j hj => by
    match j, hj with
    | 0, _ => exact va_eqt (hf (.eq (.elem (.static "CartPaths" "ACROSS" "[I") (.int 0)) (.int 0)) (by decide +kernel))
    | 1, _ => exact va_eqt (hf (.eq (.elem (.static "CartPaths" "ACROSS" "[I") (.int 1)) (.int 1)) (by decide +kernel))
    | 2, _ => exact va_eqt (hf (.eq (.elem (.static "CartPaths" "ACROSS" "[I") (.int 2)) (.int 0)) (by decide +kernel))
    | 3, _ => exact va_eqt (hf (.eq (.elem (.static "CartPaths" "ACROSS" "[I") (.int 3)) (.int (-1))) (by decide +kernel))
    | j + 4, hj => exact absurd hj (by omega)
    ) hA
  exact ⟨t, va_Zref (h0 (.laysStatic "CartPaths" "ACROSS" "[I") (by decide +kernel)) (h0 (.initialized "CartPaths") (by decide +kernel)) h1 hA, h2⟩
def t_dwn : Nat → Int := fun j => match j with
  | 0 => -1
  | 1 => 0
  | 2 => 1
  | _ => 0
theorem st_DOWN {Γ : GT} (hΓ : Gd Γ) : ∃ t, RZ Γ "DOWN" t ∧ RO Γ t 4 t_dwn := by
  obtain ⟨⟨a0, h0, hn⟩, -⟩ := hΓ
  have hf := flat_of_before _ hn
  have hA : ∀ a : Nat, a < Γ.2.1.heap.size → ¬ fr0 Γ a := fun a ha => Nat.not_le.mpr ha
  obtain ⟨t, h1, h2⟩ := va_Tof (tm := .static "CartPaths" "DOWN" "[I") (ty := .int) (N := 4) (f := fun j => .int (ii (t_dwn j))) (A := fr0 Γ) (by decide) (hf _ (by decide +kernel)) (va_eqt (hf (.eq (.length (.static "CartPaths" "DOWN" "[I")) (.int 4)) (by decide +kernel))) (fun j hj => by
    match j, hj with
    | 0, _ => exact va_eqt (hf (.eq (.elem (.static "CartPaths" "DOWN" "[I") (.int 0)) (.int (-1))) (by decide +kernel))
    | 1, _ => exact va_eqt (hf (.eq (.elem (.static "CartPaths" "DOWN" "[I") (.int 1)) (.int 0)) (by decide +kernel))
    | 2, _ => exact va_eqt (hf (.eq (.elem (.static "CartPaths" "DOWN" "[I") (.int 2)) (.int 1)) (by decide +kernel))
    | 3, _ => exact va_eqt (hf (.eq (.elem (.static "CartPaths" "DOWN" "[I") (.int 3)) (.int 0)) (by decide +kernel))
    | j + 4, hj => exact absurd hj (by omega)
    ) hA
  exact ⟨t, va_Zref (h0 (.laysStatic "CartPaths" "DOWN" "[I") (by decide +kernel)) (h0 (.initialized "CartPaths") (by decide +kernel)) h1 hA, h2⟩
def t_ahd : Nat → Int := fun j => match j with
  | 0 => -6
  | 1 => 1
  | 2 => 6
  | _ => -1
theorem st_AHEAD {Γ : GT} (hΓ : Gd Γ) : ∃ t, RZ Γ "AHEAD" t ∧ RO Γ t 4 t_ahd := by
  obtain ⟨⟨a0, h0, hn⟩, -⟩ := hΓ
  have hf := flat_of_before _ hn
  have hA : ∀ a : Nat, a < Γ.2.1.heap.size → ¬ fr0 Γ a := fun a ha => Nat.not_le.mpr ha
  obtain ⟨t, h1, h2⟩ := va_Tof (tm := .static "CartPaths" "AHEAD" "[I") (ty := .int) (N := 4) (f := fun j => .int (ii (t_ahd j))) (A := fr0 Γ) (by decide) (hf _ (by decide +kernel)) (va_eqt (hf (.eq (.length (.static "CartPaths" "AHEAD" "[I")) (.int 4)) (by decide +kernel))) (fun j hj => by
    match j, hj with
    | 0, _ => exact va_eqt (hf (.eq (.elem (.static "CartPaths" "AHEAD" "[I") (.int 0)) (.int (-6))) (by decide +kernel))
    | 1, _ => exact va_eqt (hf (.eq (.elem (.static "CartPaths" "AHEAD" "[I") (.int 1)) (.int 1)) (by decide +kernel))
    | 2, _ => exact va_eqt (hf (.eq (.elem (.static "CartPaths" "AHEAD" "[I") (.int 2)) (.int 6)) (by decide +kernel))
    | 3, _ => exact va_eqt (hf (.eq (.elem (.static "CartPaths" "AHEAD" "[I") (.int 3)) (.int (-1))) (by decide +kernel))
    | j + 4, hj => exact absurd hj (by omega)
    ) hA
  exact ⟨t, va_Zref (h0 (.laysStatic "CartPaths" "AHEAD" "[I") (by decide +kernel)) (h0 (.initialized "CartPaths") (by decide +kernel)) h1 hA, h2⟩
def t_fac : Nat → Int := fun j => match j with
  | 0 => 1
  | 1 => 1
  | 2 => 2
  | 3 => 6
  | 4 => 24
  | _ => 120
theorem st_FACTORIALS {Γ : GT} (hΓ : Gd Γ) : ∃ t, RZ Γ "FACTORIALS" t ∧ RO Γ t 6 t_fac := by
  obtain ⟨⟨a0, h0, hn⟩, -⟩ := hΓ
  have hf := flat_of_before _ hn
  have hA : ∀ a : Nat, a < Γ.2.1.heap.size → ¬ fr0 Γ a := fun a ha => Nat.not_le.mpr ha
  obtain ⟨t, h1, h2⟩ := va_Tof (tm := .static "CartPaths" "FACTORIALS" "[I") (ty := .int) (N := 6) (f := fun j => .int (ii (t_fac j))) (A := fr0 Γ) (by decide) (hf _ (by decide +kernel)) (va_eqt (hf (.eq (.length (.static "CartPaths" "FACTORIALS" "[I")) (.int 6)) (by decide +kernel))) (fun j hj => by
    match j, hj with
    | 0, _ => exact va_eqt (hf (.eq (.elem (.static "CartPaths" "FACTORIALS" "[I") (.int 0)) (.int 1)) (by decide +kernel))
    | 1, _ => exact va_eqt (hf (.eq (.elem (.static "CartPaths" "FACTORIALS" "[I") (.int 1)) (.int 1)) (by decide +kernel))
    | 2, _ => exact va_eqt (hf (.eq (.elem (.static "CartPaths" "FACTORIALS" "[I") (.int 2)) (.int 2)) (by decide +kernel))
    | 3, _ => exact va_eqt (hf (.eq (.elem (.static "CartPaths" "FACTORIALS" "[I") (.int 3)) (.int 6)) (by decide +kernel))
    | 4, _ => exact va_eqt (hf (.eq (.elem (.static "CartPaths" "FACTORIALS" "[I") (.int 4)) (.int 24)) (by decide +kernel))
    | 5, _ => exact va_eqt (hf (.eq (.elem (.static "CartPaths" "FACTORIALS" "[I") (.int 5)) (.int 120)) (by decide +kernel))
    | j + 6, hj => exact absurd hj (by omega)
    ) hA
  exact ⟨t, va_Zref (h0 (.laysStatic "CartPaths" "FACTORIALS" "[I") (by decide +kernel)) (h0 (.initialized "CartPaths") (by decide +kernel)) h1 hA, h2⟩
section GM
variable {Γ : GT} {mi : MI} {cc : ByteArray} {Q : Option Value → AH → Prop} {QX : String → AH → Prop} {rc rs pc pc' tgt idx : Nat} {L L' : List (Option Value)} {S : List Value} {σ : AH}
theorem g_vaS {p : Program} {R : Room} {s : State} {m : MethodId} {meth : Method} {c : Code} {H : Heap} {locs : List Loc} (C : Cx Γ mi cc p R s m meth c) (hw : wld Γ σ H) (hS : Sc Γ s H locs) : va_S (fr0 Γ) s.heap H locs := by
  refine ⟨hS.1, fun q h1 h2 => ?_, hS.2⟩
  have h3 : q < Γ.2.1.heap.size := Nat.not_le.mp h2
  rw [hw.2.2.1 q h3]
  exact (C.2.2.2.2.2.2.2.2.1 q h3).symm
theorem g_kept {p : Program} {R : Room} {s : State} {m : MethodId} {meth : Method} {c : Code} (C : Cx Γ mi cc p R s m meth c) : ∀ a : Nat, a < Γ.2.1.heap.size → ¬ fr0 Γ a → s.heap[a]? = Γ.2.1.heap[a]? := fun a ha _ => C.2.2.2.2.2.2.2.2.1 a ha
theorem g_getst {nm : String} {t : Nat} (ls9 : LStat mi.1.cls idx nm "[I") (hz : RZ Γ nm t) (d : De cc pc (.getstatic idx) 3 pc') (kk : G Γ mi cc Q QX rc rs pc' L (.ref t :: S) σ) : G Γ mi cc Q QX rc rs pc L S σ := by
  intro p e R s m args below meth c H locs cells slots ls hΓ C hc hs hw hS hl
  obtain ⟨d, rfl⟩ := d
  have hk := kk p e R s m args below meth c H locs cells slots ls hΓ C hc hs hw hS hl
  have hWm := C.2.2.2.2.2.2.1
  have hZ := va_Z.kept (va_Z.moved hWm.alike hz) (g_kept C)
  rcases ls9 with h | ⟨host, h⟩
  · exact va_gets C.1 C.2.1 hZ (g_vaS C hw hS) C.2.2.2.1 (hΓ.w h _ _ hWm) (fun _ h9 => h9) d hk
  · exact va_getsN C.1 C.2.1 hZ (g_vaS C hw hS) C.2.2.2.1 (hΓ.w h _ _ hWm) (fun _ h9 => h9) d hk
theorem g_iaload_ro {t n : Nat} {f : Nat → Int} {j : Int} (d : De cc pc (.iaload) 1 pc') (hr : RO Γ t n f) (h0 : 0 ≤ j) (h1 : j < n) (hn : n < 2 ^ 31) (kk : G Γ mi cc Q QX rc rs pc' L (.int (ii (f j.toNat)) :: S) σ) : G Γ mi cc Q QX rc rs pc L (.int (ii j) :: .ref t :: S) σ := by
  intro p e R s m args below meth c H locs cells slots ls hΓ C hc hs hw hS hl
  obtain ⟨d, rfl⟩ := d
  have hk := kk p e R s m args below meth c H locs cells slots ls hΓ C hc hs hw hS hl
  have hWm := C.2.2.2.2.2.2.1
  have hT := va_T.kept (va_T.moved hWm.alike hr) (g_kept C)
  have hcl := ii_cl (a := j) ⟨by omega, by omega⟩
  exact va_ti C.1 C.2.1 hT (g_vaS C hw hS) (ii_in h0 h1 hn) (by rw [hcl]) d hk
theorem g_alen_ro {t n : Nat} {f : Nat → Int} (d : De cc pc (.arraylength) 1 pc') (hr : RO Γ t n f) (kk : G Γ mi cc Q QX rc rs pc' L (.int (ii n) :: S) σ) : G Γ mi cc Q QX rc rs pc L (.ref t :: S) σ := by
  intro p e R s m args below meth c H locs cells slots ls hΓ C hc hs hw hS hl
  obtain ⟨d, rfl⟩ := d
  have hk := kk p e R s m args below meth c H locs cells slots ls hΓ C hc hs hw hS hl
  have hWm := C.2.2.2.2.2.2.1
  have hT := va_T.kept (va_T.moved hWm.alike hr) (g_kept C)
  exact va_tlen C.1 C.2.1 hT (g_vaS C hw hS) rfl d hk
theorem g_max {a b : Int} (hlk : Cond.methodLink mi.1.cls idx Lib.Math.max.name ∈ GW) (d : De cc pc (.invokestatic idx) 3 pc') (hR : 1 ≤ mi.2.2.2.2.1 ∧ 25 ≤ mi.2.2.2.2.2.1) (hcat : (S.map fun v => v.category).sum ≤ 8) (ha : rg a) (hb : rg b) (kk : G Γ mi cc Q QX rc rs pc' L (.int (ii (if a < b then b else a)) :: S) σ) : G Γ mi cc Q QX rc rs pc L (.int (ii b) :: .int (ii a) :: S) σ := by
  intro p e R s m args below meth c H locs cells slots ls hΓ C hc hs hw hS hl
  obtain ⟨d, rfl⟩ := d
  have hk := kk p e R s m args below meth c H locs cells slots ls hΓ C hc hs hw hS hl
  have hWm := C.2.2.2.2.2.2.1
  have hR2 := C.2.2.2.2.2.2.2.1
  refine va_mmax C.1 C.2.1 (C.2.2.1.trans hl.2.1.symm) C.2.2.2.1 (hΓ.w hlk _ _ hWm) (hΓ.w mw_max.1 _ _ hWm) (hΓ.w mw_max.2.1 _ _ hWm) (hΓ.w mw_max.2.2 _ _ hWm) (by omega) (by omega) (by omega) (by omega) d ?_
  have e : (if ii a < ii b then ii b else ii a) = ii (if a < b then b else a) := by
    by_cases h : a < b
    · rw [if_pos h, if_pos ((ii_lt ha hb).mpr h)]
    · rw [if_neg h, if_neg (fun q => h ((ii_lt ha hb).mp q))]
  rw [e]
  exact hk
theorem g_abs {a : Int} (hlk : Cond.methodLink mi.1.cls idx Lib.Math.abs.name ∈ GW) (d : De cc pc (.invokestatic idx) 3 pc') (hR : 1 ≤ mi.2.2.2.2.1 ∧ 25 ≤ mi.2.2.2.2.2.1) (hcat : (S.map fun v => v.category).sum ≤ 8) (ha : rg a) (kk : G Γ mi cc Q QX rc rs pc' L (.int (ii (if 0 ≤ a then a else -a)) :: S) σ) : G Γ mi cc Q QX rc rs pc L (.int (ii a) :: S) σ := by
  intro p e R s m args below meth c H locs cells slots ls hΓ C hc hs hw hS hl
  obtain ⟨d, rfl⟩ := d
  have hk := kk p e R s m args below meth c H locs cells slots ls hΓ C hc hs hw hS hl
  have hWm := C.2.2.2.2.2.2.1
  have hR2 := C.2.2.2.2.2.2.2.1
  refine va_mabs C.1 C.2.1 (C.2.2.1.trans hl.2.1.symm) C.2.2.2.1 (hΓ.w hlk _ _ hWm) (hΓ.w mw_abs.1 _ _ hWm) (hΓ.w mw_abs.2.1 _ _ hWm) (hΓ.w mw_abs.2.2 _ _ hWm) (by omega) (by omega) (by omega) (by omega) d ?_
  have e : (if 0 ≤ ii a then ii a else 0 - ii a) = ii (if 0 ≤ a then a else -a) := by
    by_cases h : 0 ≤ a
    · rw [if_pos h, if_pos ((ii_zle ha).mpr h)]
    · rw [if_neg h, if_neg (fun q => h ((ii_zle ha).mp q))]
      show ii 0 - ii a = _
      rw [ii_sub]
      congr 1
      omega
  rw [e]
  exact hk
theorem g_copy {a0 a n0 n1 : Nat} {f g : Nat → Int} {sp dp n : Int} (hlk : Cond.methodLink mi.1.cls idx arraycopyName ∈ GW) (d : De cc pc (.invokestatic idx) 3 pc') (hR : 1 ≤ mi.2.2.2.2.1 ∧ 60 ≤ mi.2.2.2.2.2.1) (hcat : (S.map fun v => v.category).sum ≤ 8) (hc0 : σ.2 a0 = some (ai n0 f)) (hc1 : σ.2 a = some (ai n1 g)) (h1 : 0 ≤ sp) (h2 : 0 ≤ dp) (h3 : 0 ≤ n) (h4 : sp + n ≤ n0) (h5 : dp + n ≤ n1) (kk : G Γ mi cc Q QX rc rs pc' L S (hput σ a (ai n1 (va_cpy f g sp.toNat dp.toNat n.toNat)))) : G Γ mi cc Q QX rc rs pc L (.int (ii n) :: .int (ii dp) :: .ref a :: .int (ii sp) :: .ref a0 :: S) σ := by
  intro p e R s m args below meth c H locs cells slots ls hΓ C hc hs hw hS hl
  obtain ⟨d, rfl⟩ := d
  have hWm := C.2.2.2.2.2.2.1
  have hR2 := C.2.2.2.2.2.2.2.1
  obtain ⟨-, c0, hA0, hRA0, hn0, hH0⟩ := hw.2.2.2 a0 _ hc0
  obtain ⟨ha, c1, hA1, hRA1, hn1, hH1⟩ := hw.2.2.2 a _ hc1
  have hn0 : n0 < 2 ^ 31 := hn0
  have hn1 : n1 < 2 ^ 31 := hn1
  have r1 : rg sp := ⟨by omega, by omega⟩
  have r2 : rg dp := ⟨by omega, by omega⟩
  have r3 : rg n := ⟨by omega, by omega⟩
  intro T hT X
  obtain ⟨-, k0, hk0, cm0, hkk0⟩ := (arrOfT_moved hWm.alike hA0) n0 (ac_v (.inl f))
  obtain ⟨-, k1, hk1, cm1, hkk1⟩ := (arrOfT_moved hWm.alike hA1) n1 (ac_v (.inl g))
  obtain ⟨vm', X', step⟩ := X.arraycopy C.1 C.2.2.2.1 (hΓ.w hlk _ _ hWm) (hΓ.w mw_cp.1 _ _ hWm) (hΓ.w mw_cp.2.1 _ _ hWm) (hΓ.w mw_cp.2.2 _ _ hWm) (src := a0) (dst := a) (cs := arrV c0 n0 (ac_v (.inl f))) (cd := arrV c1 n1 (ac_v (.inl g))) (srcPos := ii sp) (destPos := ii dp) (n := ii n) (by rw [hT]; exact hH0) (by rw [hT]; exact hH1)
    (fun _ h => by cases h) (fun _ h => by cases h) (fun h => by cases h) (fun h => by cases h) hk0 hk1 hkk0 hkk1 (by simp [refKind, ty_of]) (by rw [ii_ltz r1]; omega) (by rw [ii_ltz r2]; omega) (by rw [ii_ltz r3]; omega)
    (by rw [ii_toInt r1, ii_toInt r3, arrV_size]; omega)
    (by rw [ii_toInt r2, ii_toInt r3, arrV_size]; omega)
    (fun vm₁ _ i hi => by
      rw [ii_cl r3] at hi
      have e : (arrV c0 n0 (ac_v (.inl f))).slots.getD ((ii sp).toNatClampNeg + i) .null = .int (ii (f ((ii sp).toNatClampNeg + i))) := by
        rw [ii_cl r1, Array.getD_eq_getD_getElem?, arrV_read _ _ (by omega)]
        rfl
      refine ⟨?_, ?_⟩
      · rw [e]; rfl
      · rw [e]
        exact trivial)
    (g := F0 m pc ls (.int (ii n) :: .int (ii dp) :: .ref a :: .int (ii sp) :: .ref a0 :: S)) rfl (by rw [C.2.2.1, hl.2.1]) (rest := S) rfl (by rw [C.2.1]; exact d) (by omega) (by
      have e9 : nativeFrameWords "java/lang/System" "arraycopy" 5 + 11 ≤ 52 := by decide
      show 2 * 0 + _ + _ ≤ _
      omega)
  have e1 : copied (arrV c0 n0 (ac_v (.inl f))) (arrV c1 n1 (ac_v (.inl g))) (ii sp) (ii dp) (ii n) = arrV c1 n1 (ac_v (.inl (va_cpy f g sp.toNat dp.toNat n.toNat))) := by
    have := va_copied (fun z : Int => Value.int (ii z)) c0 c1 (n0 := n0) (n1 := n1) (sp := sp.toNat) (dp := dp.toNat) (n := n.toNat) f g (by omega)
    rw [← ii_cl r1, ← ii_cl r2, ← ii_cl r3] at this ⊢
    exact this
  rw [e1] at X' step
  have hl9 : a < H.size := (Array.getElem?_eq_some_iff.mp hH1).1
  have hheap : ((T.setVm vm').setCell a (arrV c1 n1 (ac_v (.inl (va_cpy f g sp.toNat dp.toNat n.toNat))))).heap = H.setIfInBounds a (arrV c1 n1 (ac_v (.inl (va_cpy f g sp.toNat dp.toNat n.toNat)))) := by rw [← hT]; rfl
  have oq : ∀ q : Nat, q ≠ a → (H.setIfInBounds a (arrV c1 n1 (ac_v (.inl (va_cpy f g sp.toNat dp.toNat n.toNat)))))[q]? = H[q]? := fun q hq => by simp [Array.getElem?_setIfInBounds, Ne.symm hq]
  obtain ⟨t, a1, b1⟩ := kk p e R s m args below meth c _ _ cells slots ls hΓ C hc hs (hw.put ha ⟨c1, hA1, hRA1, hn1, by simp [Array.getElem?_setIfInBounds, hl9]⟩ (by simp) oq) ⟨by simp; exact hS.1, fun q hq => by
      rcases List.mem_append.mp hq with h | h
      · exact hS.2 q h
      · obtain ⟨z, -, hz⟩ := List.mem_map.mp h
        rw [← hz]
        exact ha⟩ hl _ hheap X'
  exact ⟨t, step t a1, b1⟩
end GM
/-- fewer locals are known -/
theorem g_fo {Γ : GT} {mi : MI} {cc : ByteArray} {Q : Option Value → AH → Prop} {QX : String → AH → Prop} {rc rs pc : Nat} {L L2 : List (Option Value)} {S : List Value} {σ : AH} (k : G Γ mi cc Q QX rc rs pc L2 S σ) (hl : L2.length = L.length) (h : ∀ (i : Nat) (v : Value), L2[i]? = some (some v) → L[i]? = some (some v)) : G Γ mi cc Q QX rc rs pc L S σ := by
  intro p e R s m args below meth c H locs cells slots ls hΓ C hc hs hw hS hl9
  exact k p e R s m args below meth c H locs cells slots ls hΓ C hc hs hw hS ⟨hl.trans hl9.1, hl9.2.1, hl9.2.2.1, fun i v hv => hl9.2.2.2 i v (h i v hv)⟩
def lle : List (Option Value) → List (Option Value) → Prop
  | [], [] => True
  | none :: a, _ :: b => lle a b
  | some v :: a, w :: b => w = some v ∧ lle a b
  | _, _ => False
theorem lle_len : ∀ {a b : List (Option Value)}, lle a b → a.length = b.length
  | [], [], _ => rfl
  | none :: a, _ :: b, h => by simp [lle_len (a := a) (b := b) h]
  | some v :: a, w :: b, h => by simp [lle_len (a := a) (b := b) h.2]
  | [], _ :: _, h => h.elim
  | none :: _, [], h => h.elim
  | some _ :: _, [], h => h.elim
theorem lle_get : ∀ {a b : List (Option Value)}, lle a b → ∀ (i : Nat) (v : Value), a[i]? = some (some v) → b[i]? = some (some v)
  | [], [], _, i, v, h => h
  | none :: a, _ :: b, h, 0, v, hv => by simp at hv
  | none :: a, _ :: b, h, i + 1, v, hv => by simpa using lle_get (a := a) (b := b) h i v (by simpa using hv)
  | some x :: a, w :: b, h, 0, v, hv => by simp at hv; subst hv; simp [h.1]
  | some x :: a, w :: b, h, i + 1, v, hv => by simpa using lle_get (a := a) (b := b) h.2 i v (by simpa using hv)
  | [], _ :: _, h, _, _, _ => h.elim
  | none :: _, [], h, _, _, _ => h.elim
  | some _ :: _, [], h, _, _, _ => h.elim
/-- fewer locals are known: by 'g_fl k (by simp [lle])', or 'by exact ⟨rfl, ..⟩' -/
theorem g_fl {Γ : GT} {mi : MI} {cc : ByteArray} {Q : Option Value → AH → Prop} {QX : String → AH → Prop} {rc rs pc : Nat} {L L2 : List (Option Value)} {S : List Value} {σ : AH} (k : G Γ mi cc Q QX rc rs pc L2 S σ) (h : lle L2 L) : G Γ mi cc Q QX rc rs pc L S σ := g_fo k (lle_len h) (lle_get h)
theorem arrV_cong (cI : ClassId) {N : Nat} {f g : Nat → Value} (h : ∀ j, j < N → f j = g j) : arrV cI N f = arrV cI N g := by
  unfold arrV
  congr 2
  funext j
  exact h j.val j.isLt
/-- the same cells, said by another function -/
theorem g_repI {Γ : GT} {mi : MI} {cc : ByteArray} {Q : Option Value → AH → Prop} {QX : String → AH → Prop} {rc rs pc : Nat} {L : List (Option Value)} {S : List Value} {σ : AH} {t a n : Nat} {f f' : Nat → Int} (h : σ.2 a = some (.inr (t, n, .inl f))) (e : ∀ k, k < n → f k = f' k) (k : G Γ mi cc Q QX rc rs pc L S (hput σ a (.inr (t, n, .inl f')))) : G Γ mi cc Q QX rc rs pc L S σ := by
  intro p e9 R s m args below meth c H locs cells slots ls hΓ C hc hs hw hS hl
  obtain ⟨ha, cA, h1, h2, h3, h4⟩ := hw.2.2.2 a _ h
  exact k p e9 R s m args below meth c H locs cells slots ls hΓ C hc hs (hw.put ha ⟨cA, h1, h2, h3, by rw [h4]; exact congrArg some (arrV_cong cA fun j hj => by show Value.int (ii (f j)) = Value.int (ii (f' j)); rw [e j hj])⟩ rfl (fun _ _ => rfl)) hS hl
theorem g_repJ {Γ : GT} {mi : MI} {cc : ByteArray} {Q : Option Value → AH → Prop} {QX : String → AH → Prop} {rc rs pc : Nat} {L : List (Option Value)} {S : List Value} {σ : AH} {t a n : Nat} {f f' : Nat → BitVec 64} (h : σ.2 a = some (.inr (t, n, .inr (.inl f)))) (e : ∀ k, k < n → f k = f' k) (k : G Γ mi cc Q QX rc rs pc L S (hput σ a (.inr (t, n, .inr (.inl f'))))) : G Γ mi cc Q QX rc rs pc L S σ := by
  intro p e9 R s m args below meth c H locs cells slots ls hΓ C hc hs hw hS hl
  obtain ⟨ha, cA, h1, h2, h3, h4⟩ := hw.2.2.2 a _ h
  exact k p e9 R s m args below meth c H locs cells slots ls hΓ C hc hs (hw.put ha ⟨cA, h1, h2, h3, by rw [h4]; exact congrArg some (arrV_cong cA fun j hj => by show Value.long (lb (f j)) = Value.long (lb (f' j)); rw [e j hj])⟩ rfl (fun _ _ => rfl)) hS hl
/-! what a method answers, and how a call goes on -/
def ri (z : Int) (σ0 : AH) : Option Value → AH → Prop := fun r σ' => r = some (.int (ii z)) ∧ σ' = σ0
def bi (b : Bool) : Int := if b then 1 else 0
def rb (b : Bool) (σ0 : AH) : Option Value → AH → Prop := fun r σ' => r = some (.int (ii (bi b))) ∧ σ' = σ0
def rv (σ0 : AH) : Option Value → AH → Prop := fun r σ' => r = none ∧ σ' = σ0
theorem k_ri {Γ : GT} {mi : MI} {cc : ByteArray} {Q : Option Value → AH → Prop} {QX : String → AH → Prop} {rc rs pc : Nat} {L : List (Option Value)} {S : List Value} {σ1 : AH} {z : Int} (k : G Γ mi cc Q QX rc rs pc L (.int (ii z) :: S) σ1) : ∀ v σ', ri z σ1 v σ' → G Γ mi cc Q QX rc rs pc L (v.toList ++ S) σ' := by
  rintro _ _ ⟨rfl, rfl⟩
  exact k
theorem k_rb {Γ : GT} {mi : MI} {cc : ByteArray} {Q : Option Value → AH → Prop} {QX : String → AH → Prop} {rc rs pc : Nat} {L : List (Option Value)} {S : List Value} {σ1 : AH} {b : Bool} (k : G Γ mi cc Q QX rc rs pc L (.int (ii (bi b)) :: S) σ1) : ∀ v σ', rb b σ1 v σ' → G Γ mi cc Q QX rc rs pc L (v.toList ++ S) σ' := by
  rintro _ _ ⟨rfl, rfl⟩
  exact k
theorem k_rv {Γ : GT} {mi : MI} {cc : ByteArray} {Q : Option Value → AH → Prop} {QX : String → AH → Prop} {rc rs pc : Nat} {L : List (Option Value)} {S : List Value} {σ1 : AH} (k : G Γ mi cc Q QX rc rs pc L S σ1) : ∀ v σ', rv σ1 v σ' → G Γ mi cc Q QX rc rs pc L (v.toList ++ S) σ' := by
  rintro _ _ ⟨rfl, rfl⟩
  exact k
theorem bi_01 (b : Bool) : bi b = 0 ∨ bi b = 1 := by cases b <;> simp [bi]
theorem bi_rg (b : Bool) : rg (bi b) := by cases b <;> exact ⟨by decide, by decide⟩
theorem g_loop2 {β γ : Type} (P J : β → γ → Prop) (μ : β → γ → Nat) (h : ∀ b c, P b c → (∀ b' c', P b' c' → μ b' c' < μ b c → J b' c') → J b c) : ∀ b c, P b c → J b c := by
  have key : ∀ n b c, μ b c = n → P b c → J b c := by
    intro n
    induction n using Nat.strongRecOn with
    | ind n ih =>
      intro b c hb hP
      exact h b c hP fun b' c' h1 h2 => ih (μ b' c') (by omega) b' c' rfl h1
  exact fun b c hP => key _ b c rfl hP
theorem g_loop {β : Type} (P J : β → Prop) (μ : β → Nat) (h : ∀ b, P b → (∀ b', P b' → μ b' < μ b → J b') → J b) : ∀ b, P b → J b := by
  have key : ∀ n b, μ b = n → P b → J b := by
    intro n
    induction n using Nat.strongRecOn with
    | ind n ih =>
      intro b hb hP
      exact h b hP fun b' h1 h2 => ih (μ b') (by omega) b' rfl h1
  exact fun b hP => key _ b rfl hP

