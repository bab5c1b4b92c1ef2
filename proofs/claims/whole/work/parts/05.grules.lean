/-! numbers -/
def rg (z : Int) : Prop := -2147483648 ≤ z ∧ z < 2147483648
theorem ii_toInt {z : Int} (h : rg z) : (ii z).toInt = z := Int32.toInt_ofInt_of_le h.1 h.2
theorem ii_of (x : Int32) : x = ii x.toInt := (Int32.ofInt_toInt x).symm
theorem rg_of (x : Int32) : rg x.toInt := ⟨Int32.le_toInt x, Int32.toInt_lt x⟩
theorem ii_add (a b : Int) : ii a + ii b = ii (a + b) := (Int32.ofInt_add a b).symm
theorem ii_sub (a b : Int) : ii a - ii b = ii (a - b) := (Int32.ofInt_sub a b).symm
theorem ii_mul (a b : Int) : ii a * ii b = ii (a * b) := (Int32.ofInt_mul a b).symm
theorem ii_neg (a : Int) : -ii a = ii (-a) := (Int32.ofInt_neg a).symm
theorem ii_eq {a b : Int} (ha : rg a) (hb : rg b) : ii a = ii b ↔ a = b := by
  rw [← Int32.toInt_inj, ii_toInt ha, ii_toInt hb]
theorem ii_lt {a b : Int} (ha : rg a) (hb : rg b) : ii a < ii b ↔ a < b := by
  rw [Int32.lt_iff_toInt_lt, ii_toInt ha, ii_toInt hb]
theorem ii_le {a b : Int} (ha : rg a) (hb : rg b) : ii a ≤ ii b ↔ a ≤ b := by
  rw [Int32.le_iff_toInt_le, ii_toInt ha, ii_toInt hb]
theorem rg0 : rg 0 := ⟨by decide, by decide⟩
theorem ii_z {a : Int} (ha : rg a) : ii a = 0 ↔ a = 0 := ii_eq ha rg0
theorem ii_ltz {a : Int} (ha : rg a) : ii a < 0 ↔ a < 0 := ii_lt ha rg0
theorem ii_lez {a : Int} (ha : rg a) : ii a ≤ 0 ↔ a ≤ 0 := ii_le ha rg0
theorem ii_zlt {a : Int} (ha : rg a) : 0 < ii a ↔ 0 < a := ii_lt rg0 ha
theorem ii_zle {a : Int} (ha : rg a) : 0 ≤ ii a ↔ 0 ≤ a := ii_le rg0 ha
theorem ii_div {a b : Int} (ha : rg a) (hb : rg b) (h : 0 < b) : ii a / ii b = ii (a.tdiv b) := by
  refine Int32.toInt_inj.mp ?_
  rw [Int32.toInt_div, ii_toInt ha, ii_toInt hb]
  exact Int32.toInt_ofInt.symm
theorem ii_rem {a b : Int} (ha : rg a) (hb : rg b) (h : 0 < b) : ii a - ii a / ii b * ii b = ii (a.tmod b) := by
  refine Int32.toInt_inj.mp ?_
  rw [rem_toInt, ii_toInt ha, ii_toInt hb]
  refine (ii_toInt ?_).symm
  obtain ⟨h1, h2⟩ := hb
  have := tmod_bounds (a := a) h
  constructor <;> omega
theorem ii_cl {a : Int} (ha : rg a) : (ii a).toNatClampNeg = a.toNat := Int32.toNatClampNeg_ofInt_of_le ha.1 ha.2
theorem ii_in {a : Int} {n : Nat} (h0 : 0 ≤ a) (h1 : a < n) (hn : n < 2 ^ 31) : ¬ (ii a < 0 ∨ n ≤ (ii a).toNatClampNeg) := by
  have ha : rg a := ⟨by omega, by omega⟩
  rw [ii_ltz ha, ii_cl ha]
  omega
theorem lb_toInt (b : BitVec 64) : (lb b).toInt = b.toInt := rfl
theorem lb_of (x : Int64) : x = lb x.toBitVec := rfl
theorem lb_and (a b : BitVec 64) : lb a &&& lb b = lb (a &&& b) := rfl
theorem lb_or (a b : BitVec 64) : lb a ||| lb b = lb (a ||| b) := rfl
theorem lb_xor (a b : BitVec 64) : lb a ^^^ lb b = lb (a ^^^ b) := rfl
theorem lb_add (a b : BitVec 64) : lb a + lb b = lb (a + b) := rfl
theorem lb_sub (a b : BitVec 64) : lb a - lb b = lb (a - b) := rfl
theorem lb_mul (a b : BitVec 64) : lb a * lb b = lb (a * b) := rfl
def lcm (a b : BitVec 64) : Int := if b.slt a then 1 else if a = b then 0 else -1
theorem lb_cmp (a b : BitVec 64) : lg_cmp (lb a) (lb b) = ii (lcm a b) := by
  have h1 : (lb a > lb b) ↔ b.slt a = true := Iff.rfl
  have h2 : (lb a = lb b) ↔ a = b := ⟨fun h => congrArg Int64.toBitVec h, fun h => by rw [h]⟩
  unfold lg_cmp lcm
  by_cases q1 : b.slt a = true
  · rw [if_pos (h1.mpr q1), if_pos q1]; rfl
  · rw [if_neg (fun q => q1 (h1.mp q)), if_neg q1]
    by_cases q2 : a = b
    · rw [if_pos (h2.mpr q2), if_pos q2]; rfl
    · rw [if_neg (fun q => q2 (h2.mp q)), if_neg q2]; rfl
theorem lb_shl {a : BitVec 64} {k : Int} (h0 : 0 ≤ k) (h1 : k < 64) : lb a <<< ((ii k).toInt64 &&& 63) = lb (a <<< k.toNat) := by
  obtain ⟨n, rfl⟩ := Int.eq_ofNat_of_zero_le h0
  have hn : n < 64 := by omega
  have key : ∀ n : Fin 64, ((ii ((n : Nat) : Int)).toInt64 &&& 63).toBitVec.smod 64 = BitVec.ofNat 64 (n : Nat) := by decide +kernel
  have k9 := key ⟨n, hn⟩
  refine Int64.toBitVec_inj.mp ?_
  rw [Int64.toBitVec_shiftLeft]
  show (a <<< _) = _
  rw [show ((ii (n : Int)).toInt64 &&& 63).toBitVec.smod 64 = BitVec.ofNat 64 n from k9]
  show a <<< (BitVec.ofNat 64 n) = a <<< ((n : Int).toNat)
  rw [BitVec.shiftLeft_eq', BitVec.toNat_ofNat, Nat.mod_eq_of_lt (by omega)]
  rfl
theorem lb_ushr {a : BitVec 64} {k : Int} (h0 : 0 ≤ k) (h1 : k < 64) : ((lb a).toUInt64 >>> ((ii k).toInt64.toUInt64 &&& Int64.toUInt64 63)).toInt64 = lb (a >>> k.toNat) := by
  obtain ⟨n, rfl⟩ := Int.eq_ofNat_of_zero_le h0
  have hn : n < 64 := by omega
  have key : ∀ n : Fin 64, ((ii ((n : Nat) : Int)).toInt64.toUInt64 &&& Int64.toUInt64 63) = UInt64.ofNat (n : Nat) := by decide +kernel
  have k9 := key ⟨n, hn⟩
  rw [show ((ii (n : Int)).toInt64.toUInt64 &&& Int64.toUInt64 63) = UInt64.ofNat n from k9]
  refine Int64.toBitVec_inj.mp ?_
  show (UInt64.ofBitVec a >>> UInt64.ofNat n).toBitVec = a >>> n
  rw [UInt64.toBitVec_shiftRight]
  refine BitVec.eq_of_toNat_eq ?_
  simp [BitVec.toNat_ushiftRight, UInt64.toNat_ofNat']
  rw [Nat.mod_eq_of_lt hn]
theorem ii_l {a : Int} (h : rg a) : (ii a).toInt64 = lb (BitVec.ofInt 64 a) := by
  have h1 : Int64.ofInt a = lb (BitVec.ofInt 64 a) := rfl
  rw [← h1]
  exact Int32.toInt64_ofInt (by have := h.1; exact this) (by have := h.2; show a ≤ 2147483647; omega)
theorem lb_i (b : BitVec 64) : (lb b).toInt32 = ii b.toInt := by
  have h1 : lb b = Int64.ofInt b.toInt := (Int64.ofInt_toInt (lb b)).symm
  rw [h1, Int64.toInt32_ofInt]; rfl
theorem ii_c {a : Int} (h0 : 0 ≤ a) (h1 : a < 65536) : ((ii a).toUInt32 % 65536).toInt32 = ii a := by
  obtain ⟨n, rfl⟩ := Int.eq_ofNat_of_zero_le h0
  have h2 : ii (n : Int) = nI n := rfl
  rw [h2, pk_char, pk_tn (by omega)]
  congr 1
  omega
/-! one rule an instruction -/
def De (cc : ByteArray) (pc : Nat) (i : Instr) (n pc' : Nat) : Prop := decode cc pc = .ok (i, n) ∧ pc + n = pc'
section GR
variable {Γ : GT} {mi : MI} {cc : ByteArray} {Q : Option Value → AH → Prop} {QX : String → AH → Prop} {rc rs pc pc' tgt : Nat} {L L' : List (Option Value)} {S : List Value} {σ : AH}
theorem g_top {v v' : Value} (h : v = v') (k : G Γ mi cc Q QX rc rs pc L (v' :: S) σ) : G Γ mi cc Q QX rc rs pc L (v :: S) σ := h ▸ k
theorem g_topi {a b : Int} (h : a = b) (k : G Γ mi cc Q QX rc rs pc L (.int (ii b) :: S) σ) : G Γ mi cc Q QX rc rs pc L (.int (ii a) :: S) σ := h ▸ k
theorem g_eq {L2 : List (Option Value)} {S2 : List Value} {σ2 : AH} (h1 : L = L2) (h2 : S = S2) (h3 : σ = σ2) (k : G Γ mi cc Q QX rc rs pc L2 S2 σ2) : G Γ mi cc Q QX rc rs pc L S σ := by subst h1; subst h2; subst h3; exact k
theorem g_less {rc' rs' : Nat} (h1 : rc' ≤ rc) (h2 : rs' ≤ rs) (k : G Γ mi cc Q QX rc' rs' pc L S σ) : G Γ mi cc Q QX rc rs pc L S σ := by
  intro p e R s m args below meth c H locs cells slots ls hΓ C hc hs hw hS hl
  exact k p e R s m args below meth c H locs cells slots ls hΓ C (by omega) (by omega) hw hS hl
theorem g_iconst {n : Int} (d : De cc pc (.iconst n) 1 pc') (kk : G Γ mi cc Q QX rc rs pc' L (.int (ii n) :: S) σ) : G Γ mi cc Q QX rc rs pc L S σ := by
  intro p e R s m args below meth c H locs cells slots ls hΓ C hc hs hw hS hl
  obtain ⟨d, rfl⟩ := d
  have hk := kk p e R s m args below meth c H locs cells slots ls hΓ C hc hs hw hS hl
  exact lv_iconst C.1 C.2.1 d rfl hk
theorem g_bipush {n : Int} (d : De cc pc (.bipush n) 2 pc') (hv : (Int8.ofInt n).toInt32 = ii n) (kk : G Γ mi cc Q QX rc rs pc' L (.int (ii n) :: S) σ) : G Γ mi cc Q QX rc rs pc L S σ := by
  intro p e R s m args below meth c H locs cells slots ls hΓ C hc hs hw hS hl
  obtain ⟨d, rfl⟩ := d
  have hk := kk p e R s m args below meth c H locs cells slots ls hΓ C hc hs hw hS hl
  exact lv_bipush C.1 C.2.1 d hv hk
theorem g_sipush {n : Int} (d : De cc pc (.sipush n) 3 pc') (hv : (Int16.ofInt n).toInt32 = ii n) (kk : G Γ mi cc Q QX rc rs pc' L (.int (ii n) :: S) σ) : G Γ mi cc Q QX rc rs pc L S σ := by
  intro p e R s m args below meth c H locs cells slots ls hΓ C hc hs hw hS hl
  obtain ⟨d, rfl⟩ := d
  have hk := kk p e R s m args below meth c H locs cells slots ls hΓ C hc hs hw hS hl
  exact lv_sipush C.1 C.2.1 d hv hk
theorem g_lconst {n : Fin 2} (d : De cc pc (.lconst n) 1 pc') (kk : G Γ mi cc Q QX rc rs pc' L (.long (lb (BitVec.ofNat 64 n)) :: S) σ) : G Γ mi cc Q QX rc rs pc L S σ := by
  intro p e R s m args below meth c H locs cells slots ls hΓ C hc hs hw hS hl
  obtain ⟨d, rfl⟩ := d
  have hk := kk p e R s m args below meth c H locs cells slots ls hΓ C hc hs hw hS hl
  exact lv_lconst C.1 C.2.1 d rfl hk
theorem g_null (d : De cc pc (.aconst_null) 1 pc') (kk : G Γ mi cc Q QX rc rs pc' L (.null :: S) σ) : G Γ mi cc Q QX rc rs pc L S σ := by
  intro p e R s m args below meth c H locs cells slots ls hΓ C hc hs hw hS hl
  obtain ⟨d, rfl⟩ := d
  have hk := kk p e R s m args below meth c H locs cells slots ls hΓ C hc hs hw hS hl
  exact lv_null C.1 C.2.1 d hk
theorem g_ldc {idx : Nat} {v : Int32} {z : Int} (d : De cc pc (.ldc idx) 2 pc') (hw9 : Cond.constant mi.1.cls idx v ∈ GW) (hz : ii z = v) (kk : G Γ mi cc Q QX rc rs pc' L (.int (ii z) :: S) σ) : G Γ mi cc Q QX rc rs pc L S σ := by
  intro p e R s m args below meth c H locs cells slots ls hΓ C hc hs hw hS hl
  obtain ⟨d, rfl⟩ := d
  have hk := kk p e R s m args below meth c H locs cells slots ls hΓ C hc hs hw hS hl
  exact lv_ldc C.1 C.2.1 C.2.2.2.1 (hΓ.w hw9 _ _ C.2.2.2.2.2.2.1) d (hz ▸ hk)
theorem g_ldc2 {idx : Nat} {v : Int64} {b : BitVec 64} (d : De cc pc (.ldc2_w idx) 3 pc') (hw9 : Cond.constantLong mi.1.cls idx v ∈ GW) (hz : lb b = v) (kk : G Γ mi cc Q QX rc rs pc' L (.long (lb b) :: S) σ) : G Γ mi cc Q QX rc rs pc L S σ := by
  intro p e R s m args below meth c H locs cells slots ls hΓ C hc hs hw hS hl
  obtain ⟨d, rfl⟩ := d
  have hk := kk p e R s m args below meth c H locs cells slots ls hΓ C hc hs hw hS hl
  exact lv_ldc2 C.1 C.2.1 C.2.2.2.1 (hΓ.w hw9 _ _ C.2.2.2.2.2.2.1) d (hz ▸ hk)
theorem g_iload_n {k : Fin 4} {x : Int32} (d : De cc pc (.iload_n k) 1 pc') (hv : L[(k : Nat)]? = some (some (.int x))) (kk : G Γ mi cc Q QX rc rs pc' L (.int x :: S) σ) : G Γ mi cc Q QX rc rs pc L S σ := by
  intro p e R s m args below meth c H locs cells slots ls hΓ C hc hs hw hS hl
  obtain ⟨d, rfl⟩ := d
  have hk := kk p e R s m args below meth c H locs cells slots ls hΓ C hc hs hw hS hl
  exact lv_iload_n C.1 C.2.1 d rfl (hl.2.2.2 _ _ hv) hk
theorem g_iload {i : Nat} {x : Int32} (d : De cc pc (.iload i) 2 pc') (hv : L[i]? = some (some (.int x))) (kk : G Γ mi cc Q QX rc rs pc' L (.int x :: S) σ) : G Γ mi cc Q QX rc rs pc L S σ := by
  intro p e R s m args below meth c H locs cells slots ls hΓ C hc hs hw hS hl
  obtain ⟨d, rfl⟩ := d
  have hk := kk p e R s m args below meth c H locs cells slots ls hΓ C hc hs hw hS hl
  exact lv_iload C.1 C.2.1 d (hl.2.2.2 _ _ hv) hk
theorem g_lload_n {k : Fin 4} {x : Int64} (d : De cc pc (.lload_n k) 1 pc') (hv : L[(k : Nat)]? = some (some (.long x))) (kk : G Γ mi cc Q QX rc rs pc' L (.long x :: S) σ) : G Γ mi cc Q QX rc rs pc L S σ := by
  intro p e R s m args below meth c H locs cells slots ls hΓ C hc hs hw hS hl
  obtain ⟨d, rfl⟩ := d
  have hk := kk p e R s m args below meth c H locs cells slots ls hΓ C hc hs hw hS hl
  exact lv_lload_n C.1 C.2.1 d rfl (hl.2.2.2 _ _ hv) hk
theorem g_lload {i : Nat} {x : Int64} (d : De cc pc (.lload i) 2 pc') (hv : L[i]? = some (some (.long x))) (kk : G Γ mi cc Q QX rc rs pc' L (.long x :: S) σ) : G Γ mi cc Q QX rc rs pc L S σ := by
  intro p e R s m args below meth c H locs cells slots ls hΓ C hc hs hw hS hl
  obtain ⟨d, rfl⟩ := d
  have hk := kk p e R s m args below meth c H locs cells slots ls hΓ C hc hs hw hS hl
  exact lv_lload C.1 C.2.1 d (hl.2.2.2 _ _ hv) hk
theorem g_aload_n {k : Fin 4} {x : Nat} (d : De cc pc (.aload_n k) 1 pc') (hv : L[(k : Nat)]? = some (some (.ref x))) (kk : G Γ mi cc Q QX rc rs pc' L (.ref x :: S) σ) : G Γ mi cc Q QX rc rs pc L S σ := by
  intro p e R s m args below meth c H locs cells slots ls hΓ C hc hs hw hS hl
  obtain ⟨d, rfl⟩ := d
  have hk := kk p e R s m args below meth c H locs cells slots ls hΓ C hc hs hw hS hl
  exact lv_aload_n C.1 C.2.1 d rfl (hl.2.2.2 _ _ hv) hk
theorem g_aload {i : Nat} {x : Nat} (d : De cc pc (.aload i) 2 pc') (hv : L[i]? = some (some (.ref x))) (kk : G Γ mi cc Q QX rc rs pc' L (.ref x :: S) σ) : G Γ mi cc Q QX rc rs pc L S σ := by
  intro p e R s m args below meth c H locs cells slots ls hΓ C hc hs hw hS hl
  obtain ⟨d, rfl⟩ := d
  have hk := kk p e R s m args below meth c H locs cells slots ls hΓ C hc hs hw hS hl
  exact lv_aload C.1 C.2.1 d (hl.2.2.2 _ _ hv) hk
theorem g_aload_nN {k : Fin 4} (d : De cc pc (.aload_n k) 1 pc') (hv : L[(k : Nat)]? = some (some .null)) (kk : G Γ mi cc Q QX rc rs pc' L (.null :: S) σ) : G Γ mi cc Q QX rc rs pc L S σ := by
  intro p e R s m args below meth c H locs cells slots ls hΓ C hc hs hw hS hl
  obtain ⟨d, rfl⟩ := d
  have hk := kk p e R s m args below meth c H locs cells slots ls hΓ C hc hs hw hS hl
  exact lv_aload_nN C.1 C.2.1 d rfl (hl.2.2.2 _ _ hv) hk
theorem g_aloadN {i : Nat} (d : De cc pc (.aload i) 2 pc') (hv : L[i]? = some (some .null)) (kk : G Γ mi cc Q QX rc rs pc' L (.null :: S) σ) : G Γ mi cc Q QX rc rs pc L S σ := by
  intro p e R s m args below meth c H locs cells slots ls hΓ C hc hs hw hS hl
  obtain ⟨d, rfl⟩ := d
  have hk := kk p e R s m args below meth c H locs cells slots ls hΓ C hc hs hw hS hl
  exact lv_aloadN C.1 C.2.1 d (hl.2.2.2 _ _ hv) hk
theorem g_istore_n {k : Fin 4} {x : Int32} (d : De cc pc (.istore_n k) 1 pc') (hi : (k : Nat) < mi.2.2.1) (hL : lset1 L (k : Nat) (.int x) = L') (kk : G Γ mi cc Q QX rc rs pc' L' S σ) : G Γ mi cc Q QX rc rs pc L (.int x :: S) σ := by
  intro p e R s m args below meth c H locs cells slots ls hΓ C hc hs hw hS hl
  obtain ⟨d, rfl⟩ := d
  subst hL
  exact lv_istore_n C.1 C.2.1 d rfl hl.toPrs hi rfl (fun ls2 hl2 => kk p e R s m args below meth c H locs cells slots ls2 hΓ C hc hs hw hS (lh.st1 hl.1 hi hl2))
theorem g_istore {i : Nat} {x : Int32} (d : De cc pc (.istore i) 2 pc') (hi : i < mi.2.2.1) (hL : lset1 L i (.int x) = L') (kk : G Γ mi cc Q QX rc rs pc' L' S σ) : G Γ mi cc Q QX rc rs pc L (.int x :: S) σ := by
  intro p e R s m args below meth c H locs cells slots ls hΓ C hc hs hw hS hl
  obtain ⟨d, rfl⟩ := d
  subst hL
  exact lv_istore C.1 C.2.1 d hl.toPrs hi rfl (fun ls2 hl2 => kk p e R s m args below meth c H locs cells slots ls2 hΓ C hc hs hw hS (lh.st1 hl.1 hi hl2))
theorem g_lstore_n {k : Fin 4} {x : Int64} (d : De cc pc (.lstore_n k) 1 pc') (hi : (k : Nat) + 1 < mi.2.2.1) (hL : lset2 L (k : Nat) (.long x) = L') (kk : G Γ mi cc Q QX rc rs pc' L' S σ) : G Γ mi cc Q QX rc rs pc L (.long x :: S) σ := by
  intro p e R s m args below meth c H locs cells slots ls hΓ C hc hs hw hS hl
  obtain ⟨d, rfl⟩ := d
  subst hL
  exact lv_lstore_n C.1 C.2.1 d rfl hl.toPrs hi rfl (fun ls2 hl2 => kk p e R s m args below meth c H locs cells slots ls2 hΓ C hc hs hw hS (lh.st2 hl.1 hi hl2))
theorem g_lstore {i : Nat} {x : Int64} (d : De cc pc (.lstore i) 2 pc') (hi : i + 1 < mi.2.2.1) (hL : lset2 L i (.long x) = L') (kk : G Γ mi cc Q QX rc rs pc' L' S σ) : G Γ mi cc Q QX rc rs pc L (.long x :: S) σ := by
  intro p e R s m args below meth c H locs cells slots ls hΓ C hc hs hw hS hl
  obtain ⟨d, rfl⟩ := d
  subst hL
  exact lv_lstore C.1 C.2.1 d hl.toPrs hi rfl (fun ls2 hl2 => kk p e R s m args below meth c H locs cells slots ls2 hΓ C hc hs hw hS (lh.st2 hl.1 hi hl2))
theorem g_astore_n {k : Fin 4} {x : Nat} (d : De cc pc (.astore_n k) 1 pc') (hi : (k : Nat) < mi.2.2.1) (hL : lset1 L (k : Nat) (.ref x) = L') (kk : G Γ mi cc Q QX rc rs pc' L' S σ) : G Γ mi cc Q QX rc rs pc L (.ref x :: S) σ := by
  intro p e R s m args below meth c H locs cells slots ls hΓ C hc hs hw hS hl
  obtain ⟨d, rfl⟩ := d
  subst hL
  exact lv_astore_n C.1 C.2.1 d rfl hl.toPrs hi rfl (fun ls2 hl2 => kk p e R s m args below meth c H locs cells slots ls2 hΓ C hc hs hw hS (lh.st1 hl.1 hi hl2))
theorem g_astore {i : Nat} {x : Nat} (d : De cc pc (.astore i) 2 pc') (hi : i < mi.2.2.1) (hL : lset1 L i (.ref x) = L') (kk : G Γ mi cc Q QX rc rs pc' L' S σ) : G Γ mi cc Q QX rc rs pc L (.ref x :: S) σ := by
  intro p e R s m args below meth c H locs cells slots ls hΓ C hc hs hw hS hl
  obtain ⟨d, rfl⟩ := d
  subst hL
  exact lv_astore C.1 C.2.1 d hl.toPrs hi rfl (fun ls2 hl2 => kk p e R s m args below meth c H locs cells slots ls2 hΓ C hc hs hw hS (lh.st1 hl.1 hi hl2))
theorem g_astore_nN {k : Fin 4} (d : De cc pc (.astore_n k) 1 pc') (hi : (k : Nat) < mi.2.2.1) (hL : lset1 L (k : Nat) (.null) = L') (kk : G Γ mi cc Q QX rc rs pc' L' S σ) : G Γ mi cc Q QX rc rs pc L (.null :: S) σ := by
  intro p e R s m args below meth c H locs cells slots ls hΓ C hc hs hw hS hl
  obtain ⟨d, rfl⟩ := d
  subst hL
  exact lv_astore_nN C.1 C.2.1 d rfl hl.toPrs hi rfl (fun ls2 hl2 => kk p e R s m args below meth c H locs cells slots ls2 hΓ C hc hs hw hS (lh.st1 hl.1 hi hl2))
theorem g_astoreN {i : Nat} (d : De cc pc (.astore i) 2 pc') (hi : i < mi.2.2.1) (hL : lset1 L i (.null) = L') (kk : G Γ mi cc Q QX rc rs pc' L' S σ) : G Γ mi cc Q QX rc rs pc L (.null :: S) σ := by
  intro p e R s m args below meth c H locs cells slots ls hΓ C hc hs hw hS hl
  obtain ⟨d, rfl⟩ := d
  subst hL
  exact lv_astoreN C.1 C.2.1 d hl.toPrs hi rfl (fun ls2 hl2 => kk p e R s m args below meth c H locs cells slots ls2 hΓ C hc hs hw hS (lh.st1 hl.1 hi hl2))
theorem g_iinc {i : Nat} {n z : Int} (d : De cc pc (.iinc i n) 3 pc') (hv : L[i]? = some (some (.int (ii z)))) (hL : lset1 L i (.int (ii (z + n))) = L') (kk : G Γ mi cc Q QX rc rs pc' L' S σ) : G Γ mi cc Q QX rc rs pc L S σ := by
  intro p e R s m args below meth c H locs cells slots ls hΓ C hc hs hw hS hl
  obtain ⟨d, rfl⟩ := d
  subst hL
  have hi : i < mi.2.2.1 := by rw [← hl.1]; exact (List.getElem?_eq_some_iff.mp hv).1
  obtain ⟨k9, hk9⟩ := List.getElem?_of_mem (prs_mem.mpr hv)
  exact lv_iinc C.1 C.2.1 d hl.toPrs hk9 (ii_add z n) hi rfl (fun ls2 hl2 => kk p e R s m args below meth c H locs cells slots ls2 hΓ C hc hs hw hS (lh.st1 hl.1 hi hl2))
theorem g_iadd {a b : Int} (d : De cc pc (.iadd) 1 pc') (kk : G Γ mi cc Q QX rc rs pc' L (.int (ii (a + b)) :: S) σ) : G Γ mi cc Q QX rc rs pc L (.int (ii b) :: .int (ii a) :: S) σ := by
  intro p e R s m args below meth c H locs cells slots ls hΓ C hc hs hw hS hl
  obtain ⟨d, rfl⟩ := d
  have hk := kk p e R s m args below meth c H locs cells slots ls hΓ C hc hs hw hS hl
  rw [← ii_add] at hk
  exact lv_iadd C.1 C.2.1 d hk
theorem g_isub {a b : Int} (d : De cc pc (.isub) 1 pc') (kk : G Γ mi cc Q QX rc rs pc' L (.int (ii (a - b)) :: S) σ) : G Γ mi cc Q QX rc rs pc L (.int (ii b) :: .int (ii a) :: S) σ := by
  intro p e R s m args below meth c H locs cells slots ls hΓ C hc hs hw hS hl
  obtain ⟨d, rfl⟩ := d
  have hk := kk p e R s m args below meth c H locs cells slots ls hΓ C hc hs hw hS hl
  rw [← ii_sub] at hk
  exact lv_isub C.1 C.2.1 d hk
theorem g_imul {a b : Int} (d : De cc pc (.imul) 1 pc') (kk : G Γ mi cc Q QX rc rs pc' L (.int (ii (a * b)) :: S) σ) : G Γ mi cc Q QX rc rs pc L (.int (ii b) :: .int (ii a) :: S) σ := by
  intro p e R s m args below meth c H locs cells slots ls hΓ C hc hs hw hS hl
  obtain ⟨d, rfl⟩ := d
  have hk := kk p e R s m args below meth c H locs cells slots ls hΓ C hc hs hw hS hl
  rw [← ii_mul] at hk
  exact lv_imul C.1 C.2.1 d hk
theorem g_ineg {a : Int} (d : De cc pc (.ineg) 1 pc') (kk : G Γ mi cc Q QX rc rs pc' L (.int (ii (-a)) :: S) σ) : G Γ mi cc Q QX rc rs pc L (.int (ii a) :: S) σ := by
  intro p e R s m args below meth c H locs cells slots ls hΓ C hc hs hw hS hl
  obtain ⟨d, rfl⟩ := d
  have hk := kk p e R s m args below meth c H locs cells slots ls hΓ C hc hs hw hS hl
  rw [← ii_neg] at hk
  exact lv_ineg C.1 C.2.1 d hk
theorem g_idiv {a b : Int} (d : De cc pc (.idiv) 1 pc') (ha : rg a) (hb : rg b) (h0 : 0 < b) (kk : G Γ mi cc Q QX rc rs pc' L (.int (ii (a.tdiv b)) :: S) σ) : G Γ mi cc Q QX rc rs pc L (.int (ii b) :: .int (ii a) :: S) σ := by
  intro p e R s m args below meth c H locs cells slots ls hΓ C hc hs hw hS hl
  obtain ⟨d, rfl⟩ := d
  have hk := kk p e R s m args below meth c H locs cells slots ls hΓ C hc hs hw hS hl
  rw [← ii_div ha hb h0] at hk
  exact lv_idiv C.1 C.2.1 d (fun q => by rw [ii_z hb] at q; omega) hk
theorem g_irem {a b : Int} (d : De cc pc (.irem) 1 pc') (ha : rg a) (hb : rg b) (h0 : 0 < b) (kk : G Γ mi cc Q QX rc rs pc' L (.int (ii (a.tmod b)) :: S) σ) : G Γ mi cc Q QX rc rs pc L (.int (ii b) :: .int (ii a) :: S) σ := by
  intro p e R s m args below meth c H locs cells slots ls hΓ C hc hs hw hS hl
  obtain ⟨d, rfl⟩ := d
  have hk := kk p e R s m args below meth c H locs cells slots ls hΓ C hc hs hw hS hl
  rw [← ii_rem ha hb h0] at hk
  exact lv_irem C.1 C.2.1 d (fun q => by rw [ii_z hb] at q; omega) hk
theorem g_iand {x y : Int32} (d : De cc pc (.iand) 1 pc') (kk : G Γ mi cc Q QX rc rs pc' L (.int (x &&& y) :: S) σ) : G Γ mi cc Q QX rc rs pc L (.int y :: .int x :: S) σ := by
  intro p e R s m args below meth c H locs cells slots ls hΓ C hc hs hw hS hl
  obtain ⟨d, rfl⟩ := d
  have hk := kk p e R s m args below meth c H locs cells slots ls hΓ C hc hs hw hS hl
  exact lv_iand C.1 C.2.1 d hk
theorem g_ior {x y : Int32} (d : De cc pc (.ior) 1 pc') (kk : G Γ mi cc Q QX rc rs pc' L (.int (x ||| y) :: S) σ) : G Γ mi cc Q QX rc rs pc L (.int y :: .int x :: S) σ := by
  intro p e R s m args below meth c H locs cells slots ls hΓ C hc hs hw hS hl
  obtain ⟨d, rfl⟩ := d
  have hk := kk p e R s m args below meth c H locs cells slots ls hΓ C hc hs hw hS hl
  exact lv_ior C.1 C.2.1 d hk
theorem g_ixor {x y : Int32} (d : De cc pc (.ixor) 1 pc') (kk : G Γ mi cc Q QX rc rs pc' L (.int (x ^^^ y) :: S) σ) : G Γ mi cc Q QX rc rs pc L (.int y :: .int x :: S) σ := by
  intro p e R s m args below meth c H locs cells slots ls hΓ C hc hs hw hS hl
  obtain ⟨d, rfl⟩ := d
  have hk := kk p e R s m args below meth c H locs cells slots ls hΓ C hc hs hw hS hl
  exact lv_ixor C.1 C.2.1 d hk
theorem g_ishl {x y : Int32} (d : De cc pc (.ishl) 1 pc') (kk : G Γ mi cc Q QX rc rs pc' L (.int (x <<< (y &&& 31)) :: S) σ) : G Γ mi cc Q QX rc rs pc L (.int y :: .int x :: S) σ := by
  intro p e R s m args below meth c H locs cells slots ls hΓ C hc hs hw hS hl
  obtain ⟨d, rfl⟩ := d
  have hk := kk p e R s m args below meth c H locs cells slots ls hΓ C hc hs hw hS hl
  exact lv_ishl C.1 C.2.1 d hk
theorem g_ishr {x y : Int32} (d : De cc pc (.ishr) 1 pc') (kk : G Γ mi cc Q QX rc rs pc' L (.int (x >>> (y &&& 31)) :: S) σ) : G Γ mi cc Q QX rc rs pc L (.int y :: .int x :: S) σ := by
  intro p e R s m args below meth c H locs cells slots ls hΓ C hc hs hw hS hl
  obtain ⟨d, rfl⟩ := d
  have hk := kk p e R s m args below meth c H locs cells slots ls hΓ C hc hs hw hS hl
  exact lv_ishr C.1 C.2.1 d hk
theorem g_iushr {x y : Int32} (d : De cc pc (.iushr) 1 pc') (kk : G Γ mi cc Q QX rc rs pc' L (.int (x.toUInt32 >>> (y.toUInt32 &&& Int32.toUInt32 31)).toInt32 :: S) σ) : G Γ mi cc Q QX rc rs pc L (.int y :: .int x :: S) σ := by
  intro p e R s m args below meth c H locs cells slots ls hΓ C hc hs hw hS hl
  obtain ⟨d, rfl⟩ := d
  have hk := kk p e R s m args below meth c H locs cells slots ls hΓ C hc hs hw hS hl
  exact lv_iushr C.1 C.2.1 d rfl hk
theorem g_land {a b : BitVec 64} (d : De cc pc (.land) 1 pc') (kk : G Γ mi cc Q QX rc rs pc' L (.long (lb (a &&& b)) :: S) σ) : G Γ mi cc Q QX rc rs pc L (.long (lb b) :: .long (lb a) :: S) σ := by
  intro p e R s m args below meth c H locs cells slots ls hΓ C hc hs hw hS hl
  obtain ⟨d, rfl⟩ := d
  have hk := kk p e R s m args below meth c H locs cells slots ls hΓ C hc hs hw hS hl
  exact lv_land C.1 C.2.1 d hk
theorem g_lor {a b : BitVec 64} (d : De cc pc (.lor) 1 pc') (kk : G Γ mi cc Q QX rc rs pc' L (.long (lb (a ||| b)) :: S) σ) : G Γ mi cc Q QX rc rs pc L (.long (lb b) :: .long (lb a) :: S) σ := by
  intro p e R s m args below meth c H locs cells slots ls hΓ C hc hs hw hS hl
  obtain ⟨d, rfl⟩ := d
  have hk := kk p e R s m args below meth c H locs cells slots ls hΓ C hc hs hw hS hl
  exact lv_lor C.1 C.2.1 d hk
theorem g_lxor {a b : BitVec 64} (d : De cc pc (.lxor) 1 pc') (kk : G Γ mi cc Q QX rc rs pc' L (.long (lb (a ^^^ b)) :: S) σ) : G Γ mi cc Q QX rc rs pc L (.long (lb b) :: .long (lb a) :: S) σ := by
  intro p e R s m args below meth c H locs cells slots ls hΓ C hc hs hw hS hl
  obtain ⟨d, rfl⟩ := d
  have hk := kk p e R s m args below meth c H locs cells slots ls hΓ C hc hs hw hS hl
  exact lv_lxor C.1 C.2.1 d hk
theorem g_ladd {a b : BitVec 64} (d : De cc pc (.ladd) 1 pc') (kk : G Γ mi cc Q QX rc rs pc' L (.long (lb (a + b)) :: S) σ) : G Γ mi cc Q QX rc rs pc L (.long (lb b) :: .long (lb a) :: S) σ := by
  intro p e R s m args below meth c H locs cells slots ls hΓ C hc hs hw hS hl
  obtain ⟨d, rfl⟩ := d
  have hk := kk p e R s m args below meth c H locs cells slots ls hΓ C hc hs hw hS hl
  exact lv_ladd C.1 C.2.1 d hk
theorem g_lsub {a b : BitVec 64} (d : De cc pc (.lsub) 1 pc') (kk : G Γ mi cc Q QX rc rs pc' L (.long (lb (a - b)) :: S) σ) : G Γ mi cc Q QX rc rs pc L (.long (lb b) :: .long (lb a) :: S) σ := by
  intro p e R s m args below meth c H locs cells slots ls hΓ C hc hs hw hS hl
  obtain ⟨d, rfl⟩ := d
  have hk := kk p e R s m args below meth c H locs cells slots ls hΓ C hc hs hw hS hl
  exact lv_lsub C.1 C.2.1 d hk
theorem g_lmul {a b : BitVec 64} (d : De cc pc (.lmul) 1 pc') (kk : G Γ mi cc Q QX rc rs pc' L (.long (lb (a * b)) :: S) σ) : G Γ mi cc Q QX rc rs pc L (.long (lb b) :: .long (lb a) :: S) σ := by
  intro p e R s m args below meth c H locs cells slots ls hΓ C hc hs hw hS hl
  obtain ⟨d, rfl⟩ := d
  have hk := kk p e R s m args below meth c H locs cells slots ls hΓ C hc hs hw hS hl
  exact lv_lmul C.1 C.2.1 d hk
theorem g_ldiv {x y : Int64} (d : De cc pc (.ldiv) 1 pc') (h0 : ¬ y = 0) (kk : G Γ mi cc Q QX rc rs pc' L (.long (x / y) :: S) σ) : G Γ mi cc Q QX rc rs pc L (.long y :: .long x :: S) σ := by
  intro p e R s m args below meth c H locs cells slots ls hΓ C hc hs hw hS hl
  obtain ⟨d, rfl⟩ := d
  have hk := kk p e R s m args below meth c H locs cells slots ls hΓ C hc hs hw hS hl
  exact lv_ldiv C.1 C.2.1 d h0 hk
theorem g_lrem {x y : Int64} (d : De cc pc (.lrem) 1 pc') (h0 : ¬ y = 0) (kk : G Γ mi cc Q QX rc rs pc' L (.long (x - x / y * y) :: S) σ) : G Γ mi cc Q QX rc rs pc L (.long y :: .long x :: S) σ := by
  intro p e R s m args below meth c H locs cells slots ls hΓ C hc hs hw hS hl
  obtain ⟨d, rfl⟩ := d
  have hk := kk p e R s m args below meth c H locs cells slots ls hΓ C hc hs hw hS hl
  exact lv_lrem C.1 C.2.1 d h0 hk
theorem g_lshl {a : BitVec 64} {k : Int} (d : De cc pc (.lshl) 1 pc') (h0 : 0 ≤ k) (h1 : k < 64) (kk : G Γ mi cc Q QX rc rs pc' L (.long (lb (a <<< k.toNat)) :: S) σ) : G Γ mi cc Q QX rc rs pc L (.int (ii k) :: .long (lb a) :: S) σ := by
  intro p e R s m args below meth c H locs cells slots ls hΓ C hc hs hw hS hl
  obtain ⟨d, rfl⟩ := d
  have hk := kk p e R s m args below meth c H locs cells slots ls hΓ C hc hs hw hS hl
  exact lv_lshl C.1 C.2.1 d (lb_shl h0 h1) hk
theorem g_lushr {a : BitVec 64} {k : Int} (d : De cc pc (.lushr) 1 pc') (h0 : 0 ≤ k) (h1 : k < 64) (kk : G Γ mi cc Q QX rc rs pc' L (.long (lb (a >>> k.toNat)) :: S) σ) : G Γ mi cc Q QX rc rs pc L (.int (ii k) :: .long (lb a) :: S) σ := by
  intro p e R s m args below meth c H locs cells slots ls hΓ C hc hs hw hS hl
  obtain ⟨d, rfl⟩ := d
  have hk := kk p e R s m args below meth c H locs cells slots ls hΓ C hc hs hw hS hl
  exact lv_lushr C.1 C.2.1 d (lb_ushr h0 h1) hk
theorem g_lcmp {a b : BitVec 64} (d : De cc pc (.lcmp) 1 pc') (kk : G Γ mi cc Q QX rc rs pc' L (.int (ii (lcm a b)) :: S) σ) : G Γ mi cc Q QX rc rs pc L (.long (lb b) :: .long (lb a) :: S) σ := by
  intro p e R s m args below meth c H locs cells slots ls hΓ C hc hs hw hS hl
  obtain ⟨d, rfl⟩ := d
  have hk := kk p e R s m args below meth c H locs cells slots ls hΓ C hc hs hw hS hl
  rw [← lb_cmp] at hk
  exact W.lcmp C.1 C.2.1 d hk
theorem g_i2l {a : Int} (d : De cc pc (.i2l) 1 pc') (ha : rg a) (kk : G Γ mi cc Q QX rc rs pc' L (.long (lb (BitVec.ofInt 64 a)) :: S) σ) : G Γ mi cc Q QX rc rs pc L (.int (ii a) :: S) σ := by
  intro p e R s m args below meth c H locs cells slots ls hΓ C hc hs hw hS hl
  obtain ⟨d, rfl⟩ := d
  have hk := kk p e R s m args below meth c H locs cells slots ls hΓ C hc hs hw hS hl
  exact lv_i2l C.1 C.2.1 d (ii_l ha) hk
theorem g_l2i {b : BitVec 64} (d : De cc pc (.l2i) 1 pc') (kk : G Γ mi cc Q QX rc rs pc' L (.int (ii b.toInt) :: S) σ) : G Γ mi cc Q QX rc rs pc L (.long (lb b) :: S) σ := by
  intro p e R s m args below meth c H locs cells slots ls hΓ C hc hs hw hS hl
  obtain ⟨d, rfl⟩ := d
  have hk := kk p e R s m args below meth c H locs cells slots ls hΓ C hc hs hw hS hl
  exact lv_l2i C.1 C.2.1 d (lb_i b) hk
theorem g_i2c {a : Int} (d : De cc pc (.i2c) 1 pc') (h0 : 0 ≤ a) (h1 : a < 65536) (kk : G Γ mi cc Q QX rc rs pc' L (.int (ii a) :: S) σ) : G Γ mi cc Q QX rc rs pc L (.int (ii a) :: S) σ := by
  intro p e R s m args below meth c H locs cells slots ls hΓ C hc hs hw hS hl
  obtain ⟨d, rfl⟩ := d
  have hk := kk p e R s m args below meth c H locs cells slots ls hΓ C hc hs hw hS hl
  exact lv_i2c C.1 C.2.1 d (ii_c h0 h1) hk
theorem g_dup {v : Value} (d : De cc pc (.dup) 1 pc') (h1 : v.category = 1) (kk : G Γ mi cc Q QX rc rs pc' L (v :: v :: S) σ) : G Γ mi cc Q QX rc rs pc L (v :: S) σ := by
  intro p e R s m args below meth c H locs cells slots ls hΓ C hc hs hw hS hl
  obtain ⟨d, rfl⟩ := d
  have hk := kk p e R s m args below meth c H locs cells slots ls hΓ C hc hs hw hS hl
  exact lv_dup C.1 C.2.1 d h1 hk
theorem g_dup2 {v w : Value} (d : De cc pc (.dup2) 1 pc') (h1 : v.category = 1) (h2 : w.category = 1) (kk : G Γ mi cc Q QX rc rs pc' L (v :: w :: v :: w :: S) σ) : G Γ mi cc Q QX rc rs pc L (v :: w :: S) σ := by
  intro p e R s m args below meth c H locs cells slots ls hΓ C hc hs hw hS hl
  obtain ⟨d, rfl⟩ := d
  have hk := kk p e R s m args below meth c H locs cells slots ls hΓ C hc hs hw hS hl
  exact lv_dup2_11 C.1 C.2.1 d h1 h2 hk
theorem g_dup_x1 {v w : Value} (d : De cc pc (.dup_x1) 1 pc') (h1 : v.category = 1) (h2 : w.category = 1) (kk : G Γ mi cc Q QX rc rs pc' L (v :: w :: v :: S) σ) : G Γ mi cc Q QX rc rs pc L (v :: w :: S) σ := by
  intro p e R s m args below meth c H locs cells slots ls hΓ C hc hs hw hS hl
  obtain ⟨d, rfl⟩ := d
  have hk := kk p e R s m args below meth c H locs cells slots ls hΓ C hc hs hw hS hl
  exact lv_dup_x1 C.1 C.2.1 d h1 h2 hk
theorem g_pop {v : Value} (d : De cc pc (.pop) 1 pc') (h1 : v.category = 1) (kk : G Γ mi cc Q QX rc rs pc' L S σ) : G Γ mi cc Q QX rc rs pc L (v :: S) σ := by
  intro p e R s m args below meth c H locs cells slots ls hΓ C hc hs hw hS hl
  obtain ⟨d, rfl⟩ := d
  have hk := kk p e R s m args below meth c H locs cells slots ls hΓ C hc hs hw hS hl
  exact lv_pop C.1 C.2.1 d h1 hk
theorem g_goto {off : Int} (d : De cc pc (.goto off) 3 pc') (ht : (pc : Int) + off = (tgt : Int)) (kk : G Γ mi cc Q QX rc rs tgt L S σ) : G Γ mi cc Q QX rc rs pc L S σ := by
  intro p e R s m args below meth c H locs cells slots ls hΓ C hc hs hw hS hl
  exact lv_goto C.1 C.2.1 d.1 ht (kk p e R s m args below meth c H locs cells slots ls hΓ C hc hs hw hS hl)
theorem g_icmp_eq {a b off : Int} (d : De cc pc (.if_icmp .eq off) 3 pc') (ht : (pc : Int) + off = (tgt : Int)) (ha : rg a) (hb : rg b) (kt : a = b → G Γ mi cc Q QX rc rs tgt L S σ) (kf : a ≠ b → G Γ mi cc Q QX rc rs pc' L S σ) : G Γ mi cc Q QX rc rs pc L (.int (ii b) :: .int (ii a) :: S) σ := by
  intro p e R s m args below meth c H locs cells slots ls hΓ C hc hs hw hS hl
  obtain ⟨d, rfl⟩ := d
  have e1 := ii_eq ha hb
  have e2 := ii_lt ha hb
  have e3 := ii_lt hb ha
  have e4 := ii_le ha hb
  have e5 := ii_le hb ha
  refine lv_icmp_eq C.1 C.2.1 d ht (fun q => kt ?_ p e R s m args below meth c H locs cells slots ls hΓ C hc hs hw hS hl) (fun q => kf ?_ p e R s m args below meth c H locs cells slots ls hΓ C hc hs hw hS hl)
  · first | exact e1.mp q | exact e2.mp q | exact e3.mp q | exact e4.mp q | exact e5.mp q | exact fun z => q (e1.mpr z)
  · first | exact e1.mp q | exact fun z => q (e1.mpr z) | exact Decidable.byContradiction (fun z => q (e1.mpr z)) | exact Decidable.byContradiction (fun z => q (fun w => z (e1.mp w))) | exact Int.not_lt.mp (fun z => q (e2.mpr z)) | exact Int.not_lt.mp (fun z => q (e3.mpr z)) | exact Int.not_le.mp (fun z => q (e4.mpr z)) | exact Int.not_le.mp (fun z => q (e5.mpr z))
theorem g_if_eq {a off : Int} (d : De cc pc (.ifCond .eq off) 3 pc') (ht : (pc : Int) + off = (tgt : Int)) (ha : rg a) (kt : a = 0 → G Γ mi cc Q QX rc rs tgt L S σ) (kf : a ≠ 0 → G Γ mi cc Q QX rc rs pc' L S σ) : G Γ mi cc Q QX rc rs pc L (.int (ii a) :: S) σ := by
  intro p e R s m args below meth c H locs cells slots ls hΓ C hc hs hw hS hl
  obtain ⟨d, rfl⟩ := d
  have e1 := ii_z ha
  have e2 := ii_ltz ha
  have e3 := ii_zlt ha
  have e4 := ii_lez ha
  have e5 := ii_zle ha
  refine lv_if_eq C.1 C.2.1 d ht (fun q => kt ?_ p e R s m args below meth c H locs cells slots ls hΓ C hc hs hw hS hl) (fun q => kf ?_ p e R s m args below meth c H locs cells slots ls hΓ C hc hs hw hS hl)
  · first | exact e1.mp q | exact e2.mp q | exact e3.mp q | exact e4.mp q | exact e5.mp q | exact fun z => q (e1.mpr z)
  · first | exact e1.mp q | exact fun z => q (e1.mpr z) | exact Decidable.byContradiction (fun z => q (e1.mpr z)) | exact Decidable.byContradiction (fun z => q (fun w => z (e1.mp w))) | exact Int.not_lt.mp (fun z => q (e2.mpr z)) | exact Int.not_lt.mp (fun z => q (e3.mpr z)) | exact Int.not_le.mp (fun z => q (e4.mpr z)) | exact Int.not_le.mp (fun z => q (e5.mpr z))
theorem g_icmp_ne {a b off : Int} (d : De cc pc (.if_icmp .ne off) 3 pc') (ht : (pc : Int) + off = (tgt : Int)) (ha : rg a) (hb : rg b) (kt : a ≠ b → G Γ mi cc Q QX rc rs tgt L S σ) (kf : a = b → G Γ mi cc Q QX rc rs pc' L S σ) : G Γ mi cc Q QX rc rs pc L (.int (ii b) :: .int (ii a) :: S) σ := by
  intro p e R s m args below meth c H locs cells slots ls hΓ C hc hs hw hS hl
  obtain ⟨d, rfl⟩ := d
  have e1 := ii_eq ha hb
  have e2 := ii_lt ha hb
  have e3 := ii_lt hb ha
  have e4 := ii_le ha hb
  have e5 := ii_le hb ha
  refine lv_icmp_ne C.1 C.2.1 d ht (fun q => kt ?_ p e R s m args below meth c H locs cells slots ls hΓ C hc hs hw hS hl) (fun q => kf ?_ p e R s m args below meth c H locs cells slots ls hΓ C hc hs hw hS hl)
  · first | exact e1.mp q | exact e2.mp q | exact e3.mp q | exact e4.mp q | exact e5.mp q | exact fun z => q (e1.mpr z)
  · first | exact e1.mp q | exact fun z => q (e1.mpr z) | exact Decidable.byContradiction (fun z => q (e1.mpr z)) | exact Decidable.byContradiction (fun z => q (fun w => z (e1.mp w))) | exact Int.not_lt.mp (fun z => q (e2.mpr z)) | exact Int.not_lt.mp (fun z => q (e3.mpr z)) | exact Int.not_le.mp (fun z => q (e4.mpr z)) | exact Int.not_le.mp (fun z => q (e5.mpr z))
theorem g_if_ne {a off : Int} (d : De cc pc (.ifCond .ne off) 3 pc') (ht : (pc : Int) + off = (tgt : Int)) (ha : rg a) (kt : a ≠ 0 → G Γ mi cc Q QX rc rs tgt L S σ) (kf : a = 0 → G Γ mi cc Q QX rc rs pc' L S σ) : G Γ mi cc Q QX rc rs pc L (.int (ii a) :: S) σ := by
  intro p e R s m args below meth c H locs cells slots ls hΓ C hc hs hw hS hl
  obtain ⟨d, rfl⟩ := d
  have e1 := ii_z ha
  have e2 := ii_ltz ha
  have e3 := ii_zlt ha
  have e4 := ii_lez ha
  have e5 := ii_zle ha
  refine lv_if_ne C.1 C.2.1 d ht (fun q => kt ?_ p e R s m args below meth c H locs cells slots ls hΓ C hc hs hw hS hl) (fun q => kf ?_ p e R s m args below meth c H locs cells slots ls hΓ C hc hs hw hS hl)
  · first | exact e1.mp q | exact e2.mp q | exact e3.mp q | exact e4.mp q | exact e5.mp q | exact fun z => q (e1.mpr z)
  · first | exact e1.mp q | exact fun z => q (e1.mpr z) | exact Decidable.byContradiction (fun z => q (e1.mpr z)) | exact Decidable.byContradiction (fun z => q (fun w => z (e1.mp w))) | exact Int.not_lt.mp (fun z => q (e2.mpr z)) | exact Int.not_lt.mp (fun z => q (e3.mpr z)) | exact Int.not_le.mp (fun z => q (e4.mpr z)) | exact Int.not_le.mp (fun z => q (e5.mpr z))
theorem g_icmp_lt {a b off : Int} (d : De cc pc (.if_icmp .lt off) 3 pc') (ht : (pc : Int) + off = (tgt : Int)) (ha : rg a) (hb : rg b) (kt : a < b → G Γ mi cc Q QX rc rs tgt L S σ) (kf : b ≤ a → G Γ mi cc Q QX rc rs pc' L S σ) : G Γ mi cc Q QX rc rs pc L (.int (ii b) :: .int (ii a) :: S) σ := by
  intro p e R s m args below meth c H locs cells slots ls hΓ C hc hs hw hS hl
  obtain ⟨d, rfl⟩ := d
  have e1 := ii_eq ha hb
  have e2 := ii_lt ha hb
  have e3 := ii_lt hb ha
  have e4 := ii_le ha hb
  have e5 := ii_le hb ha
  refine lv_icmp_lt C.1 C.2.1 d ht (fun q => kt ?_ p e R s m args below meth c H locs cells slots ls hΓ C hc hs hw hS hl) (fun q => kf ?_ p e R s m args below meth c H locs cells slots ls hΓ C hc hs hw hS hl)
  · first | exact e1.mp q | exact e2.mp q | exact e3.mp q | exact e4.mp q | exact e5.mp q | exact fun z => q (e1.mpr z)
  · first | exact e1.mp q | exact fun z => q (e1.mpr z) | exact Decidable.byContradiction (fun z => q (e1.mpr z)) | exact Decidable.byContradiction (fun z => q (fun w => z (e1.mp w))) | exact Int.not_lt.mp (fun z => q (e2.mpr z)) | exact Int.not_lt.mp (fun z => q (e3.mpr z)) | exact Int.not_le.mp (fun z => q (e4.mpr z)) | exact Int.not_le.mp (fun z => q (e5.mpr z))
theorem g_if_lt {a off : Int} (d : De cc pc (.ifCond .lt off) 3 pc') (ht : (pc : Int) + off = (tgt : Int)) (ha : rg a) (kt : a < 0 → G Γ mi cc Q QX rc rs tgt L S σ) (kf : 0 ≤ a → G Γ mi cc Q QX rc rs pc' L S σ) : G Γ mi cc Q QX rc rs pc L (.int (ii a) :: S) σ := by
  intro p e R s m args below meth c H locs cells slots ls hΓ C hc hs hw hS hl
  obtain ⟨d, rfl⟩ := d
  have e1 := ii_z ha
  have e2 := ii_ltz ha
  have e3 := ii_zlt ha
  have e4 := ii_lez ha
  have e5 := ii_zle ha
  refine lv_if_lt C.1 C.2.1 d ht (fun q => kt ?_ p e R s m args below meth c H locs cells slots ls hΓ C hc hs hw hS hl) (fun q => kf ?_ p e R s m args below meth c H locs cells slots ls hΓ C hc hs hw hS hl)
  · first | exact e1.mp q | exact e2.mp q | exact e3.mp q | exact e4.mp q | exact e5.mp q | exact fun z => q (e1.mpr z)
  · first | exact e1.mp q | exact fun z => q (e1.mpr z) | exact Decidable.byContradiction (fun z => q (e1.mpr z)) | exact Decidable.byContradiction (fun z => q (fun w => z (e1.mp w))) | exact Int.not_lt.mp (fun z => q (e2.mpr z)) | exact Int.not_lt.mp (fun z => q (e3.mpr z)) | exact Int.not_le.mp (fun z => q (e4.mpr z)) | exact Int.not_le.mp (fun z => q (e5.mpr z))
theorem g_icmp_ge {a b off : Int} (d : De cc pc (.if_icmp .ge off) 3 pc') (ht : (pc : Int) + off = (tgt : Int)) (ha : rg a) (hb : rg b) (kt : b ≤ a → G Γ mi cc Q QX rc rs tgt L S σ) (kf : a < b → G Γ mi cc Q QX rc rs pc' L S σ) : G Γ mi cc Q QX rc rs pc L (.int (ii b) :: .int (ii a) :: S) σ := by
  intro p e R s m args below meth c H locs cells slots ls hΓ C hc hs hw hS hl
  obtain ⟨d, rfl⟩ := d
  have e1 := ii_eq ha hb
  have e2 := ii_lt ha hb
  have e3 := ii_lt hb ha
  have e4 := ii_le ha hb
  have e5 := ii_le hb ha
  refine lv_icmp_ge C.1 C.2.1 d ht (fun q => kt ?_ p e R s m args below meth c H locs cells slots ls hΓ C hc hs hw hS hl) (fun q => kf ?_ p e R s m args below meth c H locs cells slots ls hΓ C hc hs hw hS hl)
  · first | exact e1.mp q | exact e2.mp q | exact e3.mp q | exact e4.mp q | exact e5.mp q | exact fun z => q (e1.mpr z)
  · first | exact e1.mp q | exact fun z => q (e1.mpr z) | exact Decidable.byContradiction (fun z => q (e1.mpr z)) | exact Decidable.byContradiction (fun z => q (fun w => z (e1.mp w))) | exact Int.not_lt.mp (fun z => q (e2.mpr z)) | exact Int.not_lt.mp (fun z => q (e3.mpr z)) | exact Int.not_le.mp (fun z => q (e4.mpr z)) | exact Int.not_le.mp (fun z => q (e5.mpr z))
theorem g_if_ge {a off : Int} (d : De cc pc (.ifCond .ge off) 3 pc') (ht : (pc : Int) + off = (tgt : Int)) (ha : rg a) (kt : 0 ≤ a → G Γ mi cc Q QX rc rs tgt L S σ) (kf : a < 0 → G Γ mi cc Q QX rc rs pc' L S σ) : G Γ mi cc Q QX rc rs pc L (.int (ii a) :: S) σ := by
  intro p e R s m args below meth c H locs cells slots ls hΓ C hc hs hw hS hl
  obtain ⟨d, rfl⟩ := d
  have e1 := ii_z ha
  have e2 := ii_ltz ha
  have e3 := ii_zlt ha
  have e4 := ii_lez ha
  have e5 := ii_zle ha
  refine lv_if_ge C.1 C.2.1 d ht (fun q => kt ?_ p e R s m args below meth c H locs cells slots ls hΓ C hc hs hw hS hl) (fun q => kf ?_ p e R s m args below meth c H locs cells slots ls hΓ C hc hs hw hS hl)
  · first | exact e1.mp q | exact e2.mp q | exact e3.mp q | exact e4.mp q | exact e5.mp q | exact fun z => q (e1.mpr z)
  · first | exact e1.mp q | exact fun z => q (e1.mpr z) | exact Decidable.byContradiction (fun z => q (e1.mpr z)) | exact Decidable.byContradiction (fun z => q (fun w => z (e1.mp w))) | exact Int.not_lt.mp (fun z => q (e2.mpr z)) | exact Int.not_lt.mp (fun z => q (e3.mpr z)) | exact Int.not_le.mp (fun z => q (e4.mpr z)) | exact Int.not_le.mp (fun z => q (e5.mpr z))
theorem g_icmp_gt {a b off : Int} (d : De cc pc (.if_icmp .gt off) 3 pc') (ht : (pc : Int) + off = (tgt : Int)) (ha : rg a) (hb : rg b) (kt : b < a → G Γ mi cc Q QX rc rs tgt L S σ) (kf : a ≤ b → G Γ mi cc Q QX rc rs pc' L S σ) : G Γ mi cc Q QX rc rs pc L (.int (ii b) :: .int (ii a) :: S) σ := by
  intro p e R s m args below meth c H locs cells slots ls hΓ C hc hs hw hS hl
  obtain ⟨d, rfl⟩ := d
  have e1 := ii_eq ha hb
  have e2 := ii_lt ha hb
  have e3 := ii_lt hb ha
  have e4 := ii_le ha hb
  have e5 := ii_le hb ha
  refine lv_icmp_gt C.1 C.2.1 d ht (fun q => kt ?_ p e R s m args below meth c H locs cells slots ls hΓ C hc hs hw hS hl) (fun q => kf ?_ p e R s m args below meth c H locs cells slots ls hΓ C hc hs hw hS hl)
  · first | exact e1.mp q | exact e2.mp q | exact e3.mp q | exact e4.mp q | exact e5.mp q | exact fun z => q (e1.mpr z)
  · first | exact e1.mp q | exact fun z => q (e1.mpr z) | exact Decidable.byContradiction (fun z => q (e1.mpr z)) | exact Decidable.byContradiction (fun z => q (fun w => z (e1.mp w))) | exact Int.not_lt.mp (fun z => q (e2.mpr z)) | exact Int.not_lt.mp (fun z => q (e3.mpr z)) | exact Int.not_le.mp (fun z => q (e4.mpr z)) | exact Int.not_le.mp (fun z => q (e5.mpr z))
theorem g_if_gt {a off : Int} (d : De cc pc (.ifCond .gt off) 3 pc') (ht : (pc : Int) + off = (tgt : Int)) (ha : rg a) (kt : 0 < a → G Γ mi cc Q QX rc rs tgt L S σ) (kf : a ≤ 0 → G Γ mi cc Q QX rc rs pc' L S σ) : G Γ mi cc Q QX rc rs pc L (.int (ii a) :: S) σ := by
  intro p e R s m args below meth c H locs cells slots ls hΓ C hc hs hw hS hl
  obtain ⟨d, rfl⟩ := d
  have e1 := ii_z ha
  have e2 := ii_ltz ha
  have e3 := ii_zlt ha
  have e4 := ii_lez ha
  have e5 := ii_zle ha
  refine lv_if_gt C.1 C.2.1 d ht (fun q => kt ?_ p e R s m args below meth c H locs cells slots ls hΓ C hc hs hw hS hl) (fun q => kf ?_ p e R s m args below meth c H locs cells slots ls hΓ C hc hs hw hS hl)
  · first | exact e1.mp q | exact e2.mp q | exact e3.mp q | exact e4.mp q | exact e5.mp q | exact fun z => q (e1.mpr z)
  · first | exact e1.mp q | exact fun z => q (e1.mpr z) | exact Decidable.byContradiction (fun z => q (e1.mpr z)) | exact Decidable.byContradiction (fun z => q (fun w => z (e1.mp w))) | exact Int.not_lt.mp (fun z => q (e2.mpr z)) | exact Int.not_lt.mp (fun z => q (e3.mpr z)) | exact Int.not_le.mp (fun z => q (e4.mpr z)) | exact Int.not_le.mp (fun z => q (e5.mpr z))
theorem g_icmp_le {a b off : Int} (d : De cc pc (.if_icmp .le off) 3 pc') (ht : (pc : Int) + off = (tgt : Int)) (ha : rg a) (hb : rg b) (kt : a ≤ b → G Γ mi cc Q QX rc rs tgt L S σ) (kf : b < a → G Γ mi cc Q QX rc rs pc' L S σ) : G Γ mi cc Q QX rc rs pc L (.int (ii b) :: .int (ii a) :: S) σ := by
  intro p e R s m args below meth c H locs cells slots ls hΓ C hc hs hw hS hl
  obtain ⟨d, rfl⟩ := d
  have e1 := ii_eq ha hb
  have e2 := ii_lt ha hb
  have e3 := ii_lt hb ha
  have e4 := ii_le ha hb
  have e5 := ii_le hb ha
  refine lv_icmp_le C.1 C.2.1 d ht (fun q => kt ?_ p e R s m args below meth c H locs cells slots ls hΓ C hc hs hw hS hl) (fun q => kf ?_ p e R s m args below meth c H locs cells slots ls hΓ C hc hs hw hS hl)
  · first | exact e1.mp q | exact e2.mp q | exact e3.mp q | exact e4.mp q | exact e5.mp q | exact fun z => q (e1.mpr z)
  · first | exact e1.mp q | exact fun z => q (e1.mpr z) | exact Decidable.byContradiction (fun z => q (e1.mpr z)) | exact Decidable.byContradiction (fun z => q (fun w => z (e1.mp w))) | exact Int.not_lt.mp (fun z => q (e2.mpr z)) | exact Int.not_lt.mp (fun z => q (e3.mpr z)) | exact Int.not_le.mp (fun z => q (e4.mpr z)) | exact Int.not_le.mp (fun z => q (e5.mpr z))
theorem g_if_le {a off : Int} (d : De cc pc (.ifCond .le off) 3 pc') (ht : (pc : Int) + off = (tgt : Int)) (ha : rg a) (kt : a ≤ 0 → G Γ mi cc Q QX rc rs tgt L S σ) (kf : 0 < a → G Γ mi cc Q QX rc rs pc' L S σ) : G Γ mi cc Q QX rc rs pc L (.int (ii a) :: S) σ := by
  intro p e R s m args below meth c H locs cells slots ls hΓ C hc hs hw hS hl
  obtain ⟨d, rfl⟩ := d
  have e1 := ii_z ha
  have e2 := ii_ltz ha
  have e3 := ii_zlt ha
  have e4 := ii_lez ha
  have e5 := ii_zle ha
  refine lv_if_le C.1 C.2.1 d ht (fun q => kt ?_ p e R s m args below meth c H locs cells slots ls hΓ C hc hs hw hS hl) (fun q => kf ?_ p e R s m args below meth c H locs cells slots ls hΓ C hc hs hw hS hl)
  · first | exact e1.mp q | exact e2.mp q | exact e3.mp q | exact e4.mp q | exact e5.mp q | exact fun z => q (e1.mpr z)
  · first | exact e1.mp q | exact fun z => q (e1.mpr z) | exact Decidable.byContradiction (fun z => q (e1.mpr z)) | exact Decidable.byContradiction (fun z => q (fun w => z (e1.mp w))) | exact Int.not_lt.mp (fun z => q (e2.mpr z)) | exact Int.not_lt.mp (fun z => q (e3.mpr z)) | exact Int.not_le.mp (fun z => q (e4.mpr z)) | exact Int.not_le.mp (fun z => q (e5.mpr z))
theorem g_ifnull {a : Nat} {off : Int} (d : De cc pc (.ifnull off) 3 pc') (kk : G Γ mi cc Q QX rc rs pc' L S σ) : G Γ mi cc Q QX rc rs pc L (.ref a :: S) σ := by
  intro p e R s m args below meth c H locs cells slots ls hΓ C hc hs hw hS hl
  obtain ⟨d, rfl⟩ := d
  exact lv_ifnull C.1 C.2.1 d (kk p e R s m args below meth c H locs cells slots ls hΓ C hc hs hw hS hl)
theorem g_ifnullN {off : Int} (d : De cc pc (.ifnull off) 3 pc') (ht : (pc : Int) + off = (tgt : Int)) (kk : G Γ mi cc Q QX rc rs tgt L S σ) : G Γ mi cc Q QX rc rs pc L (.null :: S) σ := by
  intro p e R s m args below meth c H locs cells slots ls hΓ C hc hs hw hS hl
  exact lv_ifnullN C.1 C.2.1 d.1 ht (kk p e R s m args below meth c H locs cells slots ls hΓ C hc hs hw hS hl)
theorem g_ifnonnull {a : Nat} {off : Int} (d : De cc pc (.ifnonnull off) 3 pc') (ht : (pc : Int) + off = (tgt : Int)) (kk : G Γ mi cc Q QX rc rs tgt L S σ) : G Γ mi cc Q QX rc rs pc L (.ref a :: S) σ := by
  intro p e R s m args below meth c H locs cells slots ls hΓ C hc hs hw hS hl
  exact lv_ifnonnull C.1 C.2.1 d.1 ht (kk p e R s m args below meth c H locs cells slots ls hΓ C hc hs hw hS hl)
theorem g_ifnonnullN {off : Int} (d : De cc pc (.ifnonnull off) 3 pc') (kk : G Γ mi cc Q QX rc rs pc' L S σ) : G Γ mi cc Q QX rc rs pc L (.null :: S) σ := by
  intro p e R s m args below meth c H locs cells slots ls hΓ C hc hs hw hS hl
  obtain ⟨d, rfl⟩ := d
  exact lv_ifnonnullN C.1 C.2.1 d (kk p e R s m args below meth c H locs cells slots ls hΓ C hc hs hw hS hl)
theorem g_tswOut {a dflt lo hi : Int} {offs : Array Int} {len : Nat} (d : De cc pc (.tableswitch dflt lo hi offs) len pc') (ha : rg a) (h : a < lo ∨ hi < a) (ht : (pc : Int) + dflt = (tgt : Int)) (kk : G Γ mi cc Q QX rc rs tgt L S σ) : G Γ mi cc Q QX rc rs pc L (.int (ii a) :: S) σ := by
  intro p e R s m args below meth c H locs cells slots ls hΓ C hc hs hw hS hl
  exact lv_tableOut C.1 C.2.1 d.1 (by rw [ii_toInt ha]; exact h) ht (kk p e R s m args below meth c H locs cells slots ls hΓ C hc hs hw hS hl)
theorem g_tswIn {a dflt lo hi off : Int} {offs : Array Int} {len : Nat} (d : De cc pc (.tableswitch dflt lo hi offs) len pc') (ha : rg a) (h1 : lo ≤ a) (h2 : a ≤ hi) (ho : offs[(a - lo).toNat]? = some off) (ht : (pc : Int) + off = (tgt : Int)) (kk : G Γ mi cc Q QX rc rs tgt L S σ) : G Γ mi cc Q QX rc rs pc L (.int (ii a) :: S) σ := by
  intro p e R s m args below meth c H locs cells slots ls hΓ C hc hs hw hS hl
  exact lv_tableIn C.1 C.2.1 d.1 (by rw [ii_toInt ha]; omega) (by rw [ii_toInt ha]; omega) (by rw [ii_toInt ha]; exact ho) ht (kk p e R s m args below meth c H locs cells slots ls hΓ C hc hs hw hS hl)
theorem g_lsw {a dflt off : Int} {ps : Array (Int × Int)} {len : Nat} (d : De cc pc (.lookupswitch dflt ps) len pc') (ha : rg a) (hp : (ps.toList.zip (ps.toList.drop 1)).all (fun (a, next) => a.1 < next.1) = true) (ho : Op.lookupswitch.offset ps.toList dflt a = off) (ht : (pc : Int) + off = (tgt : Int)) (kk : G Γ mi cc Q QX rc rs tgt L S σ) : G Γ mi cc Q QX rc rs pc L (.int (ii a) :: S) σ := by
  intro p e R s m args below meth c H locs cells slots ls hΓ C hc hs hw hS hl
  exact lv_lookup C.1 C.2.1 d.1 hp (by rw [ii_toInt ha]; exact ho) ht (kk p e R s m args below meth c H locs cells slots ls hΓ C hc hs hw hS hl)
end GR
