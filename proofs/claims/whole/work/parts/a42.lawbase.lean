/-! the law: catching, calls of methods that catch (written by lawbase.py) -/
theorem gw_645 : (Cond.classLink "CartPathsLaw" (13 : Nat) "java/lang/IllegalArgumentException") ∈ GW := gw_t3 33 rfl rfl
theorem gw_828 : (Cond.castable "java/lang/IllegalArgumentException" "java/lang/IllegalArgumentException") ∈ GW := gw_t3 216 rfl rfl
theorem gw_905 : (Cond.classLink "CartPathsLaw" (19 : Nat) "java/lang/IndexOutOfBoundsException") ∈ GW := gw_t4 53 rfl rfl
theorem gw_917 : (Cond.castable "java/lang/IndexOutOfBoundsException" "java/lang/IndexOutOfBoundsException") ∈ GW := gw_t4 65 rfl rfl
theorem gw_933 : (Cond.classLink "CartPathsLaw" (24 : Nat) "java/util/NoSuchElementException") ∈ GW := gw_t4 81 rfl rfl
theorem gw_944 : (Cond.castable "java/util/NoSuchElementException" "java/util/NoSuchElementException") ∈ GW := gw_t4 92 rfl rfl
theorem gw_967 : (Cond.classLink "CartPathsLaw" (33 : Nat) "java/lang/IllegalStateException") ∈ GW := gw_t4 115 rfl rfl
theorem gw_979 : (Cond.castable "java/lang/IllegalStateException" "java/lang/IllegalStateException") ∈ GW := gw_t4 127 rfl rfl
theorem nc_IOB_IAE {Γ : GT} (hΓ : Gd Γ) : va_Nc xIOB xIAE Γ.2.1 := by
  obtain ⟨⟨a0, h0, hn⟩, -⟩ := hΓ
  exact va_Nc.of (flat_of_before _ hn (.not (.castable "java/lang/IndexOutOfBoundsException" "java/lang/IllegalArgumentException")) (by decide +kernel))
theorem nc_IOB_ISE {Γ : GT} (hΓ : Gd Γ) : va_Nc xIOB xISE Γ.2.1 := by
  obtain ⟨⟨a0, h0, hn⟩, -⟩ := hΓ
  exact va_Nc.of (flat_of_before _ hn (.not (.castable "java/lang/IndexOutOfBoundsException" "java/lang/IllegalStateException")) (by decide +kernel))
theorem nc_IOB_NSE {Γ : GT} (hΓ : Gd Γ) : va_Nc xIOB xNSE Γ.2.1 := by
  obtain ⟨⟨a0, h0, hn⟩, -⟩ := hΓ
  exact va_Nc.of (flat_of_before _ hn (.not (.castable "java/lang/IndexOutOfBoundsException" "java/util/NoSuchElementException")) (by decide +kernel))
theorem nc_IAE_IOB {Γ : GT} (hΓ : Gd Γ) : va_Nc xIAE xIOB Γ.2.1 := by
  obtain ⟨⟨a0, h0, hn⟩, -⟩ := hΓ
  exact va_Nc.of (flat_of_before _ hn (.not (.castable "java/lang/IllegalArgumentException" "java/lang/IndexOutOfBoundsException")) (by decide +kernel))
theorem nc_IAE_ISE {Γ : GT} (hΓ : Gd Γ) : va_Nc xIAE xISE Γ.2.1 := by
  obtain ⟨⟨a0, h0, hn⟩, -⟩ := hΓ
  exact va_Nc.of (flat_of_before _ hn (.not (.castable "java/lang/IllegalArgumentException" "java/lang/IllegalStateException")) (by decide +kernel))
theorem nc_IAE_NSE {Γ : GT} (hΓ : Gd Γ) : va_Nc xIAE xNSE Γ.2.1 := by
  obtain ⟨⟨a0, h0, hn⟩, -⟩ := hΓ
  exact va_Nc.of (flat_of_before _ hn (.not (.castable "java/lang/IllegalArgumentException" "java/util/NoSuchElementException")) (by decide +kernel))
theorem nc_ISE_IOB {Γ : GT} (hΓ : Gd Γ) : va_Nc xISE xIOB Γ.2.1 := by
  obtain ⟨⟨a0, h0, hn⟩, -⟩ := hΓ
  exact va_Nc.of (flat_of_before _ hn (.not (.castable "java/lang/IllegalStateException" "java/lang/IndexOutOfBoundsException")) (by decide +kernel))
theorem nc_ISE_IAE {Γ : GT} (hΓ : Gd Γ) : va_Nc xISE xIAE Γ.2.1 := by
  obtain ⟨⟨a0, h0, hn⟩, -⟩ := hΓ
  exact va_Nc.of (flat_of_before _ hn (.not (.castable "java/lang/IllegalStateException" "java/lang/IllegalArgumentException")) (by decide +kernel))
theorem nc_ISE_NSE {Γ : GT} (hΓ : Gd Γ) : va_Nc xISE xNSE Γ.2.1 := by
  obtain ⟨⟨a0, h0, hn⟩, -⟩ := hΓ
  exact va_Nc.of (flat_of_before _ hn (.not (.castable "java/lang/IllegalStateException" "java/util/NoSuchElementException")) (by decide +kernel))
theorem nc_NSE_IOB {Γ : GT} (hΓ : Gd Γ) : va_Nc xNSE xIOB Γ.2.1 := by
  obtain ⟨⟨a0, h0, hn⟩, -⟩ := hΓ
  exact va_Nc.of (flat_of_before _ hn (.not (.castable "java/util/NoSuchElementException" "java/lang/IndexOutOfBoundsException")) (by decide +kernel))
theorem nc_NSE_IAE {Γ : GT} (hΓ : Gd Γ) : va_Nc xNSE xIAE Γ.2.1 := by
  obtain ⟨⟨a0, h0, hn⟩, -⟩ := hΓ
  exact va_Nc.of (flat_of_before _ hn (.not (.castable "java/util/NoSuchElementException" "java/lang/IllegalArgumentException")) (by decide +kernel))
theorem nc_NSE_ISE {Γ : GT} (hΓ : Gd Γ) : va_Nc xNSE xISE Γ.2.1 := by
  obtain ⟨⟨a0, h0, hn⟩, -⟩ := hΓ
  exact va_Nc.of (flat_of_before _ hn (.not (.castable "java/util/NoSuchElementException" "java/lang/IllegalStateException")) (by decide +kernel))
/-- an int, as it is read -/
def cn (v : Int) : Int := (ii v).toInt
theorem ii_cn (v : Int) : ii (cn v) = ii v := Int32.ofInt_toInt (ii v)
theorem cn_rg (v : Int) : rg (cn v) := ⟨Int32.le_toInt (ii v), Int32.toInt_lt (ii v)⟩
section LB
variable {Γ : GT} {mi mi' : MI} {cc : ByteArray} {Q Q' : Option Value → AH → Prop} {QX QX' : String → AH → Prop} {rc rs rc' rs' mc ms pc pc' idx : Nat} {L : List (Option Value)} {S0 S As vs : List Value} {σ : AH}
/-- a method that catches all it may throw -/
def SpW (Γ : GT) (mi : MI) (mc ms : Nat) (vs : List Value) (σ : AH) (Q : Option Value → AH → Prop) : Prop :=
  vx_Met Γ.1 mi.1 [Cond.codeWith mi.1 mi.2.1 mi.2.2.1 mi.2.2.2.1 mi.2.2.2.2.2.2.1] { frames := mi.2.2.2.2.1, cells := mc, slots := ms, locals := mi.2.2.2.2.2.1 } (fun v U => v = vs.toArray ∧ Γ.2.1.WarmedH U.vm ∧ wld Γ σ U.heap) (QO Γ Q) (XO Γ noX) mc ms (fr0 Γ)
theorem SpW_of (hΓ : Gd Γ) (hp : plainName mi.1.cls = true) (hn : (enl vs).length ≤ mi.2.2.1) (hL : enp vs mi.2.2.1 = L) (k : G Γ mi mi.2.1 Q noX mc ms 0 L [] σ) : SpW Γ mi mc ms vs σ Q := by
  refine vx_ofWH (cc := mi.2.1) (maxL := mi.2.2.1) (ret := mi.2.2.2.1) (hh := mi.2.2.2.2.2.2.1) hp rfl ?_
  intro p e s m args below meth c s₁ B hml hv
  obtain ⟨rfl, hW, hw⟩ := hv
  rw [lg_entry_eq]
  refine k p e _ s m _ below meth c s.heap [] 0 0 _ hΓ ⟨B.exec, B.bytes, hml, findClass_of_methodNamed B.named, B.returns, B.notSynchronized, hW, ⟨Nat.le_refl _, Nat.le_refl _⟩, hw.2.2.1, ?_, (name_of_methodNamed B.named B.method).1, ?_⟩ (by show 0 + mc ≤ mc; omega) (by show 0 + ms ≤ ms; omega) hw ⟨Nat.le_refl _, fun q h => by cases h⟩ (hL ▸ lh.entry vs hn)
  · have := hw.2.1; rw [← hw.1] at this; exact this
  · exact vx_table (x := mi.1) B (atoms_spec (ws := [Cond.codeWith mi.1 mi.2.1 mi.2.2.1 mi.2.2.2.1 mi.2.2.2.2.2.2.1]) B.pre _ List.mem_cons_self)
/-- a static call of a method that catches -/
theorem g_callSW (cs : CSW mi.1.cls idx mi') (d : De cc pc (.invokestatic idx) 3 pc') (sp : SpW Γ mi' mc ms As σ Q') (hh : mi.2.2.2.2.2.2.1 = []) (hst : As.reverse ++ S = S0) (hn : As.length = mi'.2.2.2.2.2.2.2) (hcat : (S.map fun v => v.category).sum ≤ 8) (hR : mi'.2.2.2.2.1 + 1 ≤ mi.2.2.2.2.1 ∧ 8 + (mi'.2.2.1 + 11) + mi'.2.2.2.2.2.1 ≤ mi.2.2.2.2.2.1) (h1 : rc' + mc ≤ rc) (h2 : rs' + ms ≤ rs) (kk : ∀ v σ', Q' v σ' → G Γ mi cc Q QX rc' rs' pc' L (v.toList ++ S) σ') : G Γ mi cc Q QX rc rs pc L S0 σ := by
  intro p e R s m args below meth c H locs cells slots ls hΓ C hc hs hw hS hl
  obtain ⟨d, rfl⟩ := d
  have hWm := C.2.2.2.2.2.2.1
  have hts : ∀ w ∈ GW, w.before args s = true := fun w h => hΓ.w h _ _ hWm
  have hR2 := C.2.2.2.2.2.2.2.1
  have hpre : ∀ U : State, U.heap = H → s.WarmedH U.vm → (As).toArray = (As).toArray ∧ Γ.2.1.WarmedH U.vm ∧ wld Γ σ U.heap := fun U hU hW => ⟨rfl, State.WarmedH.trans hWm hW, by rw [hU]; exact hw⟩
  obtain ⟨hlk, hcode, hinit, hstat, hoky⟩ := cs
  have hok := okY_spec hoky
  have hws : ∀ w ∈ [Cond.codeWith mi'.1 mi'.2.1 mi'.2.2.1 mi'.2.2.2.1 mi'.2.2.2.2.2.2.1], ∀ (a' : Array Value) (U : State), s.WarmedH U.vm → w.before a' U = true := fun w hw' a' U hW => by
    rw [List.mem_singleton] at hw'
    subst hw'
    exact hΓ.w hcode a' U (State.WarmedH.trans hWm hW)
  refine g_back (vx_runSX (hh := mi'.2.2.2.2.2.2.1) ⟨C.1, C.2.1, C.2.2.1, C.2.2.2.1, hts⟩ sp ⟨⟨rfl, rfl, by show mi'.2.2.2.2.1 + 1 ≤ _; omega, by show 8 + (mi'.2.2.1 + 11) + mi'.2.2.2.2.2.1 ≤ _; omega, hws, List.mem_singleton.mpr rfl⟩, hts _ hcode, hts _ hinit, ⟨hok.1, hok.2.1⟩, okY_len hoky, hts _ hlk, hts _ hstat⟩ ⟨g_blind, hpre⟩ rfl hn hl.2.1 hst.symm (by show 0 + _ ≤ 8; omega) d ⟨by omega, by omega⟩) hS (fun E σ' H1 locs1 q9 ce hq hw1 hS1 g1 g2 g3 => hq.elim) (fun v σ' H1 locs1 hq hw1 hS1 => ?_)
  exact kk v σ' hq p e R s m args below meth c H1 locs1 _ _ ls hΓ C (by omega) (by omega) hw1 hS1 hl
/-- where a throw is caught -/
def hdO (Γ : GT) (mi : MI) (pc : Nat) (E : String) (tgt : Nat) : Prop := ∃ (pre : List (Nat × Nat × Nat × Nat)) (x : Nat × Nat × Nat × Nat) (suf : List (Nat × Nat × Nat × Nat)), mi.2.2.2.2.2.2.1 = pre ++ x :: suf ∧ (∀ z ∈ pre, z.2.2.2 ≠ 0 ∧ ∃ nm : String, Cond.classLink mi.1.cls z.2.2.2 nm ∈ GW ∧ va_Nc E nm Γ.2.1) ∧ covers ⟨x.1, x.2.1, x.2.2.1, x.2.2.2⟩ pc = true ∧ x.2.2.2 ≠ 0 ∧ Cond.classLink mi.1.cls x.2.2.2 E ∈ GW ∧ Cond.castable E E ∈ GW ∧ x.2.2.1 = tgt
/-- a call whose throws are caught here -/
theorem g_callVC {b ci : Nat} {fs : List Value} {r : vw_C} (cs : CV mi.1.cls idx mi') (d : De cc pc (.invokevirtual idx) 3 pc') (sp : Sp Γ mi' mc ms (.ref b :: As) σ Q' QX') (hcell : σ.2 b = some (ob ci fs)) (hr : vwCl[ci]? = some r) (hrc : r.1 = mi'.1.cls) (hst : As.reverse ++ .ref b :: S = S0) (hn : As.length = mi'.2.2.2.2.2.2.2) (hcat : (S.map fun v => v.category).sum ≤ 8) (hR : mi'.2.2.2.2.1 + 1 ≤ mi.2.2.2.2.1 ∧ 8 + (mi'.2.2.1 + 11) + mi'.2.2.2.2.2.1 ≤ mi.2.2.2.2.2.1) (h1 : rc' + mc ≤ rc) (h2 : rs' + ms ≤ rs) (kx : ∀ E σ', QX' E σ' → ∃ tgt, hdO Γ mi pc E tgt ∧ ∀ q, G Γ mi cc Q QX rc' rs' tgt L [.ref q] σ') (kk : ∀ v σ', Q' v σ' → G Γ mi cc Q QX rc' rs' pc' L (v.toList ++ S) σ') : G Γ mi cc Q QX rc rs pc L S0 σ := by
  intro p e R s m args below meth c H locs cells slots ls hΓ C hc hs hw hS hl
  obtain ⟨d, rfl⟩ := d
  have hWm := C.2.2.2.2.2.2.1
  have hts : ∀ w ∈ GW, w.before args s = true := fun w h => hΓ.w h _ _ hWm
  have hR2 := C.2.2.2.2.2.2.2.1
  have hpre : ∀ U : State, U.heap = H → s.WarmedH U.vm → ((.ref b :: As)).toArray = ((.ref b :: As)).toArray ∧ Γ.2.1.WarmedH U.vm ∧ wld Γ σ U.heap := fun U hU hW => ⟨rfl, State.WarmedH.trans hWm hW, by rw [hU]; exact hw⟩
  obtain ⟨hlk, hcode, hinit, hinst, hsel, hoky⟩ := cs
  have hok := okY_spec hoky
  have hws : ∀ w ∈ [Cond.code mi'.1 mi'.2.1 mi'.2.2.1 mi'.2.2.2.1], ∀ (a' : Array Value) (U : State), s.WarmedH U.vm → w.before a' U = true := fun w hw' a' U hW => by
    rw [List.mem_singleton] at hw'
    subst hw'
    exact hΓ.w hcode a' U (State.WarmedH.trans hWm hW)
  have hrec : ∃ cellB : Cell, H[b]? = some cellB ∧ cellB.vm.isStatics = false ∧ s.vm.findClass mi'.1.cls = some cellB.cls := by
    obtain ⟨-, r', hr', -, cellV, g1, g2, g3, -⟩ := hw.2.2.2 b _ hcell
    have hK : va_K Γ.2.2 vwCl [] s := va_K.moved hWm.alike hΓ.2.1
    have hcls := (hK.1 ci r hr).2
    exact ⟨cellV, g1, by rw [g3]; rfl, by rw [g2, ← hrc]; exact hcls.1⟩
  refine g_back (vx_runV ⟨C.1, C.2.1, C.2.2.1, C.2.2.2.1, hts⟩ sp ⟨⟨rfl, rfl, by show mi'.2.2.2.2.1 + 1 ≤ _; omega, by show 8 + (mi'.2.2.1 + 11) + mi'.2.2.2.2.2.1 ≤ _; omega, hws, List.mem_singleton.mpr rfl, hts _ hcode, hts _ hinit, ⟨hok.1, hok.2.1⟩, okY_len hoky, hts _ hlk⟩, hts _ hinst, hts _ hsel⟩ ⟨g_blind, hrec, hpre⟩ rfl hn hl.2.1 hst.symm (by show 0 + _ ≤ 8; omega) d ⟨by omega, by omega⟩) hS (fun E σ' H1 locs1 q9 ce hq hw1 hS1 g1 g2 g3 => ?_) (fun v σ' H1 locs1 hq hw1 hS1 => ?_)
  · obtain ⟨tgt, ⟨pre, x, suf, e1, e2, e3, e4, e5, e6, e7⟩, hk⟩ := kx E σ' hq
    subst e7
    have htab : c.exceptionTable.toList = tableOf pre ++ ⟨x.1, x.2.1, x.2.2.1, x.2.2.2⟩ :: tableOf suf := by
      rw [C.2.2.2.2.2.2.2.2.2.2.2, e1]
      unfold tableOf
      rw [List.map_append, List.map_cons]
    refine vx_catch (own := mi.1.cls) (name := E) C.2.2.2.1 (tableOf pre) ⟨x.1, x.2.1, x.2.2.1, x.2.2.2⟩ (tableOf suf) htab (fun z hz => ?_) e3 e4 (hts _ e5) (hts _ e6) g1 g2 g3 ?_
    · obtain ⟨z', hz', rfl⟩ := List.mem_map.mp hz
      obtain ⟨y0, nm, y1, y2⟩ := e2 z' hz'
      exact Or.inr ⟨y0, nm, hts _ y1, va_Nc.moved hWm.alike y2⟩
    · exact hk q9 p e R s m args below meth c H1 locs1 _ _ ls hΓ C (by omega) (by omega) hw1 hS1 hl
  · exact kk v σ' hq p e R s m args below meth c H1 locs1 _ _ ls hΓ C (by omega) (by omega) hw1 hS1 hl
/-- behind a wrapper: 0 and the answer laid, or the number of what was thrown -/
def wQ (o : Nat) (g : Nat → BitVec 64) (QI : Int → AH → Prop) (XI : Nat → AH → Prop) : Option Value → AH → Prop := fun r σ' => (∃ v σ1, QI v σ1 ∧ r = some (.int (ii ((0 : Nat) : Int))) ∧ σ' = hput σ1 o (al 1 (va_up g 0 (BitVec.ofInt 64 (cn v))))) ∨ ∃ k : Nat, (1 ≤ k ∧ k ≤ 4) ∧ XI k σ' ∧ r = some (.int (ii (k : Int)))
def cQ (QI : Int → AH → Prop) : Option Value → AH → Prop := fun r σ' => ∃ v, r = some (.int (ii v)) ∧ QI v σ'
def cX (xs : List String) (XI : Nat → AH → Prop) : String → AH → Prop := fun E σ' => ∃ k, xs[k]? = some E ∧ XI (k + 1) σ'
end LB

