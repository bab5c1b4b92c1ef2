/-! rules for Strings of the start -/
section GS
variable {Γ : GT} {mi mi' : MI} {cc : ByteArray} {Q Q' : Option Value → AH → Prop} {QX QX' : String → AH → Prop} {rc rs rc' rs' mc ms pc pc' tgt idx : Nat} {L : List (Option Value)} {S0 S As : List Value} {σ : AH}
theorem g_ldcS {own tx : String} {q : Nat} (ho : mi.1.cls = own) (hk : vk_R own idx tx q Γ.2.1) (d : De cc pc (.ldc idx) 2 pc') (kk : G Γ mi cc Q QX rc rs pc' L (.ref q :: S) σ) : G Γ mi cc Q QX rc rs pc L S σ := by
  intro p e R s m args below meth c H locs cells slots ls hΓ C hc hs hw hS hl
  obtain ⟨d, rfl⟩ := d
  have h9 := kk p e R s m args below meth c H locs cells slots ls hΓ C hc hs hw hS hl
  subst ho
  exact va_ldcS C.1 C.2.1 C.2.2.2.1 (vk_R.warm C.2.2.2.2.2.2.1 hk) d h9
theorem g_getS {n d9 : String} {q : Nat} {v : Value} (hlk : Cond.fieldLink mi.1.cls idx "java/lang/String" n d9 ∈ GW) (hE : va_OF "java/lang/String" n d9 v q (fr0 Γ) Γ.2.1 Γ.2.1.heap) (d : De cc pc (.getfield idx) 3 pc') (kk : G Γ mi cc Q QX rc rs pc' L (v :: S) σ) : G Γ mi cc Q QX rc rs pc L (.ref q :: S) σ := by
  intro p e R s m args below meth c H locs cells slots ls hΓ C hc hs hw hS hl
  obtain ⟨d, rfl⟩ := d
  have h9 := kk p e R s m args below meth c H locs cells slots ls hΓ C hc hs hw hS hl
  have hWm := C.2.2.2.2.2.2.1
  exact vk_getf C.1 C.2.1 (va_OF.kept (va_OF.moved hWm.alike hE) (g_kept C)) (g_vaS C hw hS) C.2.2.2.1 (hΓ.w hlk _ _ hWm) (fun _ h => h) d h9
theorem g_blen {t n : Nat} {f : Nat → Int} (d : De cc pc (.arraylength) 1 pc') (hr : va_T .byte t n (fun j => .int (ii (f j))) (fr0 Γ) Γ.2.1 Γ.2.1.heap) (kk : G Γ mi cc Q QX rc rs pc' L (.int (ii n) :: S) σ) : G Γ mi cc Q QX rc rs pc L (.ref t :: S) σ := by
  intro p e R s m args below meth c H locs cells slots ls hΓ C hc hs hw hS hl
  obtain ⟨d, rfl⟩ := d
  have hk := kk p e R s m args below meth c H locs cells slots ls hΓ C hc hs hw hS hl
  have hWm := C.2.2.2.2.2.2.1
  have hT := va_T.kept (va_T.moved hWm.alike hr) (g_kept C)
  exact va_tlen C.1 C.2.1 hT (g_vaS C hw hS) rfl d hk
theorem g_bload {t n : Nat} {f : Nat → Int} {j : Int} (d : De cc pc (.baload) 1 pc') (hr : va_T .byte t n (fun j => .int (ii (f j))) (fr0 Γ) Γ.2.1 Γ.2.1.heap) (h0 : 0 ≤ j) (h1 : j < n) (hn : n < 2 ^ 31) (kk : G Γ mi cc Q QX rc rs pc' L (.int (ii (f j.toNat)) :: S) σ) : G Γ mi cc Q QX rc rs pc L (.int (ii j) :: .ref t :: S) σ := by
  intro p e R s m args below meth c H locs cells slots ls hΓ C hc hs hw hS hl
  obtain ⟨d, rfl⟩ := d
  have hk := kk p e R s m args below meth c H locs cells slots ls hΓ C hc hs hw hS hl
  have hWm := C.2.2.2.2.2.2.1
  have hT := va_T.kept (va_T.moved hWm.alike hr) (g_kept C)
  have hcl := ii_cl (a := j) ⟨by omega, by omega⟩
  exact va_tb C.1 C.2.1 hT (g_vaS C hw hS) (ii_in h0 h1 hn) (by rw [hcl]) d hk
/-- a call whose receiver is an object of the start -/
theorem g_callVS {b : Nat} (cs : CV mi.1.cls idx mi') (d : De cc pc (.invokevirtual idx) 3 pc') (sp : Sp Γ mi' mc ms (.ref b :: As) σ Q' QX') (hh : mi.2.2.2.2.2.2.1 = []) (hO : va_O mi'.1.cls b (fr0 Γ) Γ.2.1 Γ.2.1.heap) (hst : As.reverse ++ .ref b :: S = S0) (hn : As.length = mi'.2.2.2.2.2.2.2) (hcat : (S.map fun v => v.category).sum ≤ 8) (hR : mi'.2.2.2.2.1 + 1 ≤ mi.2.2.2.2.1 ∧ 8 + (mi'.2.2.1 + 11) + mi'.2.2.2.2.2.1 ≤ mi.2.2.2.2.2.1) (h1 : rc' + mc ≤ rc) (h2 : rs' + ms ≤ rs) (kx : ∀ E σ', QX' E σ' → QX E σ') (kk : ∀ v σ', Q' v σ' → G Γ mi cc Q QX rc' rs' pc' L (v.toList ++ S) σ') : G Γ mi cc Q QX rc rs pc L S0 σ := by
  intro p e R s m args below meth c H locs cells slots ls hΓ C hc hs hw hS hl
  obtain ⟨d, rfl⟩ := d
  have hWm := C.2.2.2.2.2.2.1
  have hts : ∀ w ∈ GW, w.before args s = true := fun w h => hΓ.w h _ _ hWm
  have hR2 := C.2.2.2.2.2.2.2.1
  have hpre : ∀ U : State, U.heap = H → s.WarmedH U.vm → ((.ref b :: As)).toArray = ((.ref b :: As)).toArray ∧ Γ.2.1.WarmedH U.vm ∧ wld Γ σ U.heap := fun U hU hW => ⟨rfl, State.WarmedH.trans hWm hW, by rw [hU]; exact hw⟩
  obtain ⟨hlk, hcode, hinit, hinst, hsel, hoky⟩ := cs
  have hok := okY_spec hoky
  have hws : ∀ w ∈ [Cond.code mi'.1 mi'.2.1 mi'.2.2.1 mi'.2.2.2.1], ∀ (a' : Array Value) (U : State), s.WarmedH U.vm → w.before a' U = true := fun w hw' a' U hW => by
    rw [List.mem_singleton] at hw'
    subst hw'
    exact hΓ.w hcode a' U (State.WarmedH.trans hWm hW)
  have hrec : ∃ cellB : Cell, H[b]? = some cellB ∧ cellB.vm.isStatics = false ∧ s.vm.findClass mi'.1.cls = some cellB.cls := by
    have hO2 := va_O.kept (va_O.moved hWm.alike hO) (g_kept C)
    obtain ⟨cell, q1, q2, q3, q4⟩ := hO2
    refine ⟨cell, ?_, q2, q3⟩
    rw [(g_vaS C hw hS).2.1 b (Array.getElem?_eq_some_iff.mp q1).1 q4]
    exact q1
  refine g_back (vx_runV ⟨C.1, C.2.1, C.2.2.1, C.2.2.2.1, hts⟩ sp ⟨⟨rfl, rfl, by show mi'.2.2.2.2.1 + 1 ≤ _; omega, by show 8 + (mi'.2.2.1 + 11) + mi'.2.2.2.2.2.1 ≤ _; omega, hws, List.mem_singleton.mpr rfl, hts _ hcode, hts _ hinit, ⟨hok.1, hok.2.1⟩, okY_len hoky, hts _ hlk⟩, hts _ hinst, hts _ hsel⟩ ⟨g_blind, hrec, hpre⟩ rfl hn hl.2.1 hst.symm (by show 0 + _ ≤ 8; omega) d ⟨by omega, by omega⟩) hS (fun E σ' H1 locs1 q9 ce hq hw1 hS1 g1 g2 g3 => g_xout C hh (kx E σ' hq) hw1 hS1 g1 g2 g3 (by omega) (by omega)) (fun v σ' H1 locs1 hq hw1 hS1 => ?_)
  exact kk v σ' hq p e R s m args below meth c H1 locs1 _ _ ls hΓ C (by omega) (by omega) hw1 hS1 hl
end GS
