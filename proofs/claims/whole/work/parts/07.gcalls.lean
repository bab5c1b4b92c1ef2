/-! calls and throws -/
theorem g_back {Γ : GT} {p : Program} {e : Env} {R : Room} {s : State} {m : MethodId} {args : Array Value} {below : List Frame} {meth : Method} {c : Code} {H : Heap} {locs : List Loc} {cells slots mc ms pc : Nat} {ls : Array Slot} {S0 S : List Value} {a9 : Array Value} {Z : State → Prop} {Q' : Option Value → AH → Prop} {QX' : String → AH → Prop}
    (hr : vx_Run p Γ.1 e R s m args below meth c H locs cells slots mc ms (F0 m pc ls S0) S (QO Γ Q' a9) (XO Γ QX') (fr0 Γ)) (hS : Sc Γ s H locs)
    (kx : ∀ (E : String) (σ' : AH) (H1 : Heap) (locs1 : List Loc) (q9 : Addr) (ce : Cell), QX' E σ' → wld Γ σ' H1 → Sc Γ s H1 locs1 → H1[q9]? = some ce → ce.vm = .none → s.vm.findClass E = some ce.cls → vx_W p Γ.1 e R s m args below meth c H1 locs1 (cells + mc) (slots + ms) Z (F0 m pc ls S) q9)
    (kk : ∀ (v : Option Value) (σ' : AH) (H1 : Heap) (locs1 : List Loc), Q' v σ' → wld Γ σ' H1 → Sc Γ s H1 locs1 → W p Γ.1 e R s m args below meth c H1 locs1 (cells + mc) (slots + ms) Z (F0 m (pc + 3) ls (v.toList ++ S))) :
    W p Γ.1 e R s m args below meth c H locs cells slots Z (F0 m pc ls S0) := by
  intro T hT X
  have hSc : ∀ (L : List Loc) (H1 : Heap), H.size ≤ H1.size → (∀ q ∈ L, fr0 Γ q.base) → Sc Γ s H1 (locs ++ L) := fun L H1 hz hL =>
    ⟨Nat.le_trans hS.1 hz, fun q hq => (List.mem_append.mp hq).elim (hS.2 q) (hL q)⟩
  rcases hr T hT X with ⟨v, st₀, t, T', L, h0, X', hL, e1, e2, ⟨r, σ', hv, hq, hw, hz⟩, st⟩ | ⟨q, st₀, t, T', L, E, ce, h0, X', hL, e1, e2, ⟨σ', hq, hw, hz⟩, hce, hcv, hcl, st⟩
  · cases hv
    rw [h0, ← e1] at hz
    obtain ⟨t2, a1, b1⟩ := kk v σ' T'.heap (locs ++ L) hq (by rw [e1]; exact hw) (hSc L _ hz hL) T' rfl X'
    exact ⟨t2, st t2 a1, b1⟩
  · rw [h0, ← e1] at hz
    obtain ⟨t2, a1, b1⟩ := kx E σ' T'.heap (locs ++ L) q ce hq (by rw [e1]; exact hw) (hSc L _ hz hL) (by rw [e1]; exact hce) hcv hcl T' rfl X'
    exact ⟨t2, st.trans a1, b1⟩
section GC
variable {Γ : GT} {mi mi' : MI} {cc : ByteArray} {Q Q' : Option Value → AH → Prop} {QX QX' : String → AH → Prop} {rc rs rc' rs' mc ms pc pc' tgt idx : Nat} {L : List (Option Value)} {S0 S As : List Value} {σ : AH}
theorem g_blind {vs : List Value} : FrameBlind (fun v U => v = vs.toArray ∧ Γ.2.1.WarmedH U.vm ∧ wld Γ σ U.heap) := fun _ _ _ _ h => h
theorem okY_spec {mi : MI} (h : okY mi = true) : mi.1.cls ≠ "java/lang/invoke/MethodHandle" ∧ mi.1.cls ≠ "java/lang/invoke/VarHandle" ∧ (parseMethodDescriptor mi.1.desc).map (fun d => d.parameters.length) = some mi.2.2.2.2.2.2.2 := by
  unfold okY at h
  simp only [Bool.and_eq_true, decide_eq_true_eq] at h
  exact ⟨h.1.1, h.1.2, h.2⟩
theorem okY_len {mi : MI} (h : okY mi = true) : ∀ sig, parseMethodDescriptor mi.1.desc = some sig → mi.2.2.2.2.2.2.2 = sig.parameters.length := fun sig hs => by
  have h2 := (okY_spec h).2.2
  rw [hs] at h2
  exact (Option.some.inj h2).symm
/-- not caught here -/
theorem g_xout {p : Program} {e : Env} {R : Room} {s : State} {m : MethodId} {args : Array Value} {below : List Frame} {meth : Method} {c : Code} {H1 : Heap} {locs1 : List Loc} {cells slots : Nat} {ls : Array Slot} {E : String} {σ' : AH} {q9 : Addr} {ce : Cell} (C : Cx Γ mi cc p R s m meth c) (hh : mi.2.2.2.2.2.2.1 = []) (hX : QX E σ') (hw : wld Γ σ' H1) (hS : Sc Γ s H1 locs1) (h1 : H1[q9]? = some ce) (h2 : ce.vm = .none) (h3 : s.vm.findClass E = some ce.cls) (hc : cells ≤ R.cells) (hs : slots ≤ R.slots) : vx_W p Γ.1 e R s m args below meth c H1 locs1 cells slots (vx_MQ below (QO Γ Q) (XO Γ QX) args s R.cells R.slots (fr0 Γ)) (F0 m pc ls S) q9 := by
  refine vx_out ?_ C.2.2.2.2.2.1 h1 h2 h3 (fun t ht _ => ⟨σ', hX, by rw [ht]; exact hw, by rw [ht]; exact hS.1⟩) hS.2 hc hs
  intro x hx
  rw [C.2.2.2.2.2.2.2.2.2.2.2, hh] at hx
  cases hx
theorem g_callV {b ci : Nat} {fs : List Value} {r : vw_C} (cs : CV mi.1.cls idx mi') (d : De cc pc (.invokevirtual idx) 3 pc') (sp : Sp Γ mi' mc ms (.ref b :: As) σ Q' QX') (hh : mi.2.2.2.2.2.2.1 = []) (hcell : σ.2 b = some (ob ci fs)) (hr : vwCl[ci]? = some r) (hrc : r.1 = mi'.1.cls) (hst : As.reverse ++ .ref b :: S = S0) (hn : As.length = mi'.2.2.2.2.2.2.2) (hcat : (S.map fun v => v.category).sum ≤ 8) (hR : mi'.2.2.2.2.1 + 1 ≤ mi.2.2.2.2.1 ∧ 8 + (mi'.2.2.1 + 11) + mi'.2.2.2.2.2.1 ≤ mi.2.2.2.2.2.1) (h1 : rc' + mc ≤ rc) (h2 : rs' + ms ≤ rs) (kx : ∀ E σ', QX' E σ' → QX E σ') (kk : ∀ v σ', Q' v σ' → G Γ mi cc Q QX rc' rs' pc' L (v.toList ++ S) σ') : G Γ mi cc Q QX rc rs pc L S0 σ := by
  intro p e R s m args below meth c H locs cells slots ls hΓ C hc hs hw hS hl
  obtain ⟨d, rfl⟩ := d
  have hWm := C.2.2.2.2.2.2.1
  have hts : ∀ w ∈ GW, w.before args s = true := fun w h => hΓ.w h _ _ hWm
  have hR2 := C.2.2.2.2.2.2.2.1
  have hpre : ∀ U : State, U.heap = H → s.WarmedH U.vm → ((.ref b :: As)).toArray = ((.ref b :: As)).toArray ∧ Γ.2.1.WarmedH U.vm ∧ wld Γ σ U.heap := fun U hU hW => ⟨rfl, State.WarmedH.trans hWm hW, by rw [hU]; exact hw⟩
  obtain ⟨hlk, hcode, hinit, hinst, hsel, hoky⟩ := cs
  have hok := okY_spec hoky
  have hws : ∀ w ∈ [Cond.code mi'.1 mi'.2.1 mi'.2.2.1 mi'.2.2.2.1], ∀ (a' : Array Value) (U : State), s.WarmedH U.vm → w.before a' U = true := fun w hw' a' U hW => by
    rw [List.mem_singleton] at hw'
    subst hw'
    exact hΓ.w hcode a' U (State.WarmedH.trans hWm hW)
  have hrec : ∃ cellB : Cell, H[b]? = some cellB ∧ cellB.vm.isStatics = false ∧ s.vm.findClass mi'.1.cls = some cellB.cls := by
    obtain ⟨-, r', hr', -, cellV, g1, g2, g3, -⟩ := hw.2.2.2 b _ hcell
    have hK : va_K Γ.2.2 vwCl [] s := va_K.moved hWm.alike hΓ.2.1
    have hcls := (hK.1 ci r hr).2
    exact ⟨cellV, g1, by rw [g3]; rfl, by rw [g2, ← hrc]; exact hcls.1⟩
  refine g_back (vx_runV ⟨C.1, C.2.1, C.2.2.1, C.2.2.2.1, hts⟩ sp ⟨⟨rfl, rfl, by show mi'.2.2.2.2.1 + 1 ≤ _; omega, by show 8 + (mi'.2.2.1 + 11) + mi'.2.2.2.2.2.1 ≤ _; omega, hws, List.mem_singleton.mpr rfl, hts _ hcode, hts _ hinit, ⟨hok.1, hok.2.1⟩, okY_len hoky, hts _ hlk⟩, hts _ hinst, hts _ hsel⟩ ⟨g_blind, hrec, hpre⟩ rfl hn hl.2.1 hst.symm (by show 0 + _ ≤ 8; omega) d ⟨by omega, by omega⟩) hS (fun E σ' H1 locs1 q9 ce hq hw1 hS1 g1 g2 g3 => g_xout C hh (kx E σ' hq) hw1 hS1 g1 g2 g3 (by omega) (by omega)) (fun v σ' H1 locs1 hq hw1 hS1 => ?_)
  exact kk v σ' hq p e R s m args below meth c H1 locs1 _ _ ls hΓ C (by omega) (by omega) hw1 hS1 hl
theorem g_callVN {b ci : Nat} {fs : List Value} {r : vw_C} (cs : CVN mi.1.cls idx mi') (d : De cc pc (.invokevirtual idx) 3 pc') (sp : Sp Γ mi' mc ms (.ref b :: As) σ Q' QX') (hh : mi.2.2.2.2.2.2.1 = []) (hcell : σ.2 b = some (ob ci fs)) (hr : vwCl[ci]? = some r) (hrc : r.1 = mi'.1.cls) (hst : As.reverse ++ .ref b :: S = S0) (hn : As.length = mi'.2.2.2.2.2.2.2) (hcat : (S.map fun v => v.category).sum ≤ 8) (hR : mi'.2.2.2.2.1 + 1 ≤ mi.2.2.2.2.1 ∧ 8 + (mi'.2.2.1 + 11) + mi'.2.2.2.2.2.1 ≤ mi.2.2.2.2.2.1) (h1 : rc' + mc ≤ rc) (h2 : rs' + ms ≤ rs) (kx : ∀ E σ', QX' E σ' → QX E σ') (kk : ∀ v σ', Q' v σ' → G Γ mi cc Q QX rc' rs' pc' L (v.toList ++ S) σ') : G Γ mi cc Q QX rc rs pc L S0 σ := by
  intro p e R s m args below meth c H locs cells slots ls hΓ C hc hs hw hS hl
  obtain ⟨d, rfl⟩ := d
  have hWm := C.2.2.2.2.2.2.1
  have hts : ∀ w ∈ GW, w.before args s = true := fun w h => hΓ.w h _ _ hWm
  have hR2 := C.2.2.2.2.2.2.2.1
  have hpre : ∀ U : State, U.heap = H → s.WarmedH U.vm → ((.ref b :: As)).toArray = ((.ref b :: As)).toArray ∧ Γ.2.1.WarmedH U.vm ∧ wld Γ σ U.heap := fun U hU hW => ⟨rfl, State.WarmedH.trans hWm hW, by rw [hU]; exact hw⟩
  obtain ⟨⟨host, hlk⟩, hcode, hinit, hinst, hsel, hoky⟩ := cs
  have hok := okY_spec hoky
  have hws : ∀ w ∈ [Cond.code mi'.1 mi'.2.1 mi'.2.2.1 mi'.2.2.2.1], ∀ (a' : Array Value) (U : State), s.WarmedH U.vm → w.before a' U = true := fun w hw' a' U hW => by
    rw [List.mem_singleton] at hw'
    subst hw'
    exact hΓ.w hcode a' U (State.WarmedH.trans hWm hW)
  have hrec : ∃ cellB : Cell, H[b]? = some cellB ∧ cellB.vm.isStatics = false ∧ s.vm.findClass mi'.1.cls = some cellB.cls := by
    obtain ⟨-, r', hr', -, cellV, g1, g2, g3, -⟩ := hw.2.2.2 b _ hcell
    have hK : va_K Γ.2.2 vwCl [] s := va_K.moved hWm.alike hΓ.2.1
    have hcls := (hK.1 ci r hr).2
    exact ⟨cellV, g1, by rw [g3]; rfl, by rw [g2, ← hrc]; exact hcls.1⟩
  refine g_back (vx_runVN ⟨C.1, C.2.1, C.2.2.1, C.2.2.2.1, hts⟩ sp ⟨⟨⟨rfl, rfl, by show mi'.2.2.2.2.1 + 1 ≤ _; omega, by show 8 + (mi'.2.2.1 + 11) + mi'.2.2.2.2.2.1 ≤ _; omega, hws, List.mem_singleton.mpr rfl⟩, hts _ hcode, hts _ hinit, ⟨hok.1, hok.2.1⟩, okY_len hoky, hts _ hlk⟩, hts _ hinst, hts _ hsel⟩ ⟨g_blind, hrec, hpre⟩ rfl hn hl.2.1 hst.symm (by show 0 + _ ≤ 8; omega) d ⟨by omega, by omega⟩) hS (fun E σ' H1 locs1 q9 ce hq hw1 hS1 g1 g2 g3 => g_xout C hh (kx E σ' hq) hw1 hS1 g1 g2 g3 (by omega) (by omega)) (fun v σ' H1 locs1 hq hw1 hS1 => ?_)
  exact kk v σ' hq p e R s m args below meth c H1 locs1 _ _ ls hΓ C (by omega) (by omega) hw1 hS1 hl
theorem g_callS (cs : CS mi.1.cls idx mi') (d : De cc pc (.invokestatic idx) 3 pc') (sp : Sp Γ mi' mc ms As σ Q' QX') (hh : mi.2.2.2.2.2.2.1 = []) (hst : As.reverse ++ S = S0) (hn : As.length = mi'.2.2.2.2.2.2.2) (hcat : (S.map fun v => v.category).sum ≤ 8) (hR : mi'.2.2.2.2.1 + 1 ≤ mi.2.2.2.2.1 ∧ 8 + (mi'.2.2.1 + 11) + mi'.2.2.2.2.2.1 ≤ mi.2.2.2.2.2.1) (h1 : rc' + mc ≤ rc) (h2 : rs' + ms ≤ rs) (kx : ∀ E σ', QX' E σ' → QX E σ') (kk : ∀ v σ', Q' v σ' → G Γ mi cc Q QX rc' rs' pc' L (v.toList ++ S) σ') : G Γ mi cc Q QX rc rs pc L S0 σ := by
  intro p e R s m args below meth c H locs cells slots ls hΓ C hc hs hw hS hl
  obtain ⟨d, rfl⟩ := d
  have hWm := C.2.2.2.2.2.2.1
  have hts : ∀ w ∈ GW, w.before args s = true := fun w h => hΓ.w h _ _ hWm
  have hR2 := C.2.2.2.2.2.2.2.1
  have hpre : ∀ U : State, U.heap = H → s.WarmedH U.vm → (As).toArray = (As).toArray ∧ Γ.2.1.WarmedH U.vm ∧ wld Γ σ U.heap := fun U hU hW => ⟨rfl, State.WarmedH.trans hWm hW, by rw [hU]; exact hw⟩
  obtain ⟨hlk, hcode, hinit, hstat, hoky⟩ := cs
  have hok := okY_spec hoky
  have hws : ∀ w ∈ [Cond.code mi'.1 mi'.2.1 mi'.2.2.1 mi'.2.2.2.1], ∀ (a' : Array Value) (U : State), s.WarmedH U.vm → w.before a' U = true := fun w hw' a' U hW => by
    rw [List.mem_singleton] at hw'
    subst hw'
    exact hΓ.w hcode a' U (State.WarmedH.trans hWm hW)

  refine g_back (vx_runS ⟨C.1, C.2.1, C.2.2.1, C.2.2.2.1, hts⟩ sp ⟨⟨rfl, rfl, by show mi'.2.2.2.2.1 + 1 ≤ _; omega, by show 8 + (mi'.2.2.1 + 11) + mi'.2.2.2.2.2.1 ≤ _; omega, hws, List.mem_singleton.mpr rfl, hts _ hcode, hts _ hinit, ⟨hok.1, hok.2.1⟩, okY_len hoky, hts _ hlk⟩, hts _ hstat⟩ ⟨g_blind, hpre⟩ rfl hn hl.2.1 hst.symm (by show 0 + _ ≤ 8; omega) d ⟨by omega, by omega⟩) hS (fun E σ' H1 locs1 q9 ce hq hw1 hS1 g1 g2 g3 => g_xout C hh (kx E σ' hq) hw1 hS1 g1 g2 g3 (by omega) (by omega)) (fun v σ' H1 locs1 hq hw1 hS1 => ?_)
  exact kk v σ' hq p e R s m args below meth c H1 locs1 _ _ ls hΓ C (by omega) (by omega) hw1 hS1 hl
theorem g_callSN (cs : CSN mi.1.cls idx mi') (d : De cc pc (.invokestatic idx) 3 pc') (sp : Sp Γ mi' mc ms As σ Q' QX') (hh : mi.2.2.2.2.2.2.1 = []) (hst : As.reverse ++ S = S0) (hn : As.length = mi'.2.2.2.2.2.2.2) (hcat : (S.map fun v => v.category).sum ≤ 8) (hR : mi'.2.2.2.2.1 + 1 ≤ mi.2.2.2.2.1 ∧ 8 + (mi'.2.2.1 + 11) + mi'.2.2.2.2.2.1 ≤ mi.2.2.2.2.2.1) (h1 : rc' + mc ≤ rc) (h2 : rs' + ms ≤ rs) (kx : ∀ E σ', QX' E σ' → QX E σ') (kk : ∀ v σ', Q' v σ' → G Γ mi cc Q QX rc' rs' pc' L (v.toList ++ S) σ') : G Γ mi cc Q QX rc rs pc L S0 σ := by
  intro p e R s m args below meth c H locs cells slots ls hΓ C hc hs hw hS hl
  obtain ⟨d, rfl⟩ := d
  have hWm := C.2.2.2.2.2.2.1
  have hts : ∀ w ∈ GW, w.before args s = true := fun w h => hΓ.w h _ _ hWm
  have hR2 := C.2.2.2.2.2.2.2.1
  have hpre : ∀ U : State, U.heap = H → s.WarmedH U.vm → (As).toArray = (As).toArray ∧ Γ.2.1.WarmedH U.vm ∧ wld Γ σ U.heap := fun U hU hW => ⟨rfl, State.WarmedH.trans hWm hW, by rw [hU]; exact hw⟩
  obtain ⟨⟨host, hlk⟩, hcode, hinit, hstat, hoky⟩ := cs
  have hok := okY_spec hoky
  have hws : ∀ w ∈ [Cond.code mi'.1 mi'.2.1 mi'.2.2.1 mi'.2.2.2.1], ∀ (a' : Array Value) (U : State), s.WarmedH U.vm → w.before a' U = true := fun w hw' a' U hW => by
    rw [List.mem_singleton] at hw'
    subst hw'
    exact hΓ.w hcode a' U (State.WarmedH.trans hWm hW)

  refine g_back (vx_runSN ⟨C.1, C.2.1, C.2.2.1, C.2.2.2.1, hts⟩ sp ⟨⟨⟨rfl, rfl, by show mi'.2.2.2.2.1 + 1 ≤ _; omega, by show 8 + (mi'.2.2.1 + 11) + mi'.2.2.2.2.2.1 ≤ _; omega, hws, List.mem_singleton.mpr rfl⟩, hts _ hcode, hts _ hinit, ⟨hok.1, hok.2.1⟩, okY_len hoky, hts _ hlk⟩, hts _ hstat, trivial⟩ ⟨g_blind, hpre⟩ rfl hn hl.2.1 hst.symm (by show 0 + _ ≤ 8; omega) d ⟨by omega, by omega⟩) hS (fun E σ' H1 locs1 q9 ce hq hw1 hS1 g1 g2 g3 => g_xout C hh (kx E σ' hq) hw1 hS1 g1 g2 g3 (by omega) (by omega)) (fun v σ' H1 locs1 hq hw1 hS1 => ?_)
  exact kk v σ' hq p e R s m args below meth c H1 locs1 _ _ ls hΓ C (by omega) (by omega) hw1 hS1 hl
theorem g_callI {b : Nat} (cs : CI mi.1.cls idx mi') (d : De cc pc (.invokespecial idx) 3 pc') (sp : Sp Γ mi' mc ms (.ref b :: As) σ Q' QX') (hh : mi.2.2.2.2.2.2.1 = []) (hini : mi'.1.name = "<init>") (hret : mi'.2.2.2.1 = none) (hst : As.reverse ++ .ref b :: S = S0) (hn : As.length = mi'.2.2.2.2.2.2.2) (hcat : (S.map fun v => v.category).sum ≤ 8) (hR : mi'.2.2.2.2.1 + 1 ≤ mi.2.2.2.2.1 ∧ 8 + (mi'.2.2.1 + 11) + mi'.2.2.2.2.2.1 ≤ mi.2.2.2.2.2.1) (h1 : rc' + mc ≤ rc) (h2 : rs' + ms ≤ rs) (kx : ∀ E σ', QX' E σ' → QX E σ') (kk : ∀ v σ', Q' v σ' → G Γ mi cc Q QX rc' rs' pc' L (v.toList ++ S) σ') : G Γ mi cc Q QX rc rs pc L S0 σ := by
  intro p e R s m args below meth c H locs cells slots ls hΓ C hc hs hw hS hl
  obtain ⟨d, rfl⟩ := d
  have hWm := C.2.2.2.2.2.2.1
  have hts : ∀ w ∈ GW, w.before args s = true := fun w h => hΓ.w h _ _ hWm
  have hR2 := C.2.2.2.2.2.2.2.1
  have hpre : ∀ U : State, U.heap = H → s.WarmedH U.vm → ((.ref b :: As)).toArray = ((.ref b :: As)).toArray ∧ Γ.2.1.WarmedH U.vm ∧ wld Γ σ U.heap := fun U hU hW => ⟨rfl, State.WarmedH.trans hWm hW, by rw [hU]; exact hw⟩
  obtain ⟨hlk, hcode, hinit, hinst, hoky⟩ := cs
  have hok := okY_spec hoky
  have hws : ∀ w ∈ [Cond.code mi'.1 mi'.2.1 mi'.2.2.1 mi'.2.2.2.1], ∀ (a' : Array Value) (U : State), s.WarmedH U.vm → w.before a' U = true := fun w hw' a' U hW => by
    rw [List.mem_singleton] at hw'
    subst hw'
    exact hΓ.w hcode a' U (State.WarmedH.trans hWm hW)

  refine g_back (vx_runI ⟨C.1, C.2.1, C.2.2.1, C.2.2.2.1, hts⟩ sp ⟨⟨rfl, rfl, by show mi'.2.2.2.2.1 + 1 ≤ _; omega, by show 8 + (mi'.2.2.1 + 11) + mi'.2.2.2.2.2.1 ≤ _; omega, hws, by rw [← hret]; exact List.mem_singleton.mpr rfl, by rw [← hret]; exact hts _ hcode, hts _ hinit, ⟨hok.1, hok.2.1⟩, okY_len hoky, hts _ hlk⟩, hini, hts _ hinst⟩ ⟨g_blind, hpre⟩ rfl hn hl.2.1 hst.symm (by show 0 + _ ≤ 8; omega) d ⟨by omega, by omega⟩) hS (fun E σ' H1 locs1 q9 ce hq hw1 hS1 g1 g2 g3 => g_xout C hh (kx E σ' hq) hw1 hS1 g1 g2 g3 (by omega) (by omega)) (fun v σ' H1 locs1 hq hw1 hS1 => ?_)
  exact kk v σ' hq p e R s m args below meth c H1 locs1 _ _ ls hΓ C (by omega) (by omega) hw1 hS1 hl
theorem g_callIN {b : Nat} (cs : CIN mi.1.cls idx mi') (d : De cc pc (.invokespecial idx) 3 pc') (sp : Sp Γ mi' mc ms (.ref b :: As) σ Q' QX') (hh : mi.2.2.2.2.2.2.1 = []) (hini : mi'.1.name = "<init>") (hret : mi'.2.2.2.1 = none) (hst : As.reverse ++ .ref b :: S = S0) (hn : As.length = mi'.2.2.2.2.2.2.2) (hcat : (S.map fun v => v.category).sum ≤ 8) (hR : mi'.2.2.2.2.1 + 1 ≤ mi.2.2.2.2.1 ∧ 8 + (mi'.2.2.1 + 11) + mi'.2.2.2.2.2.1 ≤ mi.2.2.2.2.2.1) (h1 : rc' + mc ≤ rc) (h2 : rs' + ms ≤ rs) (kx : ∀ E σ', QX' E σ' → QX E σ') (kk : ∀ v σ', Q' v σ' → G Γ mi cc Q QX rc' rs' pc' L (v.toList ++ S) σ') : G Γ mi cc Q QX rc rs pc L S0 σ := by
  intro p e R s m args below meth c H locs cells slots ls hΓ C hc hs hw hS hl
  obtain ⟨d, rfl⟩ := d
  have hWm := C.2.2.2.2.2.2.1
  have hts : ∀ w ∈ GW, w.before args s = true := fun w h => hΓ.w h _ _ hWm
  have hR2 := C.2.2.2.2.2.2.2.1
  have hpre : ∀ U : State, U.heap = H → s.WarmedH U.vm → ((.ref b :: As)).toArray = ((.ref b :: As)).toArray ∧ Γ.2.1.WarmedH U.vm ∧ wld Γ σ U.heap := fun U hU hW => ⟨rfl, State.WarmedH.trans hWm hW, by rw [hU]; exact hw⟩
  obtain ⟨⟨host, hlk⟩, hcode, hinit, hinst, hoky⟩ := cs
  have hok := okY_spec hoky
  have hws : ∀ w ∈ [Cond.code mi'.1 mi'.2.1 mi'.2.2.1 mi'.2.2.2.1], ∀ (a' : Array Value) (U : State), s.WarmedH U.vm → w.before a' U = true := fun w hw' a' U hW => by
    rw [List.mem_singleton] at hw'
    subst hw'
    exact hΓ.w hcode a' U (State.WarmedH.trans hWm hW)

  refine g_back (vx_runIN ⟨C.1, C.2.1, C.2.2.1, C.2.2.2.1, hts⟩ sp ⟨⟨⟨rfl, rfl, by show mi'.2.2.2.2.1 + 1 ≤ _; omega, by show 8 + (mi'.2.2.1 + 11) + mi'.2.2.2.2.2.1 ≤ _; omega, hws, by rw [← hret]; exact List.mem_singleton.mpr rfl⟩, by rw [← hret]; exact hts _ hcode, hts _ hinit, ⟨hok.1, hok.2.1⟩, okY_len hoky, hts _ hlk⟩, hini, hts _ hinst⟩ ⟨g_blind, hpre⟩ rfl hn hl.2.1 hst.symm (by show 0 + _ ≤ 8; omega) d ⟨by omega, by omega⟩) hS (fun E σ' H1 locs1 q9 ce hq hw1 hS1 g1 g2 g3 => g_xout C hh (kx E σ' hq) hw1 hS1 g1 g2 g3 (by omega) (by omega)) (fun v σ' H1 locs1 hq hw1 hS1 => ?_)
  exact kk v σ' hq p e R s m args below meth c H1 locs1 _ _ ls hΓ C (by omega) (by omega) hw1 hS1 hl
theorem Gd.zq {Γ : GT} (h : Gd Γ) {n d : String} (h1 : Cond.laysStatic Bundle.tN n d ∈ lw_tbl) (h2 : Cond.initialized Bundle.tN ∈ lw_tbl) (h3 : Cond.isRef (.static Bundle.tN n d) ∈ flatC narrow_1) : vx_Zq Bundle.tN n d (fr0 Γ) Γ.2.1 Γ.2.1.heap := by
  obtain ⟨⟨a0, h0, hn⟩, -⟩ := h
  exact vx_Zqof (h0 _ h1) (h0 _ h2) (flat_of_before _ hn _ h3) (fun a ha => Nat.not_le.mpr ha)
theorem zq_1 : Cond.laysStatic Bundle.tN "UNASSIGNED_STACK" Bundle.steD ∈ lw_tbl := by decide +kernel
theorem zq_2 : Cond.laysStatic Bundle.tN "SUPPRESSED_SENTINEL" Bundle.listD ∈ lw_tbl := by decide +kernel
theorem zq_3 : Cond.initialized Bundle.tN ∈ lw_tbl := by decide +kernel
theorem zq_4 : Cond.isRef (.static Bundle.tN "UNASSIGNED_STACK" Bundle.steD) ∈ flatC narrow_1 := by decide +kernel
theorem zq_5 : Cond.isRef (.static Bundle.tN "SUPPRESSED_SENTINEL" Bundle.listD) ∈ flatC narrow_1 := by decide +kernel
theorem g_throw {ik ic : Nat} {X : String} (th : TH mi.1.cls ik ic X) (d0 : decode cc pc = .ok (.new ik, 3)) (d3 : decode cc (pc + 3) = .ok (.dup, 1)) (d4 : decode cc (pc + 4) = .ok (.invokespecial ic, 3)) (d7 : decode cc (pc + 7) = .ok (.athrow, 1)) (hh : mi.2.2.2.2.2.2.1 = []) (hR : 6 ≤ mi.2.2.2.2.1 ∧ 89 ≤ mi.2.2.2.2.2.1) (hcat : (S.map fun v => v.category).sum ≤ 8) (h1 : 1 ≤ rc) (h2 : 6 ≤ rs) (hX : ∀ z, σ.1 ≤ z → QX X (z, σ.2)) : G Γ mi cc Q QX rc rs pc L S σ := by
  intro p e R s m args below meth c H locs cells slots ls hΓ C hc hs hw hS hl
  have hWm := C.2.2.2.2.2.2.1
  have hts : ∀ w ∈ GW, w.before args s = true := fun w h => hΓ.w h _ _ hWm
  have hR2 := C.2.2.2.2.2.2.2.1
  obtain ⟨hfit, hlk, hini, hat, hgood⟩ := th
  have hq : ∀ a : Nat, a < Γ.2.1.heap.size → ¬ fr0 Γ a → s.heap[a]? = Γ.2.1.heap[a]? := fun a ha _ => C.2.2.2.2.2.2.2.2.1 a ha
  refine vx_throw0 (A := fr0 Γ) (names := xnames) C.1 C.2.1 hΓ.2.2 C.2.2.2.1 hfit xn_fit (hts _ hlk) (hts _ hini) (fun w h => hts w (hat w h)) hgood (((hΓ.zq zq_1 zq_3 zq_4).moved hWm.alike).kept hq) (((hΓ.zq zq_2 zq_3 zq_5).moved hWm.alike).kept hq) ?_ (hl.2.1.trans C.2.2.1.symm) d0 d3 d4 d7 ?_ (by show 2 + 3 < R.frames; omega) (by show _ + (13 * (2 + 1) + 42) ≤ R.locals; omega) (by omega) (by omega) C.2.2.2.2.2.1 ?_ hS.2 (by omega) (by omega)
  · refine ⟨hS.1, fun q h1 h2 => ?_, hS.2⟩
    have h3 : q < Γ.2.1.heap.size := Nat.not_le.mp h2
    rw [hw.2.2.1 q h3]
    exact (C.2.2.2.2.2.2.2.2.1 q h3).symm
  · intro x hx
    rw [C.2.2.2.2.2.2.2.2.2.2.2, hh] at hx
    cases hx
  · intro t hvm hz ho
    have hg := hw.grow hz ho
    exact ⟨_, hX t.heap.size (by rw [← hw.1]; exact hz), hg, Nat.le_trans hS.1 hz⟩
end GC
