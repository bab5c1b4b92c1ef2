/-! THE CLAIM OUT OF ONE WALK OF THE LAW'S BODY. Your part is whole_start (and what it stands on); all else here is the same for every law, but numbers. -/
def R_law : String := "CartPathsLaw"
def lw_P (b : Addr) (xs : List Int32) (args : Array Value) (s : State) : Prop := args = #[.ref b] ∧ s.IntsAt b xs ∧ xs.length ≤ 3072 ∧ (Jvm.Cond.and given_1 narrow_1).before args s = true
/-- what a walk over the start with the record d0 says of its end, said of the start itself -/
theorem lw_closed {s t : State} {o : Outcome} {d0 : Drawn} {L : List Loc} {k n : Nat} (hd0 : s.drawn.sameBut d0 lw_cs) (hv : ∃ v, o = .returned v) (hW : (s.setDrawn d0).WarmedH t.vm) (hs : (s.setDrawn d0).sameButNew ({ t with vm := s.vm } : State) L k n) : State.butDraws s t lw_cs (fun t1 => Framed s o t1 L k n) := by
  have h2 : t.drawn = d0 := congrArg State.drawn hs.1
  refine ⟨⟨hv, hW, State.sameButNew.setDrawn hs s.drawn⟩, ?_, by decide⟩
  rw [h2]
  exact hd0
def lw_Q (_ : Array Value) (s : State) (o : Outcome) (t : State) : Prop := o = .returned (some (.int 1)) ∧ State.butDraws s t lw_cs (fun t1 => Framed s o t1 [] 601024 7293034)
def lw_Z (below : List Frame) (a : Array Value) (s : State) : State → Prop := fun t => ∃ o, t.status = .running ∧ Ended t below o ∧ lw_Q a s o t
/-- what holds at the law's entry: the machine, the code, the tables' words (any of lw_tbl by 'hts w (by decide +kernel)'), the script of L ints xs at the cell b, what the Statement gives of the start (any of its parts by flat_of_before) -/
def lw_At (p : Program) (s : State) (m : MethodId) (meth : Method) (c : Code) (b L : Nat) (xs : Nat → Int32) : Prop :=
  p.tables.exec = Jvm.exec ∧ c.code = code ∧ meth.sig.returnType = ret ∧ c.maxLocals = 7 ∧ s.vm.findClass R_law = some m.cls ∧ (∀ w ∈ lw_tbl, w.before #[Value.ref b] s = true) ∧ va_X b L xs s s.heap ∧ b < s.heap.size ∧ meth.locks = false ∧ (Jvm.Cond.and given_1 narrow_1).before #[Value.ref b] s = true
theorem kn_all {s : State} {a : Array Value} (hts : ∀ w ∈ lw_tbl, w.before a s = true) : ∃ F : Nat → ClassId × (Nat → Nat), ∀ (k : Nat) (q : vw_C), vwCl[k]? = some q → u_Kn s q.1 q.2.1 q.2.2 (F k).1 (F k).2 := by
  have hG : ∀ w ∈ GW, w.before a s = true := fun w hw => gw_all hts w hw a s (State.WarmedH.refl s)
  obtain ⟨c0, i0, K0⟩ := u_known (C := RX0) (T := TX0) (N := 4) (n := 4) hG inG_X0 (hG _ gw_260)
  obtain ⟨c1, i1, K1⟩ := u_known (C := RX1) (T := TX1) (N := 12) (n := 12) hG inG_X1 (hG _ gw_1116)
  obtain ⟨c2, i2, K2⟩ := u_known (C := RX2) (T := TX2) (N := 9) (n := 9) hG inG_X2 (hG _ gw_177)
  obtain ⟨c3, i3, K3⟩ := u_known (C := RX3) (T := TX3) (N := 3) (n := 3) hG inG_X3 (hG _ gw_280)
  obtain ⟨c4, i4, K4⟩ := u_known (C := RX4) (T := TX4) (N := 2) (n := 2) hG inG_X4 (hG _ gw_429)
  obtain ⟨c5, i5, K5⟩ := u_known (C := RX5) (T := TX5) (N := 6) (n := 6) hG inG_X5 (hG _ gw_171)
  obtain ⟨c6, i6, K6⟩ := u_known (C := RX6) (T := TX6) (N := 10) (n := 10) hG inG_X6 (hG _ gw_343)
  obtain ⟨c7, i7, K7⟩ := u_known (C := RX7) (T := TX7) (N := 7) (n := 7) hG inG_X7 (hG _ gw_392)
  obtain ⟨c8, i8, K8⟩ := u_known (C := RX8) (T := TX8) (N := 7) (n := 7) hG inG_X8 (hG _ gw_296)
  obtain ⟨c9, i9, K9⟩ := u_known (C := RX9) (T := TX9) (N := 14) (n := 14) hG inG_X9 (hG _ gw_163)
  obtain ⟨c10, i10, K10⟩ := u_known (C := RX10) (T := TX10) (N := 56) (n := 56) hG inG_X10 (hG _ gw_1478)
  refine Classical.axiomOfChoice (r := fun k (y : ClassId × (Nat → Nat)) => ∀ q : vw_C, vwCl[k]? = some q → u_Kn s q.1 q.2.1 q.2.2 y.1 y.2) (fun k => ?_)
  match k with
  | 0 => exact ⟨(c0, i0), fun q hq => by have e : some (RX0, TX0, 4) = some q := hq; cases e; exact K0⟩
  | 1 => exact ⟨(c1, i1), fun q hq => by have e : some (RX1, TX1, 12) = some q := hq; cases e; exact K1⟩
  | 2 => exact ⟨(c2, i2), fun q hq => by have e : some (RX2, TX2, 9) = some q := hq; cases e; exact K2⟩
  | 3 => exact ⟨(c3, i3), fun q hq => by have e : some (RX3, TX3, 3) = some q := hq; cases e; exact K3⟩
  | 4 => exact ⟨(c4, i4), fun q hq => by have e : some (RX4, TX4, 2) = some q := hq; cases e; exact K4⟩
  | 5 => exact ⟨(c5, i5), fun q hq => by have e : some (RX5, TX5, 6) = some q := hq; cases e; exact K5⟩
  | 6 => exact ⟨(c6, i6), fun q hq => by have e : some (RX6, TX6, 10) = some q := hq; cases e; exact K6⟩
  | 7 => exact ⟨(c7, i7), fun q hq => by have e : some (RX7, TX7, 7) = some q := hq; cases e; exact K7⟩
  | 8 => exact ⟨(c8, i8), fun q hq => by have e : some (RX8, TX8, 7) = some q := hq; cases e; exact K8⟩
  | 9 => exact ⟨(c9, i9), fun q hq => by have e : some (RX9, TX9, 14) = some q := hq; cases e; exact K9⟩
  | 10 => exact ⟨(c10, i10), fun q hq => by have e : some (RX10, TX10, 56) = some q := hq; cases e; exact K10⟩
  | k + 11 => exact ⟨(c0, i0), fun q hq => by rw [List.getElem?_eq_none (by show 11 ≤ k + 11; omega)] at hq; cases hq⟩
-- ===== YOUR PART BEGINS =====
set_option maxHeartbeats 4000000 in
theorem whole_start {p : Program} {e : Env} {s : State} {m : MethodId} {below : List Frame} {meth : Method} {c : Code} (l : Launch) (hflags : l.flags = flags0) {b L : Nat} {xs : Nat → Int32} (hL : L ≤ 3072) (hnm : meth.name = "law") (htb : c.exceptionTable.toList = []) (C0 : lw_At p s m meth c b L xs) : W p l e room_1 s m #[Value.ref b] below meth c s.heap [] 0 0 (lw_Z below #[Value.ref b] s) (entryFrame m ([Value.ref b] : List Value).toArray 7) := by
  obtain ⟨hx, hb, hr, hml, hown, hts, hX, hbl, hlocks, hgv⟩ := C0
  obtain ⟨F, hF⟩ := kn_all hts
  have hnr : narrow_1.before #[Value.ref b] s = true := by
    rw [Cond.before_and, Bool.and_eq_true] at hgv
    exact hgv.2
  have htr : l.stackTraces = false := by
    show (!l.flags.contains noTraceFlag) = false
    rw [hflags]
    decide +kernel
  obtain ⟨Γ, hg⟩ : ∃ Γ : GT, Γ = (l, s, (fun k => (F k).1, fun k => (F k).2)) := ⟨_, rfl⟩
  have g1 : Γ.1 = l := by rw [hg]
  have g2 : Γ.2.1 = s := by rw [hg]
  have hΓ : Gd Γ := by
    rw [hg]
    exact ⟨⟨#[Value.ref b], hts, hnr⟩, ⟨fun k q h => hF k q h, fun k q h => by simp at h⟩, htr⟩
  have hro : RO Γ b L (fun j => (xs j).toInt) := by
    obtain ⟨scr, h1, h2, h3, h4, h5⟩ := hX
    unfold RO fr0
    rw [g2]
    exact ⟨scr, h1, h2, h3, by omega, by rw [h4], fun j hj => by rw [h5 j hj]; exact congrArg some (congrArg Value.int (ii_of (xs j))), Nat.not_le.mpr hbl⟩
  have K := law_start (Γ := Γ) (σ0 := (s.heap.size, fun _ => none)) (Q := fun r _ => r = some (.int (ii 1))) hΓ hro (fun j => rg_of (xs j)) hL (fun _ => rfl)
  have hlh : lh ((lg_sl [Value.ref b] ++ List.replicate (7 - (lg_sl [Value.ref b]).length) Slot.unset).toArray) 7 [some (.ref b), none, none, none, none, none, none] := lh.entry [Value.ref b] (n := 7) (Nat.le_of_ble_eq_true rfl)
  have K2 := K p e room_1 s m #[Value.ref b] below meth c s.heap [] 0 0 _ hΓ ⟨hx, hb, hml, hown, hr, hlocks, by rw [g2]; exact State.WarmedH.refl s, ⟨Nat.le_of_ble_eq_true rfl, Nat.le_of_ble_eq_true rfl⟩, fun q _ => by rw [g2], by rw [g2]; exact Nat.le_refl _, hnm, htb⟩ (Nat.le_of_ble_eq_true rfl) (Nat.le_of_ble_eq_true rfl) ⟨rfl, by rw [g2]; exact Nat.le_refl _, fun q _ => by rw [g2], fun a q h => by cases h⟩ ⟨Nat.le_refl _, fun q h => by cases h⟩ hlh
  rw [g1] at K2
  rw [lg_entry_eq]
  intro T hT X
  obtain ⟨t, a1, o, b1, b2, b3⟩ := K2 T hT X
  refine ⟨t, a1, o, b1, b2, ?_⟩
  rcases b3 with ⟨⟨r, τ, ho, hr1, -, -⟩, LL, hFE, hfree⟩ | ⟨q, ho, E, ce, LL, ⟨τ, hno, -⟩, -⟩
  · subst hr1
    obtain ⟨f1, f2, f3⟩ := hFE
    have f4 : s.sameButNew ({ t with vm := s.vm } : State) [] 601024 7293034 := f3.weaken (fun y hy hlt => absurd hlt (Nat.not_lt.mpr (by have := hfree y hy; unfold fr0 at this; rw [g2] at this; exact this))) (Nat.le_refl _) (Nat.le_refl _)
    exact ⟨ho, lw_closed (d0 := s.drawn) (Drawn.sameBut.refl s.drawn lw_cs) f1 f2 f4⟩
  · exact hno.elim
-- ===== YOUR PART ENDS =====
set_option maxHeartbeats 4000000 in
theorem lw_walk (l : Launch) (hflags : l.flags = flags0) (b : Addr) (xs : List Int32) : MetFree l x (headSpec (Jvm.Cond.code x code maxLocals ret :: tables_1) room_1) (lw_P b xs) (fun _ _ _ _ _ => True) lw_Q := by
  refine MetFree.of_bodyS (code := code) (maxLocals := maxLocals) (ret := ret) (by decide) ?_ ?_
  · intro args s m h hn
    obtain ⟨meth, c, h1, h2, h3, h4, h5, h6, -, -⟩ := Cond.code_spec hn (atoms_spec (ws := Jvm.Cond.code x code maxLocals ret :: tables_1) h _ List.mem_cons_self)
    exact ⟨meth, c, h1, h2, h3, h4, h5, h6⟩
  · intro p e s m args below meth c s₁ B hml0 hP _
    obtain ⟨rfl, hx, hbd, hgv⟩ := hP
    obtain ⟨scr, harrAt, hlist, hof, hsmall⟩ := hx
    obtain ⟨hcb, hkn, -, -⟩ := State.arrayAt?_spec harrAt
    have hown : s.vm.findClass R_law = some m.cls := findClass_of_methodNamed B.named
    have hts0 : ∀ c ∈ (Jvm.Cond.code x code maxLocals ret :: tables_1), c.before #[Value.ref b] s = true := atoms_spec (ws := Jvm.Cond.code x code maxLocals ret :: tables_1) B.pre
    have hts : ∀ w ∈ lw_tbl, w.before #[Value.ref b] s = true := k2_hts_sels lw_privs (fun w hw => hts0 w (List.mem_cons_of_mem _ hw)) lw_privs_ok
    have hml : c.maxLocals = 7 := B.maxLocals_eq (hts0 _ List.mem_cons_self)
    have X₀ : Stand p l e room_1 s m #[Value.ref b] below meth c s₁ [] 0 0 := Stand.of_body B
    have hh0 : s₁.heap = s.heap := by rw [B.state]; rfl
    have hsz : scr.slots.size = xs.length := by rw [← Array.length_toList, hlist, List.length_map]
    have hval : ∀ j : Nat, j < xs.length → scr.slots[j]? = some (.int (xs.getD j 0)) := fun j hj => by
      rw [← Array.getElem?_toList, hlist]
      simp [hj]
    have hbl : b < s.heap.size := (Array.getElem?_eq_some_iff.mp hcb).1
    have hX : va_X b xs.length (fun j => xs.getD j 0) s s.heap := ⟨scr, hcb, hof, hkn, hsz, hval⟩
    have htb : c.exceptionTable.toList = [] := by
      obtain ⟨meth9, c9, h1, h2, -, -, -, -, h7, -⟩ := Cond.code_spec B.named (hts0 _ List.mem_cons_self)
      cases Option.some.inj (h1.symm.trans B.method)
      cases Option.some.inj (h2.symm.trans (Stand.of_body B).code)
      rw [Array.isEmpty_iff.mp h7]
    have K : W p l e room_1 s m #[Value.ref b] below meth c s₁.heap [] 0 0 (lw_Z below #[Value.ref b] s) (entryFrame m ([Value.ref b] : List Value).toArray 7) := by
      rw [hh0]
      exact whole_start l hflags hbd (name_of_methodNamed B.named B.method).1 htb ⟨B.exec, B.bytes, B.returns, hml, hown, hts, hX, hbl, B.notSynchronized, hgv⟩
    obtain ⟨t, a1, o, b1, b2, b3⟩ := K s₁ rfl X₀
    exact ⟨t, o, a1, b1, b2, b3⟩
theorem lw_pre_spec {args : Array Value} {s : State} (h : (Jvm.Cond.and given_1 narrow_1).before args s = true) (hr : rest_1_c.before args s = true) : ∃ (b : Addr) (xs : List Int32), lw_P b xs args s := by
  have hs := flat_of_before _ h
  have hq := flat_of_before _ hr
  have hc : (Cond.count 1).before args s = true := hs _ (by decide +kernel)
  have harr : (Cond.arrayOf (.arg 0) .int).before args s = true := hs _ (by decide +kernel)
  have hle : (Cond.le (.length (.arg 0)) (.int 3072)).before args s = true := hs _ (by decide +kernel)
  have hlen : (Cond.isInt (.length (.arg 0))).before args s = true := hq _ (by decide +kernel)
  have hall : (Cond.all (.arg 0) (.isInt (.elem (.arg 0) (.index 0)))).before args s = true := hq _ (by decide +kernel)
  obtain ⟨b, xs, hb, hx⟩ := State.ints_of_pre rfl harr hlen hall
  have hsm : xs.length < 2 ^ 31 := hx.choose_spec.2.2.2
  have hev : (Term.length (.arg 0)).eval args s none [] s = some (.int xs.length.toInt32) := hx.length_eval hb
  have hv := Cond.le_ints hev (show (Term.int 3072).eval args s none [] s = some (.int 3072) from rfl)
  have hd : xs.length.toInt32 ≤ 3072 := by
    simpa [Cond.before, Cond.holds, hv] using hle
  have hN : xs.length ≤ 3072 := (Int32.ofNat_le_ofNat hsm (by decide)).mp (show Int32.ofNat xs.length ≤ Int32.ofNat 3072 from hd)
  exact ⟨b, xs, Cond.one_arg hc (show args[0]? = some (.ref b) from hb), hx, hN, h⟩
theorem lw_comes (l : Launch) (hflags : l.flags = flags0) : Comes l x (Jvm.Cond.code x code maxLocals ret :: tables_1) room_1 (fun tb e args s => Calls_1 tb e args s ∧ rest_1 tb e args s ∧ Pre_1 tb e args s)
    (fun _ _ args s o t => lw_Q args s o t) := by
  intro p e ha hc hk s m args below hf hfit hheap happ hpre
  obtain ⟨b, xs, hP⟩ := lw_pre_spec hpre.2.2 hpre.2.1
  obtain ⟨k, o, h1, h2, h3, hQ⟩ := lw_walk l hflags b xs p e ha hc hk s m args below hf ((Spec.applies_iff_loose hf).mp happ).1 hP trivial
  exact ⟨k, o, h1, h2, h3, hQ⟩
theorem lw_frame {s t : State} {o : Outcome} {args : Array Value} (h : State.butDraws s t lw_cs (fun t1 => Framed s o t1 [] 601024 7293034)) :
    State.butDraws s t [Jvm.Choice.named "NaN.bits"] (fun t1 => Framed s o t1 (fieldLocs frame_1_writes args s ++ arrayLocs frame_1_arrays args s ++ staticLocs frame_1_statics s) 601024 7293034) := h
theorem lw_limb (L : Cond) (hL : ∀ (args : Array Value) (s t : State), L.after args s (.returned (some (.int 1))) t = true) :
    ArmFor flags0 classFile x code maxLocals ret World_1 tables_1 room_1 Calls_1 rest_1 Pre_1
      (fun tb e a s o t => postC L tb e a s o t ∧ State.butDraws s t [Jvm.Choice.named "NaN.bits"] (fun t1 => Framed s o t1 (fieldLocs frame_1_writes a s ++ arrayLocs frame_1_arrays a s ++ staticLocs frame_1_statics s) 601024 7293034)) := by
  intro l hflags _ _ p e ha hc hk s m args below hf hfit hheap happ hpre
  obtain ⟨k, o, h1, h2, h3, rfl, hF⟩ := lw_comes l hflags p e ha hc hk s m args below hf hfit hheap happ hpre
  exact ⟨k, _, h1, h2, h3, hL args s _, lw_frame hF⟩
theorem i_vc : Claimed_1_1 ∧ Claimed_1_2 := ⟨lw_limb limb_1_1 (fun args s t => by simp [limb_1_1, Cond.after, Cond.holds, Cond.value]), lw_limb limb_1_2 (fun args s t => Cond.after_iff.mpr (by
  first | (rw [show limb_1_2 = Cond.eq .result (.int 1) from rfl, Cond.eq_ints (x := 1) (y := 1) rfl rfl]; simp; done) | (simp [limb_1_2, Cond.value, Term.eval]; done)))⟩
