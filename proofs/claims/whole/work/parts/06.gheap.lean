/-! rules on the heap, ends, calls -/
section GH
variable {Γ : GT} {mi : MI} {cc : ByteArray} {Q : Option Value → AH → Prop} {QX : String → AH → Prop} {rc rs pc pc' tgt : Nat} {L L' : List (Option Value)} {S : List Value} {σ : AH}
theorem Sc.put {Γ : GT} {s : State} {H H1 : Heap} {locs : List Loc} (h : Sc Γ s H locs) (hz : H1.size = H.size) {a i : Nat} (ha : Γ.2.1.heap.size ≤ a) : Sc Γ s H1 (locs ++ [⟨a, i⟩]) := by
  refine ⟨by rw [hz]; exact h.1, fun q hq => ?_⟩
  rcases List.mem_append.mp hq with h1 | h1
  · exact h.2 q h1
  · rw [List.mem_singleton] at h1
    subst h1
    exact ha
theorem Sc.grow {Γ : GT} {s : State} {H H1 : Heap} {locs : List Loc} (h : Sc Γ s H locs) (hz : H.size ≤ H1.size) : Sc Γ s H1 locs := ⟨Nat.le_trans h.1 hz, h.2⟩
theorem g_get {idx ci k a : Nat} {fs : List Value} {v : Value} (fl : FL mi.1.cls idx ci k) (d : De cc pc (.getfield idx) 3 pc') (hcell : σ.2 a = some (ob ci fs)) (hv : fs[k]? = some v) (kk : G Γ mi cc Q QX rc rs pc' L (v :: S) σ) : G Γ mi cc Q QX rc rs pc L (.ref a :: S) σ := by
  intro p e R s m args below meth c H locs cells slots ls hΓ C hc hs hw hS hl
  obtain ⟨d, rfl⟩ := d
  have hk := kk p e R s m args below meth c H locs cells slots ls hΓ C hc hs hw hS hl
  obtain ⟨Cn, T, N, ty, hcl, hkN, hlink, hin, hty, hnm⟩ := fl
  obtain ⟨-, r, hr, hlen, cell, q1, q2, q3, q4⟩ := hw.2.2.2 a _ hcell
  have hr' : r = (Cn, T, N) := Option.some.inj (hr.symm.trans hcl)
  subst hr'
  have hWm := C.2.2.2.2.2.2.1
  have hK : va_K Γ.2.2 vwCl [] s := va_K.moved hWm.alike hΓ.2.1
  obtain ⟨hS9, hfc, kC, hkC, hkind⟩ := hK.1 ci _ hcl
  obtain ⟨cf, kf, fi, f, hi, hsl⟩ := hS9 k hkN
  have hts : ∀ w ∈ GW, w.before args s = true := fun w h => hΓ.w h _ _ hWm
  have hval : cell.slots[f.slot]? = some v := by rw [hsl, q4 k hkN]; simp [vp_V, hv]
  rcases hlink with hlink | ⟨host, hlink⟩
  · exact W.getf C.1 C.2.1 C.2.2.2.1 (hts _ hlink) hi (u_facts hfc hkC (u_lays hts hin hkN) hi).1 q1 (by rw [q3]; exact fun h => by cases h) hval rfl rfl d hk
  · exact va_Wgetf C.1 C.2.1 C.2.2.2.1 (hts _ hlink) hi (u_facts hfc hkC (u_lays hts hin hkN) hi).1 q1 (by rw [q3]; exact fun h => by cases h) hval rfl rfl d hk
theorem g_put {idx ci k a : Nat} {fs : List Value} {v : Value} {t : FieldType} (fp : FP mi.1.cls idx ci k t false) (d : De cc pc (.putfield idx) 3 pc') (hcell : σ.2 a = some (ob ci fs)) (hn : narrow t v = v) (hf : fits t v = true) (kk : G Γ mi cc Q QX rc rs pc' L S (hput σ a (ob ci (fs.set k v)))) : G Γ mi cc Q QX rc rs pc L (v :: .ref a :: S) σ := by
  intro p e R s m args below meth c H locs cells slots ls hΓ C hc hs hw hS hl
  obtain ⟨d, rfl⟩ := d
  obtain ⟨⟨Cn, T, N, ty, hcl, hkN, hlink, hin, hty, hnm⟩, C2, T2, N2, hcl2, hd, hfin, hdec⟩ := fp
  cases Option.some.inj (hcl.symm.trans hcl2)
  obtain ⟨ha, r, hr, hlen, cell, q1, q2, q3, q4⟩ := hw.2.2.2 a _ hcell
  have hr' : r = (Cn, T, N) := Option.some.inj (hr.symm.trans hcl)
  subst hr'
  have hWm := C.2.2.2.2.2.2.1
  have hK : va_K Γ.2.2 vwCl [] s := va_K.moved hWm.alike hΓ.2.1
  have hts : ∀ w ∈ GW, w.before args s = true := fun w h => hΓ.w h _ _ hWm
  have hap := va_apart (own := mi.1.cls) hts hin ty hty hnm hK hcl
  obtain ⟨hS9, hfc, kC, hkC, hkind⟩ := hK.1 ci _ hcl
  obtain ⟨cf, kf, fi, f, hi, hsl⟩ := hS9 k hkN
  have hlay := hts _ (hin _ (u_in_lay hkN))
  unfold u_lay at hlay
  rw [if_neg (by rw [hfin]; decide)] at hlay
  have hst := (u_facts hfc hkC (u_lays hts hin hkN) hi).1
  have h6 := u_store hfc hkC hkind hlay hi hd hn hf
  have hl9 : k < fs.length := by rw [show fs.length = N from hlen]; exact hkN
  have fin : ∀ H' : Heap, H'[a]? = some (cell.setSlot f.slot v) → H'.size = H.size → (∀ q, q ≠ a → H'[q]? = H[q]?) → W p Γ.1 e R s m args below meth c H' (locs ++ [⟨a, f.slot⟩]) cells slots (vx_MQ below (QO Γ Q) (XO Γ QX) args s R.cells R.slots (fr0 Γ)) (F0 m (pc + 3) ls S) := by
    intro H' e1 e2 e3
    rw [hsl] at e1
    refine kk p e R s m args below meth c H' _ cells slots ls hΓ C hc hs (hw.put ha ?_ e2 e3) (hS.put e2 ha) hl
    exact ⟨_, hcl, by rw [List.length_set]; exact hlen, t_OB.to (V := updV (vp_V fs) k v) ⟨_, e1, q2, q3, t_set q4 hap hkN v⟩ (fun j _ => vp_updV_set hl9 v j)⟩
  rcases hlink with hlink | ⟨host, hlink⟩
  · exact W.putK C.1 C.2.1 (f := f) ⟨C.2.2.2.1, hts _ hlink, ⟨_, _, _, hi⟩, hst⟩ (by rw [q2]; exact h6) q1 q3 (by rw [hsl]; exact k2_hasslot (q4 k hkN)) rfl rfl d fin
  · exact va_WputK C.1 C.2.1 (f := f) C.2.2.2.1 (hts _ hlink) hi hst (by rw [q2]; exact h6) q1 q3 (by rw [hsl]; exact k2_hasslot (q4 k hkN)) rfl rfl d fin
theorem g_putF {idx ci k a : Nat} {fs : List Value} {v : Value} {t : FieldType} (fp : FP mi.1.cls idx ci k t true) (hini : mi.1.name = "<init>") (hci : ∃ T N, vwCl[ci]? = some (mi.1.cls, T, N)) (hpl : ∃ C T N, vwCl[ci]? = some (C, T, N) ∧ Cond.fieldLink mi.1.cls idx (T k).1 (T k).2.1 (T k).2.2.1 ∈ GW) (d : De cc pc (.putfield idx) 3 pc') (hcell : σ.2 a = some (ob ci fs)) (hn : narrow t v = v) (hf : fits t v = true) (kk : G Γ mi cc Q QX rc rs pc' L S (hput σ a (ob ci (fs.set k v)))) : G Γ mi cc Q QX rc rs pc L (v :: .ref a :: S) σ := by
  intro p e R s m args below meth c H locs cells slots ls hΓ C hc hs hw hS hl
  obtain ⟨d, rfl⟩ := d
  obtain ⟨⟨Cn, T, N, ty, hcl, hkN, -, hin, hty, hnm⟩, C2, T2, N2, hcl2, hd, hfin, hdec⟩ := fp
  cases Option.some.inj (hcl.symm.trans hcl2)
  obtain ⟨T3, N3, hcl3⟩ := hci
  cases Option.some.inj (hcl.symm.trans hcl3)
  obtain ⟨C4, T4, N4, hcl4, hlink⟩ := hpl
  cases Option.some.inj (hcl.symm.trans hcl4)
  obtain ⟨ha, r, hr, hlen, cell, q1, q2, q3, q4⟩ := hw.2.2.2 a _ hcell
  have hr' : r = (mi.1.cls, T, N) := Option.some.inj (hr.symm.trans hcl)
  subst hr'
  have hWm := C.2.2.2.2.2.2.1
  have hK : va_K Γ.2.2 vwCl [] s := va_K.moved hWm.alike hΓ.2.1
  have hts : ∀ w ∈ GW, w.before args s = true := fun w h => hΓ.w h _ _ hWm
  have hap := va_apart (own := mi.1.cls) hts hin ty hty hnm hK hcl
  obtain ⟨hS9, hfc, kC, hkC, hkind⟩ := hK.1 ci _ hcl
  obtain ⟨cf, kf, fi, f, hi, hsl⟩ := hS9 k hkN
  have hlay := hts _ (hin _ (u_in_lay hkN))
  unfold u_lay at hlay
  rw [if_pos hfin] at hlay
  have hst := (u_facts hfc hkC (u_lays hts hin hkN) hi).1
  have hcf : m.cls = cf := by
    obtain ⟨_, _, c', _, _, _, -, -, hf', -, -, -, hown2, -⟩ := Cond.laysFinal_spec hlay
    have e1 : c' = cf := by have := hi.symm.trans hf'; simp at this; exact this.1.symm
    rw [hdec] at hown2
    rw [← e1]; exact Option.some.inj (C.2.2.2.1.symm.trans hown2)
  have h6 := u_fits hfc hkC hkind (Or.inr hlay) hi hd hn hf
  have hl9 : k < fs.length := by rw [show fs.length = N from hlen]; exact hkN
  have hnm9 : meth.name = "<init>" := by rw [C.2.2.2.2.2.2.2.2.2.2.1]; exact hini
  refine W.putFinK C.1 C.2.1 C.2.2.2.1 (hts _ hlink) hi hst hcf hnm9 (by rw [q2]; exact h6) q1 q3 (by rw [hsl]; exact k2_hasslot (q4 k hkN)) rfl rfl d fun H' e1 e2 e3 => ?_
  rw [hsl] at e1
  refine kk p e R s m args below meth c H' _ cells slots ls hΓ C hc hs (hw.put ha ?_ e2 e3) (hS.put e2 ha) hl
  exact ⟨_, hcl, by rw [List.length_set]; exact hlen, t_OB.to (V := updV (vp_V fs) k v) ⟨_, e1, q2, q3, t_set q4 hap hkN v⟩ (fun j _ => vp_updV_set hl9 v j)⟩
theorem g_iaload {a n : Nat} {f : Nat → Int} {j : Int} (d : De cc pc (.iaload) 1 pc') (hcell : σ.2 a = some (ai n f)) (h0 : 0 ≤ j) (h1 : j < n) (kk : G Γ mi cc Q QX rc rs pc' L (.int (ii (f j.toNat)) :: S) σ) : G Γ mi cc Q QX rc rs pc L (.int (ii j) :: .ref a :: S) σ := by
  intro p e R s m args below meth c H locs cells slots ls hΓ C hc hs hw hS hl
  obtain ⟨d, rfl⟩ := d
  have hk := kk p e R s m args below meth c H locs cells slots ls hΓ C hc hs hw hS hl
  obtain ⟨-, cA, hA, hRA, hn, hH⟩ := hw.2.2.2 a _ hcell
  have hn : n < 2 ^ 31 := hn
  have hin := ii_in h0 h1 hn
  have hcl := ii_cl (a := j) ⟨by omega, by omega⟩
  have hlt : j.toNat < n := by omega
  refine W.iald (v := .int (ii (f j.toNat))) C.1 C.2.1 hH ((arrOfT_moved C.2.2.2.2.2.2.1.alike hA) n _) (fun q => by cases q) (by rw [arrV_size]; exact hin) ?_ rfl rfl d hk
  rw [hcl]
  exact arrV_read _ _ hlt
theorem g_zaload {a n : Nat} {f : Nat → Int} {j : Int} (d : De cc pc (.baload) 1 pc') (hcell : σ.2 a = some (az n f)) (h0 : 0 ≤ j) (h1 : j < n) (kk : G Γ mi cc Q QX rc rs pc' L (.int (ii (f j.toNat)) :: S) σ) : G Γ mi cc Q QX rc rs pc L (.int (ii j) :: .ref a :: S) σ := by
  intro p e R s m args below meth c H locs cells slots ls hΓ C hc hs hw hS hl
  obtain ⟨d, rfl⟩ := d
  have hk := kk p e R s m args below meth c H locs cells slots ls hΓ C hc hs hw hS hl
  obtain ⟨-, cA, hA, hRA, hn, hH⟩ := hw.2.2.2 a _ hcell
  have hn : n < 2 ^ 31 := hn
  have hin := ii_in h0 h1 hn
  have hcl := ii_cl (a := j) ⟨by omega, by omega⟩
  have hlt : j.toNat < n := by omega
  refine W.zald (v := .int (ii (f j.toNat))) C.1 C.2.1 hH ((arrOfT_moved C.2.2.2.2.2.2.1.alike hA) n _) (fun q => by cases q) (by rw [arrV_size]; exact hin) ?_ rfl rfl d hk
  rw [hcl]
  exact arrV_read _ _ hlt
theorem g_laload {a n : Nat} {f : Nat → BitVec 64} {j : Int} (d : De cc pc (.laload) 1 pc') (hcell : σ.2 a = some (al n f)) (h0 : 0 ≤ j) (h1 : j < n) (kk : G Γ mi cc Q QX rc rs pc' L (.long (lb (f j.toNat)) :: S) σ) : G Γ mi cc Q QX rc rs pc L (.int (ii j) :: .ref a :: S) σ := by
  intro p e R s m args below meth c H locs cells slots ls hΓ C hc hs hw hS hl
  obtain ⟨d, rfl⟩ := d
  have hk := kk p e R s m args below meth c H locs cells slots ls hΓ C hc hs hw hS hl
  obtain ⟨-, cA, hA, hRA, hn, hH⟩ := hw.2.2.2 a _ hcell
  have hn : n < 2 ^ 31 := hn
  have hin := ii_in h0 h1 hn
  have hcl := ii_cl (a := j) ⟨by omega, by omega⟩
  have hlt : j.toNat < n := by omega
  refine W.lald (v := .long (lb (f j.toNat))) C.1 C.2.1 hH ((arrOfT_moved C.2.2.2.2.2.2.1.alike hA) n _) (fun q => by cases q) (by rw [arrV_size]; exact hin) ?_ rfl rfl d hk
  rw [hcl]
  exact arrV_read _ _ hlt
theorem g_aaload {t : Nat} {a n : Nat} {f : Nat → Option Nat} {j : Int} (d : De cc pc (.aaload) 1 pc') (ht : (ty_of t).isReference = true) (hcell : σ.2 a = some (aq t n f)) (h0 : 0 ≤ j) (h1 : j < n) (kk : G Γ mi cc Q QX rc rs pc' L (va_rf (f j.toNat) :: S) σ) : G Γ mi cc Q QX rc rs pc L (.int (ii j) :: .ref a :: S) σ := by
  intro p e R s m args below meth c H locs cells slots ls hΓ C hc hs hw hS hl
  obtain ⟨d, rfl⟩ := d
  have hk := kk p e R s m args below meth c H locs cells slots ls hΓ C hc hs hw hS hl
  obtain ⟨-, cA, hA, hRA, hn, hH⟩ := hw.2.2.2 a _ hcell
  have hn : n < 2 ^ 31 := hn
  have hin := ii_in h0 h1 hn
  have hcl := ii_cl (a := j) ⟨by omega, by omega⟩
  have hlt : j.toNat < n := by omega
  refine W.aald (v := va_rf (f j.toNat)) (ty := ty_of t) C.1 C.2.1 hH ((arrOfT_moved C.2.2.2.2.2.2.1.alike hA) n _) ht (fun q => by cases q) (by rw [arrV_size]; exact hin) ?_ rfl rfl d hk
  rw [hcl]
  exact arrV_read _ _ hlt
theorem g_iastore {a n : Nat} {f : Nat → Int} {j : Int} {x : Int} (d : De cc pc (.iastore) 1 pc') (hcell : σ.2 a = some (ai n f)) (h0 : 0 ≤ j) (h1 : j < n) (kk : G Γ mi cc Q QX rc rs pc' L S (hput σ a (ai n (va_up f j.toNat x)))) : G Γ mi cc Q QX rc rs pc L (.int (ii x) :: .int (ii j) :: .ref a :: S) σ := by
  intro p e R s m args below meth c H locs cells slots ls hΓ C hc hs hw hS hl
  obtain ⟨d, rfl⟩ := d
  obtain ⟨ha, cA, hA, hRA, hn, hH⟩ := hw.2.2.2 a _ hcell
  have hn : n < 2 ^ 31 := hn
  have hin := ii_in h0 h1 hn
  have hcl := ii_cl (a := j) ⟨by omega, by omega⟩
  refine W.iast C.1 C.2.1 hH ((arrOfT_moved C.2.2.2.2.2.2.1.alike hA) n _) (fun q => by cases q) (by rw [arrV_size]; exact hin) rfl rfl d fun H' e1 e2 e3 => ?_
  refine kk p e R s m args below meth c H' _ cells slots ls hΓ C hc hs (hw.put ha ⟨cA, hA, hRA, hn, ?_⟩ e2 e3) (hS.put e2 ha) hl
  · rw [hcl] at e1
    rw [e1, arrV_store]
    congr 2
    funext q
    by_cases hq : q = j.toNat
    · subst hq
      simp [updV, ac_v, va_up]
    · simp [updV, ac_v, va_up, hq]
theorem g_zastore {a n : Nat} {f : Nat → Int} {j : Int} {x : Int} (d : De cc pc (.bastore) 1 pc') (hcell : σ.2 a = some (az n f)) (h0 : 0 ≤ j) (h1 : j < n) (hx : x = 0 ∨ x = 1) (kk : G Γ mi cc Q QX rc rs pc' L S (hput σ a (az n (va_up f j.toNat x)))) : G Γ mi cc Q QX rc rs pc L (.int (ii x) :: .int (ii j) :: .ref a :: S) σ := by
  intro p e R s m args below meth c H locs cells slots ls hΓ C hc hs hw hS hl
  obtain ⟨d, rfl⟩ := d
  obtain ⟨ha, cA, hA, hRA, hn, hH⟩ := hw.2.2.2 a _ hcell
  have hn : n < 2 ^ 31 := hn
  have hin := ii_in h0 h1 hn
  have hcl := ii_cl (a := j) ⟨by omega, by omega⟩
  refine W.zast C.1 C.2.1 hH ((arrOfT_moved C.2.2.2.2.2.2.1.alike hA) n _) (fun q => by cases q) (by rw [arrV_size]; exact hin) rfl rfl d fun H' e1 e2 e3 => ?_
  refine kk p e R s m args below meth c H' _ cells slots ls hΓ C hc hs (hw.put ha ⟨cA, hA, hRA, hn, ?_⟩ e2 e3) (hS.put e2 ha) hl
  · rw [hcl] at e1
    have hz9 : narrow .boolean (.int (ii x)) = .int (ii x) := by rcases hx with rfl | rfl <;> rfl
    rw [hz9] at e1
    rw [e1, arrV_store]
    congr 2
    funext q
    by_cases hq : q = j.toNat
    · subst hq
      simp [updV, ac_v, va_up]
    · simp [updV, ac_v, va_up, hq]
theorem g_lastore {a n : Nat} {f : Nat → BitVec 64} {j : Int} {x : BitVec 64} (d : De cc pc (.lastore) 1 pc') (hcell : σ.2 a = some (al n f)) (h0 : 0 ≤ j) (h1 : j < n) (kk : G Γ mi cc Q QX rc rs pc' L S (hput σ a (al n (va_up f j.toNat x)))) : G Γ mi cc Q QX rc rs pc L (.long (lb x) :: .int (ii j) :: .ref a :: S) σ := by
  intro p e R s m args below meth c H locs cells slots ls hΓ C hc hs hw hS hl
  obtain ⟨d, rfl⟩ := d
  obtain ⟨ha, cA, hA, hRA, hn, hH⟩ := hw.2.2.2 a _ hcell
  have hn : n < 2 ^ 31 := hn
  have hin := ii_in h0 h1 hn
  have hcl := ii_cl (a := j) ⟨by omega, by omega⟩
  refine W.last C.1 C.2.1 hH ((arrOfT_moved C.2.2.2.2.2.2.1.alike hA) n _) (fun q => by cases q) (by rw [arrV_size]; exact hin) rfl rfl d fun H' e1 e2 e3 => ?_
  refine kk p e R s m args below meth c H' _ cells slots ls hΓ C hc hs (hw.put ha ⟨cA, hA, hRA, hn, ?_⟩ e2 e3) (hS.put e2 ha) hl
  · rw [hcl] at e1
    rw [e1, arrV_store]
    congr 2
    funext q
    by_cases hq : q = j.toNat
    · subst hq
      simp [updV, ac_v, va_up]
    · simp [updV, ac_v, va_up, hq]
theorem g_aastore {t a n v ci : Nat} {f : Nat → Option Nat} {j : Int} {vs : List Value} {r : vw_C} (d : De cc pc (.aastore) 1 pc') (hcell : σ.2 a = some (aq t n f)) (h0 : 0 ≤ j) (h1 : j < n) (hv : σ.2 v = some (ob ci vs)) (hr : vwCl[ci]? = some r) (ht : ty_of t = .object r.1) (kk : G Γ mi cc Q QX rc rs pc' L S (hput σ a (aq t n (va_up f j.toNat (some v))))) : G Γ mi cc Q QX rc rs pc L (.ref v :: .int (ii j) :: .ref a :: S) σ := by
  intro p e R s m args below meth c H locs cells slots ls hΓ C hc hs hw hS hl
  obtain ⟨d, rfl⟩ := d
  obtain ⟨ha, cA, hA, hRA, hn, hH⟩ := hw.2.2.2 a _ hcell
  have hn : n < 2 ^ 31 := hn
  have hin := ii_in h0 h1 hn
  have hcl := ii_cl (a := j) ⟨by omega, by omega⟩
  have hWm := C.2.2.2.2.2.2.1
  obtain ⟨-, r', hr', -, cellV, g1, g2, g3, -⟩ := hw.2.2.2 v _ hv
  have hK : va_K Γ.2.2 vwCl [] s := va_K.moved hWm.alike hΓ.2.1
  have hcls := (hK.1 ci r hr).2
  have hRA' : va_RA s cA (ty_of t) := va_RA.moved hWm.alike hRA
  rw [ht] at hRA'
  obtain ⟨kA, comp, k1, k2, k3, -⟩ := hRA'
  have hcomp : comp = Γ.2.2.1 ci := Option.some.inj (k3.symm.trans hcls.1)
  subst hcomp
  obtain ⟨kC, hkC, -⟩ := id hcls.2
  refine W.aast C.1 C.2.1 hH (fun q h => by cases h) (fun h => by cases h) k1 k2 rfl hkC ⟨fun q => hin (Or.inl q), by rw [arrV_size]; exact Nat.not_le.mp fun q => hin (Or.inr q)⟩ g1 (fun q h => by rw [g3] at h; cases h) (by rw [g2]; exact hkC) (by rw [g2]; exact va_assign hcls) rfl rfl d fun H' e1 e2 e3 => ?_
  refine kk p e R s m args below meth c H' _ cells slots ls hΓ C hc hs (hw.put ha ⟨cA, hA, hRA, hn, ?_⟩ e2 e3) (hS.put e2 ha) hl
  rw [hcl] at e1
  rw [e1, arrV_store]
  congr 2
  funext q
  by_cases hq : q = j.toNat
  · subst hq
    simp [updV, ac_v, va_up, va_rf]
  · simp [updV, ac_v, va_up, hq]
theorem g_alen {t a n : Nat} {f : (Nat → Int) ⊕ (Nat → BitVec 64) ⊕ (Nat → Option Nat)} (d : De cc pc (.arraylength) 1 pc') (hcell : σ.2 a = some (.inr (t, n, f))) (kk : G Γ mi cc Q QX rc rs pc' L (.int (ii n) :: S) σ) : G Γ mi cc Q QX rc rs pc L (.ref a :: S) σ := by
  intro p e R s m args below meth c H locs cells slots ls hΓ C hc hs hw hS hl
  obtain ⟨d, rfl⟩ := d
  have hk := kk p e R s m args below meth c H locs cells slots ls hΓ C hc hs hw hS hl
  obtain ⟨-, cA, hA, hRA, hn, hH⟩ := hw.2.2.2 a _ hcell
  exact W.alen (n := ii n) C.1 C.2.1 hH ((arrOfT_moved C.2.2.2.2.2.2.1.alike hA) n _) (by rw [arrV_size]; rfl) rfl rfl d hk
def dfs (ty : Nat → FieldType) (N : Nat) : List Value := (List.range N).map fun j => defaultValue (ty j)
theorem g_new {idx ci N rc' rs' : Nat} {ty : Nat → FieldType} {fs : List Value} (nw : NWc mi.1.cls idx ci N ty) (hfs : dfs ty N = fs) (d : De cc pc (.new idx) 3 pc') (h1 : rc' + 1 ≤ rc) (h2 : rs' + N ≤ rs) (kk : G Γ mi cc Q QX rc' rs' pc' L (.ref σ.1 :: S) (hnew σ (ob ci fs))) : G Γ mi cc Q QX rc rs pc L S σ := by
  intro p e R s m args below meth c H locs cells slots ls hΓ C hc hs hw hS hl
  obtain ⟨d, rfl⟩ := d
  obtain ⟨Cn, T, hcl, hlk, hins, hini, hin, hty⟩ := nw
  have hWm := C.2.2.2.2.2.2.1
  have hK : va_K Γ.2.2 vwCl [] s := va_K.moved hWm.alike hΓ.2.1
  have hts : ∀ w ∈ GW, w.before args s = true := fun w h => hΓ.w h _ _ hWm
  have hKn := hK.1 ci _ hcl
  refine W.newcK C.1 C.2.1 C.2.2.2.1 (hts _ hlk) (hts _ hins) (hts _ hini) rfl d (by omega) (by omega) hKn.2.1 hw.1 fun H1 kC hkC e1 z1 o1 => ?_
  refine kk p e R s m args below meth c H1 locs _ _ ls hΓ C (by omega) (by omega) (hw.new ?_ z1 o1) (hS.grow (by rw [z1, hw.1]; omega)) hl
  subst hfs
  refine ⟨_, hcl, by simp [dfs], (u_born ty hts hin hKn hkC e1 hty).to fun j hj => ?_⟩
  have hj : j < N := hj
  simp [vp_V, dfs, hj]
theorem g_newI {n : Int} {rc' rs' : Nat} (d : De cc pc (.newarray .int) 2 pc') (h0 : 0 ≤ n) (h9 : n ≤ 100000) (h1 : rc' + 1 ≤ rc) (h2 : rs' + n.toNat ≤ rs) (kk : G Γ mi cc Q QX rc' rs' pc' L (.ref σ.1 :: S) (hnew σ (ai n.toNat (fun _ => 0)))) : G Γ mi cc Q QX rc rs pc L (.int (ii n) :: S) σ := by
  intro p e R s m args below meth c H locs cells slots ls hΓ C hc hs hw hS hl
  obtain ⟨d, rfl⟩ := d
  have hWm := C.2.2.2.2.2.2.1
  have hn9 : rg n := ⟨by omega, by omega⟩
  refine va_newaK (atype := .int) C.1 C.2.1 (hΓ.w ac_int _ _ hWm) rfl d rfl (by rw [ii_ltz hn9]; omega) (ii_cl hn9) (by show n.toNat * 4 ≤ 536870912; omega) (by omega) (by omega) hw.1 fun H1 cA e1 z1 o1 hAr hNm => ?_
  refine kk p e R s m args below meth c H1 locs _ _ ls hΓ C (by omega) (by omega) (hw.new ⟨cA, arrOfT_moved hWm.alike.symm hAr, va_RA.moved hWm.alike.symm hNm, by show n.toNat < 2 ^ 31; omega, e1⟩ z1 o1) (hS.grow (by rw [z1, hw.1]; omega)) hl
theorem g_newJ {n : Int} {rc' rs' : Nat} (d : De cc pc (.newarray .long) 2 pc') (h0 : 0 ≤ n) (h9 : n ≤ 100000) (h1 : rc' + 1 ≤ rc) (h2 : rs' + n.toNat ≤ rs) (kk : G Γ mi cc Q QX rc' rs' pc' L (.ref σ.1 :: S) (hnew σ (al n.toNat (fun _ => 0)))) : G Γ mi cc Q QX rc rs pc L (.int (ii n) :: S) σ := by
  intro p e R s m args below meth c H locs cells slots ls hΓ C hc hs hw hS hl
  obtain ⟨d, rfl⟩ := d
  have hWm := C.2.2.2.2.2.2.1
  have hn9 : rg n := ⟨by omega, by omega⟩
  refine va_newaK (atype := .long) C.1 C.2.1 (hΓ.w ac_long _ _ hWm) rfl d rfl (by rw [ii_ltz hn9]; omega) (ii_cl hn9) (by show n.toNat * 8 ≤ 536870912; omega) (by omega) (by omega) hw.1 fun H1 cA e1 z1 o1 hAr hNm => ?_
  refine kk p e R s m args below meth c H1 locs _ _ ls hΓ C (by omega) (by omega) (hw.new ⟨cA, arrOfT_moved hWm.alike.symm hAr, va_RA.moved hWm.alike.symm hNm, by show n.toNat < 2 ^ 31; omega, e1⟩ z1 o1) (hS.grow (by rw [z1, hw.1]; omega)) hl
theorem g_newZ {n : Int} {rc' rs' : Nat} (d : De cc pc (.newarray .boolean) 2 pc') (h0 : 0 ≤ n) (h9 : n ≤ 100000) (h1 : rc' + 1 ≤ rc) (h2 : rs' + n.toNat ≤ rs) (kk : G Γ mi cc Q QX rc' rs' pc' L (.ref σ.1 :: S) (hnew σ (az n.toNat (fun _ => 0)))) : G Γ mi cc Q QX rc rs pc L (.int (ii n) :: S) σ := by
  intro p e R s m args below meth c H locs cells slots ls hΓ C hc hs hw hS hl
  obtain ⟨d, rfl⟩ := d
  have hWm := C.2.2.2.2.2.2.1
  have hn9 : rg n := ⟨by omega, by omega⟩
  refine va_newaK (atype := .boolean) C.1 C.2.1 (hΓ.w ac_boolean _ _ hWm) rfl d rfl (by rw [ii_ltz hn9]; omega) (ii_cl hn9) (by show n.toNat * 1 ≤ 536870912; omega) (by omega) (by omega) hw.1 fun H1 cA e1 z1 o1 hAr hNm => ?_
  refine kk p e R s m args below meth c H1 locs _ _ ls hΓ C (by omega) (by omega) (hw.new ⟨cA, arrOfT_moved hWm.alike.symm hAr, va_RA.moved hWm.alike.symm hNm, by show n.toNat < 2 ^ 31; omega, e1⟩ z1 o1) (hS.grow (by rw [z1, hw.1]; omega)) hl
theorem g_newQ {t idx : Nat} {n : Int} {Cn : String} {rc' rs' : Nat} (d : De cc pc (.anewarray idx) 3 pc') (ht : ty_of t = .object Cn) (hlk : Cond.classLink mi.1.cls idx Cn ∈ GW ∧ Cond.arrayOver (.object Cn) ∈ GW) (h0 : 0 ≤ n) (h9 : n ≤ 100000) (h1 : rc' + 1 ≤ rc) (h2 : rs' + n.toNat ≤ rs) (kk : G Γ mi cc Q QX rc' rs' pc' L (.ref σ.1 :: S) (hnew σ (aq t n.toNat (fun _ => none)))) : G Γ mi cc Q QX rc rs pc L (.int (ii n) :: S) σ := by
  intro p e R s m args below meth c H locs cells slots ls hΓ C hc hs hw hS hl
  obtain ⟨d, rfl⟩ := d
  have hWm := C.2.2.2.2.2.2.1
  have hn9 : rg n := ⟨by omega, by omega⟩
  have hcl := ii_cl hn9
  refine W.anew C.1 C.2.1 C.2.2.2.1 (hΓ.w hlk.1 _ _ hWm) (hΓ.w hlk.2 _ _ hWm) rfl d rfl (by rw [ii_ltz hn9]; omega) (by rw [hcl]; omega) (by omega) (by rw [hcl]; omega) fun cA kA comp f1 f2 f3 f4 => ?_
  have z1 : (H.push ({ cls := cA, slots := Array.replicate (ii n).toNatClampNeg .null, vm := .none } : Cell)).size = σ.1 + 1 := by rw [Array.size_push, hw.1]
  have e1 : (H.push ({ cls := cA, slots := Array.replicate (ii n).toNatClampNeg .null, vm := .none } : Cell))[σ.1]? = some (arrV cA n.toNat (fun _ => .null)) := by rw [← hw.1, Array.getElem?_push_size, hcl, ← arrV_new]
  have o1 : ∀ q : Nat, q < σ.1 → (H.push ({ cls := cA, slots := Array.replicate (ii n).toNatClampNeg .null, vm := .none } : Cell))[q]? = H[q]? := fun q hq => by rw [Array.getElem?_push, if_neg (by rw [hw.1]; exact Nat.ne_of_lt hq)]
  have hAr : ArrOfT s cA (.object Cn) := fun N z => ⟨(fun k h => by cases h), kA, f2, comp, f3⟩
  have hR : va_RA s cA (.object Cn) := ⟨kA, comp, f2, f3, f4, f1⟩
  rw [show H.size = σ.1 from hw.1]
  refine kk p e R s m args below meth c _ locs _ _ ls hΓ C (by omega) (by rw [hcl]; omega) (hw.new ⟨cA, by rw [ht]; exact arrOfT_moved hWm.alike.symm hAr, by rw [ht]; exact va_RA.moved hWm.alike.symm hR, by show n.toNat < 2 ^ 31; omega, e1⟩ z1 o1) (hS.grow (by rw [z1, hw.1]; omega)) hl
theorem g_oinit {idx a : Nat} (d : De cc pc (.invokespecial idx) 3 pc') (hlk : Cond.methodLink mi.1.cls idx Lib.objectInit ∈ GW) (hcat : (S.map fun v => v.category).sum ≤ 8) (hr : 1 ≤ mi.2.2.2.2.1 ∧ 20 ≤ mi.2.2.2.2.2.1) (kk : G Γ mi cc Q QX rc rs pc' L S σ) : G Γ mi cc Q QX rc rs pc L (.ref a :: S) σ := by
  intro p e R s m args below meth c H locs cells slots ls hΓ C hc hs hw hS hl
  obtain ⟨d, rfl⟩ := d
  have hk := kk p e R s m args below meth c H locs cells slots ls hΓ C hc hs hw hS hl
  have hWm := C.2.2.2.2.2.2.1
  have hr2 := C.2.2.2.2.2.2.2.1
  exact W.objInit C.1 C.2.1 C.2.2.2.1 (hΓ.w hlk _ _ hWm) (hΓ.w oi_inst _ _ hWm) (hΓ.w oi_code _ _ hWm) rfl (hl.2.1.trans C.2.2.1.symm) rfl d (by omega) (by show 0 + _ + 12 ≤ _; omega) hk
/-! ends -/
theorem g_ireturn {x : Int32} (d : decode cc pc = .ok (.ireturn, 1)) (hr : mi.2.2.2.1 = some .int) (hQ : Q (some (.int x)) σ) : G Γ mi cc Q QX rc rs pc L [.int x] σ := by
  intro p e R s m args below meth c H locs cells slots ls hΓ C hc hs hw hS hl
  refine vx_ret (W.widen (k := R.cells) (n := R.slots) (by omega) (by omega) ?_)
  exact W.iret C.1 C.2.1 (C.2.2.2.2.1.trans hr) (fun t ht _ => ⟨(some (.int x)), σ, rfl, hQ, by rw [ht]; exact hw, by rw [ht]; exact hS.1⟩) hS.2 d C.2.2.2.2.2.1
theorem g_zreturn {a : Int} (d : decode cc pc = .ok (.ireturn, 1)) (hr : mi.2.2.2.1 = some .boolean) (ha : a = 0 ∨ a = 1) (hQ : Q (some (.int (ii a))) σ) : G Γ mi cc Q QX rc rs pc L [.int (ii a)] σ := by
  intro p e R s m args below meth c H locs cells slots ls hΓ C hc hs hw hS hl
  refine vx_ret (W.widen (k := R.cells) (n := R.slots) (by omega) (by omega) ?_)
  exact W.zret (ty := .boolean) C.1 C.2.1 (C.2.2.2.2.1.trans hr) (by rcases ha with rfl | rfl <;> rfl) (fun t ht _ => ⟨(some (.int (ii a))), σ, rfl, hQ, by rw [ht]; exact hw, by rw [ht]; exact hS.1⟩) hS.2 d C.2.2.2.2.2.1
theorem g_lreturn {x : Int64} (d : decode cc pc = .ok (.lreturn, 1)) (hr : mi.2.2.2.1 = some .long) (hQ : Q (some (.long x)) σ) : G Γ mi cc Q QX rc rs pc L [.long x] σ := by
  intro p e R s m args below meth c H locs cells slots ls hΓ C hc hs hw hS hl
  refine vx_ret (W.widen (k := R.cells) (n := R.slots) (by omega) (by omega) ?_)
  exact W.lret C.1 C.2.1 (C.2.2.2.2.1.trans hr) (fun t ht _ => ⟨(some (.long x)), σ, rfl, hQ, by rw [ht]; exact hw, by rw [ht]; exact hS.1⟩) hS.2 d C.2.2.2.2.2.1
theorem g_return (d : decode cc pc = .ok (.return_, 1)) (hr : mi.2.2.2.1 = none) (hQ : Q none σ) : G Γ mi cc Q QX rc rs pc L [] σ := by
  intro p e R s m args below meth c H locs cells slots ls hΓ C hc hs hw hS hl
  refine vx_ret (W.widen (k := R.cells) (n := R.slots) (by omega) (by omega) ?_)
  exact W.vret C.1 C.2.1 (C.2.2.2.2.1.trans hr) (fun t ht _ => ⟨none, σ, rfl, hQ, by rw [ht]; exact hw, by rw [ht]; exact hS.1⟩) hS.2 d C.2.2.2.2.2.1
theorem g_areturn {v : Value} {rt : FieldType} (d : decode cc pc = .ok (.areturn, 1)) (hr : mi.2.2.2.1 = some rt) (hrt : (∃ n, rt = .object n) ∨ ∃ t, rt = .array t) (hv : v = .null ∨ ∃ a, v = .ref a) (hQ : Q (some v) σ) : G Γ mi cc Q QX rc rs pc L [v] σ := by
  intro p e R s m args below meth c H locs cells slots ls hΓ C hc hs hw hS hl
  refine vx_ret (W.widen (k := R.cells) (n := R.slots) (by omega) (by omega) ?_)
  exact W.aret C.1 C.2.1 (C.2.2.2.2.1.trans hr) hrt hv (fun t ht _ => ⟨(some v), σ, rfl, hQ, by rw [ht]; exact hw, by rw [ht]; exact hS.1⟩) hS.2 d C.2.2.2.2.2.1
end GH
