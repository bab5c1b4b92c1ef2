/-! ways: what can be come to, and back; pure -/
def bR (bc : Nat → Int) (ce : Nat → BitVec 64) : Prop := ∀ t c, t < 41 → c < 36 → bc (36 * t + c) = bi ((ce t).getLsbD c)
def mR (bm : Nat → Int) (lv mv : Nat → BitVec 64) : Prop := (∀ t c k, t < 41 → c < 36 → k < 4 → (lv k).getLsbD c = true → bm (5 * (36 * t + c) + k) = bi ((mv (41 * k + t)).getLsbD c)) ∧ ∀ t c, t < 41 → c < 36 → bm (5 * (36 * t + c) + 4) = 0
def mgo (so : Nat → Int) (cols rows : Nat) (bc bm : Nat → Int) (c k t : Nat) : Bool := decide (nxt so cols rows c k ≠ -1 ∧ bc (36 * t + (nxt so cols rows c k).toNat) = 0 ∧ bm (5 * (36 * t + c) + k) = 0)
theorem lvF_36 {SO : Nat → Int} {cols rows k c : Nat} (hc : cols ≤ 6) (hr : rows ≤ 6) (h : (lvF SO cols rows k).getLsbD c = true) : c < 36 := by
  rw [lvF_b hc hr c] at h
  simp only [Bool.and_eq_true] at h
  have := of_decide_eq_true h.1
  omega
theorem bi_0 {b : Bool} : bi b = 0 ↔ b = false := ⟨bi_f, fun h => by rw [h]; rfl⟩
section W3
variable {SO so : Nat → Int} {cols rows : Nat} {bc bm : Nat → Int} {mv ce : Nat → BitVec 64} {pl g : Nat}
/-- what is given of the grid and of what is forbidden -/
def WH (SO so : Nat → Int) (cols rows : Nat) (bc bm : Nat → Int) (mv ce : Nat → BitVec 64) : Prop := (cols ≤ 6 ∧ rows ≤ 6) ∧ okS SO ∧ (∀ c, gIn cols rows c → so c = SO c) ∧ bR bc ce ∧ mR bm (lvF SO cols rows) mv
theorem gIn_36 {c : Nat} (hr : rows ≤ 6) (h : gIn cols rows c) : c < 36 := by have := h.2; omega
theorem mgo_iff (w : WH SO so cols rows bc bm mv ce) {c k t : Nat} (hg : gIn cols rows c) (h1 : SO c ≠ 1) (hk : k < 4) (ht : t < 41) : mgo so cols rows bc bm c k t = true ↔ (lvF SO cols rows k).getLsbD c = true ∧ (ce t).getLsbD ((c : Int) + t_ahd k).toNat = false ∧ (mv (41 * k + t)).getLsbD c = false := by
  obtain ⟨⟨c6, r6⟩, oS, hso, hb, hm⟩ := w
  obtain ⟨n1, n2⟩ := nxt_lv c6 r6 oS hso hg h1 hk
  have hc := gIn_36 r6 hg
  unfold mgo
  rw [decide_eq_true_eq, n1]
  by_cases hl : (lvF SO cols rows k).getLsbD c = true
  · obtain ⟨m1, m2, m3⟩ := n2 hl
    have ht36 := gIn_36 r6 m2
    rw [if_pos hl, hb t _ ht ht36, hm.1 t c k ht hc hk hl, bi_0, bi_0]
    exact ⟨fun q => ⟨hl, q.2.1, q.2.2⟩, fun q => ⟨by omega, q.2.1, q.2.2⟩⟩
  · rw [if_neg hl]
    exact ⟨fun q => absurd rfl q.1, fun q => absurd q.1 hl⟩
theorem mgo_4 (w : WH SO so cols rows bc bm mv ce) {c t : Nat} (hg : gIn cols rows c) (ht : t < 41) : (mgo so cols rows bc bm c 4 t = true ↔ (ce t).getLsbD c = false) ∧ nxt so cols rows c 4 = c := by
  obtain ⟨⟨c6, r6⟩, oS, hso, hb, hm⟩ := w
  have hc := gIn_36 r6 hg
  have e : nxt so cols rows c 4 = c := if_pos rfl
  refine ⟨?_, e⟩
  unfold mgo
  rw [decide_eq_true_eq, e, Int.toNat_natCast, hb t c ht hc, hm.2 t c ht hc, bi_0]
  exact ⟨fun q => q.2.1, fun q => ⟨by omega, q, rfl⟩⟩
theorem hs_in (c6 : cols ≤ 6) (r6 : rows ≤ 6) (oS : okS SO) (hp : gIn cols rows pl) (hp1 : SO pl ≠ 1) : ∀ (t c : Nat), (hsN (lvF SO cols rows) mv ce pl t).getLsbD c = true → gIn cols rows c ∧ SO c ≠ 1
  | 0, c, h => by
    have h2 : ((bt1 pl) &&& (ce 0 ^^^ FF)).getLsbD c = true := h
    rw [BitVec.getLsbD_and, Bool.and_eq_true, bt1_b (by have := gIn_36 r6 hp; omega)] at h2
    rw [of_decide_eq_true h2.1]
    exact ⟨hp, hp1⟩
  | t + 1, d, h => by
    have ih := hs_in c6 r6 oS hp hp1 t
    have h2 : (stp (lvF SO cols rows) mv ce (hsN (lvF SO cols rows) mv ce pl t) (t + 1)).getLsbD d = true := h
    by_cases hd : d < 36
    · rcases ((stp_iff hd).mp h2).2 with q | ⟨k, c, hk, hc, q1, q2, q3, q4⟩
      · exact ih d q
      · obtain ⟨i1, i2⟩ := ih c q1
        have := (nxt_lv (so := SO) c6 r6 oS (fun _ _ => rfl) i1 i2 hk).2 q2
        rw [show ((c : Int) + t_ahd k).toNat = d by omega] at this
        exact this.2
    · exfalso
      have hH : ∀ c, 36 ≤ c → (hsN (lvF SO cols rows) mv ce pl t).getLsbD c = false := fun c hc => by
        cases hb : (hsN (lvF SO cols rows) mv ce pl t).getLsbD c with
        | false => rfl
        | true => have := gIn_36 r6 (ih c hb).1; omega
      by_cases hd64 : d < 64
      · have hl : ∀ k c, k < 4 → (lvF SO cols rows k).getLsbD c = true → (hsN (lvF SO cols rows) mv ce pl t).getLsbD c = true → ((c : Int) + t_ahd k) < 36 := fun k c hk q1 q2 => by
          obtain ⟨i1, i2⟩ := ih c q2
          obtain ⟨j1, j2, -⟩ := (nxt_lv (so := SO) c6 r6 oS (fun _ _ => rfl) i1 i2 hk).2 q1
          have := gIn_36 r6 j2
          omega
        unfold stp at h2
        rw [BitVec.getLsbD_and, Bool.and_eq_true] at h2
        have h3 := h2.1
        simp only [BitVec.getLsbD_or, BitVec.getLsbD_and, BitVec.getLsbD_ushiftRight, BitVec.getLsbD_shiftLeft, Bool.or_eq_true, Bool.and_eq_true, Bool.not_eq_true', decide_eq_true_eq, decide_eq_false_iff_not] at h3
        rcases h3 with (((q | q) | q) | q) | q
        · rw [hH d (by omega)] at q; cases q
        · have := hH (6 + d) (by omega); rw [q.1.1] at this; cases this
        · have := hl 1 (d - 1) (by decide) q.2.1.2 q.2.1.1
          have h9 : ((d - 1 : Nat) : Int) + 1 < 36 := this
          omega
        · have := hl 2 (d - 6) (by decide) q.2.1.2 q.2.1.1
          have h9 : ((d - 6 : Nat) : Int) + 6 < 36 := this
          omega
        · have := hH (1 + d) (by omega); rw [q.1.1] at this; cases this
      · rw [BitVec.getLsbD_of_ge _ _ (by omega)] at h2; cases h2
/-- one time further -/
theorem hs_step (w : WH SO so cols rows bc bm mv ce) (hp : gIn cols rows pl) (hp1 : SO pl ≠ 1) {t d : Nat} (ht : t + 1 < 41) (hd : d < 36) : (hsN (lvF SO cols rows) mv ce pl (t + 1)).getLsbD d = true ↔ ∃ c k : Nat, c < 36 ∧ k < 5 ∧ (hsN (lvF SO cols rows) mv ce pl t).getLsbD c = true ∧ mgo so cols rows bc bm c k (t + 1) = true ∧ nxt so cols rows c k = d := by
  have w' := w
  obtain ⟨⟨c6, r6⟩, oS, hso, hb, hm⟩ := w'
  have hin := hs_in (mv := mv) (ce := ce) c6 r6 oS hp hp1 t
  show (stp (lvF SO cols rows) mv ce (hsN (lvF SO cols rows) mv ce pl t) (t + 1)).getLsbD d = true ↔ _
  rw [stp_iff hd]
  constructor
  · rintro ⟨q0, q | ⟨k, c, hk, hc, q1, q2, q3, q4⟩⟩
    · obtain ⟨i1, i2⟩ := hin d q
      obtain ⟨f1, f2⟩ := mgo_4 w i1 ht
      exact ⟨d, 4, hd, by decide, q, f1.mpr q0, f2⟩
    · obtain ⟨i1, i2⟩ := hin c q1
      have hc36 := gIn_36 r6 i1
      refine ⟨c, k, hc36, by omega, q1, (mgo_iff w i1 i2 hk ht).mpr ⟨q2, ?_, q3⟩, ?_⟩
      · rw [show ((c : Int) + t_ahd k).toNat = d by omega]; exact q0
      · rw [(nxt_lv c6 r6 oS hso i1 i2 hk).1, if_pos q2]; exact q4
  · rintro ⟨c, k, hc, hk, q1, q2, q3⟩
    obtain ⟨i1, i2⟩ := hin c q1
    by_cases k4 : k = 4
    · subst k4
      obtain ⟨f1, f2⟩ := mgo_4 w i1 ht
      have e : c = d := by rw [f2] at q3; omega
      subst e
      exact ⟨f1.mp q2, Or.inl q1⟩
    · obtain ⟨g1, g2, g3⟩ := (mgo_iff w i1 i2 (by omega) ht).mp q2
      rw [(nxt_lv c6 r6 oS hso i1 i2 (by omega)).1, if_pos g1] at q3
      rw [show ((c : Int) + t_ahd k).toNat = d by omega] at g2
      exact ⟨g2, Or.inr ⟨k, c, by omega, by omega, q1, g1, g3, q3⟩⟩
theorem bk_ce {lv : Nat → BitVec 64} {le : Nat} (hg : g < 36) (hce : (ce le).getLsbD g = false) : ∀ (d : Nat), d ≤ le → ∀ c, c < 36 → (bkD lv mv ce g le d).getLsbD c = true → (ce (le - d)).getLsbD c = false
  | 0, _, c, hc, h => by
    have h2 : (bt1 g).getLsbD c = true := h
    rw [bt1_b (by omega)] at h2
    rw [of_decide_eq_true h2]
    exact hce
  | d + 1, hd, c, hc, h => ((pre_iff (h := bkD lv mv ce g le d) (t := le - (d + 1)) hc).mp h).1
/-- from a cell at a time the end can be come to, and the cell is come to -/
def eS (lv mv ce : Nat → BitVec 64) (pl g le t c : Nat) : Bool := (hsN lv mv ce pl t).getLsbD c && (bkD lv mv ce g le (le - t)).getLsbD c
theorem eS_mv (w : WH SO so cols rows bc bm mv ce) (hp : gIn cols rows pl) (hp1 : SO pl ≠ 1) (hg : g < 36) {le : Nat} (hle : le < 41) (hce : (ce le).getLsbD g = false) {t c k : Nat} (ht : t < le) (hh : (hsN (lvF SO cols rows) mv ce pl t).getLsbD c = true) (hk : k < 4) : (mgo so cols rows bc bm c k (t + 1) = true ∧ eS (lvF SO cols rows) mv ce pl g le (t + 1) (nxt so cols rows c k).toNat = true) ↔ ((lvF SO cols rows k).getLsbD c = true ∧ (mv (41 * k + (t + 1))).getLsbD c = false ∧ (bkD (lvF SO cols rows) mv ce g le (le - (t + 1))).getLsbD ((c : Int) + t_ahd k).toNat = true) := by
  have w' := w
  obtain ⟨⟨c6, r6⟩, oS, hso, hb, hm⟩ := w'
  obtain ⟨i1, i2⟩ := hs_in (mv := mv) (ce := ce) c6 r6 oS hp hp1 t c hh
  have hc36 := gIn_36 r6 i1
  obtain ⟨n1, n2⟩ := nxt_lv c6 r6 oS hso i1 i2 hk
  constructor
  · rintro ⟨q1, q2⟩
    obtain ⟨g1, g2, g3⟩ := (mgo_iff w i1 i2 hk (by omega)).mp q1
    rw [n1, if_pos g1] at q2
    unfold eS at q2
    rw [Bool.and_eq_true] at q2
    exact ⟨g1, g3, q2.2⟩
  · rintro ⟨q1, q2, q3⟩
    obtain ⟨m1, m2, m3⟩ := n2 q1
    have ht36 := gIn_36 r6 m2
    have hcf := bk_ce hg hce (le - (t + 1)) (by omega) _ ht36 q3
    rw [show le - (le - (t + 1)) = t + 1 by omega] at hcf
    have hmg := (mgo_iff w i1 i2 hk (by omega)).mpr ⟨q1, hcf, q2⟩
    have eN : nxt so cols rows c k = (c : Int) + t_ahd k := by rw [n1, if_pos q1]
    refine ⟨hmg, ?_⟩
    unfold eS
    rw [eN, Bool.and_eq_true]
    exact ⟨(hs_step w hp hp1 (by omega) ht36).mpr ⟨c, k, hc36, by omega, hh, hmg, by rw [eN]; omega⟩, q3⟩
theorem eS_st (w : WH SO so cols rows bc bm mv ce) (hp : gIn cols rows pl) (hp1 : SO pl ≠ 1) (hg : g < 36) {le : Nat} (hle : le < 41) (hce : (ce le).getLsbD g = false) {t c : Nat} (ht : t < le) (hh : (hsN (lvF SO cols rows) mv ce pl t).getLsbD c = true) : (mgo so cols rows bc bm c 4 (t + 1) = true ∧ eS (lvF SO cols rows) mv ce pl g le (t + 1) (nxt so cols rows c 4).toNat = true) ↔ (bkD (lvF SO cols rows) mv ce g le (le - (t + 1))).getLsbD c = true := by
  have w' := w
  obtain ⟨⟨c6, r6⟩, oS, hso, hb, hm⟩ := w'
  obtain ⟨i1, i2⟩ := hs_in (mv := mv) (ce := ce) c6 r6 oS hp hp1 t c hh
  have hc36 := gIn_36 r6 i1
  obtain ⟨f1, f2⟩ := mgo_4 w i1 (show t + 1 < 41 by omega)
  rw [f2, Int.toNat_natCast]
  constructor
  · rintro ⟨q1, q2⟩
    unfold eS at q2
    rw [Bool.and_eq_true] at q2
    exact q2.2
  · intro q
    have hcf := bk_ce hg hce (le - (t + 1)) (by omega) _ hc36 q
    rw [show le - (le - (t + 1)) = t + 1 by omega] at hcf
    refine ⟨f1.mpr hcf, ?_⟩
    unfold eS
    rw [Bool.and_eq_true]
    exact ⟨(hs_step w hp hp1 (by omega) hc36).mpr ⟨c, 4, hc36, by decide, hh, f1.mpr hcf, f2⟩, q⟩
/-- one time back -/
theorem eS_step (w : WH SO so cols rows bc bm mv ce) (hp : gIn cols rows pl) (hp1 : SO pl ≠ 1) (hg : g < 36) {le : Nat} (hle : le < 41) (hce : (ce le).getLsbD g = false) {t c : Nat} (ht : t < le) (hc : c < 36) : eS (lvF SO cols rows) mv ce pl g le t c = true ↔ (hsN (lvF SO cols rows) mv ce pl t).getLsbD c = true ∧ ∃ k, k < 5 ∧ mgo so cols rows bc bm c k (t + 1) = true ∧ eS (lvF SO cols rows) mv ce pl g le (t + 1) (nxt so cols rows c k).toNat = true := by
  have w' := w
  obtain ⟨⟨c6, r6⟩, oS, hso, hb, hm⟩ := w'
  have e : bkD (lvF SO cols rows) mv ce g le (le - t) = pre (lvF SO cols rows) mv ce (bkD (lvF SO cols rows) mv ce g le (le - (t + 1))) t := by
    rw [show le - t = le - (t + 1) + 1 by omega]
    show pre _ _ _ _ (le - (le - (t + 1) + 1)) = _
    rw [show le - (le - (t + 1) + 1) = t by omega]
  have hspl : eS (lvF SO cols rows) mv ce pl g le t c = true ↔ (hsN (lvF SO cols rows) mv ce pl t).getLsbD c = true ∧ (pre (lvF SO cols rows) mv ce (bkD (lvF SO cols rows) mv ce g le (le - (t + 1))) t).getLsbD c = true := by
    unfold eS
    rw [e, Bool.and_eq_true]
  rw [hspl]
  refine and_congr_right (fun hh => ?_)
  obtain ⟨i1, i2⟩ := hs_in (mv := mv) (ce := ce) c6 r6 oS hp hp1 t c hh
  have hcet : (ce t).getLsbD c = false := by
    cases t with
    | zero =>
      have h2 : ((bt1 pl) &&& (ce 0 ^^^ FF)).getLsbD c = true := hh
      rw [BitVec.getLsbD_and, Bool.and_eq_true, nb (by omega)] at h2
      simpa using h2.2
    | succ t => exact ((stp_iff hc).mp (show (stp (lvF SO cols rows) mv ce (hsN (lvF SO cols rows) mv ce pl t) (t + 1)).getLsbD c = true from hh)).1
  rw [pre_iff hc]
  constructor
  · rintro ⟨-, q | ⟨k, hk, q1, q2, -, q4⟩⟩
    · exact ⟨4, by decide, (eS_st w hp hp1 hg hle hce ht hh).mpr q⟩
    · exact ⟨k, by omega, (eS_mv w hp hp1 hg hle hce ht hh hk).mpr ⟨q1, q2, q4⟩⟩
  · rintro ⟨k, hk, q⟩
    refine ⟨hcet, ?_⟩
    by_cases k4 : k = 4
    · subst k4
      exact Or.inl ((eS_st w hp hp1 hg hle hce ht hh).mp q)
    · have hk4 : k < 4 := by omega
      obtain ⟨q1, q2, q3⟩ := (eS_mv w hp hp1 hg hle hce ht hh hk4).mp q
      exact Or.inr ⟨k, hk4, q1, q2, ((nxt_lv (so := SO) c6 r6 oS (fun _ _ => rfl) i1 i2 hk4).2 q1).1, q3⟩
/-- the least move that still leads there -/
theorem lst_step (w : WH SO so cols rows bc bm mv ce) (hp : gIn cols rows pl) (hp1 : SO pl ≠ 1) (hg : g < 36) {le : Nat} (hle : le < 41) (hce : (ce le).getLsbD g = false) {t c : Nat} (ht : t < le) (hE : eS (lvF SO cols rows) mv ce pl g le t c = true) : ∃ k, k < 5 ∧ (∀ j, j < k → ¬ (mgo so cols rows bc bm c j (t + 1) = true ∧ eS (lvF SO cols rows) mv ce pl g le (t + 1) (nxt so cols rows c j).toNat = true)) ∧ (mgo so cols rows bc bm c k (t + 1) = true ∧ eS (lvF SO cols rows) mv ce pl g le (t + 1) (nxt so cols rows c k).toNat = true) ∧ nxt so cols rows c k = (lst (lvF SO cols rows) mv (fun u => bkD (lvF SO cols rows) mv ce g le (le - u)) c (t + 1) : Nat) := by
  have w' := w
  obtain ⟨⟨c6, r6⟩, oS, hso, hb, hm⟩ := w'
  have hh : (hsN (lvF SO cols rows) mv ce pl t).getLsbD c = true := by unfold eS at hE; rw [Bool.and_eq_true] at hE; exact hE.1
  obtain ⟨i1, i2⟩ := hs_in (mv := mv) (ce := ce) c6 r6 oS hp hp1 t c hh
  have hc36 := gIn_36 r6 i1
  have hex := ((eS_step w hp hp1 hg hle hce ht hc36).mp hE).2
  have hlsm : ∀ k, k < 4 → (lsm (lvF SO cols rows) mv (fun u => bkD (lvF SO cols rows) mv ce g le (le - u)) c (t + 1) k = true ↔ (mgo so cols rows bc bm c k (t + 1) = true ∧ eS (lvF SO cols rows) mv ce pl g le (t + 1) (nxt so cols rows c k).toNat = true)) := fun k hk => by
    rw [eS_mv w hp hp1 hg hle hce ht hh hk]
    unfold lsm
    rw [BitVec.getLsbD_and, nb (by omega)]
    simp only [Bool.and_eq_true, Bool.not_eq_true']
    exact and_assoc
  unfold lst
  rcases fstN_cases (lsm (lvF SO cols rows) mv (fun u => bkD (lvF SO cols rows) mv ce g le (le - u)) c (t + 1)) 4 with ⟨f1, f2⟩ | ⟨k, hk, f1, f2, f3⟩
  · have hno : ∀ j, j < 4 → ¬ (mgo so cols rows bc bm c j (t + 1) = true ∧ eS (lvF SO cols rows) mv ce pl g le (t + 1) (nxt so cols rows c j).toNat = true) := fun j hj q => by
      have := (hlsm j hj).mpr q
      rw [f2 j hj] at this
      cases this
    obtain ⟨k, hk, q⟩ := hex
    have k4 : k = 4 := Classical.byContradiction fun z => hno k (by omega) q
    subst k4
    rw [if_pos f1]
    exact ⟨4, by decide, hno, q, (mgo_4 w i1 (show t + 1 < 41 by omega)).2⟩
  · have q := (hlsm k hk).mp f2
    obtain ⟨g1, -, -⟩ := (eS_mv w hp hp1 hg hle hce ht hh hk).mp q
    obtain ⟨n1, n2⟩ := nxt_lv c6 r6 oS hso i1 i2 hk
    rw [if_neg (by omega), f1, Int.toNat_natCast]
    refine ⟨k, by omega, fun j hj q2 => ?_, q, ?_⟩
    · have := (hlsm j (by omega)).mpr q2
      rw [f3 j hj] at this
      cases this
    · rw [n1, if_pos g1]
      have := (n2 g1).1
      omega
end W3

