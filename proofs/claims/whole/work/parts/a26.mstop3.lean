/-! stops: the class's times keep all that must be kept -/
section SR
variable {P : Nat → Int} {n sd ti nn t c : Nat} {vn : Nat → Nat} {T : Nat → Nat → Nat}
theorem NC.eq (hN : NC P n) {a b s : Nat} (ha : a < n) (hb : b < n) (hs : s < 41) (h : P (41 * a + s) = P (41 * b + s)) : a = b := by
  refine Classical.byContradiction fun q => ?_
  exact hN.1 a b s ha hb q hs h
theorem lf_J1 (hN : NC P n) : ∀ t, t ≤ 40 → ∀ o, o < n → lfS P n sd ti nn t (P (41 * o + t)).toNat ≤ cmS P n sd ti nn t o
  | 0, _ => fun o _ => Int.le_refl _
  | t + 1, ht => by
    intro o ho
    have ih := lf_J1 hN t (by omega)
    have ro := hN.2 o (t + 1) ho (by omega)
    rw [lfS_s]
    cases hz : cmz P o t with
    | false =>
      have eP := cmz_f hz
      rcases so5_cases (P := P) (t := t) (lf := lfS P n sd ti nn t) (cm := cmS P n sd ti nn (t + 1)) (x := (P (41 * o + (t + 1))).toNat) n with ⟨e, -⟩ | ⟨k, hk, hkz, hx, e⟩
      · rw [e, cmS_nz hz, eP]
        exact ih o ho
      · have rk := hN.2 k t hk (by omega)
        have : k = o := hN.eq (s := t) hk ho (by omega) (by omega)
        rw [this, hz] at hkz
        cases hkz
    | true =>
      have hu := cmS_un (n := n) (sd := sd) (ti := ti) (nn := nn) ho hz
      unfold untN at hu
      rcases so5_cases (P := P) (t := t) (lf := lfS P n sd ti nn t) (cm := cmS P n sd ti nn (t + 1)) (x := (P (41 * o + (t + 1))).toNat) n with ⟨e, hno⟩ | ⟨k, hk, hkz, hx, e⟩
      · rw [e]
        rcases hdN_rg (P := P) (n := n) (t := t) (k := o) with q | ⟨p1, p2, p3⟩
        · rw [if_pos q] at hu
          exact hu
        · obtain ⟨a, ha⟩ : ∃ a, a = (hdN P n t o).toNat := ⟨_, rfl⟩
          rw [← ha] at p1 p3
          have hao : a ≠ o := fun q => by
            rw [q] at p3
            have := of_decide_eq_true hz
            omega
          have haz : cmz P a t = true := by
            cases ea : cmz P a t with
            | true => rfl
            | false => exact absurd ((cmz_f ea).trans p3) (hN.1 a o (t + 1) p1 ho hao (by omega))
          exact absurd (by rw [p3]) (hno a p1 haz)
      · rw [e]
        have rk := hN.2 k t hk (by omega)
        have ek : P (41 * k + t) = P (41 * o + (t + 1)) := by omega
        rcases hdN_rg (P := P) (n := n) (t := t) (k := o) with q | ⟨p1, p2, p3⟩
        · exact absurd ek (hdN_no q k hk)
        · rw [if_neg (by omega), hN.eq (s := t) p1 hk (by omega) (p3.trans ek.symm)] at hu
          exact hu
theorem lf_up (hN : NC P n) (ht : t < 40) (x : Nat) : lfS P n sd ti nn t x ≤ lfS P n sd ti nn (t + 1) x := by
  rw [lfS_s]
  rcases so5_cases (P := P) (t := t) (lf := lfS P n sd ti nn t) (cm := cmS P n sd ti nn (t + 1)) (x := x) n with ⟨e, -⟩ | ⟨k, hk, hkz, hx, e⟩
  · rw [e]; exact Int.le_refl _
  · rw [e]
    have h1 := lf_J1 hN (sd := sd) (ti := ti) (nn := nn) t (by omega) k hk
    rw [hx] at h1
    have h2 := (cmS_z (sd := sd) (ti := ti) (nn := nn) hk hkz).2
    omega
theorem lf_upd (hN : NC P n) (x s : Nat) : ∀ d, s + d ≤ 40 → lfS P n sd ti nn s x ≤ lfS P n sd ti nn (s + d) x
  | 0, _ => Int.le_refl _
  | d + 1, hd => Int.le_trans (lf_upd hN x s d (by omega)) (lf_up hN (by omega) x)
theorem lf_hit (hN : NC P n) {o : Nat} (ho : o < n) (ht : t < 40) (hz : cmz P o t = true) : lfS P n sd ti nn (t + 1) (P (41 * o + t)).toNat = cmS P n sd ti nn (t + 1) o := by
  rw [lfS_s]
  rcases so5_cases (P := P) (t := t) (lf := lfS P n sd ti nn t) (cm := cmS P n sd ti nn (t + 1)) (x := (P (41 * o + t)).toNat) n with ⟨e, hno⟩ | ⟨k, hk, hkz, hx, e⟩
  · exact absurd rfl (hno o ho hz)
  · have rk := hN.2 k t hk (by omega)
    have ro := hN.2 o t ho (by omega)
    rw [e, hN.eq (s := t) hk ho (by omega) (by omega)]
theorem sS_const (hV : VT P n vn T) (hc : c < n) {i : Nat} : ∀ d, T c i + d ≤ 40 → cuV vn T c (T c i + d) i → cmS P n sd ti nn (T c i + d) c = cmS P n sd ti nn (T c i) c
  | 0, _, _ => rfl
  | d + 1, hd, hi => by
    have hi0 : cuV vn T c (T c i + d) i := ⟨hi.1, by omega, fun q => by have := hi.2.2 q; omega⟩
    have hz := hV.nz hc hi0 (by omega) (fun q e => by have := hi.2.2 q; omega)
    show cmS P n sd ti nn (T c i + d + 1) c = _
    rw [cmS_nz hz]
    exact sS_const hV hc (i := i) d (by omega) hi0
theorem sS_const' (hV : VT P n vn T) (hc : c < n) {i s : Nat} (hs : s ≤ 40) (hi : cuV vn T c s i) : cmS P n sd ti nn s c = cmS P n sd ti nn (T c i) c := by
  have h1 := hi.2.1
  have := sS_const hV hc (sd := sd) (ti := ti) (nn := nn) (i := i) (s - T c i) (by omega) (by rw [show T c i + (s - T c i) = s by omega]; exact hi)
  rw [show T c i + (s - T c i) = s by omega] at this
  exact this
/-- the visit ahead of the next one -/
theorem VT.pre (hV : VT P n vn T) (hc : c < n) {i : Nat} (hi : i + 1 < vn c) : ∃ s, T c (i + 1) = s + 1 ∧ s < 40 ∧ cmz P c s = true ∧ cuV vn T c s i := by
  obtain ⟨q1, q2⟩ := (hV c hc).2.2.2.1 i hi
  have q3 := (hV c hc).2.2.1 (i + 1) hi
  refine ⟨T c (i + 1) - 1, by omega, by omega, q2, by omega, by omega, fun _ => by omega⟩
theorem VT.left (hV : VT P n vn T) (hN : NC P n) {o i j : Nat} (hc : c < n) (ho : o < n) (hoc : o ≠ c) (hi : i + 1 < vn c) (hj : j + 1 < vn o) (hP : P (41 * o + T o j) = P (41 * c + T c (i + 1))) (hl : T o j < T c (i + 1)) : T o (j + 1) ≤ T c (i + 1) := by
  refine Classical.byContradiction fun q => ?_
  have h40 := (hV c hc).2.2.1 (i + 1) hi
  have hcu : cuV vn T o (T c (i + 1)) j := ⟨by omega, by omega, fun _ => by omega⟩
  have e := hV.at' ho h40 hcu
  exact hN.1 o c (T c (i + 1)) ho hc hoc (by omega) (e.trans hP)
theorem sS_sol (hV : VT P n vn T) (hN : NC P n) (hs : sd < n) : Sol P n vn T sd ti nn (fun c i => cmS P n sd ti nn (T c i) c) := by
  refine ⟨fun c hc i hi => ?_, fun c hc i hi => ?_, fun i hi h1 h2 => ?_, fun c hc o ho hoc i hi j hj hP hl => ?_⟩
  · cases i with
    | zero =>
      show ((T c 0 : Nat) : Int) ≤ cmS P n sd ti nn (T c 0) c
      rw [(hV c hc).2.1]
      exact Int.le_refl _
    | succ i =>
      obtain ⟨s, e, s1, s2, s3⟩ := hV.pre hc hi
      show ((T c (i + 1) : Nat) : Int) ≤ cmS P n sd ti nn (T c (i + 1)) c
      rw [e]
      exact (cmS_z hc s2).1
  · obtain ⟨s, e, s1, s2, s3⟩ := hV.pre hc hi
    show cmS P n sd ti nn (T c i) c + 1 ≤ cmS P n sd ti nn (T c (i + 1)) c
    rw [e, ← sS_const' hV hc (by omega) s3]
    exact (cmS_z hc s2).2
  · obtain ⟨s, e, s1, s2, s3⟩ := hV.pre hs hi
    show _ ≤ cmS P n sd ti nn (T sd (i + 1)) sd
    rw [e]
    refine cmS_st ?_
    unfold stS
    have hw : wtS P n sd ti nn s = true := (wtS_t s).mpr fun u hu h3 => (hV sd hs).2.2.2.2 i (by omega) u (by omega) (by omega) (fun _ => by omega)
    rw [hw, s2, decide_eq_true (by omega)]
    rfl
  · show cmS P n sd ti nn (T o (j + 1)) o ≤ cmS P n sd ti nn (T c (i + 1)) c
    have hle := hV.left hN hc ho hoc hi hj hP hl
    have h40 := (hV c hc).2.2.1 (i + 1) hi
    obtain ⟨s, e, s1, s2, s3⟩ := hV.pre ho hj
    have hx := hV.at' ho (by omega) s3
    have h1 := lf_hit hN (sd := sd) (ti := ti) (nn := nn) ho s1 s2
    rw [hx, hP] at h1
    have h2 := lf_J1 hN (sd := sd) (ti := ti) (nn := nn) (T c (i + 1)) h40 c hc
    have h3 := lf_upd hN (sd := sd) (ti := ti) (nn := nn) (P (41 * c + T c (i + 1))).toNat (s + 1) (T c (i + 1) - (s + 1)) (by omega)
    rw [show s + 1 + (T c (i + 1) - (s + 1)) = T c (i + 1) by omega] at h3
    rw [e, ← h1]
    omega
theorem told_sol (hV : VT P n vn T) (hN : NC P n) (h : ∀ i, i + 1 < vn sd → T sd i ≤ ti → ti < T sd (i + 1) → ((ti + nn + 1 : Nat) : Int) ≤ (T sd (i + 1) : Int)) : Sol P n vn T sd ti nn (fun c i => (T c i : Int)) := by
  refine ⟨fun c hc i hi => Int.le_refl _, fun c hc i hi => ?_, h, fun c hc o ho hoc i hi j hj hP hl => ?_⟩
  · have := ((hV c hc).2.2.2.1 i hi).1
    show (T c i : Int) + 1 ≤ (T c (i + 1) : Int)
    omega
  · have := hV.left hN hc ho hoc hi hj hP hl
    show (T o (j + 1) : Int) ≤ (T c (i + 1) : Int)
    omega
theorem sS_le {X : Nat → Nat → Int} (hV : VT P n vn T) (hN : NC P n) (hs : sd < n) (hX : Sol P n vn T sd ti nn X) (hc : c < n) {i : Nat} (hi : i < vn c) : cmS P n sd ti nn (T c i) c ≤ X c i := (cm_least hV hN hs hX (T c i) ((hV c hc).2.2.1 i hi)).1 c hc i (hV.self hc hi)
theorem sS_nn {nn' : Nat} (hV : VT P n vn T) (hN : NC P n) (hs : sd < n) (hn : nn ≤ nn') (hc : c < n) {i : Nat} (hi : i < vn c) : cmS P n sd ti nn (T c i) c ≤ cmS P n sd ti nn' (T c i) c := by
  have h := sS_sol hV hN hs (ti := ti) (nn := nn')
  exact sS_le hV hN hs (X := fun c i => cmS P n sd ti nn' (T c i) c) ⟨h.1, h.2.1, fun i h1 h2 h3 => Int.le_trans (by omega) (h.2.2.1 i h1 h2 h3), h.2.2.2⟩ hc hi
/-- what is late at the end: by the last visit -/
theorem VT.last (hV : VT P n vn T) (hc : c < n) : cuV vn T c 40 (vn c - 1) := by
  have h1 := (hV c hc).1
  refine ⟨by omega, (hV c hc).2.2.1 _ (by omega), fun q => by omega⟩
theorem sS_last (hV : VT P n vn T) (hc : c < n) : (so6 P n sd ti nn 40).2.1 c = cmS P n sd ti nn (T c (vn c - 1)) c := sS_const' hV hc (Nat.le_refl 40) (hV.last hc)
end SR

