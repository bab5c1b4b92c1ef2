/-! the reference: rows of ways that begin at the places and stay at the goals -/
section MD
variable {z : PS} {P C : Nat → Int}
/-- rows of ways: P by cart and time, C what they cost -/
def okW (z : PS) (P C : Nat → Int) : Prop := ∀ c, c < zCa z → P (41 * c) = zPL z c ∧ 0 ≤ C c ∧ C c ≤ 40 ∧ ∀ t : Nat, C c ≤ t → t < 41 → P (41 * c + t) = zGO z c
theorem mx_ge {C : Nat → Int} : ∀ {n c : Nat}, c < n → C c ≤ mxN C n
  | n + 1, c, h => by
    unfold mxN
    by_cases e : c = n
    · subst e
      split <;> omega
    · have := mx_ge (C := C) (n := n) (c := c) (by omega)
      split <;> omega
theorem okW.last (h : okW z P C) : (mxN C (zCa z)).toNat ≤ 40 ∧ 0 ≤ mxN C (zCa z) := by
  have := mxN_rg (C := C) (b := 40) (by decide) (n := zCa z) (fun k hk => (h k hk).2.2.1)
  omega
theorem okW.d0 (w : WFz z) (h : okW z P C) : ∀ a b, a < b → b < zCa z → P (41 * a) ≠ P (41 * b) := fun a b h1 h2 => by
  rw [(h a (by omega)).1, (h b h2).1]
  exact (w.2.2.1 a b h1 h2).1
theorem okW.de (w : WFz z) (h : okW z P C) : ∀ a b t, a < b → b < zCa z → (mxN C (zCa z)).toNat ≤ t → t < 40 → soc P a b t = -1 := fun a b t h1 h2 h3 h4 => by
  have ha := h a (by omega)
  have hb := h b h2
  have m1 := mx_ge (C := C) (n := zCa z) (c := a) (by omega)
  have m2 := mx_ge (C := C) (n := zCa z) (c := b) h2
  have m3 := h.last.2
  exact soc_apart (ha.2.2.2 t (by omega) (by omega)) (ha.2.2.2 (t + 1) (by omega) (by omega)) (hb.2.2.2 t (by omega) (by omega)) (hb.2.2.2 (t + 1) (by omega) (by omega)) (w.2.2.1 a b h1 h2).2
/-- the count is the class's -/
theorem okW.cc (w : WFz z) (h : okW z P C) : fT P (zCa z) 41 = ccN P (zCa z) (mxN C (zCa z)).toNat := fT_cc h.last.1 (h.d0 w) (h.de w)
/-- and so is the first -/
theorem okW.fs (w : WFz z) (h : okW z P C) {t s a b : Nat} (hf : fsB P (zCa z) t s a b) : ∃ u, t = u + 1 ∧ u < (mxN C (zCa z)).toNat ∧ fsC P (zCa z) u s a b := by
  obtain ⟨u, e⟩ := fsB_t (h.d0 w) hf
  subst e
  have h41 := hf.1.1
  exact ⟨u, rfl, fsC_lt (h.de w) (by omega) (fsB_fsC hf), fsB_fsC hf⟩
theorem okW.cg (h : okW z P C) {P' : Nat → Int} (hP : ∀ i, i < 41 * zCa z → P' i = P i) : okW z P' C := fun c hc => by
  obtain ⟨q1, q2, q3, q4⟩ := h c hc
  exact ⟨by rw [hP _ (by omega), q1], q2, q3, fun t h1 h2 => by rw [hP _ (by omega), q4 t h1 h2]⟩
theorem w0z (w : WFz z) : WH (zSO z) (zSO z) (zCo z) (zRo z) (fun _ => 0) (fun _ => 0) (fun _ => 0) (fun _ => 0) := ⟨⟨w.1.1.1, w.1.1.2.1⟩, w.1.2.1, fun _ _ => rfl, fun t c _ _ => by simp [bi], fun t c k _ _ _ _ => by simp [bi], fun _ _ _ _ => rfl⟩
/-- a way alone -/
theorem alw_ct (w : WFz z) {c : Nat} (hc : c < zCa z) (ha : alcZ z c ≠ -1) : (ctN (alw (lvZ z) (zPL z) (zGO z) c) 40 : Int) = alcZ z c ∧ 0 ≤ alcZ z c ∧ alcZ z c ≤ 40 ∧ (∀ t : Nat, alcZ z c ≤ t → alw (lvZ z) (zPL z) (zGO z) c t = zGO z c) ∧ alw (lvZ z) (zPL z) (zGO z) c 0 = zPL z c := by
  obtain ⟨q1, q2, q3, q4⟩ := w.2.1 c hc
  have r6 := w.1.1.2.1
  have hr : -1 ≤ alcZ z c ∧ alcZ z c ≤ 40 := lcs_rg (lvZ z) (fun _ => 0) (fun _ => 0) (zPL z c).toNat (zGO z c).toNat
  obtain ⟨le, hle⟩ : ∃ le : Nat, alcZ z c = le := ⟨(alcZ z c).toNat, by omega⟩
  obtain ⟨e1, e2, e3, e4⟩ := wyt_ct (w0z w) (gIn_z q1) q2 (gIn_36 r6 (gIn_z q3)) (show lcs (lvF (zSO z) (zCo z) (zRo z)) (fun _ => 0) (fun _ => 0) (zPL z c).toNat (zGO z c).toNat = le from hle)
  have p1 := q1.1
  have p3 := q3.1
  refine ⟨?_, by omega, by omega, fun t ht => ?_, ?_⟩
  · rw [hle]
    exact congrArg Nat.cast e1
  · refine (e3 t (by omega)).trans ?_
    omega
  · refine e4.trans ?_
    omega
theorem okW_al (w : WFz z) (ha : allZ z = true) : okW z (alPZ z) (alcZ z) := fun c hc => by
  obtain ⟨e1, e2, e3, e4, e5⟩ := alw_ct w hc (of_decide_eq_true ha c hc)
  have hP : ∀ t, t < 41 → alPZ z (41 * c + t) = alw (lvZ z) (zPL z) (zGO z) c t := fun t ht => by
    show alw (lvZ z) (zPL z) (zGO z) ((41 * c + t) / 41) ((41 * c + t) % 41) = _
    rw [show (41 * c + t) / 41 = c by omega, show (41 * c + t) % 41 = t by omega]
  refine ⟨?_, e2, e3, fun t h1 h2 => by rw [hP t h2, e4 t h1]⟩
  have := hP 0 (by omega)
  rw [e5] at this
  exact this
/-- the clashes of all ways alone -/
theorem cl_al (w : WFz z) (ha : allZ z = true) (hP : ∀ i, i < 41 * zCa z → P i = alPZ z i) : fT P (zCa z) 41 = ccZ z ∧ ∀ t s a b : Nat, fsB P (zCa z) t s a b → fcl (alPZ z) (zCa z) (mxZ z) = (t - 1, (s : Int), a, b) ∧ 0 < t := by
  have h := (okW_al w ha).cg hP
  have hl := h.last.1
  refine ⟨?_, fun t s a b hf => ?_⟩
  · rw [h.cc w]
    exact ccN_cong hP hl
  · obtain ⟨u, e, hu, hC⟩ := h.fs w hf
    subst e
    exact ⟨fcl_eq hu (fsC_cong hP (by omega) hC), by omega⟩
end MD

