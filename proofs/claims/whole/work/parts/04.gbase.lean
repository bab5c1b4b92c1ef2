/-! G: a judgement over the kit's W, with the heap as a function from addresses to cells -/
abbrev AE : Type := (Nat × List Value) ⊕ (Nat × Nat × ((Nat → Int) ⊕ (Nat → BitVec 64) ⊕ (Nat → Option Nat)))
abbrev AH : Type := Nat × (Nat → Option AE)
abbrev GT : Type := Launch × State × va_G
def ii (z : Int) : Int32 := Int32.ofInt z
def lb (b : BitVec 64) : Int64 := Int64.ofBitVec b
abbrev ob (ci : Nat) (fs : List Value) : AE := .inl (ci, fs)
abbrev ai (n : Nat) (f : Nat → Int) : AE := .inr (0, n, .inl f)
abbrev az (n : Nat) (f : Nat → Int) : AE := .inr (1, n, .inl f)
abbrev al (n : Nat) (f : Nat → BitVec 64) : AE := .inr (2, n, .inr (.inl f))
abbrev aq (t n : Nat) (f : Nat → Option Nat) : AE := .inr (t, n, .inr (.inr f))
def ty_of (t : Nat) : FieldType := match t with
  | 0 => .int
  | 1 => .boolean
  | 2 => .long
  | 3 => .object "CartPaths$Node"
  | _ => .object "CartPaths$Tree"
def ac_v (f : (Nat → Int) ⊕ (Nat → BitVec 64) ⊕ (Nat → Option Nat)) (j : Nat) : Value := match f with
  | .inl g => .int (ii (g j))
  | .inr (.inl g) => .long (lb (g j))
  | .inr (.inr g) => va_rf (g j)
def ht_at (Γ : GT) (a : Nat) (e : AE) (H : Heap) : Prop := match e with
  | .inl o => ∃ r : vw_C, vwCl[o.1]? = some r ∧ o.2.length = r.2.2 ∧ t_OB a (Γ.2.2.1 o.1) r.2.2 (Γ.2.2.2 o.1) H (vp_V o.2)
  | .inr q => ∃ cA : ClassId, ArrOfT Γ.2.1 cA (ty_of q.1) ∧ va_RA Γ.2.1 cA (ty_of q.1) ∧ q.2.1 < 2 ^ 31 ∧ H[a]? = some (arrV cA q.2.1 (ac_v q.2.2))
def wld (Γ : GT) (σ : AH) (H : Heap) : Prop := H.size = σ.1 ∧ Γ.2.1.heap.size ≤ σ.1 ∧ (∀ q : Nat, q < Γ.2.1.heap.size → H[q]? = Γ.2.1.heap[q]?) ∧ ∀ (a : Nat) (e : AE), σ.2 a = some e → Γ.2.1.heap.size ≤ a ∧ ht_at Γ a e H
def hput (σ : AH) (a : Nat) (e : AE) : AH := (σ.1, fun b => if b = a then some e else σ.2 b)
def hnew (σ : AH) (e : AE) : AH := (σ.1 + 1, fun b => if b = σ.1 then some e else σ.2 b)
theorem hput_s (σ : AH) (a : Nat) (e : AE) : (hput σ a e).2 a = some e := by simp [hput]
theorem hput_n (σ : AH) {a b : Nat} (e : AE) (h : b ≠ a) : (hput σ a e).2 b = σ.2 b := by simp [hput, h]
theorem hput_1 (σ : AH) (a : Nat) (e : AE) : (hput σ a e).1 = σ.1 := rfl
theorem hnew_s (σ : AH) (e : AE) : (hnew σ e).2 σ.1 = some e := by simp [hnew]
theorem hnew_n (σ : AH) {b : Nat} (e : AE) (h : b ≠ σ.1) : (hnew σ e).2 b = σ.2 b := by simp [hnew, h]
theorem hnew_1 (σ : AH) (e : AE) : (hnew σ e).1 = σ.1 + 1 := rfl
theorem ht_at.kept {Γ : GT} {a : Nat} {e : AE} {H H' : Heap} (h : ht_at Γ a e H) (hq : H'[a]? = H[a]?) : ht_at Γ a e H' := by
  cases e with
  | inl o =>
    obtain ⟨r, h1, h2, h3⟩ := h
    exact ⟨r, h1, h2, h3.kept hq⟩
  | inr q =>
    obtain ⟨cA, h1, h2, h3, h4⟩ := h
    exact ⟨cA, h1, h2, h3, by rw [hq]; exact h4⟩
theorem ht_at.lt {Γ : GT} {a : Nat} {e : AE} {H : Heap} (h : ht_at Γ a e H) : a < H.size := by
  cases e with
  | inl o =>
    obtain ⟨r, h1, h2, cell, h3, -⟩ := h
    exact (Array.getElem?_eq_some_iff.mp h3).1
  | inr q =>
    obtain ⟨cA, h1, h2, h3, h4⟩ := h
    exact (Array.getElem?_eq_some_iff.mp h4).1
theorem wld.lt {Γ : GT} {σ : AH} {H : Heap} (w : wld Γ σ H) {a : Nat} {e : AE} (h : σ.2 a = some e) : a < σ.1 := by
  rw [← w.1]; exact (w.2.2.2 a e h).2.lt
theorem wld.put {Γ : GT} {σ : AH} {H H' : Heap} {a : Nat} {e : AE} (w : wld Γ σ H) (ha : Γ.2.1.heap.size ≤ a) (he : ht_at Γ a e H') (hz : H'.size = H.size) (ho : ∀ q, q ≠ a → H'[q]? = H[q]?) : wld Γ (hput σ a e) H' := by
  refine ⟨by rw [hz, w.1]; rfl, w.2.1, fun q hq => by rw [ho q (by omega)]; exact w.2.2.1 q hq, fun b e' hb => ?_⟩
  by_cases h : b = a
  · subst h
    rw [hput_s] at hb
    cases hb
    exact ⟨ha, he⟩
  · rw [hput_n _ _ h] at hb
    obtain ⟨h1, h2⟩ := w.2.2.2 b e' hb
    exact ⟨h1, h2.kept (ho b h)⟩
theorem wld.new {Γ : GT} {σ : AH} {H H' : Heap} {e : AE} (w : wld Γ σ H) (he : ht_at Γ σ.1 e H') (hz : H'.size = σ.1 + 1) (ho : ∀ q, q < σ.1 → H'[q]? = H[q]?) : wld Γ (hnew σ e) H' := by
  refine ⟨by rw [hz]; rfl, Nat.le_succ_of_le w.2.1, fun q hq => by rw [ho q (Nat.lt_of_lt_of_le hq w.2.1)]; exact w.2.2.1 q hq, fun b e' hb => ?_⟩
  by_cases h : b = σ.1
  · subst h
    rw [hnew_s] at hb
    cases hb
    exact ⟨w.2.1, he⟩
  · rw [hnew_n _ _ h] at hb
    obtain ⟨h1, h2⟩ := w.2.2.2 b e' hb
    exact ⟨h1, h2.kept (ho b (w.lt hb))⟩
/-- the heap has grown by cells that are none of ours -/
theorem wld.grow {Γ : GT} {σ : AH} {H H' : Heap} (w : wld Γ σ H) (hz : H.size ≤ H'.size) (ho : ∀ q, q < H.size → H'[q]? = H[q]?) : wld Γ (H'.size, σ.2) H' := by
  refine ⟨rfl, Nat.le_trans w.2.1 (by rw [← w.1]; exact hz), fun q hq => by rw [ho q (by rw [w.1]; exact Nat.lt_of_lt_of_le hq w.2.1)]; exact w.2.2.1 q hq, fun b e hb => ?_⟩
  obtain ⟨h1, h2⟩ := w.2.2.2 b e hb
  exact ⟨h1, h2.kept (ho b h2.lt)⟩
/-! locals by place -/
def lh (ls : Array Slot) (n : Nat) (L : List (Option Value)) : Prop := L.length = n ∧ ls.size = n ∧ lv_wf ls ∧ ∀ (i : Nat) (v : Value), L[i]? = some (some v) → ls[i]? = some (.val v)
def prs (L : List (Option Value)) : List (Nat × Value) := (List.range L.length).filterMap fun i => match L[i]? with
  | some (some v) => some (i, v)
  | _ => none
theorem prs_mem {L : List (Option Value)} {i : Nat} {v : Value} : (i, v) ∈ prs L ↔ L[i]? = some (some v) := by
  unfold prs
  rw [List.mem_filterMap]
  constructor
  · rintro ⟨j, -, hj⟩
    split at hj
    · rename_i w hw
      cases hj
      exact hw
    · cases hj
  · intro h
    refine ⟨i, List.mem_range.mpr (List.getElem?_eq_some_iff.mp h).1, ?_⟩
    rw [h]
theorem lh.toPrs {ls : Array Slot} {n : Nat} {L : List (Option Value)} (h : lh ls n L) : lv_has ls n (prs L) := ⟨h.2.1, h.2.2.1, fun q hq => h.2.2.2 q.1 q.2 (prs_mem.mp hq)⟩
def lcl (L : List (Option Value)) (i : Nat) : List (Option Value) := match i with
  | 0 => L
  | j + 1 => match L[j]? with
    | some (some v) => if v.category = 2 then L.set j none else L
    | _ => L
def lset1 (L : List (Option Value)) (i : Nat) (v : Value) : List (Option Value) := (lcl L i).set i (some v)
def lset2 (L : List (Option Value)) (i : Nat) (v : Value) : List (Option Value) := ((lcl L i).set i (some v)).set (i + 1) none
theorem lcl_len (L : List (Option Value)) (i : Nat) : (lcl L i).length = L.length := by
  unfold lcl
  split
  · rfl
  · split
    · split <;> simp
    · rfl
theorem lcl_get {L : List (Option Value)} {i j : Nat} {v : Value} (h : (lcl L i)[j]? = some (some v)) : L[j]? = some (some v) ∧ ¬ (j + 1 = i ∧ v.category = 2) := by
  unfold lcl at h
  split at h
  · exact ⟨h, fun q => by omega⟩
  · rename_i k
    split at h
    · rename_i w hw
      split at h
      · rename_i hc
        by_cases e : j = k
        · subst e
          have hl := (List.getElem?_eq_some_iff.mp hw).1
          rw [List.getElem?_set_self hl] at h
          cases h
        · rw [List.getElem?_set_ne (fun q => e q.symm)] at h
          exact ⟨h, fun q => by omega⟩
      · rename_i hc
        refine ⟨h, fun q => ?_⟩
        have e : j = k := by omega
        subst e
        rw [hw] at h
        cases h
        exact hc q.2
    · rename_i hno
      refine ⟨h, fun q => ?_⟩
      have e : j = k := by omega
      subst e
      exact hno v h
theorem lh.st1 {ls' : Array Slot} {n i : Nat} {L : List (Option Value)} {v : Value} (hn : L.length = n) (hi : i < n) (h : lv_has ls' n ((i, v) :: (prs L).filter (fun q => !(q.1 == i) && !(q.1 + 1 == i && q.2.category == 2)))) : lh ls' n (lset1 L i v) := by
  refine ⟨by simp [lset1, lcl_len, hn], h.1, h.2.1, fun j w hj => ?_⟩
  unfold lset1 at hj
  by_cases e : j = i
  · subst e
    rw [List.getElem?_set_self (by rw [lcl_len]; omega)] at hj
    cases hj
    exact h.2.2 (j, v) List.mem_cons_self
  · rw [List.getElem?_set_ne (fun q => e q.symm)] at hj
    obtain ⟨h1, h2⟩ := lcl_get hj
    refine h.2.2 (j, w) (List.mem_cons_of_mem _ (List.mem_filter.mpr ⟨prs_mem.mpr h1, ?_⟩))
    simp only [Bool.and_eq_true, Bool.not_eq_true', beq_eq_false_iff_ne, ne_eq, Bool.and_eq_false_iff]
    exact ⟨e, Decidable.not_and_iff_or_not.mp h2⟩
theorem lh.st2 {ls' : Array Slot} {n i : Nat} {L : List (Option Value)} {v : Value} (hn : L.length = n) (hi : i + 1 < n) (h : lv_has ls' n ((i, v) :: (prs L).filter (fun q => !(q.1 == i) && (!(q.1 == i + 1) && !(q.1 + 1 == i && q.2.category == 2))))) : lh ls' n (lset2 L i v) := by
  refine ⟨by simp [lset2, lcl_len, hn], h.1, h.2.1, fun j w hj => ?_⟩
  unfold lset2 at hj
  by_cases e1 : j = i + 1
  · subst e1
    rw [List.getElem?_set_self (by simp [lcl_len]; omega)] at hj
    cases hj
  rw [List.getElem?_set_ne (fun q => e1 q.symm)] at hj
  by_cases e : j = i
  · subst e
    rw [List.getElem?_set_self (by rw [lcl_len]; omega)] at hj
    cases hj
    exact h.2.2 (j, v) List.mem_cons_self
  · rw [List.getElem?_set_ne (fun q => e q.symm)] at hj
    obtain ⟨h1, h2⟩ := lcl_get hj
    refine h.2.2 (j, w) (List.mem_cons_of_mem _ (List.mem_filter.mpr ⟨prs_mem.mpr h1, ?_⟩))
    simp only [Bool.and_eq_true, Bool.not_eq_true', beq_eq_false_iff_ne, ne_eq, Bool.and_eq_false_iff]
    exact ⟨e, e1, Decidable.not_and_iff_or_not.mp h2⟩
def enl : List Value → List (Option Value)
  | [] => []
  | v :: vs => if v.category = 2 then some v :: none :: enl vs else some v :: enl vs
def enp (vs : List Value) (n : Nat) : List (Option Value) := enl vs ++ List.replicate (n - (enl vs).length) none
theorem enl_args : ∀ (vs : List Value) (k i : Nat) (v : Value), (enl vs)[i]? = some (some v) → (k + i, v) ∈ lv_args k vs
  | [], k, i, v, h => by simp [enl] at h
  | w :: vs, k, i, v, h => by
    unfold enl at h
    unfold lv_args
    by_cases hc : w.category = 2
    · rw [if_pos hc] at h ⊢
      match i, h with
      | 0, h => simp at h; subst h; exact List.mem_cons_self
      | 1, h => simp at h
      | i + 2, h =>
        have h' : (enl vs)[i]? = some (some v) := by simpa using h
        have := enl_args vs (k + 2) i v h'
        rw [show k + 2 + i = k + (i + 2) by omega] at this
        exact List.mem_cons_of_mem _ this
    · rw [if_neg hc] at h ⊢
      match i, h with
      | 0, h => simp at h; subst h; exact List.mem_cons_self
      | i + 1, h =>
        have h' : (enl vs)[i]? = some (some v) := by simpa using h
        have := enl_args vs (k + 1) i v h'
        rw [show k + 1 + i = k + (i + 1) by omega] at this
        exact List.mem_cons_of_mem _ this
theorem enl_len : ∀ vs : List Value, (enl vs).length = (lg_sl vs).length
  | [] => rfl
  | v :: vs => by
    have ih := enl_len vs
    unfold enl
    unfold lg_sl at ih ⊢
    rw [List.flatMap_cons]
    by_cases hc : v.category = 2
    · rw [if_pos hc, if_pos hc]; simp [ih]
    · rw [if_neg hc, if_neg hc]; simp [ih]
theorem lh.entry (vs : List Value) {n : Nat} (h : (enl vs).length ≤ n) : lh ((lg_sl vs ++ List.replicate (n - (lg_sl vs).length) Slot.unset).toArray) n (enp vs n) := by
  have h0 := lv_entry vs (n := n) (by rw [← enl_len]; exact h)
  refine ⟨by simp [enp]; omega, h0.1, h0.2.1, fun i v hi => ?_⟩
  unfold enp at hi
  by_cases hl : i < (enl vs).length
  · rw [List.getElem?_append_left hl] at hi
    have := enl_args vs 0 i v hi
    rw [Nat.zero_add] at this
    exact h0.2.2 (i, v) this
  · rw [List.getElem?_append_right (by omega), List.getElem?_replicate] at hi
    split at hi <;> simp at hi
/-! the judgement -/
def Gd (Γ : GT) : Prop := (∃ a0 : Array Value, (∀ w ∈ lw_tbl, w.before a0 Γ.2.1 = true) ∧ narrow_1.before a0 Γ.2.1 = true) ∧ va_K Γ.2.2 vwCl [] Γ.2.1 ∧ Γ.1.stackTraces = false
theorem Gd.w {Γ : GT} (h : Gd Γ) {w : Cond} (hw : w ∈ GW) : Wd Γ.2.1 w := by
  obtain ⟨⟨a0, h0, -⟩, -⟩ := h
  exact gw_all h0 w hw
def Cx (Γ : GT) (mi : MI) (cc : ByteArray) (p : Program) (R : Room) (s : State) (m : MethodId) (meth : Method) (c : Code) : Prop :=
  p.tables.exec = Jvm.exec ∧ c.code = cc ∧ c.maxLocals = mi.2.2.1 ∧ s.vm.findClass mi.1.cls = some m.cls ∧ meth.sig.returnType = mi.2.2.2.1 ∧ meth.locks = false ∧ Γ.2.1.WarmedH s.vm ∧ (mi.2.2.2.2.1 ≤ R.frames ∧ mi.2.2.2.2.2.1 ≤ R.locals) ∧ (∀ q : Nat, q < Γ.2.1.heap.size → s.heap[q]? = Γ.2.1.heap[q]?) ∧ Γ.2.1.heap.size ≤ s.heap.size ∧ meth.name = mi.1.name ∧ c.exceptionTable.toList = tableOf mi.2.2.2.2.2.2.1
def QO (Γ : GT) (Q : Option Value → AH → Prop) : Array Value → State → Outcome → State → Prop := fun _ st o t => ∃ (r : Option Value) (σ : AH), o = .returned r ∧ Q r σ ∧ wld Γ σ t.heap ∧ st.heap.size ≤ t.heap.size
def XO (Γ : GT) (QX : String → AH → Prop) : String → State → State → Prop := fun E st t => ∃ σ : AH, QX E σ ∧ wld Γ σ t.heap ∧ st.heap.size ≤ t.heap.size
def fr0 (Γ : GT) : Addr → Prop := fun q => Γ.2.1.heap.size ≤ q
def Sc (Γ : GT) (s : State) (H : Heap) (locs : List Loc) : Prop := s.heap.size ≤ H.size ∧ ∀ q ∈ locs, Γ.2.1.heap.size ≤ q.base
def G (Γ : GT) (mi : MI) (cc : ByteArray) (Q : Option Value → AH → Prop) (QX : String → AH → Prop) (rc rs pc : Nat) (L : List (Option Value)) (S : List Value) (σ : AH) : Prop :=
  ∀ (p : Program) (e : Env) (R : Room) (s : State) (m : MethodId) (args : Array Value) (below : List Frame) (meth : Method) (c : Code) (H : Heap) (locs : List Loc) (cells slots : Nat) (ls : Array Slot),
    Gd Γ → Cx Γ mi cc p R s m meth c → cells + rc ≤ R.cells → slots + rs ≤ R.slots → wld Γ σ H → Sc Γ s H locs → lh ls mi.2.2.1 L →
    W p Γ.1 e R s m args below meth c H locs cells slots (vx_MQ below (QO Γ Q) (XO Γ QX) args s R.cells R.slots (fr0 Γ)) (F0 m pc ls S)
def Sp (Γ : GT) (mi : MI) (mc ms : Nat) (vs : List Value) (σ : AH) (Q : Option Value → AH → Prop) (QX : String → AH → Prop) : Prop :=
  vx_Met Γ.1 mi.1 [Cond.code mi.1 mi.2.1 mi.2.2.1 mi.2.2.2.1] { frames := mi.2.2.2.2.1, cells := mc, slots := ms, locals := mi.2.2.2.2.2.1 } (fun v U => v = vs.toArray ∧ Γ.2.1.WarmedH U.vm ∧ wld Γ σ U.heap) (QO Γ Q) (XO Γ QX) mc ms (fr0 Γ)
def noX : String → AH → Prop := fun _ _ => False
theorem Sp_of {Γ : GT} {mi : MI} {mc ms : Nat} {vs : List Value} {σ : AH} {Q : Option Value → AH → Prop} {QX : String → AH → Prop} {L : List (Option Value)} (hΓ : Gd Γ) (hp : plainName mi.1.cls = true) (hh : mi.2.2.2.2.2.2.1 = []) (hn : (enl vs).length ≤ mi.2.2.1) (hL : enp vs mi.2.2.1 = L) (k : G Γ mi mi.2.1 Q QX mc ms 0 L [] σ) : Sp Γ mi mc ms vs σ Q QX := by
  refine vx_ofW (cc := mi.2.1) (maxL := mi.2.2.1) (ret := mi.2.2.2.1) hp rfl ?_
  intro p e s m args below meth c s₁ B hml ht hv
  obtain ⟨rfl, hW, hw⟩ := hv
  rw [lg_entry_eq]
  refine k p e _ s m _ below meth c s.heap [] 0 0 _ hΓ ⟨B.exec, B.bytes, hml, findClass_of_methodNamed B.named, B.returns, B.notSynchronized, hW, ⟨Nat.le_refl _, Nat.le_refl _⟩, hw.2.2.1, ?_, (name_of_methodNamed B.named B.method).1, ?_⟩ (by show 0 + mc ≤ mc; omega) (by show 0 + ms ≤ ms; omega) hw ⟨Nat.le_refl _, fun q h => by cases h⟩ (hL ▸ lh.entry vs hn)
  · have := hw.2.1; rw [← hw.1] at this; exact this
  · rw [hh]
    cases he : c.exceptionTable.toList with
    | nil => rfl
    | cons x xs => exact absurd (show x ∈ c.exceptionTable.toList by rw [he]; exact List.mem_cons_self) (fun h => ht x h)
