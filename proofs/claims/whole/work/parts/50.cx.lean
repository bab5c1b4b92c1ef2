/-! CartPaths: object x, what lies in its block and behind it -/
def lvZ (z : PS) : Nat → BitVec 64 := lvF (zSO z) (zCo z) (zRo z)
noncomputable def bZ (z : PS) (bd : Int) : TS := bld (lvZ z) (zPL z) (zGO z) (zCa z) bd
def gZ (z : PS) : Prop := okG (zCo z) (zRo z) (zCa z) (zSO z) (zPL z) (zGO z) (zLE z) (zNL z)
def inGr (z : PS) (c : Int) : Prop := 0 ≤ c ∧ c % 6 < zCo z ∧ c / 6 < zRo z
def WFz (z : PS) : Prop := gZ z ∧ (∀ k, k < zCa z → inGr z (zPL z k) ∧ zSO z (zPL z k).toNat ≠ 1 ∧ inGr z (zGO z k) ∧ zSO z (zGO z k).toNat ≠ 1) ∧ (∀ i j, i < j → j < zCa z → zPL z i ≠ zPL z j ∧ zGO z i ≠ zGO z j) ∧ ∀ k, k < zCa z → 1 ≤ zNL z k ∧ ∀ j : Nat, (j : Int) < zNL z k → 97 ≤ zLE z (6 * k + j) ∧ zLE z (6 * k + j) ≤ 122
def sZ (z : PS) (SO GO : Nat → Int) : PS := (zPo z, zCo z, zRo z, zCa z, SO, zPL z, GO, zLE z, zNL z)
/-- an act undone -/
def udo (z : PS) (q : Int × Int × Int) : PS := sZ z (if q.1 = 0 then va_up (zSO z) q.2.1.toNat q.2.2 else zSO z) (if q.1 = 1 then va_up (zGO z) q.2.1.toNat q.2.2 else if q.1 = 2 then va_up (va_up (zGO z) q.2.1.toNat (zGO z q.2.2.toNat)) q.2.2.toNat (zGO z q.2.1.toNat) else zGO z)
def okq (q : Int × Int × Int) : Prop := (q.1 = 0 ∧ 0 ≤ q.2.1 ∧ q.2.1 < 36) ∨ (q.1 = 1 ∧ 0 ≤ q.2.1 ∧ q.2.1 < 5) ∨ (q.1 = 2 ∧ 0 ≤ q.2.1 ∧ q.2.1 < 5 ∧ 0 ≤ q.2.2 ∧ q.2.2 < 5)
/-- the acts, the latest first -/
def okA (z : PS) : List (Int × Int × Int) → Prop
  | [] => True
  | q :: r => okq q ∧ WFz (udo z q) ∧ okA (udo z q) r
theorem okA_dl : ∀ (r : List (Int × Int × Int)) (z : PS), okA z r → okA z r.dropLast
  | [], _, _ => trivial
  | [q], _, _ => trivial
  | q :: q2 :: r, z, h => ⟨h.1, h.2.1, okA_dl (q2 :: r) (udo z q) h.2.2⟩
abbrev cpo (x : Nat) (av : Int) (wl ve : Nat) : AE := ob 9 [.ref (x + 1), .ref (x + 10), .ref (x + 17), .ref (x + 24), .ref (x + 28), .ref (x + 32), .int (ii av), .ref (x + 35), .ref (x + 36), .ref (x + 45), .ref (x + 50), .ref (x + 53), .int (ii wl), .int (ii ve)]
def SCz (σ : AH) (g : Nat) (z : PS) (lv : Nat → BitVec 64) : Prop := SCo σ g (zCo z) (zRo z) (zCa z) (zSO z) (zPL z) (zGO z) (zLE z) (zNL z) lv
def K1 (σ : AH) (x len : Nat) (tx : Nat → Int) (fa : Int) : Prop := ∃ y lv, gZ y ∧ RDo σ (x + 1) len tx lv fa y
def K3 (σ : AH) (x : Nat) : Prop := ∃ y lv, gZ y ∧ SCz σ (x + 17) y lv
/-- ways that are those of all carts alone -/
def alV (z : PS) (n : Nat) (P C : Nat → Int) : Prop := n = zCa z ∧ ∀ c, c < zCa z → C c = alc (lvZ z) (zPL z) (zGO z) c ∧ (alc (lvZ z) (zPL z) (zGO z) c ≠ -1 → ∀ t, t < 41 → P (41 * c + t) = alw (lvZ z) (zPL z) (zGO z) c t)
def K6 (σ : AH) (x : Nat) (z : PS) (ve : Nat) (av : Int) : Prop := ∃ n P C, WYo σ (x + 32) n P C ∧ okP P ∧ okC C ∧ n ≤ 5 ∧ (av = ve → alV z n P C)
/-- a tree, whatever it holds -/
def TRk (σ : AH) (T M : Nat) (ad : Nat → Nat) (ve : Int) : Prop := ∃ nc spl lo pl cu n1 P1 C1 n2 P2 C2, σ.2 T = some (tro T ve nc spl lo pl cu) ∧ TND σ T M ad ∧ (∀ k, k < M → NDg σ ad k) ∧ (0 < M → NDr σ ad) ∧ WYo σ (T + 2) n1 P1 C1 ∧ okP P1 ∧ okC C1 ∧ WYo σ (T + 5) n2 P2 C2 ∧ okP P2 ∧ okC C2 ∧ ∃ SP, σ.2 (T + 8) = some (ai 41 SP)
/-- a tree that holds what its scene and bound ask -/
def TRb (σ : AH) (T M : Nat) (ad : Nat → Nat) (ve : Int) (z : PS) (bd : Int) : Prop := σ.2 T = some (tro T ve (tN (bZ z bd)) (tS (bZ z bd)) (tL (bZ z bd)) (tP (bZ z bd)) (tC (bZ z bd))) ∧ NDS σ T M ad (tN (bZ z bd)) (tQ (bZ z bd)) ∧ tT (bZ z bd) ≤ M ∧ BW T (zCa z) (zPL z) (zGO z) (lvZ z) (bZ z bd) σ
def ownT (q : Nat × (Nat → Nat)) (M a : Nat) : Prop := inb q.1 9 a ∨ ownF q.2 M a
theorem NDx.kp {σ σ' : AH} {ad : Nat → Nat} {M k num : Nat} {pa : Option Nat} {ca ti fr to co su cl fo : Int} {sp : Bool} {rw : Nat → Int} (h : NDx σ (ad k) num pa ca ti fr to co su cl fo sp rw) (hk : k < M) (e : ∀ a, ownF ad M a → σ'.2 a = σ.2 a) : NDx σ' (ad k) num pa ca ti fr to co su cl fo sp rw := h.keep (e _ ⟨k, hk, Or.inl rfl⟩) (e _ ⟨k, hk, Or.inr rfl⟩)
theorem TND.kp {σ σ' : AH} {T M : Nat} {ad : Nat → Nat} (h : TND σ T M ad) (hs : σ.1 ≤ σ'.1) (e : σ'.2 (T + 1) = σ.2 (T + 1)) : TND σ' T M ad := ⟨e.trans h.1, h.2.1, h.2.2.1, fun k hk => ⟨(h.2.2.2 k hk).1, by have := (h.2.2.2 k hk).2; omega⟩⟩
theorem NDg.kp {σ σ' : AH} {ad : Nat → Nat} {M k : Nat} (h : NDg σ ad k) (hk : k < M) (e : ∀ a, ownF ad M a → σ'.2 a = σ.2 a) : NDg σ' ad k := by
  obtain ⟨pa, ca, ti, fr, to, co, su, cl, fo, sp, rw, h⟩ := h
  exact ⟨pa, ca, ti, fr, to, co, su, cl, fo, sp, rw, h.kp hk e⟩
theorem NDr.kp {σ σ' : AH} {ad : Nat → Nat} {M : Nat} (h : NDr σ ad) (hk : 0 < M) (e : ∀ a, ownF ad M a → σ'.2 a = σ.2 a) : NDr σ' ad := by
  obtain ⟨su, cl, sp, h⟩ := h
  exact ⟨su, cl, sp, h.kp hk e⟩
theorem NDS.kp {σ σ' : AH} {T M : Nat} {ad : Nat → Nat} {nc : Nat} {pn : Nat → PN} (h : NDS σ T M ad nc pn) (hs : σ.1 ≤ σ'.1) (e : ∀ a, inb T 9 a ∨ ownF ad M a → σ'.2 a = σ.2 a) : NDS σ' T M ad nc pn := by
  obtain ⟨h1, h2, h3, h4, h5⟩ := h
  exact ⟨h1.kp hs (e _ (Or.inl ⟨by omega, by omega⟩)), fun k hk => (h2 k hk).kp hk (fun a h => e a (Or.inr h)), fun hm => (h3 hm).kp hm (fun a h => e a (Or.inr h)), h4, fun k hk => NDx.kp (h5 k hk) (by omega) (fun a h => e a (Or.inr h))⟩
theorem TRk.kp {σ σ' : AH} {T M : Nat} {ad : Nat → Nat} {ve : Int} (h : TRk σ T M ad ve) (hs : σ.1 ≤ σ'.1) (e : ∀ a, inb T 9 a ∨ ownF ad M a → σ'.2 a = σ.2 a) : TRk σ' T M ad ve := by
  obtain ⟨nc, spl, lo, pl, cu, n1, P1, C1, n2, P2, C2, h0, h1, h2, h3, h4, o1, o2, h5, o3, o4, SP, h6⟩ := h
  exact ⟨nc, spl, lo, pl, cu, n1, P1, C1, n2, P2, C2, (e _ (Or.inl ⟨by omega, by omega⟩)).trans h0, h1.kp hs (e _ (Or.inl ⟨by omega, by omega⟩)), fun k hk => (h2 k hk).kp hk (fun a h => e a (Or.inr h)), fun hm => (h3 hm).kp hm (fun a h => e a (Or.inr h)), h4.keep (fun a h => e a (Or.inl ⟨by have := h.1; omega, by have := h.2; omega⟩)), o1, o2, h5.keep (fun a h => e a (Or.inl ⟨by have := h.1; omega, by have := h.2; omega⟩)), o3, o4, SP, (e _ (Or.inl ⟨by omega, by omega⟩)).trans h6⟩
theorem BW.kp {σ σ' : AH} {T n : Nat} {PL GO : Nat → Int} {lv : Nat → BitVec 64} {x : TS} (h : BW T n PL GO lv x σ) (e : ∀ a, inb (T + 5) 3 a → σ'.2 a = σ.2 a) : BW T n PL GO lv x σ' := by
  obtain ⟨n2, P2, C2, h1, h2⟩ := h
  exact ⟨n2, P2, C2, h1.keep e, h2⟩
theorem TRb.kp {σ σ' : AH} {T M : Nat} {ad : Nat → Nat} {ve : Int} {z : PS} {bd : Int} (h : TRb σ T M ad ve z bd) (hs : σ.1 ≤ σ'.1) (e : ∀ a, inb T 9 a ∨ ownF ad M a → σ'.2 a = σ.2 a) : TRb σ' T M ad ve z bd := by
  obtain ⟨h0, h1, h2, h3⟩ := h
  exact ⟨(e _ (Or.inl ⟨by omega, by omega⟩)).trans h0, h1.kp hs e, h2, h3.kp (fun a h => e a (Or.inl ⟨by have := h.1; omega, by have := h.2; omega⟩))⟩
/-- the trees: by bound less 10, and at 21 the supposed one; R: 0 where there is none, else how many nodes it has made, and 1 -/
def TRS (σ : AH) (x lo : Nat) (R : Nat → Nat) (TA : Nat → Nat × (Nat → Nat)) (ve : Nat) (z : PS) : Prop :=
  σ.2 (x + 35) = some (aq 4 21 (fun b => if R b = 0 then none else some (TA b).1)) ∧ (∀ b, R b ≤ 302) ∧ R 21 ≠ 0 ∧ (TA 21).1 = x + 36 ∧
  (∀ b, b < 21 → R b ≠ 0 → lo ≤ (TA b).1 ∧ (TA b).1 + 8 < σ.1) ∧
  (∀ b, b < 22 → R b ≠ 0 → (∀ k, k < R b - 1 → lo ≤ (TA b).2 k) ∧ ∃ tv : Int, (-1 ≤ tv ∧ tv ≤ ve) ∧ TRk σ (TA b).1 (R b - 1) (TA b).2 tv ∧ (b < 21 → tv = ve → TRb σ (TA b).1 (R b - 1) (TA b).2 tv z (b + 10))) ∧
  ∀ b b', b < 22 → b' < 22 → b ≠ b' → R b ≠ 0 → R b' ≠ 0 → ∀ a, ownT (TA b) (R b - 1) a → ¬ ownT (TA b') (R b' - 1) a
theorem TRS.kp {σ σ' : AH} {x lo : Nat} {R : Nat → Nat} {TA : Nat → Nat × (Nat → Nat)} {ve : Nat} {z : PS} (h : TRS σ x lo R TA ve z) (hs : σ.1 ≤ σ'.1) (e : ∀ a, a < σ.1 → (inb (x + 35) 10 a ∨ lo ≤ a) → σ'.2 a = σ.2 a) (hx : x + 45 ≤ σ.1) : TRS σ' x lo R TA ve z := by
  obtain ⟨h1, h2, h3, h4, h5, h6, h7⟩ := h
  refine ⟨(e _ (by omega) (Or.inl ⟨by omega, by omega⟩)).trans h1, h2, h3, h4, fun b hb hr => ⟨(h5 b hb hr).1, by have := (h5 b hb hr).2; omega⟩, fun b hb hr => ?_, h7⟩
  obtain ⟨q1, tv, q2, q3, q4⟩ := h6 b hb hr
  have hn := q3
  obtain ⟨nc, spl, lo', pl, cu, n1, P1, C1, n2, P2, C2, -, hN, -⟩ := hn
  have e2 : ∀ a, inb (TA b).1 9 a ∨ ownF (TA b).2 (R b - 1) a → σ'.2 a = σ.2 a := by
    rintro a (⟨i1, i2⟩ | ⟨k, hk, hq⟩)
    · by_cases hb2 : b < 21
      · have := h5 b hb2 hr
        exact e a (by omega) (Or.inr (by omega))
      · have : b = 21 := by omega
        subst this
        rw [h4] at i1 i2
        exact e a (by omega) (Or.inl ⟨by omega, by omega⟩)
    · have g1 := q1 k hk
      have g2 := hN.2.2.2 k hk
      exact e a (by omega) (Or.inr (by omega))
  exact ⟨q1, tv, q2, q3.kp hs e2, fun hb3 ht => (q4 hb3 ht).kp hs e2⟩
/-- turns -/
def tuO (z : PS) (told : Nat) : Nat → Nat := ordC (zCa z) told
def tuB (z : PS) (told : Nat) : Bool := (tuS (lvZ z) (zPL z) (zGO z) (tuO z told) (zCa z)).1
def tuK (z : PS) (told k : Nat) : Int := tuc (lvZ z) (zPL z) (zGO z) (tuO z told) k
def tuW (z : PS) (told k : Nat) : Nat → Int := tuw (lvZ z) (zPL z) (zGO z) (tuO z told) k
def tuV (z : PS) (told n : Nat) (P C : Nat → Int) : Prop := n = zCa z ∧ (tuB z told = true → ∀ k, k < zCa z → C (tuO z told k) = tuK z told k ∧ tuK z told k ≠ -1 ∧ ∀ t, t < 41 → P (41 * tuO z told k + t) = tuW z told k t) ∧ (tuB z told = false → ∃ c, c < zCa z ∧ C c = -1)
/-- the sum of an order; -1: it fails -/
def tuZ (z : PS) (told : Nat) : Int := if tuB z told = true then sumN (tuK z told) (zCa z) else -1
/-- the best of the first orders and its sum -/
def boN (z : PS) : Nat → Int × Int
  | 0 => (-1, -1)
  | k + 1 => if tuZ z k ≠ -1 ∧ ((boN z k).2 = -1 ∨ tuZ z k < (boN z k).2) then ((k : Int), tuZ z k) else boN z k
def K8 (σ : AH) (x : Nat) (z : PS) (ve : Nat) : Prop := ∃ tv tn bv bn bs n P C OR, σ.2 (x + 45) = some (tuo (x + 45) tv tn bv bn bs) ∧ WYo σ (x + 45 + 1) n P C ∧ σ.2 (x + 45 + 4) = some (ai 5 OR) ∧ okP P ∧ okC C ∧ n ≤ 5 ∧ (-1 ≤ tv ∧ tv ≤ ve) ∧ (-1 ≤ bv ∧ bv ≤ ve) ∧ (rg tn ∧ rg bn ∧ rg bs) ∧ (tv = ve → 0 ≤ tn ∧ tuV z tn.toNat n P C) ∧ (bv = ve → (bn, bs) = boN z (facN (zCa z)))
def K9 (σ : AH) (x : Nat) : Prop := ∃ cm lf, STo σ (x + 50) cm lf
/-- all that is behind the object x: its block, and what it made from lo on; its version, that of the ways alone -/
def CXh (σ : AH) (x lo N : Nat) (R : Nat → Nat) (len : Nat) (tx : Nat → Int) (fa : Int) (z : PS) (l : List (Int × Int × Int)) (wl : Nat) (wr : Nat → Int) (ve : Nat) (av : Int) : Prop :=
  (x + 54 ≤ lo ∧ lo ≤ σ.1 ∧ N ≤ 1000 ∧ len ≤ 400 ∧ wl ≤ 42) ∧ okX tx ∧ (-1 ≤ fa ∧ fa ≤ 400) ∧ WFz z ∧ okA z l.reverse ∧
  (ve ≤ N ∧ -1 ≤ av ∧ av ≤ ve) ∧ σ.2 x = some (cpo x av wl ve) ∧ K1 σ x len tx fa ∧ SCz σ (x + 10) z (lvZ z) ∧ K3 σ x ∧ ACo σ (x + 24) l ∧ SRo σ (x + 28) ∧ K6 σ x z ve av ∧ (∃ TA, TRS σ x lo R TA ve z) ∧ K8 σ x z ve ∧ K9 σ x ∧ σ.2 (x + 53) = some (ai 42 wr)
def CX (σ : AH) (x lo N : Nat) (R : Nat → Nat) (len : Nat) (tx : Nat → Int) (fa : Int) (z : PS) (l : List (Int × Int × Int)) (wl : Nat) (wr : Nat → Int) : Prop := ∃ ve av, CXh σ x lo N R len tx fa z l wl wr ve av
theorem K1.kp {σ σ' : AH} {x len : Nat} {tx : Nat → Int} {fa : Int} (h : K1 σ x len tx fa) (e : ∀ a, inb (x + 1) 9 a → σ'.2 a = σ.2 a) : K1 σ' x len tx fa := by
  obtain ⟨y, lv, h1, ⟨ws, h2⟩, h3, h4⟩ := h
  exact ⟨y, lv, h1, ⟨ws, (e _ ⟨by omega, by omega⟩).trans h2⟩, (e _ ⟨by omega, by omega⟩).trans h3, h4.keep (fun a h => e a ⟨by have := h.1; omega, by have := h.2; omega⟩)⟩
theorem K3.kp {σ σ' : AH} {x : Nat} (h : K3 σ x) (e : ∀ a, inb (x + 17) 7 a → σ'.2 a = σ.2 a) : K3 σ' x := by
  obtain ⟨y, lv, h1, h2⟩ := h
  exact ⟨y, lv, h1, h2.keep e⟩
theorem K6.kp {σ σ' : AH} {x : Nat} {z : PS} {ve : Nat} {av : Int} (h : K6 σ x z ve av) (e : ∀ a, inb (x + 32) 3 a → σ'.2 a = σ.2 a) : K6 σ' x z ve av := by
  obtain ⟨n, P, C, h1, h2⟩ := h
  exact ⟨n, P, C, h1.keep e, h2⟩
theorem K8.kp {σ σ' : AH} {x : Nat} {z : PS} {ve : Nat} (h : K8 σ x z ve) (e : ∀ a, inb (x + 45) 5 a → σ'.2 a = σ.2 a) : K8 σ' x z ve := by
  obtain ⟨tv, tn, bv, bn, bs, n, P, C, OR, h1, h2, h3, h4⟩ := h
  exact ⟨tv, tn, bv, bn, bs, n, P, C, OR, (e _ ⟨by omega, by omega⟩).trans h1, h2.keep (fun a h => e a ⟨by have := h.1; omega, by have := h.2; omega⟩), (e _ ⟨by omega, by omega⟩).trans h3, h4⟩
theorem K9.kp {σ σ' : AH} {x : Nat} (h : K9 σ x) (e : ∀ a, inb (x + 50) 3 a → σ'.2 a = σ.2 a) : K9 σ' x := by
  obtain ⟨cm, lf, h1, h2, h3⟩ := h
  exact ⟨cm, lf, (e _ ⟨by omega, by omega⟩).trans h1, (e _ ⟨by omega, by omega⟩).trans h2, (e _ ⟨by omega, by omega⟩).trans h3⟩
/-- what a call on x may change -/
def fX (x lo a : Nat) : Prop := inb x 54 a ∨ lo ≤ a
/-- the state behind a throw: the heap has grown -/
theorem CX.grow {σ : AH} {x lo N : Nat} {R : Nat → Nat} {len : Nat} {tx : Nat → Int} {fa : Int} {z : PS} {l : List (Int × Int × Int)} {wl : Nat} {wr : Nat → Int} (h : CX σ x lo N R len tx fa z l wl wr) {s : Nat} (hs : σ.1 ≤ s) : CX (s, σ.2) x lo N R len tx fa z l wl wr := by
  obtain ⟨ve, av, h1, h2, h3, h4, h5, q1, q2, q3, q4, q5, q6, q7, q8, ⟨TA, q9⟩, q10, q11, q12⟩ := h
  exact ⟨ve, av, ⟨h1.1, by have := h1.2.1; show lo ≤ s; omega, h1.2.2⟩, h2, h3, h4, h5, q1, q2, q3, q4, q5, q6, q7, q8, ⟨TA, q9.kp hs (fun _ _ _ => rfl) (by omega)⟩, q10, q11, q12⟩
theorem CX.up {σ : AH} {x lo N N' : Nat} {R : Nat → Nat} {len : Nat} {tx : Nat → Int} {fa : Int} {z : PS} {l : List (Int × Int × Int)} {wl : Nat} {wr : Nat → Int} (h : CX σ x lo N R len tx fa z l wl wr) (hn : N ≤ N') (hn' : N' ≤ 1000) : CX σ x lo N' R len tx fa z l wl wr := by
  obtain ⟨ve, av, h1, h2, h3, h4, h5, q1, q⟩ := h
  exact ⟨ve, av, ⟨h1.1, h1.2.1, hn', h1.2.2.2⟩, h2, h3, h4, h5, ⟨by omega, q1.2⟩, q⟩
/-- the scene has changed, and with it the version -/
theorem CXh.zch {σ σ' : AH} {x lo N : Nat} {R : Nat → Nat} {len : Nat} {tx : Nat → Int} {fa : Int} {z z' : PS} {l l' : List (Int × Int × Int)} {wl : Nat} {wr : Nat → Int} {ve : Nat} {av : Int} (h : CXh σ x lo N R len tx fa z l wl wr ve av) (hN : N < 1000) (hE : eqOff σ σ' (fun a => a = x ∨ inb (x + 10) 7 a ∨ inb (x + 24) 4 a)) (hx : σ'.2 x = some (cpo x av wl (ve + 1))) (hS : SCz σ' (x + 10) z' (lvZ z')) (hA : ACo σ' (x + 24) l') (hw : WFz z') (ho : okA z' l'.reverse) : CX σ' x lo (N + 1) R len tx fa z' l' wl wr := by
  obtain ⟨h1, h2, h3, h4, h5, q1, q2, q3, q4, q5, q6, q7, q8, ⟨TA, q9⟩, q10, q11, q12⟩ := h
  have e : ∀ a, a ≠ x → ¬ inb (x + 10) 7 a → ¬ inb (x + 24) 4 a → σ'.2 a = σ.2 a := fun a i1 i2 i3 => hE.2 a (by rintro (h | h | h) <;> contradiction)
  have hlo := h1.1
  have hlo2 := h1.2.1
  refine ⟨ve + 1, av, ⟨h1.1, by rw [hE.1]; exact h1.2.1, hN, h1.2.2.2⟩, h2, h3, hw, ho, ⟨by omega, by omega, by omega⟩, hx, q3.kp (fun a i => e a (by unfold inb at i; omega) (by unfold inb at i ⊢; omega) (by unfold inb at i ⊢; omega)), hS, q5.kp (fun a i => e a (by unfold inb at i; omega) (by unfold inb at i ⊢; omega) (by unfold inb at i ⊢; omega)), hA, q7.keep (fun a i => e a (by unfold inb at i; omega) (by unfold inb at i ⊢; omega) (by unfold inb at i ⊢; omega)), ?_, ?_, ?_, q11.kp (fun a i => e a (by unfold inb at i; omega) (by unfold inb at i ⊢; omega) (by unfold inb at i ⊢; omega)), (e _ (by omega) (by unfold inb; omega) (by unfold inb; omega)).trans q12⟩
  · obtain ⟨n, P, C, w1, w2, w3, w4, w5⟩ := q8
    exact ⟨n, P, C, w1.keep (fun a i => e a (by unfold inb at i; omega) (by unfold inb at i ⊢; omega) (by unfold inb at i ⊢; omega)), w2, w3, w4, fun q => by omega⟩
  · have q9' := q9.kp (σ' := σ') (by rw [hE.1]; exact Nat.le_refl _) (fun a ha i => e a (by unfold inb at i; omega) (by unfold inb at i ⊢; omega) (by unfold inb at i ⊢; omega)) (by omega)
    obtain ⟨w1, w2, w3, w4, w5, w6, w7⟩ := q9'
    refine ⟨TA, w1, w2, w3, w4, w5, fun b hb hr => ?_, w7⟩
    obtain ⟨i1, tv, i2, i3, i4⟩ := w6 b hb hr
    exact ⟨i1, tv, ⟨i2.1, by omega⟩, i3, fun _ q => by omega⟩
  · obtain ⟨tv, tn, bv, bn, bs, n, P, C, OR, w1, w2, w3, o1, o2, o3, o4, o5, o6, o7, o8⟩ := q10.kp (σ' := σ') (fun a i => e a (by unfold inb at i; omega) (by unfold inb at i ⊢; omega) (by unfold inb at i ⊢; omega))
    exact ⟨tv, tn, bv, bn, bs, n, P, C, OR, w1, w2, w3, o1, o2, o3, ⟨o4.1, by omega⟩, ⟨o5.1, by omega⟩, o6, fun q => by omega, fun q => by omega⟩
/-- the reader has changed -/
theorem CXh.k1 {σ σ' : AH} {x lo N : Nat} {R : Nat → Nat} {len len' : Nat} {tx tx' : Nat → Int} {fa fa' : Int} {z : PS} {l : List (Int × Int × Int)} {wl : Nat} {wr : Nat → Int} {ve : Nat} {av : Int} (h : CXh σ x lo N R len tx fa z l wl wr ve av) (hE : eqOff σ σ' (inb (x + 1) 9)) (hk : K1 σ' x len' tx' fa') (hl : len' ≤ 400) (ht : okX tx') (hf : -1 ≤ fa' ∧ fa' ≤ 400) : CXh σ' x lo N R len' tx' fa' z l wl wr ve av := by
  obtain ⟨h1, h2, h3, h4, h5, q1, q2, q3, q4, q5, q6, q7, q8, ⟨TA, q9⟩, q10, q11, q12⟩ := h
  have hlo := h1.1
  have hlo2 := h1.2.1
  exact ⟨⟨h1.1, by rw [hE.1]; exact h1.2.1, h1.2.2.1, hl, h1.2.2.2.2⟩, ht, hf, h4, h5, q1, (hE.2 _ (by unfold inb; omega)).trans q2, hk, q4.keep (fun a i => hE.2 a (by unfold inb at i ⊢; omega)), q5.kp (fun a i => hE.2 a (by unfold inb at i ⊢; omega)), q6.keep (fun a i => hE.2 a (by unfold inb at i ⊢; omega)), q7.keep (fun a i => hE.2 a (by unfold inb at i ⊢; omega)), q8.kp (fun a i => hE.2 a (by unfold inb at i ⊢; omega)), ⟨TA, q9.kp (by rw [hE.1]; exact Nat.le_refl _) (fun a ha i => hE.2 a (by unfold inb at i ⊢; omega)) (by omega)⟩, q10.kp (fun a i => hE.2 a (by unfold inb at i ⊢; omega)), q11.kp (fun a i => hE.2 a (by unfold inb at i ⊢; omega)), (hE.2 _ (by unfold inb; omega)).trans q12⟩

