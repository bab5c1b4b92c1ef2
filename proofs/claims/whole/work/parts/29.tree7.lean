/-! Tree: the build as words -/
/-- nodes, splits, low, plan, cut, nodes' words, how many nodes were ever touched -/
abbrev TS : Type := Nat × Nat × Int × Int × Bool × (Nat → PN) × Nat
def tN (x : TS) : Nat := x.1
def tS (x : TS) : Nat := x.2.1
def tL (x : TS) : Int := x.2.2.1
def tP (x : TS) : Int := x.2.2.2.1
def tC (x : TS) : Bool := x.2.2.2.2.1
def tQ (x : TS) : Nat → PN := x.2.2.2.2.2.1
def tT (x : TS) : Nat := x.2.2.2.2.2.2
noncomputable def fcl (P : Nat → Int) (n last : Nat) : Nat × Int × Nat × Nat := by
  classical exact if h : ∃ q : Nat × Int × Nat × Nat, q.1 < last ∧ fsC P n q.1 q.2.1 q.2.2.1 q.2.2.2 then Classical.choose h else (0, 0, 0, 0)
theorem fcl_eq {P : Nat → Int} {n last t a b : Nat} {s : Int} (ht : t < last) (h : fsC P n t s a b) : fcl P n last = (t, s, a, b) := by
  have hex : ∃ q : Nat × Int × Nat × Nat, q.1 < last ∧ fsC P n q.1 q.2.1 q.2.2.1 q.2.2.2 := ⟨(t, s, a, b), ht, h⟩
  unfold fcl
  rw [dif_pos hex]
  have hs := Classical.choose_spec hex
  obtain ⟨e1, e2, e3, e4⟩ := fsC_uni hs.2 h
  exact Prod.ext e1 (Prod.ext e2 (Prod.ext e3 e4))
/-- one more node, or none -/
def gw1 (lv : Nat → BitVec 64) (PL GO : Nat → Int) (n : Nat) (P C : Nat → Int) (par t : Nat) (s : Int) (c : Nat) (x : Nat × (Nat → PN) × Nat) : Nat × (Nat → PN) × Nat :=
  match grN lv PL GO n x.2.1 x.1 par c t s P C with
  | none => (x.1, x.2.1, max x.2.2 (x.1 + 1))
  | some q => (x.1 + 1, va_up x.2.1 x.1 q, max x.2.2 (x.1 + 1))
def spN (q : PN) : PN := (pPi q, pCa q, pTi q, pFr q, pTo q, pCo q, pSu q, pCl q, pFo q, true, pRw q)
/-- the node k is split by its first clash -/
noncomputable def bsK (lv : Nat → BitVec 64) (PL GO P1 C1 : Nat → Int) (n k : Nat) (x : Nat × (Nat → PN) × Nat) : Nat × (Nat → PN) × Nat :=
  let P := ndP x.2.1 P1 k
  let C := ndC x.2.1 C1 k
  let f := fcl P n (mxN C n).toNat
  gw1 lv PL GO n P C k f.1 f.2.1 f.2.2.2 (gw1 lv PL GO n P C k f.1 f.2.1 f.2.2.1 (x.1, va_up x.2.1 k (spN (x.2.1 k)), x.2.2))
noncomputable def bst (lv : Nat → BitVec 64) (PL GO P1 C1 : Nat → Int) (n : Nat) (bd : Int) (x : TS) : Bool × TS :=
  if lwN (tQ x) (tN x) = -1 then (false, x) else
  match chN (tQ x) bd (lwN (tQ x) (tN x)) (tN x) with
  | none => (false, (tN x, tS x, lwN (tQ x) (tN x), tP x, tC x, tQ x, tT x))
  | some k => if pCl (tQ x k) = 0 then (false, (tN x, tS x, lwN (tQ x) (tN x), (k : Int), tC x, tQ x, tT x))
    else if 300 ≤ tN x then (false, (tN x, tS x, lwN (tQ x) (tN x), tP x, true, tQ x, tT x))
    else (true, ((bsK lv PL GO P1 C1 n k (tN x, tQ x, tT x)).1, tS x + 1, lwN (tQ x) (tN x), tP x, tC x, (bsK lv PL GO P1 C1 n k (tN x, tQ x, tT x)).2.1, (bsK lv PL GO P1 C1 n k (tN x, tQ x, tT x)).2.2))
noncomputable def bl (lv : Nat → BitVec 64) (PL GO P1 C1 : Nat → Int) (n : Nat) (bd : Int) : Nat → TS → TS
  | 0, x => x
  | f + 1, x => if (bst lv PL GO P1 C1 n bd x).1 = true then bl lv PL GO P1 C1 n bd f (bst lv PL GO P1 C1 n bd x).2 else (bst lv PL GO P1 C1 n bd x).2
def rot (P1 C1 : Nat → Int) (n : Nat) : PN := (0, -1, -1, -1, -1, 0, sumN C1 n, ccN P1 n (mxN C1 n).toNat, 0, false, fun _ => 0)
def alP (lv : Nat → BitVec 64) (PL GO : Nat → Int) (i : Nat) : Int := alw lv PL GO (i / 41) (i % 41)
def ts0 : TS := (0, 0, -1, -1, false, fun _ => rot (fun _ => 0) (fun _ => 0) 0, 0)
noncomputable def bld (lv : Nat → BitVec 64) (PL GO : Nat → Int) (n : Nat) (bd : Int) : TS :=
  if decide (∀ k, k < n → alc lv PL GO k ≠ -1) = true then bl lv PL GO (alP lv PL GO) (alc lv PL GO) n bd 302 (1, 0, -1, -1, false, fun _ => rot (alP lv PL GO) (alc lv PL GO) n, 1) else ts0
/-- what holds of all words of nodes -/
def TI (P1 C1 : Nat → Int) (n : Nat) (nc : Nat) (pn : Nat → PN) : Prop := 0 < nc ∧ nc ≤ 301 ∧ okT pn nc n ∧ okF pn nc ∧ pCa (pn 0) = -1 ∧ ∀ k, k < nc → pCl (pn k) = ccN (ndP pn P1 k) n (mxN (ndC pn C1 k) n).toNat ∧ pSu (pn k) = sumN (ndC pn C1 k) n ∧ ∀ c, c < n → 0 ≤ ndC pn C1 k c ∧ ndC pn C1 k c ≤ 40
theorem ccN_rg (P : Nat → Int) {n last : Nat} (hn : n ≤ 5) (hl : last ≤ 40) : 0 ≤ ccN P n last ∧ ccN P n last ≤ 1000 := by
  unfold ccN
  have h := sumN_rg (C := fun a => sumN (fun j => cntN (fun t => decide (soc P a (a + 1 + j) t ≠ -1)) last) (n - 1 - a)) (a := 0) (b := 200) (n := n) (fun a ha => by
    have h2 := sumN_rg (C := fun j => cntN (fun t => decide (soc P a (a + 1 + j) t ≠ -1)) last) (a := 0) (b := 40) (n := n - 1 - a) (fun j hj => by
      have := cntN_rg (fun t => decide (soc P a (a + 1 + j) t ≠ -1)) last
      omega)
    omega)
  omega
theorem TI.okN {P1 C1 : Nat → Int} {n nc : Nat} {pn : Nat → PN} (h : TI P1 C1 n nc pn) (hn : n ≤ 5) : okN pn nc := fun k hk => by
  obtain ⟨h1, h2, h3⟩ := h.2.2.2.2.2 k hk
  have hm := mxN_rg (C := ndC pn C1 k) (b := 40) (by decide) (n := n) (fun j hj => (h3 j hj).2)
  have hc := ccN_rg (ndP pn P1 k) hn (last := (mxN (ndC pn C1 k) n).toNat) (by omega)
  have hs := sumN_rg (C := ndC pn C1 k) (a := 0) (b := 40) (n := n) h3
  rw [h1, h2]
  omega
theorem sumN_up {C : Nat → Int} {c : Nat} {x : Int} : ∀ {n : Nat}, sumN (va_up C c x) n = if c < n then sumN C n - C c + x else sumN C n
  | 0 => rfl
  | n + 1 => by
    show sumN (va_up C c x) n + va_up C c x n = _
    rw [sumN_up (n := n)]
    have e : sumN C (n + 1) = sumN C n + C n := rfl
    rw [e]
    unfold va_up
    by_cases h1 : c < n
    · rw [if_pos h1, if_pos (show c < n + 1 by omega), if_neg (show ¬ n = c by omega)]; omega
    · rw [if_neg h1]
      by_cases h2 : n = c
      · rw [if_pos h2, if_pos (by omega), h2]; omega
      · rw [if_neg h2, if_neg (by omega)]
theorem nd_new {pn : Nat → PN} {nc n par c : Nat} {q : PN} (hT : okT pn nc n) (hnc : 0 < nc) (hpar : par < nc) (h1 : pPi q = par) (h2 : pCa q = c) (P1 C1 : Nat → Int) : ndC (va_up pn nc q) C1 nc = va_up (ndC pn C1 par) c (pCo q) ∧ ndP (va_up pn nc q) P1 nc = va_cpy (pRw q) (ndP pn P1 par) 0 (41 * c) 41 := by
  have hp : ∀ k, 0 < k → k < nc + 1 → pPi (va_up pn nc q k) < k := fun k a b => by
    unfold va_up
    by_cases z : k = nc
    · rw [if_pos z, h1]; omega
    · rw [if_neg z]; exact (hT k a (by omega)).1
  have hp0 : ∀ k, 0 < k → k < nc → pPi (pn k) < k := fun k a b => (hT k a b).1
  have he : ∀ k, k < nc → va_up pn nc q k = pn k := fun k hk => by unfold va_up; rw [if_neg (by omega)]
  have u0 : va_up pn nc q nc = q := by unfold va_up; rw [if_pos rfl]
  have key : ∀ {α : Type} (f : PN → α) (A : α) (d : Nat), fw (va_up pn nc q) f A d nc = if d = c then f q else fw pn f A d par := fun f A d => by
    rw [fw_s hp hnc (by omega), u0, h1, h2, fw_cong hp0 he par hpar]
    by_cases z : d = c
    · rw [if_pos z, if_pos (by omega)]
    · rw [if_neg z, if_neg (by omega)]
  constructor
  · funext d
    unfold ndC va_up
    exact key _ _ _
  · funext i
    unfold ndP va_cpy
    rw [key]
    by_cases z : i / 41 = c
    · rw [if_pos z, if_pos (by omega), show 0 + (i - 41 * c) = i % 41 by omega]
    · rw [if_neg z, if_neg (by omega)]
theorem nd_old {pn pn2 : Nat → PN} {nc n : Nat} (hT : okT pn nc n) (he : ∀ k, k < nc → pPi (pn2 k) = pPi (pn k) ∧ pCa (pn2 k) = pCa (pn k) ∧ pCo (pn2 k) = pCo (pn k) ∧ pRw (pn2 k) = pRw (pn k)) (P1 C1 : Nat → Int) : ∀ k, k < nc → ndC pn2 C1 k = ndC pn C1 k ∧ ndP pn2 P1 k = ndP pn P1 k := by
  have hp0 : ∀ k, 0 < k → k < nc → pPi (pn k) < k := fun k a b => (hT k a b).1
  have hp2 : ∀ k, 0 < k → k < nc → pPi (pn2 k) < k := fun k a b => by rw [(he k b).1]; exact (hT k a b).1
  have key : ∀ {α : Type} (f : PN → α) (A : α) (d : Nat), (∀ k, k < nc → f (pn2 k) = f (pn k)) → ∀ k, k < nc → fw pn2 f A d k = fw pn f A d k := by
    intro α f A d hf k
    induction k using Nat.strongRecOn with
    | ind k ih =>
      intro hk
      by_cases h0 : k = 0
      · subst h0; rfl
      · rw [fw_s hp2 (by omega) hk, fw_s hp0 (by omega) hk, (he k hk).1, (he k hk).2.1, hf k hk, ih _ (hp0 k (by omega) hk) (by have := hp0 k (by omega) hk; omega)]
  intro k hk
  constructor
  · funext d
    exact key _ _ _ (fun k hk => (he k hk).2.2.1) k hk
  · funext i
    exact key _ _ _ (fun k hk => by rw [(he k hk).2.2.2]) k hk

