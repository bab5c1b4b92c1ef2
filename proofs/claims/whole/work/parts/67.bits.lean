/-! how many bits: Long.bitCount -/
theorem kc_J13_314 : (Cond.constantLong "java/lang/Long" (314 : Nat) (6148914691236517205 : Int64)) ∈ GW := gw_t4 227 rfl rfl
theorem kc_J13_316 : (Cond.constantLong "java/lang/Long" (316 : Nat) (3689348814741910323 : Int64)) ∈ GW := gw_t4 228 rfl rfl
theorem kc_J13_318 : (Cond.constantLong "java/lang/Long" (318 : Nat) (1085102592571150095 : Int64)) ∈ GW := gw_t4 229 rfl rfl
def dg : List Nat → Nat
  | [] => 0
  | d :: r => d + 16 * dg r
def dgs : Nat → Nat → List Nat
  | 0, _ => []
  | k + 1, n => n % 16 :: dgs k (n / 16)
theorem dgs_eq : ∀ (k n : Nat), n < 16 ^ k → dg (dgs k n) = n
  | 0, n, h => by have : n = 0 := by simpa using h
                  subst this; rfl
  | k + 1, n, h => by
    have h2 : n / 16 < 16 ^ k := by rw [Nat.pow_succ] at h; omega
    show n % 16 + 16 * dg (dgs k (n / 16)) = n
    rw [dgs_eq k (n / 16) h2]
    omega
def d16 (l : List Nat) : Prop := ∀ a ∈ l, a < 16
theorem d16_nil : d16 [] := fun a h => absurd h List.not_mem_nil
theorem dgs_lt : ∀ (k n : Nat), d16 (dgs k n)
  | 0, _ => d16_nil
  | k + 1, n => fun a h => by
    rcases List.mem_cons.mp h with h | h
    · rw [h]; omega
    · exact dgs_lt k (n / 16) a h
theorem and16 {a b A B : Nat} (ha : a < 16) (hb : b < 16) : (a + 16 * A) &&& (b + 16 * B) = (a &&& b) + 16 * (A &&& B) := by
  have h1 : ((a + 16 * A) &&& (b + 16 * B)) % 2 ^ 4 = (a &&& b) := by
    rw [Nat.and_mod_two_pow, show (a + 16 * A) % 2 ^ 4 = a by omega, show (b + 16 * B) % 2 ^ 4 = b by omega]
  have h2 : ((a + 16 * A) &&& (b + 16 * B)) / 2 ^ 4 = (A &&& B) := by
    rw [Nat.and_div_two_pow, show (a + 16 * A) / 2 ^ 4 = A by omega, show (b + 16 * B) / 2 ^ 4 = B by omega]
  omega
def rep (m : Nat) : Nat → Nat
  | 0 => 0
  | k + 1 => m + 16 * rep m k
theorem dg_and {m : Nat} (hm : m < 16) : ∀ (l : List Nat), d16 l → dg l &&& rep m l.length = dg (l.map (· &&& m))
  | [], _ => by show (0 : Nat) &&& 0 = 0; decide
  | a :: r, h => by
    show (a + 16 * dg r) &&& (m + 16 * rep m r.length) = (a &&& m) + 16 * dg (r.map (· &&& m))
    rw [and16 (h a List.mem_cons_self) hm, dg_and hm r (fun x hx => h x (List.mem_cons_of_mem _ hx))]
/-- shifted right by j bits, digit by digit -/
def shd (j : Nat) : List Nat → List Nat
  | [] => []
  | a :: r => (a / 2 ^ j + 2 ^ (4 - j) * (r.headD 0 % 2 ^ j)) :: shd j r
theorem shd_len (j : Nat) : ∀ l : List Nat, (shd j l).length = l.length
  | [] => rfl
  | a :: r => by simp [shd, shd_len j r]
theorem shd1 : ∀ l : List Nat, d16 l → dg (shd 1 l) = dg l / 2 ∧ d16 (shd 1 l) ∧ (shd 1 l).map (· &&& 5) = l.map (fun a => (a / 2) &&& 5)
  | [], _ => ⟨rfl, d16_nil, rfl⟩
  | a :: r, h => by
    obtain ⟨h1, h2, h3⟩ := shd1 r (fun x hx => h x (List.mem_cons_of_mem _ hx))
    have ha := h a List.mem_cons_self
    have hd : dg r % 2 = r.headD 0 % 2 := by
      cases r with
      | nil => rfl
      | cons b r2 => show (b + 16 * dg r2) % 2 = b % 2; omega
    refine ⟨?_, ?_, ?_⟩
    · show (a / 2 ^ 1 + 2 ^ (4 - 1) * (r.headD 0 % 2 ^ 1)) + 16 * dg (shd 1 r) = (a + 16 * dg r) / 2
      rw [h1]
      have : r.headD 0 % 2 ^ 1 = dg r % 2 := hd.symm
      omega
    · intro x hx
      rcases List.mem_cons.mp hx with hx | hx
      · rw [hx]; omega
      · exact h2 x hx
    · show ((a / 2 ^ 1 + 2 ^ (4 - 1) * (r.headD 0 % 2 ^ 1)) &&& 5) :: (shd 1 r).map (· &&& 5) = ((a / 2) &&& 5) :: r.map (fun a => (a / 2) &&& 5)
      rw [h3]
      congr 1
      have key : ∀ a : Fin 16, ∀ e : Fin 2, ((a : Nat) / 2 ^ 1 + 2 ^ (4 - 1) * (e : Nat)) &&& 5 = ((a : Nat) / 2) &&& 5 := by decide
      exact key ⟨a, ha⟩ ⟨r.headD 0 % 2 ^ 1, by omega⟩
theorem shd2 : ∀ l : List Nat, d16 l → dg (shd 2 l) = dg l / 4 ∧ d16 (shd 2 l) ∧ (shd 2 l).map (· &&& 3) = l.map (fun a => (a / 4) &&& 3)
  | [], _ => ⟨rfl, d16_nil, rfl⟩
  | a :: r, h => by
    obtain ⟨h1, h2, h3⟩ := shd2 r (fun x hx => h x (List.mem_cons_of_mem _ hx))
    have ha := h a List.mem_cons_self
    have hd : dg r % 4 = r.headD 0 % 4 := by
      cases r with
      | nil => rfl
      | cons b r2 => show (b + 16 * dg r2) % 4 = b % 4; omega
    refine ⟨?_, ?_, ?_⟩
    · show (a / 2 ^ 2 + 2 ^ (4 - 2) * (r.headD 0 % 2 ^ 2)) + 16 * dg (shd 2 r) = (a + 16 * dg r) / 4
      rw [h1]
      have : r.headD 0 % 2 ^ 2 = dg r % 4 := hd.symm
      omega
    · intro x hx
      rcases List.mem_cons.mp hx with hx | hx
      · rw [hx]; omega
      · exact h2 x hx
    · show ((a / 2 ^ 2 + 2 ^ (4 - 2) * (r.headD 0 % 2 ^ 2)) &&& 3) :: (shd 2 r).map (· &&& 3) = ((a / 4) &&& 3) :: r.map (fun a => (a / 4) &&& 3)
      rw [h3]
      congr 1
      have key : ∀ a : Fin 16, ∀ e : Fin 4, ((a : Nat) / 2 ^ 2 + 2 ^ (4 - 2) * (e : Nat)) &&& 3 = ((a : Nat) / 4) &&& 3 := by decide
      exact key ⟨a, ha⟩ ⟨r.headD 0 % 2 ^ 2, by omega⟩
theorem dg_add (f g : Nat → Nat) : ∀ l : List Nat, dg (l.map f) + dg (l.map g) = dg (l.map (fun a => f a + g a))
  | [] => rfl
  | a :: r => by
    show f a + 16 * dg (r.map f) + (g a + 16 * dg (r.map g)) = f a + g a + 16 * dg (r.map (fun a => f a + g a))
    rw [← dg_add f g r]
    omega
theorem dg_mapc {f g : Nat → Nat} : ∀ l : List Nat, (∀ a ∈ l, f a = g a) → dg (l.map f) = dg (l.map g)
  | [], _ => rfl
  | a :: r, h => by
    show f a + 16 * dg (r.map f) = g a + 16 * dg (r.map g)
    rw [h a List.mem_cons_self, dg_mapc r (fun x hx => h x (List.mem_cons_of_mem _ hx))]
def g5 (a : Nat) : Nat := a - ((a / 2) &&& 5)
/-- bits of one digit -/
def pc4 (a : Nat) : Nat := (g5 a &&& 3) + ((g5 a / 4) &&& 3)
theorem pc4_le : ∀ a : Fin 16, pc4 a ≤ 4 ∧ ((a : Nat) / 2 &&& 5) ≤ a ∧ g5 a < 16 := by decide
theorem pc4_bits : ∀ a : Fin 16, (pc4 a : Int) = bi ((a : Nat).testBit 0) + bi ((a : Nat).testBit 1) + bi ((a : Nat).testBit 2) + bi ((a : Nat).testBit 3) := by decide
theorem rep_5 : rep 5 16 = 0x5555555555555555 := by decide
theorem rep_3 : rep 3 16 = 0x3333333333333333 := by decide
/-- the first two steps: each digit is how many bits it has -/
theorem sw_b {n : Nat} (h : n < 2 ^ 64) : ((n - ((n / 2) &&& 0x5555555555555555)) &&& 0x3333333333333333) + (((n - ((n / 2) &&& 0x5555555555555555)) / 4) &&& 0x3333333333333333) = dg ((dgs 16 n).map pc4) ∧ ((n / 2) &&& 0x5555555555555555) ≤ n := by
  have hn := dgs_eq 16 n (by simpa using h)
  have hl := dgs_lt 16 n
  have hlen : (dgs 16 n).length = 16 := rfl
  obtain ⟨l, hle⟩ : ∃ l, l = dgs 16 n := ⟨_, rfl⟩
  rw [← hle] at hn hl hlen ⊢
  obtain ⟨s1, s2, s3⟩ := shd1 l hl
  have e1 : (n / 2) &&& 0x5555555555555555 = dg (l.map (fun a => (a / 2) &&& 5)) := by
    rw [← rep_5, ← hn, ← s1, ← s3, ← hlen, ← shd_len 1 l]
    exact dg_and (by decide) _ s2
  have e2 : dg (l.map g5) + dg (l.map (fun a => (a / 2) &&& 5)) = n := by
    rw [dg_add]
    have : dg (l.map (fun a => g5 a + ((a / 2) &&& 5))) = dg (l.map id) := dg_mapc l (fun a ha => by
      have := (pc4_le ⟨a, hl a ha⟩).2.1
      show a - ((a / 2) &&& 5) + ((a / 2) &&& 5) = a
      have h9 : ((a / 2) &&& 5) ≤ a := this
      omega)
    rw [this, List.map_id, hn]
  have e3 : n - ((n / 2) &&& 0x5555555555555555) = dg (l.map g5) := by rw [e1]; omega
  have hl2 : d16 (l.map g5) := fun a ha => by
    obtain ⟨b, hb, rfl⟩ := List.mem_map.mp ha
    exact (pc4_le ⟨b, hl b hb⟩).2.2
  obtain ⟨t1, t2, t3⟩ := shd2 (l.map g5) hl2
  have hlen2 : (l.map g5).length = 16 := by rw [List.length_map, hlen]
  refine ⟨?_, by rw [e1]; omega⟩
  rw [e3]
  have f1 : dg (l.map g5) &&& 0x3333333333333333 = dg ((l.map g5).map (· &&& 3)) := by
    rw [← rep_3, ← hlen2]
    exact dg_and (by decide) _ hl2
  have f2 : (dg (l.map g5) / 4) &&& 0x3333333333333333 = dg ((l.map g5).map (fun a => (a / 4) &&& 3)) := by
    rw [← rep_3, ← t1, ← t3, ← hlen2, ← shd_len 2 (l.map g5)]
    exact dg_and (by decide) _ t2
  rw [f1, f2, List.map_map, List.map_map, dg_add]
  rfl
def spc : Nat → Nat → Nat
  | 0, _ => 0
  | k + 1, n => pc4 (n % 16) + spc k (n / 16)
theorem dgs_map : ∀ (k n : Nat), (dgs k n).map pc4 = match k with
    | 0 => []
    | k + 1 => pc4 (n % 16) :: (dgs k (n / 16)).map pc4
  | 0, _ => rfl
  | k + 1, _ => rfl
theorem and_f {p0 p1 A : Nat} (h0 : p0 < 16) (h1 : p1 < 16) (M : Nat) : (p0 + 16 * (p1 + 16 * A)) &&& (15 + 256 * M) = p0 + 256 * (A &&& M) := by
  have e1 : 15 + 256 * M = 15 + 16 * (0 + 16 * M) := by omega
  rw [e1, and16 h0 (by decide), and16 h1 (by decide)]
  have k1 : p0 &&& 15 = p0 := by
    have := Nat.and_two_pow_sub_one_eq_mod p0 4
    rw [show (15 : Nat) = 2 ^ 4 - 1 by decide, this]
    omega
  have k2 : p1 &&& 0 = 0 := Nat.and_zero p1
  rw [k1, k2]
  omega
def pr8 : List Nat → Nat
  | a :: b :: r => (a + b) + 256 * pr8 r
  | _ => 0
def mF : Nat → Nat
  | 0 => 0
  | k + 1 => 15 + 256 * mF k
theorem dg_ht (r : List Nat) : dg r = r.headD 0 + 16 * dg r.tail := by
  cases r with
  | nil => rfl
  | cons a r => rfl
theorem sw_c : ∀ (k : Nat) (l : List Nat), l.length = 2 * k → (∀ a ∈ l, a ≤ 4) → (dg l + dg l.tail) &&& mF k = pr8 l
  | 0, l, hl, _ => by
    have : l = [] := List.eq_nil_of_length_eq_zero (by omega)
    subst this
    show (0 : Nat) &&& 0 = 0
    decide
  | k + 1, [], hl, _ => absurd hl (by show ¬ 0 = 2 * (k + 1); omega)
  | k + 1, [a], hl, _ => absurd hl (by show ¬ 1 = 2 * (k + 1); omega)
  | k + 1, a :: b :: r, hl, h => by
    have ha := h a List.mem_cons_self
    have hb := h b (List.mem_cons_of_mem _ List.mem_cons_self)
    have hh : r.headD 0 ≤ 4 := by
      cases r with
      | nil => exact Nat.zero_le 4
      | cons c r2 => exact h c (List.mem_cons_of_mem _ (List.mem_cons_of_mem _ List.mem_cons_self))
    have hl2 : r.length = 2 * k := by
      have : r.length + 1 + 1 = 2 * (k + 1) := hl
      omega
    have ih := sw_c k r hl2 (fun x hx => h x (List.mem_cons_of_mem _ (List.mem_cons_of_mem _ hx)))
    have e := dg_ht r
    have e2 : dg (a :: b :: r) + dg (a :: b :: r).tail = (a + b) + 16 * ((b + r.headD 0) + 16 * (dg r + dg r.tail)) := by
      show a + 16 * (b + 16 * dg r) + (b + 16 * dg r) = _
      omega
    rw [e2]
    show _ &&& (15 + 256 * mF k) = _
    rw [and_f (by omega) (by omega), ih]
    rfl
theorem dv1 {a Y : Nat} (ha : a < 256) : (a + 256 * Y) / 256 = Y := by omega
theorem dv2 {a b Y : Nat} (ha : a < 256) (hb : b < 256) : (a + 256 * (b + 256 * Y)) / 65536 = Y := by
  rw [show (65536 : Nat) = 256 * 256 by decide, ← Nat.div_div_eq_div_mul, dv1 ha, dv1 hb]
theorem dv4 {a b c d Y : Nat} (ha : a < 256) (hb : b < 256) (hc : c < 256) (hd : d < 256) : (a + 256 * (b + 256 * (c + 256 * (d + 256 * Y)))) / 4294967296 = Y := by
  rw [show (4294967296 : Nat) = 65536 * 65536 by decide, ← Nat.div_div_eq_div_mul, dv2 ha hb, dv2 hc hd]
theorem add2 {a b A B X Y : Nat} (h1 : X = a + 256 * A) (h2 : Y = b + 256 * B) : X + Y = (a + b) + 256 * (A + B) := by omega
theorem sw_s {q X : Nat → Nat} (hq : ∀ k, q k ≤ 8) (hX : ∀ k, X k = q k + 256 * X (k + 1)) (h8 : X 8 = 0) : ∃ d e f, d = X 0 + X 0 / 256 ∧ e = d + d / 65536 ∧ f = e + e / 4294967296 ∧ f < 2 ^ 64 ∧ d < 2 ^ 63 ∧ e < 2 ^ 63 ∧ f % 128 = (q 0 + q 1 + (q 2 + q 3)) + (q 4 + q 5 + (q 6 + q 7)) := by
  have b7 : X 7 ≤ 8 := by have h : X 7 = q 7 + 256 * X 8 := hX 7; have q := hq 7; rw [h8] at h; clear hX hq; omega
  have b6 : X 6 ≤ 2056 := by have h : X 6 = q 6 + 256 * X 7 := hX 6; have q := hq 6; have b := b7; clear hX hq; omega
  have b5 : X 5 ≤ 526344 := by have h : X 5 = q 5 + 256 * X 6 := hX 5; have q := hq 5; have b := b6; clear hX hq; omega
  have b4 : X 4 ≤ 134744072 := by have h : X 4 = q 4 + 256 * X 5 := hX 4; have q := hq 4; have b := b5; clear hX hq; omega
  have b3 : X 3 ≤ 34494482440 := by have h : X 3 = q 3 + 256 * X 4 := hX 3; have q := hq 3; have b := b4; clear hX hq; omega
  have b2 : X 2 ≤ 8830587504648 := by have h : X 2 = q 2 + 256 * X 3 := hX 2; have q := hq 2; have b := b3; clear hX hq; omega
  have b1 : X 1 ≤ 2260630401189896 := by have h : X 1 = q 1 + 256 * X 2 := hX 1; have q := hq 1; have b := b2; clear hX hq; omega
  have b0 : X 0 ≤ 578721382704613384 := by have h : X 0 = q 0 + 256 * X 1 := hX 0; have q := hq 0; have b := b1; clear hX hq; omega
  have d1 : X 0 / 256 = X 1 := by rw [hX 0]; exact dv1 (by have := hq 0; omega)
  have hY : ∀ k, X k + X (k + 1) = (q k + q (k + 1)) + 256 * (X (k + 1) + X (k + 2)) := fun k => add2 (hX k) (hX (k + 1))
  have d2 : (X 0 + X 1) / 65536 = X 2 + X 3 := by
    rw [show X 0 + X 1 = (q 0 + q 1) + 256 * (X 1 + X 2) from hY 0, show X 1 + X 2 = (q 1 + q 2) + 256 * (X 2 + X 3) from hY 1]
    exact dv2 (by have := hq 0; have := hq 1; omega) (by have := hq 1; have := hq 2; omega)
  have hZ : ∀ k, X k + X (k + 1) + (X (k + 2) + X (k + 3)) = (q k + q (k + 1) + (q (k + 2) + q (k + 3))) + 256 * (X (k + 1) + X (k + 2) + (X (k + 3) + X (k + 4))) := fun k => add2 (hY k) (hY (k + 2))
  have zb : ∀ k, q k + q (k + 1) + (q (k + 2) + q (k + 3)) < 256 := fun k => by have := hq k; have := hq (k + 1); have := hq (k + 2); have := hq (k + 3); omega
  have d3 : (X 0 + X 1 + (X 2 + X 3)) / 4294967296 = X 4 + X 5 + (X 6 + X 7) := by
    rw [show X 0 + X 1 + (X 2 + X 3) = (q 0 + q 1 + (q 2 + q 3)) + 256 * (X 1 + X 2 + (X 3 + X 4)) from hZ 0, show X 1 + X 2 + (X 3 + X 4) = (q 1 + q 2 + (q 3 + q 4)) + 256 * (X 2 + X 3 + (X 4 + X 5)) from hZ 1, show X 2 + X 3 + (X 4 + X 5) = (q 2 + q 3 + (q 4 + q 5)) + 256 * (X 3 + X 4 + (X 5 + X 6)) from hZ 2, show X 3 + X 4 + (X 5 + X 6) = (q 3 + q 4 + (q 5 + q 6)) + 256 * (X 4 + X 5 + (X 6 + X 7)) from hZ 3]
    exact dv4 (zb 0) (zb 1) (zb 2) (zb 3)
  have hF : X 0 + X 1 + (X 2 + X 3) + (X 4 + X 5 + (X 6 + X 7)) = (q 0 + q 1 + (q 2 + q 3) + (q 4 + q 5 + (q 6 + q 7))) + 256 * (X 1 + X 2 + (X 3 + X 4) + (X 5 + X 6 + (X 7 + X 8))) := add2 (hZ 0) (hZ 4)
  refine ⟨X 0 + X 1, X 0 + X 1 + (X 2 + X 3), X 0 + X 1 + (X 2 + X 3) + (X 4 + X 5 + (X 6 + X 7)), by rw [d1], by rw [d2], by rw [d3], ?_, ?_, ?_, ?_⟩
  · clear hX hq hY hZ zb d1 d2 d3 hF; omega
  · clear hX hq hY hZ zb d1 d2 d3 hF; omega
  · clear hX hq hY hZ zb d1 d2 d3 hF; omega
  · rw [hF]
    have r0 := hq 0
    have r1 := hq 1
    have r2 := hq 2
    have r3 := hq 3
    have r4 := hq 4
    have r5 := hq 5
    have r6 := hq 6
    have r7 := hq 7
    generalize X 1 + X 2 + (X 3 + X 4) + (X 5 + X 6 + (X 7 + X 8)) = W
    clear hX hq hY hZ zb d1 d2 d3 hF b0 b1 b2 b3 b4 b5 b6 b7 h8
    omega
theorem sw_d {q0 q1 q2 q3 q4 q5 q6 q7 : Nat} (h0 : q0 ≤ 8) (h1 : q1 ≤ 8) (h2 : q2 ≤ 8) (h3 : q3 ≤ 8) (h4 : q4 ≤ 8) (h5 : q5 ≤ 8) (h6 : q6 ≤ 8) (h7 : q7 ≤ 8) {c : Nat} (hc : c = q0 + 256 * (q1 + 256 * (q2 + 256 * (q3 + 256 * (q4 + 256 * (q5 + 256 * (q6 + 256 * (q7 + 256 * 0)))))))) : ∃ d e f, d = c + c / 256 ∧ e = d + d / 65536 ∧ f = e + e / 4294967296 ∧ f < 2 ^ 64 ∧ d < 2 ^ 63 ∧ e < 2 ^ 63 ∧ f % 128 = (q0 + q1 + (q2 + q3)) + (q4 + q5 + (q6 + q7)) := by
  have h := sw_s (q := fun k => match k with
    | 0 => q0
    | 1 => q1
    | 2 => q2
    | 3 => q3
    | 4 => q4
    | 5 => q5
    | 6 => q6
    | 7 => q7
    | _ => 0) (X := fun k => match k with
    | 0 => c
    | 1 => q1 + 256 * (q2 + 256 * (q3 + 256 * (q4 + 256 * (q5 + 256 * (q6 + 256 * (q7 + 256 * 0))))))
    | 2 => q2 + 256 * (q3 + 256 * (q4 + 256 * (q5 + 256 * (q6 + 256 * (q7 + 256 * 0)))))
    | 3 => q3 + 256 * (q4 + 256 * (q5 + 256 * (q6 + 256 * (q7 + 256 * 0))))
    | 4 => q4 + 256 * (q5 + 256 * (q6 + 256 * (q7 + 256 * 0)))
    | 5 => q5 + 256 * (q6 + 256 * (q7 + 256 * 0))
    | 6 => q6 + 256 * (q7 + 256 * 0)
    | 7 => q7 + 256 * 0
    | _ => 0) (fun k => by
      match k with
      | 0 => exact h0
      | 1 => exact h1
      | 2 => exact h2
      | 3 => exact h3
      | 4 => exact h4
      | 5 => exact h5
      | 6 => exact h6
      | 7 => exact h7
      | k + 8 => exact Nat.zero_le 8) (fun k => by
      match k with
      | 0 => exact hc
      | 1 => rfl
      | 2 => rfl
      | 3 => rfl
      | 4 => rfl
      | 5 => rfl
      | 6 => rfl
      | 7 => rfl
      | k + 8 => rfl) rfl
  exact h
theorem cnt_spc (n : Nat) : ∀ k m, cntN (fun c => (m : Nat).testBit c) (4 * k) = (spc k m : Int) := by
  intro k
  induction k with
  | zero => intro m; rfl
  | succ k ih =>
    intro m
    have hsp : ∀ (p : Nat → Bool) (j : Nat), cntN p (4 + j) = cntN p 4 + cntN (fun c => p (4 + c)) j := by
      intro p j
      induction j with
      | zero => show cntN p 4 = cntN p 4 + 0; omega
      | succ j ihj =>
        show cntN p (4 + j) + bi (p (4 + j)) = cntN p 4 + (cntN (fun c => p (4 + c)) j + bi (p (4 + j)))
        rw [ihj]
        omega
    rw [show 4 * (k + 1) = 4 + 4 * k by omega, hsp]
    have e1 : cntN (fun c => m.testBit (4 + c)) (4 * k) = cntN (fun c => (m / 16).testBit c) (4 * k) := cntN_cong fun c _ => by
      rw [show (16 : Nat) = 2 ^ 4 by decide, Nat.testBit_div_two_pow]
      congr 1
      omega
    rw [e1, ih (m / 16)]
    have e2 : cntN (fun c => m.testBit c) 4 = (pc4 (m % 16) : Int) := by
      have := pc4_bits ⟨m % 16, by omega⟩
      rw [this]
      have tb : ∀ j, j < 4 → (m % 16).testBit j = m.testBit j := fun j hj => by
        rw [show (16 : Nat) = 2 ^ 4 by decide, Nat.testBit_mod_two_pow]
        simp [hj]
      show 0 + bi (m.testBit 0) + bi (m.testBit 1) + bi (m.testBit 2) + bi (m.testBit 3) = _
      show _ = bi ((m % 16).testBit 0) + bi ((m % 16).testBit 1) + bi ((m % 16).testBit 2) + bi ((m % 16).testBit 3)
      rw [tb 0 (by decide), tb 1 (by decide), tb 2 (by decide), tb 3 (by decide)]
      omega
    rw [e2]
    show _ = ((pc4 (m % 16) + spc k (m / 16) : Nat) : Int)
    omega
/-- how many bits are set -/
def bcn (b : BitVec 64) : Int := cntN (fun c => b.getLsbD c) 64
theorem bcn_spc (b : BitVec 64) : bcn b = (spc 16 b.toNat : Int) := cnt_spc 0 16 b.toNat
theorem mF_8 : mF 8 = 0x0f0f0f0f0f0f0f0f := by decide
theorem dgs_16 (n : Nat) : ∃ p0 p1 p2 p3 p4 p5 p6 p7 p8 p9 pa pb pc pd pe pf : Nat, (dgs 16 n).map pc4 = [p0, p1, p2, p3, p4, p5, p6, p7, p8, p9, pa, pb, pc, pd, pe, pf] ∧ (p0 ≤ 4 ∧ p1 ≤ 4 ∧ p2 ≤ 4 ∧ p3 ≤ 4 ∧ p4 ≤ 4 ∧ p5 ≤ 4 ∧ p6 ≤ 4 ∧ p7 ≤ 4 ∧ p8 ≤ 4 ∧ p9 ≤ 4 ∧ pa ≤ 4 ∧ pb ≤ 4 ∧ pc ≤ 4 ∧ pd ≤ 4 ∧ pe ≤ 4 ∧ pf ≤ 4) ∧ spc 16 n = p0 + (p1 + (p2 + (p3 + (p4 + (p5 + (p6 + (p7 + (p8 + (p9 + (pa + (pb + (pc + (pd + (pe + (pf + 0))))))))))))))) := by
  have h : ∀ m, pc4 (m % 16) ≤ 4 := fun m => (pc4_le ⟨m % 16, by omega⟩).1
  exact ⟨_, _, _, _, _, _, _, _, _, _, _, _, _, _, _, _, rfl, ⟨h _, h _, h _, h _, h _, h _, h _, h _, h _, h _, h _, h _, h _, h _, h _, h _⟩, rfl⟩
/-- the whole of it, in numbers -/
theorem sw_all {n : Nat} (h : n < 2 ^ 64) : ∃ a b c d e f, a = n - ((n / 2) &&& 0x5555555555555555) ∧ ((n / 2) &&& 0x5555555555555555) ≤ n ∧ b = (a &&& 0x3333333333333333) + ((a / 4) &&& 0x3333333333333333) ∧ b < 2 ^ 63 ∧ c = (b + b / 16) &&& 0x0f0f0f0f0f0f0f0f ∧ d = c + c / 256 ∧ e = d + d / 65536 ∧ f = e + e / 4294967296 ∧ f < 2 ^ 64 ∧ d < 2 ^ 63 ∧ e < 2 ^ 63 ∧ f % 128 = spc 16 n := by
  obtain ⟨hb, hle⟩ := sw_b h
  obtain ⟨p0, p1, p2, p3, p4, p5, p6, p7, p8, p9, pa, pb, pc, pd, pe, pf, hm, ⟨h0, h1, h2, h3, h4, h5, h6, h7, h8, h9, ha, hb9, hc, hd, he, hf⟩, hs⟩ := dgs_16 n
  rw [hm] at hb
  obtain ⟨l, hl⟩ : ∃ l, l = [p0, p1, p2, p3, p4, p5, p6, p7, p8, p9, pa, pb, pc, pd, pe, pf] := ⟨_, rfl⟩
  rw [← hl] at hb
  have hall : ∀ a ∈ l, a ≤ 4 := by
    rw [hl]
    intro a hm
    simp only [List.mem_cons, List.not_mem_nil, or_false] at hm
    omega
  have hcc := sw_c 8 l (by rw [hl]; rfl) hall
  have htl : dg l / 16 = dg l.tail := by
    rw [hl]
    show (p0 + 16 * dg [p1, p2, p3, p4, p5, p6, p7, p8, p9, pa, pb, pc, pd, pe, pf]) / 16 = dg [p1, p2, p3, p4, p5, p6, p7, p8, p9, pa, pb, pc, pd, pe, pf]
    omega
  rw [mF_8, ← htl] at hcc
  have hpr : pr8 l = (p0 + p1) + 256 * ((p2 + p3) + 256 * ((p4 + p5) + 256 * ((p6 + p7) + 256 * ((p8 + p9) + 256 * ((pa + pb) + 256 * ((pc + pd) + 256 * ((pe + pf) + 256 * 0))))))) := by rw [hl]; rfl
  obtain ⟨d, e, f, g1, g2, g3, g4, g5, g6, g7⟩ := sw_d (by omega : p0 + p1 ≤ 8) (by omega : p2 + p3 ≤ 8) (by omega : p4 + p5 ≤ 8) (by omega : p6 + p7 ≤ 8) (by omega : p8 + p9 ≤ 8) (by omega : pa + pb ≤ 8) (by omega : pc + pd ≤ 8) (by omega : pe + pf ≤ 8) hpr
  have hbl : dg l < 2 ^ 63 := by
    have : ∀ (k : Nat) (l : List Nat), l.length = k → (∀ a ∈ l, a ≤ 4) → dg l ≤ 4 * rep 1 k := by
      intro k
      induction k with
      | zero => intro l hl _; have : l = [] := List.eq_nil_of_length_eq_zero hl; subst this; exact Nat.le_refl _
      | succ k ih =>
        intro l hl h
        cases l with
        | nil => cases hl
        | cons a r =>
          have := ih r (by have : r.length + 1 = k + 1 := hl; omega) (fun x hx => h x (List.mem_cons_of_mem _ hx))
          have h9 := h a List.mem_cons_self
          show a + 16 * dg r ≤ 4 * (1 + 16 * rep 1 k)
          omega
    have h16 := this 16 l (by rw [hl]; rfl) hall
    have : rep 1 16 = 0x1111111111111111 := by decide
    rw [this] at h16
    omega
  refine ⟨_, _, _, d, e, f, rfl, hle, rfl, by rw [hb]; exact hbl, rfl, ?_, g2, g3, g4, g5, g6, ?_⟩
  · rw [hb, hcc]; exact g1
  · rw [g7, hs]
    clear hm hl hb hcc hpr htl hall hbl hle g1 g2 g3 g4 g5 g6 g7 hs h
    omega

