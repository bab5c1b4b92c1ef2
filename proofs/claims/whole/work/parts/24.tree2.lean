/-! Tree: load, forbidAll, clashesWith -/
def okT (pn : Nat → PN) (nc n : Nat) : Prop := ∀ k, 0 < k → k < nc → pPi (pn k) < k ∧ (0 ≤ pCa (pn k) ∧ pCa (pn k) < n) ∧ (1 ≤ pTi (pn k) ∧ pTi (pn k) ≤ 40) ∧ (pFr (pn k) = -1 ∨ 0 ≤ pFr (pn k) ∧ pFr (pn k) < 36) ∧ (0 ≤ pTo (pn k) ∧ pTo (pn k) < 36) ∧ (0 ≤ pCo (pn k) ∧ pCo (pn k) ≤ 40) ∧ okP (pRw (pn k))
def fwW {α : Type} (pn : Nat → PN) (f : PN → α) (A : α) (c : Nat) : Nat → Nat → α
  | 0, _ => A
  | g + 1, k => if k = 0 then A else if pCa (pn k) = c then f (pn k) else fwW pn f A c g (pPi (pn k))
/-- what the node k has for cart c: its own, its parent's .., or that of the start -/
def fw {α : Type} (pn : Nat → PN) (f : PN → α) (A : α) (c k : Nat) : α := fwW pn f A c k k
theorem fw_fuel {α : Type} {pn : Nat → PN} {f : PN → α} {A : α} {c nc : Nat} (hp : ∀ k, 0 < k → k < nc → pPi (pn k) < k) : ∀ (k g : Nat), k < nc → k ≤ g → fwW pn f A c g k = fwW pn f A c k k := by
  intro k
  induction k using Nat.strongRecOn with
  | ind k ih =>
    intro g hk hg
    by_cases h0 : k = 0
    · subst h0
      cases g with
      | zero => rfl
      | succ g => show (if (0 : Nat) = 0 then A else _) = A; exact if_pos rfl
    · obtain ⟨k', rfl⟩ : ∃ k', k = k' + 1 := ⟨k - 1, by omega⟩
      obtain ⟨g', rfl⟩ : ∃ g', g = g' + 1 := ⟨g - 1, by omega⟩
      have hpk := hp (k' + 1) (by omega) hk
      rw [fwW, fwW, if_neg h0, if_neg h0]
      by_cases hc : pCa (pn (k' + 1)) = c
      · rw [if_pos hc, if_pos hc]
      · rw [if_neg hc, if_neg hc, ih _ hpk g' (by omega) (by omega), ih _ hpk k' (by omega) (by omega)]
theorem fw_0 {α : Type} (pn : Nat → PN) (f : PN → α) (A : α) (c : Nat) : fw pn f A c 0 = A := rfl
theorem fw_s {α : Type} {pn : Nat → PN} {f : PN → α} {A : α} {c nc : Nat} (hp : ∀ k, 0 < k → k < nc → pPi (pn k) < k) {k : Nat} (h0 : 0 < k) (hk : k < nc) : fw pn f A c k = if pCa (pn k) = c then f (pn k) else fw pn f A c (pPi (pn k)) := by
  obtain ⟨k', rfl⟩ : ∃ k', k = k' + 1 := ⟨k - 1, by omega⟩
  have hpk := hp (k' + 1) (by omega) hk
  unfold fw
  rw [fwW, if_neg (by omega), fw_fuel hp _ k' (by omega) (by omega)]
theorem fw_cong {α : Type} {pn pn2 : Nat → PN} {f : PN → α} {A : α} {c nc : Nat} (hp : ∀ k, 0 < k → k < nc → pPi (pn k) < k) (he : ∀ k, k < nc → pn2 k = pn k) : ∀ k, k < nc → fw pn2 f A c k = fw pn f A c k := by
  have hp2 : ∀ k, 0 < k → k < nc → pPi (pn2 k) < k := fun k h0 h => by rw [he k h]; exact hp k h0 h
  intro k
  induction k using Nat.strongRecOn with
  | ind k ih =>
    intro hk
    by_cases h0 : k = 0
    · subst h0; rfl
    · rw [fw_s hp (by omega) hk, fw_s hp2 (by omega) hk, he k hk, ih _ (hp k (by omega) hk) (by have := hp k (by omega) hk; omega)]
def fb1 (fr to ti : Int) (x : (Nat → BitVec 64) × (Nat → BitVec 64)) : (Nat → BitVec 64) × (Nat → BitVec 64) := if fr = -1 then (va_up x.1 ti.toNat (x.1 ti.toNat ||| bt1 to.toNat), x.2) else (x.1, fbm x.2 fr.toNat to ti.toNat 4)
def fbW (pn : Nat → PN) (c : Int) : Nat → Nat → (Nat → BitVec 64) × (Nat → BitVec 64) → (Nat → BitVec 64) × (Nat → BitVec 64)
  | 0, _, x => x
  | g + 1, j, x => if j = 0 then x else fbW pn c g (pPi (pn j)) (if pCa (pn j) = c then fb1 (pFr (pn j)) (pTo (pn j)) (pTi (pn j)) x else x)
theorem nad_b {x y : Nat} : ((x ||| 2 ^ y : Nat).testBit y) = true := by simp [Nat.testBit_or]
theorem nad_o {x y z : Nat} (h : z ≠ y) : ((x ||| 2 ^ y : Nat).testBit z) = x.testBit z := by
  rw [Nat.testBit_or, Nat.testBit_two_pow]
  simp; exact fun q => absurd q.symm h
theorem g_loop3 {β γ δ : Type} (P J : β → γ → δ → Prop) (μ : β → γ → δ → Nat) (h : ∀ b c d, P b c d → (∀ b' c' d', P b' c' d' → μ b' c' d' < μ b c d → J b' c' d') → J b c d) : ∀ b c d, P b c d → J b c d := fun b c d hP =>
  g_loop2 (fun b (x : γ × δ) => P b x.1 x.2) (fun b x => J b x.1 x.2) (fun b x => μ b x.1 x.2) (fun b x hb ih => h b x.1 x.2 hb (fun b' c' d' => ih b' (c', d'))) b (c, d) hP
section TR2
variable {Γ : GT} {σ : AH} {T M : Nat} {ad : Nat → Nat} {ve lo pl : Int} {nc spl n n2 : Nat} {cu : Bool} {pn : Nat → PN} {P1 C1 P2 C2 : Nat → Int}
theorem sp_load (hΓ : Gd Γ) (h0 : σ.2 T = some (tro T ve nc spl lo pl cu)) (hN : TND σ T M ad) (hM : nc ≤ M) (hk : ∀ k, k < nc → NDp σ ad k (pn k)) (hT : okT pn nc n) (hn : n ≤ 5) (hW1 : WYo σ (T + 2) n P1 C1) (hW2 : WYo σ (T + 5) n2 P2 C2) (o1 : okP P1) (o2 : okC C1) (o3 : okP P2) (o4 : okC C2) (k : Nat) (hkn : k < nc) : Sp Γ miX6_load 0 0 [.ref T, .ref (ad k)] σ (fun r σ' => r = none ∧ eqOff σ σ' (inb (T + 5) 3) ∧ ∃ P' C', WYo σ' (T + 5) n P' C' ∧ okP P' ∧ okC C' ∧ ∀ c, c < n → C' c = fw pn pCo (C1 c) c k ∧ ∀ t, t < 41 → P' (41 * c + t) = fw pn (fun q => pRw q t) (P1 (41 * c + t)) c k) noX := by
  obtain ⟨h1, hM1, hinc, hin⟩ := hN
  obtain ⟨⟨t1, s1, l1, m1, w10⟩, w11, w12⟩ := hW1
  obtain ⟨⟨t2, s2, l2, m2, w20⟩, w21, w22⟩ := hW2
  have hpi : ∀ k, 0 < k → k < nc → pPi (pn k) < k := fun k a b => (hT k a b).1
  have fr : ∀ τ : AH, eqOff σ τ (inb (T + 5) 3) → (∀ j, j < nc → NDp τ ad j (pn j)) ∧ τ.2 T = some (tro T ve nc spl lo pl cu) ∧ τ.2 (T + 2) = some (wyo (T + 2) n t1 s1 l1 m1) ∧ τ.2 (T + 2 + 1) = some (ai 205 P1) ∧ τ.2 (T + 2 + 2) = some (ai 5 C1) := fun τ hE =>
    ⟨fun j hj => (hk j hj).keep (hE.2 _ (fun q => by have := hin j (by omega); unfold inb at q; omega)) (hE.2 _ (fun q => by have := hin j (by omega); unfold inb at q; omega)), (hE.2 _ (fun q => by unfold inb at q; omega)).trans h0, (hE.2 _ (fun q => by unfold inb at q; omega)).trans w10, (hE.2 _ (fun q => by unfold inb at q; omega)).trans w11, (hE.2 _ (fun q => by unfold inb at q; omega)).trans w12⟩
  refine Sp_of (L := [_, _, _, _]) hΓ (by decide +kernel) rfl (Nat.le_of_ble_eq_true rfl) rfl ?_
  refine g_aload_n q_X6_load_0 rfl ?_
  refine g_get fl_X6_24 q_X6_load_1 (by repeat first | with_reducible assumption | with_reducible exact hput_s _ _ _ | refine (hput_n _ _ (by omega)).trans ?_ | exact hput_s _ _ _ | assumption) rfl ?_
  refine g_aload_n q_X6_load_4 rfl ?_
  refine g_get fl_X6_20 q_X6_load_5 (by repeat first | with_reducible assumption | with_reducible exact hput_s _ _ _ | refine (hput_n _ _ (by omega)).trans ?_ | exact hput_s _ _ _ | assumption) rfl ?_
  refine g_get fl_X6_116 q_X6_load_8 (by repeat first | with_reducible assumption | with_reducible exact hput_s _ _ _ | refine (hput_n _ _ (by omega)).trans ?_ | exact hput_s _ _ _ | assumption) rfl ?_
  refine g_put fp_X6_116 q_X6_load_11 (by repeat first | with_reducible assumption | with_reducible exact hput_s _ _ _ | refine (hput_n _ _ (by omega)).trans ?_ | exact hput_s _ _ _ | assumption) rfl rfl ?_
  refine g_iconst q_X6_load_14 ?_
  refine g_istore_n (L' := [_, _, _, _]) q_X6_load_15 (by decide) rfl ?_
  refine g_aload_n q_X6_load_16 rfl ?_
  refine g_astore_n (L' := [_, _, _, _]) q_X6_load_17 (by decide) rfl ?_
  refine g_loop3 (fun (j : Nat) (F : Nat) (τ : AH) => j ≤ k ∧ F < 32 ∧ eqOff σ τ (inb (T + 5) 3) ∧ ∃ P' C', τ.2 (T + 5) = some (wyo (T + 5) n t2 s2 l2 m2) ∧ τ.2 (T + 5 + 1) = some (ai 205 P') ∧ τ.2 (T + 5 + 2) = some (ai 5 C') ∧ okP P' ∧ okC C' ∧ ∀ c, c < n → (F.testBit c = true → C' c = fw pn pCo (C1 c) c k ∧ ∀ t, t < 41 → P' (41 * c + t) = fw pn (fun q => pRw q t) (P1 (41 * c + t)) c k) ∧ (F.testBit c = false → fw pn pCo (C1 c) c k = fw pn pCo (C1 c) c j ∧ ∀ t, t < 41 → fw pn (fun q => pRw q t) (P1 (41 * c + t)) c k = fw pn (fun q => pRw q t) (P1 (41 * c + t)) c j)) (fun j F τ => G Γ _ cX6_load _ _ 0 0 18 [some (.ref T), some (.ref (ad k)), some (.int (ii (F : Int))), some (.ref (ad j))] [] τ) (fun j _ _ => j) ?_ k 0 _ ⟨Nat.le_refl _, by decide, eqOff.rfl'.put ⟨by omega, by omega⟩ _, P2, C2, (by repeat first | with_reducible assumption | with_reducible exact hput_s _ _ _ | refine (hput_n _ _ (by omega)).trans ?_ | exact hput_s _ _ _ | assumption), (by repeat first | with_reducible assumption | with_reducible exact hput_s _ _ _ | refine (hput_n _ _ (by omega)).trans ?_ | exact hput_s _ _ _ | assumption), (by repeat first | with_reducible assumption | with_reducible exact hput_s _ _ _ | refine (hput_n _ _ (by omega)).trans ?_ | exact hput_s _ _ _ | assumption), o3, o4, fun c hc => ⟨(fun z => by rw [Nat.zero_testBit] at z; cases z), fun _ => ⟨rfl, fun _ _ => rfl⟩⟩⟩
  rintro j F τ ⟨hj, hF, hE, P', C', q0, q1, q2, oP, oC, hcs⟩ ih
  obtain ⟨kn, k0, k10, k11, k12⟩ := fr τ hE
  have hnj := (kn j (by omega)).1
  by_cases hj0 : j = 0
  · subst hj0
    rw [if_pos rfl] at hnj
    refine g_aload_n q_X6_load_18 rfl ?_
    refine g_get fl_X6_119 q_X6_load_19 (by repeat first | with_reducible assumption | with_reducible exact hput_s _ _ _ | refine (hput_n _ _ (by omega)).trans ?_ | exact hput_s _ _ _ | assumption) rfl ?_
    refine g_ifnullN (tgt := 73) q_X6_load_22 (by decide) ?_
    refine g_iconst q_X6_load_73 ?_
    refine g_istore_n (L' := [_, _, _, _]) q_X6_load_74 (by decide) rfl ?_
    refine g_loop2 (fun (c : Nat) (τ2 : AH) => c ≤ n ∧ eqOff σ τ2 (inb (T + 5) 3) ∧ ∃ P' C', τ2.2 (T + 5) = some (wyo (T + 5) n t2 s2 l2 m2) ∧ τ2.2 (T + 5 + 1) = some (ai 205 P') ∧ τ2.2 (T + 5 + 2) = some (ai 5 C') ∧ okP P' ∧ okC C' ∧ ∀ d, d < n → (d < c ∨ F.testBit d = true) → C' d = fw pn pCo (C1 d) d k ∧ ∀ t, t < 41 → P' (41 * d + t) = fw pn (fun q => pRw q t) (P1 (41 * d + t)) d k) (fun c τ2 => G Γ _ cX6_load _ _ 0 0 75 [some (.ref T), some (.ref (ad k)), some (.int (ii (F : Int))), some (.int (ii c))] [] τ2) (fun c _ => n - c) ?_ 0 τ ⟨Nat.zero_le _, hE, P', C', q0, q1, q2, oP, oC, fun d hd hx => hx.elim (fun h => absurd h (Nat.not_lt_zero d)) (fun h => (hcs d hd).1 h)⟩
    rintro c τ2 ⟨hc, hE2, P3, C3, r0, r1, r2, oP3, oC3, hcs3⟩ ih2
    obtain ⟨kn2, k02, k102, k112, k122⟩ := fr τ2 hE2
    refine g_iload_n q_X6_load_75 rfl ?_
    refine g_aload_n q_X6_load_76 rfl ?_
    refine g_get fl_X6_20 q_X6_load_77 (by repeat first | with_reducible assumption | with_reducible exact hput_s _ _ _ | refine (hput_n _ _ (by omega)).trans ?_ | exact hput_s _ _ _ | assumption) rfl ?_
    refine g_get fl_X6_116 q_X6_load_80 (by repeat first | with_reducible assumption | with_reducible exact hput_s _ _ _ | refine (hput_n _ _ (by omega)).trans ?_ | exact hput_s _ _ _ | assumption) rfl ?_
    refine g_icmp_ge (tgt := 128) q_X6_load_83 (by decide) ⟨by omega, by omega⟩ ⟨by omega, by omega⟩ (fun hx => ?_) (fun hx => ?_)
    · refine g_return q_X6_load_128.1 rfl ?_
      exact ⟨rfl, hE2, P3, C3, ⟨⟨t2, s2, l2, m2, r0⟩, r1, r2⟩, oP3, oC3, fun d hd => hcs3 d hd (Or.inl (by omega))⟩
    · refine g_iload_n q_X6_load_86 rfl ?_
      refine g_iload_n q_X6_load_87 rfl ?_
      refine g_iushr q_X6_load_88 ?_
      refine g_iconst q_X6_load_89 ?_
      refine g_iand q_X6_load_90 ?_
      refine g_top (v' := .int (ii (bi (F.testBit c)))) (congrArg Value.int (bt_ush ⟨F, hF⟩ ⟨c, by omega⟩)) ?_
      refine g_if_ne (tgt := 122) q_X6_load_91 (by decide) (bi_rg _) (fun hb => ?_) (fun hb => ?_)
      · refine g_iinc (L' := [_, _, _, _]) q_X6_load_122 rfl rfl ?_
        refine g_goto (tgt := 75) q_X6_load_125 (by decide) ?_
        refine ih2 (c + 1) τ2 ⟨by omega, hE2, P3, C3, r0, r1, r2, oP3, oC3, fun d hd hx => hcs3 d hd ?_⟩ (by omega)
        by_cases e : d = c
        · subst e; exact Or.inr (bi_t hb)
        · exact hx.elim (fun h => Or.inl (by omega)) Or.inr
      · have hbf := bi_f hb
        have hC1 := o2 c
        refine g_aload_n q_X6_load_94 rfl ?_
        refine g_get fl_X6_24 q_X6_load_95 (by repeat first | with_reducible assumption | with_reducible exact hput_s _ _ _ | refine (hput_n _ _ (by omega)).trans ?_ | exact hput_s _ _ _ | assumption) rfl ?_
        refine g_iload_n q_X6_load_98 rfl ?_
        refine g_aload_n q_X6_load_99 rfl ?_
        refine g_get fl_X6_20 q_X6_load_100 (by repeat first | with_reducible assumption | with_reducible exact hput_s _ _ _ | refine (hput_n _ _ (by omega)).trans ?_ | exact hput_s _ _ _ | assumption) rfl ?_
        refine g_get fl_X6_136 q_X6_load_103 (by repeat first | with_reducible assumption | with_reducible exact hput_s _ _ _ | refine (hput_n _ _ (by omega)).trans ?_ | exact hput_s _ _ _ | assumption) rfl ?_
        refine g_bipush q_X6_load_106 bp_41 ?_
        refine g_iload_n q_X6_load_108 rfl ?_
        refine g_imul q_X6_load_109 ?_
        refine g_aload_n q_X6_load_110 rfl ?_
        refine g_get fl_X6_20 q_X6_load_111 (by repeat first | with_reducible assumption | with_reducible exact hput_s _ _ _ | refine (hput_n _ _ (by omega)).trans ?_ | exact hput_s _ _ _ | assumption) rfl ?_
        refine g_get fl_X6_139 q_X6_load_114 (by repeat first | with_reducible assumption | with_reducible exact hput_s _ _ _ | refine (hput_n _ _ (by omega)).trans ?_ | exact hput_s _ _ _ | assumption) rfl ?_
        refine g_iload_n q_X6_load_117 rfl ?_
        refine g_iaload q_X6_load_118 (by repeat first | with_reducible assumption | with_reducible exact hput_s _ _ _ | refine (hput_n _ _ (by omega)).trans ?_ | exact hput_s _ _ _ | assumption) (by omega) (by omega) ?_
        refine g_topi (b := C1 c) rfl ?_
        refine g_callVN (rc' := 0) (rs' := 0) (As := [_, _, _, _]) cs_X6_132 q_X6_load_119 (sp_put hΓ r0 r1 r2 c (T + 2 + 1) (41 * c) 205 P1 (C1 c) (by omega) k112 (by omega)) rfl (by repeat first | with_reducible assumption | with_reducible exact hput_s _ _ _ | refine (hput_n _ _ (by omega)).trans ?_ | exact hput_s _ _ _ | assumption) rfl rfl rfl rfl (Nat.le_of_ble_eq_true rfl) (by decide) (by decide) (by decide) (fun _ _ h => h.elim) (k_rv ?_)
        refine g_iinc (L' := [_, _, _, _]) q_X6_load_122 rfl rfl ?_
        refine g_goto (tgt := 75) q_X6_load_125 (by decide) ?_
        obtain ⟨f1, f2⟩ := (hcs c (by omega)).2 hbf
        refine ih2 (c + 1) _ ⟨by omega, (hE2.put ⟨by omega, by omega⟩ _).put ⟨by omega, by omega⟩ _, va_cpy P1 P3 (41 * c) (41 * c) 41, va_up C3 c (C1 c), (by repeat first | with_reducible assumption | with_reducible exact hput_s _ _ _ | refine (hput_n _ _ (by omega)).trans ?_ | exact hput_s _ _ _ | assumption), (by repeat first | with_reducible assumption | with_reducible exact hput_s _ _ _ | refine (hput_n _ _ (by omega)).trans ?_ | exact hput_s _ _ _ | assumption), hput_s _ _ _, okP_cpy oP3 o1 _ _ _, okC_up oC3 _ hC1, fun d hd hx => ?_⟩ (by omega)
        by_cases e : d = c
        · subst e
          refine ⟨?_, fun t ht => ?_⟩
          · rw [f1, fw_0]; unfold va_up; rw [if_pos rfl]
          · rw [f2 t ht, fw_0]; unfold va_cpy; rw [if_pos (by omega)]; congr 1; omega
        · obtain ⟨g1, g2⟩ := hcs3 d hd (hx.elim (fun h => Or.inl (by omega)) Or.inr)
          refine ⟨?_, fun t ht => ?_⟩
          · unfold va_up; rw [if_neg e]; exact g1
          · rw [cpy_out _ _ (by omega)]; exact g2 t ht
  · obtain ⟨hpj, ⟨hca0, hcan⟩, -, -, -, ⟨hco0, hco4⟩, hrw⟩ := hT j (by omega) (by omega)
    rw [if_neg hj0] at hnj
    obtain ⟨c, hc⟩ : ∃ c : Nat, pCa (pn j) = c := ⟨(pCa (pn j)).toNat, by omega⟩
    rw [hc] at hnj hca0 hcan
    have hrow := (kn j (by omega)).2
    refine g_aload_n q_X6_load_18 rfl ?_
    refine g_get fl_X6_119 q_X6_load_19 (by repeat first | with_reducible assumption | with_reducible exact hput_s _ _ _ | refine (hput_n _ _ (by omega)).trans ?_ | exact hput_s _ _ _ | assumption) rfl ?_
    refine g_ifnull q_X6_load_22 ?_
    refine g_iload_n q_X6_load_25 rfl ?_
    refine g_aload_n q_X6_load_26 rfl ?_
    refine g_get fl_X6_123 q_X6_load_27 (by repeat first | with_reducible assumption | with_reducible exact hput_s _ _ _ | refine (hput_n _ _ (by omega)).trans ?_ | exact hput_s _ _ _ | assumption) rfl ?_
    refine g_iushr q_X6_load_30 ?_
    refine g_iconst q_X6_load_31 ?_
    refine g_iand q_X6_load_32 ?_
    refine g_top (v' := .int (ii (bi (F.testBit c)))) (congrArg Value.int (bt_ush ⟨F, hF⟩ ⟨c, by omega⟩)) ?_
    have stepE : ∀ {α : Type} (f : PN → α) (A : α) (d : Nat), d ≠ c → fw pn f A d j = fw pn f A d (pPi (pn j)) := fun f A d hd => by
      rw [fw_s hpi (by omega) (by omega), if_neg (by rw [hc]; omega)]
    have stepC : ∀ {α : Type} (f : PN → α) (A : α), fw pn f A c j = f (pn j) := fun f A => by
      rw [fw_s hpi (by omega) (by omega), if_pos hc]
    refine g_if_ne (tgt := 65) q_X6_load_33 (by decide) (bi_rg _) (fun hb => ?_) (fun hb => ?_)
    · refine g_aload_n q_X6_load_65 rfl ?_
      refine g_get fl_X6_119 q_X6_load_66 (by repeat first | with_reducible assumption | with_reducible exact hput_s _ _ _ | refine (hput_n _ _ (by omega)).trans ?_ | exact hput_s _ _ _ | assumption) rfl ?_
      refine g_astore_n (L' := [_, _, _, _]) q_X6_load_69 (by decide) rfl ?_
      refine g_goto (tgt := 18) q_X6_load_70 (by decide) ?_
      refine ih (pPi (pn j)) F τ ⟨by omega, hF, hE, P', C', q0, q1, q2, oP, oC, fun d hd => ⟨(hcs d hd).1, fun hz => ?_⟩⟩ hpj
      have hdc : d ≠ c := fun e => by rw [e, bi_t hb] at hz; cases hz
      obtain ⟨g1, g2⟩ := (hcs d hd).2 hz
      exact ⟨g1.trans (stepE _ _ d hdc), fun t ht => (g2 t ht).trans (stepE _ _ d hdc)⟩
    · have hbf := bi_f hb
      refine g_iload_n q_X6_load_36 rfl ?_
      refine g_iconst q_X6_load_37 ?_
      refine g_aload_n q_X6_load_38 rfl ?_
      refine g_get fl_X6_123 q_X6_load_39 (by repeat first | with_reducible assumption | with_reducible exact hput_s _ _ _ | refine (hput_n _ _ (by omega)).trans ?_ | exact hput_s _ _ _ | assumption) rfl ?_
      refine g_ishl q_X6_load_42 ?_
      refine g_ior q_X6_load_43 ?_
      refine g_top (v' := .int (ii ((F ||| 2 ^ c : Nat) : Int))) (congrArg Value.int (bt_or ⟨F, hF⟩ ⟨c, by omega⟩)) ?_
      refine g_istore_n (L' := [_, _, _, _]) q_X6_load_44 (by decide) rfl ?_
      refine g_aload_n q_X6_load_45 rfl ?_
      refine g_get fl_X6_24 q_X6_load_46 (by repeat first | with_reducible assumption | with_reducible exact hput_s _ _ _ | refine (hput_n _ _ (by omega)).trans ?_ | exact hput_s _ _ _ | assumption) rfl ?_
      refine g_aload_n q_X6_load_49 rfl ?_
      refine g_get fl_X6_123 q_X6_load_50 (by repeat first | with_reducible assumption | with_reducible exact hput_s _ _ _ | refine (hput_n _ _ (by omega)).trans ?_ | exact hput_s _ _ _ | assumption) rfl ?_
      refine g_aload_n q_X6_load_53 rfl ?_
      refine g_get fl_X6_126 q_X6_load_54 (by repeat first | with_reducible assumption | with_reducible exact hput_s _ _ _ | refine (hput_n _ _ (by omega)).trans ?_ | exact hput_s _ _ _ | assumption) rfl ?_
      refine g_iconst q_X6_load_57 ?_
      refine g_aload_n q_X6_load_58 rfl ?_
      refine g_get fl_X6_129 q_X6_load_59 (by repeat first | with_reducible assumption | with_reducible exact hput_s _ _ _ | refine (hput_n _ _ (by omega)).trans ?_ | exact hput_s _ _ _ | assumption) rfl ?_
      refine g_callVN (rc' := 0) (rs' := 0) (As := [_, _, _, _]) cs_X6_132 q_X6_load_62 (sp_put hΓ q0 q1 q2 c (ad j + 1) 0 41 (pRw (pn j)) (pCo (pn j)) (by omega) hrow (by omega)) rfl (by repeat first | with_reducible assumption | with_reducible exact hput_s _ _ _ | refine (hput_n _ _ (by omega)).trans ?_ | exact hput_s _ _ _ | assumption) rfl rfl rfl rfl (Nat.le_of_ble_eq_true rfl) (by decide) (by decide) (by decide) (fun _ _ h => h.elim) (k_rv ?_)
      have hjm := hin j (by omega)
      refine g_aload_n q_X6_load_65 rfl ?_
      refine g_get fl_X6_119 q_X6_load_66 (by repeat first | with_reducible assumption | with_reducible exact hput_s _ _ _ | refine (hput_n _ _ (by omega)).trans ?_ | exact hput_s _ _ _ | assumption) rfl ?_
      refine g_astore_n (L' := [_, _, _, _]) q_X6_load_69 (by decide) rfl ?_
      refine g_goto (tgt := 18) q_X6_load_70 (by decide) ?_
      have hF2 : F ||| 2 ^ c < 32 := Nat.or_lt_two_pow (n := 5) hF (Nat.pow_lt_pow_right (by decide) (show c < 5 by omega))
      refine ih (pPi (pn j)) (F ||| 2 ^ c) _ ⟨by omega, hF2, (hE.put ⟨by omega, by omega⟩ _).put ⟨by omega, by omega⟩ _, va_cpy (pRw (pn j)) P' 0 (41 * c) 41, va_up C' c (pCo (pn j)), (by repeat first | with_reducible assumption | with_reducible exact hput_s _ _ _ | refine (hput_n _ _ (by omega)).trans ?_ | exact hput_s _ _ _ | assumption), (by repeat first | with_reducible assumption | with_reducible exact hput_s _ _ _ | refine (hput_n _ _ (by omega)).trans ?_ | exact hput_s _ _ _ | assumption), hput_s _ _ _, okP_cpy oP hrw _ _ _, okC_up oC _ ⟨by omega, by omega⟩, fun d hd => ?_⟩ hpj
      by_cases e : d = c
      · subst e
        obtain ⟨g1, g2⟩ := (hcs d hd).2 hbf
        refine ⟨fun _ => ⟨?_, fun t ht => ?_⟩, fun hz => by simp only [nad_b] at hz; cases hz⟩
        · rw [g1, stepC]; unfold va_up; rw [if_pos rfl]
        · rw [g2 t ht, stepC, cpy_at _ _ ht]
      · refine ⟨fun hz => ?_, fun hz => ?_⟩
        · simp only [nad_o e] at hz
          obtain ⟨g1, g2⟩ := (hcs d hd).1 hz
          refine ⟨?_, fun t ht => ?_⟩
          · unfold va_up; rw [if_neg e]; exact g1
          · rw [cpy_out _ _ (by omega)]; exact g2 t ht
        · simp only [nad_o e] at hz
          obtain ⟨g1, g2⟩ := (hcs d hd).2 hz
          exact ⟨g1.trans (stepE _ _ d e), fun t ht => (g2 t ht).trans (stepE _ _ d e)⟩
end TR2

