/-! Scene.copyFrom, Acts -/
section SC2
variable {Γ : GT} {σ : AH} {g cols rows carts : Nat} {SO PL GO LE NL : Nat → Int} {lv : Nat → BitVec 64}
theorem sp_copyFrom (hΓ : Gd Γ) (hS : SCo σ g cols rows carts SO PL GO LE NL lv) {o oc orr on : Nat} {SO2 PL2 GO2 LE2 NL2 : Nat → Int} {lv2 : Nat → BitVec 64} (hO : SCo σ o oc orr on SO2 PL2 GO2 LE2 NL2 lv2) (hog : o + 6 < g ∨ g + 6 < o) : Sp Γ miX2_copyFrom 0 0 [.ref g, .ref o] σ (fun r σ' => r = none ∧ SCo σ' g oc orr on SO2 PL2 GO2 LE2 NL2 lv ∧ eqOff σ σ' (inb g 7)) noX := by
  obtain ⟨h0, h1, h2, h3, h4, h5, h6⟩ := hS
  obtain ⟨k0, k1, k2, k3, k4, k5, k6⟩ := hO
  refine Sp_of (L := [_, _]) hΓ (by decide +kernel) rfl (Nat.le_of_ble_eq_true rfl) rfl ?_
  refine g_aload_n q_X2_copyFrom_0 rfl ?_
  refine g_aload_n q_X2_copyFrom_1 rfl ?_
  refine g_get fl_X2_9 q_X2_copyFrom_2 (by repeat first | with_reducible assumption | with_reducible exact hput_s _ _ _ | refine (hput_n _ _ (by omega)).trans ?_ | exact hput_s _ _ _ | assumption) rfl ?_
  refine g_put fp_X2_9 q_X2_copyFrom_5 (by repeat first | with_reducible assumption | with_reducible exact hput_s _ _ _ | refine (hput_n _ _ (by omega)).trans ?_ | exact hput_s _ _ _ | assumption) rfl rfl ?_
  refine g_aload_n q_X2_copyFrom_8 rfl ?_
  refine g_aload_n q_X2_copyFrom_9 rfl ?_
  refine g_get fl_X2_15 q_X2_copyFrom_10 (by repeat first | with_reducible assumption | with_reducible exact hput_s _ _ _ | refine (hput_n _ _ (by omega)).trans ?_ | exact hput_s _ _ _ | assumption) rfl ?_
  refine g_put fp_X2_15 q_X2_copyFrom_13 (by repeat first | with_reducible assumption | with_reducible exact hput_s _ _ _ | refine (hput_n _ _ (by omega)).trans ?_ | exact hput_s _ _ _ | assumption) rfl rfl ?_
  refine g_aload_n q_X2_copyFrom_16 rfl ?_
  refine g_aload_n q_X2_copyFrom_17 rfl ?_
  refine g_get fl_X2_22 q_X2_copyFrom_18 (by repeat first | with_reducible assumption | with_reducible exact hput_s _ _ _ | refine (hput_n _ _ (by omega)).trans ?_ | exact hput_s _ _ _ | assumption) rfl ?_
  refine g_put fp_X2_22 q_X2_copyFrom_21 (by repeat first | with_reducible assumption | with_reducible exact hput_s _ _ _ | refine (hput_n _ _ (by omega)).trans ?_ | exact hput_s _ _ _ | assumption) rfl rfl ?_
  refine g_aload_n q_X2_copyFrom_24 rfl ?_
  refine g_get fl_X2_18 q_X2_copyFrom_25 (by repeat first | with_reducible assumption | with_reducible exact hput_s _ _ _ | refine (hput_n _ _ (by omega)).trans ?_ | exact hput_s _ _ _ | assumption) rfl ?_
  refine g_iconst q_X2_copyFrom_28 ?_
  refine g_aload_n q_X2_copyFrom_29 rfl ?_
  refine g_get fl_X2_18 q_X2_copyFrom_30 (by repeat first | with_reducible assumption | with_reducible exact hput_s _ _ _ | refine (hput_n _ _ (by omega)).trans ?_ | exact hput_s _ _ _ | assumption) rfl ?_
  refine g_iconst q_X2_copyFrom_33 ?_
  refine g_bipush q_X2_copyFrom_34 bp_36 ?_
  refine g_copy lk_X2_47 q_X2_copyFrom_36 (by decide) (Nat.le_of_ble_eq_true rfl) (by repeat first | with_reducible assumption | with_reducible exact hput_s _ _ _ | refine (hput_n _ _ (by omega)).trans ?_ | exact hput_s _ _ _ | assumption) (by repeat first | with_reducible assumption | with_reducible exact hput_s _ _ _ | refine (hput_n _ _ (by omega)).trans ?_ | exact hput_s _ _ _ | assumption) (by omega) (by omega) (by omega) (by omega) (by omega) ?_
  refine g_repI (f' := SO2) (hput_s _ _ _) (fun j hj => by rw [show (0 : Int).toNat = 0 from rfl, show (36 : Int).toNat = 36 from rfl]; have := cpy_at SO2 SO (st := 0) hj; rw [Nat.zero_add] at this; exact this) ?_
  rw [hput_hput]
  refine g_aload_n q_X2_copyFrom_39 rfl ?_
  refine g_get fl_X2_25 q_X2_copyFrom_40 (by repeat first | with_reducible assumption | with_reducible exact hput_s _ _ _ | refine (hput_n _ _ (by omega)).trans ?_ | exact hput_s _ _ _ | assumption) rfl ?_
  refine g_iconst q_X2_copyFrom_43 ?_
  refine g_aload_n q_X2_copyFrom_44 rfl ?_
  refine g_get fl_X2_25 q_X2_copyFrom_45 (by repeat first | with_reducible assumption | with_reducible exact hput_s _ _ _ | refine (hput_n _ _ (by omega)).trans ?_ | exact hput_s _ _ _ | assumption) rfl ?_
  refine g_iconst q_X2_copyFrom_48 ?_
  refine g_iconst q_X2_copyFrom_49 ?_
  refine g_copy lk_X2_47 q_X2_copyFrom_50 (by decide) (Nat.le_of_ble_eq_true rfl) (by repeat first | with_reducible assumption | with_reducible exact hput_s _ _ _ | refine (hput_n _ _ (by omega)).trans ?_ | exact hput_s _ _ _ | assumption) (by repeat first | with_reducible assumption | with_reducible exact hput_s _ _ _ | refine (hput_n _ _ (by omega)).trans ?_ | exact hput_s _ _ _ | assumption) (by omega) (by omega) (by omega) (by omega) (by omega) ?_
  refine g_repI (f' := PL2) (hput_s _ _ _) (fun j hj => by rw [show (0 : Int).toNat = 0 from rfl, show (5 : Int).toNat = 5 from rfl]; have := cpy_at PL2 PL (st := 0) hj; rw [Nat.zero_add] at this; exact this) ?_
  rw [hput_hput]
  refine g_aload_n q_X2_copyFrom_53 rfl ?_
  refine g_get fl_X2_28 q_X2_copyFrom_54 (by repeat first | with_reducible assumption | with_reducible exact hput_s _ _ _ | refine (hput_n _ _ (by omega)).trans ?_ | exact hput_s _ _ _ | assumption) rfl ?_
  refine g_iconst q_X2_copyFrom_57 ?_
  refine g_aload_n q_X2_copyFrom_58 rfl ?_
  refine g_get fl_X2_28 q_X2_copyFrom_59 (by repeat first | with_reducible assumption | with_reducible exact hput_s _ _ _ | refine (hput_n _ _ (by omega)).trans ?_ | exact hput_s _ _ _ | assumption) rfl ?_
  refine g_iconst q_X2_copyFrom_62 ?_
  refine g_iconst q_X2_copyFrom_63 ?_
  refine g_copy lk_X2_47 q_X2_copyFrom_64 (by decide) (Nat.le_of_ble_eq_true rfl) (by repeat first | with_reducible assumption | with_reducible exact hput_s _ _ _ | refine (hput_n _ _ (by omega)).trans ?_ | exact hput_s _ _ _ | assumption) (by repeat first | with_reducible assumption | with_reducible exact hput_s _ _ _ | refine (hput_n _ _ (by omega)).trans ?_ | exact hput_s _ _ _ | assumption) (by omega) (by omega) (by omega) (by omega) (by omega) ?_
  refine g_repI (f' := GO2) (hput_s _ _ _) (fun j hj => by rw [show (0 : Int).toNat = 0 from rfl, show (5 : Int).toNat = 5 from rfl]; have := cpy_at GO2 GO (st := 0) hj; rw [Nat.zero_add] at this; exact this) ?_
  rw [hput_hput]
  refine g_aload_n q_X2_copyFrom_67 rfl ?_
  refine g_get fl_X2_31 q_X2_copyFrom_68 (by repeat first | with_reducible assumption | with_reducible exact hput_s _ _ _ | refine (hput_n _ _ (by omega)).trans ?_ | exact hput_s _ _ _ | assumption) rfl ?_
  refine g_iconst q_X2_copyFrom_71 ?_
  refine g_aload_n q_X2_copyFrom_72 rfl ?_
  refine g_get fl_X2_31 q_X2_copyFrom_73 (by repeat first | with_reducible assumption | with_reducible exact hput_s _ _ _ | refine (hput_n _ _ (by omega)).trans ?_ | exact hput_s _ _ _ | assumption) rfl ?_
  refine g_iconst q_X2_copyFrom_76 ?_
  refine g_bipush q_X2_copyFrom_77 bp_30 ?_
  refine g_copy lk_X2_47 q_X2_copyFrom_79 (by decide) (Nat.le_of_ble_eq_true rfl) (by repeat first | with_reducible assumption | with_reducible exact hput_s _ _ _ | refine (hput_n _ _ (by omega)).trans ?_ | exact hput_s _ _ _ | assumption) (by repeat first | with_reducible assumption | with_reducible exact hput_s _ _ _ | refine (hput_n _ _ (by omega)).trans ?_ | exact hput_s _ _ _ | assumption) (by omega) (by omega) (by omega) (by omega) (by omega) ?_
  refine g_repI (f' := LE2) (hput_s _ _ _) (fun j hj => by rw [show (0 : Int).toNat = 0 from rfl, show (30 : Int).toNat = 30 from rfl]; have := cpy_at LE2 LE (st := 0) hj; rw [Nat.zero_add] at this; exact this) ?_
  rw [hput_hput]
  refine g_aload_n q_X2_copyFrom_82 rfl ?_
  refine g_get fl_X2_34 q_X2_copyFrom_83 (by repeat first | with_reducible assumption | with_reducible exact hput_s _ _ _ | refine (hput_n _ _ (by omega)).trans ?_ | exact hput_s _ _ _ | assumption) rfl ?_
  refine g_iconst q_X2_copyFrom_86 ?_
  refine g_aload_n q_X2_copyFrom_87 rfl ?_
  refine g_get fl_X2_34 q_X2_copyFrom_88 (by repeat first | with_reducible assumption | with_reducible exact hput_s _ _ _ | refine (hput_n _ _ (by omega)).trans ?_ | exact hput_s _ _ _ | assumption) rfl ?_
  refine g_iconst q_X2_copyFrom_91 ?_
  refine g_iconst q_X2_copyFrom_92 ?_
  refine g_copy lk_X2_47 q_X2_copyFrom_93 (by decide) (Nat.le_of_ble_eq_true rfl) (by repeat first | with_reducible assumption | with_reducible exact hput_s _ _ _ | refine (hput_n _ _ (by omega)).trans ?_ | exact hput_s _ _ _ | assumption) (by repeat first | with_reducible assumption | with_reducible exact hput_s _ _ _ | refine (hput_n _ _ (by omega)).trans ?_ | exact hput_s _ _ _ | assumption) (by omega) (by omega) (by omega) (by omega) (by omega) ?_
  refine g_repI (f' := NL2) (hput_s _ _ _) (fun j hj => by rw [show (0 : Int).toNat = 0 from rfl, show (5 : Int).toNat = 5 from rfl]; have := cpy_at NL2 NL (st := 0) hj; rw [Nat.zero_add] at this; exact this) ?_
  rw [hput_hput]
  refine g_return q_X2_copyFrom_96.1 rfl ?_
  refine ⟨rfl, ⟨(by repeat first | with_reducible assumption | with_reducible exact hput_s _ _ _ | refine (hput_n _ _ (by omega)).trans ?_ | exact hput_s _ _ _ | assumption), (by repeat first | with_reducible assumption | with_reducible exact hput_s _ _ _ | refine (hput_n _ _ (by omega)).trans ?_ | exact hput_s _ _ _ | assumption), (by repeat first | with_reducible assumption | with_reducible exact hput_s _ _ _ | refine (hput_n _ _ (by omega)).trans ?_ | exact hput_s _ _ _ | assumption), (by repeat first | with_reducible assumption | with_reducible exact hput_s _ _ _ | refine (hput_n _ _ (by omega)).trans ?_ | exact hput_s _ _ _ | assumption), (by repeat first | with_reducible assumption | with_reducible exact hput_s _ _ _ | refine (hput_n _ _ (by omega)).trans ?_ | exact hput_s _ _ _ | assumption), (by repeat first | with_reducible assumption | with_reducible exact hput_s _ _ _ | refine (hput_n _ _ (by omega)).trans ?_ | exact hput_s _ _ _ | assumption), (by repeat first | with_reducible assumption | with_reducible exact hput_s _ _ _ | refine (hput_n _ _ (by omega)).trans ?_ | exact hput_s _ _ _ | assumption)⟩, ((((((((eqOff.rfl'.put ⟨by omega, by omega⟩ _).put ⟨by omega, by omega⟩ _).put ⟨by omega, by omega⟩ _).put ⟨by omega, by omega⟩ _).put ⟨by omega, by omega⟩ _).put ⟨by omega, by omega⟩ _).put ⟨by omega, by omega⟩ _).put ⟨by omega, by omega⟩ _)⟩
end SC2
/-! Acts: object a, rows a + 1, a + 2, a + 3 of sixteen -/
abbrev aco (a n : Nat) : AE := ob 0 [.ref (a + 1), .ref (a + 2), .ref (a + 3), .int (ii n)]
def ACo (σ : AH) (a : Nat) (l : List (Int × Int × Int)) : Prop := l.length ≤ 16 ∧ σ.2 a = some (aco a l.length) ∧ ∃ K H B : Nat → Int, σ.2 (a + 1) = some (ai 16 K) ∧ σ.2 (a + 2) = some (ai 16 H) ∧ σ.2 (a + 3) = some (ai 16 B) ∧ ∀ i q, l[i]? = some q → K i = q.1 ∧ H i = q.2.1 ∧ B i = q.2.2
theorem ACo.keep {σ σ' : AH} {a : Nat} {l : List (Int × Int × Int)} (h : ACo σ a l) (e : ∀ b, inb a 4 b → σ'.2 b = σ.2 b) : ACo σ' a l := by
  obtain ⟨h9, h0, K, H, B, h1, h2, h3, h4⟩ := h
  exact ⟨h9, (e _ ⟨by omega, by omega⟩).trans h0, K, H, B, (e _ ⟨by omega, by omega⟩).trans h1, (e _ ⟨by omega, by omega⟩).trans h2, (e _ ⟨by omega, by omega⟩).trans h3, h4⟩
def kpl (l : List (Int × Int × Int)) (q : Int × Int × Int) : List (Int × Int × Int) := (if l.length = 16 then l.tail else l) ++ [q]
section AC
variable {Γ : GT} {σ : AH} {a : Nat} {l : List (Int × Int × Int)}
theorem sp_acts_clear (hΓ : Gd Γ) (hA : ACo σ a l) : Sp Γ miX0_clear 0 0 [.ref a] σ (fun r σ' => r = none ∧ ACo σ' a [] ∧ eqOff σ σ' (inb a 4)) noX := by
  obtain ⟨h9, h0, K, H, B, h1, h2, h3, h4⟩ := hA
  refine Sp_of (L := [_]) hΓ (by decide +kernel) rfl (Nat.le_of_ble_eq_true rfl) rfl ?_
  refine g_aload_n q_X0_clear_0 rfl ?_
  refine g_iconst q_X0_clear_1 ?_
  refine g_put fp_X0_21 q_X0_clear_2 (by repeat first | with_reducible assumption | with_reducible exact hput_s _ _ _ | refine (hput_n _ _ (by omega)).trans ?_ | exact hput_s _ _ _ | assumption) rfl rfl ?_
  refine g_return q_X0_clear_5.1 rfl ?_
  exact ⟨rfl, ⟨Nat.zero_le _, hput_s _ _ _, K, H, B, (by repeat first | with_reducible assumption | with_reducible exact hput_s _ _ _ | refine (hput_n _ _ (by omega)).trans ?_ | exact hput_s _ _ _ | assumption), (by repeat first | with_reducible assumption | with_reducible exact hput_s _ _ _ | refine (hput_n _ _ (by omega)).trans ?_ | exact hput_s _ _ _ | assumption), (by repeat first | with_reducible assumption | with_reducible exact hput_s _ _ _ | refine (hput_n _ _ (by omega)).trans ?_ | exact hput_s _ _ _ | assumption), fun i q h => by simp at h⟩, eqOff.rfl'.put ⟨by omega, by omega⟩ _⟩
theorem sp_keep (hΓ : Gd Γ) (hA : ACo σ a l) (x y z : Int) : Sp Γ miX0_keep 0 0 [.ref a, .int (ii x), .int (ii y), .int (ii z)] σ (fun r σ' => r = none ∧ ACo σ' a (kpl l (x, y, z)) ∧ eqOff σ σ' (inb a 4)) noX := by
  obtain ⟨h9, h0, K, H, B, h1, h2, h3, h4⟩ := hA
  have put : ∀ (τ : AH) (l2 : List (Int × Int × Int)) (K H B : Nat → Int), l2.length < 16 → τ.2 a = some (aco a l2.length) → τ.2 (a + 1) = some (ai 16 K) → τ.2 (a + 2) = some (ai 16 H) → τ.2 (a + 3) = some (ai 16 B) → (∀ i q, l2[i]? = some q → K i = q.1 ∧ H i = q.2.1 ∧ B i = q.2.2) → eqOff σ τ (inb a 4) → l2 ++ [(x, y, z)] = kpl l (x, y, z) → G Γ miX0_keep cX0_keep (fun r σ' => r = none ∧ ACo σ' a (kpl l (x, y, z)) ∧ eqOff σ σ' (inb a 4)) noX 0 0 64 [some (.ref a), some (.int (ii x)), some (.int (ii y)), some (.int (ii z))] [] τ := by
    intro τ l2 K H B q9 q0 q1 q2 q3 q4 hE hl
    refine g_aload_n q_X0_keep_64 rfl ?_
    refine g_get fl_X0_9 q_X0_keep_65 (by repeat first | with_reducible assumption | with_reducible exact hput_s _ _ _ | refine (hput_n _ _ (by omega)).trans ?_ | exact hput_s _ _ _ | assumption) rfl ?_
    refine g_aload_n q_X0_keep_68 rfl ?_
    refine g_get fl_X0_21 q_X0_keep_69 (by repeat first | with_reducible assumption | with_reducible exact hput_s _ _ _ | refine (hput_n _ _ (by omega)).trans ?_ | exact hput_s _ _ _ | assumption) rfl ?_
    refine g_iload_n q_X0_keep_72 rfl ?_
    refine g_iastore q_X0_keep_73 (by repeat first | with_reducible assumption | with_reducible exact hput_s _ _ _ | refine (hput_n _ _ (by omega)).trans ?_ | exact hput_s _ _ _ | assumption) (by omega) (by omega) ?_
    refine g_aload_n q_X0_keep_74 rfl ?_
    refine g_get fl_X0_15 q_X0_keep_75 (by repeat first | with_reducible assumption | with_reducible exact hput_s _ _ _ | refine (hput_n _ _ (by omega)).trans ?_ | exact hput_s _ _ _ | assumption) rfl ?_
    refine g_aload_n q_X0_keep_78 rfl ?_
    refine g_get fl_X0_21 q_X0_keep_79 (by repeat first | with_reducible assumption | with_reducible exact hput_s _ _ _ | refine (hput_n _ _ (by omega)).trans ?_ | exact hput_s _ _ _ | assumption) rfl ?_
    refine g_iload_n q_X0_keep_82 rfl ?_
    refine g_iastore q_X0_keep_83 (by repeat first | with_reducible assumption | with_reducible exact hput_s _ _ _ | refine (hput_n _ _ (by omega)).trans ?_ | exact hput_s _ _ _ | assumption) (by omega) (by omega) ?_
    refine g_aload_n q_X0_keep_84 rfl ?_
    refine g_get fl_X0_18 q_X0_keep_85 (by repeat first | with_reducible assumption | with_reducible exact hput_s _ _ _ | refine (hput_n _ _ (by omega)).trans ?_ | exact hput_s _ _ _ | assumption) rfl ?_
    refine g_aload_n q_X0_keep_88 rfl ?_
    refine g_get fl_X0_21 q_X0_keep_89 (by repeat first | with_reducible assumption | with_reducible exact hput_s _ _ _ | refine (hput_n _ _ (by omega)).trans ?_ | exact hput_s _ _ _ | assumption) rfl ?_
    refine g_iload_n q_X0_keep_92 rfl ?_
    refine g_iastore q_X0_keep_93 (by repeat first | with_reducible assumption | with_reducible exact hput_s _ _ _ | refine (hput_n _ _ (by omega)).trans ?_ | exact hput_s _ _ _ | assumption) (by omega) (by omega) ?_
    refine g_aload_n q_X0_keep_94 rfl ?_
    refine g_dup q_X0_keep_95 rfl ?_
    refine g_get fl_X0_21 q_X0_keep_96 (by repeat first | with_reducible assumption | with_reducible exact hput_s _ _ _ | refine (hput_n _ _ (by omega)).trans ?_ | exact hput_s _ _ _ | assumption) rfl ?_
    refine g_iconst q_X0_keep_99 ?_
    refine g_iadd q_X0_keep_100 ?_
    refine g_put fp_X0_21 q_X0_keep_101 (by repeat first | with_reducible assumption | with_reducible exact hput_s _ _ _ | refine (hput_n _ _ (by omega)).trans ?_ | exact hput_s _ _ _ | assumption) rfl rfl ?_
    refine g_return q_X0_keep_104.1 rfl ?_
    refine ⟨rfl, ?_, (((hE.put ⟨by omega, by omega⟩ _).put ⟨by omega, by omega⟩ _).put ⟨by omega, by omega⟩ _).put ⟨by omega, by omega⟩ _⟩
    rw [← hl]
    refine ⟨by simp; omega, ?_, va_up K l2.length x, va_up H l2.length y, va_up B l2.length z, (by repeat first | with_reducible assumption | with_reducible exact hput_s _ _ _ | refine (hput_n _ _ (by omega)).trans ?_ | exact hput_s _ _ _ | assumption), (by repeat first | with_reducible assumption | with_reducible exact hput_s _ _ _ | refine (hput_n _ _ (by omega)).trans ?_ | exact hput_s _ _ _ | assumption), (by repeat first | with_reducible assumption | with_reducible exact hput_s _ _ _ | refine (hput_n _ _ (by omega)).trans ?_ | exact hput_s _ _ _ | assumption), fun i q h => ?_⟩
    · rw [hput_s, List.length_append]; rfl
    · unfold va_up
      by_cases e : i = l2.length
      · subst e
        rw [List.getElem?_append_right (Nat.le_refl _), Nat.sub_self] at h
        cases h
        simp
      · have hi : i < l2.length := by
          have := (List.getElem?_eq_some_iff.mp h).1
          rw [List.length_append] at this
          simp at this
          omega
        rw [List.getElem?_append_left hi] at h
        rw [if_neg e, if_neg e, if_neg e]
        exact q4 i q h
  refine Sp_of (L := [_, _, _, _]) hΓ (by decide +kernel) rfl (Nat.le_of_ble_eq_true rfl) rfl ?_
  refine g_aload_n q_X0_keep_0 rfl ?_
  refine g_get fl_X0_21 q_X0_keep_1 (by repeat first | with_reducible assumption | with_reducible exact hput_s _ _ _ | refine (hput_n _ _ (by omega)).trans ?_ | exact hput_s _ _ _ | assumption) rfl ?_
  refine g_bipush q_X0_keep_4 bp_16 ?_
  refine g_icmp_ne (tgt := 64) q_X0_keep_6 (by decide) ⟨by omega, by omega⟩ ⟨by omega, by omega⟩ (fun hd => ?_) (fun hd => ?_)
  · exact put σ l K H B (by omega) h0 h1 h2 h3 h4 eqOff.rfl' (by unfold kpl; rw [if_neg (by omega)])
  · have hd16 : l.length = 16 := by omega
    refine g_aload_n q_X0_keep_9 rfl ?_
    refine g_get fl_X0_9 q_X0_keep_10 (by repeat first | with_reducible assumption | with_reducible exact hput_s _ _ _ | refine (hput_n _ _ (by omega)).trans ?_ | exact hput_s _ _ _ | assumption) rfl ?_
    refine g_iconst q_X0_keep_13 ?_
    refine g_aload_n q_X0_keep_14 rfl ?_
    refine g_get fl_X0_9 q_X0_keep_15 (by repeat first | with_reducible assumption | with_reducible exact hput_s _ _ _ | refine (hput_n _ _ (by omega)).trans ?_ | exact hput_s _ _ _ | assumption) rfl ?_
    refine g_iconst q_X0_keep_18 ?_
    refine g_bipush q_X0_keep_19 bp_15 ?_
    refine g_copy lk_X0_25 q_X0_keep_21 (by decide) (Nat.le_of_ble_eq_true rfl) (by repeat first | with_reducible assumption | with_reducible exact hput_s _ _ _ | refine (hput_n _ _ (by omega)).trans ?_ | exact hput_s _ _ _ | assumption) (by repeat first | with_reducible assumption | with_reducible exact hput_s _ _ _ | refine (hput_n _ _ (by omega)).trans ?_ | exact hput_s _ _ _ | assumption) (by omega) (by omega) (by omega) (by omega) (by omega) ?_
    refine g_aload_n q_X0_keep_24 rfl ?_
    refine g_get fl_X0_15 q_X0_keep_25 (by repeat first | with_reducible assumption | with_reducible exact hput_s _ _ _ | refine (hput_n _ _ (by omega)).trans ?_ | exact hput_s _ _ _ | assumption) rfl ?_
    refine g_iconst q_X0_keep_28 ?_
    refine g_aload_n q_X0_keep_29 rfl ?_
    refine g_get fl_X0_15 q_X0_keep_30 (by repeat first | with_reducible assumption | with_reducible exact hput_s _ _ _ | refine (hput_n _ _ (by omega)).trans ?_ | exact hput_s _ _ _ | assumption) rfl ?_
    refine g_iconst q_X0_keep_33 ?_
    refine g_bipush q_X0_keep_34 bp_15 ?_
    refine g_copy lk_X0_25 q_X0_keep_36 (by decide) (Nat.le_of_ble_eq_true rfl) (by repeat first | with_reducible assumption | with_reducible exact hput_s _ _ _ | refine (hput_n _ _ (by omega)).trans ?_ | exact hput_s _ _ _ | assumption) (by repeat first | with_reducible assumption | with_reducible exact hput_s _ _ _ | refine (hput_n _ _ (by omega)).trans ?_ | exact hput_s _ _ _ | assumption) (by omega) (by omega) (by omega) (by omega) (by omega) ?_
    refine g_aload_n q_X0_keep_39 rfl ?_
    refine g_get fl_X0_18 q_X0_keep_40 (by repeat first | with_reducible assumption | with_reducible exact hput_s _ _ _ | refine (hput_n _ _ (by omega)).trans ?_ | exact hput_s _ _ _ | assumption) rfl ?_
    refine g_iconst q_X0_keep_43 ?_
    refine g_aload_n q_X0_keep_44 rfl ?_
    refine g_get fl_X0_18 q_X0_keep_45 (by repeat first | with_reducible assumption | with_reducible exact hput_s _ _ _ | refine (hput_n _ _ (by omega)).trans ?_ | exact hput_s _ _ _ | assumption) rfl ?_
    refine g_iconst q_X0_keep_48 ?_
    refine g_bipush q_X0_keep_49 bp_15 ?_
    refine g_copy lk_X0_25 q_X0_keep_51 (by decide) (Nat.le_of_ble_eq_true rfl) (by repeat first | with_reducible assumption | with_reducible exact hput_s _ _ _ | refine (hput_n _ _ (by omega)).trans ?_ | exact hput_s _ _ _ | assumption) (by repeat first | with_reducible assumption | with_reducible exact hput_s _ _ _ | refine (hput_n _ _ (by omega)).trans ?_ | exact hput_s _ _ _ | assumption) (by omega) (by omega) (by omega) (by omega) (by omega) ?_
    refine g_aload_n q_X0_keep_54 rfl ?_
    refine g_dup q_X0_keep_55 rfl ?_
    refine g_get fl_X0_21 q_X0_keep_56 (by repeat first | with_reducible assumption | with_reducible exact hput_s _ _ _ | refine (hput_n _ _ (by omega)).trans ?_ | exact hput_s _ _ _ | assumption) rfl ?_
    refine g_iconst q_X0_keep_59 ?_
    refine g_isub q_X0_keep_60 ?_
    refine g_put fp_X0_21 q_X0_keep_61 (by repeat first | with_reducible assumption | with_reducible exact hput_s _ _ _ | refine (hput_n _ _ (by omega)).trans ?_ | exact hput_s _ _ _ | assumption) rfl rfl ?_
    refine put _ l.tail (va_cpy K K 1 0 15) (va_cpy H H 1 0 15) (va_cpy B B 1 0 15) (by rw [List.length_tail]; omega) ?_ (by repeat first | with_reducible assumption | with_reducible exact hput_s _ _ _ | refine (hput_n _ _ (by omega)).trans ?_ | exact hput_s _ _ _ | assumption) (by repeat first | with_reducible assumption | with_reducible exact hput_s _ _ _ | refine (hput_n _ _ (by omega)).trans ?_ | exact hput_s _ _ _ | assumption) (by repeat first | with_reducible assumption | with_reducible exact hput_s _ _ _ | refine (hput_n _ _ (by omega)).trans ?_ | exact hput_s _ _ _ | assumption) (fun i q h => ?_) ((((eqOff.rfl'.put ⟨by omega, by omega⟩ _).put ⟨by omega, by omega⟩ _).put ⟨by omega, by omega⟩ _).put ⟨by omega, by omega⟩ _) (by unfold kpl; rw [if_pos hd16])
    · rw [hput_s, List.length_tail, hd16]; rfl
    · rw [List.getElem?_tail] at h
      have hi := (List.getElem?_eq_some_iff.mp h).1
      have := h4 (i + 1) q h
      unfold va_cpy
      rw [if_pos (by omega), if_pos (by omega), if_pos (by omega), show 1 + (i - 0) = i + 1 by omega]
      exact this
theorem sp_undoLatest (hΓ : Gd Γ) {q : Int × Int × Int} (hA : ACo σ a (l ++ [q])) {g cols rows carts : Nat} {SO PL GO LE NL : Nat → Int} {lv : Nat → BitVec 64} (hS : SCo σ g cols rows carts SO PL GO LE NL lv) (hag : a + 3 < g ∨ g + 6 < a) (hq : (q.1 = 0 ∧ 0 ≤ q.2.1 ∧ q.2.1 < 36) ∨ (q.1 = 1 ∧ 0 ≤ q.2.1 ∧ q.2.1 < 5) ∨ (q.1 = 2 ∧ 0 ≤ q.2.1 ∧ q.2.1 < 5 ∧ 0 ≤ q.2.2 ∧ q.2.2 < 5)) : Sp Γ miX0_undoLatest 0 0 [.ref a, .ref g] σ (fun r σ' => r = none ∧ ACo σ' a l ∧ SCo σ' g cols rows carts (if q.1 = 0 then va_up SO q.2.1.toNat q.2.2 else SO) PL (if q.1 = 1 then va_up GO q.2.1.toNat q.2.2 else if q.1 = 2 then va_up (va_up GO q.2.1.toNat (GO q.2.2.toNat)) q.2.2.toNat (GO q.2.1.toNat) else GO) LE NL lv ∧ eqOff σ σ' (fun b => inb a 4 b ∨ inb g 7 b)) noX := by
  obtain ⟨h9, h0, K, H, B, h1, h2, h3, h4⟩ := hA
  obtain ⟨n, hn⟩ : ∃ n, n = l.length := ⟨_, rfl⟩
  have hlen : (l ++ [q]).length = n + 1 := by rw [hn]; simp
  rw [hlen] at h9 h0
  obtain ⟨e1, e2, e3⟩ := h4 n q (by rw [hn, List.getElem?_append_right (Nat.le_refl _), Nat.sub_self]; rfl)
  obtain ⟨g0, g1, g2, g3, g4, g5, g6⟩ := hS
  have hk : ((n + 1 : Nat) : Int) - 1 = (n : Int) := by omega
  have hAC : ∀ τ : AH, τ.2 a = some (aco a n) → τ.2 (a + 1) = some (ai 16 K) → τ.2 (a + 2) = some (ai 16 H) → τ.2 (a + 3) = some (ai 16 B) → ACo τ a l := fun τ k0 k1 k2 k3 => ⟨by omega, by rw [← hn]; exact k0, K, H, B, k1, k2, k3, fun i r h => h4 i r (by rw [List.getElem?_append_left (List.getElem?_eq_some_iff.mp h).1]; exact h)⟩
  refine Sp_of (L := [_, _]) hΓ (by decide +kernel) rfl (Nat.le_of_ble_eq_true rfl) rfl ?_
  refine g_aload_n q_X0_undoLatest_0 rfl ?_
  refine g_get fl_X0_21 q_X0_undoLatest_1 (by repeat first | with_reducible assumption | with_reducible exact hput_s _ _ _ | refine (hput_n _ _ (by omega)).trans ?_ | exact hput_s _ _ _ | assumption) rfl ?_
  refine g_if_ne (tgt := 8) q_X0_undoLatest_4 (by decide) ⟨by omega, by omega⟩ (fun hd => ?_) (fun hd => ?_)
  · refine g_aload_n q_X0_undoLatest_8 rfl ?_
    refine g_dup q_X0_undoLatest_9 rfl ?_
    refine g_get fl_X0_21 q_X0_undoLatest_10 (by repeat first | with_reducible assumption | with_reducible exact hput_s _ _ _ | refine (hput_n _ _ (by omega)).trans ?_ | exact hput_s _ _ _ | assumption) rfl ?_
    refine g_iconst q_X0_undoLatest_13 ?_
    refine g_isub q_X0_undoLatest_14 ?_
    refine g_topi (b := ((n : Nat) : Int)) (by exact hk) ?_
    refine g_put fp_X0_21 q_X0_undoLatest_15 (by repeat first | with_reducible assumption | with_reducible exact hput_s _ _ _ | refine (hput_n _ _ (by omega)).trans ?_ | exact hput_s _ _ _ | assumption) rfl rfl ?_
    refine g_aload_n q_X0_undoLatest_18 rfl ?_
    refine g_get fl_X0_9 q_X0_undoLatest_19 (by repeat first | with_reducible assumption | with_reducible exact hput_s _ _ _ | refine (hput_n _ _ (by omega)).trans ?_ | exact hput_s _ _ _ | assumption) rfl ?_
    refine g_aload_n q_X0_undoLatest_22 rfl ?_
    refine g_get fl_X0_21 q_X0_undoLatest_23 (by repeat first | with_reducible assumption | with_reducible exact hput_s _ _ _ | refine (hput_n _ _ (by omega)).trans ?_ | exact hput_s _ _ _ | assumption) rfl ?_
    refine g_iaload q_X0_undoLatest_26 (by repeat first | with_reducible assumption | with_reducible exact hput_s _ _ _ | refine (hput_n _ _ (by omega)).trans ?_ | exact hput_s _ _ _ | assumption) (by omega) (by omega) ?_
    refine g_topi (b := q.1) (by exact e1) ?_
    rcases hq with ⟨hz, hc1, hc2⟩ | ⟨hz, hc1, hc2⟩ | ⟨hz, hc1, hc2, hc3, hc4⟩
    · refine g_topi (b := 0) hz ?_
      refine g_lsw (off := 25) (tgt := 52) q_X0_undoLatest_27 ⟨by decide, by decide⟩ (by decide) rfl (by decide) ?_
      refine g_aload_n q_X0_undoLatest_52 rfl ?_
      refine g_get fl_X0_31 q_X0_undoLatest_53 (by repeat first | with_reducible assumption | with_reducible exact hput_s _ _ _ | refine (hput_n _ _ (by omega)).trans ?_ | exact hput_s _ _ _ | assumption) rfl ?_
      refine g_aload_n q_X0_undoLatest_56 rfl ?_
      refine g_get fl_X0_15 q_X0_undoLatest_57 (by repeat first | with_reducible assumption | with_reducible exact hput_s _ _ _ | refine (hput_n _ _ (by omega)).trans ?_ | exact hput_s _ _ _ | assumption) rfl ?_
      refine g_aload_n q_X0_undoLatest_60 rfl ?_
      refine g_get fl_X0_21 q_X0_undoLatest_61 (by repeat first | with_reducible assumption | with_reducible exact hput_s _ _ _ | refine (hput_n _ _ (by omega)).trans ?_ | exact hput_s _ _ _ | assumption) rfl ?_
      refine g_iaload q_X0_undoLatest_64 (by repeat first | with_reducible assumption | with_reducible exact hput_s _ _ _ | refine (hput_n _ _ (by omega)).trans ?_ | exact hput_s _ _ _ | assumption) (by omega) (by omega) ?_
      refine g_topi (b := q.2.1) (by exact e2) ?_
      refine g_aload_n q_X0_undoLatest_65 rfl ?_
      refine g_get fl_X0_18 q_X0_undoLatest_66 (by repeat first | with_reducible assumption | with_reducible exact hput_s _ _ _ | refine (hput_n _ _ (by omega)).trans ?_ | exact hput_s _ _ _ | assumption) rfl ?_
      refine g_aload_n q_X0_undoLatest_69 rfl ?_
      refine g_get fl_X0_21 q_X0_undoLatest_70 (by repeat first | with_reducible assumption | with_reducible exact hput_s _ _ _ | refine (hput_n _ _ (by omega)).trans ?_ | exact hput_s _ _ _ | assumption) rfl ?_
      refine g_iaload q_X0_undoLatest_73 (by repeat first | with_reducible assumption | with_reducible exact hput_s _ _ _ | refine (hput_n _ _ (by omega)).trans ?_ | exact hput_s _ _ _ | assumption) (by omega) (by omega) ?_
      refine g_topi (b := q.2.2) (by exact e3) ?_
      refine g_iastore q_X0_undoLatest_74 (by repeat first | with_reducible assumption | with_reducible exact hput_s _ _ _ | refine (hput_n _ _ (by omega)).trans ?_ | exact hput_s _ _ _ | assumption) (by omega) (by omega) ?_
      refine g_goto (tgt := 126) q_X0_undoLatest_75 (by decide) ?_
      refine g_return q_X0_undoLatest_126.1 rfl ?_
      rw [hz]
      refine ⟨rfl, hAC _ (by repeat first | with_reducible assumption | with_reducible exact hput_s _ _ _ | refine (hput_n _ _ (by omega)).trans ?_ | exact hput_s _ _ _ | assumption) (by repeat first | with_reducible assumption | with_reducible exact hput_s _ _ _ | refine (hput_n _ _ (by omega)).trans ?_ | exact hput_s _ _ _ | assumption) (by repeat first | with_reducible assumption | with_reducible exact hput_s _ _ _ | refine (hput_n _ _ (by omega)).trans ?_ | exact hput_s _ _ _ | assumption) (by repeat first | with_reducible assumption | with_reducible exact hput_s _ _ _ | refine (hput_n _ _ (by omega)).trans ?_ | exact hput_s _ _ _ | assumption), ⟨(by repeat first | with_reducible assumption | with_reducible exact hput_s _ _ _ | refine (hput_n _ _ (by omega)).trans ?_ | exact hput_s _ _ _ | assumption), (by repeat first | with_reducible assumption | with_reducible exact hput_s _ _ _ | refine (hput_n _ _ (by omega)).trans ?_ | exact hput_s _ _ _ | assumption), (by repeat first | with_reducible assumption | with_reducible exact hput_s _ _ _ | refine (hput_n _ _ (by omega)).trans ?_ | exact hput_s _ _ _ | assumption), (by repeat first | with_reducible assumption | with_reducible exact hput_s _ _ _ | refine (hput_n _ _ (by omega)).trans ?_ | exact hput_s _ _ _ | assumption), (by repeat first | with_reducible assumption | with_reducible exact hput_s _ _ _ | refine (hput_n _ _ (by omega)).trans ?_ | exact hput_s _ _ _ | assumption), (by repeat first | with_reducible assumption | with_reducible exact hput_s _ _ _ | refine (hput_n _ _ (by omega)).trans ?_ | exact hput_s _ _ _ | assumption), (by repeat first | with_reducible assumption | with_reducible exact hput_s _ _ _ | refine (hput_n _ _ (by omega)).trans ?_ | exact hput_s _ _ _ | assumption)⟩, (eqOff.rfl'.put (Or.inl ⟨by omega, by omega⟩) _).put (Or.inr ⟨by omega, by omega⟩) _⟩
    · refine g_topi (b := 1) hz ?_
      refine g_lsw (off := 51) (tgt := 78) q_X0_undoLatest_27 ⟨by decide, by decide⟩ (by decide) rfl (by decide) ?_
      refine g_aload_n q_X0_undoLatest_78 rfl ?_
      refine g_get fl_X0_36 q_X0_undoLatest_79 (by repeat first | with_reducible assumption | with_reducible exact hput_s _ _ _ | refine (hput_n _ _ (by omega)).trans ?_ | exact hput_s _ _ _ | assumption) rfl ?_
      refine g_aload_n q_X0_undoLatest_82 rfl ?_
      refine g_get fl_X0_15 q_X0_undoLatest_83 (by repeat first | with_reducible assumption | with_reducible exact hput_s _ _ _ | refine (hput_n _ _ (by omega)).trans ?_ | exact hput_s _ _ _ | assumption) rfl ?_
      refine g_aload_n q_X0_undoLatest_86 rfl ?_
      refine g_get fl_X0_21 q_X0_undoLatest_87 (by repeat first | with_reducible assumption | with_reducible exact hput_s _ _ _ | refine (hput_n _ _ (by omega)).trans ?_ | exact hput_s _ _ _ | assumption) rfl ?_
      refine g_iaload q_X0_undoLatest_90 (by repeat first | with_reducible assumption | with_reducible exact hput_s _ _ _ | refine (hput_n _ _ (by omega)).trans ?_ | exact hput_s _ _ _ | assumption) (by omega) (by omega) ?_
      refine g_topi (b := q.2.1) (by exact e2) ?_
      refine g_aload_n q_X0_undoLatest_91 rfl ?_
      refine g_get fl_X0_18 q_X0_undoLatest_92 (by repeat first | with_reducible assumption | with_reducible exact hput_s _ _ _ | refine (hput_n _ _ (by omega)).trans ?_ | exact hput_s _ _ _ | assumption) rfl ?_
      refine g_aload_n q_X0_undoLatest_95 rfl ?_
      refine g_get fl_X0_21 q_X0_undoLatest_96 (by repeat first | with_reducible assumption | with_reducible exact hput_s _ _ _ | refine (hput_n _ _ (by omega)).trans ?_ | exact hput_s _ _ _ | assumption) rfl ?_
      refine g_iaload q_X0_undoLatest_99 (by repeat first | with_reducible assumption | with_reducible exact hput_s _ _ _ | refine (hput_n _ _ (by omega)).trans ?_ | exact hput_s _ _ _ | assumption) (by omega) (by omega) ?_
      refine g_topi (b := q.2.2) (by exact e3) ?_
      refine g_iastore q_X0_undoLatest_100 (by repeat first | with_reducible assumption | with_reducible exact hput_s _ _ _ | refine (hput_n _ _ (by omega)).trans ?_ | exact hput_s _ _ _ | assumption) (by omega) (by omega) ?_
      refine g_goto (tgt := 126) q_X0_undoLatest_101 (by decide) ?_
      refine g_return q_X0_undoLatest_126.1 rfl ?_
      rw [hz]
      refine ⟨rfl, hAC _ (by repeat first | with_reducible assumption | with_reducible exact hput_s _ _ _ | refine (hput_n _ _ (by omega)).trans ?_ | exact hput_s _ _ _ | assumption) (by repeat first | with_reducible assumption | with_reducible exact hput_s _ _ _ | refine (hput_n _ _ (by omega)).trans ?_ | exact hput_s _ _ _ | assumption) (by repeat first | with_reducible assumption | with_reducible exact hput_s _ _ _ | refine (hput_n _ _ (by omega)).trans ?_ | exact hput_s _ _ _ | assumption) (by repeat first | with_reducible assumption | with_reducible exact hput_s _ _ _ | refine (hput_n _ _ (by omega)).trans ?_ | exact hput_s _ _ _ | assumption), ⟨(by repeat first | with_reducible assumption | with_reducible exact hput_s _ _ _ | refine (hput_n _ _ (by omega)).trans ?_ | exact hput_s _ _ _ | assumption), (by repeat first | with_reducible assumption | with_reducible exact hput_s _ _ _ | refine (hput_n _ _ (by omega)).trans ?_ | exact hput_s _ _ _ | assumption), (by repeat first | with_reducible assumption | with_reducible exact hput_s _ _ _ | refine (hput_n _ _ (by omega)).trans ?_ | exact hput_s _ _ _ | assumption), (by repeat first | with_reducible assumption | with_reducible exact hput_s _ _ _ | refine (hput_n _ _ (by omega)).trans ?_ | exact hput_s _ _ _ | assumption), (by repeat first | with_reducible assumption | with_reducible exact hput_s _ _ _ | refine (hput_n _ _ (by omega)).trans ?_ | exact hput_s _ _ _ | assumption), (by repeat first | with_reducible assumption | with_reducible exact hput_s _ _ _ | refine (hput_n _ _ (by omega)).trans ?_ | exact hput_s _ _ _ | assumption), (by repeat first | with_reducible assumption | with_reducible exact hput_s _ _ _ | refine (hput_n _ _ (by omega)).trans ?_ | exact hput_s _ _ _ | assumption)⟩, (eqOff.rfl'.put (Or.inl ⟨by omega, by omega⟩) _).put (Or.inr ⟨by omega, by omega⟩) _⟩
    · refine g_topi (b := 2) hz ?_
      refine g_lsw (off := 77) (tgt := 104) q_X0_undoLatest_27 ⟨by decide, by decide⟩ (by decide) rfl (by decide) ?_
      obtain ⟨u, hu⟩ : ∃ u : Nat, q.2.1 = u := ⟨q.2.1.toNat, by omega⟩
      obtain ⟨v, hv⟩ : ∃ v : Nat, q.2.2 = v := ⟨q.2.2.toNat, by omega⟩
      refine g_aload_n q_X0_undoLatest_104 rfl ?_
      refine g_aload_n q_X0_undoLatest_105 rfl ?_
      refine g_get fl_X0_15 q_X0_undoLatest_106 (by repeat first | with_reducible assumption | with_reducible exact hput_s _ _ _ | refine (hput_n _ _ (by omega)).trans ?_ | exact hput_s _ _ _ | assumption) rfl ?_
      refine g_aload_n q_X0_undoLatest_109 rfl ?_
      refine g_get fl_X0_21 q_X0_undoLatest_110 (by repeat first | with_reducible assumption | with_reducible exact hput_s _ _ _ | refine (hput_n _ _ (by omega)).trans ?_ | exact hput_s _ _ _ | assumption) rfl ?_
      refine g_iaload q_X0_undoLatest_113 (by repeat first | with_reducible assumption | with_reducible exact hput_s _ _ _ | refine (hput_n _ _ (by omega)).trans ?_ | exact hput_s _ _ _ | assumption) (by omega) (by omega) ?_
      refine g_topi (b := (u : Int)) (by exact e2.trans hu) ?_
      refine g_aload_n q_X0_undoLatest_114 rfl ?_
      refine g_get fl_X0_18 q_X0_undoLatest_115 (by repeat first | with_reducible assumption | with_reducible exact hput_s _ _ _ | refine (hput_n _ _ (by omega)).trans ?_ | exact hput_s _ _ _ | assumption) rfl ?_
      refine g_aload_n q_X0_undoLatest_118 rfl ?_
      refine g_get fl_X0_21 q_X0_undoLatest_119 (by repeat first | with_reducible assumption | with_reducible exact hput_s _ _ _ | refine (hput_n _ _ (by omega)).trans ?_ | exact hput_s _ _ _ | assumption) rfl ?_
      refine g_iaload q_X0_undoLatest_122 (by repeat first | with_reducible assumption | with_reducible exact hput_s _ _ _ | refine (hput_n _ _ (by omega)).trans ?_ | exact hput_s _ _ _ | assumption) (by omega) (by omega) ?_
      refine g_topi (b := (v : Int)) (by exact e3.trans hv) ?_
      refine g_callVN (rc' := 0) (rs' := 0) (As := [_, _]) cs_X0_39 q_X0_undoLatest_123 (sp_swapGoals hΓ ((hput_n _ _ (by omega)).trans g0) ((hput_n _ _ (by omega)).trans g3) u v (by omega) (by omega)) rfl (by repeat first | with_reducible assumption | with_reducible exact hput_s _ _ _ | refine (hput_n _ _ (by omega)).trans ?_ | exact hput_s _ _ _ | assumption) rfl rfl rfl rfl (Nat.le_of_ble_eq_true rfl) (by decide) (by decide) (by decide) (fun _ _ h => h.elim) (k_rv ?_)
      refine g_return q_X0_undoLatest_126.1 rfl ?_
      rw [hz, hu, hv]
      refine ⟨rfl, hAC _ (by repeat first | with_reducible assumption | with_reducible exact hput_s _ _ _ | refine (hput_n _ _ (by omega)).trans ?_ | exact hput_s _ _ _ | assumption) (by repeat first | with_reducible assumption | with_reducible exact hput_s _ _ _ | refine (hput_n _ _ (by omega)).trans ?_ | exact hput_s _ _ _ | assumption) (by repeat first | with_reducible assumption | with_reducible exact hput_s _ _ _ | refine (hput_n _ _ (by omega)).trans ?_ | exact hput_s _ _ _ | assumption) (by repeat first | with_reducible assumption | with_reducible exact hput_s _ _ _ | refine (hput_n _ _ (by omega)).trans ?_ | exact hput_s _ _ _ | assumption), ⟨(by repeat first | with_reducible assumption | with_reducible exact hput_s _ _ _ | refine (hput_n _ _ (by omega)).trans ?_ | exact hput_s _ _ _ | assumption), (by repeat first | with_reducible assumption | with_reducible exact hput_s _ _ _ | refine (hput_n _ _ (by omega)).trans ?_ | exact hput_s _ _ _ | assumption), (by repeat first | with_reducible assumption | with_reducible exact hput_s _ _ _ | refine (hput_n _ _ (by omega)).trans ?_ | exact hput_s _ _ _ | assumption), (by repeat first | with_reducible assumption | with_reducible exact hput_s _ _ _ | refine (hput_n _ _ (by omega)).trans ?_ | exact hput_s _ _ _ | assumption), (by repeat first | with_reducible assumption | with_reducible exact hput_s _ _ _ | refine (hput_n _ _ (by omega)).trans ?_ | exact hput_s _ _ _ | assumption), (by repeat first | with_reducible assumption | with_reducible exact hput_s _ _ _ | refine (hput_n _ _ (by omega)).trans ?_ | exact hput_s _ _ _ | assumption), (by repeat first | with_reducible assumption | with_reducible exact hput_s _ _ _ | refine (hput_n _ _ (by omega)).trans ?_ | exact hput_s _ _ _ | assumption)⟩, (eqOff.rfl'.put (Or.inl ⟨by omega, by omega⟩) _).put (Or.inr ⟨by omega, by omega⟩) _⟩
  · omega
end AC

