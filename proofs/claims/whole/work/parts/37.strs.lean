/-! the String constants -/
def k_row : Nat → Int := fun j => match j with
  | 0 => 114
  | 1 => 111
  | 2 => 119
  | _ => 0
def k_sgn : Nat → Int := fun j => match j with
  | 0 => 46
  | 1 => 35
  | 2 => 94
  | 3 => 62
  | 4 => 118
  | 5 => 60
  | _ => 0
def k_cart : Nat → Int := fun j => match j with
  | 0 => 99
  | 1 => 97
  | 2 => 114
  | 3 => 116
  | _ => 0
def k_at : Nat → Int := fun j => match j with
  | 0 => 97
  | 1 => 116
  | _ => 0
def k_to : Nat → Int := fun j => match j with
  | 0 => 116
  | 1 => 111
  | _ => 0
/-- a String of the start: its object a, its bytes v -/
def ST (Γ : GT) (a v n : Nat) (f : Nat → Int) : Prop := va_O "java/lang/String" a (fr0 Γ) Γ.2.1 Γ.2.1.heap ∧ va_OF "java/lang/String" "coder" "B" (.int 0) a (fr0 Γ) Γ.2.1 Γ.2.1.heap ∧ va_OF "java/lang/String" "value" "[B" (.ref v) a (fr0 Γ) Γ.2.1 Γ.2.1.heap ∧ va_T .byte v n (fun j => .int (ii (f j))) (fr0 Γ) Γ.2.1 Γ.2.1.heap
theorem ST_of {Γ : GT} {args : Array Value} {tm : Term} {n : Nat} {f : Nat → Int} (hn : n < 2 ^ 31) (hex : (Cond.exactly tm "java/lang/String").before args Γ.2.1 = true) (hco : (Cond.eq (.field tm "java/lang/String" "coder" "B") (.int 0)).before args Γ.2.1 = true) (har : (Cond.arrayOf (.field tm "java/lang/String" "value" "[B") .byte).before args Γ.2.1 = true) (hle : (Cond.eq (.length (.field tm "java/lang/String" "value" "[B")) (.int (Int32.ofNat n))).before args Γ.2.1 = true) (hel : ∀ j : Nat, j < n → (Cond.eq (.elem (.field tm "java/lang/String" "value" "[B") (.int (Int32.ofNat j))) (.int (ii (f j)))).before args Γ.2.1 = true) : ∃ a v, tm.eval args Γ.2.1 none [] Γ.2.1 = some (.ref a) ∧ ST Γ a v n f := by
  have hA : ∀ a : Nat, a < Γ.2.1.heap.size → ¬ fr0 Γ a := fun a ha => Nat.not_le.mpr ha
  obtain ⟨a, c, cA, kA, q1, q2, q3, q4, q5, q6, -⟩ := Cond.exactly_spec (args := args) (first := Γ.2.1) (o := none) (s := Γ.2.1) (idx := []) (t := tm) (cls := "java/lang/String") hex
  obtain ⟨t, ht, hT⟩ := va_Tof (f := fun j => .int (ii (f j))) (A := fr0 Γ) hn har (va_eqt hle) (fun j hj => va_eqt (hel j hj)) hA
  exact ⟨a, t, q1, ⟨cA, q3, q5, by rw [q6]; exact q2, hA a (Array.getElem?_eq_some_iff.mp q3).1⟩, vk_OFof q1 (va_eqt hco) hA, vk_OFof q1 ht hA, hT⟩
theorem str_X5_51 {Γ : GT} (hΓ : Gd Γ) : ∃ a v, vk_R "CartPaths$TextReader" 51 "row" a Γ.2.1 ∧ ST Γ a v 3 k_row := by
  obtain ⟨⟨a0, h0, hn⟩, -⟩ := hΓ
  have hf := flat_of_before _ hn
  obtain ⟨a, v, h1, h2⟩ := ST_of (tm := (Term.string "CartPaths$TextReader" 51)) (n := 3) (f := k_row) (by decide) (hf (.exactly (Term.string "CartPaths$TextReader" 51) "java/lang/String") (by decide +kernel)) (hf (.eq (.field (Term.string "CartPaths$TextReader" 51) "java/lang/String" "coder" "B") (.int 0)) (by decide +kernel)) (hf (.arrayOf (Term.field (Term.string "CartPaths$TextReader" 51) "java/lang/String" "value" "[B") .byte) (by decide +kernel)) (hf (.eq (.length (Term.field (Term.string "CartPaths$TextReader" 51) "java/lang/String" "value" "[B")) (.int (Int32.ofNat 3))) (by decide +kernel)) (fun j hj => by
    match j, hj with
    | 0, _ => exact hf (.eq (.elem (Term.field (Term.string "CartPaths$TextReader" 51) "java/lang/String" "value" "[B") (.int (Int32.ofNat 0))) (.int (ii 114))) (by decide +kernel)
    | 1, _ => exact hf (.eq (.elem (Term.field (Term.string "CartPaths$TextReader" 51) "java/lang/String" "value" "[B") (.int (Int32.ofNat 1))) (.int (ii 111))) (by decide +kernel)
    | 2, _ => exact hf (.eq (.elem (Term.field (Term.string "CartPaths$TextReader" 51) "java/lang/String" "value" "[B") (.int (Int32.ofNat 2))) (.int (ii 119))) (by decide +kernel)
    | j + 3, hj => exact absurd hj (by omega)
    )
  exact ⟨a, v, vk_R.of (h0 (.stringRef "CartPaths$TextReader" 51 "row") (by decide +kernel)) h1, h2⟩
theorem str_X5_84 {Γ : GT} (hΓ : Gd Γ) : ∃ a v, vk_R "CartPaths$TextReader" 84 ".#^>v<" a Γ.2.1 ∧ ST Γ a v 6 k_sgn := by
  obtain ⟨⟨a0, h0, hn⟩, -⟩ := hΓ
  have hf := flat_of_before _ hn
  obtain ⟨a, v, h1, h2⟩ := ST_of (tm := (Term.string "CartPaths$TextReader" 84)) (n := 6) (f := k_sgn) (by decide) (hf (.exactly (Term.string "CartPaths$TextReader" 84) "java/lang/String") (by decide +kernel)) (hf (.eq (.field (Term.string "CartPaths$TextReader" 84) "java/lang/String" "coder" "B") (.int 0)) (by decide +kernel)) (hf (.arrayOf (Term.field (Term.string "CartPaths$TextReader" 84) "java/lang/String" "value" "[B") .byte) (by decide +kernel)) (hf (.eq (.length (Term.field (Term.string "CartPaths$TextReader" 84) "java/lang/String" "value" "[B")) (.int (Int32.ofNat 6))) (by decide +kernel)) (fun j hj => by
    match j, hj with
    | 0, _ => exact hf (.eq (.elem (Term.field (Term.string "CartPaths$TextReader" 84) "java/lang/String" "value" "[B") (.int (Int32.ofNat 0))) (.int (ii 46))) (by decide +kernel)
    | 1, _ => exact hf (.eq (.elem (Term.field (Term.string "CartPaths$TextReader" 84) "java/lang/String" "value" "[B") (.int (Int32.ofNat 1))) (.int (ii 35))) (by decide +kernel)
    | 2, _ => exact hf (.eq (.elem (Term.field (Term.string "CartPaths$TextReader" 84) "java/lang/String" "value" "[B") (.int (Int32.ofNat 2))) (.int (ii 94))) (by decide +kernel)
    | 3, _ => exact hf (.eq (.elem (Term.field (Term.string "CartPaths$TextReader" 84) "java/lang/String" "value" "[B") (.int (Int32.ofNat 3))) (.int (ii 62))) (by decide +kernel)
    | 4, _ => exact hf (.eq (.elem (Term.field (Term.string "CartPaths$TextReader" 84) "java/lang/String" "value" "[B") (.int (Int32.ofNat 4))) (.int (ii 118))) (by decide +kernel)
    | 5, _ => exact hf (.eq (.elem (Term.field (Term.string "CartPaths$TextReader" 84) "java/lang/String" "value" "[B") (.int (Int32.ofNat 5))) (.int (ii 60))) (by decide +kernel)
    | j + 6, hj => exact absurd hj (by omega)
    )
  exact ⟨a, v, vk_R.of (h0 (.stringRef "CartPaths$TextReader" 84 ".#^>v<") (by decide +kernel)) h1, h2⟩
theorem str_X5_66 {Γ : GT} (hΓ : Gd Γ) : ∃ a v, vk_R "CartPaths$TextReader" 66 "cart" a Γ.2.1 ∧ ST Γ a v 4 k_cart := by
  obtain ⟨⟨a0, h0, hn⟩, -⟩ := hΓ
  have hf := flat_of_before _ hn
  obtain ⟨a, v, h1, h2⟩ := ST_of (tm := (Term.string "CartPaths$TextReader" 66)) (n := 4) (f := k_cart) (by decide) (hf (.exactly (Term.string "CartPaths$TextReader" 66) "java/lang/String") (by decide +kernel)) (hf (.eq (.field (Term.string "CartPaths$TextReader" 66) "java/lang/String" "coder" "B") (.int 0)) (by decide +kernel)) (hf (.arrayOf (Term.field (Term.string "CartPaths$TextReader" 66) "java/lang/String" "value" "[B") .byte) (by decide +kernel)) (hf (.eq (.length (Term.field (Term.string "CartPaths$TextReader" 66) "java/lang/String" "value" "[B")) (.int (Int32.ofNat 4))) (by decide +kernel)) (fun j hj => by
    match j, hj with
    | 0, _ => exact hf (.eq (.elem (Term.field (Term.string "CartPaths$TextReader" 66) "java/lang/String" "value" "[B") (.int (Int32.ofNat 0))) (.int (ii 99))) (by decide +kernel)
    | 1, _ => exact hf (.eq (.elem (Term.field (Term.string "CartPaths$TextReader" 66) "java/lang/String" "value" "[B") (.int (Int32.ofNat 1))) (.int (ii 97))) (by decide +kernel)
    | 2, _ => exact hf (.eq (.elem (Term.field (Term.string "CartPaths$TextReader" 66) "java/lang/String" "value" "[B") (.int (Int32.ofNat 2))) (.int (ii 114))) (by decide +kernel)
    | 3, _ => exact hf (.eq (.elem (Term.field (Term.string "CartPaths$TextReader" 66) "java/lang/String" "value" "[B") (.int (Int32.ofNat 3))) (.int (ii 116))) (by decide +kernel)
    | j + 4, hj => exact absurd hj (by omega)
    )
  exact ⟨a, v, vk_R.of (h0 (.stringRef "CartPaths$TextReader" 66 "cart") (by decide +kernel)) h1, h2⟩
theorem str_X5_99 {Γ : GT} (hΓ : Gd Γ) : ∃ a v, vk_R "CartPaths$TextReader" 99 "at" a Γ.2.1 ∧ ST Γ a v 2 k_at := by
  obtain ⟨⟨a0, h0, hn⟩, -⟩ := hΓ
  have hf := flat_of_before _ hn
  obtain ⟨a, v, h1, h2⟩ := ST_of (tm := (Term.string "CartPaths$TextReader" 99)) (n := 2) (f := k_at) (by decide) (hf (.exactly (Term.string "CartPaths$TextReader" 99) "java/lang/String") (by decide +kernel)) (hf (.eq (.field (Term.string "CartPaths$TextReader" 99) "java/lang/String" "coder" "B") (.int 0)) (by decide +kernel)) (hf (.arrayOf (Term.field (Term.string "CartPaths$TextReader" 99) "java/lang/String" "value" "[B") .byte) (by decide +kernel)) (hf (.eq (.length (Term.field (Term.string "CartPaths$TextReader" 99) "java/lang/String" "value" "[B")) (.int (Int32.ofNat 2))) (by decide +kernel)) (fun j hj => by
    match j, hj with
    | 0, _ => exact hf (.eq (.elem (Term.field (Term.string "CartPaths$TextReader" 99) "java/lang/String" "value" "[B") (.int (Int32.ofNat 0))) (.int (ii 97))) (by decide +kernel)
    | 1, _ => exact hf (.eq (.elem (Term.field (Term.string "CartPaths$TextReader" 99) "java/lang/String" "value" "[B") (.int (Int32.ofNat 1))) (.int (ii 116))) (by decide +kernel)
    | j + 2, hj => exact absurd hj (by omega)
    )
  exact ⟨a, v, vk_R.of (h0 (.stringRef "CartPaths$TextReader" 99 "at") (by decide +kernel)) h1, h2⟩
theorem str_X5_111 {Γ : GT} (hΓ : Gd Γ) : ∃ a v, vk_R "CartPaths$TextReader" 111 "to" a Γ.2.1 ∧ ST Γ a v 2 k_to := by
  obtain ⟨⟨a0, h0, hn⟩, -⟩ := hΓ
  have hf := flat_of_before _ hn
  obtain ⟨a, v, h1, h2⟩ := ST_of (tm := (Term.string "CartPaths$TextReader" 111)) (n := 2) (f := k_to) (by decide) (hf (.exactly (Term.string "CartPaths$TextReader" 111) "java/lang/String") (by decide +kernel)) (hf (.eq (.field (Term.string "CartPaths$TextReader" 111) "java/lang/String" "coder" "B") (.int 0)) (by decide +kernel)) (hf (.arrayOf (Term.field (Term.string "CartPaths$TextReader" 111) "java/lang/String" "value" "[B") .byte) (by decide +kernel)) (hf (.eq (.length (Term.field (Term.string "CartPaths$TextReader" 111) "java/lang/String" "value" "[B")) (.int (Int32.ofNat 2))) (by decide +kernel)) (fun j hj => by
    match j, hj with
    | 0, _ => exact hf (.eq (.elem (Term.field (Term.string "CartPaths$TextReader" 111) "java/lang/String" "value" "[B") (.int (Int32.ofNat 0))) (.int (ii 116))) (by decide +kernel)
    | 1, _ => exact hf (.eq (.elem (Term.field (Term.string "CartPaths$TextReader" 111) "java/lang/String" "value" "[B") (.int (Int32.ofNat 1))) (.int (ii 111))) (by decide +kernel)
    | j + 2, hj => exact absurd hj (by omega)
    )
  exact ⟨a, v, vk_R.of (h0 (.stringRef "CartPaths$TextReader" 111 "to") (by decide +kernel)) h1, h2⟩
theorem str_X9_398 {Γ : GT} (hΓ : Gd Γ) : ∃ a v, vk_R "CartPaths" 398 ".#^>v<" a Γ.2.1 ∧ ST Γ a v 6 k_sgn := by
  obtain ⟨⟨a0, h0, hn⟩, -⟩ := hΓ
  have hf := flat_of_before _ hn
  obtain ⟨a, v, h1, h2⟩ := ST_of (tm := (Term.string "CartPaths" 398)) (n := 6) (f := k_sgn) (by decide) (hf (.exactly (Term.string "CartPaths" 398) "java/lang/String") (by decide +kernel)) (hf (.eq (.field (Term.string "CartPaths" 398) "java/lang/String" "coder" "B") (.int 0)) (by decide +kernel)) (hf (.arrayOf (Term.field (Term.string "CartPaths" 398) "java/lang/String" "value" "[B") .byte) (by decide +kernel)) (hf (.eq (.length (Term.field (Term.string "CartPaths" 398) "java/lang/String" "value" "[B")) (.int (Int32.ofNat 6))) (by decide +kernel)) (fun j hj => by
    match j, hj with
    | 0, _ => exact hf (.eq (.elem (Term.field (Term.string "CartPaths" 398) "java/lang/String" "value" "[B") (.int (Int32.ofNat 0))) (.int (ii 46))) (by decide +kernel)
    | 1, _ => exact hf (.eq (.elem (Term.field (Term.string "CartPaths" 398) "java/lang/String" "value" "[B") (.int (Int32.ofNat 1))) (.int (ii 35))) (by decide +kernel)
    | 2, _ => exact hf (.eq (.elem (Term.field (Term.string "CartPaths" 398) "java/lang/String" "value" "[B") (.int (Int32.ofNat 2))) (.int (ii 94))) (by decide +kernel)
    | 3, _ => exact hf (.eq (.elem (Term.field (Term.string "CartPaths" 398) "java/lang/String" "value" "[B") (.int (Int32.ofNat 3))) (.int (ii 62))) (by decide +kernel)
    | 4, _ => exact hf (.eq (.elem (Term.field (Term.string "CartPaths" 398) "java/lang/String" "value" "[B") (.int (Int32.ofNat 4))) (.int (ii 118))) (by decide +kernel)
    | 5, _ => exact hf (.eq (.elem (Term.field (Term.string "CartPaths" 398) "java/lang/String" "value" "[B") (.int (Int32.ofNat 5))) (.int (ii 60))) (by decide +kernel)
    | j + 6, hj => exact absurd hj (by omega)
    )
  exact ⟨a, v, vk_R.of (h0 (.stringRef "CartPaths" 398 ".#^>v<") (by decide +kernel)) h1, h2⟩
theorem str_X10_154 {Γ : GT} (hΓ : Gd Γ) : ∃ a v, vk_R "CartPathsModel" 154 "row" a Γ.2.1 ∧ ST Γ a v 3 k_row := by
  obtain ⟨⟨a0, h0, hn⟩, -⟩ := hΓ
  have hf := flat_of_before _ hn
  obtain ⟨a, v, h1, h2⟩ := ST_of (tm := (Term.string "CartPathsModel" 154)) (n := 3) (f := k_row) (by decide) (hf (.exactly (Term.string "CartPathsModel" 154) "java/lang/String") (by decide +kernel)) (hf (.eq (.field (Term.string "CartPathsModel" 154) "java/lang/String" "coder" "B") (.int 0)) (by decide +kernel)) (hf (.arrayOf (Term.field (Term.string "CartPathsModel" 154) "java/lang/String" "value" "[B") .byte) (by decide +kernel)) (hf (.eq (.length (Term.field (Term.string "CartPathsModel" 154) "java/lang/String" "value" "[B")) (.int (Int32.ofNat 3))) (by decide +kernel)) (fun j hj => by
    match j, hj with
    | 0, _ => exact hf (.eq (.elem (Term.field (Term.string "CartPathsModel" 154) "java/lang/String" "value" "[B") (.int (Int32.ofNat 0))) (.int (ii 114))) (by decide +kernel)
    | 1, _ => exact hf (.eq (.elem (Term.field (Term.string "CartPathsModel" 154) "java/lang/String" "value" "[B") (.int (Int32.ofNat 1))) (.int (ii 111))) (by decide +kernel)
    | 2, _ => exact hf (.eq (.elem (Term.field (Term.string "CartPathsModel" 154) "java/lang/String" "value" "[B") (.int (Int32.ofNat 2))) (.int (ii 119))) (by decide +kernel)
    | j + 3, hj => exact absurd hj (by omega)
    )
  exact ⟨a, v, vk_R.of (h0 (.stringRef "CartPathsModel" 154 "row") (by decide +kernel)) h1, h2⟩
theorem str_X10_156 {Γ : GT} (hΓ : Gd Γ) : ∃ a v, vk_R "CartPathsModel" 156 "cart" a Γ.2.1 ∧ ST Γ a v 4 k_cart := by
  obtain ⟨⟨a0, h0, hn⟩, -⟩ := hΓ
  have hf := flat_of_before _ hn
  obtain ⟨a, v, h1, h2⟩ := ST_of (tm := (Term.string "CartPathsModel" 156)) (n := 4) (f := k_cart) (by decide) (hf (.exactly (Term.string "CartPathsModel" 156) "java/lang/String") (by decide +kernel)) (hf (.eq (.field (Term.string "CartPathsModel" 156) "java/lang/String" "coder" "B") (.int 0)) (by decide +kernel)) (hf (.arrayOf (Term.field (Term.string "CartPathsModel" 156) "java/lang/String" "value" "[B") .byte) (by decide +kernel)) (hf (.eq (.length (Term.field (Term.string "CartPathsModel" 156) "java/lang/String" "value" "[B")) (.int (Int32.ofNat 4))) (by decide +kernel)) (fun j hj => by
    match j, hj with
    | 0, _ => exact hf (.eq (.elem (Term.field (Term.string "CartPathsModel" 156) "java/lang/String" "value" "[B") (.int (Int32.ofNat 0))) (.int (ii 99))) (by decide +kernel)
    | 1, _ => exact hf (.eq (.elem (Term.field (Term.string "CartPathsModel" 156) "java/lang/String" "value" "[B") (.int (Int32.ofNat 1))) (.int (ii 97))) (by decide +kernel)
    | 2, _ => exact hf (.eq (.elem (Term.field (Term.string "CartPathsModel" 156) "java/lang/String" "value" "[B") (.int (Int32.ofNat 2))) (.int (ii 114))) (by decide +kernel)
    | 3, _ => exact hf (.eq (.elem (Term.field (Term.string "CartPathsModel" 156) "java/lang/String" "value" "[B") (.int (Int32.ofNat 3))) (.int (ii 116))) (by decide +kernel)
    | j + 4, hj => exact absurd hj (by omega)
    )
  exact ⟨a, v, vk_R.of (h0 (.stringRef "CartPathsModel" 156 "cart") (by decide +kernel)) h1, h2⟩
theorem str_X10_158 {Γ : GT} (hΓ : Gd Γ) : ∃ a v, vk_R "CartPathsModel" 158 "at" a Γ.2.1 ∧ ST Γ a v 2 k_at := by
  obtain ⟨⟨a0, h0, hn⟩, -⟩ := hΓ
  have hf := flat_of_before _ hn
  obtain ⟨a, v, h1, h2⟩ := ST_of (tm := (Term.string "CartPathsModel" 158)) (n := 2) (f := k_at) (by decide) (hf (.exactly (Term.string "CartPathsModel" 158) "java/lang/String") (by decide +kernel)) (hf (.eq (.field (Term.string "CartPathsModel" 158) "java/lang/String" "coder" "B") (.int 0)) (by decide +kernel)) (hf (.arrayOf (Term.field (Term.string "CartPathsModel" 158) "java/lang/String" "value" "[B") .byte) (by decide +kernel)) (hf (.eq (.length (Term.field (Term.string "CartPathsModel" 158) "java/lang/String" "value" "[B")) (.int (Int32.ofNat 2))) (by decide +kernel)) (fun j hj => by
    match j, hj with
    | 0, _ => exact hf (.eq (.elem (Term.field (Term.string "CartPathsModel" 158) "java/lang/String" "value" "[B") (.int (Int32.ofNat 0))) (.int (ii 97))) (by decide +kernel)
    | 1, _ => exact hf (.eq (.elem (Term.field (Term.string "CartPathsModel" 158) "java/lang/String" "value" "[B") (.int (Int32.ofNat 1))) (.int (ii 116))) (by decide +kernel)
    | j + 2, hj => exact absurd hj (by omega)
    )
  exact ⟨a, v, vk_R.of (h0 (.stringRef "CartPathsModel" 158 "at") (by decide +kernel)) h1, h2⟩
theorem str_X10_159 {Γ : GT} (hΓ : Gd Γ) : ∃ a v, vk_R "CartPathsModel" 159 "to" a Γ.2.1 ∧ ST Γ a v 2 k_to := by
  obtain ⟨⟨a0, h0, hn⟩, -⟩ := hΓ
  have hf := flat_of_before _ hn
  obtain ⟨a, v, h1, h2⟩ := ST_of (tm := (Term.string "CartPathsModel" 159)) (n := 2) (f := k_to) (by decide) (hf (.exactly (Term.string "CartPathsModel" 159) "java/lang/String") (by decide +kernel)) (hf (.eq (.field (Term.string "CartPathsModel" 159) "java/lang/String" "coder" "B") (.int 0)) (by decide +kernel)) (hf (.arrayOf (Term.field (Term.string "CartPathsModel" 159) "java/lang/String" "value" "[B") .byte) (by decide +kernel)) (hf (.eq (.length (Term.field (Term.string "CartPathsModel" 159) "java/lang/String" "value" "[B")) (.int (Int32.ofNat 2))) (by decide +kernel)) (fun j hj => by
    match j, hj with
    | 0, _ => exact hf (.eq (.elem (Term.field (Term.string "CartPathsModel" 159) "java/lang/String" "value" "[B") (.int (Int32.ofNat 0))) (.int (ii 116))) (by decide +kernel)
    | 1, _ => exact hf (.eq (.elem (Term.field (Term.string "CartPathsModel" 159) "java/lang/String" "value" "[B") (.int (Int32.ofNat 1))) (.int (ii 111))) (by decide +kernel)
    | j + 2, hj => exact absurd hj (by omega)
    )
  exact ⟨a, v, vk_R.of (h0 (.stringRef "CartPathsModel" 159 "to") (by decide +kernel)) h1, h2⟩
