/-! far and reach: the class's words by hH -/
theorem zx_FF : ((0 : BitVec 64) ^^^ FF) = FF := by decide +kernel
theorem ax_FF (x : BitVec 64) : x &&& FF = x := by
  show x &&& BitVec.allOnes 64 = x
  exact BitVec.and_allOnes
theorem rc_hs (lv : Nat → BitVec 64) (pl : Nat) : ∀ k, rcN lv pl k = hsN lv (fun _ => 0) (fun _ => 0) pl k
  | 0 => by
    show bt1 pl = bt1 pl &&& ((0 : BitVec 64) ^^^ FF)
    rw [zx_FF, ax_FF]
  | k + 1 => by
    have ih := rc_hs lv pl k
    show rcN lv pl k ||| ((rcN lv pl k &&& lv 0) >>> 6 ||| (rcN lv pl k &&& lv 1) <<< 1 ||| (rcN lv pl k &&& lv 2) <<< 6 ||| (rcN lv pl k &&& lv 3) >>> 1) = stp lv (fun _ => 0) (fun _ => 0) (hsN lv (fun _ => 0) (fun _ => 0) pl k) (k + 1)
    rw [ih]
    unfold stp
    rw [zx_FF, ax_FF, ax_FF, ax_FF, ax_FF, ax_FF]
    simp only [BitVec.or_assoc]
theorem ffr_z (g : Nat) : ∀ n, ffr (fun _ => 0) g n = 0
  | 0 => rfl
  | n + 1 => by
    unfold ffr
    rw [if_neg (by simp)]
    exact ffr_z g n
theorem lcs_hH (z : PS) (pl g : Nat) : lcs (lvZ z) (fun _ => 0) (fun _ => 0) pl g = fstN (fun t => hH z pl t g) 41 := by
  unfold lcs
  refine fstN_cong fun t ht => ?_
  rw [ffr_z, decide_eq_true (Nat.zero_le t), Bool.true_and]
  rfl
theorem hH_0 {z : PS} {pl : Nat} (h : pl < 64) : hH z pl 0 pl = true := by
  show (bt1 pl &&& ((0 : BitVec 64) ^^^ FF)).getLsbD pl = true
  rw [zx_FF, ax_FF, bt1_b h]
  exact decide_eq_true rfl
theorem lcs_37 {z : PS} {I : Nat → Int} {A : Nat → Nat → Int} {pl g : Nat} (w : WFz z) (hz : MZ I A z) (hp : gIn (zCo z) (zRo z) pl) (hp1 : zSO z pl ≠ 1) (hg : g < 36) : lcs (lvZ z) (fun _ => 0) (fun _ => 0) pl g = fstN (fun t => hH z pl t g) 37 := by
  rw [lcs_hH]
  have h36 : pl < 36 := gIn_36 w.1.1.2.1 hp
  have hs := hH_sat w hz hp hp1 (hH_0 (by omega))
  rcases fstN_cases (fun t => hH z pl t g) 37 with ⟨e, hn⟩ | ⟨k, hk, e, hpk, hn⟩
  · rw [e]
    refine fstN_none fun t ht => ?_
    by_cases q : t < 37
    · exact hn t q
    · have := hs t (by omega) (by omega) g hg
      show hH z pl t g = false
      rw [this]
      exact hn 35 (by omega)
  · rw [e]
    exact fstN_some (by omega) hpk hn

