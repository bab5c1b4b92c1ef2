/-! the reference: floats next to quotients (written by gena6.py) -/
/-- the float next to a / b, as the model has it, is the class's -/
def ckF (a b : Nat) : Bool := decide (FP.fdiv (FP.i2f (ii a)) (FP.i2f (ii b)) &&& 0x7fffffff ≤ 0x7f800000) && (decide (FP.fcmp (FP.fdiv (FP.i2f (ii a)) (FP.i2f (ii b))) (FP.fdiv (FP.i2f (ii a)) (FP.i2f (ii b))) = some .eq) && decide ((FP.fdiv (FP.i2f (ii a)) (FP.i2f (ii b))).toInt32 = ii (qbt a b)))
def ckR (lo n : Nat) : Bool := (List.range n).all fun i => (List.range (lo + i)).all fun b => ckF (lo + i) (b + 1)
theorem ck_0 : ckR 0 25 = true := by decide +kernel
theorem ck_25 : ckR 25 25 = true := by decide +kernel
theorem ck_50 : ckR 50 25 = true := by decide +kernel
theorem ck_75 : ckR 75 25 = true := by decide +kernel
theorem ck_100 : ckR 100 25 = true := by decide +kernel
theorem ck_125 : ckR 125 25 = true := by decide +kernel
theorem ck_150 : ckR 150 25 = true := by decide +kernel
theorem ck_175 : ckR 175 25 = true := by decide +kernel
theorem ck_200 : ckR 200 1 = true := by decide +kernel
theorem ckR_of {lo n a b : Nat} (h : ckR lo n = true) (h1 : lo ≤ a) (h2 : a < lo + n) (hb : 0 < b) (hba : b ≤ a) : ckF a b = true := by
  unfold ckR at h
  rw [List.all_eq_true] at h
  have h3 := h (a - lo) (List.mem_range.mpr (by omega))
  rw [List.all_eq_true] at h3
  have h4 := h3 (b - 1) (List.mem_range.mpr (by omega))
  rw [show lo + (a - lo) = a by omega, show b - 1 + 1 = b by omega] at h4
  exact h4
theorem ck_all {a b : Nat} (ha : a ≤ 200) (hb : 0 < b) (hba : b ≤ a) : ckF a b = true := by
  by_cases h0 : a < 25
  · exact ckR_of ck_0 (by omega) (by omega) hb hba
  by_cases h25 : a < 50
  · exact ckR_of ck_25 (by omega) (by omega) hb hba
  by_cases h50 : a < 75
  · exact ckR_of ck_50 (by omega) (by omega) hb hba
  by_cases h75 : a < 100
  · exact ckR_of ck_75 (by omega) (by omega) hb hba
  by_cases h100 : a < 125
  · exact ckR_of ck_100 (by omega) (by omega) hb hba
  by_cases h125 : a < 150
  · exact ckR_of ck_125 (by omega) (by omega) hb hba
  by_cases h150 : a < 175
  · exact ckR_of ck_150 (by omega) (by omega) hb hba
  by_cases h175 : a < 200
  · exact ckR_of ck_175 (by omega) (by omega) hb hba
  exact ckR_of ck_200 (by omega) (by omega) hb hba

