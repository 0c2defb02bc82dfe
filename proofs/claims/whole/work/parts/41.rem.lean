/-! REMAINDERS -/
theorem rm_toInt (a : Int32) {n : Nat} (h0 : 0 < n) (h : n < 2 ^ 31) : (a - a / nI n * nI n).toInt = a.toInt.tmod n := by
  have hb : (nI n).toInt = (n : Int) := nI_toInt h
  have h1 := tmod_bounds (a := a.toInt) (M := (n : Int)) (by omega)
  have h2 : a.toInt.tmod n = a.toInt - (n : Int) * a.toInt.tdiv n := Int.tmod_def _ _
  rw [Int32.toInt_sub, Int32.toInt_mul, Int32.toInt_div, hb]
  simp only [Int.sub_bmod_bmod, Int.bmod_mul_bmod]
  rw [show a.toInt - a.toInt.tdiv n * (n : Int) = a.toInt.tmod n by rw [h2, Int.mul_comm]]
  apply Int.bmod_eq_of_le
  · omega
  · omega
/-- the rest that is never below 0 -/
def rst (a p : Int32) : Int32 := if a - a / p * p < 0 then a - a / p * p + p else a - a / p * p
theorem rst_nI (a : Int32) {n : Nat} (h0 : 0 < n) (h : n < 2 ^ 30) : ∃ k : Nat, k < n ∧ rst a (nI n) = nI k := by
  have e := rm_toInt a h0 (by omega)
  have h1 := tmod_bounds (a := a.toInt) (M := (n : Int)) (by omega)
  unfold rst
  by_cases hc : a - a / nI n * nI n < 0
  · rw [if_pos hc]
    have h2 : (a - a / nI n * nI n).toInt < 0 := by simpa using Int32.lt_iff_toInt_lt.mp hc
    rw [e] at h2
    refine ⟨(a.toInt.tmod n + n).toNat, by omega, ?_⟩
    apply Int32.toInt_inj.mp
    rw [Int32.toInt_add, e, nI_toInt (by omega), nI_toInt (by omega)]
    rw [Int.bmod_eq_of_le (by omega) (by omega)]
    omega
  · rw [if_neg hc]
    have h2 : ¬ (a - a / nI n * nI n).toInt < 0 := fun q => hc (Int32.lt_iff_toInt_lt.mpr (by simpa using q))
    rw [e] at h2
    refine ⟨(a.toInt.tmod n).toNat, by omega, ?_⟩
    apply Int32.toInt_inj.mp
    rw [e, nI_toInt (by omega)]
    omega
