/-! BYTES: the class keeps them as 0 to 255, the reference as -128 to 127 -/
theorem by_255 {i : Nat} (h : i < 32) : (255 : Int32).toBitVec.getLsbD i = decide (i < 8) := by
  have : ∀ j : Fin 32, (255 : Int32).toBitVec.getLsbD j.val = decide (j.val < 8) := by decide +kernel
  exact this ⟨i, h⟩
theorem by_low (x : Int32) : x.toInt8.toInt32 &&& 255 = x &&& 255 := by
  apply Int32.toBitVec_inj.1
  apply BitVec.eq_of_getLsbD_eq
  intro i hi
  show (((x.toBitVec.signExtend 8).signExtend 32) &&& (255 : Int32).toBitVec).getLsbD i = (x.toBitVec &&& (255 : Int32).toBitVec).getLsbD i
  rw [BitVec.getLsbD_and, BitVec.getLsbD_and, by_255 hi]
  by_cases h8 : i < 8
  · rw [BitVec.getLsbD_signExtend, if_pos h8, BitVec.getLsbD_signExtend, if_pos hi, decide_eq_true h8, decide_eq_true hi, Bool.true_and, Bool.true_and]
  · simp [h8]
theorem by_sh (v s : Int32) (k : Nat) (hk : k ≤ 24) (h1 : ((s.toUInt32 &&& Int32.toUInt32 31).toBitVec % 32).toNat = k) (h2 : ((s &&& 31).toBitVec.smod 32).toNat = k) : (v.toUInt32 >>> (s.toUInt32 &&& Int32.toUInt32 31)).toInt32 &&& 255 = (v >>> (s &&& 31)) &&& 255 := by
  apply Int32.toBitVec_inj.1
  apply BitVec.eq_of_getLsbD_eq
  intro i hi
  show ((v.toBitVec >>> ((s.toUInt32 &&& Int32.toUInt32 31).toBitVec % 32)) &&& (255 : Int32).toBitVec).getLsbD i = (v.toBitVec.sshiftRight' ((s &&& 31).toBitVec.smod 32) &&& (255 : Int32).toBitVec).getLsbD i
  rw [BitVec.getLsbD_and, BitVec.getLsbD_and, by_255 hi]
  by_cases h8 : i < 8
  · have h3 : k + i < 32 := by omega
    rw [BitVec.getLsbD_sshiftRight', h2, if_pos h3, BitVec.ushiftRight_eq', BitVec.getLsbD_ushiftRight, h1, decide_eq_false (show ¬ 32 ≤ i by omega)]
    rfl
  · simp [h8]
theorem by_rel (v s : Int32) (hs : s = 24 ∨ s = 16 ∨ s = 8 ∨ s = 0) : tp_byte v s = md_byte v s &&& 255 := by
  unfold tp_byte md_byte
  rw [by_low, by_low]
  rcases hs with rfl | rfl | rfl | rfl
  · exact by_sh v 24 24 (by decide) (by decide +kernel) (by decide +kernel)
  · exact by_sh v 16 16 (by decide) (by decide +kernel) (by decide +kernel)
  · exact by_sh v 8 8 (by decide) (by decide +kernel) (by decide +kernel)
  · exact by_sh v 0 0 (by decide) (by decide +kernel) (by decide +kernel)
theorem tp_sh_or (k : Nat) : tp_sh k = 24 ∨ tp_sh k = 16 ∨ tp_sh k = 8 ∨ tp_sh k = 0 := by
  unfold tp_sh
  split
  · exact Or.inl rfl
  · split
    · exact Or.inr (Or.inl rfl)
    · split
      · exact Or.inr (Or.inr (Or.inl rfl))
      · exact Or.inr (Or.inr (Or.inr rfl))
/-- the two tapes, side by side: the class's object t with its bytes b, the reference's m with its bytes u -/
def tapes (t b m u : Nat) (I : Nat → Nat → Int32) : Prop := ∃ n : Nat, n ≤ 400 ∧ I t 1 = nI n ∧ I m 47 = nI n ∧ ∀ j, j < 400 → I b j = I u j &&& 255
/-- both have fed: side by side again -/
theorem tapes_fed {t b m u n : Nat} {v1 v2 v3 v4 v5 : Int32} {I J K : Nat → Nat → Int32} (hne : t ≠ m ∧ t ≠ u ∧ b ≠ m ∧ b ≠ u ∧ t ≠ b ∧ m ≠ u) (hn : n ≤ 380) (hI : I t 1 = nI n) (hrel : ∀ j, j < 400 → I b j = I u j &&& 255) (h1 : tp_fed t b n v1 v2 v3 v4 v5 I J) (h2 : md_fed m u n v1 v2 v3 v4 v5 J K) : tapes t b m u K := by
  obtain ⟨n1, n2, n3, n4, n5, n6⟩ := hne
  refine ⟨n + 20, by omega, ?_, h2.1, fun j hj => ?_⟩
  · rw [h2.2.2 t 1 n2 (Or.inl n1)]; exact h1.1
  · rw [h2.2.2 b j n4 (Or.inl n3), h1.2.1 j, h2.2.1 j]
    split
    · exact by_rel _ _ (tp_sh_or _)
    · rw [hrel j hj, h1.2.2 u j (Ne.symm n4) (Or.inl (Ne.symm n2))]
