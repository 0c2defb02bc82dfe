/-! MOMENTS that change -/
section MO
variable {X : xX} {h : xH} {sh : List (Nat × Nat)} {I : Nat → Nat → Int32} {L : Nat → Nat → Int64} {R : Nat → Nat → Option Nat} {v : Nat → Nat → Int32} {w s m : Nat}
theorem MomAt.put {x y : Nat} {z : Option Nat} (h : MomAt sh R x) : MomAt sh (xu R y 0 z) x := by
  refine ⟨h.1, fun j q hq => ⟨(h.2 j q hq).1, ?_⟩⟩
  have hz : ∀ q ∈ fs_mom, q.1 ≠ 0 := by decide
  rw [xu_k (hz q (List.mem_of_getElem? hq))]
  exact (h.2 j q hq).2
theorem SeaAt.put {x y : Nat} {z : Option Nat} (h : SeaAt sh R x) : SeaAt sh (xu R y 0 z) x := by
  refine ⟨h.1, fun j q hq => ⟨(h.2 j q hq).1, ?_⟩⟩
  have hz : ∀ q ∈ fs_sea, q.1 ≠ 0 := by decide
  rw [xu_k (hz q (List.mem_of_getElem? hq))]
  exact (h.2 j q hq).2
/-- a moment's cells taken over from another's -/
def CPY (I' I : Nat → Nat → Int32) (m o : Nat) : Prop := (∀ k, k = 1 ∨ k = 2 ∨ k = 7 → I' m k = I o k) ∧ (∀ k, k < 4 → I' (m + 1) k = I (o + 1) k ∧ I' (m + 2) k = I (o + 2) k ∧ I' (m + 3) k = I (o + 3) k ∧ I' (m + 4) k = I (o + 4) k) ∧ (∀ k, k < 8 → I' (m + 5) k = I (o + 5) k ∧ I' (m + 6) k = I (o + 6) k ∧ I' (m + 7) k = I (o + 7) k ∧ I' (m + 8) k = I (o + 8) k) ∧ ∀ i k, i < m ∨ m + 8 < i → I' i k = I i k
theorem dgn_lt {k n : Nat} (hk : k < n) (hl : v 1 7 ≤ v 23 k) : dgn v k < dgn v n := by
  induction n with
  | zero => omega
  | succ n ih =>
    show dgn v k < (if v 1 7 ≤ v 23 n then dgn v n + 1 else dgn v n)
    by_cases e : k = n
    · subst e; rw [if_pos hl]; omega
    · have := ih (by omega)
      split <;> omega
theorem MomV.cp {I' : Nat → Nat → Int32} {n : Nat} (h : MomV I n v) (c : CPY I' I m n) (h4 : cn v 4 ≤ 4) (h9 : cn v 9 ≤ 8) : MomV I' m v := by
  obtain ⟨c1, c2, c3, -⟩ := c
  obtain ⟨h1, h2, h3, h5, h6⟩ := h
  refine ⟨(c1 1 (by decide)).trans h1, (c1 2 (by decide)).trans h2, fun k hk => ?_, (c1 7 (by decide)).trans h5, fun k hk hl => ?_⟩
  · obtain ⟨a1, a2, a3, a4⟩ := c2 k (by omega)
    obtain ⟨b1, b2, b3, b4⟩ := h3 k hk
    exact ⟨a1.trans b1, a2.trans b2, a3.trans b3, a4.trans b4⟩
  · have hd : dgn v k < 8 := by
      have := dgn_lt hk hl
      have := dgn_le (v := v) (n := cn v 9)
      omega
    obtain ⟨a1, a2, a3, a4⟩ := c3 (dgn v k) hd
    obtain ⟨b1, b2, b3, b4⟩ := h6 k hk hl
    exact ⟨a1.trans b1, a2.trans b2, a3.trans b3, a4.trans b4⟩
theorem cs_copyFrom {o : Nat} (hM : MomAt sh R m) (hO : MomAt sh R o) (hos : R o 0 = some s) (hmo : m + 8 < o ∨ o + 8 < m) : Ec X 1 37 [.ref m, .ref o] (sh, I, L, R) (fun r h' => r = none ∧ ∃ I', h' = (sh, I', L, xu R m 0 (some s)) ∧ CPY I' I m o) := by
  refine Ec.of (Nat.le_of_ble_eq_true rfl) ?_
  refine e_aload rfl rfl ?_
  refine e_aload rfl rfl ?_
  refine e_getR rfl hO.1 hos ?_
  refine e_putR rfl hM.1 ?_
  replace hM := hM.put (y := m) (z := some s)
  replace hO := hO.put (y := m) (z := some s)
  refine e_aload rfl rfl ?_
  refine e_aload rfl rfl ?_
  refine e_getI rfl hO.1 ?_
  refine e_putIJ rfl hM.1 (fun J1 g1 f1 => ?_)
  refine e_aload rfl rfl ?_
  refine e_aload rfl rfl ?_
  refine e_getIv rfl hO.1 (f1 o 2 (Or.inl (by omega))) ?_
  refine e_putIJ rfl hM.1 (fun J2 g2 f2 => ?_)
  refine e_aload rfl rfl ?_
  refine e_getR rfl hO.1 (hO.2 0 _ rfl).2 ?_
  refine e_ipush rfl ?_
  refine e_aload rfl rfl ?_
  refine e_getR rfl hM.1 (hM.2 0 _ rfl).2 ?_
  refine e_ipush rfl ?_
  refine e_ipush rfl ?_
  refine e_copyJ (r := 4) rfl (hO.2 0 _ rfl).1 (hM.2 0 _ rfl).1 rfl (by decide) (by decide) (by decide) (Nat.le_of_ble_eq_true rfl) (fun J3 g3 f3 => ?_)
  refine e_aload rfl rfl ?_
  refine e_getR rfl hO.1 (hO.2 1 _ rfl).2 ?_
  refine e_ipush rfl ?_
  refine e_aload rfl rfl ?_
  refine e_getR rfl hM.1 (hM.2 1 _ rfl).2 ?_
  refine e_ipush rfl ?_
  refine e_ipush rfl ?_
  refine e_copyJ (r := 4) rfl (hO.2 1 _ rfl).1 (hM.2 1 _ rfl).1 rfl (by decide) (by decide) (by decide) (Nat.le_of_ble_eq_true rfl) (fun J4 g4 f4 => ?_)
  refine e_aload rfl rfl ?_
  refine e_getR rfl hO.1 (hO.2 2 _ rfl).2 ?_
  refine e_ipush rfl ?_
  refine e_aload rfl rfl ?_
  refine e_getR rfl hM.1 (hM.2 2 _ rfl).2 ?_
  refine e_ipush rfl ?_
  refine e_ipush rfl ?_
  refine e_copyJ (r := 4) rfl (hO.2 2 _ rfl).1 (hM.2 2 _ rfl).1 rfl (by decide) (by decide) (by decide) (Nat.le_of_ble_eq_true rfl) (fun J5 g5 f5 => ?_)
  refine e_aload rfl rfl ?_
  refine e_getR rfl hO.1 (hO.2 3 _ rfl).2 ?_
  refine e_ipush rfl ?_
  refine e_aload rfl rfl ?_
  refine e_getR rfl hM.1 (hM.2 3 _ rfl).2 ?_
  refine e_ipush rfl ?_
  refine e_ipush rfl ?_
  refine e_copyJ (r := 4) rfl (hO.2 3 _ rfl).1 (hM.2 3 _ rfl).1 rfl (by decide) (by decide) (by decide) (Nat.le_of_ble_eq_true rfl) (fun J6 g6 f6 => ?_)
  refine e_aload rfl rfl ?_
  refine e_aload rfl rfl ?_
  refine e_getIv rfl hO.1 ((f6 o 7 (Or.inl (by omega))).trans ((f5 o 7 (Or.inl (by omega))).trans ((f4 o 7 (Or.inl (by omega))).trans ((f3 o 7 (Or.inl (by omega))).trans ((f2 o 7 (Or.inl (by omega))).trans (f1 o 7 (Or.inl (by omega)))))))) ?_
  refine e_putIJ rfl hM.1 (fun J7 g7 f7 => ?_)
  refine e_aload rfl rfl ?_
  refine e_getR rfl hO.1 (hO.2 4 _ rfl).2 ?_
  refine e_ipush rfl ?_
  refine e_aload rfl rfl ?_
  refine e_getR rfl hM.1 (hM.2 4 _ rfl).2 ?_
  refine e_ipush rfl ?_
  refine e_ipush rfl ?_
  refine e_copyJ (r := 8) rfl (hO.2 4 _ rfl).1 (hM.2 4 _ rfl).1 rfl (by decide) (by decide) (by decide) (Nat.le_of_ble_eq_true rfl) (fun J8 g8 f8 => ?_)
  refine e_aload rfl rfl ?_
  refine e_getR rfl hO.1 (hO.2 5 _ rfl).2 ?_
  refine e_ipush rfl ?_
  refine e_aload rfl rfl ?_
  refine e_getR rfl hM.1 (hM.2 5 _ rfl).2 ?_
  refine e_ipush rfl ?_
  refine e_ipush rfl ?_
  refine e_copyJ (r := 8) rfl (hO.2 5 _ rfl).1 (hM.2 5 _ rfl).1 rfl (by decide) (by decide) (by decide) (Nat.le_of_ble_eq_true rfl) (fun J9 g9 f9 => ?_)
  refine e_aload rfl rfl ?_
  refine e_getR rfl hO.1 (hO.2 6 _ rfl).2 ?_
  refine e_ipush rfl ?_
  refine e_aload rfl rfl ?_
  refine e_getR rfl hM.1 (hM.2 6 _ rfl).2 ?_
  refine e_ipush rfl ?_
  refine e_ipush rfl ?_
  refine e_copyJ (r := 8) rfl (hO.2 6 _ rfl).1 (hM.2 6 _ rfl).1 rfl (by decide) (by decide) (by decide) (Nat.le_of_ble_eq_true rfl) (fun J10 g10 f10 => ?_)
  refine e_aload rfl rfl ?_
  refine e_getR rfl hO.1 (hO.2 7 _ rfl).2 ?_
  refine e_ipush rfl ?_
  refine e_aload rfl rfl ?_
  refine e_getR rfl hM.1 (hM.2 7 _ rfl).2 ?_
  refine e_ipush rfl ?_
  refine e_ipush rfl ?_
  refine e_copyJ (r := 8) rfl (hO.2 7 _ rfl).1 (hM.2 7 _ rfl).1 rfl (by decide) (by decide) (by decide) (Nat.le_of_ble_eq_true rfl) (fun J11 g11 f11 => ?_)
  refine Eg.ret rfl (by decide) rfl ⟨rfl, J11, rfl, ⟨fun k hk => ?_, fun k hk => ⟨?_, ?_, ?_, ?_⟩, fun k hk => ⟨?_, ?_, ?_, ?_⟩, fun i k hi => ?_⟩⟩
  · rcases hk with rfl | rfl | rfl
    · exact ((f11 m 1 (Or.inl (by omega))).trans ((f10 m 1 (Or.inl (by omega))).trans ((f9 m 1 (Or.inl (by omega))).trans ((f8 m 1 (Or.inl (by omega))).trans ((f7 m 1 (Or.inr (by decide))).trans ((f6 m 1 (Or.inl (by omega))).trans ((f5 m 1 (Or.inl (by omega))).trans ((f4 m 1 (Or.inl (by omega))).trans ((f3 m 1 (Or.inl (by omega))).trans ((f2 m 1 (Or.inr (by decide))).trans g1))))))))))
    · exact ((f11 m 2 (Or.inl (by omega))).trans ((f10 m 2 (Or.inl (by omega))).trans ((f9 m 2 (Or.inl (by omega))).trans ((f8 m 2 (Or.inl (by omega))).trans ((f7 m 2 (Or.inr (by decide))).trans ((f6 m 2 (Or.inl (by omega))).trans ((f5 m 2 (Or.inl (by omega))).trans ((f4 m 2 (Or.inl (by omega))).trans ((f3 m 2 (Or.inl (by omega))).trans g2)))))))))
    · exact ((f11 m 7 (Or.inl (by omega))).trans ((f10 m 7 (Or.inl (by omega))).trans ((f9 m 7 (Or.inl (by omega))).trans ((f8 m 7 (Or.inl (by omega))).trans g7))))
  · exact ((f11 (m + 1) k (Or.inl (by omega))).trans ((f10 (m + 1) k (Or.inl (by omega))).trans ((f9 (m + 1) k (Or.inl (by omega))).trans ((f8 (m + 1) k (Or.inl (by omega))).trans ((f7 (m + 1) k (Or.inl (by omega))).trans ((f6 (m + 1) k (Or.inl (by omega))).trans ((f5 (m + 1) k (Or.inl (by omega))).trans ((f4 (m + 1) k (Or.inl (by omega))).trans ((g3 k (by omega)).trans ((f2 (o + 1) k (Or.inl (by omega))).trans (f1 (o + 1) k (Or.inl (by omega)))))))))))))
  · exact ((f11 (m + 2) k (Or.inl (by omega))).trans ((f10 (m + 2) k (Or.inl (by omega))).trans ((f9 (m + 2) k (Or.inl (by omega))).trans ((f8 (m + 2) k (Or.inl (by omega))).trans ((f7 (m + 2) k (Or.inl (by omega))).trans ((f6 (m + 2) k (Or.inl (by omega))).trans ((f5 (m + 2) k (Or.inl (by omega))).trans ((g4 k (by omega)).trans ((f3 (o + 2) k (Or.inl (by omega))).trans ((f2 (o + 2) k (Or.inl (by omega))).trans (f1 (o + 2) k (Or.inl (by omega)))))))))))))
  · exact ((f11 (m + 3) k (Or.inl (by omega))).trans ((f10 (m + 3) k (Or.inl (by omega))).trans ((f9 (m + 3) k (Or.inl (by omega))).trans ((f8 (m + 3) k (Or.inl (by omega))).trans ((f7 (m + 3) k (Or.inl (by omega))).trans ((f6 (m + 3) k (Or.inl (by omega))).trans ((g5 k (by omega)).trans ((f4 (o + 3) k (Or.inl (by omega))).trans ((f3 (o + 3) k (Or.inl (by omega))).trans ((f2 (o + 3) k (Or.inl (by omega))).trans (f1 (o + 3) k (Or.inl (by omega)))))))))))))
  · exact ((f11 (m + 4) k (Or.inl (by omega))).trans ((f10 (m + 4) k (Or.inl (by omega))).trans ((f9 (m + 4) k (Or.inl (by omega))).trans ((f8 (m + 4) k (Or.inl (by omega))).trans ((f7 (m + 4) k (Or.inl (by omega))).trans ((g6 k (by omega)).trans ((f5 (o + 4) k (Or.inl (by omega))).trans ((f4 (o + 4) k (Or.inl (by omega))).trans ((f3 (o + 4) k (Or.inl (by omega))).trans ((f2 (o + 4) k (Or.inl (by omega))).trans (f1 (o + 4) k (Or.inl (by omega)))))))))))))
  · exact ((f11 (m + 5) k (Or.inl (by omega))).trans ((f10 (m + 5) k (Or.inl (by omega))).trans ((f9 (m + 5) k (Or.inl (by omega))).trans ((g8 k (by omega)).trans ((f7 (o + 5) k (Or.inl (by omega))).trans ((f6 (o + 5) k (Or.inl (by omega))).trans ((f5 (o + 5) k (Or.inl (by omega))).trans ((f4 (o + 5) k (Or.inl (by omega))).trans ((f3 (o + 5) k (Or.inl (by omega))).trans ((f2 (o + 5) k (Or.inl (by omega))).trans (f1 (o + 5) k (Or.inl (by omega)))))))))))))
  · exact ((f11 (m + 6) k (Or.inl (by omega))).trans ((f10 (m + 6) k (Or.inl (by omega))).trans ((g9 k (by omega)).trans ((f8 (o + 6) k (Or.inl (by omega))).trans ((f7 (o + 6) k (Or.inl (by omega))).trans ((f6 (o + 6) k (Or.inl (by omega))).trans ((f5 (o + 6) k (Or.inl (by omega))).trans ((f4 (o + 6) k (Or.inl (by omega))).trans ((f3 (o + 6) k (Or.inl (by omega))).trans ((f2 (o + 6) k (Or.inl (by omega))).trans (f1 (o + 6) k (Or.inl (by omega)))))))))))))
  · exact ((f11 (m + 7) k (Or.inl (by omega))).trans ((g10 k (by omega)).trans ((f9 (o + 7) k (Or.inl (by omega))).trans ((f8 (o + 7) k (Or.inl (by omega))).trans ((f7 (o + 7) k (Or.inl (by omega))).trans ((f6 (o + 7) k (Or.inl (by omega))).trans ((f5 (o + 7) k (Or.inl (by omega))).trans ((f4 (o + 7) k (Or.inl (by omega))).trans ((f3 (o + 7) k (Or.inl (by omega))).trans ((f2 (o + 7) k (Or.inl (by omega))).trans (f1 (o + 7) k (Or.inl (by omega)))))))))))))
  · exact ((g11 k (by omega)).trans ((f10 (o + 8) k (Or.inl (by omega))).trans ((f9 (o + 8) k (Or.inl (by omega))).trans ((f8 (o + 8) k (Or.inl (by omega))).trans ((f7 (o + 8) k (Or.inl (by omega))).trans ((f6 (o + 8) k (Or.inl (by omega))).trans ((f5 (o + 8) k (Or.inl (by omega))).trans ((f4 (o + 8) k (Or.inl (by omega))).trans ((f3 (o + 8) k (Or.inl (by omega))).trans ((f2 (o + 8) k (Or.inl (by omega))).trans (f1 (o + 8) k (Or.inl (by omega)))))))))))))
  · exact ((f11 i k (Or.inl (by omega))).trans ((f10 i k (Or.inl (by omega))).trans ((f9 i k (Or.inl (by omega))).trans ((f8 i k (Or.inl (by omega))).trans ((f7 i k (Or.inl (by omega))).trans ((f6 i k (Or.inl (by omega))).trans ((f5 i k (Or.inl (by omega))).trans ((f4 i k (Or.inl (by omega))).trans ((f3 i k (Or.inl (by omega))).trans ((f2 i k (Or.inl (by omega))).trans (f1 i k (Or.inl (by omega)))))))))))))
theorem cs_fill {a n : Nat} {x : Int32} (ha : sh[a]? = some (20, n)) (hn : n < 2 ^ 31) : Ec X 1 325 [.ref a, .int x] (sh, I, L, R) (fun r h' => r = none ∧ ∃ I', h' = (sh, I', L, R) ∧ (∀ k, k < n → I' a k = x) ∧ ∀ i k, i ≠ a → I' i k = I i k) := by
  refine Ec.of (Nat.le_of_ble_eq_true rfl) ?_
  refine e_ipush rfl ?_
  refine e_istore rfl ?_
  refine e_aload rfl rfl ?_
  refine e_alen rfl ha (by decide) ?_
  refine e_istore rfl ?_
  refine Eg.pk [0, 1, 2, 3] [3, 2, 0, 1] rfl (by decide) ?_
  refine up_ind (p := fun j => ∀ J : Nat → Nat → Int32, (∀ k, k < j → J a k = x) → (∀ i k, i ≠ a → J i k = I i k) → Eg X xTc 0 325 5 [(0, .ref a), (1, .int x), (2, .int (nI j)), (3, .int (nI n))] [] (sh, J, L, R) (fun r h' => r = none ∧ ∃ I', h' = (sh, I', L, R) ∧ (∀ k, k < n → I' a k = x) ∧ ∀ i k, i ≠ a → I' i k = I i k)) (n := n) (j := 0) (fun j hj ih => ?_) ?_ (Nat.zero_le _) I (fun k hk => absurd hk (by omega)) (fun i k hi => rfl)
  · intro J h1 h2
    refine e_iload rfl rfl ?_
    refine e_iload rfl rfl ?_
    refine e_cge_f rfl (nI_ge hj (by omega)) ?_
    refine e_aload rfl rfl ?_
    refine e_iload rfl rfl ?_
    refine e_iload rfl rfl ?_
    refine e_iasJ (t := j) rfl ha rfl hj hn (fun J1 g1 f1 => ?_)
    refine e_iinc rfl rfl ?_
    refine e_goto rfl ?_
    refine Eg.pk [0, 1, 2, 3] [2, 0, 1, 3] rfl (by decide) ?_
    rw [nI_1]
    refine ih J1 (lt_snoc (fun k hk => ?_) g1) (fun i k hi => ?_)
    · exact (f1 a k (Or.inr (by omega))).trans (h1 k hk)
    · exact (f1 i k (Or.inl hi)).trans (h2 i k hi)
  · intro J h1 h2
    refine e_iload rfl rfl ?_
    refine e_iload rfl rfl ?_
    refine e_cge_t rfl (Int32.le_refl _) ?_
    exact Eg.ret rfl (by decide) rfl ⟨rfl, J, rfl, h1, h2⟩
end MO
