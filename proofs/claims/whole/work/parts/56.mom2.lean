/-! DIGGINGS as lists; a day that passes -/
section MP
variable {X : xX} {h : xH} {sh : List (Nat × Nat)} {I : Nat → Nat → Int32} {L : Nat → Nat → Int64} {R : Nat → Nat → Option Nat} {v : Nat → Nat → Int32} {w s m : Nat}
def ent (v : Nat → Nat → Int32) (k : Nat) : Int32 × Int32 × Int32 × Int32 := (v 20 k, v 21 k, v 22 k, v 23 k)
def digL (v : Nat → Nat → Int32) : Nat → List (Int32 × Int32 × Int32 × Int32) := itN (fun k l => if v 1 7 ≤ v 23 k then l ++ [ent v k] else l) []
def DigR (I : Nat → Nat → Int32) (m : Nat) (l : List (Int32 × Int32 × Int32 × Int32)) : Prop := I m 7 = nI l.length ∧ ∀ i x, l[i]? = some x → I (m + 5) i = x.1 ∧ I (m + 6) i = x.2.1 ∧ I (m + 7) i = x.2.2.1 ∧ I (m + 8) i = x.2.2.2
theorem digL_t {n : Nat} (h : v 1 7 ≤ v 23 n) : digL v (n + 1) = digL v n ++ [ent v n] := if_pos h
theorem digL_f {n : Nat} (h : ¬ v 1 7 ≤ v 23 n) : digL v (n + 1) = digL v n := if_neg h
theorem dgn_t {n : Nat} (h : v 1 7 ≤ v 23 n) : dgn v (n + 1) = dgn v n + 1 := if_pos h
theorem dgn_f {n : Nat} (h : ¬ v 1 7 ≤ v 23 n) : dgn v (n + 1) = dgn v n := if_neg h
theorem digL_len {n : Nat} : (digL v n).length = dgn v n := by
  induction n with
  | zero => rfl
  | succ n ih =>
    by_cases h : v 1 7 ≤ v 23 n
    · rw [digL_t h, dgn_t h, List.length_append, ih]; rfl
    · rw [digL_f h, dgn_f h, ih]
theorem digL_at {n k : Nat} (hk : k < n) (h : v 1 7 ≤ v 23 k) : (digL v n)[dgn v k]? = some (ent v k) := by
  induction n with
  | zero => omega
  | succ n ih =>
    by_cases e : k = n
    · subst e
      rw [digL_t h, List.getElem?_append_right (by rw [digL_len]; exact Nat.le_refl _), digL_len, Nat.sub_self]; rfl
    · have ih := ih (by omega)
      by_cases h2 : v 1 7 ≤ v 23 n
      · rw [digL_t h2, List.getElem?_append_left (by rw [digL_len]; exact dgn_lt (by omega) h)]; exact ih
      · rw [digL_f h2]; exact ih
theorem digL_get {n i : Nat} {x : Int32 × Int32 × Int32 × Int32} (h : (digL v n)[i]? = some x) : ∃ k, k < n ∧ v 1 7 ≤ v 23 k ∧ dgn v k = i ∧ x = ent v k := by
  induction n with
  | zero => cases h
  | succ n ih =>
    by_cases h2 : v 1 7 ≤ v 23 n
    · rw [digL_t h2] at h
      by_cases hi : i < (digL v n).length
      · rw [List.getElem?_append_left hi] at h
        obtain ⟨k, h3, h4, h5, h6⟩ := ih h
        exact ⟨k, by omega, h4, h5, h6⟩
      · rw [List.getElem?_append_right (by omega)] at h
        have hlen := digL_len (v := v) (n := n)
        have h0 : i - (digL v n).length = 0 := by
          apply Decidable.byContradiction; intro hc
          rw [List.getElem?_eq_none (by simp; omega)] at h
          cases h
        rw [h0] at h
        have hx : x = ent v n := by simpa using h.symm
        exact ⟨n, by omega, h2, by omega, hx⟩
    · rw [digL_f h2] at h
      obtain ⟨k, h3, h4, h5, h6⟩ := ih h
      exact ⟨k, by omega, h4, h5, h6⟩
/-- a moment without its diggings -/
def MomH (I : Nat → Nat → Int32) (m : Nat) (v : Nat → Nat → Int32) : Prop := I m 1 = nI (cn v 7) ∧ I m 2 = nI (cn v 8) ∧ ∀ k, k < cn v 4 → I (m + 1) k = v 13 k ∧ I (m + 2) k = v 14 k ∧ I (m + 3) k = v 17 k ∧ I (m + 4) k = v 18 k
theorem MomV_iff : MomV I m v ↔ MomH I m v ∧ DigR I m (digL v (cn v 9)) := by
  constructor
  · intro ⟨h1, h2, h3, h4, h5⟩
    refine ⟨⟨h1, h2, h3⟩, by rw [digL_len]; exact h4, fun i x hx => ?_⟩
    obtain ⟨k, hk, hl, e, ex⟩ := digL_get hx
    subst ex; subst e
    exact h5 k hk hl
  · intro ⟨⟨h1, h2, h3⟩, h4, h5⟩
    refine ⟨h1, h2, h3, by rw [digL_len] at h4; exact h4, fun k hk hl => ?_⟩
    exact h5 _ _ (digL_at hk hl)
theorem DigR.fr {I' : Nat → Nat → Int32} {l : List (Int32 × Int32 × Int32 × Int32)} (h : DigR I m l) (e7 : I' m 7 = I m 7) (e : ∀ i k, m + 5 ≤ i → i ≤ m + 8 → I' i k = I i k) : DigR I' m l := by
  refine ⟨e7.trans h.1, fun i x hx => ?_⟩
  rw [e _ _ (by omega) (by omega), e _ _ (by omega) (by omega), e _ _ (by omega) (by omega), e _ _ (by omega) (by omega)]
  exact h.2 i x hx
theorem MomH.fr {I' : Nat → Nat → Int32} (h : MomH I m v) (e1 : I' m 1 = I m 1) (e2 : I' m 2 = I m 2) (e : ∀ i k, m + 1 ≤ i → i ≤ m + 4 → I' i k = I i k) : MomH I' m v := by
  refine ⟨e1.trans h.1, e2.trans h.2.1, fun k hk => ?_⟩
  rw [e _ _ (by omega) (by omega), e _ _ (by omega) (by omega), e _ _ (by omega) (by omega), e _ _ (by omega) (by omega)]
  exact h.2.2 k hk
theorem filter_snoc {α : Type} {p : α → Bool} {l : List α} {i : Nat} {x : α} (hx : l[i]? = some x) : (l.take (i + 1)).filter p = (if p x then (l.take i).filter p ++ [x] else (l.take i).filter p) := by
  have hi : i < l.length := by
    apply Decidable.byContradiction; intro hc
    rw [List.getElem?_eq_none (by omega)] at hx; cases hx
  have e : l[i] = x := by rw [List.getElem?_eq_getElem hi] at hx; exact Option.some.inj hx
  rw [List.take_succ_eq_append_getElem hi, List.filter_append, e]
  by_cases h : p x
  · rw [if_pos h]; simp [h]
  · rw [if_neg h]; simp [h]
theorem cs_dropOld (hM : MomAt sh R m) {l : List (Int32 × Int32 × Int32 × Int32)} {e : Nat} (hD : DigR I m l) (hl : l.length ≤ 8) (h1 : I m 1 = nI e) : Ec X 1 49 [.ref m] (sh, I, L, R) (fun r h' => r = none ∧ ∃ I', h' = (sh, I', L, R) ∧ DigR I' m (l.filter (fun x => decide (nI e ≤ x.2.2.2))) ∧ (∀ k, k ≠ 7 → I' m k = I m k) ∧ ∀ i k, i < m ∨ (m < i ∧ i < m + 5) ∨ m + 8 < i → I' i k = I i k) := by
  refine Ec.of (Nat.le_of_ble_eq_true rfl) ?_
  refine e_ipush rfl ?_
  refine e_istore rfl ?_
  refine e_ipush rfl ?_
  refine e_istore rfl ?_
  refine Eg.pk [0, 1, 2] [2, 1, 0] rfl (by decide) ?_
  refine up_ind (p := fun j => ∀ J : Nat → Nat → Int32, (∀ i x, ((l.take j).filter (fun x => decide (nI e ≤ x.2.2.2)))[i]? = some x → J (m + 5) i = x.1 ∧ J (m + 6) i = x.2.1 ∧ J (m + 7) i = x.2.2.1 ∧ J (m + 8) i = x.2.2.2) → (∀ i, j ≤ i → J (m + 5) i = I (m + 5) i ∧ J (m + 6) i = I (m + 6) i ∧ J (m + 7) i = I (m + 7) i ∧ J (m + 8) i = I (m + 8) i) → (∀ i k, i < m + 5 ∨ m + 8 < i → J i k = I i k) → Eg X xTc 0 49 4 [(0, .ref m), (1, .int (nI ((l.take j).filter (fun x => decide (nI e ≤ x.2.2.2))).length)), (2, .int (nI j))] [] (sh, J, L, R) (fun r h' => r = none ∧ ∃ I', h' = (sh, I', L, R) ∧ DigR I' m (l.filter (fun x => decide (nI e ≤ x.2.2.2))) ∧ (∀ k, k ≠ 7 → I' m k = I m k) ∧ ∀ i k, i < m ∨ (m < i ∧ i < m + 5) ∨ m + 8 < i → I' i k = I i k)) (n := l.length) (j := 0) (fun j hj ih => ?_) ?_ (Nat.zero_le _) I (fun i x hx => by simp at hx) (fun i hi => ⟨rfl, rfl, rfl, rfl⟩) (fun i k hi => rfl)
  · intro J a1 a2 a3
    obtain ⟨x, hx⟩ : ∃ x, l[j]? = some x := ⟨l[j], List.getElem?_eq_getElem hj⟩
    obtain ⟨b1, b2, b3, b4⟩ := hD.2 j x hx
    obtain ⟨c1, c2, c3, c4⟩ := a2 j (Nat.le_refl _)
    have hk : ((l.take j).filter (fun x => decide (nI e ≤ x.2.2.2))).length ≤ j := Nat.le_trans (List.length_filter_le _ _) (by rw [List.length_take]; omega)
    generalize hkk : ((l.take j).filter (fun x => decide (nI e ≤ x.2.2.2))).length = kk at hk
    have ef := filter_snoc (p := (fun x => decide (nI e ≤ x.2.2.2))) hx
    replace c1 := c1.trans b1
    replace c2 := c2.trans b2
    replace c3 := c3.trans b3
    replace c4 := c4.trans b4
    have j7 : J m 7 = nI l.length := (a3 m 7 (by omega)).trans hD.1
    have j1 : J m 1 = nI e := (a3 m 1 (by omega)).trans h1
    refine e_iload rfl rfl ?_
    refine e_aload rfl rfl ?_
    refine e_getIv rfl hM.1 j7 ?_
    refine e_cge_f rfl (nI_ge hj (by omega)) ?_
    refine e_aload rfl rfl ?_
    refine e_getR rfl hM.1 (hM.2 7 _ rfl).2 ?_
    refine e_iload rfl rfl ?_
    refine e_ialv (t := j) (n := 8) rfl (hM.2 7 _ rfl).1 rfl (by omega) (by decide) c4 ?_
    refine e_aload rfl rfl ?_
    refine e_getIv rfl hM.1 j1 ?_
    refine e_clt_b rfl (fun b22 => ?_) (fun b22 => ?_)
    · refine e_iinc rfl rfl ?_
      refine e_goto rfl ?_
      refine Eg.pk [0, 1, 2] [2, 0, 1] rfl (by decide) ?_
      rw [if_neg (show ¬ decide (nI e ≤ x.2.2.2) = true from fun q => Int32.not_lt.mpr (of_decide_eq_true q) b22)] at ef
      rw [nI_1, ← hkk, ← ef]
      exact ih J (by rw [ef]; exact a1) (fun i hi => a2 i (by omega)) a3
    · refine e_aload rfl rfl ?_
      refine e_getR rfl hM.1 (hM.2 4 _ rfl).2 ?_
      refine e_iload rfl rfl ?_
      refine e_aload rfl rfl ?_
      refine e_getR rfl hM.1 (hM.2 4 _ rfl).2 ?_
      refine e_iload rfl rfl ?_
      refine e_ialv (t := j) (n := 8) rfl (hM.2 4 _ rfl).1 rfl (by omega) (by decide) c1 ?_
      refine e_iasJ (t := kk) (n := 8) rfl (hM.2 4 _ rfl).1 rfl (by omega) (by decide) (fun J1 g1 f1 => ?_)
      refine e_aload rfl rfl ?_
      refine e_getR rfl hM.1 (hM.2 5 _ rfl).2 ?_
      refine e_iload rfl rfl ?_
      refine e_aload rfl rfl ?_
      refine e_getR rfl hM.1 (hM.2 5 _ rfl).2 ?_
      refine e_iload rfl rfl ?_
      refine e_ialv (t := j) (n := 8) rfl (hM.2 5 _ rfl).1 rfl (by omega) (by decide) ((f1 (m + 6) j (Or.inl (by omega))).trans c2) ?_
      refine e_iasJ (t := kk) (n := 8) rfl (hM.2 5 _ rfl).1 rfl (by omega) (by decide) (fun J2 g2 f2 => ?_)
      refine e_aload rfl rfl ?_
      refine e_getR rfl hM.1 (hM.2 6 _ rfl).2 ?_
      refine e_iload rfl rfl ?_
      refine e_aload rfl rfl ?_
      refine e_getR rfl hM.1 (hM.2 6 _ rfl).2 ?_
      refine e_iload rfl rfl ?_
      refine e_ialv (t := j) (n := 8) rfl (hM.2 6 _ rfl).1 rfl (by omega) (by decide) ((f2 (m + 7) j (Or.inl (by omega))).trans ((f1 (m + 7) j (Or.inl (by omega))).trans c3)) ?_
      refine e_iasJ (t := kk) (n := 8) rfl (hM.2 6 _ rfl).1 rfl (by omega) (by decide) (fun J3 g3 f3 => ?_)
      refine e_aload rfl rfl ?_
      refine e_getR rfl hM.1 (hM.2 7 _ rfl).2 ?_
      refine e_iload rfl rfl ?_
      refine e_aload rfl rfl ?_
      refine e_getR rfl hM.1 (hM.2 7 _ rfl).2 ?_
      refine e_iload rfl rfl ?_
      refine e_ialv (t := j) (n := 8) rfl (hM.2 7 _ rfl).1 rfl (by omega) (by decide) ((f3 (m + 8) j (Or.inl (by omega))).trans ((f2 (m + 8) j (Or.inl (by omega))).trans ((f1 (m + 8) j (Or.inl (by omega))).trans c4))) ?_
      refine e_iasJ (t := kk) (n := 8) rfl (hM.2 7 _ rfl).1 rfl (by omega) (by decide) (fun J4 g4 f4 => ?_)
      refine e_iinc rfl rfl ?_
      refine e_iinc rfl rfl ?_
      refine e_goto rfl ?_
      refine Eg.pk [0, 1, 2] [2, 1, 0] rfl (by decide) ?_
      rw [if_pos (show decide (nI e ≤ x.2.2.2) = true from decide_eq_true (Int32.not_lt.mp b22))] at ef
      have el : ((l.take (j + 1)).filter (fun x => decide (nI e ≤ x.2.2.2))).length = kk + 1 := by rw [ef, List.length_append, hkk]; rfl
      rw [nI_1, nI_1, ← el]
      refine ih J4 (fun i y hy => ?_) (fun i hi => ?_) (fun i k hi => ?_)
      · rw [ef] at hy
        by_cases hi : i < kk
        · rw [List.getElem?_append_left (by omega)] at hy
          obtain ⟨d1, d2, d3, d4⟩ := a1 i y hy
          exact ⟨((f4 (m + 5) i (Or.inl (by omega))).trans ((f3 (m + 5) i (Or.inl (by omega))).trans ((f2 (m + 5) i (Or.inl (by omega))).trans ((f1 (m + 5) i (Or.inr (by omega))).trans d1)))), ((f4 (m + 6) i (Or.inl (by omega))).trans ((f3 (m + 6) i (Or.inl (by omega))).trans ((f2 (m + 6) i (Or.inr (by omega))).trans ((f1 (m + 6) i (Or.inl (by omega))).trans d2)))), ((f4 (m + 7) i (Or.inl (by omega))).trans ((f3 (m + 7) i (Or.inr (by omega))).trans ((f2 (m + 7) i (Or.inl (by omega))).trans ((f1 (m + 7) i (Or.inl (by omega))).trans d3)))), ((f4 (m + 8) i (Or.inr (by omega))).trans ((f3 (m + 8) i (Or.inl (by omega))).trans ((f2 (m + 8) i (Or.inl (by omega))).trans ((f1 (m + 8) i (Or.inl (by omega))).trans d4))))⟩
        · have e0 : i = kk := by
            have := (List.getElem?_eq_some_iff.mp hy).1
            rw [List.length_append] at this; simp at this; omega
          subst e0
          rw [List.getElem?_append_right (by omega), hkk, Nat.sub_self] at hy
          have ey : x = y := by simpa using hy
          subst ey
          exact ⟨((f4 (m + 5) i (Or.inl (by omega))).trans ((f3 (m + 5) i (Or.inl (by omega))).trans ((f2 (m + 5) i (Or.inl (by omega))).trans g1))), ((f4 (m + 6) i (Or.inl (by omega))).trans ((f3 (m + 6) i (Or.inl (by omega))).trans g2)), ((f4 (m + 7) i (Or.inl (by omega))).trans g3), g4⟩
      · obtain ⟨d1, d2, d3, d4⟩ := a2 i (by omega)
        exact ⟨((f4 (m + 5) i (Or.inl (by omega))).trans ((f3 (m + 5) i (Or.inl (by omega))).trans ((f2 (m + 5) i (Or.inl (by omega))).trans ((f1 (m + 5) i (Or.inr (by omega))).trans d1)))), ((f4 (m + 6) i (Or.inl (by omega))).trans ((f3 (m + 6) i (Or.inl (by omega))).trans ((f2 (m + 6) i (Or.inr (by omega))).trans ((f1 (m + 6) i (Or.inl (by omega))).trans d2)))), ((f4 (m + 7) i (Or.inl (by omega))).trans ((f3 (m + 7) i (Or.inr (by omega))).trans ((f2 (m + 7) i (Or.inl (by omega))).trans ((f1 (m + 7) i (Or.inl (by omega))).trans d3)))), ((f4 (m + 8) i (Or.inr (by omega))).trans ((f3 (m + 8) i (Or.inl (by omega))).trans ((f2 (m + 8) i (Or.inl (by omega))).trans ((f1 (m + 8) i (Or.inl (by omega))).trans d4))))⟩
      · exact ((f4 i k (Or.inl (by omega))).trans ((f3 i k (Or.inl (by omega))).trans ((f2 i k (Or.inl (by omega))).trans (f1 i k (Or.inl (by omega)))))).trans (a3 i k hi)
  · intro J a1 a2 a3
    have j7 : J m 7 = nI l.length := (a3 m 7 (by omega)).trans hD.1
    refine e_iload rfl rfl ?_
    refine e_aload rfl rfl ?_
    refine e_getIv rfl hM.1 j7 ?_
    refine e_cge_t rfl (Int32.le_refl _) ?_
    refine e_aload rfl rfl ?_
    refine e_iload rfl rfl ?_
    refine e_putIJ rfl hM.1 (fun J1 g1 f1 => ?_)
    rw [List.take_length] at g1 a1
    refine Eg.ret rfl (by decide) rfl ⟨rfl, J1, rfl, ⟨g1, fun i x hx => ?_⟩, fun k hk => ?_, fun i k hi => ?_⟩
    · obtain ⟨d1, d2, d3, d4⟩ := a1 i x hx
      exact ⟨((f1 (m + 5) i (Or.inl (by omega))).trans d1), ((f1 (m + 6) i (Or.inl (by omega))).trans d2), ((f1 (m + 7) i (Or.inl (by omega))).trans d3), ((f1 (m + 8) i (Or.inl (by omega))).trans d4)⟩
    · exact (f1 m k (Or.inr hk)).trans (a3 m k (by omega))
    · exact (f1 i k (Or.inl (by omega))).trans (a3 i k (by omega))
end MP
