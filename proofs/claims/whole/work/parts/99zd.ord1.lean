/-! order: the pure side -/
section OP
def flN (v : Nat → Nat → Int32) (f k : Nat) : Nat := (v f k).toNatClampNeg
/-- the fleet's numbers are small -/
def WfF (v : Nat → Nat → Int32) : Prop := ∀ k, k < cn v 12 → ∀ f, 29 ≤ f ∧ f < 32 → v f k = nI (flN v f k) ∧ flN v f k ≤ 99
def oPS (v : Nat → Nat → Int32) (A : Nat) : Nat → Nat
  | 0 => 0
  | k + 1 => if A.testBit k = true then oPS v A k + flN v 31 k else oPS v A k
def oMn (A : Nat) (g : Nat → Nat) : Nat → Nat
  | 0 => 2147483647
  | w + 1 => if A.testBit w = true then oMn A g w else if g w < oMn A g w then g w else oMn A g w
def oL (v : Nat → Nat → Int32) : Nat → Nat → Nat
  | 0 => fun _ => 0
  | m + 1 => fun A => oMn A (fun w => flN v 30 w * (flN v 29 w + oPS v A (cn v 12)) + oL v m (A ||| 1 <<< w)) (cn v 12)
def oLA (v : Nat → Nat → Int32) (A : Nat) : Nat := oL v (cn v 12 - bitN A) A
def oD (v : Nat → Nat → Int32) (A w : Nat) : Nat := flN v 30 w * (flN v 29 w + oPS v A (cn v 12)) + oLA v (A ||| 1 <<< w)
theorem bit_ins {A w : Nat} (hA : A < 64) (hw : w < 6) : bitN (A ||| 1 <<< w) = if A.testBit w = true then bitN A else bitN A + 1 := by
  have h : (List.range 64).all (fun A => (List.range 6).all (fun w => decide (bitN (A ||| 1 <<< w) = if A.testBit w = true then bitN A else bitN A + 1))) = true := by decide +kernel
  exact of_decide_eq_true (rgA (rgA h hA) hw)
theorem sixty {n : Nat} (hn : n ≤ 6) : 1 <<< n ≤ 64 := by
  have h : ∀ n, n < 7 → 1 <<< n ≤ 64 := by decide
  exact h n (by omega)
theorem set_ins {n A w : Nat} (hn : n ≤ 6) (hA : A < 1 <<< n) (hw : w < n) : A ||| 1 <<< w < 1 <<< n := by
  have h : (List.range 7).all (fun n => (List.range 64).all (fun A => (List.range 6).all (fun w => decide (A < 1 <<< n → w < n → A ||| 1 <<< w < 1 <<< n)))) = true := by decide +kernel
  exact of_decide_eq_true (rgA (rgA (rgA h (i := n) (by omega)) (i := A) (Nat.lt_of_lt_of_le hA (sixty hn))) (i := w) (by omega)) hA hw
theorem set_n {n A : Nat} (hn : n ≤ 6) (hA : A < 1 <<< n) : bitN A ≤ n ∧ (bitN A = n ↔ A + 1 = 1 <<< n) := by
  have h : (List.range 7).all (fun n => (List.range 64).all (fun A => decide (A < 1 <<< n → bitN A ≤ n ∧ (bitN A = n ↔ A + 1 = 1 <<< n)))) = true := by decide +kernel
  exact of_decide_eq_true (rgA (rgA h (i := n) (by omega)) (i := A) (Nat.lt_of_lt_of_le hA (sixty hn))) hA
theorem set_free {n A : Nat} (hn : n ≤ 6) (hA : A < 1 <<< n) (hb : bitN A < n) : ∃ w, w < n ∧ ¬ A.testBit w = true := by
  have h : (List.range 7).all (fun n => (List.range 64).all (fun A => decide (A < 1 <<< n → bitN A < n → (List.range n).any (fun w => !A.testBit w) = true))) = true := by decide +kernel
  have q := of_decide_eq_true (rgA (rgA h (i := n) (by omega)) (i := A) (Nat.lt_of_lt_of_le hA (sixty hn))) hA hb
  obtain ⟨w, h1x, h2x⟩ := List.any_eq_true.mp q
  exact ⟨w, List.mem_range.mp h1x, fun e => by rw [e] at h2x; exact absurd h2x (by decide)⟩
theorem oMn_le {A n : Nat} {g : Nat → Nat} : ∀ w, w < n → ¬ A.testBit w = true → oMn A g n ≤ g w := by
  induction n with
  | zero => intro w h; exact absurd h (by omega)
  | succ n ih =>
    intro w h hb
    simp only [oMn]
    by_cases e : w = n
    · subst e
      rw [if_neg hb]; split <;> omega
    · have := ih w (by omega) hb
      split
      · exact this
      · split <;> omega
theorem oMn_at {A n : Nat} {g : Nat → Nat} : oMn A g n = 2147483647 ∨ ∃ w, w < n ∧ ¬ A.testBit w = true ∧ oMn A g n = g w := by
  induction n with
  | zero => exact Or.inl rfl
  | succ n ih =>
    have up : (oMn A g n = 2147483647 ∨ ∃ w, w < n + 1 ∧ ¬ A.testBit w = true ∧ oMn A g n = g w) := by
      rcases ih with h | ⟨w, h1x, h2x, h3x⟩
      · exact Or.inl h
      · exact Or.inr ⟨w, by omega, h2x, h3x⟩
    simp only [oMn]
    split
    · exact up
    · rename_i hb
      split
      · exact Or.inr ⟨n, by omega, hb, rfl⟩
      · exact up
theorem oMn_ext {A n : Nat} {g g' : Nat → Nat} (h : ∀ w, w < n → ¬ A.testBit w = true → g w = g' w) : oMn A g n = oMn A g' n := by
  induction n with
  | zero => rfl
  | succ n ih =>
    simp only [oMn]
    rw [ih (fun w hw => h w (by omega))]
    split
    · rfl
    · rename_i hb
      rw [h n (by omega) hb]
theorem oMn_b {A n : Nat} {g : Nat → Nat} : oMn A g n ≤ 2147483647 := by
  induction n with
  | zero => exact Nat.le_refl _
  | succ n ih =>
    simp only [oMn]
    split
    · exact ih
    · split <;> omega
section OB
variable {v : Nat → Nat → Int32} (hN : cn v 12 ≤ 6) (hF : WfF v)
theorem oPS_b (hF : WfF v) {A : Nat} : ∀ k, k ≤ cn v 12 → oPS v A k ≤ 99 * k := by
  intro k
  induction k with
  | zero => intro _; exact Nat.le_refl _
  | succ k ih =>
    intro h
    have h1x := ih (by omega)
    have h2x := (hF k (by omega) 31 (by decide)).2
    simp only [oPS]
    split <;> omega
theorem oPS_ins {A w : Nat} (hb : ¬ A.testBit w = true) : ∀ k, oPS v (A ||| 1 <<< w) k = oPS v A k + if w < k then flN v 31 w else 0 := by
  intro k
  induction k with
  | zero => rfl
  | succ k ih =>
    simp only [oPS]
    by_cases e : k = w
    · subst e
      rw [if_pos (set_bit.mpr (Or.inr rfl)), if_neg hb, ih, if_neg (by omega), if_pos (by omega), Nat.add_zero]
    · by_cases c : A.testBit k = true
      · rw [if_pos (set_bit.mpr (Or.inl c)), if_pos c, ih]
        by_cases q : w < k
        · rw [if_pos q, if_pos (by omega)]; omega
        · rw [if_neg q, if_neg (by omega)]; omega
      · rw [if_neg (fun r => by rcases set_bit.mp r with r | r; exact c r; exact e r), if_neg c, ih]
        by_cases q : w < k
        · rw [if_pos q, if_pos (by omega)]
        · rw [if_neg q, if_neg (by omega)]
theorem due_b (hF : WfF v) (hN : cn v 12 ≤ 6) {A w : Nat} (hw : w < cn v 12) : flN v 30 w * (flN v 29 w + oPS v A (cn v 12)) ≤ 68607 := by
  have h1x := (hF w hw 30 (by decide)).2
  have h2x := (hF w hw 29 (by decide)).2
  have h3x := oPS_b hF (A := A) _ (Nat.le_refl (cn v 12))
  exact Nat.le_trans (Nat.mul_le_mul h1x (show _ ≤ 693 by omega)) (by decide)
theorem oL_b (hF : WfF v) (hN : cn v 12 ≤ 6) : ∀ m A, A < 1 <<< cn v 12 → bitN A + m = cn v 12 → oL v m A ≤ m * 70000 := by
  intro m
  induction m with
  | zero => intro A _ _; exact Nat.zero_le _
  | succ m ih =>
    intro A hA hm
    obtain ⟨w, hw, hb⟩ := set_free hN hA (by omega)
    have h1x := due_b hF hN (A := A) hw
    have hi := set_ins hN hA hw
    have hc := bit_ins (A := A) (w := w) (Nat.lt_of_lt_of_le hA (sixty hN)) (by omega)
    rw [if_neg hb] at hc
    have h2x := ih (A ||| 1 <<< w) hi (by omega)
    have h3x : oL v (m + 1) A ≤ flN v 30 w * (flN v 29 w + oPS v A (cn v 12)) + oL v m (A ||| 1 <<< w) := oMn_le (g := fun w => flN v 30 w * (flN v 29 w + oPS v A (cn v 12)) + oL v m (A ||| 1 <<< w)) w hw hb
    omega
theorem oLA_b (hF : WfF v) (hN : cn v 12 ≤ 6) {A : Nat} (hA : A < 1 <<< cn v 12) : oLA v A ≤ 420000 := by
  have h1x := (set_n hN hA).1
  have h2x := oL_b hF hN (cn v 12 - bitN A) A hA (by omega)
  unfold oLA
  omega
theorem oD_b (hF : WfF v) (hN : cn v 12 ≤ 6) {A w : Nat} (hA : A < 1 <<< cn v 12) (hw : w < cn v 12) : oD v A w ≤ 500000 := by
  have h1x := due_b hF hN (A := A) hw
  have h2x := oLA_b hF hN (set_ins hN hA hw)
  unfold oD
  omega
theorem oLA_s (hN : cn v 12 ≤ 6) {A : Nat} (hA : A < 1 <<< cn v 12) (hb : bitN A < cn v 12) : oLA v A = oMn A (oD v A) (cn v 12) := by
  obtain ⟨m, hm⟩ : ∃ m, cn v 12 - bitN A = m + 1 := ⟨cn v 12 - bitN A - 1, by omega⟩
  unfold oLA
  rw [hm]
  refine oMn_ext (fun w hw hc => ?_)
  have h1x := bit_ins (A := A) (w := w) (Nat.lt_of_lt_of_le hA (sixty hN)) (by omega)
  rw [if_neg hc] at h1x
  show _ + oL v m (A ||| 1 <<< w) = _ + oL v (cn v 12 - bitN (A ||| 1 <<< w)) (A ||| 1 <<< w)
  rw [show cn v 12 - bitN (A ||| 1 <<< w) = m by omega]
theorem oLA_f (hN : cn v 12 ≤ 6) {A : Nat} (hA : A < 1 <<< cn v 12) (hb : A + 1 = 1 <<< cn v 12) : oLA v A = 0 := by
  have h1x := (set_n hN hA).2.mpr hb
  unfold oLA
  rw [h1x, Nat.sub_self]; rfl
theorem oLA_le (hN : cn v 12 ≤ 6) {A w : Nat} (hA : A < 1 <<< cn v 12) (hw : w < cn v 12) (hb : ¬ A.testBit w = true) (hc : bitN A < cn v 12) : oLA v A ≤ oD v A w := by
  rw [oLA_s hN hA hc]; exact oMn_le w hw hb
theorem oLA_at (hF : WfF v) (hN : cn v 12 ≤ 6) {A : Nat} (hA : A < 1 <<< cn v 12) (hc : bitN A < cn v 12) : ∃ w, w < cn v 12 ∧ ¬ A.testBit w = true ∧ oD v A w = oLA v A := by
  have h1x := oLA_s hN hA hc
  rcases oMn_at (A := A) (g := oD v A) (n := cn v 12) with h | ⟨w, h2x, h3x, h4x⟩
  · have := oLA_b hF hN hA
    omega
  · exact ⟨w, h2x, h3x, by omega⟩
end OB
/-- the first of those below n -/
def fsN (p : Nat → Bool) : Nat → Nat
  | 0 => 0
  | k + 1 => if fsN p k < k then fsN p k else if p k = true then k else k + 1
theorem fsN_ok {p : Nat → Bool} {n : Nat} : fsN p n ≤ n ∧ (∀ i, i < fsN p n → ¬ p i = true) ∧ (fsN p n < n → p (fsN p n) = true) := by
  induction n with
  | zero => exact ⟨Nat.le_refl _, fun i h => absurd h (Nat.not_lt_zero _), fun h => absurd h (Nat.lt_irrefl _)⟩
  | succ n ih =>
    obtain ⟨h1x, h2x, h3x⟩ := ih
    simp only [fsN]
    by_cases c : fsN p n < n
    · rw [if_pos c]; exact ⟨by omega, h2x, fun _ => h3x c⟩
    · rw [if_neg c]
      have e : fsN p n = n := by omega
      rw [e] at h2x
      by_cases q : p n = true
      · rw [if_pos q]; exact ⟨by omega, h2x, fun _ => q⟩
      · rw [if_neg q]
        refine ⟨Nat.le_refl _, fun i h => ?_, fun h => absurd h (Nat.lt_irrefl _)⟩
        by_cases e2x : i = n
        · rw [e2x]; exact q
        · exact h2x i (by omega)
def oNb (v : Nat → Nat → Int32) (A : Nat) : Nat := fsN (fun w => !A.testBit w && oD v A w == oLA v A) (cn v 12)
def oG (v : Nat → Nat → Int32) : Nat → Nat
  | 0 => 0
  | k + 1 => oG v k ||| 1 <<< oNb v (oG v k)
def oR (v : Nat → Nat → Int32) (k : Nat) : Nat := oNb v (oG v k)
theorem oNb_p {v : Nat → Nat → Int32} {A w : Nat} : (!A.testBit w && oD v A w == oLA v A) = true ↔ ¬ A.testBit w = true ∧ oD v A w = oLA v A := by
  rw [Bool.and_eq_true]
  constructor
  · rintro ⟨h1x, h2x⟩; exact ⟨fun e => by rw [e] at h1x; exact absurd h1x (by decide), eq_of_beq h2x⟩
  · rintro ⟨h1x, h2x⟩
    exact ⟨by rw [Bool.eq_false_iff.mpr h1x]; rfl, by rw [h2x]; exact beq_self_eq_true _⟩
theorem oNb_ok {v : Nat → Nat → Int32} (hF : WfF v) (hN : cn v 12 ≤ 6) {A : Nat} (hA : A < 1 <<< cn v 12) (hc : bitN A < cn v 12) : oNb v A < cn v 12 ∧ ¬ A.testBit (oNb v A) = true ∧ oD v A (oNb v A) = oLA v A ∧ ∀ w, ¬ A.testBit w = true → oD v A w = oLA v A → w < cn v 12 → oNb v A ≤ w := by
  obtain ⟨w, h1x, h2x, h3x⟩ := oLA_at hF hN hA hc
  obtain ⟨q1x, q2x, q3x⟩ := fsN_ok (p := fun w => !A.testBit w && oD v A w == oLA v A) (n := cn v 12)
  have lt : oNb v A < cn v 12 := Decidable.byContradiction (fun r => q2x w (Nat.lt_of_lt_of_le h1x (Nat.not_lt.mp r)) (oNb_p.mpr ⟨h2x, h3x⟩))
  have q4x := oNb_p.mp (q3x lt)
  exact ⟨lt, q4x.1, q4x.2, fun w h1x h2x h3x => Decidable.byContradiction (fun r => q2x w (Nat.not_le.mp r) (oNb_p.mpr ⟨h1x, h2x⟩))⟩
/-! rows -/
def oA (r : Nat → Nat) : Nat → Nat
  | 0 => 0
  | k + 1 => oA r k ||| 1 <<< r k
def oS (v : Nat → Nat → Int32) (r : Nat → Nat) : Nat → Nat
  | 0 => 0
  | k + 1 => oS v r k + flN v 31 (r k)
def oC (v : Nat → Nat → Int32) (r : Nat → Nat) : Nat → Nat
  | 0 => 0
  | k + 1 => oC v r k + flN v 30 (r k) * (flN v 29 (r k) + oS v r k)
theorem oA_bit {r : Nat → Nat} {k i : Nat} : (oA r k).testBit i = true ↔ ∃ j, j < k ∧ r j = i := by
  induction k with
  | zero =>
    constructor
    · intro h; exact absurd h (by show ¬ (0 : Nat).testBit i = true; rw [Nat.zero_testBit]; decide)
    · rintro ⟨j, h, _⟩; exact absurd h (Nat.not_lt_zero _)
  | succ k ih =>
    show (oA r k ||| 1 <<< r k).testBit i = true ↔ _
    rw [set_bit, ih]
    constructor
    · rintro (⟨j, h1x, h2x⟩ | h)
      · exact ⟨j, by omega, h2x⟩
      · exact ⟨k, by omega, h.symm⟩
    · rintro ⟨j, h1x, h2x⟩
      by_cases e : j = k
      · subst e; exact Or.inr h2x.symm
      · exact Or.inl ⟨j, by omega, h2x⟩
theorem oA_ext {r r' : Nat → Nat} {k : Nat} (h : ∀ j, j < k → r j = r' j) : oA r k = oA r' k := by
  induction k with
  | zero => rfl
  | succ k ih => show oA r k ||| 1 <<< r k = oA r' k ||| 1 <<< r' k; rw [ih (fun j hj => h j (by omega)), h k (by omega)]
theorem oA_rev {r r' : Nat → Nat} {n : Nat} (h : ∀ j, j < n → r j = r' (n - 1 - j)) : oA r n = oA r' n := by
  apply Nat.eq_of_testBit_eq
  intro i
  rw [Bool.eq_iff_iff, oA_bit, oA_bit]
  constructor
  · rintro ⟨j, h1x, h2x⟩; exact ⟨n - 1 - j, by omega, by rw [← h j h1x]; exact h2x⟩
  · rintro ⟨j, h1x, h2x⟩; exact ⟨n - 1 - j, by omega, by rw [h (n - 1 - j) (by omega), show n - 1 - (n - 1 - j) = j by omega]; exact h2x⟩
def okR (n : Nat) (r : Nat → Nat) : Prop := oA r n + 1 = 1 <<< n
section OW
variable {v : Nat → Nat → Int32} {r : Nat → Nat}
theorem oA_lt {n : Nat} (hN : n ≤ 6) (hr : ∀ k, k < n → r k < n) : ∀ k, k ≤ n → oA r k < 1 <<< n := by
  intro k
  induction k with
  | zero => intro _; rw [Nat.one_shiftLeft]; exact Nat.two_pow_pos n
  | succ k ih => intro h; exact set_ins hN (ih (by omega)) (hr k (by omega))
theorem oA_up {n : Nat} (hN : n ≤ 6) (hr : ∀ k, k < n → r k < n) (k : Nat) : ∀ j, k + j ≤ n → bitN (oA r (k + j)) ≤ bitN (oA r k) + j := by
  intro j
  induction j with
  | zero => intro _; exact Nat.le_refl _
  | succ j ih =>
    intro h
    have h1x := ih (by omega)
    have h2x := bit_ins (A := oA r (k + j)) (w := r (k + j)) (Nat.lt_of_lt_of_le (oA_lt hN hr _ (by omega)) (sixty hN)) (by have := hr (k + j) (by omega); omega)
    show bitN (oA r (k + j) ||| 1 <<< r (k + j)) ≤ _
    rw [h2x]; split <;> omega
theorem oA_n {n : Nat} (hN : n ≤ 6) (hr : ∀ k, k < n → r k < n) (ho : okR n r) {k : Nat} (hk : k ≤ n) : bitN (oA r k) = k := by
  have h0x : bitN 0 = 0 := by decide
  have h1x := oA_up hN hr 0 k (by omega)
  have h2x := oA_up hN hr k (n - k) (by omega)
  rw [show k + (n - k) = n by omega, (set_n hN (oA_lt hN hr n (Nat.le_refl _))).2.mpr ho] at h2x
  rw [Nat.zero_add] at h1x
  have h3x : oA r 0 = 0 := rfl
  rw [h3x, h0x] at h1x
  omega
theorem oA_new {n : Nat} (hN : n ≤ 6) (hr : ∀ k, k < n → r k < n) (ho : okR n r) {k : Nat} (hk : k < n) : ¬ (oA r k).testBit (r k) = true := by
  intro hb
  have h1x := oA_n hN hr ho (k := k) (by omega)
  have h2x := oA_n hN hr ho (k := k + 1) (by omega)
  have h3x := bit_ins (A := oA r k) (w := r k) (Nat.lt_of_lt_of_le (oA_lt hN hr _ (by omega)) (sixty hN)) (by have := hr k hk; omega)
  rw [if_pos hb] at h3x
  have h4x : bitN (oA r (k + 1)) = bitN (oA r k) := h3x
  omega
theorem oS_ok (hN : cn v 12 ≤ 6) (hr : ∀ k, k < cn v 12 → r k < cn v 12) (ho : okR (cn v 12) r) : ∀ k, k ≤ cn v 12 → oS v r k = oPS v (oA r k) (cn v 12) := by
  intro k
  induction k with
  | zero =>
    intro _
    have : ∀ m, oPS v 0 m = 0 := by
      intro m
      induction m with
      | zero => rfl
      | succ m ih => simp only [oPS]; rw [if_neg (by rw [Nat.zero_testBit]; decide)]; exact ih
    exact (this _).symm
  | succ k ih =>
    intro h
    show oS v r k + flN v 31 (r k) = oPS v (oA r k ||| 1 <<< r k) (cn v 12)
    rw [oPS_ins (oA_new hN hr ho (by omega)), if_pos (hr k (by omega)), ih (by omega)]
/-- a step of a row -/
theorem oC_s (hN : cn v 12 ≤ 6) (hr : ∀ k, k < cn v 12 → r k < cn v 12) (ho : okR (cn v 12) r) {k : Nat} (hk : k < cn v 12) : oC v r (k + 1) + oLA v (oA r (k + 1)) = oC v r k + oD v (oA r k) (r k) := by
  show oC v r k + flN v 30 (r k) * (flN v 29 (r k) + oS v r k) + oLA v (oA r k ||| 1 <<< r k) = _
  rw [oS_ok hN hr ho k (by omega)]
  unfold oD
  omega
theorem oC_up (hN : cn v 12 ≤ 6) (hr : ∀ k, k < cn v 12 → r k < cn v 12) (ho : okR (cn v 12) r) {k : Nat} (hk : k < cn v 12) : oC v r k + oLA v (oA r k) ≤ oC v r (k + 1) + oLA v (oA r (k + 1)) := by
  rw [oC_s hN hr ho hk]
  have := oLA_le hN (oA_lt hN hr k (by omega)) (hr k hk) (oA_new hN hr ho hk) (by rw [oA_n hN hr ho (by omega)]; exact hk)
  omega
theorem oC_ge (hN : cn v 12 ≤ 6) (hr : ∀ k, k < cn v 12 → r k < cn v 12) (ho : okR (cn v 12) r) : ∀ j k, k + j = cn v 12 → oC v r k + oLA v (oA r k) ≤ oC v r (cn v 12) := by
  intro j
  induction j with
  | zero =>
    intro k e
    rw [show k = cn v 12 by omega, oLA_f hN (oA_lt hN hr _ (Nat.le_refl _)) ho]; exact Nat.le_refl _
  | succ j ih =>
    intro k e
    exact Nat.le_trans (oC_up hN hr ho (by omega)) (ih (k + 1) (by omega))
theorem oC_lo (hN : cn v 12 ≤ 6) (hr : ∀ k, k < cn v 12 → r k < cn v 12) (ho : okR (cn v 12) r) : ∀ k, k ≤ cn v 12 → oLA v 0 ≤ oC v r k + oLA v (oA r k) := by
  intro k
  induction k with
  | zero => intro _; show oLA v 0 ≤ 0 + oLA v 0; omega
  | succ k ih => intro h; exact Nat.le_trans (ih (by omega)) (oC_up hN hr ho (by omega))
/-- a row that is least dear takes a least one at each place -/
theorem oC_eq (hN : cn v 12 ≤ 6) (hr : ∀ k, k < cn v 12 → r k < cn v 12) (ho : okR (cn v 12) r) (he : oC v r (cn v 12) = oLA v 0) {k : Nat} (hk : k < cn v 12) : oD v (oA r k) (r k) = oLA v (oA r k) := by
  have h1x := oC_lo hN hr ho k (by omega)
  have h2x := oC_ge hN hr ho (cn v 12 - (k + 1)) (k + 1) (by omega)
  have h3x := oC_s hN hr ho hk
  have h4x := oLA_le hN (oA_lt hN hr k (by omega)) (hr k hk) (oA_new hN hr ho hk) (by rw [oA_n hN hr ho (by omega)]; exact hk)
  omega
end OW
section OX
variable {v : Nat → Nat → Int32}
theorem oG_ok (hF : WfF v) (hN : cn v 12 ≤ 6) : ∀ k, k ≤ cn v 12 → oG v k < 1 <<< cn v 12 ∧ bitN (oG v k) = k := by
  intro k
  induction k with
  | zero => intro _; exact ⟨by show 0 < _; rw [Nat.one_shiftLeft]; exact Nat.two_pow_pos _, by show bitN 0 = 0; decide⟩
  | succ k ih =>
    intro h
    obtain ⟨h1x, h2x⟩ := ih (by omega)
    obtain ⟨q1x, q2x, q3x, q4x⟩ := oNb_ok hF hN h1x (by omega)
    have h3x := bit_ins (A := oG v k) (w := oNb v (oG v k)) (Nat.lt_of_lt_of_le h1x (sixty hN)) (by omega)
    rw [if_neg q2x] at h3x
    exact ⟨set_ins hN h1x q1x, by show bitN (oG v k ||| 1 <<< oNb v (oG v k)) = _; omega⟩
theorem oR_ok (hF : WfF v) (hN : cn v 12 ≤ 6) {k : Nat} (hk : k < cn v 12) : oR v k < cn v 12 ∧ ¬ (oG v k).testBit (oR v k) = true ∧ oD v (oG v k) (oR v k) = oLA v (oG v k) ∧ ∀ w, ¬ (oG v k).testBit w = true → oD v (oG v k) w = oLA v (oG v k) → w < cn v 12 → oR v k ≤ w := by
  obtain ⟨h1x, h2x⟩ := oG_ok hF hN k (by omega)
  exact oNb_ok hF hN h1x (by omega)
theorem oA_G : ∀ k, oA (oR v) k = oG v k := by
  intro k
  induction k with
  | zero => rfl
  | succ k ih => show oA (oR v) k ||| 1 <<< oNb v (oG v k) = oG v k ||| 1 <<< oNb v (oG v k); rw [ih]
theorem oR_full (hF : WfF v) (hN : cn v 12 ≤ 6) : okR (cn v 12) (oR v) := by
  obtain ⟨h1x, h2x⟩ := oG_ok hF hN _ (Nat.le_refl _)
  unfold okR
  rw [oA_G]
  exact (set_n hN h1x).2.mp h2x
theorem oR_cost (hF : WfF v) (hN : cn v 12 ≤ 6) : oC v (oR v) (cn v 12) = oLA v 0 := by
  have hr : ∀ k, k < cn v 12 → oR v k < cn v 12 := fun k hk => (oR_ok hF hN hk).1
  have ho := oR_full hF hN
  have h : ∀ k, k ≤ cn v 12 → oC v (oR v) k + oLA v (oA (oR v) k) = oLA v 0 := by
    intro k
    induction k with
    | zero => intro _; show 0 + oLA v 0 = _; omega
    | succ k ih =>
      intro h
      rw [oC_s hN hr ho (by omega), oA_G, (oR_ok hF hN (k := k) (by omega)).2.2.1, ← oA_G]
      exact ih (by omega)
  have := h _ (Nat.le_refl _)
  rw [oLA_f hN (oA_lt hN hr _ (Nat.le_refl _)) ho] at this
  omega
end OX
/-! rows as numbers -/
def dgR (n c k : Nat) : Nat := c / n ^ (n - 1 - k) % n
def preN (n : Nat) (r : Nat → Nat) : Nat → Nat
  | 0 => 0
  | k + 1 => preN n r k * n + r k
theorem pre_dg {n c : Nat} (hc : c < n ^ n) : ∀ k, k ≤ n → preN n (dgR n c) k = c / n ^ (n - k) := by
  intro k
  induction k with
  | zero => intro _; exact (Nat.div_eq_of_lt hc).symm
  | succ k ih =>
    intro h
    show preN n (dgR n c) k * n + c / n ^ (n - 1 - k) % n = _
    rw [ih (by omega), show n - k = (n - 1 - k) + 1 by omega, Nat.pow_succ, ← Nat.div_div_eq_div_mul, show n - (k + 1) = n - 1 - k by omega, Nat.mul_comm]
    exact Nat.div_add_mod _ n
theorem pre_self {n c : Nat} (hc : c < n ^ n) : preN n (dgR n c) n = c := by
  rw [pre_dg hc n (Nat.le_refl _), Nat.sub_self, Nat.pow_zero, Nat.div_one]
theorem pre_lt {n : Nat} {r : Nat → Nat} (hr : ∀ k, k < n → r k < n) : ∀ k, k ≤ n → preN n r k < n ^ k := by
  intro k
  induction k with
  | zero => intro _; exact Nat.one_pos
  | succ k ih =>
    intro h
    have h1x := ih (by omega)
    have h2x := hr k (by omega)
    show preN n r k * n + r k < n ^ k * n
    have h3x : (preN n r k + 1) * n ≤ n ^ k * n := Nat.mul_le_mul_right n h1x
    rw [Nat.succ_mul] at h3x
    omega
theorem pre_div {n : Nat} {r : Nat → Nat} (hr : ∀ k, k < n → r k < n) : ∀ j, j ≤ n → preN n r n / n ^ j = preN n r (n - j) := by
  intro j
  induction j with
  | zero => intro _; rw [Nat.pow_zero, Nat.div_one]; rfl
  | succ j ih =>
    intro h
    rw [Nat.pow_succ, ← Nat.div_div_eq_div_mul, ih (by omega)]
    obtain ⟨k, hk⟩ : ∃ k, n - j = k + 1 := ⟨n - j - 1, by omega⟩
    rw [hk, show n - (j + 1) = k by omega]
    show (preN n r k * n + r k) / n = _
    have h2x := hr k (by omega)
    rw [Nat.mul_comm, Nat.mul_add_div (by omega), Nat.div_eq_of_lt h2x, Nat.add_zero]
theorem dg_pre {n : Nat} {r : Nat → Nat} (hr : ∀ k, k < n → r k < n) {k : Nat} (hk : k < n) : dgR n (preN n r n) k = r k := by
  unfold dgR
  rw [pre_div hr (n - 1 - k) (by omega), show n - (n - 1 - k) = k + 1 by omega]
  show (preN n r k * n + r k) % n = _
  rw [Nat.mul_comm, Nat.mul_add_mod, Nat.mod_eq_of_lt (hr k hk)]
theorem pre_ext {n : Nat} {r s : Nat → Nat} {k : Nat} (h : ∀ j, j < k → r j = s j) : preN n r k = preN n s k := by
  induction k with
  | zero => rfl
  | succ k ih => show preN n r k * n + r k = preN n s k * n + s k; rw [ih (fun j hj => h j (by omega)), h k (by omega)]
theorem pre_lex {n k : Nat} {r s : Nat → Nat} (hr : ∀ k, k < n → r k < n) (hk : k < n) (he : ∀ j, j < k → r j = s j) (hl : r k < s k) : preN n r n < preN n s n := by
  have h : ∀ j, k + 1 + j ≤ n → preN n r (k + 1 + j) < preN n s (k + 1 + j) := by
    intro j
    induction j with
    | zero => intro _; show preN n r k * n + r k < preN n s k * n + s k; rw [pre_ext he]; omega
    | succ j ih =>
      intro h
      have h1x := ih (by omega)
      have h2x := hr (k + 1 + j) (by omega)
      show preN n r (k + 1 + j) * n + r (k + 1 + j) < preN n s (k + 1 + j) * n + s (k + 1 + j)
      have h3x : (preN n r (k + 1 + j) + 1) * n ≤ preN n s (k + 1 + j) * n := Nat.mul_le_mul_right n h1x
      rw [Nat.succ_mul] at h3x
      omega
  have := h (n - (k + 1)) (by omega)
  rw [show k + 1 + (n - (k + 1)) = n by omega] at this
  exact this
theorem dg_lt {n c k : Nat} (hn : 0 < n) : dgR n c k < n := Nat.mod_lt _ hn
/-- the dearness of a row by its number -/
def cstN (v : Nat → Nat → Int32) (c : Nat) : Nat := oC v (dgR (cn v 12) c) (cn v 12)
def okN (v : Nat → Nat → Int32) (c : Nat) : Prop := okR (cn v 12) (dgR (cn v 12) c)
/-- the best of the first j rows -/
def obS (v : Nat → Nat → Int32) (j : Nat) : Option Nat → Prop
  | none => ∀ c, c < j → ¬ okN v c
  | some b => b < j ∧ okN v b ∧ (∀ c, c < j → okN v c → cstN v b ≤ cstN v c) ∧ ∀ c, c < b → okN v c → cstN v b < cstN v c
theorem obS_0 {v : Nat → Nat → Int32} : obS v 0 none := fun c h => absurd h (Nat.not_lt_zero _)
theorem obS_no {v : Nat → Nat → Int32} {j : Nat} {o : Option Nat} (h : obS v j o) (hj : ¬ okN v j) : obS v (j + 1) o := by
  cases o with
  | none => intro c hc; by_cases e : c = j; rw [e]; exact hj; exact h c (by omega)
  | some b => exact ⟨by have := h.1; omega, h.2.1, fun c hc ho => h.2.2.1 c (by have : c ≠ j := fun e => by rw [e] at ho; exact hj ho
                                                                                omega) ho, h.2.2.2⟩
theorem obS_ge {v : Nat → Nat → Int32} {j b : Nat} (h : obS v j (some b)) (hj : ¬ cstN v j < cstN v b) : obS v (j + 1) (some b) := by
  refine ⟨by have := h.1; omega, h.2.1, fun c hc ho => ?_, h.2.2.2⟩
  by_cases e : c = j
  · rw [e]; omega
  · exact h.2.2.1 c (by omega) ho
theorem obS_n {v : Nat → Nat → Int32} {j : Nat} (h : obS v j none) (hj : okN v j) : obS v (j + 1) (some j) := by
  refine ⟨by omega, hj, fun c hc ho => ?_, fun c hc ho => absurd ho (h c hc)⟩
  by_cases e : c = j
  · rw [e]; exact Nat.le_refl _
  · exact absurd ho (h c (by omega))
theorem obS_lt {v : Nat → Nat → Int32} {j b : Nat} (h : obS v j (some b)) (hj : okN v j) (hl : cstN v j < cstN v b) : obS v (j + 1) (some j) := by
  refine ⟨by omega, hj, fun c hc ho => ?_, fun c hc ho => Nat.lt_of_lt_of_le hl (h.2.2.1 c hc ho)⟩
  by_cases e : c = j
  · rw [e]; exact Nat.le_refl _
  · have := h.2.2.1 c (by omega) ho; omega
/-- the best row of all is the one that takes the first of the least at each place -/
theorem obS_end {v : Nat → Nat → Int32} (hF : WfF v) (hN : cn v 12 ≤ 6) (h0x : 0 < cn v 12) {o : Option Nat} (h : obS v (cn v 12 ^ cn v 12) o) : ∃ b, o = some b ∧ cstN v b = oLA v 0 ∧ ∀ k, k < cn v 12 → dgR (cn v 12) b k = oR v k := by
  have hr : ∀ k, k < cn v 12 → oR v k < cn v 12 := fun k hk => (oR_ok hF hN hk).1
  obtain ⟨g, hg⟩ : ∃ g, preN (cn v 12) (oR v) (cn v 12) = g := ⟨_, rfl⟩
  have gl : g < cn v 12 ^ cn v 12 := by rw [← hg]; exact pre_lt hr _ (Nat.le_refl _)
  have gd : ∀ k, k < cn v 12 → dgR (cn v 12) g k = oR v k := fun k hk => by rw [← hg]; exact dg_pre hr hk
  have go : okN v g := by unfold okN okR; rw [oA_ext gd]; exact oR_full hF hN
  have oCe : ∀ {r s : Nat → Nat} (k : Nat), (∀ j, j < k → r j = s j) → oS v r k = oS v s k ∧ oC v r k = oC v s k := by
    intro r s k
    induction k with
    | zero => intro _; exact ⟨rfl, rfl⟩
    | succ k ih =>
      intro e
      obtain ⟨e1x, e2x⟩ := ih (fun j hj => e j (by omega))
      exact ⟨by show oS v r k + _ = oS v s k + _; rw [e1x, e k (by omega)], by show oC v r k + _ = oC v s k + _; rw [e1x, e2x, e k (by omega)]⟩
  have gc : cstN v g = oLA v 0 := by unfold cstN; rw [(oCe _ gd).2]; exact oR_cost hF hN
  cases o with
  | none => exact absurd go (h g gl)
  | some b =>
    obtain ⟨b1x, b2x, b3x, b4x⟩ := h
    have hd : ∀ k, k < cn v 12 → dgR (cn v 12) b k < cn v 12 := fun k _ => dg_lt h0x
    have lo : oLA v 0 ≤ cstN v b := by
      have := oC_ge hN hd b2x (cn v 12) 0 (by omega)
      have e : oC v (dgR (cn v 12) b) 0 + oLA v (oA (dgR (cn v 12) b) 0) = oLA v 0 := Nat.zero_add _
      rw [e] at this; exact this
    have bc : cstN v b = oLA v 0 := by have := b3x g gl go; omega
    refine ⟨b, rfl, bc, ?_⟩
    have main : ∀ k, k ≤ cn v 12 → ∀ j, j < k → dgR (cn v 12) b j = oR v j := by
      intro k
      induction k with
      | zero => intro _ j hj; exact absurd hj (Nat.not_lt_zero _)
      | succ k ih =>
        intro hk j hj
        have ih' := ih (by omega)
        by_cases e : j = k
        · subst e
          have eA : oA (dgR (cn v 12) b) j = oG v j := by rw [oA_ext ih', oA_G]
          have q1x := oC_eq hN hd b2x bc (k := j) (by omega)
          have q2x := oA_new hN hd b2x (k := j) (by omega)
          rw [eA] at q1x q2x
          have q3x := (oR_ok hF hN (k := j) (by omega)).2.2.2 _ q2x q1x (hd j (by omega))
          apply Decidable.byContradiction
          intro ne
          have lx := pre_lex (k := j) hr (by omega) (fun i hi => (ih' i hi).symm) (show oR v j < dgR (cn v 12) b j by omega)
          rw [hg, pre_self b1x] at lx
          have := b4x g lx go
          omega
        · exact ih' j (by omega)
    intro k hk
    exact main _ (Nat.le_refl _) k hk
/-- what order answers -/
def aOrd (v : Nat → Nat → Int32) (kw : Int32) : Int32 := if kw = 0 then nI (oLA v 0) else nI (oR v (kw.toNatClampNeg - 1))
def qOrd (v : Nat → Nat → Int32) (kw : Int32) : Int32 := if cn v 0 = 0 ∨ kw < 0 ∨ 6 < kw then -1 else if nI (cn v 12) < kw then -2 else aOrd v kw
end OP
