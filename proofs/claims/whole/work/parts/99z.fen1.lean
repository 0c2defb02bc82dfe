/-! fences: bits and sand by numbers -/
section FE
variable {X : xX} {h : xH} {sh : List (Nat × Nat)} {I : Nat → Nat → Int32} {L : Nat → Nat → Int64} {R : Nat → Nat → Option Nat} {B : Nat → Nat} {n ri p : Nat} {st : rS}
variable {m s w : Nat} {v : Nat → Nat → Int32}
def ushI (x k : Int32) : Int32 := (x.toUInt32 >>> (k.toUInt32 &&& Int32.toUInt32 31)).toInt32
def bc1x (x : Int32) : Int32 := x - (ushI x 1 &&& 1431655765)
def bc2x (x : Int32) : Int32 := (x &&& 858993459) + (ushI x 2 &&& 858993459)
def bc3x (x : Int32) : Int32 := (x + ushI x 4) &&& 252645135
def bc4x (x : Int32) : Int32 := x + ushI x 8
def bc5x (x : Int32) : Int32 := x + ushI x 16
def bcF (x : Int32) : Int32 := bc5x (bc4x (bc3x (bc2x (bc1x x)))) &&& 63
def bitN (S : Nat) : Nat := itN (fun i z => z + if S.testBit i then 1 else 0) 0 12
theorem bcF_ok {S : Nat} (h : S < 4096) : bcF (nI S) = nI (bitN S) := by
  have q : (List.range 4096).all (fun S => decide (bcF (nI S) = nI (bitN S))) = true := by decide +kernel
  exact of_decide_eq_true (List.all_eq_true.mp q S (List.mem_range.mpr h))
theorem bitN_le {S : Nat} : bitN S ≤ 12 := by
  have : ∀ n, itN (fun i z => z + if S.testBit i then 1 else 0) 0 n ≤ n := by
    intro n
    induction n with
    | zero => exact Nat.le_refl _
    | succ n ih =>
      show itN _ 0 n + (if S.testBit n then 1 else 0) ≤ n + 1
      split <;> omega
  exact this 12
theorem cs_bitCount {x : Int32} : Ec X 1 312 [.int x] h (fun r h' => r = some (.int (bcF x)) ∧ h' = h) := by
  refine Ec.of (Nat.le_of_ble_eq_true rfl) ?_
  refine e_iload rfl rfl ?_
  refine e_iload rfl rfl ?_
  refine e_ipush rfl ?_
  refine e_iushr rfl ?_
  refine e_ipush rfl ?_
  refine e_iand rfl ?_
  refine e_isub rfl ?_
  refine e_istore rfl ?_
  refine e_iload rfl rfl ?_
  refine e_ipush rfl ?_
  refine e_iand rfl ?_
  refine e_iload rfl rfl ?_
  refine e_ipush rfl ?_
  refine e_iushr rfl ?_
  refine e_ipush rfl ?_
  refine e_iand rfl ?_
  refine e_iadd rfl ?_
  refine e_istore rfl ?_
  refine e_iload rfl rfl ?_
  refine e_iload rfl rfl ?_
  refine e_ipush rfl ?_
  refine e_iushr rfl ?_
  refine e_iadd rfl ?_
  refine e_ipush rfl ?_
  refine e_iand rfl ?_
  refine e_istore rfl ?_
  refine e_iload rfl rfl ?_
  refine e_iload rfl rfl ?_
  refine e_ipush rfl ?_
  refine e_iushr rfl ?_
  refine e_iadd rfl ?_
  refine e_istore rfl ?_
  refine e_iload rfl rfl ?_
  refine e_iload rfl rfl ?_
  refine e_ipush rfl ?_
  refine e_iushr rfl ?_
  refine e_iadd rfl ?_
  refine e_istore rfl ?_
  refine e_iload rfl rfl ?_
  refine e_ipush rfl ?_
  refine e_iand rfl ?_
  exact Eg.ret rfl (by decide) rfl ⟨rfl, rfl⟩
theorem ms_bits {S : Nat} (hS : S < 2 ^ 31) : Ec X 1 183 [.int (nI S)] h (fun r h' => r = some (.int (nI (bitN S))) ∧ h' = h) := by
  refine Ec.of (Nat.le_of_ble_eq_true rfl) ?_
  refine e_ipush rfl ?_
  refine e_istore rfl ?_
  refine e_ipush rfl ?_
  refine e_istore rfl ?_
  refine Eg.pk [0, 1, 2] [2, 1, 0] rfl (by decide) ?_
  refine up_ind (p := fun j => Eg X xTc 0 183 4 [(0, .int (nI S)), (1, .int (nI (itN (fun i z => z + if S.testBit i then 1 else 0) 0 j))), (2, .int (nI j))] [] h (fun r h' => r = some (.int (nI (bitN S))) ∧ h' = h)) (n := 12) (j := 0) (fun j hj ih => ?_) ?_ (Nat.zero_le _)
  · refine e_iload rfl rfl ?_
    refine e_ipush rfl ?_
    refine e_cge_f rfl (nI_ge (b := 12) hj (by decide)) ?_
    refine e_iload rfl rfl ?_
    refine e_iload rfl rfl ?_
    refine e_iload rfl rfl ?_
    refine e_ishr rfl ?_
    refine e_ipush rfl ?_
    refine e_iand rfl ?_
    refine e_iadd rfl ?_
    rw [show (nI (itN (fun i z => z + if S.testBit i then 1 else 0) 0 j)) + (((nI S) >>> ((nI j) &&& 31)) &&& 1) = nI (itN (fun i z => z + if S.testBit i then 1 else 0) 0 (j + 1)) from by rw [nI_bit hS (by omega)]; show _ = nI (itN (fun i z => z + if S.testBit i then 1 else 0) 0 j + if S.testBit j then 1 else 0); rw [← nI_add]; split <;> rfl]
    refine e_istore rfl ?_
    refine e_iinc rfl rfl ?_
    refine e_goto rfl ?_
    refine Eg.pk [0, 1, 2] [2, 1, 0] rfl (by decide) ?_
    rw [nI_1]
    exact ih
  · refine e_iload rfl rfl ?_
    refine e_ipush rfl ?_
    refine e_cge_t rfl (Int32.le_refl _) ?_
    refine e_iload rfl rfl ?_
    exact Eg.ret rfl (by decide) rfl ⟨rfl, rfl⟩
/-! sand by numbers -/
theorem wvv_n (hw : Wf v) {t : Nat} (ht : t < cn v 1) {c d : Int32} : ∃ x, x ≤ 9 ∧ wvv v t c d = nI x := by
  obtain ⟨p, lg, sf, h1x, h2x, h3x, h4x, h5x, h6x, h7x, h8x⟩ := hw.2.1 t ht
  unfold wvv wv
  rw [h1x]
  obtain ⟨k, hk, ek⟩ := rst_nI (d + v 4 t - v 3 t * c) (n := p) (by omega) (by omega)
  rw [ek, nI_clamp (by omega)]
  obtain ⟨x, ex, lx⟩ := h8x k hk
  exact ⟨x, lx, ex⟩
def sN (v : Nat → Nat → Int32) (c : Nat) (d : Int32) : Nat := (sandF v c d).toNatClampNeg
theorem sN_eq (hw : Wf v) {c : Nat} (hc : c < 12) {d : Int32} : sandF v c d = nI (sN v c d) ∧ sN v c d ≤ 47 := by
  have h3x := hw.1.2.2.1
  have : ∀ n, n ≤ cn v 1 → ∃ x, x ≤ 20 + 9 * n ∧ itN (fun t z => z + wvv v t (nI c) d) (v 2 c) n = nI x := by
    intro n
    induction n with
    | zero => intro _; obtain ⟨x, e, l⟩ := hw.2.2.1 c hc; exact ⟨x, by omega, e⟩
    | succ n ih =>
      intro hn
      obtain ⟨x, l, e⟩ := ih (by omega)
      obtain ⟨y, l2x, e2x⟩ := wvv_n hw (t := n) (by omega) (c := nI c) (d := d)
      refine ⟨x + y, by omega, ?_⟩
      show itN (fun t z => z + wvv v t (nI c) d) (v 2 c) n + wvv v n (nI c) d = _
      rw [e, e2x, nI_add]
  obtain ⟨x, l, e⟩ := this (cn v 1) (Nat.le_refl _)
  have e1x : sandF v c d = nI x := e
  have e2x : sN v c d = x := by unfold sN; rw [e1x, nI_clamp (by omega)]
  rw [e2x]; exact ⟨e1x, by omega⟩
def mostN (v : Nat → Nat → Int32) (c a : Nat) : Nat → Nat := itN (fun j z => if z < sN v c (nI (a + j)) then sN v c (nI (a + j)) else z) 0
theorem mostN_ge {c a n : Nat} : ∀ j, j < n → sN v c (nI (a + j)) ≤ mostN v c a n := by
  induction n with
  | zero => intro j hj; omega
  | succ n ih =>
    intro j hj
    show _ ≤ if mostN v c a n < sN v c (nI (a + n)) then sN v c (nI (a + n)) else mostN v c a n
    by_cases e : j = n
    · rw [e]; split <;> omega
    · have := ih j (by omega); split <;> omega
theorem mostN_at {c a n : Nat} : mostN v c a n = 0 ∨ ∃ j, j < n ∧ mostN v c a n = sN v c (nI (a + j)) := by
  induction n with
  | zero => exact Or.inl rfl
  | succ n ih =>
    show (if mostN v c a n < sN v c (nI (a + n)) then sN v c (nI (a + n)) else mostN v c a n) = 0 ∨ ∃ j, j < n + 1 ∧ (if mostN v c a n < sN v c (nI (a + n)) then sN v c (nI (a + n)) else mostN v c a n) = _
    by_cases e : mostN v c a n < sN v c (nI (a + n))
    · rw [if_pos e]; exact Or.inr ⟨n, by omega, rfl⟩
    · rw [if_neg e]
      rcases ih with h | ⟨j, hj, h⟩
      · exact Or.inl h
      · exact Or.inr ⟨j, by omega, h⟩
theorem mostN_le (hw : Wf v) {c a n : Nat} (hc : c < 12) : mostN v c a n ≤ 47 := by
  rcases mostN_at (v := v) (c := c) (a := a) (n := n) with h | ⟨j, _, h⟩
  · omega
  · rw [h]; exact (sN_eq hw hc).2
theorem mostN_all {c a n k q : Nat} (hn : 0 < n) : (∀ j, j < n → sN v c (nI (a + j)) + k ≤ q) ↔ mostN v c a n + k ≤ q := by
  constructor
  · intro h
    rcases mostN_at (v := v) (c := c) (a := a) (n := n) with e | ⟨j, hj, e⟩
    · have := h 0 hn; omega
    · rw [e]; exact h j hj
  · intro h j hj
    have := mostN_ge (v := v) (c := c) (a := a) j hj; omega
theorem cs_mostSand (hS : SeaAt sh R s) (hV : SeaV I s v) (hw : Wf v) {c a b n : Nat} (hc : c < 12) (hn : a + n = b + 1) (hb2x : b < 2 ^ 30) : Ec X 3 18 [.ref s, .int (nI c), .int (nI a), .int (nI b)] (sh, I, L, R) (fun r h' => r = some (.int (nI (mostN v c a n))) ∧ h' = (sh, I, L, R)) := by
  refine Ec.of (Nat.le_of_ble_eq_true rfl) ?_
  refine e_ipush rfl ?_
  refine e_istore rfl ?_
  refine e_iload rfl rfl ?_
  refine e_istore rfl ?_
  refine Eg.pk [0, 1, 2, 3, 4, 5] [5, 4, 0, 1, 2, 3] rfl (by decide) ?_
  refine up_ind (p := fun j => Eg X xTc 2 18 6 [(0, .ref s), (1, .int (nI c)), (2, .int (nI a)), (3, .int (nI b)), (4, .int (nI (mostN v c a j))), (5, .int (nI (a + j)))] [] (sh, I, L, R) (fun r h' => r = some (.int (nI (mostN v c a n))) ∧ h' = (sh, I, L, R))) (n := n) (j := 0) (fun j hj ih => ?_) ?_ (Nat.zero_le _)
  · have hs := sN_eq hw hc (d := nI (a + j))
    have hm := mostN_le hw (a := a) (n := j) hc
    have hj2x : a + j < 2 ^ 31 := by omega
    refine e_iload rfl rfl ?_
    refine e_iload rfl rfl ?_
    refine e_cgt_f rfl (fun q => absurd ((nI_lti (by omega) (by omega)).mp q) (by omega)) ?_
    refine e_iload rfl rfl ?_
    refine e_aload rfl rfl ?_
    refine e_iload rfl rfl ?_
    refine e_iload rfl rfl ?_
    refine Eg.p3 rfl (by decide) (by decide) rfl (Nat.le_of_ble_eq_true rfl) (xrcv_of rfl hS.1 rfl) ((cs_sand hS hV hw hc).mono (by decide)) ?_
    refine e_max rfl (Nat.le_of_ble_eq_true rfl) ?_
    rw [show (if nI (mostN v c a j) < sandF v c (nI (a + j)) then sandF v c (nI (a + j)) else nI (mostN v c a j)) = nI (mostN v c a (j + 1)) from by rw [hs.1]; show _ = nI (if mostN v c a j < sN v c (nI (a + j)) then sN v c (nI (a + j)) else mostN v c a j); by_cases e : mostN v c a j < sN v c (nI (a + j)); (rw [if_pos ((nI_lti (by omega) (by omega)).mpr e), if_pos e]); (rw [if_neg (fun q => e ((nI_lti (by omega) (by omega)).mp q)), if_neg e])]
    refine e_istore rfl ?_
    refine e_iinc rfl rfl ?_
    refine e_goto rfl ?_
    refine Eg.pk [0, 1, 2, 3, 4, 5] [5, 4, 0, 1, 2, 3] rfl (by decide) ?_
    rw [nI_1]
    exact ih
  · refine e_iload rfl rfl ?_
    refine e_iload rfl rfl ?_
    refine e_cgt_t rfl ((nI_lti (by omega) (by omega)).mpr (by omega)) ?_
    refine e_iload rfl rfl ?_
    exact Eg.ret rfl (by decide) rfl ⟨rfl, rfl⟩
/-! bits -/
theorem and_all {a m : Nat} : a &&& m = m ↔ ∀ c, m.testBit c = true → a.testBit c = true := by
  constructor
  · intro h c hc
    rw [← h, Nat.testBit_and] at hc
    exact (Bool.and_eq_true_iff.mp hc).1
  · intro h
    apply Nat.eq_of_testBit_eq
    intro c
    rw [Nat.testBit_and]
    cases e : m.testBit c
    · simp
    · rw [h c e]; rfl
theorem and_none {a m : Nat} : a &&& m = 0 ↔ ∀ c, m.testBit c = true → a.testBit c = false := by
  constructor
  · intro h c hc
    have : (a &&& m).testBit c = false := by rw [h, Nat.zero_testBit]
    rw [Nat.testBit_and, hc] at this
    simpa using this
  · intro h
    apply Nat.eq_of_testBit_eq
    intro c
    rw [Nat.testBit_and, Nat.zero_testBit]
    cases e : m.testBit c
    · simp
    · rw [h c e]; rfl
theorem bit_12 {m c : Nat} (hm : m < 4096) (h : m.testBit c = true) : c < 12 := by
  apply Decidable.byContradiction; intro q
  have : m < 2 ^ c := Nat.lt_of_lt_of_le (show m < 2 ^ 12 from hm) (Nat.pow_le_pow_right (by decide) (by omega))
  rw [Nat.testBit_lt_two_pow this] at h; exact absurd h (by decide)
theorem set_bit {m c i : Nat} : (m ||| 1 <<< c).testBit i = true ↔ m.testBit i = true ∨ i = c := by
  rw [Nat.testBit_or, Nat.one_shiftLeft, Nat.testBit_two_pow, Bool.or_eq_true_iff, decide_eq_true_iff]
  constructor
  · rintro (h | h)
    · exact Or.inl h
    · exact Or.inr h.symm
  · rintro (h | h)
    · exact Or.inl h
    · exact Or.inr h.symm
theorem set_lt {m c : Nat} (hm : m < 4096) (hc : c < 12) : m ||| 1 <<< c < 4096 := Nat.or_lt_two_pow (n := 12) hm (bit_lt hc)
theorem nI_setb {m c : Nat} (hc : c < 32) : nI m ||| 1 <<< (nI c &&& 31) = nI (m ||| 1 <<< c) := by
  rw [show (1 : Int32) <<< (nI c &&& 31) = nI (1 <<< c) from nI_shl (F := 1) hc, nI_or]
/-- fallen and risen cells -/
def falN (A : Nat) : Nat := A &&& ((A <<< 1) ^^^ 4294967295)
def risN (A : Nat) : Nat := (A <<< 1) &&& (A ^^^ 4294967295)
theorem m1_n : (-1 : Int32) = nI 4294967295 := by decide
theorem fal_I {A : Nat} : nI A &&& (nI A <<< (1 &&& 31) ^^^ -1) = nI (falN A) := by
  rw [show nI A <<< ((1 : Int32) &&& 31) = nI (A <<< 1) from nI_shl (c := 1) (by decide), m1_n, nI_xor, nI_and]; rfl
theorem ris_I {A : Nat} : nI A <<< (1 &&& 31) &&& (nI A ^^^ -1) = nI (risN A) := by
  rw [show nI A <<< ((1 : Int32) &&& 31) = nI (A <<< 1) from nI_shl (c := 1) (by decide), m1_n, nI_xor, nI_and]; rfl
theorem ones_bit {c : Nat} (hc : c < 32) : (4294967295 : Nat).testBit c = true := by
  have := Nat.testBit_two_pow_sub_one 32 c
  rw [show (2 : Nat) ^ 32 - 1 = 4294967295 from rfl] at this
  rw [this]; exact decide_eq_true hc
theorem sh1_bit {A c : Nat} : (A <<< 1).testBit c = (decide (1 ≤ c) && A.testBit (c - 1)) := Nat.testBit_shiftLeft ..
theorem fal_bit {A c : Nat} (hc : c < 32) : (falN A).testBit c = true ↔ A.testBit c = true ∧ ¬ (1 ≤ c ∧ A.testBit (c - 1) = true) := by
  unfold falN
  rw [Nat.testBit_and, Nat.testBit_xor, ones_bit hc, sh1_bit]
  simp
  intro _
  constructor
  · rintro (h | h) q
    · omega
    · exact h
  · intro h
    by_cases e : c = 0
    · exact Or.inl e
    · exact Or.inr (h (by omega))
theorem ris_bit {A c : Nat} (hc : c < 32) : (risN A).testBit c = true ↔ ¬ A.testBit c = true ∧ (1 ≤ c ∧ A.testBit (c - 1) = true) := by
  unfold risN
  rw [Nat.testBit_and, Nat.testBit_xor, ones_bit hc, sh1_bit]
  simp
  constructor
  · rintro ⟨⟨h1x, h2x⟩, h3x⟩; exact ⟨h3x, h1x, h2x⟩
  · rintro ⟨h3x, h1x, h2x⟩; exact ⟨⟨h1x, h2x⟩, h3x⟩
/-- whether a place is open -/
theorem op_n {s u e l : Nat} (hs : s ≤ 47) (hl : l ≤ 60) (hu : u = 0 ∨ u = 3) (he : e = 0 ∨ e = 3) : pos0 (nI s + (nI u - nI e)) ≤ nI l ↔ s + u ≤ l + e := by
  have h : ∀ s, s < 48 → ∀ l, l < 61 → (pos0 (nI s + (nI 0 - nI 0)) ≤ nI l ↔ s + 0 ≤ l + 0) ∧ (pos0 (nI s + (nI 3 - nI 0)) ≤ nI l ↔ s + 3 ≤ l + 0) ∧ (pos0 (nI s + (nI 0 - nI 3)) ≤ nI l ↔ s + 0 ≤ l + 3) ∧ (pos0 (nI s + (nI 3 - nI 3)) ≤ nI l ↔ s + 3 ≤ l + 3) := by decide +kernel
  have q := h s (by omega) l (by omega)
  rcases hu with rfl | rfl <;> rcases he with rfl | rfl
  · exact q.1
  · exact q.2.2.1
  · exact q.2.1
  · exact q.2.2.2
def upN (A c : Nat) : Nat := if 1 ≤ c ∧ A.testBit (c - 1) = true then 3 else 0
def dnN (A c : Nat) : Nat := if A.testBit c = true then 3 else 0
theorem drf_n {A c : Nat} : drf A c = nI (upN A c) - nI (dnN A c) := by
  unfold drf upN dnN
  by_cases h1x : 1 ≤ c ∧ A.testBit (c - 1) = true
  · by_cases h2x : A.testBit c = true
    · rw [if_pos h1x, if_pos h2x, if_pos h1x, if_pos h2x]; rfl
    · rw [if_pos h1x, if_neg h2x, if_pos h1x, if_neg h2x]; rfl
  · by_cases h2x : A.testBit c = true
    · rw [if_neg h1x, if_pos h2x, if_neg h1x, if_pos h2x]; rfl
    · rw [if_neg h1x, if_neg h2x, if_neg h1x, if_neg h2x]; rfl
theorem opF_n (hw : Wf v) {A p l : Nat} {d : Int32} (hp : isP v p) (el : plm v p = nI l) (hl : l ≤ 60) : opF v A p d = true ↔ sN v (pcl v p) d + upN A (pcl v p) ≤ l + dnN A (pcl v p) := by
  have hc : pcl v p < 12 := by have := (hp.v hw).2.1; have := hw.1.2.1; omega
  have hs := sN_eq hw hc (d := d)
  unfold opF lvF
  rw [decide_eq_true_iff, el, hs.1, drf_n]
  refine op_n hs.2 hl ?_ ?_
  · unfold upN; split <;> simp
  · unfold dnN; split <;> simp
end FE
