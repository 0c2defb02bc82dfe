/-! RULES WITH VALUES; LOOPS; THE VIEW: what both sides hold, by the reference's fields -/
section VR
variable {X : xX} {T : Nat → Nat → Option xI} {d k pc a b g nx i j n m : Nat} {c : Int32} {q : Int64} {l : xL} {st : List Value} {sh : List (Nat × Nat)} {I : Nat → Nat → Int32} {L : Nat → Nat → Int64} {R : Nat → Nat → Option Nat} {Q : Option Value → xH → Prop} {x y v : Int32} {z w u : Int64}
theorem e_getIv (hi : T k pc = some (48, a, b, g, c, q, nx)) (hs : sh[i]? = some (b, n)) (hv : I i a = x) (kk : Eg X T d k nx l (.int x :: st) (sh, I, L, R) Q) : Eg X T d k pc l (.ref i :: st) (sh, I, L, R) Q := by
  subst hv; exact e_getI hi hs kk
theorem e_ialv (hi : T k pc = some (55, a, b, g, c, q, nx)) (hs : sh[i]? = some (20, n)) {t : Nat} (ht : x = nI t) (hx : t < n) (h31 : n < 2 ^ 31) (hv : I i t = y) (kk : Eg X T d k nx l (.int y :: st) (sh, I, L, R) Q) : Eg X T d k pc l (.int x :: .ref i :: st) (sh, I, L, R) Q := by
  subst hv; exact e_ialn hi hs ht hx h31 kk
theorem e_zalv (hi : T k pc = some (57, a, b, g, c, q, nx)) (hs : sh[i]? = some (22, n)) {t : Nat} (ht : x = nI t) (hx : t < n) (h31 : n < 2 ^ 31) (hv : I i t = y) (kk : Eg X T d k nx l (.int y :: st) (sh, I, L, R) Q) : Eg X T d k pc l (.int x :: .ref i :: st) (sh, I, L, R) Q := by
  subst hv; exact e_zaln hi hs ht hx h31 kk
theorem e_balv (hi : T k pc = some (57, a, b, g, c, q, nx)) (hs : sh[i]? = some (23, n)) {t : Nat} (ht : x = nI t) (hx : t < n) (h31 : n < 2 ^ 31) (hv : I i t = y) (kk : Eg X T d k nx l (.int y :: st) (sh, I, L, R) Q) : Eg X T d k pc l (.int x :: .ref i :: st) (sh, I, L, R) Q := by
  subst hv; exact e_baln hi hs ht hx h31 kk
theorem e_lalv (hi : T k pc = some (56, a, b, g, c, q, nx)) (hs : sh[i]? = some (21, n)) {t : Nat} (ht : x = nI t) (hx : t < n) (h31 : n < 2 ^ 31) (hv : L i t = z) (kk : Eg X T d k nx l (.long z :: st) (sh, I, L, R) Q) : Eg X T d k pc l (.int x :: .ref i :: st) (sh, I, L, R) Q := by
  subst hv; exact e_laln hi hs ht hx h31 kk
theorem e_istv {h : xH} (hi : T k pc = some (3, a, b, g, c, q, nx)) (hv : x = y) (kk : Eg X T d k nx (xst l a (.int y)) st h Q) : Eg X T d k pc l (.int x :: st) h Q := by
  subst hv; exact e_istore hi kk
theorem e_lstv {h : xH} (hi : T k pc = some (5, a, b, g, c, q, nx)) (hv : z = w) (kk : Eg X T d k nx (xst2 l a (.long w)) st h Q) : Eg X T d k pc l (.long z :: st) h Q := by
  subst hv; exact e_lstore hi kk
end VR
theorem Eg.pk {X : xX} {T : Nat → Nat → Option xI} {d k pc : Nat} {l : xL} {st : List Value} {h : xH} {Q : Option Value → xH → Prop} (ks k0 : List Nat) (e : (l.map fun q => q.1) = k0) (hn : k0.Nodup) (hh : Eg X T d k pc (xpick ks l) st h Q) : Eg X T d k pc l st h Q := Eg.pick ks (by unfold xnd; rw [e]; exact hn) hh
/-- a loop that counts up -/
theorem up_ind {p : Nat → Prop} {n : Nat} (hs : ∀ j, j < n → p (j + 1) → p j) (hn : p n) {j : Nat} (hj : j ≤ n) : p j := by
  have h : ∀ i j, j + i = n → p j := by
    intro i
    induction i with
    | zero => intro j e; rw [show j = n by omega]; exact hn
    | succ i ih => intro j e; exact hs j (by omega) (ih (j + 1) (by omega))
  exact h (n - j) j (by omega)
/-- a value worked on n times -/
def itN {α : Type} (f : Nat → α → α) (a : α) : Nat → α
  | 0 => a
  | n + 1 => f n (itN f a n)
theorem itN_ext {α : Type} {f g : Nat → α → α} {a : α} {n : Nat} (h : ∀ i z, i < n → f i z = g i z) : itN f a n = itN g a n := by
  induction n with
  | zero => rfl
  | succ n ih => simp only [itN]; rw [ih (fun i z hi => h i z (by omega)), h n _ (by omega)]
theorem itN_add {f : Nat → Int32} {a b : Int32} {n : Nat} : itN (fun i z => z + f i) (a + b) n = a + itN (fun i z => z + f i) b n := by
  induction n with
  | zero => rfl
  | succ n ih => simp only [itN]; rw [ih]; grind
theorem itN_sub {f : Nat → Int32} {a b : Int32} {n : Nat} : itN (fun i z => z - f i) (a + b) n = a + itN (fun i z => z - f i) b n := by
  induction n with
  | zero => rfl
  | succ n ih => simp only [itN]; rw [ih]; grind
/-- answers that say yes or no -/
def yn (p : Prop) [Decidable p] : Int32 := if p then 1 else 0
theorem yn_t {p : Prop} [Decidable p] (h : p) : yn p = 1 := if_pos h
theorem yn_f {p : Prop} [Decidable p] (h : ¬ p) : yn p = 0 := if_neg h
theorem yn_0 {p : Prop} [Decidable p] : yn p = 0 ↔ ¬ p := by unfold yn; split <;> simp_all
theorem yn_n0 {p : Prop} [Decidable p] : ¬ yn p = 0 ↔ p := by rw [yn_0]; exact Decidable.not_not
theorem yn_iff {p q : Prop} [Decidable p] [Decidable q] (h : p ↔ q) : yn p = yn q := by unfold yn; simp only [h]
theorem yn_01 {p : Prop} [Decidable p] : yn p = 0 ∨ yn p = 1 := by unfold yn; split <;> simp
theorem Eg.retZ {X : xX} {T : Nat → Nat → Option xI} {d k pc a b g nx : Nat} {c : Int32} {q : Int64} {l : xL} {h : xH} {Q : Option Value → xH → Prop} {x : Int32} (hi : T k pc = some (94, a, b, g, c, q, nx)) (hv : x = 0 ∨ x = 1) (hQ : Q (some (.int x)) h) : Eg X T d k pc l [.int x] h Q := Eg.ret hi (by decide) (by show (if x = 0 ∨ x = 1 then _ else _) = _; rw [if_pos hv]) hQ
/-- the reference's arrays by their fields' slots -/
def vw (I : Nat → Nat → Int32) (f k : Nat) : Int32 := if 1 ≤ f ∧ f < 32 ∧ f ≠ 19 then I (290 + f) k else 0
/-- counts: 0 cells 1 trains 2 wells 3 towns 4 ships 5 odds 6 of 7 day 8 fences 9 diggings 10 sights 11 heights 12 fleet -/
def cn (v : Nat → Nat → Int32) (j : Nat) : Nat := (v 1 j).toNatClampNeg
def WfN (v : Nat → Nat → Int32) : Prop := (∀ j, j < 13 → v 1 j = nI (cn v j)) ∧ cn v 0 ≤ 12 ∧ cn v 1 ≤ 3 ∧ cn v 2 ≤ 4 ∧ cn v 3 ≤ 4 ∧ cn v 4 ≤ 4 ∧ cn v 5 ≤ cn v 6 ∧ (1 ≤ cn v 6 ∧ cn v 6 ≤ 9) ∧ cn v 7 ≤ 20000 ∧ cn v 8 < 4096 ∧ cn v 9 ≤ 8 ∧ cn v 10 ≤ 10 ∧ cn v 11 ≤ 10 ∧ cn v 12 ≤ 6
def WfT (v : Nat → Nat → Int32) : Prop := ∀ t, t < cn v 1 → ∃ p lg sf, v 5 t = nI p ∧ 2 ≤ p ∧ p ≤ 20 ∧ v 3 t = nI lg ∧ lg ≤ 9 ∧ v 4 t = nI sf ∧ sf ≤ 29 ∧ ∀ k, k < p → ∃ x, v 6 (20 * t + k) = nI x ∧ x ≤ 9
def WfG (v : Nat → Nat → Int32) : Prop := ∀ c, c < 12 → ∃ x, v 2 c = nI x ∧ x ≤ 20
def WfP (v : Nat → Nat → Int32) : Prop := (∀ w, w < cn v 2 → ∃ c m p, v 7 w = nI c ∧ c < cn v 0 ∧ v 8 w = nI m ∧ m ≤ 60 ∧ v 9 w = nI p ∧ 1 ≤ p ∧ p ≤ 99) ∧ (∀ w, w < cn v 3 → ∃ c m p, v 10 w = nI c ∧ c < cn v 0 ∧ v 11 w = nI m ∧ m ≤ 60 ∧ v 12 w = nI p ∧ 1 ≤ p ∧ p ≤ 99)
def WfS (v : Nat → Nat → Int32) : Prop := ∀ s, s < cn v 4 → ∃ c w m b, v 13 s = nI c ∧ c < cn v 0 ∧ v 14 s = nI w ∧ w ≤ m ∧ v 15 s = nI m ∧ 1 ≤ m ∧ m ≤ 30 ∧ v 16 s = nI b ∧ b ≤ 20
/-- a sea's text is in order -/
def Wf (v : Nat → Nat → Int32) : Prop := WfN v ∧ WfT v ∧ WfG v ∧ WfP v ∧ WfS v
theorem Wf.n {v : Nat → Nat → Int32} (h : Wf v) {j : Nat} (hj : j < 13) : v 1 j = nI (cn v j) := h.1.1 j hj
/-- a train's height now -/
def wvv (v : Nat → Nat → Int32) (t : Nat) (c d : Int32) : Int32 := wv (v 5) (v 6) t (v 3 t) (v 4 t) c d
/-- the sand without fences and diggings -/
def sandF (v : Nat → Nat → Int32) (c : Nat) (d : Int32) : Int32 := itN (fun t z => z + wvv v t (nI c) d) (v 2 c) (cn v 1)
/-- whether a cell has a fence -/
def fen (F : Nat) (c : Nat) : Bool := F.testBit c
/-- what fences add -/
def drf (F : Nat) (c : Nat) : Int32 := (if 1 ≤ c ∧ F.testBit (c - 1) then 3 else 0) - (if F.testBit c then 3 else 0)
/-- how many of the first k diggings last -/
def dgn (v : Nat → Nat → Int32) : Nat → Nat := itN (fun k z => if v 1 7 ≤ v 23 k then z + 1 else z) 0
/-- what a digging takes -/
def dgt (v : Nat → Nat → Int32) (c d : Int32) (k : Nat) : Int32 := if v 20 k = c ∧ v 22 k ≤ d ∧ d ≤ v 23 k ∧ v 1 7 ≤ v 23 k then v 21 k else 0
/-- height without fences and diggings, with the fences F -/
def pos0 (x : Int32) : Int32 := if 0 < x then x else 0
def lvF (v : Nat → Nat → Int32) (F c : Nat) (d : Int32) : Int32 := pos0 (sandF v c d + drf F c)
/-- height now -/
def lv (v : Nat → Nat → Int32) (c : Nat) (d : Int32) : Int32 := pos0 (itN (fun k z => z - dgt v (nI c) d k) (sandF v c d + drf (cn v 8) c) (cn v 9))
/-- the sea at s holds the view's -/
def SeaV (I : Nat → Nat → Int32) (s : Nat) (v : Nat → Nat → Int32) : Prop := (∀ j, j < 5 → I s j = nI (cn v j)) ∧ I s 17 = nI (cn v 5) ∧ I s 18 = nI (cn v 6) ∧ (∀ c, c < 12 → I (s + 6) c = v 2 c) ∧ (∀ t, t < cn v 1 → I (s + 1) t = v 3 t ∧ I (s + 2) t = v 4 t ∧ I (s + 3) t = v 5 t ∧ ∀ k, nI k < v 5 t → k < 20 → I (s + 5) (20 * t + k) = v 6 (20 * t + k)) ∧ (∀ w, w < cn v 2 → I (s + 7) w = v 7 w ∧ I (s + 8) w = v 8 w ∧ I (s + 9) w = v 9 w) ∧ (∀ w, w < cn v 3 → I (s + 7) (4 + w) = v 10 w ∧ I (s + 8) (4 + w) = v 11 w ∧ I (s + 9) (4 + w) = v 12 w) ∧ (∀ k, k < cn v 4 → I (s + 11) k = v 15 k ∧ I (s + 12) k = v 16 k)
/-- a Moment at m: its arrays lie behind it -/
def MomAt (sh : List (Nat × Nat)) (R : Nat → Nat → Option Nat) (m : Nat) : Prop := sh[m]? = some (3, 12) ∧ ∀ j q, fs_mom[j]? = some q → sh[m + 1 + j]? = some (q.2.1, q.2.2) ∧ R m q.1 = some (m + 1 + j)
/-- the moment at m holds the view's -/
def MomV (I : Nat → Nat → Int32) (m : Nat) (v : Nat → Nat → Int32) : Prop := I m 1 = nI (cn v 7) ∧ I m 2 = nI (cn v 8) ∧ (∀ k, k < cn v 4 → I (m + 1) k = v 13 k ∧ I (m + 2) k = v 14 k ∧ I (m + 3) k = v 17 k ∧ I (m + 4) k = v 18 k) ∧ I m 7 = nI (dgn v (cn v 9)) ∧ ∀ k, k < cn v 9 → v 1 7 ≤ v 23 k → I (m + 5) (dgn v k) = v 20 k ∧ I (m + 6) (dgn v k) = v 21 k ∧ I (m + 7) (dgn v k) = v 22 k ∧ I (m + 8) (dgn v k) = v 23 k
/-! bits -/
theorem nI_bv (F : Nat) : (nI F).toBitVec = BitVec.ofNat 32 F := rfl
theorem nI_and (a b : Nat) : nI a &&& nI b = nI (a &&& b) := by
  apply Int32.toBitVec_inj.mp
  rw [Int32.toBitVec_and, nI_bv, nI_bv, nI_bv, BitVec.ofNat_and]
theorem nI_or (a b : Nat) : nI a ||| nI b = nI (a ||| b) := by
  apply Int32.toBitVec_inj.mp
  rw [Int32.toBitVec_or, nI_bv, nI_bv, nI_bv, BitVec.ofNat_or]
theorem nI_xor (a b : Nat) : nI a ^^^ nI b = nI (a ^^^ b) := by
  apply Int32.toBitVec_inj.mp
  rw [Int32.toBitVec_xor, nI_bv, nI_bv, nI_bv, BitVec.ofNat_xor]
theorem nI_31 {c : Nat} (hc : c < 32) : nI c &&& 31 = nI c := by
  have h : ∀ c, c < 32 → nI c &&& 31 = nI c := by decide
  exact h c hc
theorem nI_sm {c : Nat} (hc : c < 32) : (nI c).toBitVec.smod 32 = BitVec.ofNat 32 c := by
  have h : ∀ c, c < 32 → (nI c).toBitVec.smod 32 = BitVec.ofNat 32 c := by decide
  exact h c hc
theorem nI_shr {F c : Nat} (hF : F < 2 ^ 31) (hc : c < 32) : nI F >>> (nI c &&& 31) = nI (F >>> c) := by
  rw [nI_31 hc]
  apply Int32.toBitVec_inj.mp
  rw [Int32.toBitVec_shiftRight, nI_sm hc, nI_bv, nI_bv]
  have hm : (BitVec.ofNat 32 F).msb = false := by
    rw [BitVec.msb_eq_decide]; simp only [BitVec.toNat_ofNat]; simp; omega
  have e : (BitVec.ofNat 32 c).toNat = c := by simp; omega
  show (BitVec.ofNat 32 F).sshiftRight (BitVec.ofNat 32 c).toNat = _
  rw [e, BitVec.sshiftRight_eq_of_msb_false hm]
  apply BitVec.eq_of_toNat_eq
  have h1 : F >>> c ≤ F := Nat.shiftRight_le F c
  rw [BitVec.toNat_ushiftRight, BitVec.toNat_ofNat, BitVec.toNat_ofNat, Nat.mod_eq_of_lt (by omega), Nat.mod_eq_of_lt (by omega)]
theorem nI_shl {F c : Nat} (hc : c < 32) : nI F <<< (nI c &&& 31) = nI (F <<< c) := by
  rw [nI_31 hc]
  apply Int32.toBitVec_inj.mp
  rw [Int32.toBitVec_shiftLeft, nI_sm hc, nI_bv, nI_bv]
  have e : (BitVec.ofNat 32 c).toNat = c := by simp; omega
  apply BitVec.eq_of_toNat_eq
  show (BitVec.ofNat 32 F <<< (BitVec.ofNat 32 c).toNat).toNat = _
  rw [e, BitVec.toNat_shiftLeft, BitVec.toNat_ofNat, BitVec.toNat_ofNat, Nat.shiftLeft_eq, Nat.shiftLeft_eq, Nat.mod_mul_mod]
theorem and1 (F : Nat) : F &&& 1 = if F.testBit 0 then 1 else 0 := by
  rw [Nat.and_one_is_mod, Nat.testBit_zero]; by_cases h : F % 2 = 1
  · simp [h]
  · have : F % 2 = 0 := by omega
    simp [this]
theorem nI_bit {F c : Nat} (hF : F < 2 ^ 31) (hc : c < 32) : nI F >>> (nI c &&& 31) &&& 1 = if F.testBit c then 1 else 0 := by
  rw [nI_shr hF hc]
  show nI (F >>> c) &&& nI 1 = _
  rw [nI_and, and1, Nat.testBit_shiftRight]
  by_cases h : F.testBit (c + 0)
  · rw [if_pos h, if_pos (by simpa using h)]; rfl
  · rw [if_neg h, if_neg (by simpa using h)]; rfl
theorem drift_eq {F c : Nat} (hF : F < 4096) (hc : c < 32) : (3 : Int32) * ((nI F <<< (1 &&& 31) >>> (nI c &&& 31) &&& 1) - (nI F >>> (nI c &&& 31) &&& 1)) = drf F c := by
  have e : nI F <<< (1 &&& 31) = nI (F <<< 1) := nI_shl (c := 1) (by decide)
  have e1 : F <<< 1 = 2 * F := by rw [Nat.shiftLeft_eq]; omega
  rw [e, nI_bit (by omega) hc, nI_bit (by omega) hc]
  have e2 : (F <<< 1).testBit c = (decide (1 ≤ c) && F.testBit (c - 1)) := Nat.testBit_shiftLeft F
  unfold drf
  rw [e2]
  by_cases h1 : 1 ≤ c <;> by_cases h2 : F.testBit (c - 1) <;> by_cases h3 : F.testBit c <;> simp [h1, h2, h3] <;> decide
/-- the reference's object: its arrays by field -/
def mTab : List (Nat × Nat × Nat × Nat) := [(1, 291, 20, 14), (2, 292, 20, 12), (3, 293, 20, 3), (4, 294, 20, 3), (5, 295, 20, 3), (6, 296, 20, 60), (7, 297, 20, 4), (8, 298, 20, 4), (9, 299, 20, 4), (10, 300, 20, 4), (11, 301, 20, 4), (12, 302, 20, 4), (13, 303, 20, 4), (14, 304, 20, 4), (15, 305, 20, 4), (16, 306, 20, 4), (17, 307, 20, 4), (18, 308, 20, 4), (19, 309, 20, 4), (20, 310, 20, 8), (21, 311, 20, 8), (22, 312, 20, 8), (23, 313, 20, 8), (24, 314, 20, 10), (25, 315, 20, 10), (26, 316, 20, 10), (27, 317, 20, 10), (28, 318, 20, 10), (29, 319, 20, 6), (30, 320, 20, 6), (31, 321, 20, 6), (32, 322, 20, 7), (33, 323, 20, 12), (34, 324, 20, 3), (35, 325, 20, 3), (36, 326, 20, 3), (37, 327, 20, 60), (38, 328, 20, 4), (39, 329, 20, 4), (40, 330, 20, 4), (41, 331, 20, 4), (42, 332, 20, 4), (43, 333, 20, 4), (44, 334, 20, 4), (45, 335, 20, 4), (46, 336, 20, 4), (58, 337, 23, 400), (59, 338, 20, 1800), (60, 339, 20, 1800), (61, 340, 20, 6), (62, 341, 20, 72), (63, 342, 20, 72), (64, 343, 20, 72), (65, 344, 20, 402), (66, 345, 22, 72), (67, 346, 21, 11), (68, 347, 21, 300), (69, 348, 20, 1020), (70, 349, 20, 1), (74, 350, 20, 372), (75, 351, 20, 372), (76, 352, 20, 12), (77, 353, 20, 12), (78, 354, 20, 12), (81, 355, 20, 4), (82, 356, 20, 6), (83, 357, 20, 6), (84, 358, 20, 7000), (85, 359, 22, 4)]
def MW (sh : List (Nat × Nat)) (R : Nat → Nat → Option Nat) : Prop := sh[290]? = some (12, 88) ∧ ∀ (j : Nat) (q : Nat × Nat × Nat × Nat), mTab[j]? = some q → sh[q.2.1]? = some (q.2.2.1, q.2.2.2) ∧ R 290 q.1 = some q.2.1
def mV (I : Nat → Nat → Int32) (v : Nat → Nat → Int32) : Prop := ∀ f k, 1 ≤ f ∧ f < 32 ∧ f ≠ 19 → I (290 + f) k = v f k
theorem mV.n {I v : Nat → Nat → Int32} (h : mV I v) (hw : Wf v) {j : Nat} (hj : j < 13) : I 291 j = nI (cn v j) := (h 1 j (by decide)).trans (hw.n hj)
/-- places: the wells, then the towns -/
def pcl (v : Nat → Nat → Int32) (p : Nat) : Nat := (if p < 4 then v 7 p else v 10 (p - 4)).toNatClampNeg
def plm (v : Nat → Nat → Int32) (p : Nat) : Int32 := if p < 4 then v 8 p else v 11 (p - 4)
def pco (v : Nat → Nat → Int32) (p : Nat) : Int32 := if p < 4 then v 9 p else v 12 (p - 4)
def isP (v : Nat → Nat → Int32) (p : Nat) : Prop := p < 4 ∧ p < cn v 2 ∨ 4 ≤ p ∧ p - 4 < cn v 3
theorem isP.lt {v : Nat → Nat → Int32} {p : Nat} (h : isP v p) (hw : Wf v) : p < 8 := by
  have := hw.1.2.2.2.2.1; unfold isP at h; omega
theorem isP.v {v : Nat → Nat → Int32} {p : Nat} (h : isP v p) (hw : Wf v) : (if p < 4 then v 7 p else v 10 (p - 4)) = nI (pcl v p) ∧ pcl v p < cn v 0 ∧ (∃ x, plm v p = nI x ∧ x ≤ 60) ∧ ∃ x, pco v p = nI x ∧ 1 ≤ x ∧ x ≤ 99 := by
  have h12 := hw.1.2.1
  unfold pcl plm pco
  rcases h with ⟨h1, h2⟩ | ⟨h1, h2⟩
  · obtain ⟨c, m, p', e1, l1, e2, l2, e3, l3, l4⟩ := hw.2.2.2.1.1 p h2
    rw [if_pos h1, if_pos h1, if_pos h1, e1, nI_clamp (by omega)]
    exact ⟨rfl, l1, ⟨m, e2, l2⟩, p', e3, l3, l4⟩
  · obtain ⟨c, m, p', e1, l1, e2, l2, e3, l3, l4⟩ := hw.2.2.2.1.2 (p - 4) h2
    rw [if_neg (by omega), if_neg (by omega), if_neg (by omega), e1, nI_clamp (by omega)]
    exact ⟨rfl, l1, ⟨m, e2, l2⟩, p', e3, l3, l4⟩
theorem SeaV.p {I v : Nat → Nat → Int32} {s p : Nat} (hV : SeaV I s v) (h : isP v p) (hw : Wf v) : I (s + 7) p = nI (pcl v p) ∧ I (s + 8) p = plm v p ∧ I (s + 9) p = pco v p := by
  rw [← (h.v hw).1]
  unfold plm pco
  rcases h with ⟨h1, h2⟩ | ⟨h1, h2⟩
  · rw [if_pos h1, if_pos h1, if_pos h1]; exact hV.2.2.2.2.2.1 p h2
  · rw [if_neg (by omega), if_neg (by omega), if_neg (by omega)]
    have := hV.2.2.2.2.2.2.1 (p - 4) h2
    rw [show 4 + (p - 4) = p by omega] at this
    exact this
/-- the least dear open well of a cell: -1 without -/
def wlS (v : Nat → Nat → Int32) (c : Nat) (h : Int32) (w : Nat) (z : Int32) : Int32 := if nI (pcl v w) = nI c ∧ h ≤ plm v w ∧ (z = -1 ∨ pco v w < pco v z.toNatClampNeg) then nI w else z
def wlo (v : Nat → Nat → Int32) (c : Nat) (d : Int32) : Int32 := itN (wlS v c (lv v c d)) (-1) (cn v 2)
theorem wlo_bd {v : Nat → Nat → Int32} {c n : Nat} {h : Int32} : itN (wlS v c h) (-1) n = -1 ∨ ∃ b, b < n ∧ itN (wlS v c h) (-1) n = nI b := by
  induction n with
  | zero => exact Or.inl rfl
  | succ n ih =>
    show wlS v c h n (itN (wlS v c h) (-1) n) = -1 ∨ ∃ b, b < n + 1 ∧ wlS v c h n (itN (wlS v c h) (-1) n) = nI b
    generalize itN (wlS v c h) (-1) n = z at ih
    unfold wlS
    split
    · exact Or.inr ⟨n, by omega, rfl⟩
    · rcases ih with e | ⟨b, hb, e⟩
      · exact Or.inl e
      · exact Or.inr ⟨b, by omega, e⟩
/-- whether a ship can go to a cell -/
def canF (v : Nat → Nat → Int32) (k : Nat) (x : Int32) : Bool := decide (¬ (x < 0 ∨ nI (cn v 0) ≤ x) ∧ 0 < v 14 k ∧ lv v x.toNatClampNeg (nI (cn v 7) + 1) ≤ lv v (v 13 k).toNatClampNeg (nI (cn v 7)) + v 16 k)
theorem canF_iff {v : Nat → Nat → Int32} {k : Nat} {x : Int32} : canF v k x = true ↔ (¬ (x < 0 ∨ nI (cn v 0) ≤ x) ∧ 0 < v 14 k ∧ lv v x.toNatClampNeg (nI (cn v 7) + 1) ≤ lv v (v 13 k).toNatClampNeg (nI (cn v 7)) + v 16 k) := decide_eq_true_iff
