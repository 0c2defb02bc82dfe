/-! fences: the sets, the one side -/
section FF
variable {X : xX} {h : xH} {sh : List (Nat × Nat)} {I : Nat → Nat → Int32} {L : Nat → Nat → Int64} {R : Nat → Nat → Option Nat} {B : Nat → Nat} {n ri p : Nat} {st : rS}
variable {m s w : Nat} {v : Nat → Nat → Int32}
def lmN (v : Nat → Nat → Int32) (p : Nat) : Nat := (plm v p).toNatClampNeg
theorem lmN_eq (hw : Wf v) {p : Nat} (hp : isP v p) : plm v p = nI (lmN v p) ∧ lmN v p ≤ 60 := by
  obtain ⟨x, e, l⟩ := (hp.v hw).2.2.1
  have : lmN v p = x := by unfold lmN; rw [e, nI_clamp (by omega)]
  rw [this]; exact ⟨e, l⟩
def okS (v : Nat → Nat → Int32) (t a n S : Nat) : Bool := (List.range 8).all (fun p => !(t.testBit p) || (List.range n).all (fun j => opF v (cn v 8 ||| S) p (nI (a + j))))
theorem okS_iff {t a n S : Nat} : okS v t a n S = true ↔ ∀ p, p < 8 → t.testBit p = true → ∀ j, j < n → opF v (cn v 8 ||| S) p (nI (a + j)) = true := by
  unfold okS
  rw [List.all_eq_true]
  constructor
  · intro h p hp hb j hj
    have := h p (List.mem_range.mpr hp)
    rw [hb] at this
    exact List.all_eq_true.mp this j (List.mem_range.mpr hj)
  · intro h p hp
    cases e : t.testBit p
    · rfl
    · exact List.all_eq_true.mpr (fun j hj => h p (List.mem_range.mp hp) e j (List.mem_range.mp hj))
theorem okS_n (hw : Wf v) {t a n S : Nat} (ht : ∀ p, p < 8 → t.testBit p = true → isP v p) (hn : 0 < n) : okS v t a n S = true ↔ ∀ p, p < 8 → t.testBit p = true → mostN v (pcl v p) a n + upN (cn v 8 ||| S) (pcl v p) ≤ lmN v p + dnN (cn v 8 ||| S) (pcl v p) := by
  rw [okS_iff]
  constructor
  · intro h p hp hb
    have hP := ht p hp hb
    have el := lmN_eq hw hP
    exact (mostN_all hn).mp (fun j hj => (opF_n hw hP el.1 el.2).mp (h p hp hb j hj))
  · intro h p hp hb j hj
    have hP := ht p hp hb
    have el := lmN_eq hw hP
    exact (opF_n hw hP el.1 el.2).mpr ((mostN_all hn).mpr (h p hp hb) j hj)
def mfB (v : Nat → Nat → Int32) (t a n k mf : Nat) : Prop := ∀ c, mf.testBit c = true ↔ ∃ p, p < k ∧ t.testBit p = true ∧ pcl v p = c ∧ lmN v p < mostN v (pcl v p) a n
def mnB (v : Nat → Nat → Int32) (t a n k mn : Nat) : Prop := ∀ c, mn.testBit c = true ↔ ∃ p, p < k ∧ t.testBit p = true ∧ pcl v p = c ∧ ¬ lmN v p < mostN v (pcl v p) a n ∧ lmN v p < mostN v (pcl v p) a n + 3
theorem good_ok (hw : Wf v) {t a n S mf mn : Nat} (ht : ∀ p, p < 8 → t.testBit p = true → isP v p) (hn : 0 < n) (h1x : mfB v t a n 8 mf) (h2x : mnB v t a n 8 mn) (h3x : ∀ p, p < 8 → t.testBit p = true → mostN v (pcl v p) a n ≤ lmN v p + 3) : (falN (cn v 8 ||| S) &&& mf = mf ∧ risN (cn v 8 ||| S) &&& mn = 0) ↔ okS v t a n S = true := by
  rw [okS_n hw ht hn, and_all, and_none]
  have hc : ∀ p, p < 8 → t.testBit p = true → pcl v p < 32 := fun p hp hb => by have := ((ht p hp hb).v hw).2.1; have := hw.1.2.1; omega
  generalize cn v 8 ||| S = A
  constructor
  · rintro ⟨g1x, g2x⟩ p hp hb
    have q3x := h3x p hp hb
    have c1x : lmN v p < mostN v (pcl v p) a n → upN A (pcl v p) = 0 ∧ dnN A (pcl v p) = 3 := fun q => by
      have := (fal_bit (hc p hp hb)).mp (g1x _ ((h1x _).mpr ⟨p, hp, hb, rfl, q⟩))
      exact ⟨if_neg this.2, if_pos this.1⟩
    have c2x : ¬ lmN v p < mostN v (pcl v p) a n → lmN v p < mostN v (pcl v p) a n + 3 → upN A (pcl v p) = 0 ∨ dnN A (pcl v p) = 3 := fun q1x q2x => by
      have := g2x _ ((h2x _).mpr ⟨p, hp, hb, rfl, q1x, q2x⟩)
      by_cases e : A.testBit (pcl v p) = true
      · exact Or.inr (if_pos e)
      · refine Or.inl (if_neg (fun r => ?_))
        rw [(ris_bit (hc p hp hb)).mpr ⟨e, r⟩] at this; exact absurd this (by decide)
    have u3x : upN A (pcl v p) ≤ 3 := by unfold upN; split <;> omega
    by_cases e1x : lmN v p < mostN v (pcl v p) a n
    · have := c1x e1x; omega
    · by_cases e2x : lmN v p < mostN v (pcl v p) a n + 3
      · have := c2x e1x e2x; omega
      · omega
  · intro h
    refine ⟨fun c q => ?_, fun c q => ?_⟩
    · obtain ⟨p, hp, hb, rfl, q1x⟩ := (h1x c).mp q
      have := h p hp hb
      refine (fal_bit (hc p hp hb)).mpr ⟨?_, fun r => ?_⟩
      · apply Decidable.byContradiction; intro r
        rw [show dnN A (pcl v p) = 0 from if_neg r] at this; omega
      · rw [show upN A (pcl v p) = 3 from if_pos r] at this
        have d3x : dnN A (pcl v p) ≤ 3 := by unfold dnN; split <;> omega
        omega
    · obtain ⟨p, hp, hb, rfl, q1x, q2x⟩ := (h2x c).mp q
      have := h p hp hb
      cases e : (risN A).testBit (pcl v p)
      · rfl
      · have r := (ris_bit (hc p hp hb)).mp e
        rw [show upN A (pcl v p) = 3 from if_pos r.2, show dnN A (pcl v p) = 0 from if_neg r.1] at this
        omega
theorem ok_nev (hw : Wf v) {t a n S p : Nat} (ht : ∀ p, p < 8 → t.testBit p = true → isP v p) (hn : 0 < n) (hp : p < 8) (hb : t.testBit p = true) (h : ¬ mostN v (pcl v p) a n ≤ lmN v p + 3) : ¬ okS v t a n S = true := by
  rw [okS_n hw ht hn]
  intro q
  have := q p hp hb
  have d3x : dnN (cn v 8 ||| S) (pcl v p) ≤ 3 := by unfold dnN; split <;> omega
  omega
def oI : Option Nat → Int32
  | none => -2
  | some b => nI b
def oB : Option Nat → Nat
  | none => 13
  | some b => bitN b
def bsS (v : Nat → Nat → Int32) (t a n S : Nat) (z : Option Nat) : Option Nat := if S &&& cn v 8 = 0 ∧ bitN S < oB z ∧ okS v t a n S = true then some S else z
def bst (v : Nat → Nat → Int32) (t a n : Nat) : Nat → Option Nat := itN (bsS v t a n) none
theorem bst_s {t a n S : Nat} : bst v t a n (S + 1) = bsS v t a n S (bst v t a n S) := rfl
theorem bst_lt {t a n k b : Nat} (h : bst v t a n k = some b) : b < k := by
  induction k with
  | zero => cases (show (none : Option Nat) = some b from h)
  | succ k ih =>
    rw [bst_s] at h
    unfold bsS at h
    split at h
    · injection h with e; omega
    · have := ih h; omega
theorem bst_no {t a n k : Nat} (h : ∀ S, ¬ okS v t a n S = true) : bst v t a n k = none := by
  induction k with
  | zero => rfl
  | succ k ih => rw [bst_s, ih]; exact if_neg (fun q => h k q.2.2)
theorem cs_bitCountN {S : Nat} (hS : S < 4096) : Ec X 1 312 [.int (nI S)] h (fun r h' => r = some (.int (nI (bitN S))) ∧ h' = h) := by
  rw [← bcF_ok hS]; exact cs_bitCount
theorem two_le {c : Nat} (hc : c ≤ 12) : 1 <<< c ≤ 4096 := by
  have : ∀ c, c < 13 → 1 <<< c ≤ 4096 := by decide
  exact this c (by omega)
theorem rm_cmp {l k : Nat} (hl : l ≤ 60) (hk : k ≤ 47) : (-3 ≤ nI l - nI k ↔ k ≤ l + 3) ∧ (0 ≤ nI l - nI k ↔ k ≤ l) ∧ (3 ≤ nI l - nI k ↔ k + 3 ≤ l) := by
  have h : ∀ l, l < 61 → ∀ k, k < 48 → (-3 ≤ nI l - nI k ↔ k ≤ l + 3) ∧ (0 ≤ nI l - nI k ↔ k ≤ l) ∧ (3 ≤ nI l - nI k ↔ k + 3 ≤ l) := by decide +kernel
  exact h l (by omega) k (by omega)
theorem nI_ij {a b : Nat} (ha : a < 2 ^ 31) (hb : b < 2 ^ 31) : nI a = nI b ↔ a = b := by
  constructor
  · intro h; have := congrArg Int32.toNatClampNeg h; rw [nI_clamp ha, nI_clamp hb] at this; exact this
  · intro h; rw [h]
theorem ite_n0 {b : Bool} : (¬ (if b = true then (1 : Int32) else 0) = 0) ↔ b = true := by cases b <;> decide
theorem ite_0 {b : Bool} : (if b = true then (1 : Int32) else 0) = 0 ↔ ¬ b = true := by cases b <;> decide
theorem cs_leastSet (hS : SeaAt sh R s) (hV : SeaV I s v) (hw : Wf v) (hM : MomAt sh R m) (hms : R m 0 = some s) (hW : MomV I m v) {t a n mf mn : Nat} (hmf : mf < 4096) (hmn : mn < 4096) (hG : ∀ S, (falN (cn v 8 ||| S) &&& mf = mf ∧ risN (cn v 8 ||| S) &&& mn = 0) ↔ okS v t a n S = true) : Ec X 2 19 [.ref m, .int (nI mf), .int (nI mn)] (sh, I, L, R) (fun r h' => r = some (.int (oI (bst v t a n (1 <<< cn v 0)))) ∧ h' = (sh, I, L, R)) := by
  have h12x := hw.1.2.1
  have K := two_le h12x
  have h8x := hw.1.2.2.2.2.2.2.2.2.2.1
  refine Ec.of (Nat.le_of_ble_eq_true rfl) ?_
  refine e_ipush rfl ?_
  refine e_istore rfl ?_
  refine e_ipush rfl ?_
  refine e_istore rfl ?_
  refine e_ipush rfl ?_
  refine e_istore rfl ?_
  refine Eg.pk [0, 1, 2, 3, 4, 5] [5, 4, 3, 0, 1, 2] rfl (by decide) ?_
  refine up_ind (p := fun S => Eg X xTc 1 19 10 [(0, .ref m), (1, .int (nI mf)), (2, .int (nI mn)), (3, .int (oI (bst v t a n S))), (4, .int (nI (oB (bst v t a n S)))), (5, .int (nI S))] [] (sh, I, L, R) (fun r h' => r = some (.int (oI (bst v t a n (1 <<< cn v 0)))) ∧ h' = (sh, I, L, R))) (n := 1 <<< cn v 0) (j := 0) (fun S hj ih => ?_) ?_ (Nat.zero_le _)
  · rw [bst_s] at ih
    generalize bst v t a n S = z at ih ⊢
    have zb : oB z < 2 ^ 31 := by cases z; decide; exact Nat.lt_of_le_of_lt bitN_le (by decide)
    have sb := bitN_le (S := S)
    have fl : falN (cn v 8 ||| S) &&& mf < 2 ^ 31 := Nat.lt_of_le_of_lt Nat.and_le_right (by omega)
    have rl : risN (cn v 8 ||| S) &&& mn < 2 ^ 31 := Nat.lt_of_le_of_lt Nat.and_le_right (by omega)
    have al : S &&& cn v 8 < 2 ^ 31 := Nat.lt_of_le_of_lt Nat.and_le_right (by omega)
    refine e_iload rfl rfl ?_
    refine e_ipush rfl ?_
    refine e_aload rfl rfl ?_
    refine e_getR rfl hM.1 hms ?_
    refine e_getIv rfl hS.1 (hV.1 0 (by decide)) ?_
    refine e_ishl rfl ?_
    rw [show 1 <<< ((nI (cn v 0)) &&& 31) = nI (1 <<< cn v 0) from nI_shl (F := 1) (by omega)]
    refine e_cge_f rfl (nI_ge hj (by omega)) ?_
    refine e_aload rfl rfl ?_
    refine e_getIv rfl hM.1 hW.2.1 ?_
    refine e_iload rfl rfl ?_
    refine e_ior rfl ?_
    rw [show (nI (cn v 8)) ||| (nI S) = nI (cn v 8 ||| S) from nI_or _ _]
    refine e_istore rfl ?_
    refine e_iload rfl rfl ?_
    refine e_iload rfl rfl ?_
    refine e_ipush rfl ?_
    refine e_ishl rfl ?_
    refine e_ipush rfl ?_
    refine e_ixor rfl ?_
    refine e_iand rfl ?_
    rw [show (nI (cn v 8 ||| S)) &&& (((nI (cn v 8 ||| S)) <<< (1 &&& 31)) ^^^ ((-1))) = nI (falN (cn v 8 ||| S)) from fal_I]
    refine e_istore rfl ?_
    refine e_iload rfl rfl ?_
    refine e_ipush rfl ?_
    refine e_ishl rfl ?_
    refine e_iload rfl rfl ?_
    refine e_ipush rfl ?_
    refine e_ixor rfl ?_
    refine e_iand rfl ?_
    rw [show ((nI (cn v 8 ||| S)) <<< (1 &&& 31)) &&& ((nI (cn v 8 ||| S)) ^^^ ((-1))) = nI (risN (cn v 8 ||| S)) from ris_I]
    refine e_istore rfl ?_
    refine e_iload rfl rfl ?_
    refine e_iload rfl rfl ?_
    refine e_iand rfl ?_
    rw [show (nI (falN (cn v 8 ||| S))) &&& (nI mf) = nI (falN (cn v 8 ||| S) &&& mf) from nI_and _ _]
    refine e_iload rfl rfl ?_
    refine e_cne_b rfl (fun b60x => ?_) (fun b60x => ?_)
    · refine e_ipush rfl ?_
      refine e_istore rfl ?_
      refine e_iload rfl rfl ?_
      refine e_ifeq_t rfl rfl ?_
      refine e_iinc rfl rfl ?_
      refine e_goto rfl ?_
      refine Eg.pk [0, 1, 2, 3, 4, 5] [5, 9, 8, 7, 6, 0, 1, 2, 3, 4] rfl (by decide) ?_
      rw [nI_1]
      rw [show bsS v t a n S z = z from if_neg (fun q => b60x ((nI_ij fl (by omega)).mpr ((hG S).mpr q.2.2).1))] at ih
      exact ih
    · refine e_iload rfl rfl ?_
      refine e_iload rfl rfl ?_
      refine e_iand rfl ?_
      rw [show (nI (risN (cn v 8 ||| S))) &&& (nI mn) = nI (risN (cn v 8 ||| S) &&& mn) from nI_and _ _]
      refine e_ifne_b rfl (fun b67x => ?_) (fun b67x => ?_)
      · refine e_ipush rfl ?_
        refine e_istore rfl ?_
        refine e_iload rfl rfl ?_
        refine e_ifeq_t rfl rfl ?_
        refine e_iinc rfl rfl ?_
        refine e_goto rfl ?_
        refine Eg.pk [0, 1, 2, 3, 4, 5] [5, 9, 8, 7, 6, 0, 1, 2, 3, 4] rfl (by decide) ?_
        rw [nI_1]
        rw [show bsS v t a n S z = z from if_neg (fun q => b67x ((nI_ij (b := 0) rl (by decide)).mpr ((hG S).mpr q.2.2).2))] at ih
        exact ih
      · refine e_ipush rfl ?_
        refine e_goto rfl ?_
        refine e_istore rfl ?_
        refine e_iload rfl rfl ?_
        refine e_ifeq_f rfl (by decide) ?_
        refine e_iload rfl rfl ?_
        refine e_aload rfl rfl ?_
        refine e_getIv rfl hM.1 hW.2.1 ?_
        refine e_iand rfl ?_
        rw [show (nI S) &&& (nI (cn v 8)) = nI (S &&& cn v 8) from nI_and _ _]
        refine e_ifne_b rfl (fun b89x => ?_) (fun b89x => ?_)
        · refine e_iinc rfl rfl ?_
          refine e_goto rfl ?_
          refine Eg.pk [0, 1, 2, 3, 4, 5] [5, 9, 8, 7, 6, 0, 1, 2, 3, 4] rfl (by decide) ?_
          rw [nI_1]
          rw [show bsS v t a n S z = z from if_neg (fun q => b89x ((nI_ij (b := 0) al (by decide)).mpr q.1))] at ih
          exact ih
        · refine e_iload rfl rfl ?_
          refine Eg.p1 rfl (by decide) (by decide) rfl (Nat.le_of_ble_eq_true rfl) (xrcv_ofs (Or.inl rfl)) ((cs_bitCountN (S := S) (by omega)).mono (by decide)) ?_
          refine e_iload rfl rfl ?_
          refine e_cge_b rfl (fun b99x => ?_) (fun b99x => ?_)
          · refine e_iinc rfl rfl ?_
            refine e_goto rfl ?_
            refine Eg.pk [0, 1, 2, 3, 4, 5] [5, 9, 8, 7, 6, 0, 1, 2, 3, 4] rfl (by decide) ?_
            rw [nI_1]
            rw [show bsS v t a n S z = z from if_neg (fun q => absurd ((nI_lei zb (by omega)).mp b99x) (by omega))] at ih
            exact ih
          · refine e_iload rfl rfl ?_
            refine e_istore rfl ?_
            refine e_iload rfl rfl ?_
            refine Eg.p1 rfl (by decide) (by decide) rfl (Nat.le_of_ble_eq_true rfl) (xrcv_ofs (Or.inl rfl)) ((cs_bitCountN (S := S) (by omega)).mono (by decide)) ?_
            refine e_istore rfl ?_
            refine e_iinc rfl rfl ?_
            refine e_goto rfl ?_
            refine Eg.pk [0, 1, 2, 3, 4, 5] [5, 4, 3, 9, 8, 7, 6, 0, 1, 2] rfl (by decide) ?_
            rw [nI_1]
            have c3x := (hG S).mp ⟨(nI_ij fl (by omega)).mp b60x, (nI_ij (b := 0) rl (by decide)).mp b67x⟩
            have c1x := (nI_ij (b := 0) al (by decide)).mp b89x
            have c2x : bitN S < oB z := Decidable.byContradiction (fun q => b99x ((nI_lei zb (by omega)).mpr (by omega)))
            rw [show bsS v t a n S z = some S from if_pos ⟨c1x, c2x, c3x⟩] at ih
            exact ih
  · refine e_iload rfl rfl ?_
    refine e_ipush rfl ?_
    refine e_aload rfl rfl ?_
    refine e_getR rfl hM.1 hms ?_
    refine e_getIv rfl hS.1 (hV.1 0 (by decide)) ?_
    refine e_ishl rfl ?_
    rw [show 1 <<< ((nI (cn v 0)) &&& 31) = nI (1 <<< cn v 0) from nI_shl (F := 1) (by omega)]
    refine e_cge_t rfl (Int32.le_refl _) ?_
    refine e_iload rfl rfl ?_
    exact Eg.ret rfl (by decide) rfl ⟨rfl, rfl⟩
theorem cs_fewestFences (hS : SeaAt sh R s) (hV : SeaV I s v) (hw : Wf v) (hM : MomAt sh R m) (hms : R m 0 = some s) (hW : MomV I m v) {f t a b n : Nat} (ht2x : t < 256) (ht : ∀ p, p < 8 → t.testBit p = true → isP v p) (hn : a + n = b + 1) (hn0x : 0 < n) (hb2x : b < 2 ^ 30) : Ec X 4 17 [.ref f, .ref m, .int (nI t), .int (nI a), .int (nI b)] (sh, I, L, R) (fun r h' => r = some (.int (oI (bst v t a n (1 <<< cn v 0)))) ∧ h' = (sh, I, L, R)) := by
  have h12x := hw.1.2.1
  refine Ec.of (Nat.le_of_ble_eq_true rfl) ?_
  refine e_ipush rfl ?_
  refine e_istore rfl ?_
  refine e_ipush rfl ?_
  refine e_istore rfl ?_
  refine e_ipush rfl ?_
  refine e_istore rfl ?_
  refine Eg.pk [0, 1, 2, 3, 4, 5, 6, 7] [7, 6, 5, 0, 1, 2, 3, 4] rfl (by decide) ?_
  refine up_ind (p := fun p => ∀ mf mn, mf < 4096 → mn < 4096 → mfB v t a n p mf → mnB v t a n p mn → (∀ q, q < p → t.testBit q = true → mostN v (pcl v q) a n ≤ lmN v q + 3) → Eg X xTc 3 17 9 [(0, .ref f), (1, .ref m), (2, .int (nI t)), (3, .int (nI a)), (4, .int (nI b)), (5, .int (nI mf)), (6, .int (nI mn)), (7, .int (nI p))] [] (sh, I, L, R) (fun r h' => r = some (.int (oI (bst v t a n (1 <<< cn v 0)))) ∧ h' = (sh, I, L, R))) (n := 8) (j := 0) (fun p hj ih mf mn a1x a2x a3x a4x a5x => ?_) (fun mf mn a1x a2x a3x a4x a5x => ?_) (Nat.zero_le _) 0 0 (by decide) (by decide) (fun c => ⟨fun q => absurd q (by rw [Nat.zero_testBit]; decide), fun ⟨p, q, _⟩ => absurd q (by omega)⟩) (fun c => ⟨fun q => absurd q (by rw [Nat.zero_testBit]; decide), fun ⟨p, q, _⟩ => absurd q (by omega)⟩) (fun q r => absurd r (by omega))
  · refine e_iload rfl rfl ?_
    refine e_ipush rfl ?_
    refine e_cge_f rfl (nI_ge (b := 8) hj (by decide)) ?_
    refine e_iload rfl rfl ?_
    refine e_iload rfl rfl ?_
    refine e_ishr rfl ?_
    refine e_ipush rfl ?_
    refine e_iand rfl ?_
    rw [show ((nI t) >>> ((nI p) &&& 31)) &&& 1 = if t.testBit p = true then 1 else 0 from nI_bit (by omega) (by omega)]
    refine e_ifne_b rfl (fun b22x => ?_) (fun b22x => ?_)
    · have hb : t.testBit p = true := ite_n0.mp b22x
      have hp : isP v p := ht p hj hb
      have el := lmN_eq hw hp
      have hc : pcl v p < 12 := by have := (hp.v hw).2.1; omega
      have rc := rm_cmp el.2 (mostN_le hw (a := a) (n := n) hc)
      refine e_aload rfl rfl ?_
      refine e_getR rfl hM.1 hms ?_
      refine e_getR rfl hS.1 (hS.2 6 _ rfl).2 ?_
      refine e_iload rfl rfl ?_
      refine e_ialv (t := p) (n := 8) rfl (hS.2 6 _ rfl).1 rfl (by omega) (by decide) (hV.p (p := p) hp hw).1 ?_
      refine e_istore rfl ?_
      refine e_aload rfl rfl ?_
      refine e_getR rfl hM.1 hms ?_
      refine e_getR rfl hS.1 (hS.2 7 _ rfl).2 ?_
      refine e_iload rfl rfl ?_
      refine e_ialv (t := p) (n := 8) rfl (hS.2 7 _ rfl).1 rfl (by omega) (by decide) ((hV.p (p := p) hp hw).2.1.trans el.1) ?_
      refine e_aload rfl rfl ?_
      refine e_getR rfl hM.1 hms ?_
      refine e_iload rfl rfl ?_
      refine e_iload rfl rfl ?_
      refine e_iload rfl rfl ?_
      refine Eg.p4 rfl (by decide) (by decide) rfl (Nat.le_of_ble_eq_true rfl) (xrcv_ofs (Or.inl rfl)) ((cs_mostSand hS hV hw hc hn hb2x).mono (by decide)) ?_
      refine e_isub rfl ?_
      refine e_istore rfl ?_
      refine e_iload rfl rfl ?_
      refine e_ipush rfl ?_
      refine e_cge_b rfl (fun b69x => ?_) (fun b69x => ?_)
      · refine e_iload rfl rfl ?_
        refine e_ifge_b rfl (fun b77x => ?_) (fun b77x => ?_)
        · refine e_iload rfl rfl ?_
          refine e_ipush rfl ?_
          refine e_cge_b rfl (fun b95x => ?_) (fun b95x => ?_)
          · refine e_iinc rfl rfl ?_
            refine e_goto rfl ?_
            refine Eg.pk [0, 1, 2, 3, 4, 5, 6, 7] [7, 9, 8, 0, 1, 2, 3, 4, 5, 6] rfl (by decide) ?_
            rw [nI_1]
            have hle := rc.1.mp b69x
            have h5x : ∀ q, q < p + 1 → t.testBit q = true → mostN v (pcl v q) a n ≤ lmN v q + 3 := fun q r1x r2x => by rcases (show q < p ∨ q = p by omega) with e | e; exact a5x q e r2x; rw [e]; exact hle
            have hge : ¬ lmN v p < mostN v (pcl v p) a n := by have := rc.2.1.mp b77x; omega
            have hl3x : ¬ lmN v p < mostN v (pcl v p) a n + 3 := by have := rc.2.2.mp b95x; omega
            refine ih mf mn a1x a2x (fun c => ?_) (fun c => ?_) h5x
            · rw [a3x c]
              constructor
              · rintro ⟨q, r1x, r2x⟩; exact ⟨q, by omega, r2x⟩
              · rintro ⟨q, r1x, r2x, r3x, r4x⟩
                rcases (show q < p ∨ q = p by omega) with e | e
                · exact ⟨q, e, r2x, r3x, r4x⟩
                · exact absurd r4x (by rw [e]; exact hge)
            · rw [a4x c]
              constructor
              · rintro ⟨q, r1x, r2x⟩; exact ⟨q, by omega, r2x⟩
              · rintro ⟨q, r1x, r2x, r3x, r4x, r5x⟩
                rcases (show q < p ∨ q = p by omega) with e | e
                · exact ⟨q, e, r2x, r3x, r4x, r5x⟩
                · exact absurd r5x (by rw [e]; exact hl3x)
          · refine e_iload rfl rfl ?_
            refine e_ipush rfl ?_
            refine e_iload rfl rfl ?_
            refine e_ishl rfl ?_
            refine e_ior rfl ?_
            rw [show (nI mn) ||| (1 <<< ((nI (pcl v p)) &&& 31)) = nI (mn ||| 1 <<< pcl v p) from nI_setb (by omega)]
            refine e_istore rfl ?_
            refine e_iinc rfl rfl ?_
            refine e_goto rfl ?_
            refine Eg.pk [0, 1, 2, 3, 4, 5, 6, 7] [7, 6, 9, 8, 0, 1, 2, 3, 4, 5] rfl (by decide) ?_
            rw [nI_1]
            have hle := rc.1.mp b69x
            have h5x : ∀ q, q < p + 1 → t.testBit q = true → mostN v (pcl v q) a n ≤ lmN v q + 3 := fun q r1x r2x => by rcases (show q < p ∨ q = p by omega) with e | e; exact a5x q e r2x; rw [e]; exact hle
            have hge : ¬ lmN v p < mostN v (pcl v p) a n := by have := rc.2.1.mp b77x; omega
            have hl3x : lmN v p < mostN v (pcl v p) a n + 3 := Decidable.byContradiction (fun q => b95x (rc.2.2.mpr (by omega)))
            refine ih mf (mn ||| 1 <<< pcl v p) a1x (set_lt a2x hc) (fun c => ?_) (fun c => ?_) h5x
            · rw [a3x c]
              constructor
              · rintro ⟨q, r1x, r2x⟩; exact ⟨q, by omega, r2x⟩
              · rintro ⟨q, r1x, r2x, r3x, r4x⟩
                rcases (show q < p ∨ q = p by omega) with e | e
                · exact ⟨q, e, r2x, r3x, r4x⟩
                · exact absurd r4x (by rw [e]; exact hge)
            · rw [set_bit, a4x c]
              constructor
              · rintro (⟨q, r1x, r2x⟩ | rfl)
                · exact ⟨q, by omega, r2x⟩
                · exact ⟨p, by omega, hb, rfl, hge, hl3x⟩
              · rintro ⟨q, r1x, r2x, r3x, r4x⟩
                rcases (show q < p ∨ q = p by omega) with e | e
                · exact Or.inl ⟨q, e, r2x, r3x, r4x⟩
                · exact Or.inr (e ▸ r3x.symm)
        · refine e_iload rfl rfl ?_
          refine e_ipush rfl ?_
          refine e_iload rfl rfl ?_
          refine e_ishl rfl ?_
          refine e_ior rfl ?_
          rw [show (nI mf) ||| (1 <<< ((nI (pcl v p)) &&& 31)) = nI (mf ||| 1 <<< pcl v p) from nI_setb (by omega)]
          refine e_istore rfl ?_
          refine e_goto rfl ?_
          refine e_iinc rfl rfl ?_
          refine e_goto rfl ?_
          refine Eg.pk [0, 1, 2, 3, 4, 5, 6, 7] [7, 5, 9, 8, 0, 1, 2, 3, 4, 6] rfl (by decide) ?_
          rw [nI_1]
          have hle := rc.1.mp b69x
          have h5x : ∀ q, q < p + 1 → t.testBit q = true → mostN v (pcl v q) a n ≤ lmN v q + 3 := fun q r1x r2x => by rcases (show q < p ∨ q = p by omega) with e | e; exact a5x q e r2x; rw [e]; exact hle
          have hlt : lmN v p < mostN v (pcl v p) a n := Decidable.byContradiction (fun q => b77x (rc.2.1.mpr (by omega)))
          refine ih (mf ||| 1 <<< pcl v p) mn (set_lt a1x hc) a2x (fun c => ?_) (fun c => ?_) h5x
          · rw [set_bit, a3x c]
            constructor
            · rintro (⟨q, r1x, r2x⟩ | rfl)
              · exact ⟨q, by omega, r2x⟩
              · exact ⟨p, by omega, hb, rfl, hlt⟩
            · rintro ⟨q, r1x, r2x, r3x, r4x⟩
              rcases (show q < p ∨ q = p by omega) with e | e
              · exact Or.inl ⟨q, e, r2x, r3x, r4x⟩
              · exact Or.inr (e ▸ r3x.symm)
          · rw [a4x c]
            constructor
            · rintro ⟨q, r1x, r2x⟩; exact ⟨q, by omega, r2x⟩
            · rintro ⟨q, r1x, r2x, r3x, r4x, r5x⟩
              rcases (show q < p ∨ q = p by omega) with e | e
              · exact ⟨q, e, r2x, r3x, r4x, r5x⟩
              · exact absurd hlt (e ▸ r4x)
      · refine e_ipush rfl ?_
        exact Eg.ret rfl (by decide) rfl ⟨by rw [bst_no (fun S => ok_nev hw ht hn0x hj hb (fun q => b69x (rc.1.mpr q)))]; rfl, rfl⟩
    · refine e_goto rfl ?_
      refine e_iinc rfl rfl ?_
      refine e_goto rfl ?_
      refine Eg.pk [0, 1, 2, 3, 4, 5, 6, 7] [7, 0, 1, 2, 3, 4, 5, 6] rfl (by decide) ?_
      rw [nI_1]
      refine ih mf mn a1x a2x (fun c => (a3x c).trans ⟨fun ⟨q, r1x, r2x⟩ => ⟨q, by omega, r2x⟩, fun ⟨q, r1x, r2x⟩ => ⟨q, ?_, r2x⟩⟩) (fun c => (a4x c).trans ⟨fun ⟨q, r1x, r2x⟩ => ⟨q, by omega, r2x⟩, fun ⟨q, r1x, r2x⟩ => ⟨q, ?_, r2x⟩⟩) (fun q r1x r2x => a5x q ?_ r2x)
      · rcases (show q < p ∨ q = p by omega) with e | e; exact e; exact absurd (e ▸ (by first | exact r2x.1 | exact r2x)) (ite_0.mp b22x)
      · rcases (show q < p ∨ q = p by omega) with e | e; exact e; exact absurd (e ▸ (by first | exact r2x.1 | exact r2x)) (ite_0.mp b22x)
      · rcases (show q < p ∨ q = p by omega) with e | e; exact e; exact absurd (e ▸ (by first | exact r2x.1 | exact r2x)) (ite_0.mp b22x)
  · refine e_iload rfl rfl ?_
    refine e_ipush rfl ?_
    refine e_cge_t rfl (Int32.le_refl _) ?_
    refine e_aload rfl rfl ?_
    refine e_iload rfl rfl ?_
    refine e_iload rfl rfl ?_
    refine Eg.p3 rfl (by decide) (by decide) rfl (Nat.le_of_ble_eq_true rfl) (xrcv_ofs (Or.inl rfl)) ((cs_leastSet hS hV hw hM hms hW (t := t) (a := a) (n := n) a1x a2x (fun S => good_ok hw ht hn0x a3x a4x a5x)).mono (by decide)) ?_
    exact Eg.ret rfl (by decide) rfl ⟨rfl, rfl⟩
end FF
