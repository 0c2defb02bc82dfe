/-! TEXTS: bytes, words, numbers, tokens, as numbers alone -/
section TX
/-- the first place from p on that f leaves, k places on at most -/
def scan (f : Nat → Bool) : Nat → Nat → Nat
  | 0, p => p
  | k + 1, p => if f p then scan f k (p + 1) else p
theorem scan_t {f : Nat → Bool} {k p : Nat} (h : f p = true) : scan f (k + 1) p = scan f k (p + 1) := if_pos h
theorem scan_f {f : Nat → Bool} {k p : Nat} (h : f p = false) : scan f k p = p := by
  cases k with
  | zero => rfl
  | succ k => exact if_neg (by rw [h]; decide)
theorem scan_ge {f : Nat → Bool} : ∀ (k p : Nat), p ≤ scan f k p ∧ scan f k p ≤ p + k := by
  intro k
  induction k with
  | zero => intro p; exact ⟨Nat.le_refl _, Nat.le_refl _⟩
  | succ k ih =>
    intro p
    rw [scan]
    split
    · have := ih (p + 1); omega
    · omega
theorem scan_in {f : Nat → Bool} : ∀ (k p i : Nat), p ≤ i → i < scan f k p → f i = true := by
  intro k
  induction k with
  | zero => intro p i h1x h2x; rw [scan] at h2x; omega
  | succ k ih =>
    intro p i h1x h2x
    rw [scan] at h2x
    split at h2x
    · rename_i hp
      by_cases e : i = p
      · subst e; exact hp
      · exact ih (p + 1) i (by omega) h2x
    · omega
theorem scan_end {f : Nat → Bool} : ∀ (k p : Nat), scan f k p < p + k → f (scan f k p) = false := by
  intro k
  induction k with
  | zero => intro p h; rw [scan] at h; omega
  | succ k ih =>
    intro p h
    rw [scan] at h ⊢
    split
    · rename_i hp
      rw [if_pos hp] at h
      exact ih (p + 1) (by omega)
    · rename_i hp; exact Bool.eq_false_iff.mpr hp
theorem scan_eq {f : Nat → Bool} {k p q : Nat} (h1x : ∀ i, p ≤ i → i < q → f i = true) (h2x : p ≤ q) (h3x : q ≤ p + k) (h4x : q = p + k ∨ f q = false) : scan f k p = q := by
  have a := scan_ge (f := f) k p
  by_cases c1x : scan f k p < q
  · have := scan_end (f := f) k p (by omega)
    rw [h1x _ a.1 c1x] at this; cases this
  · by_cases c2x : q < scan f k p
    · have := scan_in k p q h2x c2x
      rcases h4x with h4x | h4x
      · omega
      · rw [h4x] at this; cases this
    · omega
theorem scan_ext {f g : Nat → Bool} : ∀ (k p : Nat), (∀ i, p ≤ i → i < p + k → f i = g i) → scan f k p = scan g k p := by
  intro k
  induction k with
  | zero => intro p _; rfl
  | succ k ih =>
    intro p h
    rw [scan, scan, h p (Nat.le_refl _) (by omega), ih (p + 1) (fun i h1x h2x => h i (by omega) (by omega))]
def isL (c : Nat) : Bool := decide (97 ≤ c ∧ c ≤ 122)
def isD (c : Nat) : Bool := decide (48 ≤ c ∧ c ≤ 57)
theorem isL_iff {c : Nat} : isL c = true ↔ 97 ≤ c ∧ c ≤ 122 := decide_eq_true_iff
theorem isD_iff {c : Nat} : isD c = true ↔ 48 ≤ c ∧ c ≤ 57 := decide_eq_true_iff
def lend (B : Nat → Nat) (n p : Nat) : Nat := scan (fun i => isL (B i)) (n - p) p
def dend (B : Nat → Nat) (n p : Nat) : Nat := scan (fun i => isD (B i)) (n - p) p
def skp (B : Nat → Nat) (n p : Nat) : Nat := scan (fun i => decide (B i = 32)) (n - p) p
theorem lend_le {B : Nat → Nat} {n p : Nat} : p ≤ lend B n p ∧ (p ≤ n → lend B n p ≤ n) := by
  have := scan_ge (f := fun i => isL (B i)) (n - p) p
  unfold lend; omega
theorem dend_le {B : Nat → Nat} {n p : Nat} : p ≤ dend B n p ∧ (p ≤ n → dend B n p ≤ n) := by
  have := scan_ge (f := fun i => isD (B i)) (n - p) p
  unfold dend; omega
theorem skp_le {B : Nat → Nat} {n p : Nat} : p ≤ skp B n p ∧ (p ≤ n → skp B n p ≤ n) := by
  have := scan_ge (f := fun i => decide (B i = 32)) (n - p) p
  unfold skp; omega
theorem lend_lt {B : Nat → Nat} {n p : Nat} (hp : p < n) (h : isL (B p) = true) : p < lend B n p := by
  unfold lend
  rw [show n - p = n - p - 1 + 1 by omega, scan_t (f := fun i => isL (B i)) h]
  have := scan_ge (f := fun i => isL (B i)) (n - p - 1) (p + 1); omega
theorem dend_lt {B : Nat → Nat} {n p : Nat} (hp : p < n) (h : isD (B p) = true) : p < dend B n p := by
  unfold dend
  rw [show n - p = n - p - 1 + 1 by omega, scan_t (f := fun i => isD (B i)) h]
  have := scan_ge (f := fun i => isD (B i)) (n - p - 1) (p + 1); omega
theorem skp_b {B : Nat → Nat} {n p : Nat} (hp : p < n) (h : B p = 32) : skp B n p = skp B n (p + 1) := by
  unfold skp
  rw [show n - p = (n - (p + 1)) + 1 by omega, scan_t (by simpa using h)]
theorem skp_n {B : Nat → Nat} {n p : Nat} (h : n ≤ p ∨ ¬ B p = 32) : skp B n p = p := by
  unfold skp
  rcases h with h | h
  · rw [show n - p = 0 by omega]; rfl
  · exact scan_f (by simpa using h)
theorem skp_skp {B : Nat → Nat} {n p : Nat} (hp : p ≤ n) : skp B n (skp B n p) = skp B n p := by
  by_cases h : skp B n p < n
  · refine skp_n (Or.inr ?_)
    have := scan_end (f := fun i => decide (B i = 32)) (n - p) p (by unfold skp at h; omega)
    exact of_decide_eq_false this
  · exact skp_n (Or.inl (by omega))
theorem skp_not {B : Nat → Nat} {n p : Nat} (hp : p ≤ n) (h : skp B n p < n) : ¬ B (skp B n p) = 32 := by
  have := scan_end (f := fun i => decide (B i = 32)) (n - p) p (by unfold skp at h; omega)
  exact of_decide_eq_false this
/-- the words by number: their lengths and letters -/
def wds : List (List Nat) := [[115, 101, 97], [116, 114, 97, 105, 110], [103, 114, 111, 117, 110, 100], [119, 101, 108, 108], [116, 111, 119, 110], [115, 104, 105, 112], [115, 116, 111, 114, 109], [103, 111], [105, 102], [102, 105, 108, 108], [111, 114], [97, 110, 100], [110, 111, 116], [99, 101, 108, 108], [100, 97, 121], [119, 97, 116, 101, 114], [116, 97, 110, 107], [104, 101, 105, 103, 104, 116], [98, 97, 99, 107], [111, 110], [112, 114, 105, 99, 101], [112, 97, 105, 100]]
def wln (w : Nat) : Nat := (wds.getD w []).length
def wch (w i : Nat) : Nat := (wds.getD w []).getD i 32
theorem wln_bd : ∀ w, w < 22 → 2 ≤ wln w ∧ wln w ≤ 6 := by decide
theorem wch_l : ∀ w, w < 22 → ∀ i, i < wln w → isL (wch w i) = true := by decide
theorem wch_o : ∀ w, w < 22 → ∀ i, i < 6 → ¬ i < wln w → wch w i = 32 := by decide
theorem wch_ne : ∀ w, w < 22 → ∀ u, u < 22 → w ≠ u → ∃ i, i < 6 ∧ wch w i ≠ wch u i := by
  have h : ∀ w, w < 22 → ∀ u, u < 22 → w ≠ u → ((List.range 6).any (fun i => decide (wch w i ≠ wch u i))) = true := by decide +kernel
  intro w hw u hu hn
  have := h w hw u hu hn
  rw [List.any_eq_true] at this
  obtain ⟨i, hi, e⟩ := this
  exact ⟨i, List.mem_range.mp hi, of_decide_eq_true e⟩
/-- the letters from p to q are the word w -/
def wAt (B : Nat → Nat) (p q w : Nat) : Prop := q - p = wln w ∧ ∀ i, i < wln w → B (p + i) = wch w i
def sgB (B : Nat → Nat) (p q i : Nat) : Nat := if p + i < q then B (p + i) else 32
/-- the same, as it is looked for: six signs, blanks behind the last letter -/
def wBt (B : Nat → Nat) (p q w : Nat) : Bool := (List.range 6).all (fun i => decide (sgB B p q i = wch w i))
theorem wBt_iff {B : Nat → Nat} {p q w : Nat} : wBt B p q w = true ↔ ∀ i, i < 6 → (if p + i < q then B (p + i) else 32) = wch w i := by
  unfold wBt
  rw [List.all_eq_true]
  exact ⟨fun h i hi => of_decide_eq_true (h i (List.mem_range.mpr hi)), fun h i hi => decide_eq_true (h i (List.mem_range.mp hi))⟩
theorem wBt_at {B : Nat → Nat} {p q w : Nat} (hw : w < 22) (hl : ∀ i, p ≤ i → i < q → isL (B i) = true) (h6x : q - p ≤ 6) (hpq : p ≤ q) : wBt B p q w = true ↔ wAt B p q w := by
  have hb := wln_bd w hw
  rw [wBt_iff]
  constructor
  · intro h
    have e : q - p = wln w := by
      rcases Nat.lt_trichotomy (q - p) (wln w) with c | c | c
      · have a := h (q - p) (by omega)
        rw [if_neg (by omega)] at a
        have b := wch_l w hw (q - p) c
        rw [← a] at b; exact absurd b (by decide)
      · exact c
      · have a := h (wln w) (by omega)
        rw [if_pos (by omega)] at a
        have b := wch_o w hw (wln w) (by omega) (by omega)
        have d := hl (p + wln w) (by omega) (by omega)
        rw [a, b] at d; exact absurd d (by decide)
    refine ⟨e, fun i hi => ?_⟩
    have a := h i (by omega)
    rw [if_pos (by omega)] at a; exact a
  · intro ⟨e, h⟩ i hi
    by_cases c : i < wln w
    · rw [if_pos (by omega)]; exact h i c
    · rw [if_neg (by omega)]; exact (wch_o w hw i hi c).symm
theorem wAt_u {B : Nat → Nat} {p q w u : Nat} (hw : w < 22) (hu : u < 22) (h1x : wAt B p q w) (h2x : wAt B p q u) : w = u := by
  apply Decidable.byContradiction
  intro hn
  obtain ⟨i, hi, e⟩ := wch_ne w hw u hu hn
  have el : wln w = wln u := h1x.1.symm.trans h2x.1
  by_cases c : i < wln w
  · exact e ((h1x.2 i c).symm.trans (h2x.2 i (by omega)))
  · exact e ((wch_o w hw i hi c).trans (wch_o u hu i hi (by omega)).symm)
/-- a word's number, 22 for none -/
def wno (B : Nat → Nat) (p q : Nat) : Nat := if 6 < q - p then 22 else scan (fun w => !wBt B p q w) 22 0
theorem wno_le {B : Nat → Nat} {p q : Nat} : wno B p q ≤ 22 := by
  unfold wno; split
  · exact Nat.le_refl _
  · have := scan_ge (f := fun w => !wBt B p q w) 22 0; omega
theorem wno_iff {B : Nat → Nat} {p q w : Nat} (hw : w < 22) (hl : ∀ i, p ≤ i → i < q → isL (B i) = true) (hpq : p ≤ q) : wno B p q = w ↔ wAt B p q w := by
  unfold wno
  by_cases h6x : 6 < q - p
  · rw [if_pos h6x]
    constructor
    · intro e; omega
    · intro ⟨e, _⟩; have := wln_bd w hw; omega
  · rw [if_neg h6x]
    constructor
    · intro e
      have := scan_end (f := fun w => !wBt B p q w) 22 0 (by omega)
      rw [e] at this
      exact (wBt_at hw hl (by omega) hpq).mp (by simpa using this)
    · intro h
      refine scan_eq (fun u h1x h2x => ?_) (Nat.zero_le _) (by omega) (Or.inr (by rw [(wBt_at hw hl (by omega) hpq).mpr h]; rfl))
      have : ¬ wBt B p q u = true := fun q2x => by
        have := wAt_u (by omega) hw ((wBt_at (by omega) hl (by omega) hpq).mp q2x) h
        omega
      simpa using this
/-- a number's value: its first k digits -/
def nmv (B : Nat → Nat) (p : Nat) : Nat → Nat
  | 0 => 0
  | k + 1 => nmv B p k * 10 + (B (p + k) - 48)
theorem nmv_lt {B : Nat → Nat} {p : Nat} : ∀ k, (∀ i, i < k → isD (B (p + i)) = true) → nmv B p k < 10 ^ k := by
  intro k
  induction k with
  | zero => intro _; exact Nat.one_pos
  | succ k ih =>
    intro h
    have a := ih (fun i hi => h i (by omega))
    have b := isD_iff.mp (h k (by omega))
    rw [nmv, Nat.pow_succ]; omega
/-- tokens: where one ends, its kind, its value -/
def dbl (B : Nat → Nat) (n p : Nat) : Bool := decide ((B p = 60 ∨ B p = 62) ∧ p + 1 < n ∧ B (p + 1) = 61)
theorem dbl_iff {B : Nat → Nat} {n p : Nat} : dbl B n p = true ↔ (B p = 60 ∨ B p = 62) ∧ p + 1 < n ∧ B (p + 1) = 61 := decide_eq_true_iff
def tend (B : Nat → Nat) (n p : Nat) : Nat := if isL (B p) then lend B n p else if isD (B p) then dend B n p else if dbl B n p then p + 2 else p + 1
def tknd (B : Nat → Nat) (n p : Nat) : Nat := if n ≤ p then 0 else if isL (B p) then 1 else if isD (B p) then 2 else 3
def wnI (B : Nat → Nat) (p q : Nat) : Int32 := if wno B p q = 22 then -1 else nI (wno B p q)
def nmI (B : Nat → Nat) (p q : Nat) : Int32 := if 5 < q - p then -1 else nI (nmv B p (q - p))
def tvl (B : Nat → Nat) (n p : Nat) : Int32 := if n ≤ p then 0 else if isL (B p) then wnI B p (lend B n p) else if isD (B p) then nmI B p (dend B n p) else if dbl B n p then nI (B p + 256) else nI (B p)
theorem tend_le {B : Nat → Nat} {n p : Nat} (hp : p < n) : p < tend B n p ∧ tend B n p ≤ n := by
  unfold tend
  split
  · rename_i h; exact ⟨lend_lt hp h, lend_le.2 (by omega)⟩
  · split
    · rename_i h; exact ⟨dend_lt hp h, dend_le.2 (by omega)⟩
    · split
      · rename_i h; have := (dbl_iff.mp h).2.1; omega
      · omega
/-- the next token's place -/
def nxt (B : Nat → Nat) (n p : Nat) : Nat := if p < n then skp B n (tend B n p) else p
theorem nxt_le {B : Nat → Nat} {n p : Nat} (hp : p ≤ n) : p ≤ nxt B n p ∧ nxt B n p ≤ n ∧ (p < n → p < nxt B n p) := by
  unfold nxt
  split
  · rename_i h
    have a := tend_le (B := B) h
    have b := skp_le (B := B) (n := n) (p := tend B n p)
    have := b.2 a.2
    omega
  · omega
/-- the places of the tokens, one behind the other -/
def tps (B : Nat → Nat) (n : Nat) : Nat → Nat
  | 0 => skp B n 0
  | j + 1 => nxt B n (tps B n j)
theorem tps_le {B : Nat → Nat} {n : Nat} : ∀ j, tps B n j ≤ n := by
  intro j
  induction j with
  | zero => exact skp_le.2 (Nat.zero_le _)
  | succ j ih => exact (nxt_le ih).2.1
/-- behind a token and its blanks no blank stands -/
def tok (B : Nat → Nat) (n p : Nat) : Prop := p ≤ n ∧ skp B n p = p
theorem tok_skp {B : Nat → Nat} {n p : Nat} (hp : p ≤ n) : tok B n (skp B n p) := ⟨skp_le.2 hp, skp_skp hp⟩
theorem tok_nxt {B : Nat → Nat} {n p : Nat} (h : tok B n p) : tok B n (nxt B n p) := by
  unfold nxt
  split
  · rename_i hp; exact tok_skp (tend_le hp).2
  · exact h
theorem tps_tok {B : Nat → Nat} {n : Nat} : ∀ j, tok B n (tps B n j) := by
  intro j
  induction j with
  | zero => exact tok_skp (Nat.zero_le _)
  | succ j ih => exact tok_nxt ih
end TX
