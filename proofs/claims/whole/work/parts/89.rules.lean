/-! RULES: what a text says, as numbers alone -/
section RL
variable {B : Nat → Nat} {n : Nat}
/-- a place, how many are counted, the code: (sort, number) -/
abbrev rS : Type := Nat × Nat × List (Nat × Nat)
def wvx : List Nat := [5, 13, 14, 15, 16, 17, 18, 19, 3, 20, 21]
def vIx (B : Nat → Nat) (n p : Nat) : Nat := scan (fun k => !wIs B n p (wvx.getD k 0)) 11 0
theorem vIx_le {p : Nat} : vIx B n p ≤ 11 := by
  have := scan_ge (f := fun k => !wIs B n p (wvx.getD k 0)) 11 0; unfold vIx; omega
theorem vIx_lt {p : Nat} (h : vIx B n p < 11) : wIs B n p (wvx.getD (vIx B n p) 0) = true := by
  have := scan_end (f := fun k => !wIs B n p (wvx.getD k 0)) 11 0 (by unfold vIx at h; omega)
  have e : (!wIs B n p (wvx.getD (vIx B n p) 0)) = false := this
  simpa using e
theorem vIx_no {p k : Nat} (h : k < vIx B n p) : ¬ wIs B n p (wvx.getD k 0) = true := by
  have := scan_in (f := fun k => !wIs B n p (wvx.getD k 0)) 11 0 k (Nat.zero_le _) h
  have e : (!wIs B n p (wvx.getD k 0)) = true := this
  simpa using e
def adE (k : Nat) (st : rS) : rS := (st.1, st.2.1, st.2.2 ++ [(k, 0)])
def aIf (k : Nat) (st : rS) : rS := if k = 0 then st else adE k st
def goN (B : Nat → Nat) (n : Nat) (st : rS) : rS := (nxt B n st.1, st.2.1, st.2.2)
def tmS (B : Nat → Nat) (n p : Nat) : Nat := if sgH B n p = 42 then 13 else if sgH B n p = 47 then 14 else if sgH B n p = 37 then 15 else 0
def plS (B : Nat → Nat) (n p : Nat) : Nat := if sgH B n p = 43 then 2 else if sgH B n p = 45 then 3 else 0
def cmS (B : Nat → Nat) (n p : Nat) : Nat := if sgH B n p = 60 then 4 else if sgH B n p = 316 then 5 else if sgH B n p = 61 then 6 else if sgH B n p = 318 then 7 else if sgH B n p = 62 then 8 else 0
/-- a value -/
def rV (B : Nat → Nat) (n : Nat) (st : rS) : Int32 × rS :=
  if tknd B n st.1 = 2 then (if tvl B n st.1 < 0 then (fl 0 st.1 1, st) else if 60 ≤ st.2.1 then (fl 0 st.1 3, st) else (0, (nxt B n st.1, st.2.1 + 1, st.2.2 ++ [(0, tn B n st.1)])))
  else if vIx B n st.1 < 11 then (if 60 ≤ st.2.1 then (fl 0 st.1 3, st) else (0, (nxt B n st.1, st.2.1 + 1, st.2.2 ++ [(1, vIx B n st.1)])))
  else (fl 0 st.1 0, st)
def tmL (B : Nat → Nat) (n : Nat) : Nat → rS → Int32 × rS
  | 0, st => (0, st)
  | a + 1, st => if tmS B n st.1 = 0 then (0, st) else if ¬ (rV B n (goN B n st)).1 = 0 then rV B n (goN B n st) else tmL B n a (adE (tmS B n st.1) (rV B n (goN B n st)).2)
def rTm (B : Nat → Nat) (n : Nat) (st : rS) : Int32 × rS := if ¬ (rV B n st).1 = 0 then rV B n st else tmL B n 401 (rV B n st).2
def slL (B : Nat → Nat) (n : Nat) : Nat → rS → Int32 × rS
  | 0, st => (0, st)
  | b + 1, st => if plS B n st.1 = 0 then (0, st) else if ¬ (rTm B n (goN B n st)).1 = 0 then rTm B n (goN B n st) else slL B n b (adE (plS B n st.1) (rTm B n (goN B n st)).2)
def rSum (B : Nat → Nat) (n : Nat) (st : rS) : Int32 × rS := if ¬ (rTm B n st).1 = 0 then rTm B n st else slL B n 401 (rTm B n st).2
/-- the sign taken -/
def rCs (B : Nat → Nat) (n : Nat) (st : rS) : Int32 × rS := if cmS B n st.1 = 0 then (fl 0 st.1 0, st) else if 60 ≤ st.2.1 then (fl 0 st.1 3, st) else (0, (nxt B n st.1, st.2.1 + 1, st.2.2))
def rCmp (B : Nat → Nat) (n : Nat) (st : rS) : Int32 × rS :=
  if ¬ (rSum B n st).1 = 0 then rSum B n st
  else if ¬ (rCs B n (rSum B n st).2).1 = 0 then rCs B n (rSum B n st).2
  else if ¬ (rSum B n (rCs B n (rSum B n st).2).2).1 = 0 then rSum B n (rCs B n (rSum B n st).2).2
  else (0, adE (cmS B n (rSum B n st).2.1) (rSum B n (rCs B n (rSum B n st).2).2).2)
/-- facts joined -/
def rTL (B : Nat → Nat) (n : Nat) (F : rS → Int32 × rS) : Nat → Bool → Bool → rS → Int32 × rS
  | 0, _, _, st => (0, st)
  | k + 1, an, o, st =>
    if ¬ (F st).1 = 0 then F st
    else if wdH B n (F st).2.1 = 11 then rTL B n F k true o (goN B n (if an then adE 10 (F st).2 else (F st).2))
    else if wdH B n (F st).2.1 = 10 then rTL B n F k false true (goN B n (if o then adE 11 (if an then adE 10 (F st).2 else (F st).2) else (if an then adE 10 (F st).2 else (F st).2)))
    else (0, (if o then adE 11 (if an then adE 10 (F st).2 else (F st).2) else (if an then adE 10 (F st).2 else (F st).2)))
def rFact (B : Nat → Nat) (n : Nat) : Nat → rS → Int32 × rS
  | 0, st => if wdH B n st.1 = 12 ∨ sgH B n st.1 = 91 then (fl 0 st.1 2, st) else rCmp B n st
  | m + 1, st =>
    if wdH B n st.1 = 12 then (if ¬ (rFact B n m (goN B n st)).1 = 0 then rFact B n m (goN B n st) else (0, adE 9 (rFact B n m (goN B n st)).2))
    else if sgH B n st.1 = 91 then (if ¬ (rTL B n (rFact B n m) 401 false false (goN B n st)).1 = 0 then rTL B n (rFact B n m) 401 false false (goN B n st) else if sgH B n (rTL B n (rFact B n m) 401 false false (goN B n st)).2.1 = 93 then (0, goN B n (rTL B n (rFact B n m) 401 false false (goN B n st)).2) else (fl 0 (rTL B n (rFact B n m) 401 false false (goN B n st)).2.1 0, (rTL B n (rFact B n m) 401 false false (goN B n st)).2))
    else rCmp B n st
def rTest (B : Nat → Nat) (n : Nat) (m : Nat) (st : rS) : Int32 × rS := rTL B n (rFact B n m) 401 false false st
/-! the code is in order: numbers (false) and truths (true) on a stack -/
def tE (e : Nat × Nat) (s : List Bool) : Option (List Bool) :=
  if e.1 = 0 ∨ e.1 = 1 then some (false :: s)
  else if e.1 = 9 then (match s with
    | true :: r => some (true :: r)
    | _ => none)
  else if e.1 = 10 ∨ e.1 = 11 then (match s with
    | true :: true :: r => some (true :: r)
    | _ => none)
  else if 4 ≤ e.1 ∧ e.1 ≤ 8 then (match s with
    | false :: false :: r => some (true :: r)
    | _ => none)
  else (match s with
    | false :: false :: r => some (false :: r)
    | _ => none)
def tev : List (Nat × Nat) → List Bool → Option (List Bool)
  | [], s => some s
  | e :: l, s => match tE e s with
    | some t => tev l t
    | none => none
theorem tev_app (a b : List (Nat × Nat)) : ∀ (s t : List Bool), tev a s = some t → tev (a ++ b) s = tev b t := by
  induction a with
  | nil => intro s t h; cases h; rfl
  | cons e l ih =>
    intro s t h
    rw [List.cons_append, tev]
    rw [tev] at h
    cases he : tE e s with
    | none => rw [he] at h; cases h
    | some x => rw [he] at h; exact ih x t h
/-- an entry as it may stand -/
def vE (e : Nat × Nat) : Prop := (e.1 = 0 ∧ e.2 ≤ 99999) ∨ (e.1 = 1 ∧ e.2 < 11) ∨ (2 ≤ e.1 ∧ e.1 ≤ 15 ∧ e.1 ≠ 12 ∧ e.2 = 0)
def nv (l : List (Nat × Nat)) : Nat := (l.filter (fun e => decide (e.1 ≤ 1))).length
theorem nv_app (a b : List (Nat × Nat)) : nv (a ++ b) = nv a + nv b := by unfold nv; rw [List.filter_append, List.length_append]
/-- from one state on to another: k bytes to spare, the stack from x to y -/
def rG (B : Nat → Nat) (n : Nat) (a b : rS) (k : Int) (x y : List Bool) : Prop := ∃ seg, b.2.2 = a.2.2 ++ seg ∧ (∀ e ∈ seg, vE e) ∧ nv seg + a.2.1 ≤ b.2.1 ∧ 2 * (seg.length : Int) + k + 2 * (a.2.1 : Int) + (a.1 : Int) ≤ 2 * (b.2.1 : Int) + (b.1 : Int) ∧ a.2.1 ≤ b.2.1 ∧ (a.2.1 ≤ 60 → b.2.1 ≤ 60) ∧ (tok B n a.1 → tok B n b.1) ∧ a.1 ≤ b.1 ∧ ∀ s, tev seg (x ++ s) = some (y ++ s)
theorem rG.rf {a : rS} {x : List Bool} : rG B n a a 0 x x := ⟨[], by simp, by simp, by simp [nv], by simp, Nat.le_refl _, id, id, Nat.le_refl _, fun s => rfl⟩
theorem rG.tr {a b c : rS} {k j : Int} {x y z : List Bool} (h : rG B n a b k x y) (g : rG B n b c j y z) : rG B n a c (k + j) x z := by
  obtain ⟨s1x, h1x, h2x, h3x, h4x, h5x, h6x, h7x, h8x, h9x⟩ := h
  obtain ⟨s2x, g1x, g2x, g3x, g4x, g5x, g6x, g7x, g8x, g9x⟩ := g
  refine ⟨s1x ++ s2x, by rw [g1x, h1x, List.append_assoc], fun e he => ?_, by rw [nv_app]; omega, by rw [List.length_append]; omega, by omega, fun q => g6x (h6x q), fun q => g7x (h7x q), by omega, fun s => ?_⟩
  · rcases List.mem_append.mp he with q | q
    · exact h2x e q
    · exact g2x e q
  · rw [tev_app s1x s2x _ _ (h9x s)]; exact g9x s
theorem rG.wk {a b : rS} {k j : Int} {x y : List Bool} (h : rG B n a b k x y) (hj : j ≤ k) : rG B n a b j x y := by
  obtain ⟨s1x, h1x, h2x, h3x, h4x, h5x⟩ := h
  exact ⟨s1x, h1x, h2x, h3x, by omega, h5x⟩
theorem rG.ext {a b : rS} {k : Int} {x y : List Bool} (h : rG B n a b k x y) (z : List Bool) : rG B n a b k (x ++ z) (y ++ z) := by
  obtain ⟨s1x, h1x, h2x, h3x, h4x, h5x, h6x, h7x, h8x, h9x⟩ := h
  exact ⟨s1x, h1x, h2x, h3x, h4x, h5x, h6x, h7x, h8x, fun s => by rw [List.append_assoc, List.append_assoc]; exact h9x (z ++ s)⟩
theorem rG.le {a b : rS} {k : Int} {x y : List Bool} (h : rG B n a b k x y) : a.1 ≤ b.1 := by
  obtain ⟨s1x, h1x, h2x, h3x, h4x, h5x, h6x, h7x, h8x, h9x⟩ := h; exact h8x
theorem rG.tk {a b : rS} {k : Int} {x y : List Bool} (h : rG B n a b k x y) (q : tok B n a.1) : tok B n b.1 := by
  obtain ⟨s1x, h1x, h2x, h3x, h4x, h5x, h6x, h7x, h8x, h9x⟩ := h; exact h7x q
theorem rG.c {a b : rS} {k : Int} {x y : List Bool} (h : rG B n a b k x y) (q : a.2.1 ≤ 60) : b.2.1 ≤ 60 := by
  obtain ⟨s1x, h1x, h2x, h3x, h4x, h5x, h6x, h7x, h8x, h9x⟩ := h; exact h6x q
/-- entries and what pends stay few -/
theorem rG.bd {a b : rS} {k : Int} {x y : List Bool} {j : Nat} (h : rG B n a b k x y) (hk : 0 ≤ k) (q : 2 * (a.2.2.length + j) ≤ 2 * a.2.1 + a.1) : 2 * (b.2.2.length + j) ≤ 2 * b.2.1 + b.1 := by
  obtain ⟨s1x, h1x, h2x, h3x, h4x, h5x, h6x, h7x, h8x, h9x⟩ := h
  rw [h1x, List.length_append]; omega
/-- an operator behind -/
theorem rG.ad {a b : rS} {k : Int} {x y z : List Bool} {j : Nat} (h : rG B n a b k x y) (hj : 2 ≤ j ∧ j ≤ 15 ∧ j ≠ 12) (ht : ∀ s, tE (j, 0) (y ++ s) = some (z ++ s)) : rG B n a (adE j b) (k - 2) x z := by
  have g : rG B n b (adE j b) (-2) y z := by
    refine ⟨[(j, 0)], rfl, fun e he => by rw [List.mem_singleton.mp he]; exact Or.inr (Or.inr ⟨hj.1, hj.2.1, hj.2.2, rfl⟩), ?_, ?_, Nat.le_refl _, id, id, Nat.le_refl _, fun s => ?_⟩
    · show nv [(j, 0)] + b.2.1 ≤ b.2.1
      unfold nv; rw [List.filter_cons, if_neg (by simp; omega)]; simp
    · show 2 * (([(j, 0)] : List (Nat × Nat)).length : Int) + -2 + 2 * (b.2.1 : Int) + (b.1 : Int) ≤ 2 * (b.2.1 : Int) + (b.1 : Int)
      simp
    · unfold tev; rw [ht s]; rfl
  exact (h.tr g).wk (by omega)
/-- a step: one byte at least, where there is a token; a word has two -/
theorem rG.go {a : rS} {x : List Bool} (hp : a.1 < n) : rG B n a (goN B n a) 1 x x := by
  have h := nxt_le (B := B) (n := n) (p := a.1) (by omega)
  have h3x := h.2.2 hp
  exact ⟨[], by simp [goN], by simp, by simp [nv, goN], by simp [goN]; omega, Nat.le_refl _, id, fun q => tok_nxt q, h.1, fun s => rfl⟩
theorem rG.gow {a : rS} {x : List Bool} {w : Nat} (hw : w < 22) (h : wdH B n a.1 = nI w) : rG B n a (goN B n a) 2 x x ∧ a.1 < n ∧ a.1 < nxt B n a.1 := by
  have wi := (wdH_iff hw).mp h
  obtain ⟨h1x, h2x, h3x⟩ := wIs_lt hw wi
  have wb := wln_bd w hw
  obtain ⟨e1x, e2x⟩ := wIs_nxt hw wi
  have sk := skp_le (B := B) (n := n) (p := a.1 + wln w)
  rw [e2x] at sk
  refine ⟨⟨[], by simp [goN], by simp, by simp [nv, goN], ?_, Nat.le_refl _, id, fun q => tok_nxt q, ?_, fun s => rfl⟩, h1x, by omega⟩
  · simp [goN]; omega
  · show a.1 ≤ nxt B n a.1; omega
theorem sgH_lt {p : Nat} (h : ¬ sgH B n p = -1) : p < n := by
  apply Decidable.byContradiction; intro hc
  refine h (if_neg ?_)
  rw [tknd_0.mpr (by omega)]; decide
theorem tmS_lt {p : Nat} (h : ¬ tmS B n p = 0) : p < n := by
  refine sgH_lt (B := B) (fun e => h ?_)
  unfold tmS; rw [e, if_neg (by decide), if_neg (by decide), if_neg (by decide)]
theorem plS_lt {p : Nat} (h : ¬ plS B n p = 0) : p < n := by
  refine sgH_lt (B := B) (fun e => h ?_)
  unfold plS; rw [e, if_neg (by decide), if_neg (by decide)]
theorem cmS_lt {p : Nat} (h : ¬ cmS B n p = 0) : p < n := by
  refine sgH_lt (B := B) (fun e => h ?_)
  unfold cmS; rw [e, if_neg (by decide), if_neg (by decide), if_neg (by decide), if_neg (by decide), if_neg (by decide)]
theorem tmS_in {p : Nat} : tmS B n p = 0 ∨ tmS B n p = 13 ∨ tmS B n p = 14 ∨ tmS B n p = 15 := by
  unfold tmS; split
  · omega
  · split
    · omega
    · split <;> omega
theorem plS_in {p : Nat} : plS B n p = 0 ∨ plS B n p = 2 ∨ plS B n p = 3 := by
  unfold plS; split
  · omega
  · split <;> omega
theorem cmS_in {p : Nat} : cmS B n p = 0 ∨ (4 ≤ cmS B n p ∧ cmS B n p ≤ 8) := by
  unfold cmS; split
  · omega
  · split
    · omega
    · split
      · omega
      · split
        · omega
        · split <;> omega
theorem tE_ar {j : Nat} (h : j = 2 ∨ j = 3 ∨ j = 13 ∨ j = 14 ∨ j = 15) (s : List Bool) : tE (j, 0) ([false, false] ++ s) = some ([false] ++ s) := by
  unfold tE; rw [if_neg (by omega), if_neg (by omega), if_neg (by omega), if_neg (by omega)]; rfl
theorem tE_cm {j : Nat} (h : 4 ≤ j ∧ j ≤ 8) (s : List Bool) : tE (j, 0) ([false, false] ++ s) = some ([true] ++ s) := by
  unfold tE; rw [if_neg (by omega), if_neg (by omega), if_neg (by omega), if_pos h]; rfl
theorem rV_G (hn : n ≤ 400) {st : rS} (ht : tok B n st.1) (h : (rV B n st).1 = 0) : rG B n st (rV B n st).2 1 [] [false] ∧ st.1 < n ∧ st.1 < (rV B n st).2.1 := by
  have hp := ht.1
  have key : ∀ e : Nat × Nat, vE e → e.1 ≤ 1 → ¬ 60 ≤ st.2.1 → st.1 < n → rG B n st (nxt B n st.1, st.2.1 + 1, st.2.2 ++ [e]) 1 [] [false] ∧ st.1 < n ∧ st.1 < nxt B n st.1 := by
    intro e he h1x h60x hp
    have g := nxt_le (B := B) (n := n) (p := st.1) (by omega)
    have g3x := g.2.2 hp
    refine ⟨⟨[e], rfl, fun x hx => by rw [List.mem_singleton.mp hx]; exact he, ?_, ?_, by show st.2.1 ≤ st.2.1 + 1; omega, fun _ => by show st.2.1 + 1 ≤ 60; omega, fun q => tok_nxt q, g.1, fun s => ?_⟩, hp, g3x⟩
    · show nv [e] + st.2.1 ≤ st.2.1 + 1
      unfold nv; rw [List.filter_cons, if_pos (by simpa using h1x)]; simp; omega
    · show 2 * (([e] : List (Nat × Nat)).length : Int) + 1 + 2 * (st.2.1 : Int) + (st.1 : Int) ≤ 2 * ((st.2.1 + 1 : Nat) : Int) + (nxt B n st.1 : Int)
      simp; omega
    · show tev [e] s = some (false :: s)
      have : e.1 = 0 ∨ e.1 = 1 := by omega
      unfold tev tE; rw [if_pos this]; rfl
  unfold rV at h ⊢
  by_cases h2x : tknd B n st.1 = 2
  · rw [if_pos h2x] at h ⊢
    have hd := tknd_2.mp h2x
    obtain ⟨t1x, t2x, t3x⟩ := tvl_2 hd
    by_cases h0x : tvl B n st.1 < 0
    · rw [if_pos h0x] at h; exact absurd h (fl_ne (by omega))
    · rw [if_neg h0x] at h ⊢
      by_cases h60x : 60 ≤ st.2.1
      · rw [if_pos h60x] at h; exact absurd h (fl_ne (by omega))
      · rw [if_neg h60x]
        have h5x : ¬ 5 < dend B n st.1 - st.1 := fun q => h0x (by rw [t1x]; unfold nmI; rw [if_pos q]; decide)
        have e9x : tn B n st.1 ≤ 99999 := by
          have := nmv_5 (B := B) (n := n) (p := st.1) (by omega)
          unfold tn; rw [t1x]; unfold nmI; rw [if_neg h5x, nI_clamp (by omega)]; exact this
        exact key (0, tn B n st.1) (Or.inl ⟨rfl, e9x⟩) (Nat.zero_le _) h60x t3x
  · rw [if_neg h2x] at h ⊢
    by_cases h1x : vIx B n st.1 < 11
    · rw [if_pos h1x] at h ⊢
      by_cases h60x : 60 ≤ st.2.1
      · rw [if_pos h60x] at h; exact absurd h (fl_ne (by omega))
      · rw [if_neg h60x]
        have hw : wvx.getD (vIx B n st.1) 0 < 22 := by
          have : ∀ k, k < 11 → wvx.getD k 0 < 22 := by decide
          exact this _ h1x
        exact key (1, vIx B n st.1) (Or.inr (Or.inl ⟨rfl, h1x⟩)) (Nat.le_refl _) h60x (wIs_lt hw (vIx_lt h1x)).1
    · rw [if_neg h1x] at h; exact absurd h (fl_ne (by omega))
theorem tmL_G (hn : n ≤ 400) : ∀ (a : Nat) (st : rS), tok B n st.1 → (tmL B n a st).1 = 0 → rG B n st (tmL B n a st).2 0 [false] [false] := by
  intro a
  induction a with
  | zero => intro st _ _; exact rG.rf
  | succ a ih =>
    intro st ht h
    rw [tmL] at h ⊢
    by_cases h0x : tmS B n st.1 = 0
    · rw [if_pos h0x]; exact rG.rf
    · rw [if_neg h0x] at h ⊢
      by_cases hv : ¬ (rV B n (goN B n st)).1 = 0
      · rw [if_pos hv] at h; exact absurd h hv
      · rw [if_neg hv] at h ⊢
        have g1x : rG B n st (goN B n st) 1 [false] [false] := rG.go (tmS_lt h0x)
        have g2x := (rV_G hn (g1x.tk ht) (Decidable.not_not.mp hv)).1
        have g3x : rG B n st (rV B n (goN B n st)).2 (1 + 1) [false] [false, false] := g1x.tr (g2x.ext [false])
        have tj := tmS_in (B := B) (n := n) (p := st.1)
        have g4x := g3x.ad (j := tmS B n st.1) (by omega) (tE_ar (by omega))
        exact (g4x.tr (ih _ (g4x.tk ht) h)).wk (by omega)
theorem rTm_G (hn : n ≤ 400) {st : rS} (ht : tok B n st.1) (h : (rTm B n st).1 = 0) : rG B n st (rTm B n st).2 1 [] [false] := by
  unfold rTm at h ⊢
  by_cases hv : ¬ (rV B n st).1 = 0
  · rw [if_pos hv] at h; exact absurd h hv
  · rw [if_neg hv] at h ⊢
    have g := (rV_G hn ht (Decidable.not_not.mp hv)).1
    exact (g.tr (tmL_G hn 401 _ (g.tk ht) h)).wk (by omega)
theorem slL_G (hn : n ≤ 400) : ∀ (a : Nat) (st : rS), tok B n st.1 → (slL B n a st).1 = 0 → rG B n st (slL B n a st).2 0 [false] [false] := by
  intro a
  induction a with
  | zero => intro st _ _; exact rG.rf
  | succ a ih =>
    intro st ht h
    rw [slL] at h ⊢
    by_cases h0x : plS B n st.1 = 0
    · rw [if_pos h0x]; exact rG.rf
    · rw [if_neg h0x] at h ⊢
      by_cases hv : ¬ (rTm B n (goN B n st)).1 = 0
      · rw [if_pos hv] at h; exact absurd h hv
      · rw [if_neg hv] at h ⊢
        have g1x : rG B n st (goN B n st) 1 [false] [false] := rG.go (plS_lt h0x)
        have g2x := rTm_G hn (g1x.tk ht) (Decidable.not_not.mp hv)
        have g3x : rG B n st (rTm B n (goN B n st)).2 (1 + 1) [false] [false, false] := g1x.tr (g2x.ext [false])
        have tj := plS_in (B := B) (n := n) (p := st.1)
        have g4x := g3x.ad (j := plS B n st.1) (by omega) (tE_ar (by omega))
        exact (g4x.tr (ih _ (g4x.tk ht) h)).wk (by omega)
theorem rSum_G (hn : n ≤ 400) {st : rS} (ht : tok B n st.1) (h : (rSum B n st).1 = 0) : rG B n st (rSum B n st).2 1 [] [false] := by
  unfold rSum at h ⊢
  by_cases hv : ¬ (rTm B n st).1 = 0
  · rw [if_pos hv] at h; exact absurd h hv
  · rw [if_neg hv] at h ⊢
    have g := rTm_G hn ht (Decidable.not_not.mp hv)
    exact (g.tr (slL_G hn 401 _ (g.tk ht) h)).wk (by omega)
theorem rCs_G (hn : n ≤ 400) {st : rS} {x : List Bool} (ht : tok B n st.1) (h : (rCs B n st).1 = 0) : rG B n st (rCs B n st).2 3 x x ∧ ¬ cmS B n st.1 = 0 := by
  have hp := ht.1
  unfold rCs at h ⊢
  by_cases h0x : cmS B n st.1 = 0
  · rw [if_pos h0x] at h; exact absurd h (fl_ne (by omega))
  · rw [if_neg h0x] at h ⊢
    by_cases h60x : 60 ≤ st.2.1
    · rw [if_pos h60x] at h; exact absurd h (fl_ne (by omega))
    · rw [if_neg h60x]
      have hl := cmS_lt h0x
      have g := nxt_le (B := B) (n := n) (p := st.1) (by omega)
      have g3x := g.2.2 hl
      refine ⟨⟨[], by simp, by simp, ?_, ?_, by show st.2.1 ≤ st.2.1 + 1; omega, fun _ => by show st.2.1 + 1 ≤ 60; omega, fun q => tok_nxt q, g.1, fun s => rfl⟩, h0x⟩
      · show nv [] + st.2.1 ≤ st.2.1 + 1
        unfold nv; simp
      · show 2 * (([] : List (Nat × Nat)).length : Int) + 3 + 2 * (st.2.1 : Int) + (st.1 : Int) ≤ 2 * ((st.2.1 + 1 : Nat) : Int) + (nxt B n st.1 : Int)
        simp; omega
theorem rCmp_G (hn : n ≤ 400) {st : rS} (ht : tok B n st.1) (h : (rCmp B n st).1 = 0) : rG B n st (rCmp B n st).2 1 [] [true] := by
  unfold rCmp at h ⊢
  by_cases h1x : ¬ (rSum B n st).1 = 0
  · rw [if_pos h1x] at h; exact absurd h h1x
  · rw [if_neg h1x] at h ⊢
    have g1x := rSum_G hn ht (Decidable.not_not.mp h1x)
    by_cases h2x : ¬ (rCs B n (rSum B n st).2).1 = 0
    · rw [if_pos h2x] at h; exact absurd h h2x
    · rw [if_neg h2x] at h ⊢
      obtain ⟨g2x, c0x⟩ := rCs_G hn (x := [false]) (g1x.tk ht) (Decidable.not_not.mp h2x)
      have g12x := g1x.tr g2x
      by_cases h3x : ¬ (rSum B n (rCs B n (rSum B n st).2).2).1 = 0
      · rw [if_pos h3x] at h; exact absurd h h3x
      · rw [if_neg h3x]
        have g3x := rSum_G hn (g12x.tk ht) (Decidable.not_not.mp h3x)
        have g4x : rG B n st (rSum B n (rCs B n (rSum B n st).2).2).2 (1 + 3 + 1) [] [false, false] := g12x.tr (g3x.ext [false])
        have cj := cmS_in (B := B) (n := n) (p := (rSum B n st).2.1)
        exact (g4x.ad (j := cmS B n (rSum B n st).2.1) (by omega) (tE_cm (by omega))).wk (by omega)
def pnd (an o : Bool) : List Bool := (if an then [true] else []) ++ (if o then [true] else [])
def pdn (an o : Bool) : Nat := (if an then 1 else 0) + (if o then 1 else 0)
theorem rTL_G {F : rS → Int32 × rS} (hF : ∀ st, tok B n st.1 → (F st).1 = 0 → rG B n st (F st).2 1 [] [true]) : ∀ (k : Nat) (an o : Bool) (st : rS), tok B n st.1 → n - st.1 < k → (rTL B n F k an o st).1 = 0 → rG B n st (rTL B n F k an o st).2 (1 - 2 * (pdn an o : Int)) (pnd an o) [true] := by
  intro k
  induction k with
  | zero => intro an o st _ hk; omega
  | succ k ih =>
    intro an o st ht hk h
    rw [rTL] at h ⊢
    by_cases h1x : ¬ (F st).1 = 0
    · rw [if_pos h1x] at h; exact absurd h h1x
    · rw [if_neg h1x] at h ⊢
      have g1x := hF st ht (Decidable.not_not.mp h1x)
      have ga : rG B n st (if an then adE 10 (F st).2 else (F st).2) (1 - 2 * ((if an then 1 else 0 : Nat) : Int)) (pnd an o) (pnd true o) := by
        cases an with
        | false => exact (g1x.ext (pnd false o)).wk (by simp)
        | true =>
          have := (g1x.ext (pnd true o)).ad (j := 10) (z := pnd true o) (by decide) (fun s => rfl)
          exact this.wk (by simp)
      have ep : (if an then adE 10 (F st).2 else (F st).2).1 = (F st).2.1 := by cases an <;> rfl
      by_cases h2x : wdH B n (F st).2.1 = 11
      · rw [if_pos h2x] at h ⊢
        obtain ⟨g2x, l1x, l2x⟩ := rG.gow (B := B) (n := n) (a := (if an then adE 10 (F st).2 else (F st).2)) (x := pnd true o) (w := 11) (by decide) (by rw [ep]; exact h2x)
        have g3x := ga.tr g2x
        have hle := g1x.le
        have g4x := ih true o _ (g3x.tk ht) (by show n - nxt B n (if an then adE 10 (F st).2 else (F st).2).1 < k; rw [ep] at l1x l2x ⊢; omega) h
        refine (g3x.tr g4x).wk ?_
        cases an <;> cases o <;> simp [pdn]
      · rw [if_neg h2x] at h ⊢
        have gb : rG B n st (if o then adE 11 (if an then adE 10 (F st).2 else (F st).2) else (if an then adE 10 (F st).2 else (F st).2)) (1 - 2 * (pdn an o : Int)) (pnd an o) [true] := by
          cases o with
          | false => refine ga.wk ?_; cases an <;> simp [pdn]
          | true =>
            have := ga.ad (j := 11) (z := [true]) (by decide) (fun s => rfl)
            refine this.wk ?_; cases an <;> simp [pdn]
        have ep2x : (if o then adE 11 (if an then adE 10 (F st).2 else (F st).2) else (if an then adE 10 (F st).2 else (F st).2)).1 = (F st).2.1 := by cases o <;> cases an <;> rfl
        by_cases h3x : wdH B n (F st).2.1 = 10
        · rw [if_pos h3x] at h ⊢
          obtain ⟨g2x, l1x, l2x⟩ := rG.gow (B := B) (n := n) (a := (if o then adE 11 (if an then adE 10 (F st).2 else (F st).2) else (if an then adE 10 (F st).2 else (F st).2))) (x := [true]) (w := 10) (by decide) (by rw [ep2x]; exact h3x)
          have g3x := gb.tr g2x
          have hle := g1x.le
          have g4x := ih false true _ (g3x.tk ht) (by show n - nxt B n (if o then adE 11 (if an then adE 10 (F st).2 else (F st).2) else (if an then adE 10 (F st).2 else (F st).2)).1 < k; rw [ep2x] at l1x l2x ⊢; omega) h
          refine (g3x.tr g4x).wk ?_
          have : pdn false true = 1 := rfl
          rw [this]; omega
        · rw [if_neg h3x]; exact gb
theorem rFact_G (hn : n ≤ 400) : ∀ (m : Nat) (st : rS), tok B n st.1 → (rFact B n m st).1 = 0 → rG B n st (rFact B n m st).2 1 [] [true] := by
  intro m
  induction m with
  | zero =>
    intro st ht h
    have hp := ht.1
    rw [rFact] at h ⊢
    by_cases h1x : wdH B n st.1 = 12 ∨ sgH B n st.1 = 91
    · rw [if_pos h1x] at h; exact absurd h (fl_ne (by omega))
    · rw [if_neg h1x] at h ⊢; exact rCmp_G hn ht h
  | succ m ih =>
    intro st ht h
    rw [rFact] at h ⊢
    by_cases h1x : wdH B n st.1 = 12
    · rw [if_pos h1x] at h ⊢
      obtain ⟨g1x, l1x, l2x⟩ := rG.gow (B := B) (n := n) (a := st) (x := []) (w := 12) (by decide) h1x
      by_cases h2x : ¬ (rFact B n m (goN B n st)).1 = 0
      · rw [if_pos h2x] at h; exact absurd h h2x
      · rw [if_neg h2x]
        have g2x := ih _ (g1x.tk ht) (Decidable.not_not.mp h2x)
        exact ((g1x.tr g2x).ad (j := 9) (z := [true]) (by decide) (fun s => rfl)).wk (by omega)
    · rw [if_neg h1x] at h ⊢
      by_cases h2x : sgH B n st.1 = 91
      · rw [if_pos h2x] at h ⊢
        have l1x : st.1 < n := sgH_lt (B := B) (by rw [h2x]; decide)
        have g1x : rG B n st (goN B n st) 1 [] [] := rG.go l1x
        by_cases h3x : ¬ (rTL B n (rFact B n m) 401 false false (goN B n st)).1 = 0
        · rw [if_pos h3x] at h; exact absurd h h3x
        · rw [if_neg h3x] at h ⊢
          have g2x := rTL_G (B := B) (n := n) (F := rFact B n m) ih 401 false false (goN B n st) (g1x.tk ht) (by omega) (Decidable.not_not.mp h3x)
          have g3x : rG B n st (rTL B n (rFact B n m) 401 false false (goN B n st)).2 2 [] [true] := (g1x.tr g2x).wk (by simp [pdn])
          have hp3x := (g3x.tk ht).1
          by_cases h4x : sgH B n (rTL B n (rFact B n m) 401 false false (goN B n st)).2.1 = 93
          · rw [if_pos h4x]
            have g4x : rG B n (rTL B n (rFact B n m) 401 false false (goN B n st)).2 (goN B n (rTL B n (rFact B n m) 401 false false (goN B n st)).2) 1 [true] [true] := rG.go (sgH_lt (B := B) (by rw [h4x]; decide))
            exact (g3x.tr g4x).wk (by omega)
          · rw [if_neg h4x] at h; exact absurd h (fl_ne (by omega))
      · rw [if_neg h2x] at h ⊢; exact rCmp_G hn ht h
theorem rTest_G (hn : n ≤ 400) {m : Nat} {st : rS} (ht : tok B n st.1) (h : (rTest B n m st).1 = 0) : rG B n st (rTest B n m st).2 1 [] [true] := by
  have := rTL_G (B := B) (n := n) (F := rFact B n m) (rFact_G hn m) 401 false false st ht (by omega) h
  exact this.wk (by simp [pdn])
end RL
