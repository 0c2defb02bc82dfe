/-! A RULE read: faults are above 0; what is read is in order; the other side's call -/
section MU13x
variable {X : xX} {h : xH} {sh : List (Nat × Nat)} {I : Nat → Nat → Int32} {L : Nat → Nat → Int64} {R : Nat → Nat → Option Nat} {B : Nat → Nat} {n ri p : Nat} {st : rS}
theorem rV_ft (hn : n ≤ 400) {st : rS} (ht : tok B n st.1) : isFt (rV B n st).1 := by
  have hp := ht.1
  have z : isFt 0 := Or.inl rfl
  unfold rV
  split
  · split
    · exact fl_ft (by omega) (by decide) z
    · split
      · exact fl_ft (by omega) (by decide) z
      · exact z
  · split
    · split
      · exact fl_ft (by omega) (by decide) z
      · exact z
    · exact fl_ft (by omega) (by decide) z
theorem goN_tk {st : rS} (ht : tok B n st.1) : tok B n (goN B n st).1 := tok_nxt ht
theorem adE_tk {st : rS} {k : Nat} (ht : tok B n st.1) : tok B n (adE k st).1 := ht
theorem tmL_ft (hn : n ≤ 400) : ∀ (a : Nat) (st : rS), tok B n st.1 → isFt (tmL B n a st).1 := by
  intro a
  induction a with
  | zero => intro st ht; exact Or.inl rfl
  | succ a ih =>
    intro st ht
    rw [tmL]
    split
    · exact Or.inl rfl
    · split
      · exact rV_ft hn (goN_tk ht)
      · rename_i h0x
        exact ih _ (adE_tk ((rV_G hn (goN_tk ht) (Decidable.not_not.mp h0x)).1.tk (goN_tk ht)))
theorem rTm_ft (hn : n ≤ 400) {st : rS} (ht : tok B n st.1) : isFt (rTm B n st).1 := by
  unfold rTm
  split
  · exact rV_ft hn ht
  · rename_i h0x
    exact tmL_ft hn _ _ ((rV_G hn ht (Decidable.not_not.mp h0x)).1.tk ht)
theorem slL_ft (hn : n ≤ 400) : ∀ (a : Nat) (st : rS), tok B n st.1 → isFt (slL B n a st).1 := by
  intro a
  induction a with
  | zero => intro st ht; exact Or.inl rfl
  | succ a ih =>
    intro st ht
    rw [slL]
    split
    · exact Or.inl rfl
    · split
      · exact rTm_ft hn (goN_tk ht)
      · rename_i h0x
        exact ih _ (adE_tk ((rTm_G hn (goN_tk ht) (Decidable.not_not.mp h0x)).tk (goN_tk ht)))
theorem rSum_ft (hn : n ≤ 400) {st : rS} (ht : tok B n st.1) : isFt (rSum B n st).1 := by
  unfold rSum
  split
  · exact rTm_ft hn ht
  · rename_i h0x
    exact slL_ft hn _ _ ((rTm_G hn ht (Decidable.not_not.mp h0x)).tk ht)
theorem rCs_ft (hn : n ≤ 400) {st : rS} (ht : tok B n st.1) : isFt (rCs B n st).1 := by
  have hp := ht.1
  unfold rCs
  split
  · exact fl_ft (by omega) (by decide) (Or.inl rfl)
  · split
    · exact fl_ft (by omega) (by decide) (Or.inl rfl)
    · exact Or.inl rfl
theorem rCmp_ft (hn : n ≤ 400) {st : rS} (ht : tok B n st.1) : isFt (rCmp B n st).1 := by
  unfold rCmp
  split
  · exact rSum_ft hn ht
  · rename_i h0x
    have t1x := (rSum_G hn ht (Decidable.not_not.mp h0x)).tk ht
    split
    · exact rCs_ft hn t1x
    · rename_i h1x
      have t2x := (rCs_G (x := []) hn t1x (Decidable.not_not.mp h1x)).1.tk t1x
      split
      · exact rSum_ft hn t2x
      · exact Or.inl rfl
theorem bAd_tk {st : rS} {b : Bool} {j : Nat} (ht : tok B n st.1) : tok B n (if b then adE j st else st).1 := by
  cases b
  · exact ht
  · exact ht
theorem rTL_ft {Fn : rS → Int32 × rS} (hF : ∀ st, tok B n st.1 → isFt (Fn st).1) (hG : ∀ st, tok B n st.1 → (Fn st).1 = 0 → tok B n (Fn st).2.1) : ∀ (k : Nat) (an o : Bool) (st : rS), tok B n st.1 → isFt (rTL B n Fn k an o st).1 := by
  intro k
  induction k with
  | zero => intro an o st ht; exact Or.inl rfl
  | succ k ih =>
    intro an o st ht
    rw [rTL]
    split
    · exact hF st ht
    · rename_i h0x
      have t1x := hG st ht (Decidable.not_not.mp h0x)
      split
      · exact ih _ _ _ (goN_tk (bAd_tk t1x))
      · split
        · exact ih _ _ _ (goN_tk (bAd_tk (bAd_tk t1x)))
        · exact Or.inl rfl
theorem rFact_ft (hn : n ≤ 400) : ∀ (m : Nat) (st : rS), tok B n st.1 → isFt (rFact B n m st).1 := by
  intro m
  induction m with
  | zero =>
    intro st ht
    have hp := ht.1
    rw [rFact]
    split
    · exact fl_ft (by omega) (by decide) (Or.inl rfl)
    · exact rCmp_ft hn ht
  | succ m ih =>
    intro st ht
    have hp := ht.1
    rw [rFact]
    split
    · split
      · exact ih _ (goN_tk ht)
      · exact Or.inl rfl
    · split
      · have tt := rTL_ft (Fn := rFact B n m) ih (fun s q h => (rFact_G hn m s q h).tk q) 401 false false (goN B n st) (goN_tk ht)
        split
        · exact tt
        · rename_i h0x
          have t2x := (rTest_G hn (m := m) (goN_tk ht) (Decidable.not_not.mp h0x)).tk (goN_tk ht)
          have := t2x.1
          split
          · exact Or.inl rfl
          · exact fl_ft (by unfold rTest at this; omega) (by decide) (Or.inl rfl)
      · exact rCmp_ft hn ht
theorem rTest_ft (hn : n ≤ 400) {m : Nat} {st : rS} (ht : tok B n st.1) : isFt (rTest B n m st).1 :=
  rTL_ft (Fn := rFact B n m) (rFact_ft hn m) (fun s q h => (rFact_G hn m s q h).tk q) 401 false false st ht
theorem rCl_ft (hn : n ≤ 400) {i : Nat} {st : rS} (ht : tok B n st.1) : isFt (rCl B n i st).1 := by
  have hp := ht.1
  have z : isFt 0 := Or.inl rfl
  unfold rCl
  split
  · exact fl_ft (by omega) (by decide) z
  · split
    · exact fl_ft (by omega) (by decide) z
    · split
      · split
        · exact rSum_ft hn (goN_tk ht)
        · rename_i h0x
          have t1x := (rSum_G hn (goN_tk ht) (Decidable.not_not.mp h0x)).tk (goN_tk ht)
          split
          · exact rTest_ft hn (goN_tk t1x)
          · exact z
      · exact rTest_ft hn (goN_tk ht)
/-- the entries from a to b -/
def cseg (cd : List (Nat × Nat)) (a b : Nat) : List (Nat × Nat) := (cd.take b).drop a
theorem cseg_app {cd l : List (Nat × Nat)} {a b : Nat} (h : b ≤ cd.length) : cseg (cd ++ l) a b = cseg cd a b := by
  unfold cseg; rw [List.take_append_of_le_length h]
theorem cseg_new {cd l : List (Nat × Nat)} : cseg (cd ++ l) cd.length (cd ++ l).length = l := by
  unfold cseg; rw [List.take_length, List.drop_left]
/-- a clause in order -/
def clOK (cd : List (Nat × Nat)) (c : Nat × Nat × Nat) : Prop := c.1 ≤ c.2.1 ∧ c.2.1 ≤ c.2.2 ∧ c.2.2 ≤ cd.length ∧ (c.1 < c.2.1 → tev (cseg cd c.1 c.2.1) [] = some [false]) ∧ (c.2.1 < c.2.2 → tev (cseg cd c.2.1 c.2.2) [] = some [true]) ∧ (c.1 = c.2.1 → c.2.1 < c.2.2)
theorem clOK.app {cd l : List (Nat × Nat)} {c : Nat × Nat × Nat} (h : clOK cd c) : clOK (cd ++ l) c := by
  obtain ⟨h1x, h2x, h3x, h4x, h5x, h6x⟩ := h
  refine ⟨h1x, h2x, by rw [List.length_append]; omega, fun q => ?_, fun q => ?_, h6x⟩
  · rw [cseg_app (by omega)]; exact h4x q
  · rw [cseg_app (by omega)]; exact h5x q
/-- a rule in order -/
def ruOK (cd : List (Nat × Nat)) (cl : List (Nat × Nat × Nat)) : Prop := cd.length ≤ 300 ∧ (∀ e ∈ cd, vE e) ∧ nv cd ≤ 60 ∧ cl.length ≤ 12 ∧ ∀ c ∈ cl, clOK cd c
/-- what is read so far is in order -/
def stOK (n : Nat) (st : rS) : Prop := st.1 ≤ n ∧ st.2.1 ≤ 60 ∧ 2 * st.2.2.length ≤ 2 * st.2.1 + st.1 ∧ nv st.2.2 ≤ st.2.1 ∧ ∀ e ∈ st.2.2, vE e
theorem rG.so {a b : rS} {k : Int} {x y : List Bool} (h : rG B n a b k x y) (hk : 0 ≤ k) (ht : tok B n a.1) (s : stOK n a) : stOK n b := by
  have hb := h.bd (j := 0) hk s.2.2.1
  have tk := h.tk ht
  have hc := h.c s.2.1
  obtain ⟨sg, e, h1x, h2x, h3x⟩ := h
  refine ⟨tk.1, hc, hb, ?_, fun q hq => ?_⟩
  · rw [e, nv_app]; have := s.2.2.2.1; omega
  · rw [e] at hq
    rcases List.mem_append.mp hq with q1x | q1x
    · exact s.2.2.2.2 q q1x
    · exact h1x q q1x
theorem rG.sg {a b : rS} {k : Int} {y : List Bool} (h : rG B n a b k [] y) : ∃ l, b.2.2 = a.2.2 ++ l ∧ tev l [] = some y := by
  obtain ⟨sg, e, h1x, h2x, h3x, h4x, h5x, h6x, h7x, h8x⟩ := h
  exact ⟨sg, e, by have := h8x []; simpa using this⟩
theorem tev_nil {l : List (Nat × Nat)} {x : Bool} (h : tev l [] = some [x]) : 0 < l.length := by
  cases l with
  | nil => cases h
  | cons a t => simp
theorem goN_so {st : rS} (hp : st.1 < n) (ht : tok B n st.1) (s : stOK n st) : stOK n (goN B n st) := (rG.go (x := []) hp).so (by decide) ht s
theorem w_lt {p w : Nat} (hw : w < 22) (h : wdH B n p = nI w) : p < n := (nxt_w hw h).2.1
theorem rCl_ok (hn : n ≤ 400) {i : Nat} {st : rS} (ht : tok B n st.1) (s : stOK n st) (h : (rCl B n i st).1 = 0) : tok B n (rCl B n i st).2.1.1 ∧ stOK n (rCl B n i st).2.1 ∧ clOK (rCl B n i st).2.1.2.2 (clE B n i st) ∧ ∃ l, (rCl B n i st).2.1.2.2 = st.2.2 ++ l := by
  have hp := ht.1
  unfold clE
  unfold rCl at h ⊢
  by_cases h1x : ¬ (wdH B n st.1 = 7 ∨ wdH B n st.1 = 9)
  · rw [if_pos h1x] at h; exact absurd h (fl_ne (by omega))
  rw [if_neg h1x] at h ⊢
  by_cases h2x : 12 ≤ i
  · rw [if_pos h2x] at h; exact absurd h (fl_ne (by omega))
  rw [if_neg h2x] at h ⊢
  have tg := goN_tk ht
  by_cases h7x : wdH B n st.1 = 7
  · rw [if_pos h7x] at h ⊢
    have lt := w_lt (w := 7) (by decide) h7x
    have sg := goN_so lt ht s
    by_cases h3x : ¬ (rSum B n (goN B n st)).1 = 0
    · rw [if_pos h3x] at h; exact absurd h h3x
    rw [if_neg h3x] at h ⊢
    have G1x := rSum_G hn tg (Decidable.not_not.mp h3x)
    have t1x := G1x.tk tg
    have s1x := G1x.so (by decide) tg sg
    obtain ⟨l1x, e1x, v1x⟩ := G1x.sg
    replace e1x : (rSum B n (goN B n st)).2.2.2 = st.2.2 ++ l1x := e1x
    have p1x := tev_nil v1x
    by_cases h8x : wdH B n (rSum B n (goN B n st)).2.1 = 8
    · rw [if_pos h8x] at h ⊢
      have lt8x := w_lt (w := 8) (by decide) h8x
      have tg2x := goN_tk t1x
      have sg2x := goN_so lt8x t1x s1x
      have G2x := rTest_G hn (m := 10) tg2x h
      obtain ⟨l2x, e2x, v2x⟩ := G2x.sg
      replace e2x : (rTest B n 10 (goN B n (rSum B n (goN B n st)).2)).2.2.2 = (rSum B n (goN B n st)).2.2.2 ++ l2x := e2x
      have p2x := tev_nil v2x
      refine ⟨G2x.tk tg2x, G2x.so (by decide) tg2x sg2x, ?_, l1x ++ l2x, ?_⟩
      · show clOK (rTest B n 10 (goN B n (rSum B n (goN B n st)).2)).2.2.2 (st.2.2.length, (rSum B n (goN B n st)).2.2.2.length, (rTest B n 10 (goN B n (rSum B n (goN B n st)).2)).2.2.2.length)
        rw [e2x, e1x]
        refine ⟨by simp, by simp, Nat.le_refl _, fun _ => ?_, fun _ => ?_, fun q => ?_⟩
        · show tev (cseg (st.2.2 ++ l1x ++ l2x) st.2.2.length (st.2.2 ++ l1x).length) [] = _
          rw [cseg_app (Nat.le_refl _), cseg_new]; exact v1x
        · show tev (cseg (st.2.2 ++ l1x ++ l2x) (st.2.2 ++ l1x).length (st.2.2 ++ l1x ++ l2x).length) [] = _
          rw [cseg_new]; exact v2x
        · show (st.2.2 ++ l1x).length < (st.2.2 ++ l1x ++ l2x).length
          rw [List.length_append (as := st.2.2 ++ l1x)]; omega
      · show (rTest B n 10 (goN B n (rSum B n (goN B n st)).2)).2.2.2 = _
        rw [e2x, e1x, List.append_assoc]
    · rw [if_neg h8x]
      refine ⟨t1x, s1x, ?_, l1x, e1x⟩
      show clOK (rSum B n (goN B n st)).2.2.2 (st.2.2.length, (rSum B n (goN B n st)).2.2.2.length, (rSum B n (goN B n st)).2.2.2.length)
      rw [e1x]
      refine ⟨by simp, Nat.le_refl _, Nat.le_refl _, fun _ => ?_, fun q => absurd q (Nat.lt_irrefl _), fun q => ?_⟩
      · show tev (cseg (st.2.2 ++ l1x) st.2.2.length (st.2.2 ++ l1x).length) [] = _
        rw [cseg_new]; exact v1x
      · exfalso; have q' : st.2.2.length = (st.2.2 ++ l1x).length := q; rw [List.length_append] at q'; omega
  · rw [if_neg h7x] at h ⊢
    have h9x : wdH B n st.1 = 9 := by
      apply Decidable.byContradiction; intro q; exact h1x (fun r => r.elim h7x q)
    have lt := w_lt (w := 9) (by decide) h9x
    have sg := goN_so lt ht s
    have G2x := rTest_G hn (m := 10) tg h
    obtain ⟨l2x, e2x, v2x⟩ := G2x.sg
    replace e2x : (rTest B n 10 (goN B n st)).2.2.2 = st.2.2 ++ l2x := e2x
    have p2x := tev_nil v2x
    refine ⟨G2x.tk tg, G2x.so (by decide) tg sg, ?_, l2x, e2x⟩
    show clOK (rTest B n 10 (goN B n st)).2.2.2 (st.2.2.length, st.2.2.length, (rTest B n 10 (goN B n st)).2.2.2.length)
    rw [e2x]
    refine ⟨Nat.le_refl _, by simp, Nat.le_refl _, fun q => absurd q (Nat.lt_irrefl _), fun _ => ?_, fun _ => ?_⟩
    · show tev (cseg (st.2.2 ++ l2x) st.2.2.length (st.2.2 ++ l2x).length) [] = _
      rw [cseg_new]; exact v2x
    · show st.2.2.length < (st.2.2 ++ l2x).length
      rw [List.length_append]; omega
theorem rRL_ok (hn : n ≤ 400) : ∀ (k : Nat) (st : rS) (cl : List (Nat × Nat × Nat)), k + cl.length = 13 → cl.length ≤ 12 → tok B n st.1 → stOK n st → (∀ c ∈ cl, clOK st.2.2 c) → isFt (rRL B n k st cl).1 ∧ ((rRL B n k st cl).1 = 0 → ruOK (rRL B n k st cl).2.1.2.2 (rRL B n k st cl).2.2) := by
  intro k
  induction k with
  | zero => intro st cl hk hl; omega
  | succ k ih =>
    intro st cl hk hl ht s hc
    rw [rRL]
    have ft := rCl_ft hn (i := cl.length) ht
    by_cases h1x : ¬ (rCl B n cl.length st).1 = 0
    · rw [if_pos h1x]; exact ⟨ft, fun e => absurd e h1x⟩
    rw [if_neg h1x]
    have z1x := Decidable.not_not.mp h1x
    have l12x := rCl_12 ht.1 hn z1x
    obtain ⟨t1x, s1x, c1x, l, e1x⟩ := rCl_ok hn ht s z1x
    have el : (cl ++ [clE B n cl.length st]).length = cl.length + 1 := by simp
    have hc1x : ∀ c ∈ cl ++ [clE B n cl.length st], clOK (rCl B n cl.length st).2.1.2.2 c := by
      intro c q
      rcases List.mem_append.mp q with q | q
      · rw [e1x]; exact (hc c q).app
      · rw [List.mem_singleton.mp q]; exact c1x
    have hp1x := t1x.1
    by_cases h2x : goB B n (rCl B n cl.length st).2.1.1 0 = true
    · rw [if_pos h2x]
      have lt : (rCl B n cl.length st).2.1.1 < n := by
        unfold goB at h2x
        have q := of_decide_eq_true h2x
        exact Decidable.byContradiction (fun hc => q.2.1 (tknd_0.mpr (by omega)))
      exact ih _ _ (by rw [el]; omega) (by rw [el]; omega) (goN_tk t1x) (goN_so lt t1x s1x) hc1x
    · rw [if_neg h2x]
      refine ⟨goF_ft (by omega), fun _ => ⟨?_, s1x.2.2.2.2, ?_, by rw [el]; omega, hc1x⟩⟩
      · have a := s1x.1; have b := s1x.2.1; have c := s1x.2.2.1; show (rCl B n cl.length st).2.1.2.2.length ≤ 300; omega
      · have b := s1x.2.1; have c := s1x.2.2.2.1; show nv (rCl B n cl.length st).2.1.2.2 ≤ 60; omega
theorem rRule_ok (hn : n ≤ 400) : isFt (rRule B n).1 ∧ ((rRule B n).1 = 0 → ruOK (rRule B n).2.1.2.2 (rRule B n).2.2) :=
  rRL_ok hn 13 (skp B n 0, 0, []) [] (by decide) (by decide) (tok_skp (Nat.zero_le _)) ⟨skp_le.2 (Nat.zero_le _), Nat.zero_le _, by show 2 * 0 ≤ _; omega, Nat.le_refl _, by simp⟩ (by simp)
end MU13x
