/-! CONSTRUCTORS: an object's arrays, one behind another -/
/-- one array more, held in the slot s of the cell i -/
def xone (i s t n : Nat) (h : xH) : xH := (h.1 ++ [(t, n)], xz h.2.1 h.1.length 0, xz h.2.2.1 h.1.length 0, xu (xz h.2.2.2 h.1.length none) i s (some h.1.length))
/-- arrays for the slots of the cell i: slot, kind, length -/
def xadd (i : Nat) : List (Nat × Nat × Nat) → xH → xH
  | [], h => h
  | q :: r, h => xadd i r (xone i q.1 q.2.1 q.2.2 h)
theorem xadd_sh (i : Nat) : ∀ (fs : List (Nat × Nat × Nat)) (h : xH), (xadd i fs h).1 = h.1 ++ fs.map (fun q => (q.2.1, q.2.2)) := by
  intro fs
  induction fs with
  | nil => intro h; simp [xadd]
  | cons q r ih => intro h; rw [xadd, ih]; simp [xone]
theorem xadd_len (i : Nat) (fs : List (Nat × Nat × Nat)) (h : xH) : (xadd i fs h).1.length = h.1.length + fs.length := by rw [xadd_sh]; simp
theorem xone_len (i s t n : Nat) (h : xH) : (xone i s t n h).1.length = h.1.length + 1 := by simp [xone]
theorem xadd_old (i : Nat) : ∀ (fs : List (Nat × Nat × Nat)) (h : xH) (p : Nat), p < h.1.length → (xadd i fs h).2.1 p = h.2.1 p ∧ (xadd i fs h).2.2.1 p = h.2.2.1 p ∧ (p ≠ i → (xadd i fs h).2.2.2 p = h.2.2.2 p) := by
  intro fs
  induction fs with
  | nil => intro h p _; exact ⟨rfl, rfl, fun _ => rfl⟩
  | cons q r ih =>
    intro h p hp
    obtain ⟨h1, h2, h3⟩ := ih (xone i q.1 q.2.1 q.2.2 h) p (by rw [xone_len]; omega)
    refine ⟨h1.trans (xz_ne (by omega)), h2.trans (xz_ne (by omega)), fun hi => (h3 hi).trans ?_⟩
    exact (xu_ne hi).trans (xz_ne (by omega))
theorem xadd_new (i : Nat) : ∀ (fs : List (Nat × Nat × Nat)) (h : xH) (p : Nat), i < h.1.length → h.1.length ≤ p → p < h.1.length + fs.length → (xadd i fs h).2.1 p = (fun _ => 0) ∧ (xadd i fs h).2.2.1 p = (fun _ => 0) ∧ (xadd i fs h).2.2.2 p = (fun _ => none) := by
  intro fs
  induction fs with
  | nil => intro h p _ h1 h2; simp at h2; omega
  | cons q r ih =>
    intro h p hi h1 h2
    rw [List.length_cons] at h2
    rw [xadd]
    by_cases hp : p = h.1.length
    · obtain ⟨a1, a2, a3⟩ := xadd_old i r (xone i q.1 q.2.1 q.2.2 h) p (by rw [xone_len]; omega)
      refine ⟨a1.trans ?_, a2.trans ?_, (a3 (by omega)).trans ?_⟩
      · rw [hp]; exact xz_row _ _ _
      · rw [hp]; exact xz_row _ _ _
      · rw [hp]; exact (xu_ne (by omega)).trans (xz_row _ _ _)
    · exact ih _ p (by rw [xone_len]; omega) (by rw [xone_len]; omega) (by rw [xone_len]; omega)
theorem xadd_keep (i : Nat) : ∀ (fs : List (Nat × Nat × Nat)) (h : xH) (s : Nat), i < h.1.length → (∀ q ∈ fs, q.1 ≠ s) → (xadd i fs h).2.2.2 i s = h.2.2.2 i s := by
  intro fs
  induction fs with
  | nil => intro h s _ _; rfl
  | cons q r ih =>
    intro h s hi hs
    rw [xadd, ih _ s (by rw [xone_len]; omega) (fun z hz => hs z (List.mem_cons_of_mem _ hz))]
    have h1 := hs q List.mem_cons_self
    exact (xu_k (Ne.symm h1)).trans (congrFun (xz_ne (by omega)) s)
theorem xadd_ref (i : Nat) : ∀ (fs : List (Nat × Nat × Nat)) (h : xH) (j s : Nat), i < h.1.length → (fs[j]?).map (fun q => q.1) = some s → (∀ q ∈ fs.drop (j + 1), q.1 ≠ s) → (xadd i fs h).2.2.2 i s = some (h.1.length + j) := by
  intro fs
  induction fs with
  | nil => intro h j s _ h1 _; simp at h1
  | cons q r ih =>
    intro h j s hi h1 h2
    rw [xadd]
    cases j with
    | zero =>
      have h3 : q.1 = s := by simpa using h1
      rw [xadd_keep i r _ s (by rw [xone_len]; omega) (fun z hz => h2 z (by simpa using hz))]
      rw [← h3]
      exact xu_at
    | succ j =>
      rw [ih _ j s (by rw [xone_len]; omega) (by simpa using h1) (fun z hz => h2 z (by simpa using hz)), xone_len]
      congr 1; omega
section CT
variable {X : xX} {T : Nat → Nat → Option xI} {d k pc : Nat} {l : xL} {h : xH} {Q : Option Value → xH → Prop} {i : Nat}
/-- load this, push a length, make an array, put it into a field -/
theorem e_fa {a1 b1 g1 p1 a2 b2 g2 p2 b3 g3 p3 g4 p4 t slot cls z N : Nat} {c1 c2 c3 c4 : Int32} {q1 q2 q3 q4 : Int64} (h1 : T k pc = some (1, a1, b1, g1, c1, q1, p1)) (h2 : T k p1 = some (6, a2, b2, g2, c2, q2, p2)) (h3 : T k p2 = some (65, t, b3, g3, c3, q3, p3)) (h4 : T k p3 = some (53, slot, cls, g4, c4, q4, p4)) (hl : xlk l a1 = some (.ref i)) (hN : c2 = nI N) (hN2 : N ≤ 600000) (hi : h.1[i]? = some (cls, z)) (kk : Eg X T d k p4 l [] (xone i slot t N h) Q) : Eg X T d k pc l [] h Q := by
  obtain ⟨sh, I, L, R⟩ := h
  refine e_aload h1 hl ?_
  refine e_ipush h2 ?_
  subst hN
  have e1 : (nI N).toNatClampNeg = N := nI_clamp (by omega)
  refine e_newa h3 (fun q => ?_) ?_
  · rcases q with q | q
    · exact nI_pos (by omega) q
    · rw [e1] at q; omega
  rw [e1]
  refine e_putR h4 (n := z) ?_ kk
  have hi : sh[i]? = some (cls, z) := hi
  rw [List.getElem?_append_left (List.getElem?_eq_some_iff.mp hi).1]
  exact hi
theorem xadd_at {fs : List (Nat × Nat × Nat)} {q : Nat × Nat} (hi : h.1[i]? = some q) (j : Nat) : (xadd j fs h).1[i]? = some q := by
  rw [xadd_sh, List.getElem?_append_left (List.getElem?_eq_some_iff.mp hi).1]
  exact hi
theorem xone_at {s t n j : Nat} {q : Nat × Nat} (hi : h.1[i]? = some q) : (xone j s t n h).1[i]? = some q := xadd_at (fs := [(s, t, n)]) hi j
end CT
/-- the arrays of a Sea -/
def fs_sea : List (Nat × Nat × Nat) := [(5, 20, 3), (6, 20, 3), (7, 20, 3), (8, 20, 3), (9, 20, 60), (10, 20, 12), (11, 20, 8), (12, 20, 8), (13, 20, 8), (14, 20, 4), (15, 20, 4), (16, 20, 4)]
theorem ct_sea {X : xX} {h0 : xH} {i z : Nat} (hi : h0.1[i]? = some (7, z)) : Ec X 1 81 [.ref i] h0 (fun r h => r = none ∧ h = (fun g : xH => (g.1, xu (xu g.2.1 i 18 1) i 19 1, g.2.2.1, g.2.2.2)) (xadd i fs_sea h0)) := by
  refine Ec.of (Nat.le_of_ble_eq_true rfl) ?_
  refine e_aload rfl rfl ?_
  refine e_oinit rfl (by decide) ?_
  refine e_fa rfl rfl rfl rfl rfl (N := 3) (by decide +kernel) (by decide) hi ?_
  replace hi := xone_at (s := 5) (t := 20) (n := 3) (j := i) hi
  refine e_fa rfl rfl rfl rfl rfl (N := 3) (by decide +kernel) (by decide) hi ?_
  replace hi := xone_at (s := 6) (t := 20) (n := 3) (j := i) hi
  refine e_fa rfl rfl rfl rfl rfl (N := 3) (by decide +kernel) (by decide) hi ?_
  replace hi := xone_at (s := 7) (t := 20) (n := 3) (j := i) hi
  refine e_fa rfl rfl rfl rfl rfl (N := 3) (by decide +kernel) (by decide) hi ?_
  replace hi := xone_at (s := 8) (t := 20) (n := 3) (j := i) hi
  refine e_fa rfl rfl rfl rfl rfl (N := 60) (by decide +kernel) (by decide) hi ?_
  replace hi := xone_at (s := 9) (t := 20) (n := 60) (j := i) hi
  refine e_fa rfl rfl rfl rfl rfl (N := 12) (by decide +kernel) (by decide) hi ?_
  replace hi := xone_at (s := 10) (t := 20) (n := 12) (j := i) hi
  refine e_fa rfl rfl rfl rfl rfl (N := 8) (by decide +kernel) (by decide) hi ?_
  replace hi := xone_at (s := 11) (t := 20) (n := 8) (j := i) hi
  refine e_fa rfl rfl rfl rfl rfl (N := 8) (by decide +kernel) (by decide) hi ?_
  replace hi := xone_at (s := 12) (t := 20) (n := 8) (j := i) hi
  refine e_fa rfl rfl rfl rfl rfl (N := 8) (by decide +kernel) (by decide) hi ?_
  replace hi := xone_at (s := 13) (t := 20) (n := 8) (j := i) hi
  refine e_fa rfl rfl rfl rfl rfl (N := 4) (by decide +kernel) (by decide) hi ?_
  replace hi := xone_at (s := 14) (t := 20) (n := 4) (j := i) hi
  refine e_fa rfl rfl rfl rfl rfl (N := 4) (by decide +kernel) (by decide) hi ?_
  replace hi := xone_at (s := 15) (t := 20) (n := 4) (j := i) hi
  refine e_fa rfl rfl rfl rfl rfl (N := 4) (by decide +kernel) (by decide) hi ?_
  replace hi := xone_at (s := 16) (t := 20) (n := 4) (j := i) hi
  refine e_aload rfl rfl ?_
  refine e_ipush rfl ?_
  refine e_putI rfl hi ?_
  refine e_aload rfl rfl ?_
  refine e_ipush rfl ?_
  refine e_putI rfl hi ?_
  exact Eg.ret rfl (by decide) rfl ⟨rfl, rfl⟩
/-- the arrays of a Fleet -/
def fs_fleet : List (Nat × Nat × Nat) := [(1, 20, 6), (2, 20, 6), (3, 20, 6), (4, 20, 64)]
theorem ct_fleet {X : xX} {h0 : xH} {i z : Nat} (hi : h0.1[i]? = some (2, z)) : Ec X 1 29 [.ref i] h0 (fun r h => r = none ∧ h = xadd i fs_fleet h0) := by
  refine Ec.of (Nat.le_of_ble_eq_true rfl) ?_
  refine e_aload rfl rfl ?_
  refine e_oinit rfl (by decide) ?_
  refine e_fa rfl rfl rfl rfl rfl (N := 6) (by decide +kernel) (by decide) hi ?_
  replace hi := xone_at (s := 1) (t := 20) (n := 6) (j := i) hi
  refine e_fa rfl rfl rfl rfl rfl (N := 6) (by decide +kernel) (by decide) hi ?_
  replace hi := xone_at (s := 2) (t := 20) (n := 6) (j := i) hi
  refine e_fa rfl rfl rfl rfl rfl (N := 6) (by decide +kernel) (by decide) hi ?_
  replace hi := xone_at (s := 3) (t := 20) (n := 6) (j := i) hi
  refine e_fa rfl rfl rfl rfl rfl (N := 64) (by decide +kernel) (by decide) hi ?_
  replace hi := xone_at (s := 4) (t := 20) (n := 64) (j := i) hi
  exact Eg.ret rfl (by decide) rfl ⟨rfl, rfl⟩
/-- the arrays of a Rule -/
def fs_rule : List (Nat × Nat × Nat) := [(0, 20, 400), (3, 20, 12), (4, 20, 12), (5, 20, 12)]
theorem ct_rule {X : xX} {h0 : xH} {i z : Nat} (hi : h0.1[i]? = some (5, z)) : Ec X 1 65 [.ref i] h0 (fun r h => r = none ∧ h = xadd i fs_rule h0) := by
  refine Ec.of (Nat.le_of_ble_eq_true rfl) ?_
  refine e_aload rfl rfl ?_
  refine e_oinit rfl (by decide) ?_
  refine e_fa rfl rfl rfl rfl rfl (N := 400) (by decide +kernel) (by decide) hi ?_
  replace hi := xone_at (s := 0) (t := 20) (n := 400) (j := i) hi
  refine e_fa rfl rfl rfl rfl rfl (N := 12) (by decide +kernel) (by decide) hi ?_
  replace hi := xone_at (s := 3) (t := 20) (n := 12) (j := i) hi
  refine e_fa rfl rfl rfl rfl rfl (N := 12) (by decide +kernel) (by decide) hi ?_
  replace hi := xone_at (s := 4) (t := 20) (n := 12) (j := i) hi
  refine e_fa rfl rfl rfl rfl rfl (N := 12) (by decide +kernel) (by decide) hi ?_
  replace hi := xone_at (s := 5) (t := 20) (n := 12) (j := i) hi
  exact Eg.ret rfl (by decide) rfl ⟨rfl, rfl⟩
/-- the arrays of a Tape -/
def fs_tape : List (Nat × Nat × Nat) := [(0, 20, 400), (3, 20, 401), (4, 20, 401), (5, 20, 401)]
theorem ct_tape {X : xX} {h0 : xH} {i z : Nat} (hi : h0.1[i]? = some (9, z)) : Ec X 1 108 [.ref i] h0 (fun r h => r = none ∧ h = xadd i fs_tape h0) := by
  refine Ec.of (Nat.le_of_ble_eq_true rfl) ?_
  refine e_aload rfl rfl ?_
  refine e_oinit rfl (by decide) ?_
  refine e_fa rfl rfl rfl rfl rfl (N := 400) (by decide +kernel) (by decide) hi ?_
  replace hi := xone_at (s := 0) (t := 20) (n := 400) (j := i) hi
  refine e_fa rfl rfl rfl rfl rfl (N := 401) (by decide +kernel) (by decide) hi ?_
  replace hi := xone_at (s := 3) (t := 20) (n := 401) (j := i) hi
  refine e_fa rfl rfl rfl rfl rfl (N := 401) (by decide +kernel) (by decide) hi ?_
  replace hi := xone_at (s := 4) (t := 20) (n := 401) (j := i) hi
  refine e_fa rfl rfl rfl rfl rfl (N := 401) (by decide +kernel) (by decide) hi ?_
  replace hi := xone_at (s := 5) (t := 20) (n := 401) (j := i) hi
  exact Eg.ret rfl (by decide) rfl ⟨rfl, rfl⟩
/-- the arrays of a Pilot -/
def fs_pilot : List (Nat × Nat × Nat) := [(3, 20, 12), (4, 20, 12), (5, 20, 12), (6, 20, 12), (7, 20, 12), (8, 20, 372), (9, 20, 372)]
theorem ct_pilot {X : xX} {h0 : xH} {i z : Nat} (hi : h0.1[i]? = some (4, z)) : Ec X 1 51 [.ref i] h0 (fun r h => r = none ∧ h = xadd i fs_pilot h0) := by
  refine Ec.of (Nat.le_of_ble_eq_true rfl) ?_
  refine e_aload rfl rfl ?_
  refine e_oinit rfl (by decide) ?_
  refine e_fa rfl rfl rfl rfl rfl (N := 12) (by decide +kernel) (by decide) hi ?_
  replace hi := xone_at (s := 3) (t := 20) (n := 12) (j := i) hi
  refine e_fa rfl rfl rfl rfl rfl (N := 12) (by decide +kernel) (by decide) hi ?_
  replace hi := xone_at (s := 4) (t := 20) (n := 12) (j := i) hi
  refine e_fa rfl rfl rfl rfl rfl (N := 12) (by decide +kernel) (by decide) hi ?_
  replace hi := xone_at (s := 5) (t := 20) (n := 12) (j := i) hi
  refine e_fa rfl rfl rfl rfl rfl (N := 12) (by decide +kernel) (by decide) hi ?_
  replace hi := xone_at (s := 6) (t := 20) (n := 12) (j := i) hi
  refine e_fa rfl rfl rfl rfl rfl (N := 12) (by decide +kernel) (by decide) hi ?_
  replace hi := xone_at (s := 7) (t := 20) (n := 12) (j := i) hi
  refine e_fa rfl rfl rfl rfl rfl (N := 372) (by decide +kernel) (by decide) hi ?_
  replace hi := xone_at (s := 8) (t := 20) (n := 372) (j := i) hi
  refine e_fa rfl rfl rfl rfl rfl (N := 372) (by decide +kernel) (by decide) hi ?_
  replace hi := xone_at (s := 9) (t := 20) (n := 372) (j := i) hi
  exact Eg.ret rfl (by decide) rfl ⟨rfl, rfl⟩
/-- the arrays of a Moment -/
def fs_mom : List (Nat × Nat × Nat) := [(3, 20, 4), (4, 20, 4), (5, 20, 4), (6, 20, 4), (8, 20, 8), (9, 20, 8), (10, 20, 8), (11, 20, 8)]
theorem ct_mom {X : xX} {h0 : xH} {i j z : Nat} (hi : h0.1[i]? = some (3, z)) : Ec X 1 36 [.ref i, .ref j] h0 (fun r h => r = none ∧ h = (fun g : xH => (g.1, g.2.1, g.2.2.1, xu g.2.2.2 i 0 (some j))) (xadd i fs_mom h0)) := by
  refine Ec.of (Nat.le_of_ble_eq_true rfl) ?_
  refine e_aload rfl rfl ?_
  refine e_oinit rfl (by decide) ?_
  refine e_fa rfl rfl rfl rfl rfl (N := 4) (by decide +kernel) (by decide) hi ?_
  replace hi := xone_at (s := 3) (t := 20) (n := 4) (j := i) hi
  refine e_fa rfl rfl rfl rfl rfl (N := 4) (by decide +kernel) (by decide) hi ?_
  replace hi := xone_at (s := 4) (t := 20) (n := 4) (j := i) hi
  refine e_fa rfl rfl rfl rfl rfl (N := 4) (by decide +kernel) (by decide) hi ?_
  replace hi := xone_at (s := 5) (t := 20) (n := 4) (j := i) hi
  refine e_fa rfl rfl rfl rfl rfl (N := 4) (by decide +kernel) (by decide) hi ?_
  replace hi := xone_at (s := 6) (t := 20) (n := 4) (j := i) hi
  refine e_fa rfl rfl rfl rfl rfl (N := 8) (by decide +kernel) (by decide) hi ?_
  replace hi := xone_at (s := 8) (t := 20) (n := 8) (j := i) hi
  refine e_fa rfl rfl rfl rfl rfl (N := 8) (by decide +kernel) (by decide) hi ?_
  replace hi := xone_at (s := 9) (t := 20) (n := 8) (j := i) hi
  refine e_fa rfl rfl rfl rfl rfl (N := 8) (by decide +kernel) (by decide) hi ?_
  replace hi := xone_at (s := 10) (t := 20) (n := 8) (j := i) hi
  refine e_fa rfl rfl rfl rfl rfl (N := 8) (by decide +kernel) (by decide) hi ?_
  replace hi := xone_at (s := 11) (t := 20) (n := 8) (j := i) hi
  refine e_aload rfl rfl ?_
  refine e_aload rfl rfl ?_
  refine e_putR rfl hi ?_
  exact Eg.ret rfl (by decide) rfl ⟨rfl, rfl⟩
