/-! RULES: what code is worth -/
section EV
/-- two values joined -/
def jn (k : Nat) (a b : Int64) : Int64 :=
  if k = 2 then a + b else if k = 3 then a - b else if k = 13 then a * b
  else if k = 14 then (if b = 0 then 0 else a / b) else if k = 15 then (if b = 0 then 0 else a - a / b * b)
  else if k = 4 then (if a < b then 1 else 0) else if k = 5 then (if b < a then 0 else 1) else if k = 6 then (if a = b then 1 else 0)
  else if k = 7 then (if a < b then 0 else 1) else if k = 8 then (if b < a then 1 else 0)
  else if k = 10 then a &&& b else a ||| b
/-- a stack: how many, and each from below -/
abbrev eS : Type := Nat × (Nat → Int64)
def upL (S : Nat → Int64) (n : Nat) (x : Int64) : Nat → Int64 := fun k => if k = n then x else S k
theorem upL_at {S : Nat → Int64} {n : Nat} {x : Int64} : upL S n x n = x := if_pos rfl
theorem upL_o {S : Nat → Int64} {n k : Nat} {x : Int64} (h : k ≠ n) : upL S n x k = S k := if_neg h
def evE (W : Nat → Int64) (e : Nat × Nat) (z : eS) : eS :=
  if e.1 = 0 then (z.1 + 1, upL z.2 z.1 (nI e.2).toInt64)
  else if e.1 = 1 then (z.1 + 1, upL z.2 z.1 (W e.2))
  else if e.1 = 9 then (z.1, upL z.2 (z.1 - 1) (1 - z.2 (z.1 - 1)))
  else (z.1 - 1, upL z.2 (z.1 - 2) (jn e.1 (z.2 (z.1 - 2)) (z.2 (z.1 - 1))))
def evL (W : Nat → Int64) : List (Nat × Nat) → eS → eS
  | [], z => z
  | e :: l, z => evL W l (evE W e z)
theorem evL_app {W : Nat → Int64} {b : List (Nat × Nat)} : ∀ (a : List (Nat × Nat)) (z : eS), evL W (a ++ b) z = evL W b (evL W a z) := by
  intro a
  induction a with
  | nil => intro z; rfl
  | cons e l ih => intro z; exact ih _
def evA (W : Nat → Int64) (cd : List (Nat × Nat)) (a i : Nat) : eS := evL W (cseg cd a i) (0, fun _ => 0)
def evV (W : Nat → Int64) (cd : List (Nat × Nat)) (a b : Nat) : Int64 := (evA W cd a b).2 0
theorem cseg_0 {cd : List (Nat × Nat)} {a : Nat} : cseg cd a a = [] := by
  unfold cseg; rw [List.drop_eq_nil_iff]; simp; omega
theorem cseg_s {cd : List (Nat × Nat)} {a i : Nat} {e : Nat × Nat} (h : a ≤ i) (he : cd[i]? = some e) : cseg cd a (i + 1) = cseg cd a i ++ [e] := by
  have hi : i < cd.length := by
    apply Decidable.byContradiction; intro q
    rw [List.getElem?_eq_none (by omega)] at he; cases he
  unfold cseg
  rw [List.take_add_one, he, List.drop_append_of_le_length (by rw [List.length_take]; omega)]
  rfl
theorem cseg_cut {cd : List (Nat × Nat)} {a i b : Nat} (h1x : a ≤ i) (h2x : i ≤ b) (h3x : b ≤ cd.length) : ∃ l, cseg cd a b = cseg cd a i ++ l := by
  refine ⟨(cd.take b).drop i, ?_⟩
  unfold cseg
  have e : cd.take i = (cd.take b).take i := by rw [List.take_take, Nat.min_eq_left h2x]
  rw [e]
  generalize cd.take b = t
  have := List.take_append_drop (i - a) (t.drop a)
  rw [List.drop_drop, show a + (i - a) = i by omega] at this
  rw [← this, List.drop_take]
theorem evA_0 {W : Nat → Int64} {cd : List (Nat × Nat)} {a : Nat} : evA W cd a a = (0, fun _ => 0) := by unfold evA; rw [cseg_0]; rfl
theorem evA_s {W : Nat → Int64} {cd : List (Nat × Nat)} {a i : Nat} {e : Nat × Nat} (h : a ≤ i) (he : cd[i]? = some e) : evA W cd a (i + 1) = evE W e (evA W cd a i) := by
  unfold evA; rw [cseg_s h he, evL_app]; rfl
/-- truths are 0 or 1 -/
def Ty (t : List Bool) (z : eS) : Prop := t.length = z.1 ∧ ∀ j, t[j]? = some true → z.2 (z.1 - 1 - j) = 0 ∨ z.2 (z.1 - 1 - j) = 1
theorem ite01 {p : Prop} [Decidable p] : (if p then (1 : Int64) else 0) = 0 ∨ (if p then (1 : Int64) else 0) = 1 := by split <;> simp
theorem ite10 {p : Prop} [Decidable p] : (if p then (0 : Int64) else 1) = 0 ∨ (if p then (0 : Int64) else 1) = 1 := by split <;> simp
theorem jn_cm {k : Nat} {a b : Int64} (h : 4 ≤ k ∧ k ≤ 8) : jn k a b = 0 ∨ jn k a b = 1 := by
  have : k = 4 ∨ k = 5 ∨ k = 6 ∨ k = 7 ∨ k = 8 := by omega
  rcases this with rfl | rfl | rfl | rfl | rfl
  · exact ite01
  · exact ite10
  · exact ite01
  · exact ite10
  · exact ite01
theorem jn_ao {k : Nat} {a b : Int64} (h : k = 10 ∨ k = 11) (ha : a = 0 ∨ a = 1) (hb : b = 0 ∨ b = 1) : jn k a b = 0 ∨ jn k a b = 1 := by
  rcases h with rfl | rfl <;> rcases ha with rfl | rfl <;> rcases hb with rfl | rfl <;> decide
theorem Ty.psh {t : List Bool} {z : eS} (h : Ty t z) {x : Int64} {b : Bool} (hb : b = true → x = 0 ∨ x = 1) : Ty (b :: t) (z.1 + 1, upL z.2 z.1 x) := by
  refine ⟨by rw [List.length_cons, h.1], fun j hj => ?_⟩
  cases j with
  | zero =>
    have e : b = true := by simpa using hj
    show upL z.2 z.1 x (z.1 + 1 - 1 - 0) = 0 ∨ upL z.2 z.1 x (z.1 + 1 - 1 - 0) = 1
    rw [show z.1 + 1 - 1 - 0 = z.1 by omega, upL_at]; exact hb e
  | succ j =>
    have e : t[j]? = some true := by simpa using hj
    have lt : j < t.length := by
      apply Decidable.byContradiction; intro q
      rw [List.getElem?_eq_none (by omega)] at e; cases e
    have := h.1
    show upL z.2 z.1 x (z.1 + 1 - 1 - (j + 1)) = 0 ∨ upL z.2 z.1 x (z.1 + 1 - 1 - (j + 1)) = 1
    rw [upL_o (by omega), show z.1 + 1 - 1 - (j + 1) = z.1 - 1 - j by omega]; exact h.2 j e
theorem Ty.tl {b : Bool} {t : List Bool} {z : eS} (h : Ty (b :: t) z) : Ty t (z.1 - 1, z.2) ∧ 1 ≤ z.1 ∧ (b = true → z.2 (z.1 - 1) = 0 ∨ z.2 (z.1 - 1) = 1) := by
  have h1x : t.length + 1 = z.1 := by simpa using h.1
  refine ⟨⟨by show t.length = z.1 - 1; omega, fun j hj => ?_⟩, by omega, fun e => ?_⟩
  · have := h.2 (j + 1) (by simpa using hj)
    show z.2 (z.1 - 1 - 1 - j) = 0 ∨ z.2 (z.1 - 1 - 1 - j) = 1
    rw [show z.1 - 1 - 1 - j = z.1 - 1 - (j + 1) by omega]; exact this
  · have := h.2 0 (by simpa using e)
    rwa [show z.1 - 1 - 0 = z.1 - 1 by omega] at this
/-- what a step needs -/
def eNd (e : Nat × Nat) (z : eS) : Prop := (e.1 = 9 → 1 ≤ z.1 ∧ (z.2 (z.1 - 1) = 0 ∨ z.2 (z.1 - 1) = 1)) ∧ (2 ≤ e.1 → e.1 ≠ 9 → 2 ≤ z.1)
theorem Ty.step {W : Nat → Int64} {e : Nat × Nat} {t t' : List Bool} {z : eS} (h : Ty t z) (hv : vE e) (he : tE e t = some t') : Ty t' (evE W e z) ∧ eNd e z := by
  unfold tE at he
  unfold evE eNd
  by_cases h0x : e.1 = 0
  · rw [if_pos (Or.inl h0x)] at he; cases he
    rw [if_pos h0x]
    exact ⟨h.psh (fun q => by cases q), fun q => by omega, fun q => by omega⟩
  by_cases h1x : e.1 = 1
  · rw [if_pos (Or.inr h1x)] at he; cases he
    rw [if_neg h0x, if_pos h1x]
    exact ⟨h.psh (fun q => by cases q), fun q => by omega, fun q => by omega⟩
  rw [if_neg (by omega)] at he
  rw [if_neg h0x, if_neg h1x]
  have two : ∀ (x y : Bool) (r : List Bool) (b : Bool), t = x :: y :: r → t' = b :: r → (b = true → jn e.1 (z.2 (z.1 - 2)) (z.2 (z.1 - 1)) = 0 ∨ jn e.1 (z.2 (z.1 - 2)) (z.2 (z.1 - 1)) = 1) → Ty t' (z.1 - 1, upL z.2 (z.1 - 2) (jn e.1 (z.2 (z.1 - 2)) (z.2 (z.1 - 1)))) ∧ 2 ≤ z.1 := by
    intro x y r b ht ht' hb
    rw [ht] at h
    have a1x := h.tl
    have a2x := a1x.1.tl
    have l2x : 2 ≤ z.1 := by have := a1x.2.1; have q : 1 ≤ z.1 - 1 := a2x.2.1; omega
    refine ⟨?_, l2x⟩
    rw [ht']
    have := a2x.1.psh (x := jn e.1 (z.2 (z.1 - 2)) (z.2 (z.1 - 1))) (b := b) hb
    have ez : z.1 - 1 - 1 = z.1 - 2 := by omega
    have ez2x : z.1 - 2 + 1 = z.1 - 1 := by omega
    change Ty (b :: r) (z.1 - 1 - 1 + 1, upL z.2 (z.1 - 1 - 1) _) at this
    rw [ez, ez2x] at this
    exact this
  have ty2x : ∀ (x y : Bool) (r : List Bool), t = x :: y :: r → (x = true → z.2 (z.1 - 1) = 0 ∨ z.2 (z.1 - 1) = 1) ∧ (y = true → z.2 (z.1 - 2) = 0 ∨ z.2 (z.1 - 2) = 1) := by
    intro x y r ht
    rw [ht] at h
    have a1x := h.tl
    have a2x := a1x.1.tl
    refine ⟨a1x.2.2, fun q => ?_⟩
    have := a2x.2.2 q
    rwa [show z.1 - 1 - 1 = z.1 - 2 by omega] at this
  by_cases h9x : e.1 = 9
  · rw [if_pos h9x] at he
    rw [if_pos h9x]
    split at he
    · rename_i r
      cases he
      have a1x := h.tl
      have b1x := a1x.2.2 rfl
      refine ⟨?_, fun _ => ⟨a1x.2.1, b1x⟩, fun _ q => absurd h9x q⟩
      have := a1x.1.psh (x := 1 - z.2 (z.1 - 1)) (b := true) (fun _ => by rcases b1x with q | q <;> rw [q] <;> decide)
      change Ty (true :: r) (z.1 - 1 + 1, upL z.2 (z.1 - 1) _) at this
      rw [show z.1 - 1 + 1 = z.1 by have := a1x.2.1; omega] at this
      exact this
    · cases he
  rw [if_neg h9x] at he
  rw [if_neg h9x]
  by_cases h10x : e.1 = 10 ∨ e.1 = 11
  · rw [if_pos h10x] at he
    split at he
    · rename_i r
      cases he
      have t2x := ty2x _ _ _ rfl
      have := two _ _ _ true rfl rfl (fun _ => jn_ao h10x (t2x.2 rfl) (t2x.1 rfl))
      exact ⟨this.1, fun q => absurd q h9x, fun _ _ => this.2⟩
    · cases he
  rw [if_neg h10x] at he
  by_cases h4x : 4 ≤ e.1 ∧ e.1 ≤ 8
  · rw [if_pos h4x] at he
    split at he
    · rename_i r
      cases he
      have := two _ _ _ true rfl rfl (fun _ => jn_cm h4x)
      exact ⟨this.1, fun q => absurd q h9x, fun _ _ => this.2⟩
    · cases he
  rw [if_neg h4x] at he
  split at he
  · rename_i r
    cases he
    have := two _ _ _ false rfl rfl (fun q => by cases q)
    exact ⟨this.1, fun q => absurd q h9x, fun _ _ => this.2⟩
  · cases he
theorem tE_len {e : Nat × Nat} {s t : List Bool} (h : tE e s = some t) : t.length ≤ nv [e] + s.length := by
  unfold tE at h
  split at h
  · rename_i q
    cases h
    unfold nv; rw [List.filter_cons, if_pos (by simp; omega)]; simp; omega
  · split at h
    · split at h
      · cases h; simp
      · cases h
    · split at h
      · split at h
        · cases h; simp; omega
        · cases h
      · split at h
        · split at h
          · cases h; simp; omega
          · cases h
        · split at h
          · cases h; simp; omega
          · cases h
theorem tev_len : ∀ (l : List (Nat × Nat)) (s t : List Bool), tev l s = some t → t.length ≤ nv l + s.length := by
  intro l
  induction l with
  | nil => intro s t h; cases h; simp [nv]
  | cons e l ih =>
    intro s t h
    rw [tev] at h
    cases he : tE e s with
    | none => rw [he] at h; cases h
    | some x =>
      rw [he] at h
      have a := ih x t h
      have b := tE_len he
      have c : nv (e :: l) = nv [e] + nv l := by rw [← nv_app]; rfl
      omega
theorem tev_pre {b : List (Nat × Nat)} : ∀ (a : List (Nat × Nat)) (s z : List Bool), tev (a ++ b) s = some z → ∃ t, tev a s = some t ∧ tev b t = some z := by
  intro a
  induction a with
  | nil => intro s z h; exact ⟨s, rfl, h⟩
  | cons e l ih =>
    intro s z h
    rw [List.cons_append, tev] at h
    rw [tev]
    cases he : tE e s with
    | none => rw [he] at h; cases h
    | some x => rw [he] at h; exact ih x z h
theorem Ty.run {W : Nat → Int64} : ∀ (l : List (Nat × Nat)) (t r : List Bool) (z : eS), (∀ e ∈ l, vE e) → Ty t z → tev l t = some r → Ty r (evL W l z) := by
  intro l
  induction l with
  | nil => intro t r z _ h q; cases q; exact h
  | cons e l ih =>
    intro t r z hv h q
    rw [tev] at q
    cases he : tE e t with
    | none => rw [he] at q; cases q
    | some x =>
      rw [he] at q
      exact ih x r _ (fun y hy => hv y (List.mem_cons_of_mem _ hy)) (h.step (hv e List.mem_cons_self) he).1 q
theorem nv_sub {a b : List (Nat × Nat)} (h : a.Sublist b) : nv a ≤ nv b := (h.filter _).length_le
theorem cseg_sub {cd : List (Nat × Nat)} {a b : Nat} : (cseg cd a b).Sublist cd := (List.drop_sublist _ _).trans (List.take_sublist _ _)
theorem Ty_0 : Ty [] (0, fun _ => 0) := ⟨rfl, fun j h => by simp at h⟩
/-- along a piece of code that is in order -/
theorem ev_step {W : Nat → Int64} {cd : List (Nat × Nat)} {a b i : Nat} {r : List Bool} {e : Nat × Nat} (hs : tev (cseg cd a b) [] = some r) (hv : ∀ e ∈ cd, vE e) (h6x : nv cd ≤ 60) (hb : b ≤ cd.length) (h1x : a ≤ i) (h2x : i < b) (he : cd[i]? = some e) : (evA W cd a i).1 ≤ 60 ∧ (e.1 ≤ 1 → (evA W cd a i).1 < 60) ∧ eNd e (evA W cd a i) ∧ vE e := by
  have ve : vE e := hv e (List.mem_of_getElem? he)
  obtain ⟨l, el⟩ := cseg_cut (i := i + 1) (by omega : a ≤ i + 1) (by omega) hb
  rw [el] at hs
  obtain ⟨t', p1x, -⟩ := tev_pre _ _ _ hs
  have p1' := p1x
  rw [cseg_s h1x he] at p1x
  obtain ⟨t, p2x, p3x⟩ := tev_pre _ _ _ p1x
  have vv : ∀ x ∈ cseg cd a i, vE x := fun x hx => hv x (cseg_sub.subset hx)
  have T := Ty_0.run (W := W) (cseg cd a i) [] t _ vv p2x
  have te : tE e t = some t' := by
    unfold tev at p3x
    cases he : tE e t with
    | none => rw [he] at p3x; cases p3x
    | some x => rw [he] at p3x; cases p3x; rfl
  have n1x := tev_len _ _ _ p2x
  have n2x := nv_sub (cseg_sub (cd := cd) (a := a) (b := i + 1))
  rw [cseg_s h1x he, nv_app] at n2x
  have l0x : t.length = (evA W cd a i).1 := T.1
  have st := T.step (W := W) ve te
  simp only [List.length_nil] at n1x
  refine ⟨by omega, fun q => ?_, st.2, ve⟩
  have : nv [e] = 1 := by unfold nv; rw [List.filter_cons, if_pos (by simpa using q)]; simp
  omega
theorem ev_end {W : Nat → Int64} {cd : List (Nat × Nat)} {a b : Nat} {x : Bool} (hs : tev (cseg cd a b) [] = some [x]) (hv : ∀ e ∈ cd, vE e) : (evA W cd a b).1 = 1 ∧ (x = true → evV W cd a b = 0 ∨ evV W cd a b = 1) := by
  have T := Ty_0.run (W := W) (cseg cd a b) [] [x] _ (fun y hy => hv y (cseg_sub.subset hy)) hs
  have e1x : (evA W cd a b).1 = 1 := T.1.symm
  refine ⟨e1x, fun q => ?_⟩
  have := T.2 0 (by rw [q]; rfl)
  unfold evV
  change (evA W cd a b).2 ((evA W cd a b).1 - 1 - 0) = 0 ∨ (evA W cd a b).2 ((evA W cd a b).1 - 1 - 0) = 1 at this
  rw [e1x] at this
  exact this
/-- whether a clause holds -/
def holdB (W : Nat → Int64) (cd : List (Nat × Nat)) (c : Nat × Nat × Nat) : Bool := decide (c.2.1 = c.2.2 ∨ evV W cd c.2.1 c.2.2 = 1)
def fillL (W : Nat → Int64) (cd : List (Nat × Nat)) : List (Nat × Nat × Nat) → Bool
  | [] => false
  | c :: l => if ¬ c.1 < c.2.1 ∧ holdB W cd c = true then true else fillL W cd l
def goL (W : Nat → Int64) (cd : List (Nat × Nat)) : List (Nat × Nat × Nat) → Int64
  | [] => 0
  | c :: l => if c.1 < c.2.1 ∧ holdB W cd c = true then evV W cd c.1 c.2.1 else goL W cd l
end EV
