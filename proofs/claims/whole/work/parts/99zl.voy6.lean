/-! voyage: the class, the least dear -/
section VC3x
variable {X : xX} {h : xH} {sh : List (Nat × Nat)} {I : Nat → Nat → Int32} {L : Nat → Nat → Int64} {R : Nat → Nat → Option Nat} {v : Nat → Nat → Int32} {w s m : Nat}
variable {sp t qa qb qc qd : Nat}
theorem TB.por {inf p c w x y : Nat} {J K : Nat → Nat → Int32} {E : Nat → Nat → Nat → Prop} {G : Nat → Prop} (h : TB inf J p E) (hc : c < 12) (hw : w < 31) (ty : tab inf G y) (ex : J p (31 * c + w) = nI x) (tx : tab inf (E c w) x) (e : K p (31 * c + w) = nI (if y < x then y else x)) (f : ∀ k, k ≠ 31 * c + w → K p k = J p k) : TB inf K p (fun a b k => E a b k ∨ a = c ∧ b = w ∧ G k) := fun a ha b hb => by
  by_cases q : a = c ∧ b = w
  · obtain ⟨rfl, rfl⟩ := q
    exact ⟨_, e, tab_iff (tab_or tx ty) (fun k => by simp)⟩
  · obtain ⟨z, e1x, e2x⟩ := h a ha b hb
    exact ⟨z, (f _ (by omega)).trans e1x, tab_iff e2x (fun k => ⟨Or.inl, fun r => by rcases r with r | r; exact r; exact absurd ⟨r.1, r.2.1⟩ q⟩)⟩
theorem TB.set {inf p c w y : Nat} {J K : Nat → Nat → Int32} {E : Nat → Nat → Nat → Prop} (h : TB inf J p E) (hc : c < 12) (hw : w < 31) (hy : y < inf) (hn : ∀ k, ¬ E c w k) (e : K p (31 * c + w) = nI y) (f : ∀ k, k ≠ 31 * c + w → K p k = J p k) : TB inf K p (fun a b k => E a b k ∨ a = c ∧ b = w ∧ k = y) := by
  obtain ⟨x, ex, tx⟩ := h c hc w hw
  have hx : x = inf := by have := tx.1; have : ¬ x < inf := fun q => hn x (tx.2.1 q); omega
  exact h.put hc hw hy ex tx (by rw [e, if_pos (by omega)]) f
theorem wy_p {j : Nat} : wy j + 1 = nI j := by unfold wy; grind
theorem nI_mc {a b : Nat} : nI a * nI b = nI (b * a) := by rw [nI_times, Nat.mul_comm]
def D1x (v : Nat → Nat → Int32) (sp j a b e : Nat) : Prop := ∃ i, i < j ∧ vgo v sp 0 (vC v sp) i = true ∧ a + 1 = vC v sp + i ∧ ((vW v sp = b + 1 ∧ e = 2 * i) ∨ (0 < vpr v 0 (vC v sp) ∧ vW v sp < vT v sp ∧ vT v sp = b + 1 ∧ e = 6 * (vpr v 0 (vC v sp) * (vT v sp - vW v sp)) + 2 * i + 1))
theorem D1_0 {a b e : Nat} : False ↔ D1x v sp 0 a b e := ⟨fun h => h.elim, fun ⟨_, h, _⟩ => by omega⟩
theorem D1_n {j a b e : Nat} (g : ¬ vgo v sp 0 (vC v sp) j = true) : D1x v sp j a b e ↔ D1x v sp (j + 1) a b e := by
  constructor
  · rintro ⟨i, h1x, h2x⟩; exact ⟨i, by omega, h2x⟩
  · rintro ⟨i, h1x, h2x⟩
    by_cases z : i = j
    · subst z; exact absurd h2x.1 g
    · exact ⟨i, by omega, h2x⟩
theorem D1_y {j a b e : Nat} (g : vgo v sp 0 (vC v sp) j = true) : D1x v sp (j + 1) a b e ↔ D1x v sp j a b e ∨ (a + 1 = vC v sp + j ∧ ((vW v sp = b + 1 ∧ e = 2 * j) ∨ (0 < vpr v 0 (vC v sp) ∧ vW v sp < vT v sp ∧ vT v sp = b + 1 ∧ e = 6 * (vpr v 0 (vC v sp) * (vT v sp - vW v sp)) + 2 * j + 1))) := by
  constructor
  · rintro ⟨i, h1x, h2x, h3x⟩
    by_cases z : i = j
    · subst z; exact Or.inr h3x
    · exact Or.inl ⟨i, by omega, h2x, h3x⟩
  · rintro (⟨i, h1x, h2x⟩ | h)
    · exact ⟨i, by omega, h2x⟩
    · exact ⟨j, by omega, g, h⟩
theorem D1_e {a b e : Nat} : D1x v sp 3 a b e ↔ dS v sp 1 a b e := dS_1.symm
theorem D1_new {j b : Nat} : ∀ k, ¬ D1x v sp j (vC v sp + j - 1) b k := by
  rintro k ⟨i, h1x, h2x, h3x, _⟩
  omega
/-- fillings in place -/
def FD (v : Nat → Nat → Int32) (sp t : Nat) (E : Nat → Nat → Nat → Prop) (c w a b e : Nat) : Prop := E a b e ∨ (b = vT v sp ∧ 0 < vpr v t a ∧ ∃ w1x e0x, (a < c ∧ w1x < vT v sp ∨ a = c ∧ w1x < w) ∧ E a w1x e0x ∧ e = e0x + 6 * (vpr v t a * (vT v sp - w1x)))
def FE (v : Nat → Nat → Int32) (sp t : Nat) (E : Nat → Nat → Nat → Prop) (a b e : Nat) : Prop := E a b e ∨ (b = vT v sp ∧ 0 < vpr v t a ∧ ∃ w1x e0x, w1x < vT v sp ∧ E a w1x e0x ∧ e = e0x + 6 * (vpr v t a * (vT v sp - w1x)))
section FDs
variable {E : Nat → Nat → Nat → Prop} {c w a b e : Nat}
theorem FD_0 : E a b e ↔ FD v sp t E 0 0 a b e := ⟨Or.inl, fun h => by rcases h with h | ⟨_, _, _, _, h, _⟩; exact h; omega⟩
theorem FD_at (hw1x : w < vT v sp) {e : Nat} : FD v sp t E c w c w e ↔ E c w e := ⟨fun h => by rcases h with h | ⟨h, _⟩; exact h; omega, Or.inl⟩
theorem FD_skip (h0x : vpr v t c = 0) : FD v sp t E c 0 a b e ↔ FD v sp t E (c + 1) 0 a b e := by
  constructor
  · rintro (h | ⟨h1x, h2x, w1x, e0x, h3x, h4x⟩)
    · exact Or.inl h
    · exact Or.inr ⟨h1x, h2x, w1x, e0x, by omega, h4x⟩
  · rintro (h | ⟨h1x, h2x, w1x, e0x, h3x, h4x⟩)
    · exact Or.inl h
    · refine Or.inr ⟨h1x, h2x, w1x, e0x, ?_, h4x⟩
      by_cases z : a = c
      · subst z; omega
      · omega
theorem FD_row : FD v sp t E c (vT v sp) a b e ↔ FD v sp t E (c + 1) 0 a b e := by
  constructor
  · rintro (h | ⟨h1x, h2x, w1x, e0x, h3x, h4x⟩)
    · exact Or.inl h
    · exact Or.inr ⟨h1x, h2x, w1x, e0x, by omega, h4x⟩
  · rintro (h | ⟨h1x, h2x, w1x, e0x, h3x, h4x⟩)
    · exact Or.inl h
    · exact Or.inr ⟨h1x, h2x, w1x, e0x, by omega, h4x⟩
theorem FD_no (hn : ∀ k, ¬ E c w k) : FD v sp t E c w a b e ↔ FD v sp t E c (w + 1) a b e := by
  constructor
  · rintro (h | ⟨h1x, h2x, w1x, e0x, h3x, h4x⟩)
    · exact Or.inl h
    · exact Or.inr ⟨h1x, h2x, w1x, e0x, by omega, h4x⟩
  · rintro (h | ⟨h1x, h2x, w1x, e0x, h3x, h4x, h5x⟩)
    · exact Or.inl h
    · refine Or.inr ⟨h1x, h2x, w1x, e0x, ?_, h4x, h5x⟩
      by_cases z : a = c ∧ w1x = w
      · obtain ⟨rfl, rfl⟩ := z; exact absurd h4x (hn _)
      · omega
theorem FD_yes {inf p x : Nat} {J : Nat → Nat → Int32} (ht : tab inf (E c w) x) (hx : x < inf) (hp : 0 < vpr v t c) (h : TB inf J p (fun a b k => FD v sp t E c w a b k ∨ a = c ∧ b = vT v sp ∧ k = x + 6 * (vpr v t c * (vT v sp - w)))) : TB inf J p (FD v sp t E c (w + 1)) := by
  refine h.dom (fun a b q r => ?_) (fun a b q r => ?_)
  · rcases r with (r | ⟨h1x, h2x, w1x, e0x, h3x, h4x⟩) | ⟨rfl, rfl, rfl⟩
    · exact Or.inl r
    · exact Or.inr ⟨h1x, h2x, w1x, e0x, by omega, h4x⟩
    · exact Or.inr ⟨rfl, hp, w, x, by omega, ht.2.1 hx, rfl⟩
  · rcases r with r | ⟨h1x, h2x, w1x, e0x, h3x, h4x, h5x⟩
    · exact ⟨q, Nat.le_refl _, Or.inl (Or.inl r)⟩
    · by_cases z : a = c ∧ w1x = w
      · obtain ⟨rfl, rfl⟩ := z
        have := ht.2.2 _ h4x
        exact ⟨_, by omega, Or.inr ⟨rfl, h1x, rfl⟩⟩
      · exact ⟨q, Nat.le_refl _, Or.inl (Or.inr ⟨h1x, h2x, w1x, e0x, by omega, h4x, h5x⟩)⟩
theorem FD_all {n : Nat} (hE : ∀ c w k, E c w k → c < n) : FD v sp t E n 0 a b e ↔ FE v sp t E a b e := by
  constructor
  · rintro (h | ⟨h1x, h2x, w1x, e0x, h3x, h4x⟩)
    · exact Or.inl h
    · exact Or.inr ⟨h1x, h2x, w1x, e0x, by omega, h4x⟩
  · rintro (h | ⟨h1x, h2x, w1x, e0x, h3x, h4x, h5x⟩)
    · exact Or.inl h
    · have := hE _ _ _ h4x; exact Or.inr ⟨h1x, h2x, w1x, e0x, by omega, h4x, h5x⟩
end FDs
/-- goings out of the filled table -/
def NE (v : Nat → Nat → Int32) (sp t : Nat) (G : Nat → Nat → Nat → Prop) (c j a b e : Nat) : Prop := ∃ c1x j1x, (c1x < c ∨ c1x = c ∧ j1x < j) ∧ j1x < 3 ∧ vgo v sp t c1x j1x = true ∧ a + 1 = c1x + j1x ∧ b + 1 ≤ vT v sp ∧ G c1x (b + 1) e
section NEs
variable {G : Nat → Nat → Nat → Prop} {c j a b e : Nat}
theorem NE_0 : False ↔ NE v sp t G 0 0 a b e := ⟨fun h => h.elim, fun ⟨_, _, h, _⟩ => by omega⟩
theorem NE_row : NE v sp t G c 3 a b e ↔ NE v sp t G (c + 1) 0 a b e := by
  constructor
  · rintro ⟨c1x, j1x, h1x, h2x, h3x⟩; exact ⟨c1x, j1x, by omega, h2x, h3x⟩
  · rintro ⟨c1x, j1x, h1x, h2x, h3x⟩; exact ⟨c1x, j1x, by omega, h2x, h3x⟩
theorem NE_n (g : ¬ vgo v sp t c j = true) : NE v sp t G c j a b e ↔ NE v sp t G c (j + 1) a b e := by
  constructor
  · rintro ⟨c1x, j1x, h1x, h2x⟩; exact ⟨c1x, j1x, by omega, h2x⟩
  · rintro ⟨c1x, j1x, h1x, h2x, h3x, h4x⟩
    by_cases z : c1x = c ∧ j1x = j
    · obtain ⟨rfl, rfl⟩ := z; exact absurd h3x g
    · exact ⟨c1x, j1x, by omega, h2x, h3x, h4x⟩
theorem NE_y (g : vgo v sp t c j = true) (hj : j < 3) (h1x : 1 ≤ c + j) : (NE v sp t G c j a b e ∨ a = c + j - 1 ∧ b + 1 ≤ vT v sp ∧ G c (b + 1) e) ↔ NE v sp t G c (j + 1) a b e := by
  constructor
  · rintro (⟨c1x, j1x, h1x, h2x⟩ | ⟨h2x, h3x, h4x⟩)
    · exact ⟨c1x, j1x, by omega, h2x⟩
    · exact ⟨c, j, by omega, hj, g, by omega, h3x, h4x⟩
  · rintro ⟨c1x, j1x, h2x, h3x, h4x, h5x, h6x, h7x⟩
    by_cases z : c1x = c ∧ j1x = j
    · obtain ⟨rfl, rfl⟩ := z; exact Or.inr ⟨by omega, h6x, h7x⟩
    · exact Or.inl ⟨c1x, j1x, by omega, h3x, h4x, h5x, h6x, h7x⟩
theorem NE_all (ht : 0 < t) (hb : ∀ c w e, dS v sp t c w e → c < cn v 0 ∧ w ≤ vT v sp) (hT1x : 1 ≤ vT v sp) : NE v sp t (FE v sp t (dS v sp t)) (cn v 0) 0 a b e ↔ dS v sp (t + 1) a b e := by
  rw [dS_s ht]
  constructor
  · rintro ⟨c1x, j1x, h1x, h2x, h3x, h4x, h5x, h6x | ⟨h6x, h7x, w1x, e0x, h8x, h9x, h10x⟩⟩
    · exact ⟨c1x, b + 1, e, h6x, Or.inl ⟨trivial, j1x, Nat.zero_le _, by omega, h3x, h4x, rfl, rfl⟩⟩
    · exact ⟨c1x, w1x, e0x, h9x, Or.inr ⟨trivial, h7x, j1x, Nat.zero_le _, by omega, h3x, h4x, h6x.symm, h10x⟩⟩
  · rintro ⟨c1x, w1x, e0x, h1x, ⟨_, j1x, h2x, h3x, h4x, h5x, h6x, h7x⟩ | ⟨_, h0x, j1x, h2x, h3x, h4x, h5x, h6x, h7x⟩⟩
    · have q := hb _ _ _ h1x
      subst h7x
      exact ⟨c1x, j1x, by omega, by omega, h4x, h5x, by omega, Or.inl (by rw [← h6x]; exact h1x)⟩
    · have q := hb _ _ _ h1x
      by_cases z : w1x = vT v sp
      · have ee : e = e0x := by rw [h7x, z, Nat.sub_self]; omega
        rw [ee]
        exact ⟨c1x, j1x, by omega, by omega, h4x, h5x, by omega, Or.inl (by rw [← h6x, ← z]; exact h1x)⟩
      · exact ⟨c1x, j1x, by omega, by omega, h4x, h5x, by omega, Or.inr ⟨h6x.symm, h0x, w1x, e0x, by omega, h1x, h7x⟩⟩
end NEs
theorem tab_ex {inf : Nat} {P : Nat → Prop} : ∃ x, tab inf P x := by
  have least : ∀ n, P n → ∃ k, k ≤ n ∧ P k ∧ ∀ j, P j → k ≤ j := by
    intro n
    induction n using Nat.strongRecOn with
    | _ n ih =>
      intro hn
      by_cases c : ∃ j, j < n ∧ P j
      · obtain ⟨j, h1x, h2x⟩ := c
        obtain ⟨k, q1x, q2x⟩ := ih j h1x h2x
        exact ⟨k, by omega, q2x⟩
      · exact ⟨n, Nat.le_refl _, hn, fun j q => Decidable.byContradiction (fun r => c ⟨j, by omega, q⟩)⟩
  by_cases c : ∃ k, k < inf ∧ P k
  · obtain ⟨n, h1x, h2x⟩ := c
    obtain ⟨k, q1x, q2x, q3x⟩ := least n h2x
    exact ⟨k, by omega, fun _ => q2x, q3x⟩
  · exact ⟨inf, Nat.le_refl _, fun q => absurd q (Nat.lt_irrefl _), fun k q => Decidable.byContradiction (fun r => c ⟨k, by omega, q⟩)⟩
theorem cs_passFirst (hX : CX sh I R m s v sp qa qb qc qd) (hw : Wf v) (hp : PH I v 0) (hs : sp < cn v 4) : Ec X 3 61 [.ref 250] (sh, I, L, R) (fun r h' => r = none ∧ ∃ J : Nat → Nat → Int32, h' = (sh, J, L, R) ∧ TB 2147483647 J qc (dS v sp 1) ∧ ∀ i k, i ≠ qc → J i k = I i k) := by
  have hX0x := hX
  obtain ⟨⟨p0x, p1x, p2x, p3x, ⟨sa, r6x⟩, ⟨sb, r7x⟩, ⟨sc, r8x⟩, ⟨sd, r9x⟩, qab, qcd⟩, hMX, pm, i1x, i2x⟩ := hX
  obtain ⟨hM, hms, hS, hV, hW, dm, ds⟩ := id hMX
  have hb := hw.1.2
  have hvs := vS_ok hw hs
  have vb := vpr_le hw (t := 0) (c := vC v sp)
  have fb := fill_b hw (t := 0) (c := vC v sp) (w := vW v sp) hs
  refine Ec.of (Nat.le_of_ble_eq_true rfl) ?_
  refine e_aload rfl rfl ?_
  refine e_getR rfl p0x pm ?_
  refine e_getR rfl hM.1 (hM.2 0 _ rfl).2 ?_
  refine e_aload rfl rfl ?_
  refine e_getIv rfl p0x i1x ?_
  refine e_ialv (t := sp) (n := 4) rfl (hM.2 0 _ rfl).1 rfl (by omega) (by decide) ((hW.2.2.1 sp hs).1.trans hvs.1) ?_
  refine e_istore rfl ?_
  refine e_aload rfl rfl ?_
  refine e_getR rfl p0x pm ?_
  refine e_getR rfl hM.1 (hM.2 1 _ rfl).2 ?_
  refine e_aload rfl rfl ?_
  refine e_getIv rfl p0x i1x ?_
  refine e_ialv (t := sp) (n := 4) rfl (hM.2 1 _ rfl).1 rfl (by omega) (by decide) ((hW.2.2.1 sp hs).2.1.trans hvs.2.2.1) ?_
  refine e_istore rfl ?_
  refine e_aload rfl rfl ?_
  refine e_getR rfl p0x r8x ?_
  refine e_ipush rfl ?_
  refine Eg.c2 rfl (by decide) (by decide) rfl (Nat.le_of_ble_eq_true rfl) (xrcv_ofs (Or.inl rfl)) ((cs_fill (n := 372) sc (by decide)).mono (by decide)) (fun r1x h1x hq => ?_)
  obtain ⟨rfl, J0x, rfl, f1x, f2x⟩ := hq
  refine e_ipush rfl ?_
  refine e_istore rfl ?_
  refine Eg.pk [0, 1, 2, 3] [3, 2, 1, 0] rfl (by decide) ?_
  refine up_ind (p := fun j => ∀ J : Nat → Nat → Int32, TB 2147483647 J qc (D1x v sp j) → (∀ i k, i ≠ qc → J i k = I i k) → Eg X xTc 2 61 37 [(0, .ref 250), (1, .int (nI (vC v sp))), (2, .int (nI (vW v sp))), (3, .int (wy j))] [] (sh, J, L, R) (fun r h' => r = none ∧ ∃ J : Nat → Nat → Int32, h' = (sh, J, L, R) ∧ TB 2147483647 J qc (dS v sp 1) ∧ ∀ i k, i ≠ qc → J i k = I i k)) (n := 3) (j := 0) (fun j hj ih J k1x k2x => ?_) (fun J k1x k2x => ?_) (Nat.zero_le _) J0x ((TB.no f1x).iff (fun a b q _ _ => D1_0)) f2x
  · have hXJ : CX sh J R m s v sp qa qb qc qd := hX0x.fr (fun i k q => k2x i k (by omega))
    have gp : PH J v 0 := hp.fr (fun i k q1x q2x => k2x i k (by omega))
    refine e_iload rfl rfl ?_
    refine e_ipush rfl ?_
    refine e_cgt_f rfl (fun q => absurd ((wy_lt (a := 2) (by decide) (by omega)).mp q) (by omega)) ?_
    refine e_aload rfl rfl ?_
    refine e_iload rfl rfl ?_
    refine e_iload rfl rfl ?_
    refine Eg.p3 rfl (by decide) (by decide) rfl (Nat.le_of_ble_eq_true rfl) (xrcv_of rfl p0x rfl) ((cs_canPass hXJ hw gp hs (c := vC v sp) (j := j) (by omega) hj).mono (by decide)) ?_
    refine e_ifne_b rfl (fun b48x => ?_) (fun b48x => ?_)
    · replace b48x := yn_n0.mp b48x
      have cj : 1 ≤ vC v sp + j ∧ vC v sp + j ≤ cn v 0 := by rcases of_decide_eq_true b48x with r | r; omega; exact r.1
      have ew : nI (vC v sp + j) - 1 = nI (vC v sp + j - 1) := nI_sub (b := 1) cj.1
      refine e_iload rfl rfl ?_
      refine e_iload rfl rfl ?_
      refine e_iadd rfl ?_
      rw [show (nI (vC v sp)) + (wy j) = nI (vC v sp + j - 1) from wy_c.trans ew]
      refine e_ipush rfl ?_
      refine e_imul rfl ?_
      rw [show (nI (vC v sp + j - 1)) * (31 : Int32) = nI (31 * (vC v sp + j - 1)) from (nI_mc (a := vC v sp + j - 1) (b := 31))]
      refine e_istore rfl ?_
      refine e_iload rfl rfl ?_
      refine e_ipush rfl ?_
      refine e_iadd rfl ?_
      rw [show (wy j) + (1 : Int32) = nI j from wy_p]
      refine e_ipush rfl ?_
      refine e_imul rfl ?_
      rw [show (nI j) * (2 : Int32) = nI (2 * j) from (nI_mc (a := j) (b := 2))]
      refine e_istore rfl ?_
      refine e_aload rfl rfl ?_
      refine e_getR rfl p0x p3x.2 ?_
      refine e_iload rfl rfl ?_
      refine e_ialv (t := vC v sp) (n := 12) rfl p3x.1 rfl (by omega) (by decide) (gp (vC v sp) (by omega)).2.2 ?_
      refine e_ifle_b rfl (fun b75x => ?_) (fun b75x => ?_)
      · refine e_iload rfl rfl ?_
        refine e_ifle_b rfl (fun b122x => ?_) (fun b122x => ?_)
        · refine e_iinc rfl rfl ?_
          refine e_goto rfl ?_
          refine Eg.pk [0, 1, 2, 3] [3, 5, 4, 0, 1, 2] rfl (by decide) ?_
          rw [wy_1]
          have v0x : vpr v 0 (vC v sp) = 0 := (nI_le0 (by omega)).mp b75x
          have w0x : vW v sp = 0 := (nI_le0 (by omega)).mp b122x
          refine ih J (k1x.iff (fun a b q _ _ => ?_)) (fun i k q => k2x i k q)
          rw [D1_y b48x]
          clear ih k1x k2x
          generalize hD : D1x v sp j a b q = DD
          generalize vpr v 0 (vC v sp) * (vT v sp - vW v sp) = P6x at *
          grind
        · refine e_aload rfl rfl ?_
          refine e_getR rfl p0x r8x ?_
          refine e_iload rfl rfl ?_
          refine e_iload rfl rfl ?_
          refine e_iadd rfl ?_
          rw [show (nI (31 * (vC v sp + j - 1))) + (nI (vW v sp)) = nI (31 * (vC v sp + j - 1) + vW v sp) from nI_add _ _]
          refine e_ipush rfl ?_
          have w1x : 0 < vW v sp := Decidable.byContradiction (fun q => b122x ((nI_le0 (by omega)).mpr (by omega)))
          refine e_isub rfl ?_
          rw [show (nI (31 * (vC v sp + j - 1) + vW v sp)) - (1 : Int32) = nI (31 * (vC v sp + j - 1) + (vW v sp - 1)) from (nI_sub (b := 1) (by omega)).trans (congrArg nI (by omega))]
          refine e_iload rfl rfl ?_
          refine e_iasJ (t := 31 * (vC v sp + j - 1) + (vW v sp - 1)) (n := 372) rfl sc rfl (by omega) (by decide) (fun J21x g21x f21x => ?_)
          refine e_iinc rfl rfl ?_
          refine e_goto rfl ?_
          refine Eg.pk [0, 1, 2, 3] [3, 5, 4, 0, 1, 2] rfl (by decide) ?_
          rw [wy_1]
          have v0x : vpr v 0 (vC v sp) = 0 := (nI_le0 (by omega)).mp b75x
          have w0x : 0 < vW v sp := Decidable.byContradiction (fun q => b122x ((nI_le0 (by omega)).mpr (by omega)))
          have nw : ∀ k, ¬ D1x v sp j (vC v sp + j - 1) (vW v sp - 1) k := D1_new
          have t2x := k1x.set (c := vC v sp + j - 1) (w := vW v sp - 1) (y := 2 * j) (by omega) (by omega) (by omega) nw g21x (fun k q => f21x qc k (Or.inr q))
          refine ih J21x (t2x.iff (fun a b q _ _ => ?_)) (fun i k q => (f21x i k (Or.inl q)).trans ((fun i k q => k2x i k q) i k q))
          rw [D1_y b48x]
          clear ih k1x k2x t2x nw
          generalize hD : D1x v sp j a b q = DD
          generalize vpr v 0 (vC v sp) * (vT v sp - vW v sp) = P6x at *
          grind
      · refine e_iload rfl rfl ?_
        refine e_aload rfl rfl ?_
        refine e_getIv rfl p0x hXJ.2.2.2.2 ?_
        refine e_cge_b rfl (fun b83x => ?_) (fun b83x => ?_)
        · refine e_iload rfl rfl ?_
          refine e_ifle_b rfl (fun b122x => ?_) (fun b122x => ?_)
          · refine e_iinc rfl rfl ?_
            refine e_goto rfl ?_
            refine Eg.pk [0, 1, 2, 3] [3, 5, 4, 0, 1, 2] rfl (by decide) ?_
            rw [wy_1]
            have v0x : 0 < vpr v 0 (vC v sp) := Decidable.byContradiction (fun q => b75x ((nI_le0 (by omega)).mpr (by omega)))
            have wt : vT v sp ≤ vW v sp := (nI_lei (by omega) (by omega)).mp b83x
            have w0x : vW v sp = 0 := (nI_le0 (by omega)).mp b122x
            refine ih J (k1x.iff (fun a b q _ _ => ?_)) (fun i k q => k2x i k q)
            rw [D1_y b48x]
            clear ih k1x k2x
            generalize hD : D1x v sp j a b q = DD
            generalize vpr v 0 (vC v sp) * (vT v sp - vW v sp) = P6x at *
            grind
          · refine e_aload rfl rfl ?_
            refine e_getR rfl p0x r8x ?_
            refine e_iload rfl rfl ?_
            refine e_iload rfl rfl ?_
            refine e_iadd rfl ?_
            rw [show (nI (31 * (vC v sp + j - 1))) + (nI (vW v sp)) = nI (31 * (vC v sp + j - 1) + vW v sp) from nI_add _ _]
            refine e_ipush rfl ?_
            have w1x : 0 < vW v sp := Decidable.byContradiction (fun q => b122x ((nI_le0 (by omega)).mpr (by omega)))
            refine e_isub rfl ?_
            rw [show (nI (31 * (vC v sp + j - 1) + vW v sp)) - (1 : Int32) = nI (31 * (vC v sp + j - 1) + (vW v sp - 1)) from (nI_sub (b := 1) (by omega)).trans (congrArg nI (by omega))]
            refine e_iload rfl rfl ?_
            refine e_iasJ (t := 31 * (vC v sp + j - 1) + (vW v sp - 1)) (n := 372) rfl sc rfl (by omega) (by decide) (fun J22x g22x f22x => ?_)
            refine e_iinc rfl rfl ?_
            refine e_goto rfl ?_
            refine Eg.pk [0, 1, 2, 3] [3, 5, 4, 0, 1, 2] rfl (by decide) ?_
            rw [wy_1]
            have v0x : 0 < vpr v 0 (vC v sp) := Decidable.byContradiction (fun q => b75x ((nI_le0 (by omega)).mpr (by omega)))
            have wt : vT v sp ≤ vW v sp := (nI_lei (by omega) (by omega)).mp b83x
            have w0x : 0 < vW v sp := Decidable.byContradiction (fun q => b122x ((nI_le0 (by omega)).mpr (by omega)))
            have nw : ∀ k, ¬ D1x v sp j (vC v sp + j - 1) (vW v sp - 1) k := D1_new
            have t2x := k1x.set (c := vC v sp + j - 1) (w := vW v sp - 1) (y := 2 * j) (by omega) (by omega) (by omega) nw g22x (fun k q => f22x qc k (Or.inr q))
            refine ih J22x (t2x.iff (fun a b q _ _ => ?_)) (fun i k q => (f22x i k (Or.inl q)).trans ((fun i k q => k2x i k q) i k q))
            rw [D1_y b48x]
            clear ih k1x k2x t2x nw
            generalize hD : D1x v sp j a b q = DD
            generalize vpr v 0 (vC v sp) * (vT v sp - vW v sp) = P6x at *
            grind
        · have wt1x : vW v sp < vT v sp := Decidable.byContradiction (fun q => b83x ((nI_lei (by omega) (by omega)).mpr (by omega)))
          refine e_aload rfl rfl ?_
          refine e_getR rfl p0x r8x ?_
          refine e_iload rfl rfl ?_
          refine e_aload rfl rfl ?_
          refine e_getIv rfl p0x hXJ.2.2.2.2 ?_
          refine e_iadd rfl ?_
          rw [show (nI (31 * (vC v sp + j - 1))) + (nI (vT v sp)) = nI (31 * (vC v sp + j - 1) + vT v sp) from nI_add _ _]
          refine e_ipush rfl ?_
          refine e_isub rfl ?_
          rw [show (nI (31 * (vC v sp + j - 1) + vT v sp)) - (1 : Int32) = nI (31 * (vC v sp + j - 1) + (vT v sp - 1)) from (nI_sub (b := 1) (by omega)).trans (congrArg nI (by omega))]
          refine e_aload rfl rfl ?_
          refine e_getIv rfl p0x hXJ.2.2.2.2 ?_
          refine e_iload rfl rfl ?_
          refine e_isub rfl ?_
          rw [show (nI (vT v sp)) - (nI (vW v sp)) = nI (vT v sp - vW v sp) from nI_sub (by omega)]
          refine e_aload rfl rfl ?_
          refine e_getR rfl p0x p3x.2 ?_
          refine e_iload rfl rfl ?_
          refine e_ialv (t := vC v sp) (n := 12) rfl p3x.1 rfl (by omega) (by decide) (gp (vC v sp) (by omega)).2.2 ?_
          refine e_imul rfl ?_
          rw [show (nI (vT v sp - vW v sp)) * (nI (vpr v 0 (vC v sp))) = nI (vpr v 0 (vC v sp) * (vT v sp - vW v sp)) from nI_mc]
          refine e_ipush rfl ?_
          refine e_imul rfl ?_
          rw [show (nI (vpr v 0 (vC v sp) * (vT v sp - vW v sp))) * (6 : Int32) = nI (6 * (vpr v 0 (vC v sp) * (vT v sp - vW v sp))) from (nI_mc (a := vpr v 0 (vC v sp) * (vT v sp - vW v sp)) (b := 6))]
          refine e_iload rfl rfl ?_
          refine e_iadd rfl ?_
          rw [show (nI (6 * (vpr v 0 (vC v sp) * (vT v sp - vW v sp)))) + (nI (2 * j)) = nI (6 * (vpr v 0 (vC v sp) * (vT v sp - vW v sp)) + 2 * j) from nI_add _ _]
          refine e_ipush rfl ?_
          refine e_iadd rfl ?_
          rw [show (nI (6 * (vpr v 0 (vC v sp) * (vT v sp - vW v sp)) + 2 * j)) + (1 : Int32) = nI (6 * (vpr v 0 (vC v sp) * (vT v sp - vW v sp)) + 2 * j + 1) from nI_1 _]
          refine e_iasJ (t := 31 * (vC v sp + j - 1) + (vT v sp - 1)) (n := 372) rfl sc rfl (by omega) (by decide) (fun J23x g23x f23x => ?_)
          refine e_iload rfl rfl ?_
          refine e_ifle_b rfl (fun b122x => ?_) (fun b122x => ?_)
          · refine e_iinc rfl rfl ?_
            refine e_goto rfl ?_
            refine Eg.pk [0, 1, 2, 3] [3, 5, 4, 0, 1, 2] rfl (by decide) ?_
            rw [wy_1]
            have v0x : 0 < vpr v 0 (vC v sp) := Decidable.byContradiction (fun q => b75x ((nI_le0 (by omega)).mpr (by omega)))
            have wt : vW v sp < vT v sp := Decidable.byContradiction (fun q => b83x ((nI_lei (by omega) (by omega)).mpr (by omega)))
            have w0x : vW v sp = 0 := (nI_le0 (by omega)).mp b122x
            have t1x := k1x.set (c := vC v sp + j - 1) (w := vT v sp - 1) (y := 6 * (vpr v 0 (vC v sp) * (vT v sp - vW v sp)) + 2 * j + 1) (by omega) (by omega) (by omega) D1_new g23x (fun k q => f23x qc k (Or.inr q))
            refine ih J23x (t1x.iff (fun a b q _ _ => ?_)) (fun i k q => (f23x i k (Or.inl q)).trans (k2x i k q))
            rw [D1_y b48x]
            clear ih k1x k2x t1x 
            generalize hD : D1x v sp j a b q = DD
            generalize vpr v 0 (vC v sp) * (vT v sp - vW v sp) = P6x at *
            grind
          · refine e_aload rfl rfl ?_
            refine e_getR rfl p0x r8x ?_
            refine e_iload rfl rfl ?_
            refine e_iload rfl rfl ?_
            refine e_iadd rfl ?_
            rw [show (nI (31 * (vC v sp + j - 1))) + (nI (vW v sp)) = nI (31 * (vC v sp + j - 1) + vW v sp) from nI_add _ _]
            refine e_ipush rfl ?_
            have w1x : 0 < vW v sp := Decidable.byContradiction (fun q => b122x ((nI_le0 (by omega)).mpr (by omega)))
            refine e_isub rfl ?_
            rw [show (nI (31 * (vC v sp + j - 1) + vW v sp)) - (1 : Int32) = nI (31 * (vC v sp + j - 1) + (vW v sp - 1)) from (nI_sub (b := 1) (by omega)).trans (congrArg nI (by omega))]
            refine e_iload rfl rfl ?_
            refine e_iasJ (t := 31 * (vC v sp + j - 1) + (vW v sp - 1)) (n := 372) rfl sc rfl (by omega) (by decide) (fun J24x g24x f24x => ?_)
            refine e_iinc rfl rfl ?_
            refine e_goto rfl ?_
            refine Eg.pk [0, 1, 2, 3] [3, 5, 4, 0, 1, 2] rfl (by decide) ?_
            rw [wy_1]
            have v0x : 0 < vpr v 0 (vC v sp) := Decidable.byContradiction (fun q => b75x ((nI_le0 (by omega)).mpr (by omega)))
            have wt : vW v sp < vT v sp := Decidable.byContradiction (fun q => b83x ((nI_lei (by omega) (by omega)).mpr (by omega)))
            have w0x : 0 < vW v sp := Decidable.byContradiction (fun q => b122x ((nI_le0 (by omega)).mpr (by omega)))
            have t1x := k1x.set (c := vC v sp + j - 1) (w := vT v sp - 1) (y := 6 * (vpr v 0 (vC v sp) * (vT v sp - vW v sp)) + 2 * j + 1) (by omega) (by omega) (by omega) D1_new g23x (fun k q => f23x qc k (Or.inr q))
            have nw : ∀ k, ¬ (D1x v sp j (vC v sp + j - 1) (vW v sp - 1) k ∨ vC v sp + j - 1 = vC v sp + j - 1 ∧ vW v sp - 1 = vT v sp - 1 ∧ k = 6 * (vpr v 0 (vC v sp) * (vT v sp - vW v sp)) + 2 * j + 1) := fun k q => by rcases q with q | q; exact D1_new k q; omega
            have t2x := t1x.set (c := vC v sp + j - 1) (w := vW v sp - 1) (y := 2 * j) (by omega) (by omega) (by omega) nw g24x (fun k q => f24x qc k (Or.inr q))
            refine ih J24x (t2x.iff (fun a b q _ _ => ?_)) (fun i k q => (f24x i k (Or.inl q)).trans ((fun i k q => (f23x i k (Or.inl q)).trans (k2x i k q)) i k q))
            rw [D1_y b48x]
            clear ih k1x k2x t1x  t2x nw
            generalize hD : D1x v sp j a b q = DD
            generalize vpr v 0 (vC v sp) * (vT v sp - vW v sp) = P6x at *
            grind
    · replace b48x := yn_0.mp b48x
      refine e_goto rfl ?_
      refine e_iinc rfl rfl ?_
      refine e_goto rfl ?_
      refine Eg.pk [0, 1, 2, 3] [3, 0, 1, 2] rfl (by decide) ?_
      rw [wy_1]
      exact ih J (k1x.iff (fun a b q _ _ => D1_n b48x)) k2x
  · refine e_iload rfl rfl ?_
    refine e_ipush rfl ?_
    refine e_cgt_t rfl (by decide) ?_
    exact Eg.ret rfl (by decide) rfl ⟨rfl, J, rfl, k1x.iff (fun a b q _ _ => D1_e), k2x⟩
theorem cs_fillDear (hX : CX sh I R m s v sp qa qb qc qd) (hw : Wf v) (hp : PH I v t) (hs : sp < cn v 4) {E : Nat → Nat → Nat → Prop} (hT : TB 2147483647 I qc E) (hE : ∀ c w k, E c w k → c < cn v 0 ∧ w ≤ vT v sp ∧ k ≤ 6000000) : Ec X 1 62 [.ref 250] (sh, I, L, R) (fun r h' => r = none ∧ ∃ J : Nat → Nat → Int32, h' = (sh, J, L, R) ∧ TB 2147483647 J qc (FE v sp t E) ∧ ∀ i k, i ≠ qc → J i k = I i k) := by
  have hX0x := hX
  obtain ⟨⟨p0x, p1x, p2x, p3x, ⟨sa, r6x⟩, ⟨sb, r7x⟩, ⟨sc, r8x⟩, ⟨sd, r9x⟩, qab, qcd⟩, hMX, pm, i1x, i2x⟩ := hX
  obtain ⟨hM, hms, hS, hV, hW, dm, ds⟩ := id hMX
  have hb := hw.1.2
  have hvs := vS_ok hw hs
  refine Ec.of (Nat.le_of_ble_eq_true rfl) ?_
  refine e_ipush rfl ?_
  refine e_istore rfl ?_
  refine Eg.pk [0, 1] [1, 0] rfl (by decide) ?_
  refine up_ind (p := fun c => ∀ J : Nat → Nat → Int32, TB 2147483647 J qc (FD v sp t E c 0) → (∀ i k, i ≠ qc → J i k = I i k) → Eg X xTc 0 62 2 [(0, .ref 250), (1, .int (nI c))] [] (sh, J, L, R) (fun r h' => r = none ∧ ∃ J : Nat → Nat → Int32, h' = (sh, J, L, R) ∧ TB 2147483647 J qc (FE v sp t E) ∧ ∀ i k, i ≠ qc → J i k = I i k)) (n := cn v 0) (j := 0) (fun c hc ih J k1x k2x => ?_) (fun J k1x k2x => ?_) (Nat.zero_le _) I (hT.iff (fun a b q _ _ => FD_0)) (fun _ _ _ => rfl)
  · have hXJ : CX sh J R m s v sp qa qb qc qd := hX0x.fr (fun i k q => k2x i k (by omega))
    have gp : PH J v t := hp.fr (fun i k q1x q2x => k2x i k (by omega))
    have vb := vpr_le hw (t := t) (c := c)
    refine e_iload rfl rfl ?_
    refine e_aload rfl rfl ?_
    refine e_getR rfl p0x pm ?_
    refine e_getR rfl hM.1 hms ?_
    refine e_getIv rfl hS.1 (hXJ.2.1.2.2.2.1.1 0 (by decide)) ?_
    refine e_cge_f rfl (nI_ge hc (by omega)) ?_
    refine e_iload rfl rfl ?_
    refine e_ipush rfl ?_
    refine e_imul rfl ?_
    rw [show (nI c) * (31 : Int32) = nI (31 * c) from (nI_mc (a := c) (b := 31))]
    refine e_aload rfl rfl ?_
    refine e_getIv rfl p0x hXJ.2.2.2.2 ?_
    refine e_iadd rfl ?_
    rw [show (nI (31 * c)) + (nI (vT v sp)) = nI (31 * c + vT v sp) from nI_add _ _]
    refine e_istore rfl ?_
    refine e_ipush rfl ?_
    refine e_istore rfl ?_
    refine Eg.pk [0, 1, 2, 3] [3, 2, 0, 1] rfl (by decide) ?_
    by_cases pz : vpr v t c = 0
    · refine e_aload rfl rfl ?_
      refine e_getR rfl p0x p3x.2 ?_
      refine e_iload rfl rfl ?_
      refine e_ialv (t := c) (n := 12) rfl p3x.1 rfl (by omega) (by decide) (gp c (by omega)).2.2 ?_
      refine e_ifle_t rfl ((nI_le0 (by omega)).mpr pz) ?_
      refine e_iinc rfl rfl ?_
      refine e_goto rfl ?_
      refine Eg.pk [0, 1] [1, 0, 2, 3] rfl (by decide) ?_
      rw [nI_1]
      exact ih J (k1x.iff (fun a b q _ _ => FD_skip pz)) k2x
    · refine up_ind (p := fun w => ∀ K : Nat → Nat → Int32, TB 2147483647 K qc (FD v sp t E c w) → (∀ i k, i ≠ qc → K i k = I i k) → Eg X xTc 0 62 28 [(0, .ref 250), (1, .int (nI c)), (2, .int (nI (31 * c + vT v sp))), (3, .int (nI w))] [] (sh, K, L, R) (fun r h' => r = none ∧ ∃ J : Nat → Nat → Int32, h' = (sh, J, L, R) ∧ TB 2147483647 J qc (FE v sp t E) ∧ ∀ i k, i ≠ qc → J i k = I i k)) (n := vT v sp) (j := 0) (fun w hw1x iw K m1x m2x => ?_) (fun K m1x m2x => ?_) (Nat.zero_le _) J k1x k2x
      · have hXK : CX sh K R m s v sp qa qb qc qd := hX0x.fr (fun i k q => m2x i k (by omega))
        have gp : PH K v t := hp.fr (fun i k q1x q2x => m2x i k (by omega))
        obtain ⟨x, ex, tx0x⟩ := m1x c (by omega) w (by omega)
        have tx : tab 2147483647 (E c w) x := tab_iff tx0x (fun k => FD_at hw1x)
        obtain ⟨x2x, ex2x, tx2x⟩ := m1x c (by omega) (vT v sp) (by omega)
        have xb := tx.1
        have xb2x := tx2x.1
        have fb := fill_b hw (t := t) (c := c) (w := w) hs
        have xs : x < 2147483647 → x ≤ 6000000 := fun q => (hE _ _ _ (tx.2.1 q)).2.2
        refine e_aload rfl rfl ?_
        refine e_getR rfl p0x p3x.2 ?_
        refine e_iload rfl rfl ?_
        refine e_ialv (t := c) (n := 12) rfl p3x.1 rfl (by omega) (by decide) (gp c (by omega)).2.2 ?_
        refine e_ifle_f rfl (fun q => pz ((nI_le0 (by omega)).mp q)) ?_
        refine e_iload rfl rfl ?_
        refine e_aload rfl rfl ?_
        refine e_getIv rfl p0x hXK.2.2.2.2 ?_
        refine e_cge_f rfl (nI_ge hw1x (by omega)) ?_
        refine e_aload rfl rfl ?_
        refine e_getR rfl p0x r8x ?_
        refine e_iload rfl rfl ?_
        refine e_ipush rfl ?_
        refine e_imul rfl ?_
        rw [show (nI c) * (31 : Int32) = nI (31 * c) from (nI_mc (a := c) (b := 31))]
        refine e_iload rfl rfl ?_
        refine e_iadd rfl ?_
        rw [show (nI (31 * c)) + (nI w) = nI (31 * c + w) from nI_add _ _]
        refine e_ialv (t := 31 * c + w) (n := 372) rfl sc rfl (by omega) (by decide) ex ?_
        refine e_istore rfl ?_
        refine e_iload rfl rfl ?_
        refine e_ipush rfl ?_
        refine e_ceq_b rfl (fun b62x => ?_) (fun b62x => ?_)
        · refine e_iinc rfl rfl ?_
          refine e_goto rfl ?_
          refine Eg.pk [0, 1, 2, 3] [3, 4, 0, 1, 2] rfl (by decide) ?_
          rw [nI_1]
          have xi : x = 2147483647 := (nI_ij (b := 2147483647) (by omega) (by decide)).mp b62x
          exact iw K (m1x.iff (fun a b q _ _ => FD_no (tab_inf tx (by omega) (fun k q => by have := hE _ _ _ q; omega)))) m2x
        · have xn : x ≠ 2147483647 := fun q => b62x (by rw [q]; rfl)
          have xl : x < 2147483647 := by omega
          have xs2x := xs xl
          refine e_aload rfl rfl ?_
          refine e_getR rfl p0x r8x ?_
          refine e_iload rfl rfl ?_
          refine e_aload rfl rfl ?_
          refine e_getR rfl p0x r8x ?_
          refine e_iload rfl rfl ?_
          refine e_ialv (t := 31 * c + vT v sp) (n := 372) rfl sc rfl (by omega) (by decide) ex2x ?_
          refine e_iload rfl rfl ?_
          refine e_aload rfl rfl ?_
          refine e_getIv rfl p0x hXK.2.2.2.2 ?_
          refine e_iload rfl rfl ?_
          refine e_isub rfl ?_
          rw [show (nI (vT v sp)) - (nI w) = nI (vT v sp - w) from nI_sub (by omega)]
          refine e_aload rfl rfl ?_
          refine e_getR rfl p0x p3x.2 ?_
          refine e_iload rfl rfl ?_
          refine e_ialv (t := c) (n := 12) rfl p3x.1 rfl (by omega) (by decide) (gp c (by omega)).2.2 ?_
          refine e_imul rfl ?_
          rw [show (nI (vT v sp - w)) * (nI (vpr v t c)) = nI (vpr v t c * (vT v sp - w)) from nI_mc]
          refine e_ipush rfl ?_
          refine e_imul rfl ?_
          rw [show (nI (vpr v t c * (vT v sp - w))) * (6 : Int32) = nI (6 * (vpr v t c * (vT v sp - w))) from (nI_mc (a := vpr v t c * (vT v sp - w)) (b := 6))]
          refine e_iadd rfl ?_
          rw [show (nI x) + (nI (6 * (vpr v t c * (vT v sp - w)))) = nI (x + 6 * (vpr v t c * (vT v sp - w))) from nI_add _ _]
          refine e_min rfl (Nat.le_of_ble_eq_true rfl) ?_
          rw [show (if nI (x + 6 * (vpr v t c * (vT v sp - w))) < nI x2x then nI (x + 6 * (vpr v t c * (vT v sp - w))) else nI x2x) = nI (if x + 6 * (vpr v t c * (vT v sp - w)) < x2x then x + 6 * (vpr v t c * (vT v sp - w)) else x2x) from nI_mn (by omega) (by omega)]
          refine e_iasJ (t := 31 * c + vT v sp) (n := 372) rfl sc rfl (by omega) (by decide) (fun J21x g21x f21x => ?_)
          refine e_iinc rfl rfl ?_
          refine e_goto rfl ?_
          refine Eg.pk [0, 1, 2, 3] [3, 4, 0, 1, 2] rfl (by decide) ?_
          rw [nI_1]
          exact iw J21x (FD_yes tx xl (by omega) (m1x.put (c := c) (w := vT v sp) (y := x + 6 * (vpr v t c * (vT v sp - w))) (by omega) (by omega) (by omega) ex2x tx2x g21x (fun k q => f21x qc k (Or.inr q)))) (fun i k q => (f21x i k (Or.inl q)).trans (m2x i k q))
      · have hXK : CX sh K R m s v sp qa qb qc qd := hX0x.fr (fun i k q => m2x i k (by omega))
        have gp : PH K v t := hp.fr (fun i k q1x q2x => m2x i k (by omega))
        refine e_aload rfl rfl ?_
        refine e_getR rfl p0x p3x.2 ?_
        refine e_iload rfl rfl ?_
        refine e_ialv (t := c) (n := 12) rfl p3x.1 rfl (by omega) (by decide) (gp c (by omega)).2.2 ?_
        refine e_ifle_f rfl (fun q => pz ((nI_le0 (by omega)).mp q)) ?_
        refine e_iload rfl rfl ?_
        refine e_aload rfl rfl ?_
        refine e_getIv rfl p0x hXK.2.2.2.2 ?_
        refine e_cge_t rfl (Int32.le_refl _) ?_
        refine e_iinc rfl rfl ?_
        refine e_goto rfl ?_
        refine Eg.pk [0, 1] [1, 0, 2, 3] rfl (by decide) ?_
        rw [nI_1]
        exact ih K (m1x.iff (fun a b q _ _ => FD_row)) m2x
  · have hXJ : CX sh J R m s v sp qa qb qc qd := hX0x.fr (fun i k q => k2x i k (by omega))
    have gp : PH J v t := hp.fr (fun i k q1x q2x => k2x i k (by omega))
    refine e_iload rfl rfl ?_
    refine e_aload rfl rfl ?_
    refine e_getR rfl p0x pm ?_
    refine e_getR rfl hM.1 hms ?_
    refine e_getIv rfl hS.1 (hXJ.2.1.2.2.2.1.1 0 (by decide)) ?_
    refine e_cge_t rfl (Int32.le_refl _) ?_
    exact Eg.ret rfl (by decide) rfl ⟨rfl, J, rfl, k1x.iff (fun a b q _ _ => FD_all (fun c w k q => (hE c w k q).1)), k2x⟩
theorem cs_passWaters (hX : CX sh I R m s v sp qa qb qc qd) (hw : Wf v) (hs : sp < cn v 4) {E G : Nat → Nat → Nat → Prop} {c d : Nat} (hT : TB 2147483647 I qd E) (hG : TB 2147483647 I qc G) (hc : c < 12) (hd : d < 12) : Ec X 1 64 [.ref 250, .int (nI (31 * c)), .int (nI (31 * d))] (sh, I, L, R) (fun r h' => r = none ∧ ∃ J : Nat → Nat → Int32, h' = (sh, J, L, R) ∧ TB 2147483647 J qd (fun a b e => E a b e ∨ a = d ∧ b + 1 ≤ vT v sp ∧ G c (b + 1) e) ∧ ∀ i k, i ≠ qd → J i k = I i k) := by
  have hX0x := hX
  obtain ⟨⟨p0x, p1x, p2x, p3x, ⟨sa, r6x⟩, ⟨sb, r7x⟩, ⟨sc, r8x⟩, ⟨sd, r9x⟩, qab, qcd⟩, hMX, pm, i1x, i2x⟩ := hX
  obtain ⟨hM, hms, hS, hV, hW, dm, ds⟩ := id hMX
  have hvs := vS_ok hw hs
  refine Ec.of (Nat.le_of_ble_eq_true rfl) ?_
  refine e_ipush rfl ?_
  refine e_istore rfl ?_
  refine Eg.pk [0, 1, 2, 3] [3, 0, 1, 2] rfl (by decide) ?_
  refine up_ind (p := fun w => 1 ≤ w → ∀ J : Nat → Nat → Int32, TB 2147483647 J qd (fun a b e => E a b e ∨ a = d ∧ b + 1 < w ∧ G c (b + 1) e) → (∀ i k, i ≠ qd → J i k = I i k) → Eg X xTc 0 64 2 [(0, .ref 250), (1, .int (nI (31 * c))), (2, .int (nI (31 * d))), (3, .int (nI w))] [] (sh, J, L, R) (fun r h' => r = none ∧ ∃ J : Nat → Nat → Int32, h' = (sh, J, L, R) ∧ TB 2147483647 J qd (fun a b e => E a b e ∨ a = d ∧ b + 1 ≤ vT v sp ∧ G c (b + 1) e) ∧ ∀ i k, i ≠ qd → J i k = I i k)) (n := vT v sp + 1) (j := 1) (fun w hw1x ih w1x J k1x k2x => ?_) (fun w1x J k1x k2x => ?_) (by omega) (Nat.le_refl _) I (hT.iff (fun a b q _ _ => ⟨Or.inl, fun r => by rcases r with r | r; exact r; omega⟩)) (fun _ _ _ => rfl)
  · have hXJ : CX sh J R m s v sp qa qb qc qd := hX0x.fr (fun i k q => k2x i k (by omega))
    obtain ⟨x, ex, tx⟩ := k1x d hd (w - 1) (by omega)
    obtain ⟨y, ey0x, ty⟩ := hG c hc w (by omega)
    have ey : J qc (31 * c + w) = nI y := (k2x qc _ (by omega)).trans ey0x
    have xb := tx.1
    have yb := ty.1
    refine e_iload rfl rfl ?_
    refine e_aload rfl rfl ?_
    refine e_getIv rfl p0x hXJ.2.2.2.2 ?_
    refine e_cgt_f rfl (fun q => absurd ((nI_lti (by omega) (by omega)).mp q) (by omega)) ?_
    refine e_aload rfl rfl ?_
    refine e_getR rfl p0x r9x ?_
    refine e_iload rfl rfl ?_
    refine e_iload rfl rfl ?_
    refine e_iadd rfl ?_
    rw [show (nI (31 * d)) + (nI w) = nI (31 * d + w) from nI_add _ _]
    refine e_ipush rfl ?_
    refine e_isub rfl ?_
    rw [show (nI (31 * d + w)) - (1 : Int32) = nI (31 * d + (w - 1)) from (nI_sub (b := 1) (by omega)).trans (congrArg nI (by omega))]
    refine e_aload rfl rfl ?_
    refine e_getR rfl p0x r9x ?_
    refine e_iload rfl rfl ?_
    refine e_iload rfl rfl ?_
    refine e_iadd rfl ?_
    rw [show (nI (31 * d)) + (nI w) = nI (31 * d + w) from nI_add _ _]
    refine e_ipush rfl ?_
    refine e_isub rfl ?_
    rw [show (nI (31 * d + w)) - (1 : Int32) = nI (31 * d + (w - 1)) from (nI_sub (b := 1) (by omega)).trans (congrArg nI (by omega))]
    refine e_ialv (t := 31 * d + (w - 1)) (n := 372) rfl sd rfl (by omega) (by decide) ex ?_
    refine e_aload rfl rfl ?_
    refine e_getR rfl p0x r8x ?_
    refine e_iload rfl rfl ?_
    refine e_iload rfl rfl ?_
    refine e_iadd rfl ?_
    rw [show (nI (31 * c)) + (nI w) = nI (31 * c + w) from nI_add _ _]
    refine e_ialv (t := 31 * c + w) (n := 372) rfl sc rfl (by omega) (by decide) ey ?_
    refine e_min rfl (Nat.le_of_ble_eq_true rfl) ?_
    rw [show (if nI y < nI x then nI y else nI x) = nI (if y < x then y else x) from nI_mn (by omega) (by omega)]
    refine e_iasJ (t := 31 * d + (w - 1)) (n := 372) rfl sd rfl (by omega) (by decide) (fun J21x g21x f21x => ?_)
    refine e_iinc rfl rfl ?_
    refine e_goto rfl ?_
    refine Eg.pk [0, 1, 2, 3] [3, 0, 1, 2] rfl (by decide) ?_
    rw [nI_1]
    refine ih (by omega) J21x ((k1x.por (c := d) (w := w - 1) hd (by omega) ty ex tx g21x (fun k q => f21x qd k (Or.inr q))).iff (fun a b e _ _ => ?_)) (fun i k q => (f21x i k (Or.inl q)).trans (k2x i k q))
    constructor
    · rintro ((r | r) | ⟨r1x, r2x, r3x⟩)
      · exact Or.inl r
      · exact Or.inr ⟨r.1, by omega, r.2.2⟩
      · exact Or.inr ⟨r1x, by omega, by rw [r2x, show w - 1 + 1 = w by omega]; exact r3x⟩
    · rintro (r | ⟨r1x, r2x, r3x⟩)
      · exact Or.inl (Or.inl r)
      · by_cases z : b + 1 = w
        · exact Or.inr ⟨r1x, by omega, by rw [← z]; exact r3x⟩
        · exact Or.inl (Or.inr ⟨r1x, by omega, r3x⟩)
  · have hXJ : CX sh J R m s v sp qa qb qc qd := hX0x.fr (fun i k q => k2x i k (by omega))
    refine e_iload rfl rfl ?_
    refine e_aload rfl rfl ?_
    refine e_getIv rfl p0x hXJ.2.2.2.2 ?_
    refine e_cgt_t rfl ((nI_lti (by omega) (by omega)).mpr (by omega)) ?_
    exact Eg.ret rfl (by decide) rfl ⟨rfl, J, rfl, k1x.iff (fun a b e _ _ => ⟨fun r => r.elim Or.inl (fun q => Or.inr ⟨q.1, by omega, q.2.2⟩), fun r => r.elim Or.inl (fun q => Or.inr ⟨q.1, by omega, q.2.2⟩)⟩), k2x⟩
theorem cs_passDear (hX : CX sh I R m s v sp qa qb qc qd) (hw : Wf v) (hp : PH I v t) (hs : sp < cn v 4) {G : Nat → Nat → Nat → Prop} (hG : TB 2147483647 I qc G) : Ec X 3 63 [.ref 250] (sh, I, L, R) (fun r h' => r = none ∧ ∃ J : Nat → Nat → Int32, h' = (sh, J, L, (xu (xu R 250 8 (some qd)) 250 9 (some qc))) ∧ TB 2147483647 J qd (NE v sp t G (cn v 0) 0) ∧ ∀ i k, i ≠ qd → J i k = I i k) := by
  have hX0x := hX
  obtain ⟨⟨p0x, p1x, p2x, p3x, ⟨sa, r6x⟩, ⟨sb, r7x⟩, ⟨sc, r8x⟩, ⟨sd, r9x⟩, qab, qcd⟩, hMX, pm, i1x, i2x⟩ := hX
  obtain ⟨hM, hms, hS, hV, hW, dm, ds⟩ := id hMX
  have hb := hw.1.2
  have hvs := vS_ok hw hs
  refine Ec.of (Nat.le_of_ble_eq_true rfl) ?_
  refine e_aload rfl rfl ?_
  refine e_getR rfl p0x r9x ?_
  refine e_ipush rfl ?_
  refine Eg.c2 rfl (by decide) (by decide) rfl (Nat.le_of_ble_eq_true rfl) (xrcv_ofs (Or.inl rfl)) ((cs_fill (n := 372) sd (by decide)).mono (by decide)) (fun r1x h1x hq => ?_)
  obtain ⟨rfl, J0x, rfl, f1x, f2x⟩ := hq
  refine e_ipush rfl ?_
  refine e_istore rfl ?_
  refine Eg.pk [0, 1] [1, 0] rfl (by decide) ?_
  refine up_ind (p := fun c => ∀ J : Nat → Nat → Int32, TB 2147483647 J qd (NE v sp t G c 0) → (∀ i k, i ≠ qd → J i k = I i k) → Eg X xTc 2 63 11 [(0, .ref 250), (1, .int (nI c))] [] (sh, J, L, R) (fun r h' => r = none ∧ ∃ J : Nat → Nat → Int32, h' = (sh, J, L, (xu (xu R 250 8 (some qd)) 250 9 (some qc))) ∧ TB 2147483647 J qd (NE v sp t G (cn v 0) 0) ∧ ∀ i k, i ≠ qd → J i k = I i k)) (n := cn v 0) (j := 0) (fun c hc ih J k1x k2x => ?_) (fun J k1x k2x => ?_) (Nat.zero_le _) J0x ((TB.no f1x).iff (fun a b q _ _ => NE_0)) f2x
  · have hXJ : CX sh J R m s v sp qa qb qc qd := hX0x.fr (fun i k q => k2x i k (by omega))
    have gp : PH J v t := hp.fr (fun i k q1x q2x => k2x i k (by omega))
    refine e_iload rfl rfl ?_
    refine e_aload rfl rfl ?_
    refine e_getR rfl p0x pm ?_
    refine e_getR rfl hM.1 hms ?_
    refine e_getIv rfl hS.1 (hXJ.2.1.2.2.2.1.1 0 (by decide)) ?_
    refine e_cge_f rfl (nI_ge hc (by omega)) ?_
    refine e_ipush rfl ?_
    refine e_istore rfl ?_
    refine Eg.pk [0, 1, 2] [2, 0, 1] rfl (by decide) ?_
    refine up_ind (p := fun j => ∀ K : Nat → Nat → Int32, TB 2147483647 K qd (NE v sp t G c j) → (∀ i k, i ≠ qd → K i k = I i k) → Eg X xTc 2 63 27 [(0, .ref 250), (1, .int (nI c)), (2, .int (wy j))] [] (sh, K, L, R) (fun r h' => r = none ∧ ∃ J : Nat → Nat → Int32, h' = (sh, J, L, (xu (xu R 250 8 (some qd)) 250 9 (some qc))) ∧ TB 2147483647 J qd (NE v sp t G (cn v 0) 0) ∧ ∀ i k, i ≠ qd → J i k = I i k)) (n := 3) (j := 0) (fun j hj ik K m1x m2x => ?_) (fun K m1x m2x => ?_) (Nat.zero_le _) J k1x k2x
    · have hXK : CX sh K R m s v sp qa qb qc qd := hX0x.fr (fun i k q => m2x i k (by omega))
      have gp : PH K v t := hp.fr (fun i k q1x q2x => m2x i k (by omega))
      have gG : TB 2147483647 K qc G := hG.fr (fun k => m2x qc k (by omega))
      refine e_iload rfl rfl ?_
      refine e_ipush rfl ?_
      refine e_cgt_f rfl (fun q => absurd ((wy_lt (a := 2) (by decide) (by omega)).mp q) (by omega)) ?_
      refine e_aload rfl rfl ?_
      refine e_iload rfl rfl ?_
      refine e_iload rfl rfl ?_
      refine Eg.p3 rfl (by decide) (by decide) rfl (Nat.le_of_ble_eq_true rfl) (xrcv_of rfl p0x rfl) ((cs_canPass hXK hw gp hs (c := c) (j := j) hc hj).mono (by decide)) ?_
      refine e_ifeq_b rfl (fun b38x => ?_) (fun b38x => ?_)
      · replace b38x := yn_0.mp b38x
        refine e_iinc rfl rfl ?_
        refine e_goto rfl ?_
        refine Eg.pk [0, 1, 2] [2, 0, 1] rfl (by decide) ?_
        rw [wy_1]
        exact ik K (m1x.iff (fun a b q _ _ => NE_n b38x)) m2x
      · replace b38x := yn_n0.mp b38x
        have cj : 1 ≤ c + j ∧ c + j ≤ cn v 0 := by rcases of_decide_eq_true b38x with r | r; omega; exact r.1
        have ew : nI (c + j) - 1 = nI (c + j - 1) := nI_sub (b := 1) cj.1
        refine e_aload rfl rfl ?_
        refine e_iload rfl rfl ?_
        refine e_ipush rfl ?_
        refine e_imul rfl ?_
        rw [show (nI c) * (31 : Int32) = nI (31 * c) from (nI_mc (a := c) (b := 31))]
        refine e_iload rfl rfl ?_
        refine e_iload rfl rfl ?_
        refine e_iadd rfl ?_
        rw [show (nI c) + (wy j) = nI (c + j - 1) from wy_c.trans ew]
        refine e_ipush rfl ?_
        refine e_imul rfl ?_
        rw [show (nI (c + j - 1)) * (31 : Int32) = nI (31 * (c + j - 1)) from (nI_mc (a := c + j - 1) (b := 31))]
        refine Eg.c3 rfl (by decide) (by decide) rfl (Nat.le_of_ble_eq_true rfl) (xrcv_of rfl p0x rfl) ((cs_passWaters hXK hw hs (c := c) (d := c + j - 1) m1x gG (by omega) (by omega)).mono (by decide)) (fun r1x h1x hq => ?_)
        obtain ⟨rfl, J2x, rfl, z1x, z2x⟩ := hq
        refine e_iinc rfl rfl ?_
        refine e_goto rfl ?_
        refine Eg.pk [0, 1, 2] [2, 0, 1] rfl (by decide) ?_
        rw [wy_1]
        exact ik J2x (z1x.iff (fun a b q _ _ => NE_y b38x hj cj.1)) (fun i k q => (z2x i k q).trans (m2x i k q))
    · refine e_iload rfl rfl ?_
      refine e_ipush rfl ?_
      refine e_cgt_t rfl (by decide) ?_
      refine e_iinc rfl rfl ?_
      refine e_goto rfl ?_
      refine Eg.pk [0, 1] [1, 0, 2] rfl (by decide) ?_
      rw [nI_1]
      exact ih K (m1x.iff (fun a b q _ _ => NE_row)) m2x
  · have hXJ : CX sh J R m s v sp qa qb qc qd := hX0x.fr (fun i k q => k2x i k (by omega))
    have gp : PH J v t := hp.fr (fun i k q1x q2x => k2x i k (by omega))
    refine e_iload rfl rfl ?_
    refine e_aload rfl rfl ?_
    refine e_getR rfl p0x pm ?_
    refine e_getR rfl hM.1 hms ?_
    refine e_getIv rfl hS.1 (hXJ.2.1.2.2.2.1.1 0 (by decide)) ?_
    refine e_cge_t rfl (Int32.le_refl _) ?_
    refine e_aload rfl rfl ?_
    refine e_getR rfl p0x r8x ?_
    refine e_astore rfl ?_
    refine e_aload rfl rfl ?_
    refine e_aload rfl rfl ?_
    refine e_getR rfl p0x r9x ?_
    refine e_putR rfl p0x ?_
    refine e_aload rfl rfl ?_
    refine e_aload rfl rfl ?_
    refine e_putR rfl p0x ?_
    exact Eg.ret rfl (by decide) rfl ⟨rfl, J, rfl, k1x, k2x⟩
end VC3x
