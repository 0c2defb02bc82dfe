/-! voyage: the class, the soonest day -/
section VC2x
variable {X : xX} {h : xH} {sh : List (Nat × Nat)} {I : Nat → Nat → Int32} {L : Nat → Nat → Int64} {R : Nat → Nat → Option Nat} {v : Nat → Nat → Int32} {w s m : Nat}
variable {sp t qa qb qc qd : Nat}
def mx (P : Nat → Prop) (x : Int32) : Prop := (x = -1 ∧ ∀ w, ¬ P w) ∨ ∃ w, w ≤ 30 ∧ x = nI w ∧ P w ∧ ∀ w', P w' → w' ≤ w
theorem mx_iff {P Q : Nat → Prop} {x : Int32} (h : mx P x) (e : ∀ w, P w ↔ Q w) : mx Q x := by
  rcases h with ⟨h1x, h2x⟩ | ⟨w, h1x, h2x, h3x, h4x⟩
  · exact Or.inl ⟨h1x, fun w q => h2x w ((e w).mpr q)⟩
  · exact Or.inr ⟨w, h1x, h2x, (e w).mp h3x, fun w' q => h4x w' ((e w').mpr q)⟩
theorem mx_add {P : Nat → Prop} {x : Int32} {y : Nat} (h : mx P x) (hy : y ≤ 30) : mx (fun w => P w ∨ w = y) (if x < nI y then nI y else x) := by
  rcases h with ⟨h1x, h2x⟩ | ⟨w, h1x, h2x, h3x, h4x⟩
  · subst h1x
    have : (-1 : Int32) < nI y := by
      have q : ∀ y, y < 31 → (-1 : Int32) < nI y := by decide
      exact q y (by omega)
    rw [if_pos this]
    exact Or.inr ⟨y, hy, rfl, Or.inr rfl, fun w' q => by rcases q with q | q; exact absurd q (h2x w'); omega⟩
  · subst h2x
    by_cases c : w < y
    · rw [if_pos ((nI_lti (by omega) (by omega)).mpr c)]
      exact Or.inr ⟨y, hy, rfl, Or.inr rfl, fun w' q => by rcases q with q | q; have := h4x w' q; omega; omega⟩
    · rw [if_neg (fun q => c ((nI_lti (by omega) (by omega)).mp q))]
      exact Or.inr ⟨w, h1x, rfl, Or.inl h3x, fun w' q => by rcases q with q | q; exact h4x w' q; omega⟩
theorem mx_dom {P Q : Nat → Prop} {x : Int32} (h : mx P x) (e : ∀ w, P w → Q w) (d : ∀ w, Q w → ∃ w', w ≤ w' ∧ P w') : mx Q x := by
  rcases h with ⟨h1x, h2x⟩ | ⟨w, h1x, h2x, h3x, h4x⟩
  · exact Or.inl ⟨h1x, fun w q => by obtain ⟨w', _, p⟩ := d w q; exact h2x w' p⟩
  · exact Or.inr ⟨w, h1x, h2x, e w h3x, fun w' q => by obtain ⟨w2x, l, p⟩ := d w' q; have := h4x w2x p; omega⟩
/-- a table of the most water -/
def TM (J : Nat → Nat → Int32) (q : Nat) (P : Nat → Nat → Prop) : Prop := ∀ c, c < 12 → mx (P c) (J q c)
theorem TM.iff {J : Nat → Nat → Int32} {q : Nat} {P G : Nat → Nat → Prop} (h : TM J q P) (e : ∀ c w, c < 12 → (P c w ↔ G c w)) : TM J q G := fun c hc => mx_iff (h c hc) (fun w => e c w hc)
theorem TM.dom {J : Nat → Nat → Int32} {q : Nat} {P G : Nat → Nat → Prop} (h : TM J q P) (e : ∀ c w, P c w → G c w) (d : ∀ c w, G c w → ∃ w', w ≤ w' ∧ P c w') : TM J q G := fun c hc => mx_dom (h c hc) (e c) (d c)
theorem TM.fr {J K : Nat → Nat → Int32} {q : Nat} {P : Nat → Nat → Prop} (h : TM J q P) (e : ∀ k, K q k = J q k) : TM K q P := fun c hc => by rw [e]; exact h c hc
theorem TM.no {J : Nat → Nat → Int32} {q : Nat} (h : ∀ k, k < 12 → J q k = -1) : TM J q (fun _ _ => False) := fun c hc => Or.inl ⟨h c hc, fun _ r => r⟩
theorem TM.put {J K : Nat → Nat → Int32} {q c y : Nat} {P : Nat → Nat → Prop} (h : TM J q P) (hc : c < 12) (hy : y ≤ 30) (e : K q c = if J q c < nI y then nI y else J q c) (f : ∀ k, k ≠ c → K q k = J q k) : TM K q (fun a w => P a w ∨ a = c ∧ w = y) := fun a ha => by
  by_cases z : a = c
  · subst z
    rw [e]
    exact mx_iff (mx_add (h a ha) hy) (fun w => by simp)
  · rw [f a z]
    exact mx_iff (h a ha) (fun w => ⟨Or.inl, fun r => by rcases r with r | r; exact r; exact absurd r.1 z⟩)
/-- what has come so far -/
def MSo (v : Nat → Nat → Int32) (sp t c j a b : Nat) : Prop := ∃ c1x j1x w1x, (c1x < c ∨ c1x = c ∧ j1x < j) ∧ j1x < 3 ∧ uS v sp t c1x w1x ∧ vgo v sp t c1x j1x = true ∧ a + 1 = c1x + j1x ∧ (w1x = b + 1 ∨ 0 < vpr v t c1x ∧ vT v sp = b + 1)
theorem MS_0 {a b : Nat} : False ↔ MSo v sp t 0 0 a b := ⟨fun h => h.elim, fun ⟨_, _, _, h, _⟩ => by omega⟩
theorem MS_row {c a b : Nat} : MSo v sp t c 3 a b ↔ MSo v sp t (c + 1) 0 a b := by
  constructor
  · rintro ⟨c1x, j1x, w1x, h⟩; exact ⟨c1x, j1x, w1x, by omega, h.2⟩
  · rintro ⟨c1x, j1x, w1x, h⟩; exact ⟨c1x, j1x, w1x, by omega, h.2⟩
theorem MS_skip {c a b : Nat} (h : ∀ w1x b, uS v sp t c w1x → ¬ (w1x = b + 1 ∨ 0 < vpr v t c ∧ vT v sp = b + 1)) : MSo v sp t c 0 a b ↔ MSo v sp t (c + 1) 0 a b := by
  constructor
  · rintro ⟨c1x, j1x, w1x, r⟩; exact ⟨c1x, j1x, w1x, by omega, r.2⟩
  · rintro ⟨c1x, j1x, w1x, r1x, r2x, r3x, r4x, r5x, r6x⟩
    by_cases e : c1x = c
    · subst e; exact absurd r6x (h _ _ r3x)
    · exact ⟨c1x, j1x, w1x, by omega, r2x, r3x, r4x, r5x, r6x⟩
theorem MS_n {c j a b : Nat} (g : ¬ vgo v sp t c j = true) : MSo v sp t c j a b ↔ MSo v sp t c (j + 1) a b := by
  constructor
  · rintro ⟨c1x, j1x, w1x, r⟩; exact ⟨c1x, j1x, w1x, by omega, r.2⟩
  · rintro ⟨c1x, j1x, w1x, r1x, r2x, r3x, r4x, r5x⟩
    by_cases e : c1x = c ∧ j1x = j
    · obtain ⟨rfl, rfl⟩ := e; exact absurd r4x g
    · exact ⟨c1x, j1x, w1x, by omega, r2x, r3x, r4x, r5x⟩
theorem MS_y {J : Nat → Nat → Int32} {q c j y : Nat} (hj : j < 3) (g : vgo v sp t c j = true) (h1x : 1 ≤ c + j) (hu : ∃ w1x, uS v sp t c w1x ∧ (w1x = y + 1 ∨ 0 < vpr v t c ∧ vT v sp = y + 1)) (hm : ∀ w1x b, uS v sp t c w1x → (w1x = b + 1 ∨ 0 < vpr v t c ∧ vT v sp = b + 1) → b ≤ y) (h : TM J q (fun a b => MSo v sp t c j a b ∨ a = c + j - 1 ∧ b = y)) : TM J q (MSo v sp t c (j + 1)) := by
  refine h.dom (fun a b r => ?_) (fun a b r => ?_)
  · rcases r with ⟨c1x, j1x, w1x, r⟩ | ⟨rfl, rfl⟩
    · exact ⟨c1x, j1x, w1x, by omega, r.2⟩
    · obtain ⟨w1x, u1x, u2x⟩ := hu
      exact ⟨c, j, w1x, by omega, hj, u1x, g, by omega, u2x⟩
  · obtain ⟨c1x, j1x, w1x, r1x, r2x, r3x, r4x, r5x, r6x⟩ := r
    by_cases e : c1x = c ∧ j1x = j
    · obtain ⟨rfl, rfl⟩ := e
      exact ⟨y, hm _ _ r3x r6x, Or.inr ⟨by omega, rfl⟩⟩
    · exact ⟨b, Nat.le_refl _, Or.inl ⟨c1x, j1x, w1x, by omega, r2x, r3x, r4x, r5x, r6x⟩⟩
theorem MS_all {a b : Nat} (hb : ∀ c w, uS v sp t c w → c < cn v 0) : MSo v sp t (cn v 0) 0 a b ↔ uS v sp (t + 1) a b := by
  rw [uS_s]
  constructor
  · rintro ⟨c1x, j1x, w1x, r1x, r2x, r3x, r4x, r5x, r6x⟩; exact ⟨c1x, w1x, r3x, j1x, r2x, r4x, r5x, r6x⟩
  · rintro ⟨c1x, w1x, r3x, j1x, r2x, r4x, r5x, r6x⟩; have := hb _ _ r3x; exact ⟨c1x, j1x, w1x, by omega, r2x, r3x, r4x, r5x, r6x⟩
/-- whether anything has come -/
def aN (P : Nat → Nat → Prop) (x : Int32) : Prop := (x = 0 ∧ ∀ a b, ¬ P a b) ∨ x = 1
theorem aN.iff {P Q : Nat → Nat → Prop} {x : Int32} (h : aN P x) (e : ∀ a b, P a b ↔ Q a b) : aN Q x := h.elim (fun q => Or.inl ⟨q.1, fun a b r => q.2 a b ((e a b).mpr r)⟩) Or.inr
theorem cs_passMost (hX : CX sh I R m s v sp qa qb qc qd) (hw : Wf v) (hp : PH I v t) (hs : sp < cn v 4) (hT : TM I qa (uS v sp t)) : Ec X 3 60 [.ref 250] (sh, I, L, R) (fun r h' => ∃ x, r = some (.int x) ∧ ∃ J : Nat → Nat → Int32, h' = (sh, J, L, (xu (xu R 250 6 (some qb)) 250 7 (some qa))) ∧ TM J qb (uS v sp (t + 1)) ∧ aN (uS v sp (t + 1)) x ∧ ∀ i k, i ≠ qb → J i k = I i k) := by
  have hX0x := hX
  obtain ⟨⟨p0x, p1x, p2x, p3x, ⟨sa, r6x⟩, ⟨sb, r7x⟩, ⟨sc, r8x⟩, ⟨sd, r9x⟩, qab, qcd⟩, hMX, pm, i1x, i2x⟩ := hX
  obtain ⟨hM, hms, hS, hV, hW, dm, ds⟩ := id hMX
  have hb := hw.1.2
  have hvs := vS_ok hw hs
  have ub : ∀ c w, uS v sp t c w → c < cn v 0 ∧ w ≤ vT v sp := fun c w h => uS_b hw hs h
  refine Ec.of (Nat.le_of_ble_eq_true rfl) ?_
  refine e_ipush rfl ?_
  refine e_istore rfl ?_
  refine e_aload rfl rfl ?_
  refine e_getR rfl p0x r7x ?_
  refine e_ipush rfl ?_
  refine Eg.c2 rfl (by decide) (by decide) rfl (Nat.le_of_ble_eq_true rfl) (xrcv_ofs (Or.inl rfl)) ((cs_fill (n := 12) sb (by decide)).mono (by decide)) (fun r1x h1x hq => ?_)
  obtain ⟨rfl, J0x, rfl, f1x, f2x⟩ := hq
  refine e_ipush rfl ?_
  refine e_istore rfl ?_
  refine Eg.pk [0, 1, 2] [2, 1, 0] rfl (by decide) ?_
  refine up_ind (p := fun c => ∀ (J : Nat → Nat → Int32) (x : Int32), TM J qb (MSo v sp t c 0) → aN (MSo v sp t c 0) x → (∀ i k, i ≠ qb → J i k = I i k) → Eg X xTc 2 60 12 [(0, .ref 250), (1, .int x), (2, .int (nI c))] [] (sh, J, L, R) (fun r h' => ∃ x, r = some (.int x) ∧ ∃ J : Nat → Nat → Int32, h' = (sh, J, L, (xu (xu R 250 6 (some qb)) 250 7 (some qa))) ∧ TM J qb (uS v sp (t + 1)) ∧ aN (uS v sp (t + 1)) x ∧ ∀ i k, i ≠ qb → J i k = I i k)) (n := cn v 0) (j := 0) (fun c hc ih J x k1x k2x k3x => ?_) (fun J x k1x k2x k3x => ?_) (Nat.zero_le _) J0x 0 ((TM.no f1x).iff (fun a b _ => MS_0)) (Or.inl ⟨rfl, fun a b q => MS_0.mpr q⟩) f2x
  · have hXJ : CX sh J R m s v sp qa qb qc qd := hX0x.fr (fun i k q => k3x i k (by omega))
    have gp : PH J v t := hp.fr (fun i k q1x q2x => k3x i k (by omega))
    have inner : ∀ y, y < 30 → (∃ w1x, uS v sp t c w1x ∧ (w1x = y + 1 ∨ 0 < vpr v t c ∧ vT v sp = y + 1)) → (∀ w1x b, uS v sp t c w1x → (w1x = b + 1 ∨ 0 < vpr v t c ∧ vT v sp = b + 1) → b ≤ y) → Eg X xTc 2 60 62 [(0, .ref 250), (1, .int x), (2, .int (nI c)), (3, .int (nI (y + 1))), (4, .int (wy 0))] [] (sh, J, L, R) (fun r h' => ∃ x, r = some (.int x) ∧ ∃ J : Nat → Nat → Int32, h' = (sh, J, L, (xu (xu R 250 6 (some qb)) 250 7 (some qa))) ∧ TM J qb (uS v sp (t + 1)) ∧ aN (uS v sp (t + 1)) x ∧ ∀ i k, i ≠ qb → J i k = I i k) := by
      intro y hy y1x y2x
      refine up_ind (p := fun j => ∀ (K : Nat → Nat → Int32) (z : Int32), TM K qb (MSo v sp t c j) → aN (MSo v sp t c j) z → (∀ i k, i ≠ qb → K i k = I i k) → Eg X xTc 2 60 62 [(0, .ref 250), (1, .int z), (2, .int (nI c)), (3, .int (nI (y + 1))), (4, .int (wy j))] [] (sh, K, L, R) (fun r h' => ∃ x, r = some (.int x) ∧ ∃ J : Nat → Nat → Int32, h' = (sh, J, L, (xu (xu R 250 6 (some qb)) 250 7 (some qa))) ∧ TM J qb (uS v sp (t + 1)) ∧ aN (uS v sp (t + 1)) x ∧ ∀ i k, i ≠ qb → J i k = I i k)) (n := 3) (j := 0) (fun j hj ik K z m1x m2x m3x => ?_) (fun K z m1x m2x m3x => ?_) (Nat.zero_le _) J x k1x k2x k3x
      · have hXK : CX sh K R m s v sp qa qb qc qd := hX0x.fr (fun i k q => m3x i k (by omega))
        have gp : PH K v t := hp.fr (fun i k q1x q2x => m3x i k (by omega))
        refine e_iload rfl rfl ?_
        refine e_ifle_f rfl (fun q => absurd ((nI_le0 (by omega)).mp q) (by omega)) ?_
        refine e_iload rfl rfl ?_
        refine e_ipush rfl ?_
        refine e_cgt_f rfl (fun q => absurd ((wy_lt (a := 2) (by decide) (by omega)).mp q) (by omega)) ?_
        refine e_aload rfl rfl ?_
        refine e_iload rfl rfl ?_
        refine e_iload rfl rfl ?_
        refine Eg.p3 rfl (by decide) (by decide) rfl (Nat.le_of_ble_eq_true rfl) (xrcv_of rfl p0x rfl) ((cs_canPass hXK hw gp hs (c := c) (j := j) hc hj).mono (by decide)) ?_
        refine e_ifeq_b rfl (fun b79x => ?_) (fun b79x => ?_)
        · replace b79x := yn_0.mp b79x
          refine e_iinc rfl rfl ?_
          refine e_goto rfl ?_
          refine Eg.pk [0, 1, 2, 3, 4] [4, 0, 1, 2, 3] rfl (by decide) ?_
          rw [wy_1]
          exact ik K z (m1x.iff (fun a b _ => MS_n b79x)) (m2x.iff (fun a b => MS_n b79x)) m3x
        · replace b79x := yn_n0.mp b79x
          have cj : 1 ≤ c + j ∧ c + j ≤ cn v 0 := by rcases of_decide_eq_true b79x with r | r; omega; exact r.1
          have ew : nI (c + j) - 1 = nI (c + j - 1) := nI_sub (b := 1) cj.1
          refine e_aload rfl rfl ?_
          refine e_getR rfl p0x r7x ?_
          refine e_iload rfl rfl ?_
          refine e_iload rfl rfl ?_
          refine e_iadd rfl ?_
          rw [show (nI c) + (wy j) = nI (c + j - 1) from wy_c.trans ew]
          refine e_aload rfl rfl ?_
          refine e_getR rfl p0x r7x ?_
          refine e_iload rfl rfl ?_
          refine e_iload rfl rfl ?_
          refine e_iadd rfl ?_
          rw [show (nI c) + (wy j) = nI (c + j - 1) from wy_c.trans ew]
          refine e_ialv (t := c + j - 1) (n := 12) rfl sb rfl (by omega) (by decide) rfl ?_
          refine e_iload rfl rfl ?_
          refine e_ipush rfl ?_
          refine e_isub rfl ?_
          rw [show (nI (y + 1)) - (1 : Int32) = nI y from nI_sub (a := y + 1) (b := 1) (by omega)]
          refine e_max rfl (Nat.le_of_ble_eq_true rfl) ?_
          refine e_iasJ (t := c + j - 1) (n := 12) rfl sb rfl (by omega) (by decide) (fun J21x g21x f21x => ?_)
          refine e_ipush rfl ?_
          refine e_istore rfl ?_
          refine e_iinc rfl rfl ?_
          refine e_goto rfl ?_
          refine Eg.pk [0, 1, 2, 3, 4] [4, 1, 0, 2, 3] rfl (by decide) ?_
          rw [wy_1]
          exact ik J21x 1 (MS_y hj b79x cj.1 y1x y2x (m1x.put (c := c + j - 1) (y := y) (by omega) (by omega) g21x (fun k q => f21x qb k (Or.inr q)))) (Or.inr rfl) (fun i k q => (f21x i k (Or.inl q)).trans (m3x i k q))
      · refine e_iload rfl rfl ?_
        refine e_ifle_f rfl (fun q => absurd ((nI_le0 (by omega)).mp q) (by omega)) ?_
        refine e_iload rfl rfl ?_
        refine e_ipush rfl ?_
        refine e_cgt_t rfl (by decide) ?_
        refine e_iinc rfl rfl ?_
        refine e_goto rfl ?_
        refine Eg.pk [0, 1, 2] [2, 0, 1, 3, 4] rfl (by decide) ?_
        rw [nI_1]
        exact ih K z (m1x.iff (fun a b _ => MS_row)) (m2x.iff (fun a b => MS_row)) m3x
    have vb := vpr_le hw (t := t) (c := c)
    rcases hT c (by omega) with ⟨e1x, e2x⟩ | ⟨w0x, e1x, e2x, e3x, e4x⟩
    · have ex : J qa c = -1 := (k3x qa c (by omega)).trans e1x
      refine e_iload rfl rfl ?_
      refine e_aload rfl rfl ?_
      refine e_getR rfl p0x pm ?_
      refine e_getR rfl hM.1 hms ?_
      refine e_getIv rfl hS.1 (hXJ.2.1.2.2.2.1.1 0 (by decide)) ?_
      refine e_cge_f rfl (nI_ge hc (by omega)) ?_
      refine e_aload rfl rfl ?_
      refine e_getR rfl p0x r6x ?_
      refine e_iload rfl rfl ?_
      refine e_ialv (t := c) (n := 12) rfl sa rfl (by omega) (by decide) ex ?_
      refine e_ipush rfl ?_
      refine e_ceq_t rfl rfl ?_
      refine e_aload rfl rfl ?_
      refine e_getR rfl p0x r6x ?_
      refine e_iload rfl rfl ?_
      refine e_ialv (t := c) (n := 12) rfl sa rfl (by omega) (by decide) ex ?_
      refine e_istore rfl ?_
      refine e_ipush rfl ?_
      refine e_istore rfl ?_
      refine e_iload rfl rfl ?_
      refine e_ifle_t rfl (by decide) ?_
      refine e_iinc rfl rfl ?_
      refine e_goto rfl ?_
      refine Eg.pk [0, 1, 2] [2, 4, 3, 0, 1] rfl (by decide) ?_
      rw [nI_1]
      exact ih J x (k1x.iff (fun a b _ => MS_skip (fun w1x b q _ => e2x w1x q))) (k2x.iff (fun a b => MS_skip (fun w1x b q _ => e2x w1x q))) k3x
    · have ex : J qa c = nI w0x := (k3x qa c (by omega)).trans e2x
      have wb := (ub _ _ e3x).2
      refine e_iload rfl rfl ?_
      refine e_aload rfl rfl ?_
      refine e_getR rfl p0x pm ?_
      refine e_getR rfl hM.1 hms ?_
      refine e_getIv rfl hS.1 (hXJ.2.1.2.2.2.1.1 0 (by decide)) ?_
      refine e_cge_f rfl (nI_ge hc (by omega)) ?_
      refine e_aload rfl rfl ?_
      refine e_getR rfl p0x r6x ?_
      refine e_iload rfl rfl ?_
      refine e_ialv (t := c) (n := 12) rfl sa rfl (by omega) (by decide) ex ?_
      refine e_ipush rfl ?_
      refine e_ceq_f rfl (nI_m1' (by omega)) ?_
      refine e_aload rfl rfl ?_
      refine e_getR rfl p0x p3x.2 ?_
      refine e_iload rfl rfl ?_
      refine e_ialv (t := c) (n := 12) rfl p3x.1 rfl (by omega) (by decide) (gp c (by omega)).2.2 ?_
      refine e_ifle_b rfl (fun b42x => ?_) (fun b42x => ?_)
      · refine e_aload rfl rfl ?_
        refine e_getR rfl p0x r6x ?_
        refine e_iload rfl rfl ?_
        refine e_ialv (t := c) (n := 12) rfl sa rfl (by omega) (by decide) ex ?_
        refine e_istore rfl ?_
        refine e_ipush rfl ?_
        refine e_istore rfl ?_
        refine Eg.pk [0, 1, 2, 3, 4] [4, 3, 0, 1, 2] rfl (by decide) ?_
        have p0' : vpr v t c = 0 := (nI_le0 (by omega)).mp b42x
        by_cases wz : w0x = 0
        · refine e_iload rfl rfl ?_
          refine e_ifle_t rfl (by rw [wz]; decide) ?_
          refine e_iinc rfl rfl ?_
          refine e_goto rfl ?_
          refine Eg.pk [0, 1, 2] [2, 0, 1, 3, 4] rfl (by decide) ?_
          rw [nI_1]
          exact ih J x (k1x.iff (fun a b _ => MS_skip (fun w1x b q r => by have q1x := e4x w1x q; omega))) (k2x.iff (fun a b => MS_skip (fun w1x b q r => by have q1x := e4x w1x q; omega))) k3x
        · have z := inner (w0x - 1) (by omega) ⟨w0x, e3x, Or.inl (by omega)⟩ (fun w1x b q r => by have q1x := e4x _ q; omega)
          rw [show w0x - 1 + 1 = w0x by omega] at z
          exact z
      · refine e_aload rfl rfl ?_
        refine e_getIv rfl p0x hXJ.2.2.2.2 ?_
        refine e_goto rfl ?_
        refine e_istore rfl ?_
        refine e_ipush rfl ?_
        refine e_istore rfl ?_
        refine Eg.pk [0, 1, 2, 3, 4] [4, 3, 0, 1, 2] rfl (by decide) ?_
        have pp : 0 < vpr v t c := Decidable.byContradiction (fun q => b42x ((nI_le0 (by omega)).mpr (by omega)))
        have z := inner (vT v sp - 1) (by omega) ⟨w0x, e3x, Or.inr ⟨pp, by omega⟩⟩ (fun w1x b q r => by have q1x := (ub _ _ q).2; omega)
        rw [show vT v sp - 1 + 1 = vT v sp by omega] at z
        exact z
  · have hXJ : CX sh J R m s v sp qa qb qc qd := hX0x.fr (fun i k q => k3x i k (by omega))
    have gp : PH J v t := hp.fr (fun i k q1x q2x => k3x i k (by omega))
    have x01x : x = 0 ∨ x = 1 := k2x.elim (fun q => Or.inl q.1) Or.inr
    refine e_iload rfl rfl ?_
    refine e_aload rfl rfl ?_
    refine e_getR rfl p0x pm ?_
    refine e_getR rfl hM.1 hms ?_
    refine e_getIv rfl hS.1 (hXJ.2.1.2.2.2.1.1 0 (by decide)) ?_
    refine e_cge_t rfl (Int32.le_refl _) ?_
    refine e_aload rfl rfl ?_
    refine e_getR rfl p0x r6x ?_
    refine e_astore rfl ?_
    refine e_aload rfl rfl ?_
    refine e_aload rfl rfl ?_
    refine e_getR rfl p0x r7x ?_
    refine e_putR rfl p0x ?_
    refine e_aload rfl rfl ?_
    refine e_aload rfl rfl ?_
    refine e_putR rfl p0x ?_
    refine e_iload rfl rfl ?_
    exact Eg.retZ rfl x01x ⟨x, rfl, J, rfl, k1x.iff (fun a b _ => MS_all (fun c w q => (ub c w q).1)), k2x.iff (fun a b => MS_all (fun c w q => (ub c w q).1)), k3x⟩
theorem cs_soonest (hP : PA sh R qa qb qc qd) (hX : MX sh I R m s v) (hw : Wf v) (hs : sp < cn v 4) {to : Nat} (hto : to < cn v 0) : Ec X 5 55 [.ref 250, .ref m, .int (nI sp), .int (nI to)] (sh, I, L, R) (fun r h' => ∃ x, r = some (.int x) ∧ ((x = -1 ∧ ∀ t, t ≤ 300 → ∀ w, ¬ uS v sp t to w) ∨ ∃ t, t ≤ 300 ∧ x = nI t ∧ (∃ w, uS v sp t to w) ∧ ∀ t', t' < t → ∀ w, ¬ uS v sp t' to w) ∧ ∃ (J : Nat → Nat → Int32) (R' : Nat → Nat → Option Nat) (a b : Nat), h' = (sh, J, L, R') ∧ PA sh R' a b qc qd ∧ (∀ i k, i < 250 ∨ 257 < i → J i k = I i k) ∧ (∀ i k, i ≠ 250 → R' i k = R i k)) := by
  have hb := hw.1.2
  have hvs := vS_ok hw hs
  have p0x := hP.1
  refine Ec.of (Nat.le_of_ble_eq_true rfl) ?_
  refine e_aload rfl rfl ?_
  refine e_aload rfl rfl ?_
  refine e_iload rfl rfl ?_
  refine Eg.c3 rfl (by decide) (by decide) rfl (Nat.le_of_ble_eq_true rfl) (xrcv_of rfl p0x rfl) ((cs_start hP hX hw hs).mono (by decide)) (fun r1x h1x hq => ?_)
  obtain ⟨rfl, J1x, rfl, c1x, c2x, c3x⟩ := hq
  have eR1x : ∀ i k, i ≠ 250 → xu R 250 0 (some m) i k = R i k := fun i k q => xu_o (Or.inl q)
  generalize xu R 250 0 (some m) = R1x at c1x eR1x ⊢
  obtain ⟨⟨_, p1x, p2x, p3x, ⟨sa, r6x⟩, ⟨sb, r7x⟩, ⟨sc, r8x⟩, ⟨sd, r9x⟩, qab, qcd⟩, hMX, pm, i1x, i2x⟩ := id c1x
  obtain ⟨hM, hms, hS, hV, hW, dm, ds⟩ := id hMX
  refine e_aload rfl rfl ?_
  refine e_getR rfl p0x r6x ?_
  refine e_ipush rfl ?_
  refine Eg.c2 rfl (by decide) (by decide) rfl (Nat.le_of_ble_eq_true rfl) (xrcv_ofs (Or.inl rfl)) ((cs_fill (n := 12) sa (by decide)).mono (by decide)) (fun r1x h1x hq => ?_)
  obtain ⟨rfl, J2x, rfl, f1x, f2x⟩ := hq
  have c4x : CX sh J2x R1x m s v sp qa qb qc qd := c1x.fr (fun i k q => f2x i k (by omega))
  refine e_aload rfl rfl ?_
  refine e_getR rfl p0x r6x ?_
  refine e_aload rfl rfl ?_
  refine e_getR rfl p0x pm ?_
  refine e_getR rfl hM.1 (hM.2 0 _ rfl).2 ?_
  refine e_aload rfl rfl ?_
  refine e_getIv rfl p0x c4x.2.2.2.1 ?_
  refine e_ialv (t := sp) (n := 4) rfl (hM.2 0 _ rfl).1 rfl (by omega) (by decide) ((c4x.2.1.2.2.2.2.1.2.2.1 sp hs).1.trans hvs.1) ?_
  refine e_aload rfl rfl ?_
  refine e_getR rfl p0x pm ?_
  refine e_getR rfl hM.1 (hM.2 1 _ rfl).2 ?_
  refine e_aload rfl rfl ?_
  refine e_getIv rfl p0x c4x.2.2.2.1 ?_
  refine e_ialv (t := sp) (n := 4) rfl (hM.2 1 _ rfl).1 rfl (by omega) (by decide) ((c4x.2.1.2.2.2.2.1.2.2.1 sp hs).2.1.trans hvs.2.2.1) ?_
  refine e_iasJ (t := vC v sp) (n := 12) rfl sa rfl (by omega) (by decide) (fun J61x g61x f61x => ?_)
  refine e_ipush rfl ?_
  refine e_istore rfl ?_
  refine Eg.pk [0, 1, 2, 3, 4] [4, 0, 1, 2, 3] rfl (by decide) ?_
  have c5x : CX sh J61x R1x m s v sp qa qb qc qd := c4x.fr (fun i k q => f61x i k (by omega))
  have tm0x : TM J61x qa (uS v sp 0) := fun c hc => by by_cases e : c = vC v sp; subst e; rw [g61x]; exact Or.inr ⟨vW v sp, by omega, rfl, uS_0.mpr ⟨rfl, rfl⟩, fun w' q => Nat.le_of_eq (uS_0.mp q).2⟩; rw [f61x qa c (Or.inr e)]; exact Or.inl ⟨f1x c hc, fun w q => e (uS_0.mp q).1⟩
  have t20x : ∀ c, c < cn v 0 → J61x 252 c = vH v 0 c := fun c hc => (f61x 252 c (Or.inl (by omega))).trans ((f2x 252 c (by omega)).trans (c2x c hc))
  have fr0x : (∀ i k, i < 250 ∨ 257 < i → J61x i k = I i k) := fun i k q => (f61x i k (by omega)).trans ((f2x i k (by omega)).trans (c3x i k q))
  clear r6x r7x r8x r9x sa sb sc sd p1x p2x p3x hMX pm i1x i2x hM hms hS hV hW f1x f2x c1x c2x c3x c4x
  generalize qa = ya at c5x tm0x
  generalize qb = yb at c5x
  refine up_ind (p := fun t => ∀ (J : Nat → Nat → Int32) (R2x : Nat → Nat → Option Nat) (qa qb : Nat), CX sh J R2x m s v sp qa qb qc qd → TM J qa (uS v sp t) → (∀ c, c < cn v 0 → J 252 c = vH v t c) → (∀ t', t' < t → ∀ w, ¬ uS v sp t' to w) → (∀ i k, i < 250 ∨ 257 < i → J i k = I i k) → (∀ i k, i ≠ 250 → R2x i k = R i k) → Eg X xTc 4 55 46 [(0, .ref 250), (1, .ref m), (2, .int (nI sp)), (3, .int (nI to)), (4, .int (nI t))] [] (sh, J, L, R2x) (fun r h' => ∃ x, r = some (.int x) ∧ ((x = -1 ∧ ∀ t, t ≤ 300 → ∀ w, ¬ uS v sp t to w) ∨ ∃ t, t ≤ 300 ∧ x = nI t ∧ (∃ w, uS v sp t to w) ∧ ∀ t', t' < t → ∀ w, ¬ uS v sp t' to w) ∧ ∃ (J : Nat → Nat → Int32) (R' : Nat → Nat → Option Nat) (a b : Nat), h' = (sh, J, L, R') ∧ PA sh R' a b qc qd ∧ (∀ i k, i < 250 ∨ 257 < i → J i k = I i k) ∧ (∀ i k, i ≠ 250 → R' i k = R i k))) (n := 300) (j := 0) (fun t ht ih J R2x qa qb k1x k2x k3x k4x k5x k6x => ?_) (fun J R2x qa qb k1x k2x k3x k4x k5x k6x => ?_) (Nat.zero_le _) J61x R1x ya yb c5x tm0x t20x (fun t' q => absurd q (by omega)) fr0x eR1x
  · obtain ⟨⟨_, p1x, p2x, p3x, ⟨sa, r6x⟩, ⟨sb, r7x⟩, ⟨sc, r8x⟩, ⟨sd, r9x⟩, qab, qcd⟩, hMX, pm, i1x, i2x⟩ := id k1x
    obtain ⟨hM, hms, hS, hV, hW, dm, ds⟩ := id hMX
    rcases k2x to (by omega) with ⟨e1x, e2x⟩ | ⟨w0x, e1x, e2x, e3x, e4x⟩
    · skip
      refine e_iload rfl rfl ?_
      refine e_ipush rfl ?_
      refine e_cge_f rfl (nI_ge (b := 300) ht (by decide)) ?_
      refine e_aload rfl rfl ?_
      refine e_getR rfl p0x r6x ?_
      refine e_iload rfl rfl ?_
      refine e_ialv (t := to) (n := 12) rfl sa rfl (by omega) (by decide) e1x ?_
      refine e_ipush rfl ?_
      refine e_ceq_t rfl rfl ?_
      refine e_aload rfl rfl ?_
      refine e_aload rfl rfl ?_
      refine e_getR rfl p0x pm ?_
      refine e_getIv rfl hM.1 k1x.2.1.2.2.2.2.1.1 ?_
      refine e_iload rfl rfl ?_
      refine e_iadd rfl ?_
      rw [show (nI (cn v 7)) + (nI t) = nI (cn v 7 + t) from nI_add _ _]
      refine Eg.c2 rfl (by decide) (by decide) rfl (Nat.le_of_ble_eq_true rfl) (xrcv_of rfl p0x rfl) ((cs_lookAt k1x hw k3x).mono (by decide)) (fun r1x h1x hq => ?_)
      obtain ⟨rfl, J3x, rfl, l1x, l2x⟩ := hq
      have k7x : CX sh J3x R2x m s v sp qa qb qc qd := k1x.fr (fun i k q => l2x i k (by omega) (by omega) (by omega))
      have k8x : TM J3x qa (uS v sp t) := k2x.fr (fun k => l2x qa k (by omega) (by omega) (by omega))
      refine e_aload rfl rfl ?_
      refine Eg.c1 rfl (by decide) (by decide) rfl (Nat.le_of_ble_eq_true rfl) (xrcv_of rfl p0x rfl) ((cs_passMost k7x hw l1x hs k8x).mono (by decide)) (fun r1x h1x hq => ?_)
      obtain ⟨x, rfl, J4x, rfl, m1x, m2x, m3x⟩ := hq
      refine e_ifne_b rfl (fun b85x => ?_) (fun b85x => ?_)
      · refine e_iinc rfl rfl ?_
        refine e_goto rfl ?_
        refine Eg.pk [0, 1, 2, 3, 4] [4, 0, 1, 2, 3] rfl (by decide) ?_
        rw [nI_1]
        exact ih J4x _ qb qa (k7x.sw6.fr (fun i k q => m3x i k (by omega))) m1x (fun c hc => (m3x 252 c (by omega)).trans (l1x c hc).2.1) (fun t' q w r => by by_cases e : t' = t; rw [e] at r; exact e2x w r; exact k4x t' (by omega) w r) (fun i k q => (m3x i k (by omega)).trans ((l2x i k (by omega) (by omega) (by omega)).trans (k5x i k q))) (fun i k q => by rw [xu_o (Or.inl q), xu_o (Or.inl q)]; exact k6x i k q)
      · refine e_ipush rfl ?_
        have nn : ∀ a b, ¬ uS v sp (t + 1) a b := m2x.elim (fun q => q.2) (fun q => absurd b85x (by rw [q]; decide))
        exact Eg.ret rfl (by decide) rfl ⟨_, rfl, Or.inl ⟨rfl, fun t' q w r => by rcases Nat.lt_trichotomy t' t with e | e | e; exact k4x t' e w r; rw [e] at r; exact e2x w r; obtain ⟨n, en⟩ : ∃ n, t' = t + 1 + n := ⟨t' - (t + 1), by omega⟩; rw [en] at r; exact uS_none nn n _ _ r⟩, J4x, _, qb, qa, rfl, k7x.sw6.1, (fun i k q => (m3x i k (by omega)).trans ((l2x i k (by omega) (by omega) (by omega)).trans (k5x i k q))), (fun i k q => by rw [xu_o (Or.inl q), xu_o (Or.inl q)]; exact k6x i k q)⟩
    · skip
      refine e_iload rfl rfl ?_
      refine e_ipush rfl ?_
      refine e_cge_f rfl (nI_ge (b := 300) ht (by decide)) ?_
      refine e_aload rfl rfl ?_
      refine e_getR rfl p0x r6x ?_
      refine e_iload rfl rfl ?_
      refine e_ialv (t := to) (n := 12) rfl sa rfl (by omega) (by decide) e2x ?_
      refine e_ipush rfl ?_
      refine e_ceq_f rfl (nI_m1' (by omega)) ?_
      refine e_iload rfl rfl ?_
      exact Eg.ret rfl (by decide) rfl ⟨_, rfl, Or.inr ⟨t, by omega, rfl, ⟨w0x, e3x⟩, k4x⟩, J, R2x, qa, qb, rfl, k1x.1, k5x, k6x⟩
  · obtain ⟨⟨_, p1x, p2x, p3x, ⟨sa, r6x⟩, ⟨sb, r7x⟩, ⟨sc, r8x⟩, ⟨sd, r9x⟩, qab, qcd⟩, hMX, pm, i1x, i2x⟩ := id k1x
    obtain ⟨hM, hms, hS, hV, hW, dm, ds⟩ := id hMX
    rcases k2x to (by omega) with ⟨e1x, e2x⟩ | ⟨w0x, e1x, e2x, e3x, e4x⟩
    · skip
      refine e_iload rfl rfl ?_
      refine e_ipush rfl ?_
      refine e_cge_t rfl (Int32.le_refl _) ?_
      refine e_aload rfl rfl ?_
      refine e_getR rfl p0x r6x ?_
      refine e_iload rfl rfl ?_
      refine e_ialv (t := to) (n := 12) rfl sa rfl (by omega) (by decide) e1x ?_
      refine e_ipush rfl ?_
      refine e_ceq_t rfl rfl ?_
      refine e_ipush rfl ?_
      exact Eg.ret rfl (by decide) rfl ⟨_, rfl, Or.inl ⟨rfl, fun t' q w r => by by_cases e : t' = 300; rw [e] at r; exact e2x w r; exact k4x t' (by omega) w r⟩, J, R2x, qa, qb, rfl, k1x.1, k5x, k6x⟩
    · skip
      refine e_iload rfl rfl ?_
      refine e_ipush rfl ?_
      refine e_cge_t rfl (Int32.le_refl _) ?_
      refine e_aload rfl rfl ?_
      refine e_getR rfl p0x r6x ?_
      refine e_iload rfl rfl ?_
      refine e_ialv (t := to) (n := 12) rfl sa rfl (by omega) (by decide) e2x ?_
      refine e_ipush rfl ?_
      refine e_ceq_f rfl (nI_m1' (by omega)) ?_
      refine e_ipush rfl ?_
      refine e_goto rfl ?_
      exact Eg.ret rfl (by decide) rfl ⟨_, rfl, Or.inr ⟨300, by omega, rfl, ⟨w0x, e3x⟩, k4x⟩, J, R2x, qa, qb, rfl, k1x.1, k5x, k6x⟩
end VC2x
