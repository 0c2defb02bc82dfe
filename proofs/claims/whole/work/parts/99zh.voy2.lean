/-! voyage: the other side, tables -/
section VM1x
variable {X : xX} {h : xH} {sh : List (Nat × Nat)} {I : Nat → Nat → Int32} {L : Nat → Nat → Int64} {R : Nat → Nat → Option Nat} {v : Nat → Nat → Int32}
theorem wy_lt {a b : Nat} (ha : a < 4) (hb : b < 4) : wy a < wy b ↔ a < b := by
  have h : (List.range 4).all (fun a => (List.range 4).all (fun b => decide (wy a < wy b ↔ a < b))) = true := by decide +kernel
  exact of_decide_eq_true (rgA (rgA h ha) hb)
theorem wy_0 {a : Nat} (ha : a < 4) : wy a = 0 ↔ a = 1 := by
  have h : (List.range 4).all (fun a => decide (wy a = 0 ↔ a = 1)) = true := by decide +kernel
  exact of_decide_eq_true (rgA h ha)
theorem wy_1 {j : Nat} : wy j + 1 = wy (j + 1) := by unfold wy; rw [← nI_1]; grind
theorem wy_c {c j : Nat} : nI c + wy j = nI (c + j) - 1 := by unfold wy; rw [← nI_add]; grind
theorem wc_cell {n a : Nat} (hn : n < 1000) (ha : a < 1000) : ¬ (nI a - 1 < 0 ∨ nI n ≤ nI a - 1) ↔ 1 ≤ a ∧ a ≤ n := by
  by_cases h : a = 0
  · subst h
    constructor
    · intro q; exact absurd (Or.inl (by decide)) q
    · intro q; omega
  · rw [show nI a - 1 = nI (a - 1) from nI_sub (b := 1) (by omega), nI_lei (by omega) (by omega)]
    constructor
    · intro q; exact ⟨by omega, Decidable.byContradiction (fun r => q (Or.inr (by omega)))⟩
    · rintro ⟨q1x, q2x⟩ (r | r)
      · exact nI_pos (by omega) r
      · omega
def AS (v : Nat → Nat → Int32) (sp t jl j c w k a b q : Nat) : Prop := ∃ i, jl ≤ i ∧ i < j ∧ vgo v sp t c i = true ∧ a + 1 = c + i ∧ w = b + 1 ∧ q = k
theorem AS_y {sp t jl j c w k a b q : Nat} {P : Prop} (go : vgo v sp t c j = true) (hl : jl ≤ j) (h1x : 1 ≤ w) (h2x : 1 ≤ c + j) : ((P ∨ AS v sp t jl j c w k a b q) ∨ a = c + j - 1 ∧ b = w - 1 ∧ q = k) ↔ P ∨ AS v sp t jl (j + 1) c w k a b q := by
  constructor
  · rintro ((h | ⟨i, h⟩) | h)
    · exact Or.inl h
    · exact Or.inr ⟨i, h.1, by omega, h.2.2⟩
    · exact Or.inr ⟨j, hl, by omega, go, by omega, by omega, h.2.2⟩
  · rintro (h | ⟨i, h3x, h4x, h5x, h6x, h7x, h8x⟩)
    · exact Or.inl (Or.inl h)
    · by_cases e : i = j
      · subst e; exact Or.inr ⟨by omega, by omega, h8x⟩
      · exact Or.inl (Or.inr ⟨i, h3x, by omega, h5x, h6x, h7x, h8x⟩)
theorem AS_n {sp t jl j c w k a b q : Nat} {P : Prop} (go : ¬ vgo v sp t c j = true) : (P ∨ AS v sp t jl j c w k a b q) ↔ P ∨ AS v sp t jl (j + 1) c w k a b q := by
  constructor
  · rintro (h | ⟨i, h⟩)
    · exact Or.inl h
    · exact Or.inr ⟨i, h.1, by omega, h.2.2⟩
  · rintro (h | ⟨i, h3x, h4x, h5x, h6x⟩)
    · exact Or.inl h
    · by_cases e : i = j
      · subst e; exact absurd h5x go
      · exact Or.inr ⟨i, h3x, by omega, h5x, h6x⟩
theorem AS_w {sp t jl jh j c w k a b q : Nat} {P : Prop} (h0x : w = 0) : (P ∨ AS v sp t jl j c w k a b q) ↔ P ∨ AR v sp t jl jh c w k a b q := by
  constructor
  · rintro (h | ⟨i, h⟩)
    · exact Or.inl h
    · omega
  · rintro (h | ⟨i, h⟩)
    · exact Or.inl h
    · omega
theorem AS_e {sp t jl jh c w k a b q : Nat} {P : Prop} : (P ∨ AS v sp t jl (jh + 1) c w k a b q) ↔ P ∨ AR v sp t jl jh c w k a b q := by
  constructor
  · rintro (h | ⟨i, h⟩)
    · exact Or.inl h
    · exact Or.inr ⟨i, h.1, by omega, h.2.2⟩
  · rintro (h | ⟨i, h⟩)
    · exact Or.inl h
    · exact Or.inr ⟨i, h.1, by omega, h.2.2⟩
theorem AS_0 {sp t jl c w k a b q : Nat} {P : Prop} : P ↔ P ∨ AS v sp t jl jl c w k a b q := ⟨Or.inl, fun h => by rcases h with h | ⟨i, h⟩; exact h; omega⟩
def EU (E : Nat → Nat → Nat → Prop) (l : Nat → Nat → Nat → Nat → Nat → Nat → Prop) (c w a b q : Nat) : Prop := ∃ c1x w1x k1x, (c1x < c ∨ c1x = c ∧ w1x < w) ∧ E c1x w1x k1x ∧ l c1x w1x k1x a b q
section EUs
variable {E : Nat → Nat → Nat → Prop} {l : Nat → Nat → Nat → Nat → Nat → Nat → Prop} {c w a b q : Nat}
theorem EU_0 : False ↔ EU E l 0 0 a b q := ⟨fun h => h.elim, fun ⟨_, _, _, h, _⟩ => by omega⟩
theorem EU_no (h : ∀ k, ¬ E c w k) : EU E l c w a b q ↔ EU E l c (w + 1) a b q := by
  constructor
  · rintro ⟨c1x, w1x, k1x, h1x, h2x⟩; exact ⟨c1x, w1x, k1x, by omega, h2x⟩
  · rintro ⟨c1x, w1x, k1x, h1x, h2x⟩
    refine ⟨c1x, w1x, k1x, ?_, h2x⟩
    apply Decidable.byContradiction
    intro r
    have e1x : c1x = c := by omega
    have e2x : w1x = w := by omega
    subst e1x; subst e2x
    exact h k1x h2x.1
theorem EU_yes {inf p x : Nat} {J : Nat → Nat → Int32} (ht : tab inf (E c w) x) (hx : x < inf) (hm : ∀ k a b q, x ≤ k → l c w k a b q → ∃ q0x, q0x ≤ q ∧ l c w x a b q0x) (h : TB inf J p (fun a b q => EU E l c w a b q ∨ l c w x a b q)) : TB inf J p (EU E l c (w + 1)) := by
  refine h.dom (fun a b q r => ?_) (fun a b q r => ?_)
  · rcases r with ⟨c1x, w1x, k1x, h1x, h2x⟩ | r
    · exact ⟨c1x, w1x, k1x, by omega, h2x⟩
    · exact ⟨c, w, x, by omega, ht.2.1 hx, r⟩
  · obtain ⟨c1x, w1x, k1x, h1x, h2x, h3x⟩ := r
    by_cases e : c1x = c ∧ w1x = w
    · obtain ⟨rfl, rfl⟩ := e
      obtain ⟨q0x, q1x, q2x⟩ := hm k1x a b q (ht.2.2 _ h2x) h3x
      exact ⟨q0x, q1x, Or.inr q2x⟩
    · exact ⟨q, Nat.le_refl _, Or.inl ⟨c1x, w1x, k1x, by omega, h2x, h3x⟩⟩
theorem EU_row {T : Nat} (h : ∀ c w k, E c w k → w ≤ T) : EU E l c (T + 1) a b q ↔ EU E l (c + 1) 0 a b q := by
  constructor
  · rintro ⟨c1x, w1x, k1x, h1x, h2x⟩; exact ⟨c1x, w1x, k1x, by omega, h2x⟩
  · rintro ⟨c1x, w1x, k1x, h1x, h2x⟩; have := h _ _ _ h2x.1; exact ⟨c1x, w1x, k1x, by omega, h2x⟩
theorem EU_all {n : Nat} (h : ∀ c w k, E c w k → c < n) : EU E l n 0 a b q ↔ ∃ c1x w1x k1x, E c1x w1x k1x ∧ l c1x w1x k1x a b q := by
  constructor
  · rintro ⟨c1x, w1x, k1x, h1x, h2x⟩; exact ⟨c1x, w1x, k1x, h2x⟩
  · rintro ⟨c1x, w1x, k1x, h2x⟩; have := h _ _ _ h2x.1; exact ⟨c1x, w1x, k1x, by omega, h2x⟩
end EUs
theorem AR_mono {sp t jl jh c w k x a b q : Nat} (hx : x ≤ k) (h : AR v sp t jl jh c w k a b q) : ∃ q0x, q0x ≤ q ∧ AR v sp t jl jh c w x a b q0x := by
  obtain ⟨j, h1x, h2x, h3x, h4x, h5x, h6x⟩ := h
  exact ⟨x, by omega, j, h1x, h2x, h3x, h4x, h5x, rfl⟩
theorem Lv_mono {sp u t jl jh c w k x a b q : Nat} {A F : Prop} (hx : x ≤ k) (h : Lv v sp u t A F jl jh c w k a b q) : ∃ q0x, q0x ≤ q ∧ Lv v sp u t A F jl jh c w x a b q0x := by
  rcases h with ⟨h1x, h2x⟩ | ⟨h1x, h2x, h3x⟩
  · obtain ⟨q0x, q1x, q2x⟩ := AR_mono hx h2x
    exact ⟨q0x, q1x, Or.inl ⟨h1x, q2x⟩⟩
  · obtain ⟨q0x, q1x, q2x⟩ := AR_mono (x := x + u * (vpr v t c * (vT v sp - w))) (by omega) h3x
    exact ⟨q0x, q1x, Or.inr ⟨h1x, h2x, q2x⟩⟩
/-- what is laid for a day -/
def VH (J : Nat → Nat → Int32) (v : Nat → Nat → Int32) (t : Nat) : Prop := mV J v ∧ ∀ c, c < cn v 0 → J 352 c = vH v t c ∧ J 353 c = vH v (t + 1) c ∧ J 354 c = wlo v c (nI (cn v 7 + t))
theorem mV.fz {I J : Nat → Nat → Int32} (h : mV I v) (q : ∀ i k, 291 ≤ i → i ≤ 321 → J i k = I i k) : mV J v := fun f k hf => (q (290 + f) k (by omega) (by omega)).trans (h f k hf)
theorem VH.fr {I J : Nat → Nat → Int32} {t : Nat} (h : VH I v t) (q : ∀ i k, i ≠ 350 → i ≠ 351 → J i k = I i k) : VH J v t := ⟨h.1.fz (fun i k q1x q2x => q i k (by omega) (by omega)), fun c hc => ⟨(q _ _ (by decide) (by decide)).trans (h.2 c hc).1, (q _ _ (by decide) (by decide)).trans (h.2 c hc).2.1, (q _ _ (by decide) (by decide)).trans (h.2 c hc).2.2⟩⟩
theorem ms_comes (hM : MW sh R) {E : Nat → Nat → Nat → Prop} {c1x w1x y : Nat} (hT : TB 1000000000 I 351 E) (hc : c1x < 12) (hw1x : w1x < 31) (hy : y < 1000000000) : Ec X 1 273 [.ref 290, .int (nI c1x), .int (nI w1x), .int (nI y)] (sh, I, L, R) (fun r h' => r = none ∧ ∃ J : Nat → Nat → Int32, h' = (sh, J, L, R) ∧ TB 1000000000 J 351 (fun a b q => E a b q ∨ a = c1x ∧ b = w1x ∧ q = y) ∧ ∀ i k, i ≠ 351 → J i k = I i k) := by
  obtain ⟨x, ex, tx⟩ := hT c1x hc w1x hw1x
  have xb := tx.1
  refine Ec.of (Nat.le_of_ble_eq_true rfl) ?_
  refine e_ipush rfl ?_
  refine e_iload rfl rfl ?_
  refine e_imul rfl ?_
  rw [show 31 * (nI c1x) = nI (31 * c1x) from nI_times 31 c1x]
  refine e_iload rfl rfl ?_
  refine e_iadd rfl ?_
  rw [show (nI (31 * c1x)) + (nI w1x) = nI (31 * c1x + w1x) from nI_add _ _]
  refine e_istore rfl ?_
  refine e_aload rfl rfl ?_
  refine e_getR rfl hM.1 (show R 290 75 = some 351 from (hM.2 60 _ rfl).2) ?_
  refine e_iload rfl rfl ?_
  refine e_iload rfl rfl ?_
  refine e_aload rfl rfl ?_
  refine e_getR rfl hM.1 (show R 290 75 = some 351 from (hM.2 60 _ rfl).2) ?_
  refine e_iload rfl rfl ?_
  refine e_ialv (t := 31 * c1x + w1x) (n := 372) rfl (show sh[351]? = some (20, 372) from (hM.2 60 _ rfl).1) rfl (by omega) (by decide) ex ?_
  refine e_cge_b rfl (fun b22x => ?_) (fun b22x => ?_)
  · refine e_aload rfl rfl ?_
    refine e_getR rfl hM.1 (show R 290 75 = some 351 from (hM.2 60 _ rfl).2) ?_
    refine e_iload rfl rfl ?_
    refine e_ialv (t := 31 * c1x + w1x) (n := 372) rfl (show sh[351]? = some (20, 372) from (hM.2 60 _ rfl).1) rfl (by omega) (by decide) ex ?_
    refine e_iasJ (t := 31 * c1x + w1x) (n := 372) rfl (show sh[351]? = some (20, 372) from (hM.2 60 _ rfl).1) rfl (by omega) (by decide) (fun J1x g1x f1x => ?_)
    exact Eg.ret rfl (by decide) rfl ⟨rfl, J1x, rfl, hT.put hc hw1x hy ex tx (g1x.trans (congrArg nI (if_neg (fun q => absurd ((nI_lei (by omega) (by omega)).mp b22x) (by omega))).symm)) (fun k q => f1x 351 k (Or.inr q)), fun i k q => f1x i k (Or.inl q)⟩
  · refine e_iload rfl rfl ?_
    refine e_goto rfl ?_
    refine e_iasJ (t := 31 * c1x + w1x) (n := 372) rfl (show sh[351]? = some (20, 372) from (hM.2 60 _ rfl).1) rfl (by omega) (by decide) (fun J2x g2x f2x => ?_)
    exact Eg.ret rfl (by decide) rfl ⟨rfl, J2x, rfl, hT.put hc hw1x hy ex tx (g2x.trans (congrArg nI (if_pos (Decidable.byContradiction (fun q => b22x ((nI_lei (by omega) (by omega)).mpr (by omega))))).symm)) (fun k q => f2x 351 k (Or.inr q)), fun i k q => f2x i k (Or.inl q)⟩
theorem ms_leaves (hM : MW sh R) (hw : Wf v) {E : Nat → Nat → Nat → Prop} {sp t jl jh c w k : Nat} (hh : VH I v t) (hT : TB 1000000000 I 351 E) (hs : sp < cn v 4) (hc : c < cn v 0) (hwT : w ≤ 30) (hk : k < 1000000000) (h2x : jh ≤ 2) (hl : jl ≤ jh + 1) : Ec X 3 274 [.ref 290, .int (nI sp), .int (nI c), .int (nI w), .int (nI k), .int (wy jl), .int (wy jh)] (sh, I, L, R) (fun r h' => r = none ∧ ∃ J : Nat → Nat → Int32, h' = (sh, J, L, R) ∧ TB 1000000000 J 351 (fun a b q => E a b q ∨ AR v sp t jl jh c w k a b q) ∧ ∀ i k, i ≠ 351 → J i k = I i k) := by
  have hb := hw.1.2
  refine Ec.of (Nat.le_of_ble_eq_true rfl) ?_
  refine e_iload rfl rfl ?_
  refine e_istore rfl ?_
  refine Eg.pk [0, 1, 2, 3, 4, 5, 6, 7] [7, 0, 1, 2, 3, 4, 5, 6] rfl (by decide) ?_
  refine up_ind (p := fun j => jl ≤ j → ∀ J : Nat → Nat → Int32, TB 1000000000 J 351 (fun a b q => E a b q ∨ AS v sp t jl j c w k a b q) → (∀ i k, i ≠ 351 → J i k = I i k) → Eg X xTc 2 274 4 [(0, .ref 290), (1, .int (nI sp)), (2, .int (nI c)), (3, .int (nI w)), (4, .int (nI k)), (5, .int (wy jl)), (6, .int (wy jh)), (7, .int (wy j))] [] (sh, J, L, R) (fun r h' => r = none ∧ ∃ J : Nat → Nat → Int32, h' = (sh, J, L, R) ∧ TB 1000000000 J 351 (fun a b q => E a b q ∨ AR v sp t jl jh c w k a b q) ∧ ∀ i k, i ≠ 351 → J i k = I i k)) (n := jh + 1) (j := jl) (fun j hj ih jj J k1x k2x => ?_) (fun jj J k1x k2x => ?_) hl (Nat.le_refl _) I (hT.iff (fun a b q _ _ => AS_0)) (fun _ _ _ => rfl)
  · have gh : VH J v t := hh.fr (fun i k q1x q2x => k2x i k q2x)
    refine e_iload rfl rfl ?_
    refine e_iload rfl rfl ?_
    refine e_cgt_f rfl (fun q => absurd ((wy_lt (by omega) (by omega)).mp q) (by omega)) ?_
    refine e_iload rfl rfl ?_
    refine e_ifle_b rfl (fun b12x => ?_) (fun b12x => ?_)
    · exact Eg.ret rfl (by decide) rfl ⟨rfl, J, rfl, k1x.iff (fun a b q _ _ => AS_w ((nI_le0 (by omega)).mp b12x)), k2x⟩
    · refine e_iload rfl rfl ?_
      refine e_ifeq_b rfl (fun b17x => ?_) (fun b17x => ?_)
      · have w1x : 1 ≤ w := Decidable.byContradiction (fun q => b12x ((nI_le0 (by omega)).mpr (by omega)))
        have j1x : j = 1 := (wy_0 (by omega)).mp b17x
        have go : vgo v sp t c j = true := decide_eq_true (Or.inl j1x)
        have cj : 1 ≤ c + j ∧ c + j ≤ cn v 0 := by omega
        have ew : nI (c + j) - 1 = nI (c + j - 1) := nI_sub (b := 1) cj.1
        refine e_aload rfl rfl ?_
        refine e_iload rfl rfl ?_
        refine e_iload rfl rfl ?_
        refine e_iadd rfl ?_
        rw [show (nI c) + (wy j) = nI (c + j - 1) from wy_c.trans ew]
        refine e_iload rfl rfl ?_
        refine e_ipush rfl ?_
        refine e_isub rfl ?_
        rw [show (nI w) - (1 : Int32) = nI (w - 1) from nI_sub (b := 1) w1x]
        refine e_iload rfl rfl ?_
        refine Eg.c4 rfl (by decide) (by decide) rfl (Nat.le_of_ble_eq_true rfl) (xrcv_of rfl hM.1 rfl) ((ms_comes hM k1x (c1x := c + j - 1) (w1x := w - 1) (y := k) (by omega) (by omega) hk).mono (by decide)) (fun r1x h1x hq => ?_)
        obtain ⟨rfl, J2x, rfl, z1x, z2x⟩ := hq
        refine e_iinc rfl rfl ?_
        refine e_goto rfl ?_
        refine Eg.pk [0, 1, 2, 3, 4, 5, 6, 7] [7, 0, 1, 2, 3, 4, 5, 6] rfl (by decide) ?_
        rw [wy_1]
        exact ih (by omega) J2x (z1x.iff (fun a b q _ _ => AS_y go jj w1x cj.1)) (fun i k q => (z2x i k q).trans (k2x i k q))
      · refine e_aload rfl rfl ?_
        refine e_iload rfl rfl ?_
        refine e_iload rfl rfl ?_
        refine e_iadd rfl ?_
        rw [show (nI c) + (wy j) = nI (c + j) - 1 from wy_c]
        refine Eg.p2 rfl (by decide) (by decide) rfl (Nat.le_of_ble_eq_true rfl) (xrcv_of rfl hM.1 rfl) ((ms_isCell hM gh.1 hw).mono (by decide)) ?_
        refine e_ifeq_b rfl (fun b28x => ?_) (fun b28x => ?_)
        · replace b28x := yn_0.mp b28x
          refine e_iinc rfl rfl ?_
          refine e_goto rfl ?_
          refine Eg.pk [0, 1, 2, 3, 4, 5, 6, 7] [7, 0, 1, 2, 3, 4, 5, 6] rfl (by decide) ?_
          rw [wy_1]
          exact ih (by omega) J (k1x.iff (fun a b q _ _ => AS_n (fun q => by rcases of_decide_eq_true q with r | r; exact b17x ((wy_0 (by omega)).mpr r); exact b28x ((wc_cell (by omega) (by omega)).mpr r.1)))) k2x
        · replace b28x := yn_n0.mp b28x
          have cj : 1 ≤ c + j ∧ c + j ≤ cn v 0 := (wc_cell (by omega) (by omega)).mp b28x
          have ew : nI (c + j) - 1 = nI (c + j - 1) := nI_sub (b := 1) cj.1
          refine e_aload rfl rfl ?_
          refine e_getR rfl hM.1 (show R 290 77 = some 353 from (hM.2 62 _ rfl).2) ?_
          refine e_iload rfl rfl ?_
          refine e_iload rfl rfl ?_
          refine e_iadd rfl ?_
          rw [show (nI c) + (wy j) = nI (c + j - 1) from wy_c.trans ew]
          refine e_ialv (t := c + j - 1) (n := 12) rfl (show sh[353]? = some (20, 12) from (hM.2 62 _ rfl).1) rfl (by omega) (by decide) (gh.2 (c + j - 1) (by omega)).2.1 ?_
          refine e_aload rfl rfl ?_
          refine e_getR rfl hM.1 (show R 290 76 = some 352 from (hM.2 61 _ rfl).2) ?_
          refine e_iload rfl rfl ?_
          refine e_ialv (t := c) (n := 12) rfl (show sh[352]? = some (20, 12) from (hM.2 61 _ rfl).1) rfl (by omega) (by decide) (gh.2 c (by omega)).1 ?_
          refine e_aload rfl rfl ?_
          refine e_getR rfl hM.1 (show R 290 16 = some 306 from (hM.2 15 _ rfl).2) ?_
          refine e_iload rfl rfl ?_
          refine e_ialv (t := sp) (n := 4) rfl (show sh[306]? = some (20, 4) from (hM.2 15 _ rfl).1) rfl (by omega) (by decide) (gh.1 16 sp (by decide)) ?_
          refine e_iadd rfl ?_
          refine e_cgt_b rfl (fun b53x => ?_) (fun b53x => ?_)
          · refine e_iinc rfl rfl ?_
            refine e_goto rfl ?_
            refine Eg.pk [0, 1, 2, 3, 4, 5, 6, 7] [7, 0, 1, 2, 3, 4, 5, 6] rfl (by decide) ?_
            rw [wy_1]
            exact ih (by omega) J (k1x.iff (fun a b q _ _ => AS_n (fun q => by rcases of_decide_eq_true q with r | r; exact b17x ((wy_0 (by omega)).mpr r); exact Int32.not_le.mpr b53x r.2))) k2x
          · have w1x : 1 ≤ w := Decidable.byContradiction (fun q => b12x ((nI_le0 (by omega)).mpr (by omega)))
            have go : vgo v sp t c j = true := decide_eq_true (Or.inr ⟨cj, Int32.not_lt.mp b53x⟩)
            refine e_aload rfl rfl ?_
            refine e_iload rfl rfl ?_
            refine e_iload rfl rfl ?_
            refine e_iadd rfl ?_
            rw [show (nI c) + (wy j) = nI (c + j - 1) from wy_c.trans ew]
            refine e_iload rfl rfl ?_
            refine e_ipush rfl ?_
            refine e_isub rfl ?_
            rw [show (nI w) - (1 : Int32) = nI (w - 1) from nI_sub (b := 1) w1x]
            refine e_iload rfl rfl ?_
            refine Eg.c4 rfl (by decide) (by decide) rfl (Nat.le_of_ble_eq_true rfl) (xrcv_of rfl hM.1 rfl) ((ms_comes hM k1x (c1x := c + j - 1) (w1x := w - 1) (y := k) (by omega) (by omega) hk).mono (by decide)) (fun r1x h1x hq => ?_)
            obtain ⟨rfl, J2x, rfl, z1x, z2x⟩ := hq
            refine e_iinc rfl rfl ?_
            refine e_goto rfl ?_
            refine Eg.pk [0, 1, 2, 3, 4, 5, 6, 7] [7, 0, 1, 2, 3, 4, 5, 6] rfl (by decide) ?_
            rw [wy_1]
            exact ih (by omega) J2x (z1x.iff (fun a b q _ _ => AS_y go jj w1x cj.1)) (fun i k q => (z2x i k q).trans (k2x i k q))
  · refine e_iload rfl rfl ?_
    refine e_iload rfl rfl ?_
    refine e_cgt_t rfl ((wy_lt (by omega) (by omega)).mpr (by omega)) ?_
    exact Eg.ret rfl (by decide) rfl ⟨rfl, J, rfl, k1x.iff (fun a b q _ _ => AS_e), k2x⟩
theorem ms_spreads (hM : MW sh R) (hw : Wf v) {E : Nat → Nat → Nat → Prop} {A F : Prop} [Decidable A] [Decidable F] {sp t jl jh : Nat} (hh : VH I v t) (hT : TB 1000000000 I 350 E) (hE : ∀ c w k, E c w k → c < cn v 0 ∧ w ≤ vT v sp ∧ k ≤ 900000) (hs : sp < cn v 4) (h2x : jh ≤ 2) (hl : jl ≤ jh + 1) : Ec X 4 275 [.ref 290, .int (nI sp), .int (yn A), .int (yn F), .int (wy jl), .int (wy jh)] (sh, I, L, R) (fun r h' => r = none ∧ ∃ J : Nat → Nat → Int32, h' = (sh, J, L, R) ∧ TB 1000000000 J 350 (fun a b q => ∃ c w k, E c w k ∧ Lv v sp 1 t A F jl jh c w k a b q) ∧ ∀ i k, i ≠ 350 → i ≠ 351 → J i k = I i k) := by
  have hb := hw.1.2
  have hv := vS_ok hw hs
  refine Ec.of (Nat.le_of_ble_eq_true rfl) ?_
  refine e_ipush rfl ?_
  refine e_istore rfl ?_
  refine Eg.pk [0, 1, 2, 3, 4, 5, 6] [6, 0, 1, 2, 3, 4, 5] rfl (by decide) ?_
  refine up_ind (p := fun j => ∀ J : Nat → Nat → Int32, (∀ k, k < j → J 351 k = nI 1000000000) → (∀ i k, i ≠ 351 → J i k = I i k) → Eg X xTc 3 275 3 [(0, .ref 290), (1, .int (nI sp)), (2, .int (yn A)), (3, .int (yn F)), (4, .int (wy jl)), (5, .int (wy jh)), (6, .int (nI j))] [] (sh, J, L, R) (fun r h' => r = none ∧ ∃ J : Nat → Nat → Int32, h' = (sh, J, L, R) ∧ TB 1000000000 J 350 (fun a b q => ∃ c w k, E c w k ∧ Lv v sp 1 t A F jl jh c w k a b q) ∧ ∀ i k, i ≠ 350 → i ≠ 351 → J i k = I i k)) (n := 372) (j := 0) (fun j hj ih J k1x k2x => ?_) (fun J k1x k2x => ?_) (Nat.zero_le _) I (fun k q => absurd q (by omega)) (fun _ _ _ => rfl)
  · refine e_iload rfl rfl ?_
    refine e_ipush rfl ?_
    refine e_cge_f rfl (nI_ge (b := 372) hj (by decide)) ?_
    refine e_aload rfl rfl ?_
    refine e_getR rfl hM.1 (show R 290 75 = some 351 from (hM.2 60 _ rfl).2) ?_
    refine e_iload rfl rfl ?_
    refine e_ipush rfl ?_
    refine e_iasJ (t := j) (n := 372) rfl (show sh[351]? = some (20, 372) from (hM.2 60 _ rfl).1) rfl (by omega) (by decide) (fun J11x g11x f11x => ?_)
    refine e_iinc rfl rfl ?_
    refine e_goto rfl ?_
    refine Eg.pk [0, 1, 2, 3, 4, 5, 6] [6, 0, 1, 2, 3, 4, 5] rfl (by decide) ?_
    rw [nI_1]
    exact ih J11x (fun k q => by by_cases e : k = j; rw [e]; exact g11x; exact (f11x 351 k (Or.inr e)).trans (k1x k (by omega))) (fun i k q => (f11x i k (Or.inl q)).trans (k2x i k q))
  · refine e_iload rfl rfl ?_
    refine e_ipush rfl ?_
    refine e_cge_t rfl (Int32.le_refl _) ?_
    refine e_ipush rfl ?_
    refine e_istore rfl ?_
    refine Eg.pk [0, 1, 2, 3, 4, 5, 6] [6, 0, 1, 2, 3, 4, 5] rfl (by decide) ?_
    refine up_ind (p := fun c => ∀ K : Nat → Nat → Int32, TB 1000000000 K 351 (EU E (Lv v sp 1 t A F jl jh) c 0) → (∀ i k, i ≠ 351 → K i k = I i k) → Eg X xTc 3 275 30 [(0, .ref 290), (1, .int (nI sp)), (2, .int (yn A)), (3, .int (yn F)), (4, .int (wy jl)), (5, .int (wy jh)), (6, .int (nI c))] [] (sh, K, L, R) (fun r h' => r = none ∧ ∃ J : Nat → Nat → Int32, h' = (sh, J, L, R) ∧ TB 1000000000 J 350 (fun a b q => ∃ c w k, E c w k ∧ Lv v sp 1 t A F jl jh c w k a b q) ∧ ∀ i k, i ≠ 350 → i ≠ 351 → J i k = I i k)) (n := cn v 0) (j := 0) (fun c hc ih K m1x m2x => ?_) (fun K m1x m2x => ?_) (Nat.zero_le _) J ((TB.no k1x).iff (fun a b q _ _ => EU_0)) k2x
    · have gK : VH K v t := hh.fr (fun i k q1x q2x => m2x i k q2x)
      refine e_iload rfl rfl ?_
      refine e_aload rfl rfl ?_
      refine e_getR rfl hM.1 (show R 290 1 = some 291 from (hM.2 0 _ rfl).2) ?_
      refine e_ipush rfl ?_
      refine e_ialv (t := 0) (n := 14) rfl (show sh[291]? = some (20, 14) from (hM.2 0 _ rfl).1) rfl (by decide) (by decide) (gK.1.n hw (j := 0) (by decide)) ?_
      refine e_cge_f rfl (nI_ge hc (by omega)) ?_
      refine e_ipush rfl ?_
      refine e_istore rfl ?_
      refine Eg.pk [0, 1, 2, 3, 4, 5, 6, 7] [7, 0, 1, 2, 3, 4, 5, 6] rfl (by decide) ?_
      refine up_ind (p := fun w => ∀ J : Nat → Nat → Int32, TB 1000000000 J 351 (EU E (Lv v sp 1 t A F jl jh) c w) → (∀ i k, i ≠ 351 → J i k = I i k) → Eg X xTc 3 275 44 [(0, .ref 290), (1, .int (nI sp)), (2, .int (yn A)), (3, .int (yn F)), (4, .int (wy jl)), (5, .int (wy jh)), (6, .int (nI c)), (7, .int (nI w))] [] (sh, J, L, R) (fun r h' => r = none ∧ ∃ J : Nat → Nat → Int32, h' = (sh, J, L, R) ∧ TB 1000000000 J 350 (fun a b q => ∃ c w k, E c w k ∧ Lv v sp 1 t A F jl jh c w k a b q) ∧ ∀ i k, i ≠ 350 → i ≠ 351 → J i k = I i k)) (n := vT v sp + 1) (j := 0) (fun w hw1x iw J k1x k2x => ?_) (fun J k1x k2x => ?_) (Nat.zero_le _) K m1x m2x
      · have gh : VH J v t := hh.fr (fun i k q1x q2x => k2x i k q2x)
        obtain ⟨x, ex0x, tx⟩ := hT c (by omega) w (by omega)
        have ex : J 350 (31 * c + w) = nI x := (k2x _ _ (by decide)).trans ex0x
        have xb := tx.1
        have fb := fill_b hw (t := t) (c := c) (w := w) hs
        have xs : x < 1000000000 → x ≤ 900000 := fun q => (hE _ _ _ (tx.2.1 q)).2.2
        refine e_iload rfl rfl ?_
        refine e_aload rfl rfl ?_
        refine e_getR rfl hM.1 (show R 290 15 = some 305 from (hM.2 14 _ rfl).2) ?_
        refine e_iload rfl rfl ?_
        refine e_ialv (t := sp) (n := 4) rfl (show sh[305]? = some (20, 4) from (hM.2 14 _ rfl).1) rfl (by omega) (by decide) ((gh.1 15 sp (by decide)).trans hv.2.2.2.2.1) ?_
        refine e_cgt_f rfl (fun q => absurd ((nI_lti (by omega) (by omega)).mp q) (by omega)) ?_
        refine e_aload rfl rfl ?_
        refine e_getR rfl hM.1 (show R 290 74 = some 350 from (hM.2 59 _ rfl).2) ?_
        refine e_ipush rfl ?_
        refine e_iload rfl rfl ?_
        refine e_imul rfl ?_
        rw [show 31 * (nI c) = nI (31 * c) from nI_times 31 c]
        refine e_iload rfl rfl ?_
        refine e_iadd rfl ?_
        rw [show (nI (31 * c)) + (nI w) = nI (31 * c + w) from nI_add _ _]
        refine e_ialv (t := 31 * c + w) (n := 372) rfl (show sh[350]? = some (20, 372) from (hM.2 59 _ rfl).1) rfl (by omega) (by decide) ex ?_
        refine e_istore rfl ?_
        refine e_iload rfl rfl ?_
        refine e_ipush rfl ?_
        refine e_cge_b rfl (fun b75x => ?_) (fun b75x => ?_)
        · refine e_iload rfl rfl ?_
          refine e_ipush rfl ?_
          refine e_cge_t rfl b75x ?_
          refine e_iinc rfl rfl ?_
          refine e_goto rfl ?_
          refine Eg.pk [0, 1, 2, 3, 4, 5, 6, 7] [7, 8, 0, 1, 2, 3, 4, 5, 6] rfl (by decide) ?_
          rw [nI_1]
          exact iw J (k1x.iff (fun a b q _ _ => EU_no (tab_inf tx (fun q => absurd ((nI_lei (a := 1000000000) (by decide) (by omega)).mp b75x) (by omega)) (fun k q => by have := hE _ _ _ q; omega)))) k2x
        · have xl : x < 1000000000 := Decidable.byContradiction (fun q => b75x ((nI_lei (a := 1000000000) (by decide) (by omega)).mpr (by omega)))
          have xs2x := xs xl
          refine e_iload rfl rfl ?_
          refine e_ifeq_b rfl (fun b79x => ?_) (fun b79x => ?_)
          · replace b79x := yn_0.mp b79x
            refine e_iload rfl rfl ?_
            refine e_ipush rfl ?_
            refine e_cge_f rfl b75x ?_
            refine e_iload rfl rfl ?_
            refine e_ifeq_b rfl (fun b106x => ?_) (fun b106x => ?_)
            · replace b106x := yn_0.mp b106x
              refine e_iinc rfl rfl ?_
              refine e_goto rfl ?_
              refine Eg.pk [0, 1, 2, 3, 4, 5, 6, 7] [7, 8, 0, 1, 2, 3, 4, 5, 6] rfl (by decide) ?_
              rw [nI_1]
              have xl : x < 1000000000 := Decidable.byContradiction (fun q => b75x ((nI_lei (a := 1000000000) (by decide) (by omega)).mpr (by omega)))
              refine iw J (EU_yes tx xl (fun k a b q r1x r2x => Lv_mono r1x r2x) (k1x.iff (fun a b q _ _ => ?_))) k2x
              show _ ↔ _ ∨ Lv v sp 1 t A F jl jh c w x a b q
              unfold Lv
              clear tx k1x iw ih m1x hT hE
              grind
            · replace b106x := yn_n0.mp b106x
              refine e_aload rfl rfl ?_
              refine e_getR rfl hM.1 (show R 290 78 = some 354 from (hM.2 63 _ rfl).2) ?_
              refine e_iload rfl rfl ?_
              refine e_ialv (t := c) (n := 12) rfl (show sh[354]? = some (20, 12) from (hM.2 63 _ rfl).1) rfl (by omega) (by decide) (gh.2 c hc).2.2 ?_
              refine e_ipush rfl ?_
              refine e_ceq_b rfl (fun b117x => ?_) (fun b117x => ?_)
              · have wz : vpr v t c = 0 := by rcases vpr_ok hw (t := t) (c := c) with q | ⟨b, q1x, q2x, _⟩; exact q.2; rw [q2x] at b117x; exact absurd b117x (nI_m1' (by omega))
                refine e_iinc rfl rfl ?_
                refine e_goto rfl ?_
                refine Eg.pk [0, 1, 2, 3, 4, 5, 6, 7] [7, 8, 0, 1, 2, 3, 4, 5, 6] rfl (by decide) ?_
                rw [nI_1]
                have xl : x < 1000000000 := Decidable.byContradiction (fun q => b75x ((nI_lei (a := 1000000000) (by decide) (by omega)).mpr (by omega)))
                refine iw J (EU_yes tx xl (fun k a b q r1x r2x => Lv_mono r1x r2x) (k1x.iff (fun a b q _ _ => ?_))) k2x
                show _ ↔ _ ∨ Lv v sp 1 t A F jl jh c w x a b q
                unfold Lv
                clear tx k1x iw ih m1x hT hE
                grind
              · obtain ⟨b, hb2x, eb, ep, wp, wp9x⟩ : ∃ b, b < cn v 2 ∧ wlo v c (nI (cn v 7 + t)) = nI b ∧ pco v b = nI (vpr v t c) ∧ 1 ≤ vpr v t c ∧ vpr v t c ≤ 99 := by rcases vpr_ok hw (t := t) (c := c) with q | q; exact absurd q.1 b117x; exact q
                have e9x : v 9 b = pco v b := (if_pos (show b < 4 by omega)).symm
                refine e_aload rfl rfl ?_
                refine e_iload rfl rfl ?_
                refine e_iload rfl rfl ?_
                refine e_aload rfl rfl ?_
                refine e_getR rfl hM.1 (show R 290 15 = some 305 from (hM.2 14 _ rfl).2) ?_
                refine e_iload rfl rfl ?_
                refine e_ialv (t := sp) (n := 4) rfl (show sh[305]? = some (20, 4) from (hM.2 14 _ rfl).1) rfl (by omega) (by decide) ((gh.1 15 sp (by decide)).trans hv.2.2.2.2.1) ?_
                refine e_iload rfl rfl ?_
                refine e_aload rfl rfl ?_
                refine e_getR rfl hM.1 (show R 290 9 = some 299 from (hM.2 8 _ rfl).2) ?_
                refine e_aload rfl rfl ?_
                refine e_getR rfl hM.1 (show R 290 78 = some 354 from (hM.2 63 _ rfl).2) ?_
                refine e_iload rfl rfl ?_
                refine e_ialv (t := c) (n := 12) rfl (show sh[354]? = some (20, 12) from (hM.2 63 _ rfl).1) rfl (by omega) (by decide) ((gh.2 c hc).2.2.trans eb) ?_
                refine e_ialv (t := b) (n := 4) rfl (show sh[299]? = some (20, 4) from (hM.2 8 _ rfl).1) rfl (by omega) (by decide) ((gh.1 9 b (by decide)).trans (e9x.trans ep)) ?_
                refine e_aload rfl rfl ?_
                refine e_getR rfl hM.1 (show R 290 15 = some 305 from (hM.2 14 _ rfl).2) ?_
                refine e_iload rfl rfl ?_
                refine e_ialv (t := sp) (n := 4) rfl (show sh[305]? = some (20, 4) from (hM.2 14 _ rfl).1) rfl (by omega) (by decide) ((gh.1 15 sp (by decide)).trans hv.2.2.2.2.1) ?_
                refine e_iload rfl rfl ?_
                refine e_isub rfl ?_
                rw [show (nI (vT v sp)) - (nI w) = nI (vT v sp - w) from nI_sub (by omega)]
                refine e_imul rfl ?_
                rw [show (nI (vpr v t c)) * (nI (vT v sp - w)) = nI (vpr v t c * (vT v sp - w)) from nI_times _ _]
                refine e_iadd rfl ?_
                rw [show (nI x) + (nI (vpr v t c * (vT v sp - w))) = nI (x + 1 * (vpr v t c * (vT v sp - w))) from by rw [nI_add, Nat.one_mul]]
                refine e_iload rfl rfl ?_
                refine e_iload rfl rfl ?_
                refine Eg.c7 rfl (by decide) (by decide) rfl (Nat.le_of_ble_eq_true rfl) (xrcv_of rfl hM.1 rfl) ((ms_leaves hM hw gh k1x (w := vT v sp) (k := x + 1 * (vpr v t c * (vT v sp - w))) hs hc (by omega) (by omega) h2x hl).mono (by decide)) (fun r1x h1x hq => ?_)
                obtain ⟨rfl, J2x, rfl, z1x, z2x⟩ := hq
                have gh2x : VH J2x v t := gh.fr (fun i k q1x q2x => z2x i k q2x)
                refine e_iinc rfl rfl ?_
                refine e_goto rfl ?_
                refine Eg.pk [0, 1, 2, 3, 4, 5, 6, 7] [7, 8, 0, 1, 2, 3, 4, 5, 6] rfl (by decide) ?_
                rw [nI_1]
                have xl : x < 1000000000 := Decidable.byContradiction (fun q => b75x ((nI_lei (a := 1000000000) (by decide) (by omega)).mpr (by omega)))
                refine iw J2x (EU_yes tx xl (fun k a b q r1x r2x => Lv_mono r1x r2x) (z1x.iff (fun a b q _ _ => ?_))) (fun i k q => (z2x i k q).trans (k2x i k q))
                show _ ↔ _ ∨ Lv v sp 1 t A F jl jh c w x a b q
                unfold Lv
                clear tx k1x iw ih m1x hT hE z1x
                grind
          · replace b79x := yn_n0.mp b79x
            refine e_aload rfl rfl ?_
            refine e_iload rfl rfl ?_
            refine e_iload rfl rfl ?_
            refine e_iload rfl rfl ?_
            refine e_iload rfl rfl ?_
            refine e_iload rfl rfl ?_
            refine e_iload rfl rfl ?_
            refine Eg.c7 rfl (by decide) (by decide) rfl (Nat.le_of_ble_eq_true rfl) (xrcv_of rfl hM.1 rfl) ((ms_leaves hM hw gh k1x (k := x) hs hc (by omega) (by omega) h2x hl).mono (by decide)) (fun r1x h1x hq => ?_)
            obtain ⟨rfl, J2x, rfl, z1x, z2x⟩ := hq
            have gh2x : VH J2x v t := gh.fr (fun i k q1x q2x => z2x i k q2x)
            refine e_iload rfl rfl ?_
            refine e_ipush rfl ?_
            refine e_cge_f rfl b75x ?_
            refine e_iload rfl rfl ?_
            refine e_ifeq_b rfl (fun b106x => ?_) (fun b106x => ?_)
            · replace b106x := yn_0.mp b106x
              refine e_iinc rfl rfl ?_
              refine e_goto rfl ?_
              refine Eg.pk [0, 1, 2, 3, 4, 5, 6, 7] [7, 8, 0, 1, 2, 3, 4, 5, 6] rfl (by decide) ?_
              rw [nI_1]
              have xl : x < 1000000000 := Decidable.byContradiction (fun q => b75x ((nI_lei (a := 1000000000) (by decide) (by omega)).mpr (by omega)))
              refine iw J2x (EU_yes tx xl (fun k a b q r1x r2x => Lv_mono r1x r2x) (z1x.iff (fun a b q _ _ => ?_))) (fun i k q => (z2x i k q).trans (k2x i k q))
              show _ ↔ _ ∨ Lv v sp 1 t A F jl jh c w x a b q
              unfold Lv
              clear tx k1x iw ih m1x hT hE z1x
              grind
            · replace b106x := yn_n0.mp b106x
              refine e_aload rfl rfl ?_
              refine e_getR rfl hM.1 (show R 290 78 = some 354 from (hM.2 63 _ rfl).2) ?_
              refine e_iload rfl rfl ?_
              refine e_ialv (t := c) (n := 12) rfl (show sh[354]? = some (20, 12) from (hM.2 63 _ rfl).1) rfl (by omega) (by decide) (gh2x.2 c hc).2.2 ?_
              refine e_ipush rfl ?_
              refine e_ceq_b rfl (fun b117x => ?_) (fun b117x => ?_)
              · have wz : vpr v t c = 0 := by rcases vpr_ok hw (t := t) (c := c) with q | ⟨b, q1x, q2x, _⟩; exact q.2; rw [q2x] at b117x; exact absurd b117x (nI_m1' (by omega))
                refine e_iinc rfl rfl ?_
                refine e_goto rfl ?_
                refine Eg.pk [0, 1, 2, 3, 4, 5, 6, 7] [7, 8, 0, 1, 2, 3, 4, 5, 6] rfl (by decide) ?_
                rw [nI_1]
                have xl : x < 1000000000 := Decidable.byContradiction (fun q => b75x ((nI_lei (a := 1000000000) (by decide) (by omega)).mpr (by omega)))
                refine iw J2x (EU_yes tx xl (fun k a b q r1x r2x => Lv_mono r1x r2x) (z1x.iff (fun a b q _ _ => ?_))) (fun i k q => (z2x i k q).trans (k2x i k q))
                show _ ↔ _ ∨ Lv v sp 1 t A F jl jh c w x a b q
                unfold Lv
                clear tx k1x iw ih m1x hT hE z1x
                grind
              · obtain ⟨b, hb2x, eb, ep, wp, wp9x⟩ : ∃ b, b < cn v 2 ∧ wlo v c (nI (cn v 7 + t)) = nI b ∧ pco v b = nI (vpr v t c) ∧ 1 ≤ vpr v t c ∧ vpr v t c ≤ 99 := by rcases vpr_ok hw (t := t) (c := c) with q | q; exact absurd q.1 b117x; exact q
                have e9x : v 9 b = pco v b := (if_pos (show b < 4 by omega)).symm
                refine e_aload rfl rfl ?_
                refine e_iload rfl rfl ?_
                refine e_iload rfl rfl ?_
                refine e_aload rfl rfl ?_
                refine e_getR rfl hM.1 (show R 290 15 = some 305 from (hM.2 14 _ rfl).2) ?_
                refine e_iload rfl rfl ?_
                refine e_ialv (t := sp) (n := 4) rfl (show sh[305]? = some (20, 4) from (hM.2 14 _ rfl).1) rfl (by omega) (by decide) ((gh2x.1 15 sp (by decide)).trans hv.2.2.2.2.1) ?_
                refine e_iload rfl rfl ?_
                refine e_aload rfl rfl ?_
                refine e_getR rfl hM.1 (show R 290 9 = some 299 from (hM.2 8 _ rfl).2) ?_
                refine e_aload rfl rfl ?_
                refine e_getR rfl hM.1 (show R 290 78 = some 354 from (hM.2 63 _ rfl).2) ?_
                refine e_iload rfl rfl ?_
                refine e_ialv (t := c) (n := 12) rfl (show sh[354]? = some (20, 12) from (hM.2 63 _ rfl).1) rfl (by omega) (by decide) ((gh2x.2 c hc).2.2.trans eb) ?_
                refine e_ialv (t := b) (n := 4) rfl (show sh[299]? = some (20, 4) from (hM.2 8 _ rfl).1) rfl (by omega) (by decide) ((gh2x.1 9 b (by decide)).trans (e9x.trans ep)) ?_
                refine e_aload rfl rfl ?_
                refine e_getR rfl hM.1 (show R 290 15 = some 305 from (hM.2 14 _ rfl).2) ?_
                refine e_iload rfl rfl ?_
                refine e_ialv (t := sp) (n := 4) rfl (show sh[305]? = some (20, 4) from (hM.2 14 _ rfl).1) rfl (by omega) (by decide) ((gh2x.1 15 sp (by decide)).trans hv.2.2.2.2.1) ?_
                refine e_iload rfl rfl ?_
                refine e_isub rfl ?_
                rw [show (nI (vT v sp)) - (nI w) = nI (vT v sp - w) from nI_sub (by omega)]
                refine e_imul rfl ?_
                rw [show (nI (vpr v t c)) * (nI (vT v sp - w)) = nI (vpr v t c * (vT v sp - w)) from nI_times _ _]
                refine e_iadd rfl ?_
                rw [show (nI x) + (nI (vpr v t c * (vT v sp - w))) = nI (x + 1 * (vpr v t c * (vT v sp - w))) from by rw [nI_add, Nat.one_mul]]
                refine e_iload rfl rfl ?_
                refine e_iload rfl rfl ?_
                refine Eg.c7 rfl (by decide) (by decide) rfl (Nat.le_of_ble_eq_true rfl) (xrcv_of rfl hM.1 rfl) ((ms_leaves hM hw gh2x z1x (w := vT v sp) (k := x + 1 * (vpr v t c * (vT v sp - w))) hs hc (by omega) (by omega) h2x hl).mono (by decide)) (fun r1x h1x hq => ?_)
                obtain ⟨rfl, J3x, rfl, y1x, y2x⟩ := hq
                refine e_iinc rfl rfl ?_
                refine e_goto rfl ?_
                refine Eg.pk [0, 1, 2, 3, 4, 5, 6, 7] [7, 8, 0, 1, 2, 3, 4, 5, 6] rfl (by decide) ?_
                rw [nI_1]
                have xl : x < 1000000000 := Decidable.byContradiction (fun q => b75x ((nI_lei (a := 1000000000) (by decide) (by omega)).mpr (by omega)))
                refine iw J3x (EU_yes tx xl (fun k a b q r1x r2x => Lv_mono r1x r2x) (y1x.iff (fun a b q _ _ => ?_))) (fun i k q => (y2x i k q).trans ((z2x i k q).trans (k2x i k q)))
                show _ ↔ _ ∨ Lv v sp 1 t A F jl jh c w x a b q
                unfold Lv
                clear tx k1x iw ih m1x hT hE z1x y1x
                grind
      · have gh : VH J v t := hh.fr (fun i k q1x q2x => k2x i k q2x)
        refine e_iload rfl rfl ?_
        refine e_aload rfl rfl ?_
        refine e_getR rfl hM.1 (show R 290 15 = some 305 from (hM.2 14 _ rfl).2) ?_
        refine e_iload rfl rfl ?_
        refine e_ialv (t := sp) (n := 4) rfl (show sh[305]? = some (20, 4) from (hM.2 14 _ rfl).1) rfl (by omega) (by decide) ((gh.1 15 sp (by decide)).trans hv.2.2.2.2.1) ?_
        refine e_cgt_t rfl ((nI_lti (by omega) (by omega)).mpr (by omega)) ?_
        refine e_iinc rfl rfl ?_
        refine e_goto rfl ?_
        refine Eg.pk [0, 1, 2, 3, 4, 5, 6] [6, 0, 1, 2, 3, 4, 5, 7] rfl (by decide) ?_
        rw [nI_1]
        exact ih J (k1x.iff (fun a b q _ _ => EU_row (fun c w k r => (hE c w k r).2.1))) k2x
    · have gK : VH K v t := hh.fr (fun i k q1x q2x => m2x i k q2x)
      refine e_iload rfl rfl ?_
      refine e_aload rfl rfl ?_
      refine e_getR rfl hM.1 (show R 290 1 = some 291 from (hM.2 0 _ rfl).2) ?_
      refine e_ipush rfl ?_
      refine e_ialv (t := 0) (n := 14) rfl (show sh[291]? = some (20, 14) from (hM.2 0 _ rfl).1) rfl (by decide) (by decide) (gK.1.n hw (j := 0) (by decide)) ?_
      refine e_cge_t rfl (Int32.le_refl _) ?_
      refine e_aload rfl rfl ?_
      refine e_getR rfl hM.1 (show R 290 75 = some 351 from (hM.2 60 _ rfl).2) ?_
      refine e_aload rfl rfl ?_
      refine e_getR rfl hM.1 (show R 290 74 = some 350 from (hM.2 59 _ rfl).2) ?_
      refine Eg.c2 rfl (by decide) (by decide) rfl (Nat.le_of_ble_eq_true rfl) (xrcv_ofs (Or.inl rfl)) ((ms_copies (a := 351) (b := 350) (m := 372) (show sh[351]? = some (20, 372) from (hM.2 60 _ rfl).1) (show sh[350]? = some (20, 372) from (hM.2 59 _ rfl).1) (by decide) (by decide)).mono (by decide)) (fun r1x h1x hq => ?_)
      obtain ⟨rfl, J3x, rfl, z1x, z2x⟩ := hq
      exact Eg.ret rfl (by decide) rfl ⟨rfl, J3x, rfl, (m1x.iff (fun a b q _ _ => EU_all (fun c w k r => (hE c w k r).1))).cp z1x, fun i k q1x q2x => (z2x i k (Or.inl q1x)).trans (m2x i k q2x)⟩
end VM1x
