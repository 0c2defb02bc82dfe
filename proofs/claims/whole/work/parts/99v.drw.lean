/-! draws: storms, a row of days, the one side -/
section DW
variable {X : xX} {h : xH} {sh : List (Nat × Nat)} {I : Nat → Nat → Int32} {L : Nat → Nat → Int64} {R : Nat → Nat → Option Nat} {B : Nat → Nat} {n ri p : Nat} {st : rS}
variable {m s w ru rc : Nat} {v V : Nat → Nat → Int32} {cd : List (Nat × Nat)} {cl : List (Nat × Nat × Nat)}
def nxD (x : Nat) : Nat := (x * 1103515245 + 12345) % 2147483648
theorem nxD_lt {x : Nat} : nxD x < 2 ^ 31 := Nat.mod_lt _ (by decide)
def dxV (V : Nat → Nat → Int32) : Nat := (V 1 13).toNatClampNeg
def stmS (k : Nat) (U : Nat → Nat → Int32) : Nat → Nat → Int32 := if U 18 k = -1 ∧ 0 < U 14 k then xu U 14 k (U 14 k - 1) else U
def stmW (V : Nat → Nat → Int32) : Nat → Nat → Nat → Int32 := itN stmS V
def stmF (V : Nat → Nat → Int32) : Nat → Nat → Int32 := stmW V (cn V 4)
theorem stmS_o {k f i : Nat} (h : f ≠ 14 ∨ i ≠ k) : stmS k V f i = V f i := by
  unfold stmS; split
  · exact xu_o h
  · rfl
theorem stmW_o {n f i : Nat} (h : f ≠ 14 ∨ n ≤ i) : stmW V n f i = V f i := by
  induction n with
  | zero => rfl
  | succ n ih => exact (stmS_o (by omega)).trans (ih (by omega))
theorem stmW_at {n k : Nat} (hk : k < n) : stmW V n 14 k = stmS k V 14 k := by
  induction n with
  | zero => omega
  | succ n ih =>
    show stmS n (stmW V n) 14 k = _
    by_cases e : k = n
    · rw [e]; unfold stmS
      rw [stmW_o (f := 18) (Or.inl (by decide)), stmW_o (f := 14) (Or.inr (Nat.le_refl _))]
      split
      · rw [xu_at, xu_at]
      · exact stmW_o (Or.inr (Nat.le_refl _))
    · rw [stmS_o (Or.inr e)]; exact ih (by omega)
theorem stmF_o {f i : Nat} (h : f ≠ 14 ∨ cn V 4 ≤ i) : stmF V f i = V f i := stmW_o h
theorem stmF_cn {j : Nat} : cn (stmF V) j = cn V j := by unfold cn; rw [stmF_o (Or.inl (by decide))]
theorem stmF_agr (h4x : cn V 4 ≤ 4) : agr (stmF V) V := by
  intro f i h
  rw [slot_iff] at h
  exact stmF_o (by omega)
theorem stmF_wf (hw : Wf V) : Wf (stmF V) := by
  have h44x := hw.1.2.2.2.2.2.1
  refine Wf.mk hw (stmF_agr h44x) ⟨cn V 7, hw.1.2.2.2.2.2.2.2.2.1, ?_⟩ ⟨cn V 8, hw.1.2.2.2.2.2.2.2.2.2.1, ?_⟩ ⟨cn V 9, hw.1.2.2.2.2.2.2.2.2.2.2.1, ?_⟩ (fun k hk => ?_)
  · rw [stmF_o (Or.inl (by decide))]; exact hw.n (by decide)
  · rw [stmF_o (Or.inl (by decide))]; exact hw.n (by decide)
  · rw [stmF_o (Or.inl (by decide))]; exact hw.n (by decide)
  · obtain ⟨c, t, e1x, l1x, e2x, l2x⟩ := hw.ships k hk
    rw [stmF_o (f := 13) (Or.inl (by decide)), show stmF V 14 k = stmS k V 14 k from stmW_at hk]
    unfold stmS
    split
    · rename_i q
      have t0x : 0 < t := by
        apply Decidable.byContradiction; intro r
        have := q.2; rw [e2x, show t = 0 by omega] at this; exact absurd this (by decide)
      refine ⟨c, t - 1, e1x, l1x, ?_, fun m q1x q2x => by have := l2x m q1x q2x; omega⟩
      rw [xu_at, e2x]; exact nI_sub (b := 1) t0x
    · exact ⟨c, t, e1x, l1x, e2x, l2x⟩
theorem cn13x {a : Int32} {j : Nat} (h : j ≠ 13) : cn (xu v 1 13 a) j = cn v j := by unfold cn; rw [xu_o (Or.inr h)]
theorem Wf.x13 (hw : Wf v) {a : Int32} : Wf (xu v 1 13 a) := by
  have o : ∀ f i, f ≠ 1 → xu v 1 13 a f i = v f i := fun f i h => xu_o (Or.inl h)
  obtain ⟨⟨n0x, n1x⟩, hT, hG, hP, hS⟩ := hw
  refine ⟨⟨fun j hj => ?_, ?_⟩, fun t ht => ?_, fun c hc => ?_, ⟨fun w hw => ?_, fun w hw => ?_⟩, fun s hs => ?_⟩
  · rw [xu_o (Or.inr (by omega)), cn13x (by omega)]; exact n0x j hj
  · simp only [cn13x (v := v) (a := a) (j := 0) (by decide), cn13x (v := v) (a := a) (j := 1) (by decide), cn13x (v := v) (a := a) (j := 2) (by decide), cn13x (v := v) (a := a) (j := 3) (by decide), cn13x (v := v) (a := a) (j := 4) (by decide), cn13x (v := v) (a := a) (j := 5) (by decide), cn13x (v := v) (a := a) (j := 6) (by decide), cn13x (v := v) (a := a) (j := 7) (by decide), cn13x (v := v) (a := a) (j := 8) (by decide), cn13x (v := v) (a := a) (j := 9) (by decide), cn13x (v := v) (a := a) (j := 10) (by decide), cn13x (v := v) (a := a) (j := 11) (by decide), cn13x (v := v) (a := a) (j := 12) (by decide)]
    exact n1x
  · rw [cn13x (by decide)] at ht
    obtain ⟨p, lg, sf, h1x, h2x, h3x, h4x, h5x, h6x, h7x, h8x⟩ := hT t ht
    refine ⟨p, lg, sf, (o 5 t (by decide)).trans h1x, h2x, h3x, (o 3 t (by decide)).trans h4x, h5x, (o 4 t (by decide)).trans h6x, h7x, fun k hk => ?_⟩
    obtain ⟨y, y1x, y2x⟩ := h8x k hk
    exact ⟨y, (o 6 _ (by decide)).trans y1x, y2x⟩
  · rw [o 2 c (by decide)]; exact hG c hc
  · rw [cn13x (by decide)] at hw
    rw [o 7 w (by decide), o 8 w (by decide), o 9 w (by decide), cn13x (by decide)]; exact hP.1 w hw
  · rw [cn13x (by decide)] at hw
    rw [o 10 w (by decide), o 11 w (by decide), o 12 w (by decide), cn13x (by decide)]; exact hP.2 w hw
  · rw [cn13x (by decide)] at hs
    rw [o 13 s (by decide), o 14 s (by decide), o 15 s (by decide), o 16 s (by decide), cn13x (by decide)]; exact hS s hs
theorem SeaV.x13 (h : SeaV I s v) {a : Int32} : SeaV I s (xu v 1 13 a) := by
  have o : ∀ f i, f ≠ 1 → xu v 1 13 a f i = v f i := fun f i h => xu_o (Or.inl h)
  obtain ⟨h1x, h2x, h3x, h4x, h5x, h6x, h7x, h8x⟩ := h
  refine ⟨fun j hj => ?_, ?_, ?_, fun c hc => ?_, fun t ht => ?_, fun w hw => ?_, fun w hw => ?_, fun k hk => ?_⟩
  · rw [cn13x (by omega)]; exact h1x j hj
  · rw [cn13x (by decide)]; exact h2x
  · rw [cn13x (by decide)]; exact h3x
  · rw [o 2 c (by decide)]; exact h4x c hc
  · rw [cn13x (by decide)] at ht
    rw [o 3 t (by decide), o 4 t (by decide), o 5 t (by decide)]
    obtain ⟨y1x, y2x, y3x, y4x⟩ := h5x t ht
    exact ⟨y1x, y2x, y3x, fun k a b => by rw [o 6 _ (by decide)]; exact y4x k a b⟩
  · rw [cn13x (by decide)] at hw
    rw [o 7 w (by decide), o 8 w (by decide), o 9 w (by decide)]; exact h6x w hw
  · rw [cn13x (by decide)] at hw
    rw [o 10 w (by decide), o 11 w (by decide), o 12 w (by decide)]; exact h7x w hw
  · rw [cn13x (by decide)] at hk
    rw [o 15 k (by decide), o 16 k (by decide)]; exact h8x k hk
theorem MomV.ext {V : Nat → Nat → Int32} (h : MomV I m v) (hc : ∀ j, j = 4 ∨ j = 7 ∨ j = 8 ∨ j = 9 → cn V j = cn v j) (h17x : V 1 7 = v 1 7) (hs : ∀ f k, k < cn v 4 → f = 13 ∨ f = 14 ∨ f = 17 ∨ f = 18 → V f k = v f k) (hd : ∀ f k, 20 ≤ f → f ≤ 23 → V f k = v f k) : MomV I m V := by
  rw [MomV_iff] at h ⊢
  obtain ⟨⟨a1x, a2x, a3x⟩, b⟩ := h
  refine ⟨⟨by rw [hc 7 (by decide)]; exact a1x, by rw [hc 8 (by decide)]; exact a2x, fun k hk => ?_⟩, ?_⟩
  · rw [hc 4 (by decide)] at hk
    rw [hs 13 k hk (by decide), hs 14 k hk (by decide), hs 17 k hk (by decide), hs 18 k hk (by decide)]; exact a3x k hk
  · rw [hc 9 (by decide), digL_ext h17x hd]; exact b
theorem MomV.x13 (h : MomV I m v) {a : Int32} : MomV I m (xu v 1 13 a) := h.ext (fun j q => cn13x (by omega)) (xu_o (Or.inr (by decide))) (fun f k _ q => xu_o (Or.inl (by omega))) (fun f k q _ => xu_o (Or.inl (by omega)))
theorem MomV.u14 {J : Nat → Nat → Int32} {j : Nat} {x : Int32} (h : MomV I m v) (gg : J (m + 2) j = x) (ff : ∀ p t, p ≠ m + 2 ∨ t ≠ j → J p t = I p t) : MomV J m (xu v 14 j x) := by
  rw [MomV_iff] at h ⊢
  refine ⟨h.1.u14 gg ff, ?_⟩
  rw [cn_xu (by decide), digL_ext (v := v) (xu_o (Or.inl (by decide))) (fun f k q _ => xu_o (Or.inl (by omega)))]
  exact h.2.fr (ff _ _ (by omega)) (fun i k q _ => ff _ _ (by omega))
def dwV (nx : Nat → Nat) (V : Nat → Nat → Int32) (cd : List (Nat × Nat)) (cl : List (Nat × Nat × Nat)) : Nat → Nat → Int32 := xu (rday V cd cl) 1 13 (nI (nx (dxV V)))
def dwD (nx : Nat → Nat) (cd : List (Nat × Nat)) (cl : List (Nat × Nat × Nat)) (z : (Nat → Nat → Int32) × Nat) : (Nat → Nat → Int32) × Nat := if nx (dxV z.1) / 65536 % cn z.1 6 < cn z.1 5 then (stmF (dwV nx z.1 cd cl), z.2 + 1) else (dwV nx z.1 cd cl, z.2)
def dwN (nx : Nat → Nat) (v : Nat → Nat → Int32) (cd : List (Nat × Nat)) (cl : List (Nat × Nat × Nat)) : Nat → (Nat → Nat → Int32) × Nat := itN (fun _ z => dwD nx cd cl z) (v, 0)
/-- what holds along the days -/
def dwI (v : Nat → Nat → Int32) (n : Nat) (z : (Nat → Nat → Int32) × Nat) : Prop := Wf z.1 ∧ agr z.1 (xu v 1 13 (z.1 1 13)) ∧ z.1 1 13 = nI (dxV z.1) ∧ dxV z.1 < 2 ^ 31 ∧ cn z.1 7 = cn v 7 + n ∧ z.2 ≤ n
theorem agr13 {U : Nat → Nat → Int32} (h : agr V (xu v 1 13 (V 1 13))) (q : agr U V) : agr U (xu v 1 13 (U 1 13)) := by
  intro f i r
  by_cases e : f = 1 ∧ i = 13
  · obtain ⟨rfl, rfl⟩ := e; rw [xu_at]
  · rw [xu_o (by omega), q f i r, h f i r, xu_o (by omega)]
theorem not_slot13 : ¬ slot 1 13 := by rw [slot_iff]; omega
theorem agr13x {U : Nat → Nat → Int32} {a : Int32} (h : agr V (xu v 1 13 (V 1 13))) (q : agr U V) : agr (xu U 1 13 a) (xu v 1 13 a) := by
  intro f i r
  by_cases e : f = 1 ∧ i = 13
  · obtain ⟨rfl, rfl⟩ := e; rw [xu_at, xu_at]
  · rw [xu_o (by omega), xu_o (by omega), q f i r, h f i r, xu_o (by omega)]
theorem dxV_xu {a : Nat} (h : a < 2 ^ 31) : dxV (xu v 1 13 (nI a)) = a := by unfold dxV; rw [xu_at, nI_clamp h]
theorem dwS_st {z : (Nat → Nat → Int32) × Nat} {n y : Nat} (hy : y < 2 ^ 31) (a : dwI v n z) (hn : cn v 7 + (n + 1) ≤ 20000) : dwI v (n + 1) (stmF (xu (rday z.1 cd cl) 1 13 (nI y)), z.2 + 1) ∧ dwI v (n + 1) (xu (rday z.1 cd cl) 1 13 (nI y), z.2) := by
  obtain ⟨a1x, a2x, a3x, a4x, a5x, a6x⟩ := a
  have w1x : Wf (rday z.1 cd cl) := rday_wf a1x (by omega)
  have g1x := agr13x (a := nI y) a2x (rday_agr (cd := cd) (cl := cl) a1x)
  have c7x : cn (xu (rday z.1 cd cl) 1 13 (nI y)) 7 = cn v 7 + (n + 1) := by rw [cn13x (by decide), rday_7 a1x, a5x]; omega
  have e13x : xu (rday z.1 cd cl) 1 13 (nI y) 1 13 = nI y := xu_at
  have d13x : dxV (xu (rday z.1 cd cl) 1 13 (nI y)) = y := dxV_xu hy
  have w2x : Wf (xu (rday z.1 cd cl) 1 13 (nI y)) := w1x.x13
  generalize xu (rday z.1 cd cl) 1 13 (nI y) = U at g1x c7x e13x d13x w2x ⊢
  have h44x := w2x.1.2.2.2.2.2.1
  have g2x : agr U (xu v 1 13 (U 1 13)) := by rw [e13x]; exact g1x
  have s13x : stmF U 1 13 = nI y := (stmF_o (Or.inl (by decide))).trans e13x
  have t13x : dxV (stmF U) = y := by unfold dxV; rw [s13x, nI_clamp hy]
  refine ⟨⟨stmF_wf w2x, agr13 g2x (stmF_agr h44x), ?_, ?_, ?_, ?_⟩, w2x, g2x, ?_, ?_, c7x, ?_⟩
  · show stmF U 1 13 = nI (dxV (stmF U)); rw [s13x, t13x]
  · show dxV (stmF U) < 2 ^ 31; rw [t13x]; exact hy
  · show cn (stmF U) 7 = _; rw [stmF_cn]; exact c7x
  · show z.2 + 1 ≤ n + 1; omega
  · show U 1 13 = nI (dxV U); rw [e13x, d13x]
  · show dxV U < 2 ^ 31; rw [d13x]; exact hy
  · show z.2 ≤ n + 1; omega
theorem dwD_y {nx : Nat → Nat} {z : (Nat → Nat → Int32) × Nat} {y : Nat} (h : nx (dxV z.1) = y) : dwD nx cd cl z = if y / 65536 % cn z.1 6 < cn z.1 5 then (stmF (xu (rday z.1 cd cl) 1 13 (nI y)), z.2 + 1) else (xu (rday z.1 cd cl) 1 13 (nI y), z.2) := by
  unfold dwD dwV; rw [h]
theorem dwN_s {nx : Nat → Nat} {n : Nat} : dwN nx v cd cl (n + 1) = dwD nx cd cl (dwN nx v cd cl n) := rfl
theorem dwN_ok {nx : Nat → Nat} (hnx : ∀ x, nx x < 2 ^ 31) (hw : Wf v) (h1x : v 1 13 = nI (dxV v)) (h2x : dxV v < 2 ^ 31) : ∀ n, cn v 7 + n ≤ 20000 → dwI v n (dwN nx v cd cl n) := by
  intro n
  induction n with
  | zero => intro _; exact ⟨hw, fun f i _ => (congrFun (congrFun (xu_same (V := v) (f := 1) (i := 13)) f) i).symm, h1x, h2x, rfl, Nat.le_refl _⟩
  | succ n ih =>
    intro hn
    have a := ih (by omega)
    rw [dwN_s]
    generalize dwN nx v cd cl n = z at a
    have hy := hnx (dxV z.1)
    obtain ⟨y, ey⟩ : ∃ y, nx (dxV z.1) = y := ⟨_, rfl⟩
    rw [ey] at hy
    rw [dwD_y ey]
    have st := dwS_st (cd := cd) (cl := cl) hy a hn
    split
    · exact st.1
    · exact st.2
theorem cs_storm (hM : MomAt sh R m) (hms : R m 0 = some s) (hS : SeaAt sh R s) (hV : SeaV I s v) (hw : Wf v) (hW : MomV I m v) (hsm : s + 12 < m ∨ m + 8 < s) : Ec X 2 50 [.ref m] (sh, I, L, R) (fun r h' => r = none ∧ ∃ J : Nat → Nat → Int32, h' = (sh, J, L, R) ∧ MomV J m (stmF v) ∧ ∀ i t, i < m ∨ m + 8 < i → J i t = I i t) := by
  have h44x := hw.1.2.2.2.2.2.1
  refine Ec.of (Nat.le_of_ble_eq_true rfl) ?_
  refine e_ipush rfl ?_
  refine e_istore rfl ?_
  refine Eg.pk [0, 1] [1, 0] rfl (by decide) ?_
  refine up_ind (p := fun j => ∀ J : Nat → Nat → Int32, MomV J m (stmW v j) → (∀ i t, i < m ∨ m + 8 < i → J i t = I i t) → Eg X xTc 1 50 2 [(0, .ref m), (1, .int (nI j))] [] (sh, J, L, R) (fun r h' => r = none ∧ ∃ J : Nat → Nat → Int32, h' = (sh, J, L, R) ∧ MomV J m (stmF v) ∧ ∀ i t, i < m ∨ m + 8 < i → J i t = I i t)) (n := cn v 4) (j := 0) (fun j hj ih J z1x z2x => ?_) (fun J z1x z2x => ?_) (Nat.zero_le _) I hW (fun _ _ _ => rfl)
  · have s4x : J s 4 = nI (cn v 4) := (z2x s 4 (by omega)).trans (hV.1 4 (by decide))
    change ∀ J : Nat → Nat → Int32, MomV J m (stmS j (stmW v j)) → _ at ih
    have c4x : cn (stmW v j) 4 = cn v 4 := by unfold cn; rw [stmW_o (Or.inl (by decide))]
    generalize stmW v j = U at z1x ih c4x
    obtain ⟨q1x, q2x, q3x, q4x⟩ := z1x.2.2.1 j (by omega)
    refine e_iload rfl rfl ?_
    refine e_aload rfl rfl ?_
    refine e_getR rfl hM.1 hms ?_
    refine e_getIv rfl hS.1 s4x ?_
    refine e_cge_f rfl (nI_ge hj (by omega)) ?_
    refine e_aload rfl rfl ?_
    refine e_iload rfl rfl ?_
    refine Eg.p2 rfl (by decide) (by decide) rfl (Nat.le_of_ble_eq_true rfl) (xrcv_of rfl hM.1 rfl) ((cs_isDryR hM (k := j) (by omega)).mono (by decide)) ?_
    refine e_ifne_b rfl (fun b18x => ?_) (fun b18x => ?_)
    · refine e_iinc rfl rfl ?_
      refine e_goto rfl ?_
      refine Eg.pk [0, 1] [1, 0] rfl (by decide) ?_
      rw [nI_1]
      have er : stmS j U = U := if_neg (fun q => yn_n0.mp b18x (q4x.trans q.1))
      rw [er] at ih
      exact ih J z1x z2x
    · refine e_aload rfl rfl ?_
      refine e_getR rfl hM.1 (hM.2 1 _ rfl).2 ?_
      refine e_iload rfl rfl ?_
      refine e_ialv (t := j) (n := 4) rfl (hM.2 1 _ rfl).1 rfl (by omega) (by decide) q2x ?_
      refine e_ifle_b rfl (fun b27x => ?_) (fun b27x => ?_)
      · refine e_iinc rfl rfl ?_
        refine e_goto rfl ?_
        refine Eg.pk [0, 1] [1, 0] rfl (by decide) ?_
        rw [nI_1]
        have er : stmS j U = U := if_neg (fun q => absurd q.2 (Int32.not_lt.mpr b27x))
        rw [er] at ih
        exact ih J z1x z2x
      · refine e_aload rfl rfl ?_
        refine e_getR rfl hM.1 (hM.2 1 _ rfl).2 ?_
        refine e_iload rfl rfl ?_
        refine e_dup2 rfl ?_
        refine e_ialv (t := j) (n := 4) rfl (hM.2 1 _ rfl).1 rfl (by omega) (by decide) q2x ?_
        refine e_ipush rfl ?_
        refine e_isub rfl ?_
        refine e_iasJ (t := j) (n := 4) rfl (hM.2 1 _ rfl).1 rfl (by omega) (by decide) (fun J1x g1x f1x => ?_)
        refine e_iinc rfl rfl ?_
        refine e_goto rfl ?_
        refine Eg.pk [0, 1] [1, 0] rfl (by decide) ?_
        rw [nI_1]
        have er : stmS j U = xu U 14 j (U 14 j - 1) := if_pos ⟨q4x.symm.trans (Decidable.not_not.mp (yn_0.mp b18x)), Int32.not_le.mp b27x⟩
        rw [er] at ih
        exact ih J1x (z1x.u14 g1x f1x) (fun i t q => (f1x i t (by omega)).trans (z2x i t q))
  · have s4x : J s 4 = nI (cn v 4) := (z2x s 4 (by omega)).trans (hV.1 4 (by decide))
    refine e_iload rfl rfl ?_
    refine e_aload rfl rfl ?_
    refine e_getR rfl hM.1 hms ?_
    refine e_getIv rfl hS.1 s4x ?_
    refine e_cge_t rfl (Int32.le_refl _) ?_
    exact Eg.ret rfl (by decide) rfl ⟨rfl, J, rfl, z1x, z2x⟩
theorem draw_l {x : Nat} (hx : x < 2 ^ 31) : lN x * 1103515245 + 12345 - (lN x * 1103515245 + 12345) / 2147483648 * 2147483648 = lN (nxD x) := by
  have e : lN x * 1103515245 + 12345 = lN (x * 1103515245 + 12345) := by
    rw [show (1103515245 : Int64) = lN 1103515245 from rfl, show (12345 : Int64) = lN 12345 from rfl, lN_mul, lN_add]
  rw [e, show (2147483648 : Int64) = lN 2147483648 from rfl]
  exact lN_mod (by omega) (by decide)
theorem cs_nextDraw (h237x : sh[237]? = some (0, 9)) {x : Nat} (hx : x < 2 ^ 31) (hL : L 237 5 = lN x) : Ec X 1 11 [.ref 237] (sh, I, L, R) (fun r h' => r = some (.long (lN (nxD x / 65536))) ∧ ∃ M : Nat → Nat → Int64, h' = (sh, I, M, R) ∧ M 237 5 = lN (nxD x) ∧ ∀ p q, p ≠ 237 ∨ q ≠ 5 → M p q = L p q) := by
  refine Ec.of (Nat.le_of_ble_eq_true rfl) ?_
  refine e_aload rfl rfl ?_
  refine e_aload rfl rfl ?_
  refine e_getL rfl h237x ?_
  rw [hL]
  refine e_lpush rfl ?_
  refine e_lmul rfl ?_
  refine e_lpush rfl ?_
  refine e_ladd rfl ?_
  refine e_lpush rfl ?_
  refine e_lrem rfl (by decide) ?_
  rw [draw_l hx]
  refine e_putL rfl h237x ?_
  refine e_aload rfl rfl ?_
  refine e_getL rfl h237x ?_
  rw [xu_at]
  refine e_lpush rfl ?_
  refine e_ldiv rfl (by decide) ?_
  rw [show lN (nxD x) / 65536 = lN (nxD x / 65536) from lN_div (b := 65536) (by have := nxD_lt (x := x); omega) (by decide)]
  exact Eg.ret rfl (by decide) rfl ⟨rfl, _, rfl, xu_at, fun p q r => xu_o r⟩
end DW
