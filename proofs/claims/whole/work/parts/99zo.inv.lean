/-! THE INVARIANT: what stands between two calls -/
section IV
variable {X : xX} {sh sh' : List (Nat × Nat)} {I J : Nat → Nat → Int32} {L : Nat → Nat → Int64} {R R' : Nat → Nat → Option Nat} {v : Nat → Nat → Int32} {P : Nat → Int32} {a s y n rc : Nat} {B : Nat → Nat} {cds : Nat → List (Nat × Nat)} {cls : Nat → List (Nat × Nat × Nat)}
theorem Ec.det {d k : Nat} {as : List Value} {h : xH} {Q1x : Option Value → xH → Prop} {Q2x : Option Value → xH → Option Value → xH → Prop} (h1x : Ec X d k as h Q1x) (h2x : ∀ r h', Q1x r h' → Ec X d k as h (Q2x r h')) : Ec X d k as h (fun r h' => Q1x r h' ∧ Q2x r h' r h') := by
  obtain ⟨r, h', q1x, n1x, e1x⟩ := h1x
  obtain ⟨r2x, h2', q2x, n2x, e2x⟩ := h2x r h' q1x
  have e3x := e1x (max n1x n2x) (Nat.le_max_left _ _)
  have e4x := e2x (max n1x n2x) (Nat.le_max_right _ _)
  rw [e3x] at e4x
  have e5x := Option.some.inj e4x
  have e6x : r = r2x := congrArg Prod.fst e5x
  have e7x : h' = h2' := congrArg Prod.snd e5x
  subst e6x; subst e7x
  exact ⟨r, h', ⟨q1x, q2x⟩, n1x, e1x⟩
theorem sh_up {q : Nat × Nat} {i : Nat} (hs : ∃ e, sh' = sh ++ e) (h : sh[i]? = some q) : sh'[i]? = some q := by
  obtain ⟨e, rfl⟩ := hs
  have hl : i < sh.length := (List.getElem?_eq_some_iff.mp h).1
  rw [List.getElem?_append_left hl]; exact h
theorem sh_same : ∃ e, sh = sh ++ e := ⟨[], (List.append_nil sh).symm⟩
theorem sh_lt {q : Nat × Nat} {i : Nat} (h : sh[i]? = some q) : i < sh.length := (List.getElem?_eq_some_iff.mp h).1
theorem MomAt.mv {m : Nat} (h : MomAt sh R m) (hs : ∃ e, sh' = sh ++ e) (e : ∀ k, k ≠ 0 → R' m k = R m k) : MomAt sh' R' m := by
  have g := h.frR e
  exact ⟨sh_up hs g.1, fun j q hq => ⟨sh_up hs (g.2 j q hq).1, (g.2 j q hq).2⟩⟩
theorem SeaAt.mv {m : Nat} (h : SeaAt sh R m) (hs : ∃ e, sh' = sh ++ e) (e : ∀ k, k ≠ 0 → R' m k = R m k) : SeaAt sh' R' m := by
  have g := h.frR e
  exact ⟨sh_up hs g.1, fun j q hq => ⟨sh_up hs (g.2 j q hq).1, (g.2 j q hq).2⟩⟩
theorem SeaR.mv (h : SeaR sh I R s v) (hs : ∃ e, sh' = sh ++ e) (eI : ∀ i k, s ≤ i → i ≤ s + 12 → J i k = I i k) (eR : ∀ k, R' s k = R s k) : SeaR sh' J R' s v := ⟨h.1.mv hs (fun k _ => eR k), h.2.1.fr eI, h.2.2.fr eI⟩
theorem RuAt.mv {r : Nat} (h : RuAt sh R r) (hs : ∃ e, sh' = sh ++ e) (e : ∀ k, R' r k = R r k) : RuAt sh' R' r := ⟨sh_up hs h.1, fun j q hq => ⟨sh_up hs (h.2 j q hq).1, (e _).trans (h.2 j q hq).2⟩⟩
theorem MW.mv (h : MW sh R) (hs : ∃ e, sh' = sh ++ e) (e : ∀ k, R' 290 k = R 290 k) : MW sh' R' := ⟨sh_up hs h.1, fun j q hq => ⟨sh_up hs (h.2 j q hq).1, (e _).trans (h.2 j q hq).2⟩⟩
/-- what stands for good -/
def KS (sh : List (Nat × Nat)) (R : Nat → Nat → Option Nat) : Prop := sh[0]? = some (11, 13) ∧ (R 0 0 = some 1 ∧ R 0 1 = some 6 ∧ R 0 2 = some 7 ∧ R 0 3 = some 8 ∧ R 0 5 = some 9 ∧ R 0 7 = some 35 ∧ R 0 8 = some 236 ∧ R 0 9 = some 237 ∧ R 0 10 = some 250 ∧ R 0 11 = some 258 ∧ R 0 12 = some 259) ∧ TpAt sh R ∧ (sh[6]? = some (8, 3) ∧ R 6 0 = some 1) ∧ (sh[7]? = some (6, 3) ∧ R 7 0 = some 1) ∧ (sh[8]? = some (24, 6) ∧ ∀ r, r < 6 → R 8 r = some (260 + 5 * r) ∧ RuAt sh R (260 + 5 * r)) ∧ sh[236]? = some (25, 4) ∧ CrAt sh R ∧ sh[258]? = some (1, 4) ∧ sh[259]? = some (20, 4)
theorem KS.fr (h : KS sh R) (hs : ∃ e, sh' = sh ++ e) (e : ∀ i k, i < 9 ∨ 236 < i ∧ i < 290 → (i ≠ 0 ∨ k ≠ 6) → (i ≠ 6 ∨ k ≠ 1) → (i ≠ 7 ∨ k ≠ 1) → (i ≠ 241 ∨ k ≠ 0) → i ≠ 250 → R' i k = R i k) : KS sh' R' := by
  obtain ⟨h0x, ⟨a0x, a1x, a2x, a3x, a5x, a7x, a8x, a9x, a10x, a11x, a12x⟩, ⟨t1x, t2x, t3x, t4x, t5x, u0x, u3x, u4x, u5x⟩, ⟨h6x, r6x⟩, ⟨h7x, r7x⟩, ⟨h8x, r8x⟩, h236x, ⟨c0x, c1x, c2x, c3x, d0x, d1x, d2x, d3x, cm⟩, h258x, h259x⟩ := h
  have z : ∀ {i k : Nat} {x : Option Nat}, R i k = x → (i < 9 ∨ 236 < i ∧ i < 290) → (i ≠ 0 ∨ k ≠ 6) → (i ≠ 6 ∨ k ≠ 1) → (i ≠ 7 ∨ k ≠ 1) → (i ≠ 241 ∨ k ≠ 0) → i ≠ 250 → R' i k = x := fun q b1x b2x b3x b4x b5x b6x => (e _ _ b1x b2x b3x b4x b5x b6x).trans q
  refine ⟨sh_up hs h0x, ⟨?_, ?_, ?_, ?_, ?_, ?_, ?_, ?_, ?_, ?_, ?_⟩, ⟨sh_up hs t1x, sh_up hs t2x, sh_up hs t3x, sh_up hs t4x, sh_up hs t5x, ?_, ?_, ?_, ?_⟩, ⟨sh_up hs h6x, ?_⟩, ⟨sh_up hs h7x, ?_⟩, ⟨sh_up hs h8x, fun r hr => ⟨?_, ?_⟩⟩, sh_up hs h236x, ⟨sh_up hs c0x, sh_up hs c1x, sh_up hs c2x, sh_up hs c3x, ?_, ?_, ?_, ?_, ?_⟩, sh_up hs h258x, sh_up hs h259x⟩
  · exact z a0x (by omega) (by omega) (by omega) (by omega) (by omega) (by omega)
  · exact z a1x (by omega) (by omega) (by omega) (by omega) (by omega) (by omega)
  · exact z a2x (by omega) (by omega) (by omega) (by omega) (by omega) (by omega)
  · exact z a3x (by omega) (by omega) (by omega) (by omega) (by omega) (by omega)
  · exact z a5x (by omega) (by omega) (by omega) (by omega) (by omega) (by omega)
  · exact z a7x (by omega) (by omega) (by omega) (by omega) (by omega) (by omega)
  · exact z a8x (by omega) (by omega) (by omega) (by omega) (by omega) (by omega)
  · exact z a9x (by omega) (by omega) (by omega) (by omega) (by omega) (by omega)
  · exact z a10x (by omega) (by omega) (by omega) (by omega) (by omega) (by omega)
  · exact z a11x (by omega) (by omega) (by omega) (by omega) (by omega) (by omega)
  · exact z a12x (by omega) (by omega) (by omega) (by omega) (by omega) (by omega)
  · exact z u0x (by omega) (by omega) (by omega) (by omega) (by omega) (by omega)
  · exact z u3x (by omega) (by omega) (by omega) (by omega) (by omega) (by omega)
  · exact z u4x (by omega) (by omega) (by omega) (by omega) (by omega) (by omega)
  · exact z u5x (by omega) (by omega) (by omega) (by omega) (by omega) (by omega)
  · exact z r6x (by omega) (by omega) (by omega) (by omega) (by omega) (by omega)
  · exact z r7x (by omega) (by omega) (by omega) (by omega) (by omega) (by omega)
  · exact z (r8x r hr).1 (by omega) (by omega) (by omega) (by omega) (by omega) (by omega)
  · exact (r8x r hr).2.mv hs (fun k => e _ _ (by omega) (by omega) (by omega) (by omega) (by omega) (by omega))
  · exact z d0x (by omega) (by omega) (by omega) (by omega) (by omega) (by omega)
  · exact z d1x (by omega) (by omega) (by omega) (by omega) (by omega) (by omega)
  · exact z d2x (by omega) (by omega) (by omega) (by omega) (by omega) (by omega)
  · exact z d3x (by omega) (by omega) (by omega) (by omega) (by omega) (by omega)
  · exact cm.mv hs (fun k hk => e _ _ (by omega) (by omega) (by omega) (by omega) (by omega) (by omega))
theorem PA.mv {qa qb qc qd : Nat} (h : PA sh R qa qb qc qd) (hs : ∃ e, sh' = sh ++ e) (e : ∀ k, R' 250 k = R 250 k) : PA sh' R' qa qb qc qd := by
  obtain ⟨h0x, h1x, h2x, h3x, h4x, h5x, h6x, h7x, h8x, h9x⟩ := h
  exact ⟨sh_up hs h0x, ⟨sh_up hs h1x.1, (e _).trans h1x.2⟩, ⟨sh_up hs h2x.1, (e _).trans h2x.2⟩, ⟨sh_up hs h3x.1, (e _).trans h3x.2⟩, ⟨sh_up hs h4x.1, (e _).trans h4x.2⟩, ⟨sh_up hs h5x.1, (e _).trans h5x.2⟩, ⟨sh_up hs h6x.1, (e _).trans h6x.2⟩, ⟨sh_up hs h7x.1, (e _).trans h7x.2⟩, h8x, h9x⟩
/-- a state that is in order -/
def GV (v : Nat → Nat → Int32) (P : Nat → Int32) (a : Nat) : Prop := Wf v ∧ WfL v ∧ cn v 7 ≤ 9999 ∧ vz v ∧ pz P ∧ (∃ x, x < 2 ^ 31 ∧ v 1 13 = nI x) ∧ ∀ i, i < a → Wf (pvw P v i) ∧ cn (pvw P v i) 7 ≤ 9999
theorem WfL.ff (h : WfL v) : WfF v := fun k hk f hf => by
  obtain ⟨a, b, c, e1x, e2x, e3x, e4x, e5x, e6x, e7x⟩ := h.2.2 k hk
  have z : ∀ {x : Nat}, v f k = nI x → x ≤ 99 → v f k = nI (flN v f k) ∧ flN v f k ≤ 99 := by
    intro x q r
    unfold flN
    rw [q, nI_clamp (by omega)]
    exact ⟨rfl, r⟩
  rcases (show f = 29 ∨ f = 30 ∨ f = 31 by omega) with q | q | q
  · subst q; exact z e1x e3x
  · subst q; exact z e4x e5x
  · subst q; exact z e6x e7x
/-- an image: its world, its sea, what it holds -/
abbrev Im := Option (Nat × Nat × (Nat → Nat → Int32) × (Nat → Int32) × Nat)
def ImC (sh : List (Nat × Nat)) (I : Nat → Nat → Int32) (R : Nat → Nat → Option Nat) (t : Nat) : Im → Prop
  | none => R 236 t = none
  | some p => R 236 t = some p.1 ∧ WRel sh I R p.1 p.2.1 p.2.2.1 p.2.2.2.1 p.2.2.2.2 ∧ SeaR sh I R p.2.1 p.2.2.1
def ImM (I : Nat → Nat → Int32) (t : Nat) : Im → Prop
  | none => I 359 t = 0
  | some p => I 359 t = 1 ∧ ImgV (fun x => I 358 (1400 * t + x)) p.2.2.1 p.2.2.2.1 p.2.2.2.2
def ImG : Im → Prop
  | none => True
  | some p => GV p.2.2.1 p.2.2.2.1 p.2.2.2.2
theorem ImC.fr {t : Nat} {o : Im} (h : ImC sh I R t o) (hs : ∃ e, sh' = sh ++ e) (e : R' 236 t = R 236 t) (eI : ∀ p, o = some p → ∀ i k, (p.1 ≤ i ∧ i ≤ p.1 + 200 ∨ p.2.1 ≤ i ∧ i ≤ p.2.1 + 12) → J i k = I i k) (eR : ∀ p, o = some p → ∀ i k, (p.1 ≤ i ∧ i ≤ p.1 + 200 ∨ p.2.1 ≤ i ∧ i ≤ p.2.1 + 12) → R' i k = R i k) : ImC sh' J R' t o := by
  cases o with
  | none => exact e.trans h
  | some p =>
    obtain ⟨h1x, h2x, h3x⟩ := h
    exact ⟨e.trans h1x, h2x.gr hs (fun i q1x q2x => funext (fun k => eI p rfl i k (by omega))) (fun i q1x q2x => funext (fun k => eR p rfl i k (by omega))), h3x.mv hs (fun i k q1x q2x => eI p rfl i k (by omega)) (fun k => eR p rfl _ k (by omega))⟩
theorem ImM.fr {t : Nat} {o : Im} (h : ImM I t o) (e : ∀ k, J 359 k = I 359 k) (e2x : ∀ k, k < 5600 → J 358 k = I 358 k) (ht : t < 4) : ImM J t o := by
  cases o with
  | none => exact (e t).trans h
  | some p =>
    obtain ⟨h1x, h2x, h3x, h4x⟩ := h
    have q : ∀ x, x < 1400 → J 358 (1400 * t + x) = I 358 (1400 * t + x) := fun x hx => e2x _ (by omega)
    have ofl : ∀ f, f < 32 → fof f + fln f ≤ 1400 := by decide
    exact ⟨(e t).trans h1x, (q 0 (by omega)).trans h2x, fun f i hf hi => (q _ (by have := ofl f hf.2.1; omega)).trans (h3x f i hf hi), fun x hx => (q _ (by omega)).trans (h4x x hx)⟩
/-- where the seas and the worlds lie -/
def sOK (n s : Nat) : Prop := (s = 9 ∨ s = 22 ∨ 360 ≤ s) ∧ s + 12 < n
def Rg (n s y : Nat) (im : Nat → Im) : Prop := 360 ≤ n ∧ sOK n s ∧ sOK n y ∧ (s + 12 < y ∨ y + 12 < s) ∧ ∀ t p, t < 4 → im t = some p → (360 ≤ p.1 ∧ p.1 + 200 < n) ∧ sOK n p.2.1 ∧ (p.2.1 + 12 < y ∨ y + 12 < p.2.1) ∧ (p.1 + 200 < s ∨ s + 12 < p.1) ∧ (p.1 + 200 < y ∨ y + 12 < p.1) ∧ ∀ u q, u < 4 → im u = some q → (p.1 + 200 < q.2.1 ∨ q.2.1 + 12 < p.1) ∧ (u ≠ t → p.1 + 200 < q.1 ∨ q.1 + 200 < p.1)
/-- seas and images -/
def XI (sh : List (Nat × Nat)) (I : Nat → Nat → Int32) (R : Nat → Nat → Option Nat) (s : Nat) (v : Nat → Nat → Int32) (y : Nat) (im : Nat → Im) : Prop := SeaR sh I R s v ∧ SeaAt sh R y ∧ ∀ t, t < 4 → ImC sh I R t (im t)
theorem XI.fr {im : Nat → Im} (h : XI sh I R s v y im) (rg : Rg sh.length s y im) (hs : ∃ e, sh' = sh ++ e) (eI : ∀ i k, i < sh.length → (9 ≤ i ∧ i < 35 ∨ 360 ≤ i) → J i k = I i k) (eR : ∀ i k, i < sh.length → (9 ≤ i ∧ i < 35 ∨ i = 236 ∨ 360 ≤ i) → R' i k = R i k) : XI sh' J R' s v y im := by
  obtain ⟨r0x, ⟨r1x, r2x⟩, ⟨r3x, r4x⟩, r5x, r6x⟩ := rg
  refine ⟨h.1.mv hs (fun i k q1x q2x => eI i k (by omega) (by omega)) (fun k => eR s k (by omega) (by omega)), h.2.1.mv hs (fun k _ => eR y k (by omega) (by omega)), fun t ht => ?_⟩
  refine (h.2.2 t ht).fr hs (eR 236 t (by omega) (by omega)) (fun p e i k q => ?_) (fun p e i k q => ?_)
  · obtain ⟨b1x, ⟨b2x, b3x⟩, _⟩ := r6x t p ht e; exact eI i k (by omega) (by omega)
  · obtain ⟨b1x, ⟨b2x, b3x⟩, _⟩ := r6x t p ht e; exact eR i k (by omega) (by omega)
/-- the class's side -/
def CI (sh : List (Nat × Nat)) (I : Nat → Nat → Int32) (R : Nat → Nat → Option Nat) (v : Nat → Nat → Int32) (P : Nat → Int32) (a s y : Nat) (B : Nat → Nat) (n rc : Nat) (cds : Nat → List (Nat × Nat)) (cls : Nat → List (Nat × Nat × Nat)) (im : Nat → Im) : Prop := KS sh R ∧ (∃ qa qb qc qd, PA sh R qa qb qc qd) ∧ TpB I B n ∧ (I 0 4 = nI rc ∧ ∀ r, r < rc → RuV I (260 + 5 * r) (cds r) (cls r)) ∧ WRel sh I R 35 s v P a ∧ XI sh I R s v y im ∧ R 0 6 = some y
/-- the reference's side -/
def MI (sh : List (Nat × Nat)) (I : Nat → Nat → Int32) (R : Nat → Nat → Option Nat) (v : Nat → Nat → Int32) (P : Nat → Int32) (a : Nat) (B : Nat → Nat) (n rc : Nat) (cds : Nat → List (Nat × Nat)) (cls : Nat → List (Nat × Nat × Nat)) (im : Nat → Im) : Prop := MW sh R ∧ mV I v ∧ (∀ x, I 348 x = P x) ∧ I 290 71 = nI a ∧ (∀ k, k < 4 → I 309 k = 0) ∧ MB I B n ∧ I 290 56 = 11 ∧ (I 290 51 = nI rc ∧ ∀ r, r < rc → MuV I r (cds r) (cls r) ∧ I 340 r = nI (cls r).length) ∧ ∀ t, t < 4 → ImM I t (im t)
/-- what is told of both -/
def PI (v : Nat → Nat → Int32) (P : Nat → Int32) (a rc : Nat) (cds : Nat → List (Nat × Nat)) (cls : Nat → List (Nat × Nat × Nat)) (im : Nat → Im) : Prop := GV v P a ∧ a ≤ 20 ∧ rc ≤ 6 ∧ (∀ r, r < rc → ruOK (cds r) (cls r)) ∧ ∀ t, t < 4 → ImG (im t)
variable {im : Nat → Im}
theorem CI.frM (h : CI sh I R v P a s y B n rc cds cls im) (rg : Rg sh.length s y im) (e : ∀ i k, i < 290 ∨ 360 ≤ i → J i k = I i k) (hrc : rc ≤ 6) : CI sh J R v P a s y B n rc cds cls im := by
  obtain ⟨h1x, h2x, h3x, h4x, h5x, h6x, h7x⟩ := h
  exact ⟨h1x, h2x, h3x.fr (e _ _ (by omega)) (fun k => e _ _ (by omega)), ⟨(e _ _ (by omega)).trans h4x.1, fun r hr => (h4x.2 r hr).fr (fun i k q1x q2x => e i k (by omega))⟩, h5x.fr (fun i k q1x q2x => e i k (by omega)) (fun _ _ _ _ => rfl), h6x.fr rg sh_same (fun i k _ q => e i k (by omega)) (fun _ _ _ _ => rfl), h7x⟩
theorem MB.fr (h : MB I B n) (e1x : J 290 47 = I 290 47) (e2x : ∀ k, J 337 k = I 337 k) : MB J B n := ⟨h.1, e1x.trans h.2.1, fun j hj => ⟨(h.2.2 j hj).1, (e2x j).trans (h.2.2 j hj).2⟩⟩
theorem MI.fr (h : MI sh I R v P a B n rc cds cls im) (hs : ∃ e, sh' = sh ++ e) (e : ∀ i k, 290 ≤ i → i < 360 → J i k = I i k) (eR : ∀ k, R' 290 k = R 290 k) : MI sh' J R' v P a B n rc cds cls im := by
  obtain ⟨h1x, h2x, h3x, h4x, h5x, h6x, h7x, h8x, h9x⟩ := h
  exact ⟨h1x.mv hs eR, h2x.fz (fun i k q1x q2x => e i k (by omega) (by omega)), fun x => (e _ _ (by omega) (by omega)).trans (h3x x), (e _ _ (by omega) (by omega)).trans h4x, fun k hk => (e _ _ (by omega) (by omega)).trans (h5x k hk), h6x.fr (e _ _ (by omega) (by omega)) (fun k => e _ _ (by omega) (by omega)), (e _ _ (by omega) (by omega)).trans h7x, ⟨(e _ _ (by omega) (by omega)).trans h8x.1, fun r hr => ⟨(h8x.2 r hr).1.fr (fun i k q => e i k (by omega) (by omega)), (e _ _ (by omega) (by omega)).trans (h8x.2 r hr).2⟩⟩, fun t ht => (h9x t ht).fr (fun k => e _ _ (by omega) (by omega)) (fun k _ => e _ _ (by omega) (by omega)) ht⟩
/-- all of it -/
def INV (i : Nat) (h : xH) : Prop := ∃ sh I L R, h = (sh, I, L, R) ∧ (6 * sh.length ≤ 2160 + 201 * i ∧ 6 * xsum sh ≤ 127614 + 1429 * i) ∧ ∃ v P a s y B n rc cds cls im, CI sh I R v P a s y B n rc cds cls im ∧ MI sh I R v P a B n rc cds cls im ∧ PI v P a rc cds cls im ∧ Rg sh.length s y im
theorem INV.six {i : Nat} {h : xH} (q : INV i h) : INV (i + 6) h := by
  obtain ⟨sh, I, L, R, e, r, d⟩ := q
  exact ⟨sh, I, L, R, e, by omega, d⟩
theorem callOK.of {kC kM d1x : Nat} {as : List Value} {Inv : xH → Prop} {h : xH} {Qc : Option Value → xH → Prop} (hc : Ec X d1x kC (.ref 0 :: as) h Qc) (h1x : d1x ≤ 998) (k : ∀ r h1x, Qc r h1x → ∃ (w : Int32) (d2x : Nat) (Qm : Option Value → xH → Prop), d2x ≤ 998 ∧ r = some (.int w) ∧ h1x.1[290]? = some (12, 88) ∧ Ec X d2x kM (.ref 290 :: as) h1x Qm ∧ ∀ r2x h2x, Qm r2x h2x → r2x = some (.int w) ∧ Inv h2x) : callOK X kC kM as Inv h := by
  refine (hc.mono h1x).imp (fun r h' q => ?_)
  obtain ⟨w, d2x, Qm, a1x, a2x, a3x, a4x, a5x⟩ := k r h' q
  exact ⟨w, a2x, a3x, (a4x.mono a1x).imp a5x⟩
theorem callOK.ask {kC kM d1x d2x : Nat} {as : List Value} {Inv : xH → Prop} {h : xH} {z : Int32} (hc : Ec X d1x kC (.ref 0 :: as) h (fun r h' => r = some (.int z) ∧ h' = h)) (hm : Ec X d2x kM (.ref 290 :: as) h (fun r h' => r = some (.int z) ∧ h' = h)) (h1x : d1x ≤ 998) (h2x : d2x ≤ 998) (h3x : h.1[290]? = some (12, 88)) (hI : Inv h) : callOK X kC kM as Inv h := by
  refine callOK.of hc h1x ?_
  rintro r h' ⟨rfl, rfl⟩
  exact ⟨z, d2x, _, h2x, rfl, h3x, hm, fun r2x h2x q => ⟨q.1, by rw [q.2]; exact hI⟩⟩
theorem callOKl.ask {kC kM d1x d2x : Nat} {as : List Value} {Inv : xH → Prop} {h : xH} {z : Int64} (hc : Ec X d1x kC (.ref 0 :: as) h (fun r h' => r = some (.long z) ∧ h' = h)) (hm : Ec X d2x kM (.ref 290 :: as) h (fun r h' => r = some (.long z) ∧ h' = h)) (h1x : d1x ≤ 998) (h2x : d2x ≤ 998) (h3x : h.1[290]? = some (12, 88)) (hI : Inv h) : callOKl X kC kM as Inv h := by
  refine (hc.mono h1x).imp (fun r h' q => ?_)
  obtain ⟨rfl, rfl⟩ := q
  exact ⟨z, rfl, h3x, (hm.mono h2x).imp (fun r2x h2x q => ⟨q.1, by rw [q.2]; exact hI⟩)⟩
/-! what the calls take out of it -/
section US
variable (hC : CI sh I R v P a s y B n rc cds cls im) (hM : MI sh I R v P a B n rc cds cls im) (hP : PI v P a rc cds cls im) (hG : Rg sh.length s y im)
theorem CI.cq (hC : CI sh I R v P a s y B n rc cds cls im) (hP : PI v P a rc cds cls im) : CQ sh I R 35 47 s v := by
  obtain ⟨h1x, h2x, h3x, h4x, h5x, h6x, h7x⟩ := hC
  exact ⟨h1x.1, h1x.2.1.2.2.2.2.2.1, h5x.1.1, h5x.1.2.1, h5x.2.1, h5x.2.2.1, h6x.1.1, h6x.1.2.1, h6x.1.2.2, hP.1.1, h5x.2.2.2.1⟩
theorem CI.aq (hC : CI sh I R v P a s y B n rc cds cls im) (hP : PI v P a rc cds cls im) (hG : Rg sh.length s y im) : AQ sh I R 35 s 259 v P a := by
  obtain ⟨h1x, h2x, h3x, h4x, h5x, h6x, h7x⟩ := hC
  obtain ⟨r0x, ⟨r1x, r2x⟩, r3x⟩ := hG
  exact ⟨h1x.1, h1x.2.1.2.2.2.2.2.1, h1x.2.1.2.2.2.2.2.2.2.2.2.2, h1x.2.2.2.2.2.2.2.2.2, by decide, by decide, by omega, h6x.1, h5x, hP.1.1⟩
theorem CI.rul (hC : CI sh I R v P a s y B n rc cds cls im) (hP : PI v P a rc cds cls im) : RulC sh I R rc cds cls :=
  ⟨hC.1.2.2.2.2.2.1.1, hC.1.2.1.2.2.2.1, hC.2.2.2.1.1, hP.2.2.1, hC.1.2.2.2.2.2.1.2, fun r hr => ⟨hC.2.2.2.1.2 r hr, hP.2.2.2.1 r hr⟩⟩
theorem MI.rul (hM : MI sh I R v P a B n rc cds cls im) (hP : PI v P a rc cds cls im) : RulM I rc cds cls :=
  ⟨hM.2.2.2.2.2.2.2.1.1, hP.2.2.1, fun r hr => ⟨(hM.2.2.2.2.2.2.2.1.2 r hr).1, hP.2.2.2.1 r hr, (hM.2.2.2.2.2.2.2.1.2 r hr).2⟩⟩
theorem MI.mrq (hM : MI sh I R v P a B n rc cds cls im) (hP : PI v P a rc cds cls im) : MRq sh I R v P a := ⟨hM.1, hM.2.1, hP.1.1, hM.2.2.1, hM.2.2.2.1, hP.2.1, hM.2.2.2.2.1⟩
end US
end IV
