/-! voyage: the pure side -/
section VP
/-- tables of least numbers -/
def tab (inf : Nat) (P : Nat → Prop) (x : Nat) : Prop := x ≤ inf ∧ (x < inf → P x) ∧ ∀ k, P k → x ≤ k
theorem tab_iff {inf x : Nat} {P Q : Nat → Prop} (h : tab inf P x) (e : ∀ k, P k ↔ Q k) : tab inf Q x := ⟨h.1, fun q => (e x).mp (h.2.1 q), fun k q => h.2.2 k ((e k).mpr q)⟩
theorem tab_no {inf : Nat} {P : Nat → Prop} (h : ∀ k, ¬ P k) : tab inf P inf := ⟨Nat.le_refl _, fun q => absurd q (Nat.lt_irrefl _), fun k q => absurd q (h k)⟩
theorem tab_or {inf x y : Nat} {P Q : Nat → Prop} (h : tab inf P x) (g : tab inf Q y) : tab inf (fun k => P k ∨ Q k) (if y < x then y else x) := by
  by_cases c : y < x
  · rw [if_pos c]
    exact ⟨g.1, fun q => Or.inr (g.2.1 q), fun k q => by rcases q with q | q; have := h.2.2 k q; omega; exact g.2.2 k q⟩
  · rw [if_neg c]
    exact ⟨h.1, fun q => Or.inl (h.2.1 q), fun k q => by rcases q with q | q; exact h.2.2 k q; have := g.2.2 k q; omega⟩
theorem tab_one {inf y : Nat} (hy : y < inf) : tab inf (fun k => k = y) y := ⟨by omega, fun _ => rfl, fun k q => by omega⟩
theorem tab_dom {inf x : Nat} {P Q : Nat → Prop} (h : tab inf P x) (e : ∀ k, P k → Q k) (d : ∀ k, Q k → ∃ k0x, k0x ≤ k ∧ P k0x) : tab inf Q x :=
  ⟨h.1, fun q => e x (h.2.1 q), fun k q => by obtain ⟨k0x, l, p⟩ := d k q; have := h.2.2 k0x p; omega⟩
theorem tab_inf {inf x : Nat} {P : Nat → Prop} (h : tab inf P x) (hx : ¬ x < inf) (hb : ∀ k, P k → k < inf) : ∀ k, ¬ P k := fun k q => by have := h.2.2 k q; have := hb k q; omega
theorem tab_un {inf x y : Nat} {P : Nat → Prop} (h : tab inf P x) (g : tab inf P y) : x = y := by
  have h1x := h.1
  have g1x := g.1
  rcases Nat.lt_trichotomy x y with c | c | c
  · have := g.2.2 x (h.2.1 (by omega)); omega
  · exact c
  · have := h.2.2 y (g.2.1 (by omega)); omega
/-- a table of 12 cells by 31 waters at p -/
def TB (inf : Nat) (J : Nat → Nat → Int32) (p : Nat) (E : Nat → Nat → Nat → Prop) : Prop := ∀ c, c < 12 → ∀ w, w < 31 → ∃ x, J p (31 * c + w) = nI x ∧ tab inf (E c w) x
theorem TB.iff {inf p : Nat} {J : Nat → Nat → Int32} {E G : Nat → Nat → Nat → Prop} (h : TB inf J p E) (e : ∀ c w k, c < 12 → w < 31 → (E c w k ↔ G c w k)) : TB inf J p G := fun c hc w hw => by
  obtain ⟨x, e1x, e2x⟩ := h c hc w hw
  exact ⟨x, e1x, tab_iff e2x (fun k => e c w k hc hw)⟩
theorem TB.dom {inf p : Nat} {J : Nat → Nat → Int32} {E G : Nat → Nat → Nat → Prop} (h : TB inf J p E) (e : ∀ c w k, E c w k → G c w k) (d : ∀ c w k, G c w k → ∃ k0x, k0x ≤ k ∧ E c w k0x) : TB inf J p G := fun c hc w hw => by
  obtain ⟨x, e1x, e2x⟩ := h c hc w hw
  exact ⟨x, e1x, tab_dom e2x (e c w) (d c w)⟩
theorem TB.fr {inf p : Nat} {J K : Nat → Nat → Int32} {E : Nat → Nat → Nat → Prop} (h : TB inf J p E) (q : ∀ k, K p k = J p k) : TB inf K p E := fun c hc w hw => by
  obtain ⟨x, e1x, e2x⟩ := h c hc w hw
  exact ⟨x, (q _).trans e1x, e2x⟩
theorem TB.cp {inf p q : Nat} {J K : Nat → Nat → Int32} {E : Nat → Nat → Nat → Prop} (h : TB inf J p E) (e : ∀ k, k < 372 → K q k = J p k) : TB inf K q E := fun c hc w hw => by
  obtain ⟨x, e1x, e2x⟩ := h c hc w hw
  exact ⟨x, (e _ (by omega)).trans e1x, e2x⟩
theorem TB.no {inf p : Nat} {J : Nat → Nat → Int32} (h : ∀ k, k < 372 → J p k = nI inf) : TB inf J p (fun _ _ _ => False) := fun c hc w hw => ⟨inf, h _ (by omega), tab_no (fun _ q => q)⟩
/-- one number more at a place -/
theorem TB.put {inf p c w x y : Nat} {J K : Nat → Nat → Int32} {E : Nat → Nat → Nat → Prop} (h : TB inf J p E) (hc : c < 12) (hw : w < 31) (hy : y < inf) (ex : J p (31 * c + w) = nI x) (tx : tab inf (E c w) x) (e : K p (31 * c + w) = nI (if y < x then y else x)) (f : ∀ k, k ≠ 31 * c + w → K p k = J p k) : TB inf K p (fun a b k => E a b k ∨ a = c ∧ b = w ∧ k = y) := fun a ha b hb => by
  by_cases q : a = c ∧ b = w
  · obtain ⟨rfl, rfl⟩ := q
    exact ⟨_, e, tab_iff (tab_or tx (tab_one hy)) (fun k => by simp)⟩
  · obtain ⟨z, e1x, e2x⟩ := h a ha b hb
    exact ⟨z, (f _ (by omega)).trans e1x, tab_iff e2x (fun k => ⟨Or.inl, fun r => by rcases r with r | r; exact r; exact absurd ⟨r.1, r.2.1⟩ q⟩)⟩
/-! the sea of a voyage -/
def vC (v : Nat → Nat → Int32) (sp : Nat) : Nat := (v 13 sp).toNatClampNeg
def vW (v : Nat → Nat → Int32) (sp : Nat) : Nat := (v 14 sp).toNatClampNeg
def vT (v : Nat → Nat → Int32) (sp : Nat) : Nat := (v 15 sp).toNatClampNeg
def vH (v : Nat → Nat → Int32) (t c : Nat) : Int32 := lv v c (nI (cn v 7 + t))
/-- goings: 0 down, 1 stay, 2 up -/
def vgo (v : Nat → Nat → Int32) (sp t c j : Nat) : Bool := decide (j = 1 ∨ (1 ≤ c + j ∧ c + j ≤ cn v 0) ∧ vH v (t + 1) (c + j - 1) ≤ vH v t c + v 16 sp)
def wpr (v : Nat → Nat → Int32) (z : Int32) : Nat := if z = -1 then 0 else (pco v z.toNatClampNeg).toNatClampNeg
def vpr (v : Nat → Nat → Int32) (t c : Nat) : Nat := wpr v (wlo v c (nI (cn v 7 + t)))
theorem vS_ok {v : Nat → Nat → Int32} (hw : Wf v) {sp : Nat} (hs : sp < cn v 4) : v 13 sp = nI (vC v sp) ∧ vC v sp < cn v 0 ∧ v 14 sp = nI (vW v sp) ∧ vW v sp ≤ vT v sp ∧ v 15 sp = nI (vT v sp) ∧ 1 ≤ vT v sp ∧ vT v sp ≤ 30 := by
  have h12x := hw.1.2.1
  obtain ⟨c, w, m, b, e1x, e2x, e3x, e4x, e5x, e6x, e7x, e8x, e9x⟩ := hw.2.2.2.2 sp hs
  have a1x : vC v sp = c := by unfold vC; rw [e1x, nI_clamp (by omega)]
  have a2x : vW v sp = w := by unfold vW; rw [e3x, nI_clamp (by omega)]
  have a3x : vT v sp = m := by unfold vT; rw [e5x, nI_clamp (by omega)]
  rw [a1x, a2x, a3x]
  exact ⟨e1x, e2x, e3x, e4x, e5x, e6x, e7x⟩
theorem pco_ok {v : Nat → Nat → Int32} (hw : Wf v) {b : Nat} (hb : b < cn v 2) : pco v b = nI (pco v b).toNatClampNeg ∧ 1 ≤ (pco v b).toNatClampNeg ∧ (pco v b).toNatClampNeg ≤ 99 := by
  have h4x := hw.1.2.2.2.1
  obtain ⟨c, m, p, e1x, e2x, e3x, e4x, e5x, e6x, e7x⟩ := hw.2.2.2.1.1 b hb
  have : pco v b = nI p := by unfold pco; rw [if_pos (by omega)]; exact e5x
  rw [this, nI_clamp (by omega)]
  exact ⟨rfl, e6x, e7x⟩
theorem vpr_ok {v : Nat → Nat → Int32} (hw : Wf v) {t c : Nat} : (wlo v c (nI (cn v 7 + t)) = -1 ∧ vpr v t c = 0) ∨ ∃ b, b < cn v 2 ∧ wlo v c (nI (cn v 7 + t)) = nI b ∧ pco v b = nI (vpr v t c) ∧ 1 ≤ vpr v t c ∧ vpr v t c ≤ 99 := by
  have h4x := hw.1.2.2.2.1
  rcases wlo_bd (v := v) (c := c) (n := cn v 2) (h := lv v c (nI (cn v 7 + t))) with h | ⟨b, hb, h⟩
  · left
    have e : wlo v c (nI (cn v 7 + t)) = -1 := h
    exact ⟨e, by unfold vpr wpr; rw [e, if_pos rfl]⟩
  · right
    have e : wlo v c (nI (cn v 7 + t)) = nI b := h
    have p := pco_ok hw hb
    have ep : vpr v t c = (pco v b).toNatClampNeg := by unfold vpr wpr; rw [e, if_neg (nI_m1' (by omega)), nI_clamp (by omega)]
    rw [ep]
    exact ⟨b, hb, e, p.1, p.2.1, p.2.2⟩
theorem vpr_le {v : Nat → Nat → Int32} (hw : Wf v) {t c : Nat} : vpr v t c ≤ 99 := by
  rcases vpr_ok hw (t := t) (c := c) with h | ⟨b, h⟩ <;> omega
theorem vgo_lt {v : Nat → Nat → Int32} {sp t c j c' : Nat} (h : vgo v sp t c j = true) (e : c' + 1 = c + j) (hc : c < cn v 0) : c' < cn v 0 := by
  rcases of_decide_eq_true h with q | q <;> omega
/-- arrivals out of a cell with some water -/
def AR (v : Nat → Nat → Int32) (sp t jl jh c w k c' w' k' : Nat) : Prop := ∃ j, jl ≤ j ∧ j ≤ jh ∧ vgo v sp t c j = true ∧ c' + 1 = c + j ∧ w = w' + 1 ∧ k' = k
/-- arrivals without a filling and with one -/
def Lv (v : Nat → Nat → Int32) (sp u t : Nat) (a f : Prop) (jl jh c w k c' w' k' : Nat) : Prop := (a ∧ AR v sp t jl jh c w k c' w' k') ∨ (f ∧ 0 < vpr v t c ∧ AR v sp t jl jh c (vT v sp) (k + u * (vpr v t c * (vT v sp - w))) c' w' k')
/-- where the ship can be behind t days, and for what, by the first going and filling -/
def rSt (v : Nat → Nat → Int32) (sp fj ff : Nat) : Nat → Nat → Nat → Nat → Prop
  | 0 => fun c w k => c = vC v sp ∧ w = vW v sp ∧ k = 0
  | t + 1 => fun c' w' k' => ∃ c w k, rSt v sp fj ff t c w k ∧ Lv v sp 1 t (0 < t ∨ ff = 0) (0 < t ∨ ff = 1) (if t = 0 then fj else 0) (if t = 0 then fj else 2) c w k c' w' k'
theorem fill_b {v : Nat → Nat → Int32} (hw : Wf v) {sp t c w : Nat} (hs : sp < cn v 4) : vpr v t c * (vT v sp - w) ≤ 2970 := by
  have h1x := vpr_le hw (t := t) (c := c)
  have h2x := (vS_ok hw hs).2.2.2.2.2.2
  exact Nat.le_trans (Nat.mul_le_mul h1x (show vT v sp - w ≤ 30 by omega)) (by decide)
theorem rSt_b {v : Nat → Nat → Int32} (hw : Wf v) {sp fj ff : Nat} (hs : sp < cn v 4) : ∀ t c w k, rSt v sp fj ff t c w k → c < cn v 0 ∧ w ≤ vT v sp ∧ k ≤ t * 2970 := by
  have hv := vS_ok hw hs
  intro t
  induction t with
  | zero => rintro c w k ⟨rfl, rfl, rfl⟩; exact ⟨hv.2.1, hv.2.2.2.1, Nat.le_refl _⟩
  | succ t ih =>
    rintro c' w' k' ⟨c, w, k, h, q⟩
    obtain ⟨i1x, i2x, i3x⟩ := ih c w k h
    have fb := fill_b hw (t := t) (c := c) (w := w) hs
    rcases q with ⟨_, j, _, _, g, e, e2x, e3x⟩ | ⟨_, _, j, _, _, g, e, e2x, e3x⟩
    · exact ⟨vgo_lt g e i1x, by omega, by omega⟩
    · exact ⟨vgo_lt g e i1x, by omega, by omega⟩
/-- all goings and fillings at first, in their order -/
def uS (v : Nat → Nat → Int32) (sp t c w : Nat) : Prop := ∃ q k, q < 6 ∧ rSt v sp (q / 2) (q % 2) t c w k
def uL (v : Nat → Nat → Int32) (sp t c w c' w' : Nat) : Prop := ∃ j, j < 3 ∧ vgo v sp t c j = true ∧ c' + 1 = c + j ∧ (w = w' + 1 ∨ 0 < vpr v t c ∧ vT v sp = w' + 1)
theorem uS_b {v : Nat → Nat → Int32} (hw : Wf v) {sp t c w : Nat} (hs : sp < cn v 4) (h : uS v sp t c w) : c < cn v 0 ∧ w ≤ vT v sp := by
  obtain ⟨q, k, _, h⟩ := h
  exact ⟨(rSt_b hw hs _ _ _ _ h).1, (rSt_b hw hs _ _ _ _ h).2.1⟩
theorem uS_0 {v : Nat → Nat → Int32} {sp c w : Nat} : uS v sp 0 c w ↔ c = vC v sp ∧ w = vW v sp := by
  constructor
  · rintro ⟨q, k, _, h1x, h2x, _⟩; exact ⟨h1x, h2x⟩
  · rintro ⟨h1x, h2x⟩; exact ⟨0, 0, by decide, h1x, h2x, rfl⟩
theorem uS_s {v : Nat → Nat → Int32} {sp t c' w' : Nat} : uS v sp (t + 1) c' w' ↔ ∃ c w, uS v sp t c w ∧ uL v sp t c w c' w' := by
  constructor
  · rintro ⟨q, k', hq, c, w, k, h, l⟩
    refine ⟨c, w, ⟨q, k, hq, h⟩, ?_⟩
    rcases l with ⟨_, j, l1x, l2x, g, e, e2x, e3x⟩ | ⟨_, p, j, l1x, l2x, g, e, e2x, e3x⟩
    · exact ⟨j, by split at l2x <;> omega, g, e, Or.inl e2x⟩
    · exact ⟨j, by split at l2x <;> omega, g, e, Or.inr ⟨p, e2x⟩⟩
  · rintro ⟨c, w, ⟨q, k, hq, h⟩, j, hj, g, e, r⟩
    by_cases t0x : t = 0
    · subst t0x
      rcases r with r | ⟨p, r⟩
      · refine ⟨2 * j, k, by omega, c, w, k, h, Or.inl ⟨Or.inr (by omega), j, ?_, ?_, g, e, r, rfl⟩⟩
        · rw [if_pos rfl]; omega
        · rw [if_pos rfl]; omega
      · refine ⟨2 * j + 1, _, by omega, c, w, k, h, Or.inr ⟨Or.inr (by omega), p, j, ?_, ?_, g, e, r, rfl⟩⟩
        · rw [if_pos rfl]; omega
        · rw [if_pos rfl]; omega
    · rcases r with r | ⟨p, r⟩
      · exact ⟨q, k, hq, c, w, k, h, Or.inl ⟨Or.inl (by omega), j, by rw [if_neg t0x]; omega, by rw [if_neg t0x]; omega, g, e, r, rfl⟩⟩
      · exact ⟨q, _, hq, c, w, k, h, Or.inr ⟨Or.inl (by omega), p, j, by rw [if_neg t0x]; omega, by rw [if_neg t0x]; omega, g, e, r, rfl⟩⟩
/-- coins, first going and first filling in one number -/
def dS (v : Nat → Nat → Int32) (sp t c w e : Nat) : Prop := ∃ q k, q < 6 ∧ (q % 2 = 1 → vW v sp < vT v sp) ∧ rSt v sp (q / 2) (q % 2) t c w k ∧ e = 6 * k + q
theorem dS_b {v : Nat → Nat → Int32} (hw : Wf v) {sp t c w e : Nat} (hs : sp < cn v 4) (h : dS v sp t c w e) : c < cn v 0 ∧ w ≤ vT v sp ∧ e ≤ t * 17820 + 5 := by
  obtain ⟨q, k, h1x, _, h, rfl⟩ := h
  have := rSt_b hw hs _ _ _ _ h
  omega
theorem rSt_1 {v : Nat → Nat → Int32} {sp fj ff c' w' k' : Nat} : rSt v sp fj ff 1 c' w' k' ↔ Lv v sp 1 0 (ff = 0) (ff = 1) fj fj (vC v sp) (vW v sp) 0 c' w' k' := by
  constructor
  · rintro ⟨c, w, k, ⟨rfl, rfl, rfl⟩, l⟩
    rcases l with ⟨z, j, l1x, l2x, r⟩ | ⟨z, p, j, l1x, l2x, r⟩
    · exact Or.inl ⟨by rcases z with z | z; exact absurd z (Nat.lt_irrefl _); exact z, j, l1x, l2x, r⟩
    · exact Or.inr ⟨by rcases z with z | z; exact absurd z (Nat.lt_irrefl _); exact z, p, j, l1x, l2x, r⟩
  · intro l
    refine ⟨_, _, _, ⟨rfl, rfl, rfl⟩, ?_⟩
    rcases l with ⟨z, j, l1x, l2x, r⟩ | ⟨z, p, j, l1x, l2x, r⟩
    · exact Or.inl ⟨Or.inr z, j, l1x, l2x, r⟩
    · exact Or.inr ⟨Or.inr z, p, j, l1x, l2x, r⟩
theorem dS_1 {v : Nat → Nat → Int32} {sp c' w' e : Nat} : dS v sp 1 c' w' e ↔ ∃ j, j < 3 ∧ vgo v sp 0 (vC v sp) j = true ∧ c' + 1 = vC v sp + j ∧ ((vW v sp = w' + 1 ∧ e = 2 * j) ∨ (0 < vpr v 0 (vC v sp) ∧ vW v sp < vT v sp ∧ vT v sp = w' + 1 ∧ e = 6 * (vpr v 0 (vC v sp) * (vT v sp - vW v sp)) + 2 * j + 1)) := by
  constructor
  · rintro ⟨q, k', hq, hf, h, rfl⟩
    rcases rSt_1.mp h with ⟨z, j, l1x, l2x, g, e, e2x, e3x⟩ | ⟨z, p, j, l1x, l2x, g, e, e2x, e3x⟩
    · exact ⟨j, by omega, g, e, Or.inl ⟨e2x, by omega⟩⟩
    · exact ⟨j, by omega, g, e, Or.inr ⟨p, hf z, e2x, by omega⟩⟩
  · rintro ⟨j, hj, g, e, r⟩
    rcases r with ⟨r1x, rfl⟩ | ⟨p, r0x, r1x, rfl⟩
    · exact ⟨2 * j, 0, by omega, fun z => by omega, rSt_1.mpr (Or.inl ⟨by omega, j, by omega, by omega, g, e, r1x, rfl⟩), by omega⟩
    · exact ⟨2 * j + 1, vpr v 0 (vC v sp) * (vT v sp - vW v sp), by omega, fun z => r0x, rSt_1.mpr (Or.inr ⟨by omega, p, j, by omega, by omega, g, e, r1x, by omega⟩), by omega⟩
theorem dS_s {v : Nat → Nat → Int32} {sp t c' w' e' : Nat} (ht : 0 < t) : dS v sp (t + 1) c' w' e' ↔ ∃ c w e, dS v sp t c w e ∧ Lv v sp 6 t True True 0 2 c w e c' w' e' := by
  constructor
  · rintro ⟨q, k', hq, hf, ⟨c, w, k, h, l⟩, rfl⟩
    refine ⟨c, w, 6 * k + q, ⟨q, k, hq, hf, h, rfl⟩, ?_⟩
    rw [if_neg (by omega), if_neg (by omega)] at l
    rcases l with ⟨_, j, l1x, l2x, g, e, e2x, rfl⟩ | ⟨_, p, j, l1x, l2x, g, e, e2x, rfl⟩
    · exact Or.inl ⟨trivial, j, l1x, l2x, g, e, e2x, rfl⟩
    · exact Or.inr ⟨trivial, p, j, l1x, l2x, g, e, e2x, by omega⟩
  · rintro ⟨c, w, e, ⟨q, k, hq, hf, h, rfl⟩, l⟩
    rcases l with ⟨_, j, l1x, l2x, g, e, e2x, rfl⟩ | ⟨_, p, j, l1x, l2x, g, e, e2x, rfl⟩
    · exact ⟨q, k, hq, hf, ⟨c, w, k, h, by rw [if_neg (by omega), if_neg (by omega)]; exact Or.inl ⟨Or.inl ht, j, l1x, l2x, g, e, e2x, rfl⟩⟩, rfl⟩
    · exact ⟨q, k + 1 * (vpr v t c * (vT v sp - w)), hq, hf, ⟨c, w, k, h, by rw [if_neg (by omega), if_neg (by omega)]; exact Or.inr ⟨Or.inl ht, p, j, l1x, l2x, g, e, e2x, rfl⟩⟩, by omega⟩
/-- to fill a full tank is to fill none -/
theorem rSt_full {v : Nat → Nat → Int32} {sp fj : Nat} (hf : vW v sp = vT v sp) : ∀ t c w k, rSt v sp fj 1 t c w k → rSt v sp fj 0 t c w k := by
  intro t
  induction t with
  | zero => intro c w k h; exact h
  | succ t ih =>
    rintro c' w' k' ⟨c, w, k, h, l⟩
    refine ⟨c, w, k, ih c w k h, ?_⟩
    by_cases t0x : t = 0
    · subst t0x
      obtain ⟨rfl, rfl, rfl⟩ := h
      rcases l with ⟨z, _⟩ | ⟨_, p, j, l1x, l2x, g, e, e2x, e3x⟩
      · exact absurd z (by omega)
      · refine Or.inl ⟨Or.inr rfl, j, l1x, l2x, g, e, by omega, ?_⟩
        rw [e3x, hf, Nat.sub_self]; omega
    · rcases l with ⟨_, l⟩ | ⟨_, l⟩
      · exact Or.inl ⟨Or.inl (by omega), l⟩
      · exact Or.inr ⟨Or.inl (by omega), l⟩
/-! the best voyage -/
def vS (v : Nat → Nat → Int32) (sp to n t k q : Nat) : Prop := q < n ∧ 1 ≤ t ∧ t ≤ 300 ∧ ∃ w, rSt v sp (q / 2) (q % 2) t to w k
def LM (S : Nat → Nat → Nat → Prop) (t k q : Nat) : Prop := S t k q ∧ ∀ t' k' q', S t' k' q' → t < t' ∨ t = t' ∧ (k < k' ∨ k = k' ∧ q ≤ q')
theorem LM_un {S : Nat → Nat → Nat → Prop} {t k q t' k' q' : Nat} (h : LM S t k q) (g : LM S t' k' q') : t = t' ∧ k = k' ∧ q = q' := by
  have h1x := h.2 _ _ _ g.1
  have h2x := g.2 _ _ _ h.1
  omega
def wy (j : Nat) : Int32 := nI j - 1
def vA (v : Nat → Nat → Int32) (kw : Int32) (t k q : Nat) : Int32 := if kw = 0 then nI (cn v 7 + t) else if kw = 1 then nI k else if kw = 2 then wy (q / 2) else nI (q % 2)
/-- what voyage answers -/
def VQ (v : Nat → Nat → Int32) (sp to : Nat) (kw r : Int32) : Prop := (vC v sp = to ∧ r = if kw = 0 then nI (cn v 7) else if kw = 2 then -2 else 0) ∨ (vC v sp ≠ to ∧ ((∀ t k q, ¬ vS v sp to 6 t k q) ∧ r = -3 ∨ ∃ t k q, LM (vS v sp to 6) t k q ∧ r = vA v kw t k q))
theorem VQ_un {v : Nat → Nat → Int32} {sp to : Nat} {kw r r' : Int32} (h : VQ v sp to kw r) (g : VQ v sp to kw r') : r = r' := by
  rcases h with ⟨h1x, h2x⟩ | ⟨h1x, h2x⟩
  · rcases g with ⟨g1x, g2x⟩ | ⟨g1x, g2x⟩
    · rw [h2x, g2x]
    · exact absurd h1x g1x
  · rcases g with ⟨g1x, g2x⟩ | ⟨g1x, g2x⟩
    · exact absurd g1x h1x
    · rcases h2x with ⟨a1x, a2x⟩ | ⟨t, k, q, a1x, a2x⟩
      · rcases g2x with ⟨b1x, b2x⟩ | ⟨t', k', q', b1x, b2x⟩
        · rw [a2x, b2x]
        · exact absurd b1x.1 (a1x _ _ _)
      · rcases g2x with ⟨b1x, b2x⟩ | ⟨t', k', q', b1x, b2x⟩
        · exact absurd a1x.1 (b1x _ _ _)
        · obtain ⟨rfl, rfl, rfl⟩ := LM_un a1x b1x
          rw [a2x, b2x]
def gVoy (v : Nat → Nat → Int32) (x y kw : Int32) : Prop := ¬ (x < 0 ∨ nI (cn v 4) ≤ x) ∧ ¬ (y < 0 ∨ nI (cn v 0) ≤ y) ∧ v 18 x.toNatClampNeg = -1 ∧ ¬ (kw < 0 ∨ 3 < kw)
def QVoy (v : Nat → Nat → Int32) (x y kw r : Int32) : Prop := (gVoy v x y kw ∧ VQ v x.toNatClampNeg y.toNatClampNeg kw r) ∨ (¬ gVoy v x y kw ∧ r = -4)
theorem QVoy_un {v : Nat → Nat → Int32} {x y kw r r' : Int32} (h : QVoy v x y kw r) (g : QVoy v x y kw r') : r = r' := by
  rcases h with ⟨h1x, h2x⟩ | ⟨h1x, h2x⟩
  · rcases g with ⟨g1x, g2x⟩ | ⟨g1x, g2x⟩
    · exact VQ_un h2x g2x
    · exact absurd h1x g1x
  · rcases g with ⟨g1x, g2x⟩ | ⟨g1x, g2x⟩
    · exact absurd g1x h1x
    · rw [h2x, g2x]
/-- the class's way: the soonest day, then the least number of that day -/
theorem VQ_class {v : Nat → Nat → Int32} (hw : Wf v) {sp to t e : Nat} (hs : sp < cn v 4) (hne : vC v sp ≠ to) (t1x : 1 ≤ t) (t3x : t ≤ 300) (hno : ∀ t', t' < t → ∀ w, ¬ uS v sp t' to w) (hex : ∃ w, uS v sp t to w) (hm : tab 2147483647 (fun e => ∃ w, dS v sp t to w e) e) : LM (vS v sp to 6) t (e / 6) (e % 6) := by
  have hv := vS_ok hw hs
  have key : ∀ q k w, q < 6 → rSt v sp (q / 2) (q % 2) t to w k → ∃ q', q' ≤ q ∧ dS v sp t to w (6 * k + q') := by
    intro q k w hq h
    by_cases c : q % 2 = 1 → vW v sp < vT v sp
    · exact ⟨q, Nat.le_refl _, q, k, hq, c, h, rfl⟩
    · have c1x : q % 2 = 1 := Decidable.byContradiction (fun z => c (fun y => absurd y z))
      have c2x : ¬ vW v sp < vT v sp := fun z => c (fun _ => z)
      rw [c1x] at h
      have h2x := rSt_full (by omega) t to w k h
      refine ⟨q - 1, by omega, q - 1, k, by omega, fun z => by omega, ?_, rfl⟩
      rw [show (q - 1) / 2 = q / 2 by omega, show (q - 1) % 2 = 0 by omega]; exact h2x
  obtain ⟨w, q, k, hq, h⟩ := hex
  obtain ⟨q2x, _, hd⟩ := key q k w hq h
  have hb := (dS_b hw hs hd).2.2
  have le := hm.2.2 _ ⟨w, hd⟩
  obtain ⟨w3x, q3x, k3x, a1x, a2x, a3x, a4x⟩ := hm.2.1 (by omega)
  have e1x : e / 6 = k3x := by omega
  have e2x : e % 6 = q3x := by omega
  rw [e1x, e2x]
  refine ⟨⟨a1x, t1x, t3x, w3x, a3x⟩, ?_⟩
  rintro t' k' q' ⟨b1x, b2x, b3x, w', b4x⟩
  rcases Nat.lt_trichotomy t t' with c | c | c
  · exact Or.inl c
  · subst c
    right
    obtain ⟨q4x, d1x, d2x⟩ := key q' k' w' b1x b4x
    have := hm.2.2 _ ⟨w', d2x⟩
    omega
  · exact absurd ⟨q', k', b1x, b4x⟩ (hno t' c w')
theorem VQ_none {v : Nat → Nat → Int32} {sp to : Nat} (hno : ∀ t, t ≤ 300 → ∀ w, ¬ uS v sp t to w) : ∀ t k q, ¬ vS v sp to 6 t k q := by
  rintro t k q ⟨b1x, b2x, b3x, w, b4x⟩
  exact hno t b3x w ⟨q, k, b1x, b4x⟩
/-- nothing to be had anywhere on a day, nor later -/
theorem uS_none {v : Nat → Nat → Int32} {sp t : Nat} (h : ∀ c w, ¬ uS v sp t c w) : ∀ n c w, ¬ uS v sp (t + n) c w := by
  intro n
  induction n with
  | zero => exact h
  | succ n ih => intro c w q; obtain ⟨c1x, w1x, q1x, _⟩ := uS_s.mp q; exact ih c1x w1x q1x
end VP
