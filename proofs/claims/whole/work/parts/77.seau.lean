/-! A SEA that is being read -/
section SU
variable {sh : List (Nat × Nat)} {I J : Nat → Nat → Int32} {R : Nat → Nat → Option Nat} {u : Nat → Nat → Int32} {s : Nat}
/-- the sea at s holds what has been read, its ships' cells too -/
def SeaS (I : Nat → Nat → Int32) (s : Nat) (u : Nat → Nat → Int32) : Prop := SeaV I s u ∧ SeaW I s u ∧ ∀ k, k < cn u 4 → I (s + 10) k = u 13 k
def WfK (u : Nat → Nat → Int32) : Prop := ∀ k, k < cn u 4 → ∃ c m b, u 13 k = nI c ∧ c < cn u 0 ∧ u 15 k = nI m ∧ 1 ≤ m ∧ m ≤ 30 ∧ u 16 k = nI b ∧ b ≤ 20
def WfC (u : Nat → Nat → Int32) : Prop := (∀ j, j < 7 → u 1 j = nI (cn u j)) ∧ cn u 0 ≤ 12 ∧ cn u 1 ≤ 3 ∧ cn u 2 ≤ 4 ∧ cn u 3 ≤ 4 ∧ cn u 4 ≤ 4 ∧ cn u 5 ≤ cn u 6 ∧ 1 ≤ cn u 6 ∧ cn u 6 ≤ 9
/-- what has been read is in order -/
def WfU (u : Nat → Nat → Int32) : Prop := WfC u ∧ WfT u ∧ WfG u ∧ WfP u ∧ WfK u
theorem cn_of {f : Nat → Nat → Int32} {j a : Nat} (h : f 1 j = nI a) (ha : a < 2 ^ 31) : cn f j = a := by unfold cn; rw [h, nI_clamp ha]
theorem per_of {V : Nat → Nat → Int32} {t : Nat} (h : V 5 t = u 5 t) : per V t = per u t := by unfold per; rw [h]
theorem rnd_of {V : Nat → Nat → Int32} (h1x : cn V 1 = cn u 1) (h : ∀ t, t < cn u 1 → V 5 t = u 5 t) : rndN V = rndN u := by
  unfold rndN; rw [h1x]; exact itN_ext (fun t z ht => by rw [per_of (h t ht)])
theorem gr_of {V : Nat → Nat → Int32} {t : Nat} (h5x : V 5 t = u 5 t) (h6x : ∀ k, k < per u t → V 6 (20 * t + k) = u 6 (20 * t + k)) : grF V t = grF u t := by
  unfold grF; rw [per_of h5x]; exact itN_ext (fun k z hk => by rw [h6x k hk])
theorem SeaS.wel {x y z : Int32} (h : SeaS I s u) (hn : cn u 2 < 4) (h1x : cn u 1 ≤ 3) (hp : ∀ t, t < cn u 1 → u 5 t = nI (per u t) ∧ per u t ≤ 20) (g1x : J (s + 7) (cn u 2) = x) (g2x : J (s + 8) (cn u 2) = y) (g3x : J (s + 9) (cn u 2) = z) (gc : J s 2 = nI (cn u 2 + 1)) (hf : ∀ p r, ¬ (p = s + 7 ∧ r = cn u 2) → ¬ (p = s + 8 ∧ r = cn u 2) → ¬ (p = s + 9 ∧ r = cn u 2) → ¬ (p = s ∧ r = 2) → J p r = I p r) : SeaS J s (telF u 2 7 8 9 x y z) := by
  obtain ⟨⟨a1x, a2x, a3x, a4x, a5x, a6x, a7x, a8x⟩, ⟨w1x, w2x⟩, k1x⟩ := h
  have hc : ∀ j, j ≠ 2 → cn (telF u 2 7 8 9 x y z) j = cn u j := fun j hj => telF_cn (by decide) (by decide) (by decide) hj
  have hcc : cn (telF u 2 7 8 9 x y z) 2 = cn u 2 + 1 := telF_c (by omega)
  have ho : ∀ f k, (f ≠ 1 ∨ k ≠ 2) → (k ≠ cn u 2 ∨ (f ≠ 7 ∧ f ≠ 8 ∧ f ≠ 9)) → (telF u 2 7 8 9 x y z) f k = u f k := fun f k a b => telF_o a b
  have t1x : (telF u 2 7 8 9 x y z) 7 (cn u 2) = x := telF_1 (by decide) (by decide) (by decide)
  have t2x : (telF u 2 7 8 9 x y z) 8 (cn u 2) = y := telF_2 (by decide) (by decide)
  have t3x : (telF u 2 7 8 9 x y z) 9 (cn u 2) = z := telF_3 (by decide)
  refine ⟨⟨fun j hj => ?_, ?_, ?_, fun c hc2x => ?_, fun t ht => ?_, fun k hk => ?_, fun k hk => ?_, fun k hk => ?_⟩, ⟨?_, fun t ht => ?_⟩, fun k hk => ?_⟩
  · by_cases e : j = 2
    · subst e; rw [hcc]; exact gc
    · rw [hc j e, hf _ _ (by omega) (by omega) (by omega) (by omega)]; exact a1x j hj
  · rw [hc 5 (by decide), hf _ _ (by omega) (by omega) (by omega) (by omega)]; exact a2x
  · rw [hc 6 (by decide), hf _ _ (by omega) (by omega) (by omega) (by omega)]; exact a3x
  · rw [ho 2 c (by omega) (by omega), hf _ _ (by omega) (by omega) (by omega) (by omega)]; exact a4x c hc2x
  · rw [hc 1 (by decide)] at ht
    obtain ⟨b1x, b2x, b3x, b4x⟩ := a5x t ht
    rw [ho 3 t (by omega) (by omega), ho 4 t (by omega) (by omega), ho 5 t (by omega) (by omega)]
    refine ⟨(hf _ _ (by omega) (by omega) (by omega) (by omega)).trans b1x, (hf _ _ (by omega) (by omega) (by omega) (by omega)).trans b2x, (hf _ _ (by omega) (by omega) (by omega) (by omega)).trans b3x, fun k q1x q2x => ?_⟩
    rw [ho 6 _ (by omega) (by omega)]; exact (hf _ _ (by omega) (by omega) (by omega) (by omega)).trans (b4x k q1x q2x)
  · rw [hcc] at hk
    by_cases e : k = cn u 2
    · subst e; exact ⟨g1x.trans t1x.symm, g2x.trans t2x.symm, g3x.trans t3x.symm⟩
    · rw [ho 7 k (by omega) (by omega), ho 8 k (by omega) (by omega), ho 9 k (by omega) (by omega), hf _ _ (by omega) (by omega) (by omega) (by omega), hf _ _ (by omega) (by omega) (by omega) (by omega), hf _ _ (by omega) (by omega) (by omega) (by omega)]; exact a6x k (by omega)
  · rw [hc 3 (by decide)] at hk
    rw [ho 10 k (by omega) (by omega), ho 11 k (by omega) (by omega), ho 12 k (by omega) (by omega), hf _ _ (by omega) (by omega) (by omega) (by omega), hf _ _ (by omega) (by omega) (by omega) (by omega), hf _ _ (by omega) (by omega) (by omega) (by omega)]; exact a7x k hk
  · rw [hc 4 (by decide)] at hk
    rw [ho 15 k (by omega) (by omega), ho 16 k (by omega) (by omega), hf _ _ (by omega) (by omega) (by omega) (by omega), hf _ _ (by omega) (by omega) (by omega) (by omega)]; exact a8x k hk
  · rw [rnd_of (hc 1 (by decide)) (fun t ht => ho 5 t (by omega) (by omega)), hf _ _ (by omega) (by omega) (by omega) (by omega)]; exact w1x
  · rw [hc 1 (by decide)] at ht
    rw [gr_of (ho 5 t (by omega) (by omega)) (fun k hk => ho 6 _ (by omega) (by omega)), hf _ _ (by omega) (by omega) (by omega) (by omega)]; exact w2x t ht
  · rw [hc 4 (by decide)] at hk
    rw [ho 13 k (by omega) (by omega), hf _ _ (by omega) (by omega) (by omega) (by omega)]; exact k1x k hk
theorem SeaS.twn {x y z : Int32} (h : SeaS I s u) (hw4x : cn u 2 ≤ 4) (hn : cn u 3 < 4) (h1x : cn u 1 ≤ 3) (hp : ∀ t, t < cn u 1 → u 5 t = nI (per u t) ∧ per u t ≤ 20) (g1x : J (s + 7) (4 + cn u 3) = x) (g2x : J (s + 8) (4 + cn u 3) = y) (g3x : J (s + 9) (4 + cn u 3) = z) (gc : J s 3 = nI (cn u 3 + 1)) (hf : ∀ p r, ¬ (p = s + 7 ∧ r = 4 + cn u 3) → ¬ (p = s + 8 ∧ r = 4 + cn u 3) → ¬ (p = s + 9 ∧ r = 4 + cn u 3) → ¬ (p = s ∧ r = 3) → J p r = I p r) : SeaS J s (telF u 3 10 11 12 x y z) := by
  obtain ⟨⟨a1x, a2x, a3x, a4x, a5x, a6x, a7x, a8x⟩, ⟨w1x, w2x⟩, k1x⟩ := h
  have hc : ∀ j, j ≠ 3 → cn (telF u 3 10 11 12 x y z) j = cn u j := fun j hj => telF_cn (by decide) (by decide) (by decide) hj
  have hcc : cn (telF u 3 10 11 12 x y z) 3 = cn u 3 + 1 := telF_c (by omega)
  have ho : ∀ f k, (f ≠ 1 ∨ k ≠ 3) → (k ≠ cn u 3 ∨ (f ≠ 10 ∧ f ≠ 11 ∧ f ≠ 12)) → (telF u 3 10 11 12 x y z) f k = u f k := fun f k a b => telF_o a b
  have t1x : (telF u 3 10 11 12 x y z) 10 (cn u 3) = x := telF_1 (by decide) (by decide) (by decide)
  have t2x : (telF u 3 10 11 12 x y z) 11 (cn u 3) = y := telF_2 (by decide) (by decide)
  have t3x : (telF u 3 10 11 12 x y z) 12 (cn u 3) = z := telF_3 (by decide)
  refine ⟨⟨fun j hj => ?_, ?_, ?_, fun c hc2x => ?_, fun t ht => ?_, fun k hk => ?_, fun k hk => ?_, fun k hk => ?_⟩, ⟨?_, fun t ht => ?_⟩, fun k hk => ?_⟩
  · by_cases e : j = 3
    · subst e; rw [hcc]; exact gc
    · rw [hc j e, hf _ _ (by omega) (by omega) (by omega) (by omega)]; exact a1x j hj
  · rw [hc 5 (by decide), hf _ _ (by omega) (by omega) (by omega) (by omega)]; exact a2x
  · rw [hc 6 (by decide), hf _ _ (by omega) (by omega) (by omega) (by omega)]; exact a3x
  · rw [ho 2 c (by omega) (by omega), hf _ _ (by omega) (by omega) (by omega) (by omega)]; exact a4x c hc2x
  · rw [hc 1 (by decide)] at ht
    obtain ⟨b1x, b2x, b3x, b4x⟩ := a5x t ht
    rw [ho 3 t (by omega) (by omega), ho 4 t (by omega) (by omega), ho 5 t (by omega) (by omega)]
    refine ⟨(hf _ _ (by omega) (by omega) (by omega) (by omega)).trans b1x, (hf _ _ (by omega) (by omega) (by omega) (by omega)).trans b2x, (hf _ _ (by omega) (by omega) (by omega) (by omega)).trans b3x, fun k q1x q2x => ?_⟩
    rw [ho 6 _ (by omega) (by omega)]; exact (hf _ _ (by omega) (by omega) (by omega) (by omega)).trans (b4x k q1x q2x)
  · rw [hc 2 (by decide)] at hk
    rw [ho 7 k (by omega) (by omega), ho 8 k (by omega) (by omega), ho 9 k (by omega) (by omega), hf _ _ (by omega) (by omega) (by omega) (by omega), hf _ _ (by omega) (by omega) (by omega) (by omega), hf _ _ (by omega) (by omega) (by omega) (by omega)]; exact a6x k hk
  · rw [hcc] at hk
    by_cases e : k = cn u 3
    · subst e; exact ⟨g1x.trans t1x.symm, g2x.trans t2x.symm, g3x.trans t3x.symm⟩
    · rw [ho 10 k (by omega) (by omega), ho 11 k (by omega) (by omega), ho 12 k (by omega) (by omega), hf _ _ (by omega) (by omega) (by omega) (by omega), hf _ _ (by omega) (by omega) (by omega) (by omega), hf _ _ (by omega) (by omega) (by omega) (by omega)]; exact a7x k (by omega)
  · rw [hc 4 (by decide)] at hk
    rw [ho 15 k (by omega) (by omega), ho 16 k (by omega) (by omega), hf _ _ (by omega) (by omega) (by omega) (by omega), hf _ _ (by omega) (by omega) (by omega) (by omega)]; exact a8x k hk
  · rw [rnd_of (hc 1 (by decide)) (fun t ht => ho 5 t (by omega) (by omega)), hf _ _ (by omega) (by omega) (by omega) (by omega)]; exact w1x
  · rw [hc 1 (by decide)] at ht
    rw [gr_of (ho 5 t (by omega) (by omega)) (fun k hk => ho 6 _ (by omega) (by omega)), hf _ _ (by omega) (by omega) (by omega) (by omega)]; exact w2x t ht
  · rw [hc 4 (by decide)] at hk
    rw [ho 13 k (by omega) (by omega), hf _ _ (by omega) (by omega) (by omega) (by omega)]; exact k1x k hk
theorem SeaS.shp {x y z : Int32} (h : SeaS I s u) (hn : cn u 4 < 4) (h1x : cn u 1 ≤ 3) (hp : ∀ t, t < cn u 1 → u 5 t = nI (per u t) ∧ per u t ≤ 20) (g1x : J (s + 10) (cn u 4) = x) (g2x : J (s + 11) (cn u 4) = y) (g3x : J (s + 12) (cn u 4) = z) (gc : J s 4 = nI (cn u 4 + 1)) (hf : ∀ p r, ¬ (p = s + 10 ∧ r = cn u 4) → ¬ (p = s + 11 ∧ r = cn u 4) → ¬ (p = s + 12 ∧ r = cn u 4) → ¬ (p = s ∧ r = 4) → J p r = I p r) : SeaS J s (telF u 4 13 15 16 x y z) := by
  obtain ⟨⟨a1x, a2x, a3x, a4x, a5x, a6x, a7x, a8x⟩, ⟨w1x, w2x⟩, k1x⟩ := h
  have hc : ∀ j, j ≠ 4 → cn (telF u 4 13 15 16 x y z) j = cn u j := fun j hj => telF_cn (by decide) (by decide) (by decide) hj
  have hcc : cn (telF u 4 13 15 16 x y z) 4 = cn u 4 + 1 := telF_c (by omega)
  have ho : ∀ f k, (f ≠ 1 ∨ k ≠ 4) → (k ≠ cn u 4 ∨ (f ≠ 13 ∧ f ≠ 15 ∧ f ≠ 16)) → (telF u 4 13 15 16 x y z) f k = u f k := fun f k a b => telF_o a b
  have t1x : (telF u 4 13 15 16 x y z) 13 (cn u 4) = x := telF_1 (by decide) (by decide) (by decide)
  have t2x : (telF u 4 13 15 16 x y z) 15 (cn u 4) = y := telF_2 (by decide) (by decide)
  have t3x : (telF u 4 13 15 16 x y z) 16 (cn u 4) = z := telF_3 (by decide)
  refine ⟨⟨fun j hj => ?_, ?_, ?_, fun c hc2x => ?_, fun t ht => ?_, fun k hk => ?_, fun k hk => ?_, fun k hk => ?_⟩, ⟨?_, fun t ht => ?_⟩, fun k hk => ?_⟩
  · by_cases e : j = 4
    · subst e; rw [hcc]; exact gc
    · rw [hc j e, hf _ _ (by omega) (by omega) (by omega) (by omega)]; exact a1x j hj
  · rw [hc 5 (by decide), hf _ _ (by omega) (by omega) (by omega) (by omega)]; exact a2x
  · rw [hc 6 (by decide), hf _ _ (by omega) (by omega) (by omega) (by omega)]; exact a3x
  · rw [ho 2 c (by omega) (by omega), hf _ _ (by omega) (by omega) (by omega) (by omega)]; exact a4x c hc2x
  · rw [hc 1 (by decide)] at ht
    obtain ⟨b1x, b2x, b3x, b4x⟩ := a5x t ht
    rw [ho 3 t (by omega) (by omega), ho 4 t (by omega) (by omega), ho 5 t (by omega) (by omega)]
    refine ⟨(hf _ _ (by omega) (by omega) (by omega) (by omega)).trans b1x, (hf _ _ (by omega) (by omega) (by omega) (by omega)).trans b2x, (hf _ _ (by omega) (by omega) (by omega) (by omega)).trans b3x, fun k q1x q2x => ?_⟩
    rw [ho 6 _ (by omega) (by omega)]; exact (hf _ _ (by omega) (by omega) (by omega) (by omega)).trans (b4x k q1x q2x)
  · rw [hc 2 (by decide)] at hk
    rw [ho 7 k (by omega) (by omega), ho 8 k (by omega) (by omega), ho 9 k (by omega) (by omega), hf _ _ (by omega) (by omega) (by omega) (by omega), hf _ _ (by omega) (by omega) (by omega) (by omega), hf _ _ (by omega) (by omega) (by omega) (by omega)]; exact a6x k hk
  · rw [hc 3 (by decide)] at hk
    rw [ho 10 k (by omega) (by omega), ho 11 k (by omega) (by omega), ho 12 k (by omega) (by omega), hf _ _ (by omega) (by omega) (by omega) (by omega), hf _ _ (by omega) (by omega) (by omega) (by omega), hf _ _ (by omega) (by omega) (by omega) (by omega)]; exact a7x k hk
  · rw [hcc] at hk
    by_cases e : k = cn u 4
    · subst e; exact ⟨g2x.trans t2x.symm, g3x.trans t3x.symm⟩
    · rw [ho 15 k (by omega) (by omega), ho 16 k (by omega) (by omega), hf _ _ (by omega) (by omega) (by omega) (by omega), hf _ _ (by omega) (by omega) (by omega) (by omega)]; exact a8x k (by omega)
  · rw [rnd_of (hc 1 (by decide)) (fun t ht => ho 5 t (by omega) (by omega)), hf _ _ (by omega) (by omega) (by omega) (by omega)]; exact w1x
  · rw [hc 1 (by decide)] at ht
    rw [gr_of (ho 5 t (by omega) (by omega)) (fun k hk => ho 6 _ (by omega) (by omega)), hf _ _ (by omega) (by omega) (by omega) (by omega)]; exact w2x t ht
  · rw [hcc] at hk
    by_cases e : k = cn u 4
    · subst e; exact g1x.trans t1x.symm
    · rw [ho 13 k (by omega) (by omega), hf _ _ (by omega) (by omega) (by omega) (by omega)]; exact k1x k (by omega)
theorem SeaS.sea {a : Nat} (h : SeaS I s u) (ha : a < 2 ^ 31) (g : J s 0 = nI a) (hf : ∀ p r, p ≠ s ∨ r ≠ 0 → J p r = I p r) : SeaS J s (xu u 1 0 (nI a)) := by
  obtain ⟨⟨a1x, a2x, a3x, a4x, a5x, a6x, a7x, a8x⟩, ⟨w1x, w2x⟩, k1x⟩ := h
  have hc : ∀ j, j ≠ 0 → cn (xu u 1 0 (nI a)) j = cn u j := fun j hj => by unfold cn; rw [xu_o (Or.inr hj)]
  have hcc : cn (xu u 1 0 (nI a)) 0 = a := cn_of xu_at ha
  have ho : ∀ f k, f ≠ 1 → xu u 1 0 (nI a) f k = u f k := fun f k q => xu_o (Or.inl q)
  refine ⟨⟨fun j hj => ?_, ?_, ?_, fun c hc2x => ?_, fun t ht => ?_, fun k hk => ?_, fun k hk => ?_, fun k hk => ?_⟩, ⟨?_, fun t ht => ?_⟩, fun k hk => ?_⟩
  · by_cases e : j = 0
    · subst e; rw [hcc]; exact g
    · rw [hc j e, hf _ _ (by omega)]; exact a1x j hj
  · rw [hc 5 (by decide), hf _ _ (by omega)]; exact a2x
  · rw [hc 6 (by decide), hf _ _ (by omega)]; exact a3x
  · rw [ho 2 c (by decide), hf _ _ (by omega)]; exact a4x c hc2x
  · rw [hc 1 (by decide)] at ht
    obtain ⟨b1x, b2x, b3x, b4x⟩ := a5x t ht
    rw [ho 3 t (by decide), ho 4 t (by decide), ho 5 t (by decide)]
    refine ⟨(hf _ _ (by omega)).trans b1x, (hf _ _ (by omega)).trans b2x, (hf _ _ (by omega)).trans b3x, fun k q1x q2x => ?_⟩
    rw [ho 6 _ (by decide)]; exact (hf _ _ (by omega)).trans (b4x k q1x q2x)
  · rw [hc 2 (by decide)] at hk
    rw [ho 7 k (by decide), ho 8 k (by decide), ho 9 k (by decide), hf _ _ (by omega), hf _ _ (by omega), hf _ _ (by omega)]; exact a6x k hk
  · rw [hc 3 (by decide)] at hk
    rw [ho 10 k (by decide), ho 11 k (by decide), ho 12 k (by decide), hf _ _ (by omega), hf _ _ (by omega), hf _ _ (by omega)]; exact a7x k hk
  · rw [hc 4 (by decide)] at hk
    rw [ho 15 k (by decide), ho 16 k (by decide), hf _ _ (by omega), hf _ _ (by omega)]; exact a8x k hk
  · rw [rnd_of (hc 1 (by decide)) (fun t ht => ho 5 t (by decide)), hf _ _ (by omega)]; exact w1x
  · rw [hc 1 (by decide)] at ht
    rw [gr_of (ho 5 t (by decide)) (fun k hk => ho 6 _ (by decide)), hf _ _ (by omega)]; exact w2x t ht
  · rw [hc 4 (by decide)] at hk
    rw [ho 13 k (by decide), hf _ _ (by omega)]; exact k1x k hk
theorem SeaS.grn {c : Nat} {x : Int32} (h : SeaS I s u) (g : J (s + 6) c = x) (hf : ∀ p r, p ≠ s + 6 ∨ r ≠ c → J p r = I p r) : SeaS J s (xu u 2 c x) := by
  obtain ⟨⟨a1x, a2x, a3x, a4x, a5x, a6x, a7x, a8x⟩, ⟨w1x, w2x⟩, k1x⟩ := h
  have hc : ∀ j, cn (xu u 2 c x) j = cn u j := fun j => by unfold cn; rw [xu_o (Or.inl (by decide))]
  have ho : ∀ f k, f ≠ 2 → xu u 2 c x f k = u f k := fun f k q => xu_o (Or.inl q)
  refine ⟨⟨fun j hj => ?_, ?_, ?_, fun d hd => ?_, fun t ht => ?_, fun k hk => ?_, fun k hk => ?_, fun k hk => ?_⟩, ⟨?_, fun t ht => ?_⟩, fun k hk => ?_⟩
  · rw [hc j, hf _ _ (by omega)]; exact a1x j hj
  · rw [hc 5, hf _ _ (by omega)]; exact a2x
  · rw [hc 6, hf _ _ (by omega)]; exact a3x
  · by_cases e : d = c
    · subst e; rw [g]; exact xu_at.symm
    · rw [xu_o (Or.inr e), hf _ _ (by omega)]; exact a4x d hd
  · rw [hc 1] at ht
    obtain ⟨b1x, b2x, b3x, b4x⟩ := a5x t ht
    rw [ho 3 t (by decide), ho 4 t (by decide), ho 5 t (by decide)]
    refine ⟨(hf _ _ (by omega)).trans b1x, (hf _ _ (by omega)).trans b2x, (hf _ _ (by omega)).trans b3x, fun k q1x q2x => ?_⟩
    rw [ho 6 _ (by decide)]; exact (hf _ _ (by omega)).trans (b4x k q1x q2x)
  · rw [hc 2] at hk
    rw [ho 7 k (by decide), ho 8 k (by decide), ho 9 k (by decide), hf _ _ (by omega), hf _ _ (by omega), hf _ _ (by omega)]; exact a6x k hk
  · rw [hc 3] at hk
    rw [ho 10 k (by decide), ho 11 k (by decide), ho 12 k (by decide), hf _ _ (by omega), hf _ _ (by omega), hf _ _ (by omega)]; exact a7x k hk
  · rw [hc 4] at hk
    rw [ho 15 k (by decide), ho 16 k (by decide), hf _ _ (by omega), hf _ _ (by omega)]; exact a8x k hk
  · rw [rnd_of (hc 1) (fun t ht => ho 5 t (by decide)), hf _ _ (by omega)]; exact w1x
  · rw [hc 1] at ht
    rw [gr_of (ho 5 t (by decide)) (fun k hk => ho 6 _ (by decide)), hf _ _ (by omega)]; exact w2x t ht
  · rw [hc 4] at hk
    rw [ho 13 k (by decide), hf _ _ (by omega)]; exact k1x k hk
def fStm (u : Nat → Nat → Int32) (a b : Int32) : Nat → Nat → Int32 := xu (xu u 1 5 a) 1 6 b
theorem SeaS.stm {a b : Nat} (h : SeaS I s u) (ha : a < 2 ^ 31) (hb : b < 2 ^ 31) (g : J s 17 = nI a) (g2x : J s 18 = nI b) (hf : ∀ p r, p ≠ s ∨ (r ≠ 17 ∧ r ≠ 18) → J p r = I p r) : SeaS J s (fStm u (nI a) (nI b)) := by
  obtain ⟨⟨a1x, a2x, a3x, a4x, a5x, a6x, a7x, a8x⟩, ⟨w1x, w2x⟩, k1x⟩ := h
  have ho : ∀ f k, f ≠ 1 ∨ (k ≠ 5 ∧ k ≠ 6) → fStm u (nI a) (nI b) f k = u f k := fun f k q => by unfold fStm; rw [xu_o (by omega), xu_o (by omega)]
  have hc : ∀ j, j ≠ 5 → j ≠ 6 → cn (fStm u (nI a) (nI b)) j = cn u j := fun j h5x h6x => by unfold cn; rw [ho 1 j (by omega)]
  have c5x : cn (fStm u (nI a) (nI b)) 5 = a := cn_of (by unfold fStm; rw [xu_o (by decide), xu_at]) ha
  have c6x : cn (fStm u (nI a) (nI b)) 6 = b := cn_of (by unfold fStm; rw [xu_at]) hb
  refine ⟨⟨fun j hj => ?_, ?_, ?_, fun d hd => ?_, fun t ht => ?_, fun k hk => ?_, fun k hk => ?_, fun k hk => ?_⟩, ⟨?_, fun t ht => ?_⟩, fun k hk => ?_⟩
  · rw [hc j (by omega) (by omega), hf _ _ (by omega)]; exact a1x j hj
  · rw [c5x]; exact g
  · rw [c6x]; exact g2x
  · rw [ho 2 d (by omega), hf _ _ (by omega)]; exact a4x d hd
  · rw [hc 1 (by decide) (by decide)] at ht
    obtain ⟨b1x, b2x, b3x, b4x⟩ := a5x t ht
    rw [ho 3 t (by omega), ho 4 t (by omega), ho 5 t (by omega)]
    refine ⟨(hf _ _ (by omega)).trans b1x, (hf _ _ (by omega)).trans b2x, (hf _ _ (by omega)).trans b3x, fun k q1x q2x => ?_⟩
    rw [ho 6 _ (by omega)]; exact (hf _ _ (by omega)).trans (b4x k q1x q2x)
  · rw [hc 2 (by decide) (by decide)] at hk
    rw [ho 7 k (by omega), ho 8 k (by omega), ho 9 k (by omega), hf _ _ (by omega), hf _ _ (by omega), hf _ _ (by omega)]; exact a6x k hk
  · rw [hc 3 (by decide) (by decide)] at hk
    rw [ho 10 k (by omega), ho 11 k (by omega), ho 12 k (by omega), hf _ _ (by omega), hf _ _ (by omega), hf _ _ (by omega)]; exact a7x k hk
  · rw [hc 4 (by decide) (by decide)] at hk
    rw [ho 15 k (by omega), ho 16 k (by omega), hf _ _ (by omega), hf _ _ (by omega)]; exact a8x k hk
  · rw [rnd_of (hc 1 (by decide) (by decide)) (fun t ht => ho 5 t (by omega)), hf _ _ (by omega)]; exact w1x
  · rw [hc 1 (by decide) (by decide)] at ht
    rw [gr_of (ho 5 t (by omega)) (fun k hk => ho 6 _ (by omega)), hf _ _ (by omega)]; exact w2x t ht
  · rw [hc 4 (by decide) (by decide)] at hk
    rw [ho 13 k (by omega), hf _ _ (by omega)]; exact k1x k hk
/-- one train more: its row is r, k long -/
def fTrn (u : Nat → Nat → Int32) (a b : Int32) (k : Nat) (r : Nat → Int32) : Nat → Nat → Int32 := fun f i => if f = 6 ∧ 20 * cn u 1 ≤ i ∧ i < 20 * cn u 1 + k then r (i - 20 * cn u 1) else telF u 1 3 4 5 a b (nI k) f i
theorem SeaS.trn {a b : Int32} {k : Nat} {r : Nat → Int32} (h : SeaS I s u) (hn : cn u 1 < 3) (hk2x : 2 ≤ k) (hk20x : k ≤ 20) (hp : ∀ t, t < cn u 1 → per u t ≤ 20) (g1x : J (s + 1) (cn u 1) = a) (g2x : J (s + 2) (cn u 1) = b) (g3x : J (s + 3) (cn u 1) = nI k) (g4x : ∀ i, i < k → J (s + 5) (20 * cn u 1 + i) = r i) (g5x : J (s + 4) (cn u 1) = itN (fun i z => if z < r i then r i else z) 0 k) (g6x : J s 19 = nI (rndN u / Nat.gcd (rndN u) k * k)) (gc : J s 1 = nI (cn u 1 + 1)) (hf : ∀ p q, ¬ (p = s + 1 ∧ q = cn u 1) → ¬ (p = s + 2 ∧ q = cn u 1) → ¬ (p = s + 3 ∧ q = cn u 1) → ¬ (p = s + 4 ∧ q = cn u 1) → ¬ (p = s + 5 ∧ 20 * cn u 1 ≤ q ∧ q < 20 * cn u 1 + k) → ¬ (p = s ∧ q = 1) → ¬ (p = s ∧ q = 19) → J p q = I p q) : SeaS J s (fTrn u a b k r) := by
  obtain ⟨⟨a1x, a2x, a3x, a4x, a5x, a6x, a7x, a8x⟩, ⟨w1x, w2x⟩, k1x⟩ := h
  have ho : ∀ f i, (f ≠ 1 ∨ i ≠ 1) → (i ≠ cn u 1 ∨ (f ≠ 3 ∧ f ≠ 4 ∧ f ≠ 5)) → ¬ (f = 6 ∧ 20 * cn u 1 ≤ i ∧ i < 20 * cn u 1 + k) → fTrn u a b k r f i = u f i := fun f i q1x q2x q3x => by
    unfold fTrn; rw [if_neg q3x]; exact telF_o q1x q2x
  have hc : ∀ j, j ≠ 1 → cn (fTrn u a b k r) j = cn u j := fun j hj => by unfold cn; rw [ho 1 j (by omega) (by omega) (by omega)]
  have hcc : cn (fTrn u a b k r) 1 = cn u 1 + 1 := cn_of (by unfold fTrn; rw [if_neg (by omega)]; exact xu_at) (by omega)
  have t1x : fTrn u a b k r 3 (cn u 1) = a := by unfold fTrn; rw [if_neg (by omega)]; exact telF_1 (by decide) (by decide) (by decide)
  have t2x : fTrn u a b k r 4 (cn u 1) = b := by unfold fTrn; rw [if_neg (by omega)]; exact telF_2 (by decide) (by decide)
  have t3x : fTrn u a b k r 5 (cn u 1) = nI k := by unfold fTrn; rw [if_neg (by omega)]; exact telF_3 (by decide)
  have t6x : ∀ i, i < k → fTrn u a b k r 6 (20 * cn u 1 + i) = r i := fun i hi => by unfold fTrn; rw [if_pos (by omega), Nat.add_sub_cancel_left]
  have tp : per (fTrn u a b k r) (cn u 1) = k := by unfold per; rw [t3x, nI_clamp (by omega)]
  refine ⟨⟨fun j hj => ?_, ?_, ?_, fun d hd => ?_, fun t ht => ?_, fun k hk => ?_, fun k hk => ?_, fun k hk => ?_⟩, ⟨?_, fun t ht => ?_⟩, fun k hk => ?_⟩
  · by_cases e : j = 1
    · subst e; rw [hcc]; exact gc
    · rw [hc j e, hf _ _ (by omega) (by omega) (by omega) (by omega) (by omega) (by omega) (by omega)]; exact a1x j hj
  · rw [hc 5 (by decide), hf _ _ (by omega) (by omega) (by omega) (by omega) (by omega) (by omega) (by omega)]; exact a2x
  · rw [hc 6 (by decide), hf _ _ (by omega) (by omega) (by omega) (by omega) (by omega) (by omega) (by omega)]; exact a3x
  · rw [ho 2 d (by omega) (by omega) (by omega), hf _ _ (by omega) (by omega) (by omega) (by omega) (by omega) (by omega) (by omega)]; exact a4x d hd
  · rw [hcc] at ht
    by_cases e : t = cn u 1
    · subst e
      rw [t1x, t2x, t3x]
      refine ⟨g1x, g2x, g3x, fun i q1x q2x => ?_⟩
      have := (nI_lti (by omega) (by omega)).mp q1x
      rw [t6x i this]; exact g4x i this
    · obtain ⟨b1x, b2x, b3x, b4x⟩ := a5x t (by omega)
      rw [ho 3 t (by omega) (by omega) (by omega), ho 4 t (by omega) (by omega) (by omega), ho 5 t (by omega) (by omega) (by omega)]
      refine ⟨(hf _ _ (by omega) (by omega) (by omega) (by omega) (by omega) (by omega) (by omega)).trans b1x, (hf _ _ (by omega) (by omega) (by omega) (by omega) (by omega) (by omega) (by omega)).trans b2x, (hf _ _ (by omega) (by omega) (by omega) (by omega) (by omega) (by omega) (by omega)).trans b3x, fun i q1x q2x => ?_⟩
      rw [ho 6 _ (by omega) (by omega) (by omega)]; exact (hf _ _ (by omega) (by omega) (by omega) (by omega) (by omega) (by omega) (by omega)).trans (b4x i q1x q2x)
  · rw [hc 2 (by decide)] at hk
    rw [ho 7 k (by omega) (by omega) (by omega), ho 8 k (by omega) (by omega) (by omega), ho 9 k (by omega) (by omega) (by omega), hf _ _ (by omega) (by omega) (by omega) (by omega) (by omega) (by omega) (by omega), hf _ _ (by omega) (by omega) (by omega) (by omega) (by omega) (by omega) (by omega), hf _ _ (by omega) (by omega) (by omega) (by omega) (by omega) (by omega) (by omega)]; exact a6x k hk
  · rw [hc 3 (by decide)] at hk
    rw [ho 10 k (by omega) (by omega) (by omega), ho 11 k (by omega) (by omega) (by omega), ho 12 k (by omega) (by omega) (by omega), hf _ _ (by omega) (by omega) (by omega) (by omega) (by omega) (by omega) (by omega), hf _ _ (by omega) (by omega) (by omega) (by omega) (by omega) (by omega) (by omega), hf _ _ (by omega) (by omega) (by omega) (by omega) (by omega) (by omega) (by omega)]; exact a7x k hk
  · rw [hc 4 (by decide)] at hk
    rw [ho 15 k (by omega) (by omega) (by omega), ho 16 k (by omega) (by omega) (by omega), hf _ _ (by omega) (by omega) (by omega) (by omega) (by omega) (by omega) (by omega), hf _ _ (by omega) (by omega) (by omega) (by omega) (by omega) (by omega) (by omega)]; exact a8x k hk
  · have er : rndN (fTrn u a b k r) = rndN u / Nat.gcd (rndN u) k * k := by
      unfold rndN; rw [hcc]
      have e0x : itN (fun t a_1 => a_1 / Nat.gcd a_1 (per (fTrn u a b k r) t) * per (fTrn u a b k r) t) 1 (cn u 1) = itN (fun t a => a / Nat.gcd a (per u t) * per u t) 1 (cn u 1) := itN_ext (fun t z ht => by rw [per_of (ho 5 t (by omega) (by omega) (by omega))])
      show (fun t a_1 => a_1 / Nat.gcd a_1 (per (fTrn u a b k r) t) * per (fTrn u a b k r) t) (cn u 1) (itN (fun t a_1 => a_1 / Nat.gcd a_1 (per (fTrn u a b k r) t) * per (fTrn u a b k r) t) 1 (cn u 1)) = _
      rw [e0x]; dsimp only; rw [tp]
    rw [er]; exact g6x
  · rw [hcc] at ht
    by_cases e : t = cn u 1
    · subst e
      rw [g5x]; unfold grF; rw [tp]
      exact itN_ext (fun i z hi => by rw [t6x i hi])
    · have := hp t (by omega)
      rw [gr_of (ho 5 t (by omega) (by omega) (by omega)) (fun i hi => ho 6 _ (by omega) (by omega) (by omega)), hf _ _ (by omega) (by omega) (by omega) (by omega) (by omega) (by omega) (by omega)]; exact w2x t (by omega)
  · rw [hc 4 (by decide)] at hk
    rw [ho 13 k (by omega) (by omega) (by omega), hf _ _ (by omega) (by omega) (by omega) (by omega) (by omega) (by omega) (by omega)]; exact k1x k hk
end SU
