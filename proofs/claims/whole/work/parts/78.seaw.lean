/-! What has been read stays in order -/
section SW
variable {u : Nat → Nat → Int32}
theorem WfU.wel {x y z : Int32} (h : WfU u) (hn : cn u 2 < 4) (hx : ∃ c, x = nI c ∧ c < cn u 0) (hy : ∃ m, y = nI m ∧ m ≤ 60) (hz : ∃ p, z = nI p ∧ 1 ≤ p ∧ p ≤ 99) : WfU (telF u 2 7 8 9 x y z) := by
  obtain ⟨⟨n1x, n2x⟩, wT, wG, wP, wK⟩ := h
  have hc : ∀ j, j ≠ 2 → cn (telF u 2 7 8 9 x y z) j = cn u j := fun j hj => telF_cn (by decide) (by decide) (by decide) hj
  have hcc : cn (telF u 2 7 8 9 x y z) 2 = cn u 2 + 1 := telF_c (by omega)
  have ho : ∀ f k, (f ≠ 1 ∨ k ≠ 2) → (k ≠ cn u 2 ∨ (f ≠ 7 ∧ f ≠ 8 ∧ f ≠ 9)) → (telF u 2 7 8 9 x y z) f k = u f k := fun f k a b => telF_o a b
  have t1x : (telF u 2 7 8 9 x y z) 7 (cn u 2) = x := telF_1 (by decide) (by decide) (by decide)
  have t2x : (telF u 2 7 8 9 x y z) 8 (cn u 2) = y := telF_2 (by decide) (by decide)
  have t3x : (telF u 2 7 8 9 x y z) 9 (cn u 2) = z := telF_3 (by decide)
  have tc : (telF u 2 7 8 9 x y z) 1 2 = nI (cn u 2 + 1) := xu_at
  refine ⟨⟨fun j hj => ?_, ?_⟩, fun t ht => ?_, fun k hk => ?_, ⟨fun k hk => ?_, fun k hk => ?_⟩, fun k hk => ?_⟩
  · by_cases e : j = 2
    · subst e; rw [hcc]; exact tc
    · rw [hc j e, ho 1 j (by omega) (by omega)]; exact n1x j hj
  · rw [hc 0 (by decide), hc 1 (by decide), hcc, hc 3 (by decide), hc 4 (by decide), hc 5 (by decide), hc 6 (by decide)]; omega
  · rw [hc 1 (by decide)] at ht
    obtain ⟨p, lg, sf, a1x, a2x, a3x, a4x, a5x, a6x, a7x, a8x⟩ := wT t ht
    rw [ho 5 t (by omega) (by omega), ho 3 t (by omega) (by omega), ho 4 t (by omega) (by omega)]
    exact ⟨p, lg, sf, a1x, a2x, a3x, a4x, a5x, a6x, a7x, fun k hk => by rw [ho 6 _ (by omega) (by omega)]; exact a8x k hk⟩
  · rw [ho 2 k (by omega) (by omega)]; exact wG k hk
  · rw [hcc] at hk
    by_cases e : k = cn u 2
    · subst e; rw [hc 0 (by decide), t1x, t2x, t3x]; exact (by obtain ⟨a, b, c⟩ := hx; obtain ⟨d, e, f⟩ := hy; obtain ⟨g, h, i⟩ := hz; exact ⟨a, d, g, b, c, e, f, h, i.1, i.2⟩)
    · rw [hc 0 (by decide), ho 7 k (by omega) (by omega), ho 8 k (by omega) (by omega), ho 9 k (by omega) (by omega)]; exact wP.1 k (by omega)
  · rw [hc 3 (by decide)] at hk
    rw [hc 0 (by decide), ho 10 k (by omega) (by omega), ho 11 k (by omega) (by omega), ho 12 k (by omega) (by omega)]; exact wP.2 k hk
  · rw [hc 4 (by decide)] at hk
    rw [hc 0 (by decide), ho 13 k (by omega) (by omega), ho 15 k (by omega) (by omega), ho 16 k (by omega) (by omega)]; exact wK k hk
theorem WfU.twn {x y z : Int32} (h : WfU u) (hn : cn u 3 < 4) (hx : ∃ c, x = nI c ∧ c < cn u 0) (hy : ∃ m, y = nI m ∧ m ≤ 60) (hz : ∃ p, z = nI p ∧ 1 ≤ p ∧ p ≤ 99) : WfU (telF u 3 10 11 12 x y z) := by
  obtain ⟨⟨n1x, n2x⟩, wT, wG, wP, wK⟩ := h
  have hc : ∀ j, j ≠ 3 → cn (telF u 3 10 11 12 x y z) j = cn u j := fun j hj => telF_cn (by decide) (by decide) (by decide) hj
  have hcc : cn (telF u 3 10 11 12 x y z) 3 = cn u 3 + 1 := telF_c (by omega)
  have ho : ∀ f k, (f ≠ 1 ∨ k ≠ 3) → (k ≠ cn u 3 ∨ (f ≠ 10 ∧ f ≠ 11 ∧ f ≠ 12)) → (telF u 3 10 11 12 x y z) f k = u f k := fun f k a b => telF_o a b
  have t1x : (telF u 3 10 11 12 x y z) 10 (cn u 3) = x := telF_1 (by decide) (by decide) (by decide)
  have t2x : (telF u 3 10 11 12 x y z) 11 (cn u 3) = y := telF_2 (by decide) (by decide)
  have t3x : (telF u 3 10 11 12 x y z) 12 (cn u 3) = z := telF_3 (by decide)
  have tc : (telF u 3 10 11 12 x y z) 1 3 = nI (cn u 3 + 1) := xu_at
  refine ⟨⟨fun j hj => ?_, ?_⟩, fun t ht => ?_, fun k hk => ?_, ⟨fun k hk => ?_, fun k hk => ?_⟩, fun k hk => ?_⟩
  · by_cases e : j = 3
    · subst e; rw [hcc]; exact tc
    · rw [hc j e, ho 1 j (by omega) (by omega)]; exact n1x j hj
  · rw [hc 0 (by decide), hc 1 (by decide), hc 2 (by decide), hcc, hc 4 (by decide), hc 5 (by decide), hc 6 (by decide)]; omega
  · rw [hc 1 (by decide)] at ht
    obtain ⟨p, lg, sf, a1x, a2x, a3x, a4x, a5x, a6x, a7x, a8x⟩ := wT t ht
    rw [ho 5 t (by omega) (by omega), ho 3 t (by omega) (by omega), ho 4 t (by omega) (by omega)]
    exact ⟨p, lg, sf, a1x, a2x, a3x, a4x, a5x, a6x, a7x, fun k hk => by rw [ho 6 _ (by omega) (by omega)]; exact a8x k hk⟩
  · rw [ho 2 k (by omega) (by omega)]; exact wG k hk
  · rw [hc 2 (by decide)] at hk
    rw [hc 0 (by decide), ho 7 k (by omega) (by omega), ho 8 k (by omega) (by omega), ho 9 k (by omega) (by omega)]; exact wP.1 k hk
  · rw [hcc] at hk
    by_cases e : k = cn u 3
    · subst e; rw [hc 0 (by decide), t1x, t2x, t3x]; exact (by obtain ⟨a, b, c⟩ := hx; obtain ⟨d, e, f⟩ := hy; obtain ⟨g, h, i⟩ := hz; exact ⟨a, d, g, b, c, e, f, h, i.1, i.2⟩)
    · rw [hc 0 (by decide), ho 10 k (by omega) (by omega), ho 11 k (by omega) (by omega), ho 12 k (by omega) (by omega)]; exact wP.2 k (by omega)
  · rw [hc 4 (by decide)] at hk
    rw [hc 0 (by decide), ho 13 k (by omega) (by omega), ho 15 k (by omega) (by omega), ho 16 k (by omega) (by omega)]; exact wK k hk
theorem WfU.shp {x y z : Int32} (h : WfU u) (hn : cn u 4 < 4) (hx : ∃ c, x = nI c ∧ c < cn u 0) (hy : ∃ m, y = nI m ∧ 1 ≤ m ∧ m ≤ 30) (hz : ∃ p, z = nI p ∧ p ≤ 20) : WfU (telF u 4 13 15 16 x y z) := by
  obtain ⟨⟨n1x, n2x⟩, wT, wG, wP, wK⟩ := h
  have hc : ∀ j, j ≠ 4 → cn (telF u 4 13 15 16 x y z) j = cn u j := fun j hj => telF_cn (by decide) (by decide) (by decide) hj
  have hcc : cn (telF u 4 13 15 16 x y z) 4 = cn u 4 + 1 := telF_c (by omega)
  have ho : ∀ f k, (f ≠ 1 ∨ k ≠ 4) → (k ≠ cn u 4 ∨ (f ≠ 13 ∧ f ≠ 15 ∧ f ≠ 16)) → (telF u 4 13 15 16 x y z) f k = u f k := fun f k a b => telF_o a b
  have t1x : (telF u 4 13 15 16 x y z) 13 (cn u 4) = x := telF_1 (by decide) (by decide) (by decide)
  have t2x : (telF u 4 13 15 16 x y z) 15 (cn u 4) = y := telF_2 (by decide) (by decide)
  have t3x : (telF u 4 13 15 16 x y z) 16 (cn u 4) = z := telF_3 (by decide)
  have tc : (telF u 4 13 15 16 x y z) 1 4 = nI (cn u 4 + 1) := xu_at
  refine ⟨⟨fun j hj => ?_, ?_⟩, fun t ht => ?_, fun k hk => ?_, ⟨fun k hk => ?_, fun k hk => ?_⟩, fun k hk => ?_⟩
  · by_cases e : j = 4
    · subst e; rw [hcc]; exact tc
    · rw [hc j e, ho 1 j (by omega) (by omega)]; exact n1x j hj
  · rw [hc 0 (by decide), hc 1 (by decide), hc 2 (by decide), hc 3 (by decide), hcc, hc 5 (by decide), hc 6 (by decide)]; omega
  · rw [hc 1 (by decide)] at ht
    obtain ⟨p, lg, sf, a1x, a2x, a3x, a4x, a5x, a6x, a7x, a8x⟩ := wT t ht
    rw [ho 5 t (by omega) (by omega), ho 3 t (by omega) (by omega), ho 4 t (by omega) (by omega)]
    exact ⟨p, lg, sf, a1x, a2x, a3x, a4x, a5x, a6x, a7x, fun k hk => by rw [ho 6 _ (by omega) (by omega)]; exact a8x k hk⟩
  · rw [ho 2 k (by omega) (by omega)]; exact wG k hk
  · rw [hc 2 (by decide)] at hk
    rw [hc 0 (by decide), ho 7 k (by omega) (by omega), ho 8 k (by omega) (by omega), ho 9 k (by omega) (by omega)]; exact wP.1 k hk
  · rw [hc 3 (by decide)] at hk
    rw [hc 0 (by decide), ho 10 k (by omega) (by omega), ho 11 k (by omega) (by omega), ho 12 k (by omega) (by omega)]; exact wP.2 k hk
  · rw [hcc] at hk
    by_cases e : k = cn u 4
    · subst e; rw [hc 0 (by decide), t1x, t2x, t3x]; exact (by obtain ⟨a, b, c⟩ := hx; obtain ⟨d, e, f⟩ := hy; obtain ⟨g, h, i⟩ := hz; exact ⟨a, d, g, b, c, e, f.1, f.2, h, i⟩)
    · rw [hc 0 (by decide), ho 13 k (by omega) (by omega), ho 15 k (by omega) (by omega), ho 16 k (by omega) (by omega)]; exact wK k (by omega)
theorem WfU.sea {a : Nat} (h : WfU u) (h0x : cn u 0 ≤ a) (ha : a ≤ 12) : WfU (xu u 1 0 (nI a)) := by
  obtain ⟨⟨n1x, n2x⟩, wT, wG, wP, wK⟩ := h
  have hc : ∀ j, j ≠ 0 → cn (xu u 1 0 (nI a)) j = cn u j := fun j hj => by unfold cn; rw [xu_o (Or.inr hj)]
  have hcc : cn (xu u 1 0 (nI a)) 0 = a := cn_of xu_at (by omega)
  have ho : ∀ f k, f ≠ 1 → xu u 1 0 (nI a) f k = u f k := fun f k q => xu_o (Or.inl q)
  have c0x : ∀ {x y z : Int32}, (∃ c m p, x = nI c ∧ c < cn u 0 ∧ y = nI m ∧ m ≤ 60 ∧ z = nI p ∧ 1 ≤ p ∧ p ≤ 99) → (∃ c m p, x = nI c ∧ c < cn (xu u 1 0 (nI a)) 0 ∧ y = nI m ∧ m ≤ 60 ∧ z = nI p ∧ 1 ≤ p ∧ p ≤ 99) := fun ⟨c, m, p, q1x, q2x, q3x⟩ => ⟨c, m, p, q1x, by rw [hcc]; omega, q3x⟩
  have c1x : ∀ {x y z : Int32}, (∃ c m b, x = nI c ∧ c < cn u 0 ∧ y = nI m ∧ 1 ≤ m ∧ m ≤ 30 ∧ z = nI b ∧ b ≤ 20) → (∃ c m b, x = nI c ∧ c < cn (xu u 1 0 (nI a)) 0 ∧ y = nI m ∧ 1 ≤ m ∧ m ≤ 30 ∧ z = nI b ∧ b ≤ 20) := fun ⟨c, m, p, q1x, q2x, q3x⟩ => ⟨c, m, p, q1x, by rw [hcc]; omega, q3x⟩
  refine ⟨⟨fun j hj => ?_, ?_⟩, fun t ht => ?_, fun k hk => ?_, ⟨fun k hk => ?_, fun k hk => ?_⟩, fun k hk => ?_⟩
  · by_cases e : j = 0
    · subst e; rw [hcc]; exact xu_at
    · rw [hc j e, xu_o (Or.inr e)]; exact n1x j hj
  · rw [hcc, hc 1 (by decide), hc 2 (by decide), hc 3 (by decide), hc 4 (by decide), hc 5 (by decide), hc 6 (by decide)]; omega
  · rw [hc 1 (by decide)] at ht
    obtain ⟨p, lg, sf, a1x, a2x, a3x, a4x, a5x, a6x, a7x, a8x⟩ := wT t ht
    rw [ho 5 t (by decide), ho 3 t (by decide), ho 4 t (by decide)]
    exact ⟨p, lg, sf, a1x, a2x, a3x, a4x, a5x, a6x, a7x, fun k hk => by rw [ho 6 _ (by decide)]; exact a8x k hk⟩
  · rw [ho 2 k (by decide)]; exact wG k hk
  · rw [hc 2 (by decide)] at hk
    rw [ho 7 k (by decide), ho 8 k (by decide), ho 9 k (by decide)]; exact c0x (wP.1 k hk)
  · rw [hc 3 (by decide)] at hk
    rw [ho 10 k (by decide), ho 11 k (by decide), ho 12 k (by decide)]; exact c0x (wP.2 k hk)
  · rw [hc 4 (by decide)] at hk
    rw [ho 13 k (by decide), ho 15 k (by decide), ho 16 k (by decide)]; exact c1x (wK k hk)
theorem WfU.grn {c a : Nat} (h : WfU u) (ha : a ≤ 20) : WfU (xu u 2 c (nI a)) := by
  obtain ⟨⟨n1x, n2x⟩, wT, wG, wP, wK⟩ := h
  have hc : ∀ j, cn (xu u 2 c (nI a)) j = cn u j := fun j => by unfold cn; rw [xu_o (Or.inl (by decide))]
  have ho : ∀ f k, f ≠ 2 → xu u 2 c (nI a) f k = u f k := fun f k q => xu_o (Or.inl q)
  have c0x : ∀ {x y z : Int32}, (∃ c m p, x = nI c ∧ c < cn u 0 ∧ y = nI m ∧ m ≤ 60 ∧ z = nI p ∧ 1 ≤ p ∧ p ≤ 99) → (∃ d m p, x = nI d ∧ d < cn (xu u 2 c (nI a)) 0 ∧ y = nI m ∧ m ≤ 60 ∧ z = nI p ∧ 1 ≤ p ∧ p ≤ 99) := fun q => by rw [hc 0]; exact q
  have c1x : ∀ {x y z : Int32}, (∃ c m b, x = nI c ∧ c < cn u 0 ∧ y = nI m ∧ 1 ≤ m ∧ m ≤ 30 ∧ z = nI b ∧ b ≤ 20) → (∃ d m b, x = nI d ∧ d < cn (xu u 2 c (nI a)) 0 ∧ y = nI m ∧ 1 ≤ m ∧ m ≤ 30 ∧ z = nI b ∧ b ≤ 20) := fun q => by rw [hc 0]; exact q
  refine ⟨⟨fun j hj => ?_, ?_⟩, fun t ht => ?_, fun k hk => ?_, ⟨fun k hk => ?_, fun k hk => ?_⟩, fun k hk => ?_⟩
  · rw [hc j, ho 1 j (by decide)]; exact n1x j hj
  · rw [hc 0, hc 1, hc 2, hc 3, hc 4, hc 5, hc 6]; exact n2x
  · rw [hc 1] at ht
    obtain ⟨p, lg, sf, a1x, a2x, a3x, a4x, a5x, a6x, a7x, a8x⟩ := wT t ht
    rw [ho 5 t (by decide), ho 3 t (by decide), ho 4 t (by decide)]
    exact ⟨p, lg, sf, a1x, a2x, a3x, a4x, a5x, a6x, a7x, fun k hk => by rw [ho 6 _ (by decide)]; exact a8x k hk⟩
  · by_cases e : k = c
    · subst e; exact ⟨a, xu_at, ha⟩
    · rw [xu_o (Or.inr e)]; exact wG k hk
  · rw [hc 2] at hk
    rw [ho 7 k (by decide), ho 8 k (by decide), ho 9 k (by decide)]; exact c0x (wP.1 k hk)
  · rw [hc 3] at hk
    rw [ho 10 k (by decide), ho 11 k (by decide), ho 12 k (by decide)]; exact c0x (wP.2 k hk)
  · rw [hc 4] at hk
    rw [ho 13 k (by decide), ho 15 k (by decide), ho 16 k (by decide)]; exact c1x (wK k hk)
theorem WfU.stm {a b : Nat} (h : WfU u) (hab : a ≤ b) (hb1x : 1 ≤ b) (hb : b ≤ 9) : WfU (fStm u (nI a) (nI b)) := by
  obtain ⟨⟨n1x, n2x⟩, wT, wG, wP, wK⟩ := h
  have ho : ∀ f k, f ≠ 1 ∨ (k ≠ 5 ∧ k ≠ 6) → fStm u (nI a) (nI b) f k = u f k := fun f k q => by unfold fStm; rw [xu_o (by omega), xu_o (by omega)]
  have hc : ∀ j, j ≠ 5 → j ≠ 6 → cn (fStm u (nI a) (nI b)) j = cn u j := fun j h5x h6x => by unfold cn; rw [ho 1 j (by omega)]
  have d5x : cn (fStm u (nI a) (nI b)) 5 = a := cn_of (by unfold fStm; rw [xu_o (by decide), xu_at]) (by omega)
  have d6x : cn (fStm u (nI a) (nI b)) 6 = b := cn_of (by unfold fStm; rw [xu_at]) (by omega)
  have c0x : ∀ {x y z : Int32}, (∃ c m p, x = nI c ∧ c < cn u 0 ∧ y = nI m ∧ m ≤ 60 ∧ z = nI p ∧ 1 ≤ p ∧ p ≤ 99) → (∃ d m p, x = nI d ∧ d < cn (fStm u (nI a) (nI b)) 0 ∧ y = nI m ∧ m ≤ 60 ∧ z = nI p ∧ 1 ≤ p ∧ p ≤ 99) := fun q => by rw [hc 0 (by decide) (by decide)]; exact q
  have c1x : ∀ {x y z : Int32}, (∃ c m b, x = nI c ∧ c < cn u 0 ∧ y = nI m ∧ 1 ≤ m ∧ m ≤ 30 ∧ z = nI b ∧ b ≤ 20) → (∃ d m p, x = nI d ∧ d < cn (fStm u (nI a) (nI b)) 0 ∧ y = nI m ∧ 1 ≤ m ∧ m ≤ 30 ∧ z = nI p ∧ p ≤ 20) := fun q => by rw [hc 0 (by decide) (by decide)]; exact q
  refine ⟨⟨fun j hj => ?_, ?_⟩, fun t ht => ?_, fun k hk => ?_, ⟨fun k hk => ?_, fun k hk => ?_⟩, fun k hk => ?_⟩
  · by_cases e5x : j = 5
    · subst e5x; rw [d5x]; unfold fStm; rw [xu_o (by decide), xu_at]
    · by_cases e6x : j = 6
      · subst e6x; rw [d6x]; exact xu_at
      · rw [hc j e5x e6x, ho 1 j (by omega)]; exact n1x j hj
  · rw [hc 0 (by decide) (by decide), hc 1 (by decide) (by decide), hc 2 (by decide) (by decide), hc 3 (by decide) (by decide), hc 4 (by decide) (by decide), d5x, d6x]; omega
  · rw [hc 1 (by decide) (by decide)] at ht
    obtain ⟨p, lg, sf, a1x, a2x, a3x, a4x, a5x, a6x, a7x, a8x⟩ := wT t ht
    rw [ho 5 t (by omega), ho 3 t (by omega), ho 4 t (by omega)]
    exact ⟨p, lg, sf, a1x, a2x, a3x, a4x, a5x, a6x, a7x, fun k hk => by rw [ho 6 _ (by omega)]; exact a8x k hk⟩
  · rw [ho 2 k (by omega)]; exact wG k hk
  · rw [hc 2 (by decide) (by decide)] at hk
    rw [ho 7 k (by omega), ho 8 k (by omega), ho 9 k (by omega)]; exact c0x (wP.1 k hk)
  · rw [hc 3 (by decide) (by decide)] at hk
    rw [ho 10 k (by omega), ho 11 k (by omega), ho 12 k (by omega)]; exact c0x (wP.2 k hk)
  · rw [hc 4 (by decide) (by decide)] at hk
    rw [ho 13 k (by omega), ho 15 k (by omega), ho 16 k (by omega)]; exact c1x (wK k hk)
theorem WfU.trn {a b k : Nat} {r : Nat → Int32} (h : WfU u) (hn : cn u 1 < 3) (hk2x : 2 ≤ k) (hk20x : k ≤ 20) (ha : a ≤ 9) (hb : b ≤ 29) (hr : ∀ i, i < k → ∃ x, r i = nI x ∧ x ≤ 9) : WfU (fTrn u (nI a) (nI b) k r) := by
  obtain ⟨⟨n1x, n2x⟩, wT, wG, wP, wK⟩ := h
  have ho : ∀ f i, (f ≠ 1 ∨ i ≠ 1) → (i ≠ cn u 1 ∨ (f ≠ 3 ∧ f ≠ 4 ∧ f ≠ 5)) → ¬ (f = 6 ∧ 20 * cn u 1 ≤ i ∧ i < 20 * cn u 1 + k) → fTrn u (nI a) (nI b) k r f i = u f i := fun f i q1x q2x q3x => by
    unfold fTrn; rw [if_neg q3x]; exact telF_o q1x q2x
  have hc : ∀ j, j ≠ 1 → cn (fTrn u (nI a) (nI b) k r) j = cn u j := fun j hj => by unfold cn; rw [ho 1 j (by omega) (by omega) (by omega)]
  have tc : fTrn u (nI a) (nI b) k r 1 1 = nI (cn u 1 + 1) := by unfold fTrn; rw [if_neg (by omega)]; exact xu_at
  have hcc : cn (fTrn u (nI a) (nI b) k r) 1 = cn u 1 + 1 := cn_of tc (by omega)
  have t1x : fTrn u (nI a) (nI b) k r 3 (cn u 1) = nI a := by unfold fTrn; rw [if_neg (by omega)]; exact telF_1 (by decide) (by decide) (by decide)
  have t2x : fTrn u (nI a) (nI b) k r 4 (cn u 1) = nI b := by unfold fTrn; rw [if_neg (by omega)]; exact telF_2 (by decide) (by decide)
  have t3x : fTrn u (nI a) (nI b) k r 5 (cn u 1) = nI k := by unfold fTrn; rw [if_neg (by omega)]; exact telF_3 (by decide)
  have t6x : ∀ i, i < k → fTrn u (nI a) (nI b) k r 6 (20 * cn u 1 + i) = r i := fun i hi => by unfold fTrn; rw [if_pos (by omega), Nat.add_sub_cancel_left]
  refine ⟨⟨fun j hj => ?_, ?_⟩, fun t ht => ?_, fun i hi => ?_, ⟨fun i hi => ?_, fun i hi => ?_⟩, fun i hi => ?_⟩
  · by_cases e : j = 1
    · subst e; rw [hcc]; exact tc
    · rw [hc j e, ho 1 j (by omega) (by omega) (by omega)]; exact n1x j hj
  · rw [hc 0 (by decide), hcc, hc 2 (by decide), hc 3 (by decide), hc 4 (by decide), hc 5 (by decide), hc 6 (by decide)]; omega
  · rw [hcc] at ht
    by_cases e : t = cn u 1
    · subst e
      exact ⟨k, a, b, t3x, hk2x, hk20x, t1x, ha, t2x, hb, fun i hi => by rw [t6x i hi]; exact hr i hi⟩
    · obtain ⟨p, lg, sf, a1x, a2x, a3x, a4x, a5x, a6x, a7x, a8x⟩ := wT t (by omega)
      rw [ho 5 t (by omega) (by omega) (by omega), ho 3 t (by omega) (by omega) (by omega), ho 4 t (by omega) (by omega) (by omega)]
      exact ⟨p, lg, sf, a1x, a2x, a3x, a4x, a5x, a6x, a7x, fun i hi => by rw [ho 6 _ (by omega) (by omega) (by omega)]; exact a8x i hi⟩
  · rw [ho 2 i (by omega) (by omega) (by omega)]; exact wG i hi
  · rw [hc 2 (by decide)] at hi
    rw [hc 0 (by decide), ho 7 i (by omega) (by omega) (by omega), ho 8 i (by omega) (by omega) (by omega), ho 9 i (by omega) (by omega) (by omega)]; exact wP.1 i hi
  · rw [hc 3 (by decide)] at hi
    rw [hc 0 (by decide), ho 10 i (by omega) (by omega) (by omega), ho 11 i (by omega) (by omega) (by omega), ho 12 i (by omega) (by omega) (by omega)]; exact wP.2 i hi
  · rw [hc 4 (by decide)] at hi
    rw [hc 0 (by decide), ho 13 i (by omega) (by omega) (by omega), ho 15 i (by omega) (by omega) (by omega), ho 16 i (by omega) (by omega) (by omega)]; exact wK i hi
theorem WfU.pers {t : Nat} (h : WfU u) (ht : t < cn u 1) : u 5 t = nI (per u t) ∧ 2 ≤ per u t ∧ per u t ≤ 20 := by
  obtain ⟨p, lg, sf, a1x, a2x, a3x, -⟩ := h.2.1 t ht
  have : per u t = p := by unfold per; rw [a1x, nI_clamp (by omega)]
  rw [this]; exact ⟨a1x, a2x, a3x⟩
theorem WfU.rnd (h : WfU u) : 1 ≤ rndN u ∧ rndN u ≤ 8000 := by
  have key : ∀ m, m ≤ cn u 1 → 1 ≤ itN (fun t a => a / Nat.gcd a (per u t) * per u t) 1 m ∧ itN (fun t a => a / Nat.gcd a (per u t) * per u t) 1 m ≤ 20 ^ m := by
    intro m
    induction m with
    | zero => intro _; exact ⟨Nat.le_refl _, Nat.le_refl _⟩
    | succ m ih =>
      intro hm
      obtain ⟨i1x, i2x⟩ := ih (by omega)
      obtain ⟨-, p2x, p20x⟩ := h.pers (show m < cn u 1 by omega)
      show 1 ≤ itN _ 1 m / Nat.gcd (itN _ 1 m) (per u m) * per u m ∧ itN _ 1 m / Nat.gcd (itN _ 1 m) (per u m) * per u m ≤ 20 ^ (m + 1)
      generalize itN (fun t a => a / Nat.gcd a (per u t) * per u t) 1 m = a at i1x i2x ⊢
      have hg : 0 < Nat.gcd a (per u m) := Nat.gcd_pos_of_pos_left _ (by omega)
      have hg2x : Nat.gcd a (per u m) ≤ a := Nat.gcd_le_left _ (by omega)
      have h1x : 1 ≤ a / Nat.gcd a (per u m) := (Nat.one_le_div_iff hg).mpr hg2x
      have h2x : a / Nat.gcd a (per u m) ≤ a := Nat.div_le_self _ _
      refine ⟨?_, ?_⟩
      · have := Nat.mul_le_mul h1x p2x
        omega
      · rw [Nat.pow_succ]
        exact Nat.mul_le_mul (Nat.le_trans h2x i2x) p20x
  have h3x := h.1.2.2.1
  obtain ⟨k1x, k2x⟩ := key (cn u 1) (Nat.le_refl _)
  have : 20 ^ cn u 1 ≤ 20 ^ 3 := Nat.pow_le_pow_right (by decide) h3x
  exact ⟨k1x, Nat.le_trans k2x this⟩
end SW
