/-! the first state is in order; the goal -/
section FI
def v_0 : Nat → Nat → Int32 := vw cr_m.2.1
theorem v0_1 : ∀ j, j < 14 → v_0 1 j = nI (if j = 6 then 1 else 0) := by
  intro j hj
  show cr_m.2.1 291 j = _
  have h : ∀ j, j < 14 → cs_I[34 + j]? = some (291, j, nI (if j = 6 then 1 else 0)) := by decide +kernel
  exact cr_i (h j hj)
theorem v0_c : ∀ j, j < 14 → cn v_0 j = if j = 6 then 1 else 0 := fun j hj => cn_of (v0_1 j hj) (by split <;> omega)
theorem v0_f {f k : Nat} (hf : 2 ≤ f ∧ f < 32) : v_0 f k = 0 := by
  show vw cr_m.2.1 f k = 0
  unfold vw
  split
  · exact in_z (290 + f) k (by omega) (by omega)
  · rfl
theorem v0_wf : Wf v_0 := by
  have c := v0_c
  refine ⟨⟨fun j hj => by rw [v0_1 j (by omega), c j (by omega)], ?_⟩, fun t ht => ?_, fun x hx => ⟨0, v0_f (by decide), by omega⟩, ⟨fun w hw => ?_, fun w hw => ?_⟩, fun k hk => ?_⟩
  · rw [c 0 (by decide), c 1 (by decide), c 2 (by decide), c 3 (by decide), c 4 (by decide), c 5 (by decide), c 6 (by decide), c 7 (by decide), c 8 (by decide), c 9 (by decide), c 10 (by decide), c 11 (by decide), c 12 (by decide)]
    decide
  · rw [c 1 (by decide)] at ht; exact absurd ht (Nat.not_lt_zero _)
  · rw [c 2 (by decide)] at hw; exact absurd hw (Nat.not_lt_zero _)
  · rw [c 3 (by decide)] at hw; exact absurd hw (Nat.not_lt_zero _)
  · rw [c 4 (by decide)] at hk; exact absurd hk (Nat.not_lt_zero _)
theorem v0_gv : GV v_0 (fun x => cr_m.2.1 348 x) 0 := by
  have c := v0_c
  refine ⟨v0_wf, ⟨fun k hk => ?_, fun k hk => ?_, fun k hk => ?_⟩, by rw [c 7 (by decide)]; decide, fun f k hf hk => ?_, fun x _ => in_z 348 x (by decide) (by decide), ⟨0, by decide, v0_1 13 (by decide)⟩, fun i hi => absurd hi (Nat.not_lt_zero _)⟩
  · rw [c 10 (by decide)] at hk; exact absurd hk (Nat.not_lt_zero _)
  · rw [c 11 (by decide)] at hk; exact absurd hk (Nat.not_lt_zero _)
  · rw [c 12 (by decide)] at hk; exact absurd hk (Nat.not_lt_zero _)
  · by_cases e : f = 1
    · subst e
      have := fln_t.2.2
      show cr_m.2.1 291 k = 0
      exact in_z1 k (by omega)
    · exact v0_f (by omega)
theorem i0_momv : MomV cr_m.2.1 47 v_0 := by
  have c := v0_c
  refine ⟨?_, ?_, fun k hk => ?_, ?_, fun k hk => ?_⟩
  · rw [c 7 (by decide)]; exact cr_i (j := 20) (by decide +kernel)
  · rw [c 8 (by decide)]; exact cr_i (j := 21) (by decide +kernel)
  · rw [c 4 (by decide)] at hk; exact absurd hk (Nat.not_lt_zero _)
  · rw [c 9 (by decide)]; exact cr_i (j := 22) (by decide +kernel)
  · rw [c 9 (by decide)] at hk; exact absurd hk (Nat.not_lt_zero _)
theorem i0_worv : WorV cr_m.2.1 35 v_0 := by
  have c := v0_c
  refine ⟨?_, fun k hk => ?_, ?_, fun k hk => ?_, ?_, fun k hk => ?_, ?_⟩
  · rw [c 10 (by decide)]; exact cr_i (j := 24) (by decide +kernel)
  · rw [c 10 (by decide)] at hk; exact absurd hk (Nat.not_lt_zero _)
  · rw [c 11 (by decide)]; exact cr_i (j := 25) (by decide +kernel)
  · rw [c 11 (by decide)] at hk; exact absurd hk (Nat.not_lt_zero _)
  · rw [c 12 (by decide)]; exact cr_i (j := 27) (by decide +kernel)
  · rw [c 12 (by decide)] at hk; exact absurd hk (Nat.not_lt_zero _)
  · rw [v0_1 13 (by decide)]; exact cr_i (j := 26) (by decide +kernel)
theorem i0_wrel : WRel cr_m.1 cr_m.2.1 cr_m.2.2.2 35 9 v_0 (fun x => cr_m.2.1 348 x) 0 := ⟨in_wa, in_m47, csR_ok (by decide +kernel), i0_momv, i0_worv, cr_i (j := 23) (by decide +kernel), by decide, fun i => i, fun i hi => ⟨hi, in_past i hi⟩, fun i j _ _ e => e, in_mom, fun i hi => absurd hi (Nat.not_lt_zero _)⟩
theorem i0_sea : SeaR cr_m.1 cr_m.2.1 cr_m.2.2.2 9 v_0 := by
  have c := v0_c
  refine ⟨in_s9, ⟨fun j hj => ?_, ?_, ?_, fun x hx => ?_, fun t ht => ?_, fun w hw => ?_, fun w hw => ?_, fun k hk => ?_⟩, ⟨?_, fun t ht => ?_⟩⟩
  · rw [c j (by omega), if_neg (by omega)]
    have h : ∀ j, j < 5 → cs_I[j]? = some (9, j, nI 0) := by decide +kernel
    exact cr_i (h j hj)
  · rw [c 5 (by decide)]; exact cr_i (j := 5) (by decide +kernel)
  · rw [c 6 (by decide)]; exact cr_i (j := 6) (by decide +kernel)
  · rw [v0_f (by decide)]
    have h : ∀ j, j < 12 → cs_I[8 + j]? = some (15, j, 0) := by decide +kernel
    exact cr_i (h x hx)
  · rw [c 1 (by decide)] at ht; exact absurd ht (Nat.not_lt_zero _)
  · rw [c 2 (by decide)] at hw; exact absurd hw (Nat.not_lt_zero _)
  · rw [c 3 (by decide)] at hw; exact absurd hw (Nat.not_lt_zero _)
  · rw [c 4 (by decide)] at hk; exact absurd hk (Nat.not_lt_zero _)
  · rw [show rndN v_0 = 1 from by unfold rndN; rw [c 1 (by decide)]; rfl]; exact cr_i (j := 7) (by decide +kernel)
  · rw [c 1 (by decide)] at ht; exact absurd ht (Nat.not_lt_zero _)
theorem in_inv : INV 0 cr_m := by
  have ln := cr_m_len
  refine ⟨cr_m.1, cr_m.2.1, cr_m.2.2.1, cr_m.2.2.2, rfl, ⟨by omega, by omega⟩, v_0, fun x => cr_m.2.1 348 x, 0, 9, 22, fun _ => 0, 0, 0, fun _ => [], fun _ => [], fun _ => none, ?_, ?_, ?_, ?_⟩
  · exact ⟨in_ks, ⟨254, 255, 256, 257, in_pa⟩, ⟨by decide, cr_i (j := 28) (by decide +kernel), fun j hj => absurd hj (Nat.not_lt_zero _)⟩, ⟨cr_i (j := 29) (by decide +kernel), fun r hr => absurd hr (Nat.not_lt_zero _)⟩, i0_wrel, ⟨i0_sea, in_s22, fun t ht => in_236 t ht⟩, csR_ok (by decide +kernel)⟩
  · exact ⟨in_mw, fun f k hf => by show _ = vw cr_m.2.1 f k; unfold vw; rw [if_pos hf], fun _ => rfl, cr_i (j := 30) (by decide +kernel), fun k _ => in_z 309 k (by decide) (by decide), ⟨by decide, cr_i (j := 31) (by decide +kernel), fun j hj => absurd hj (Nat.not_lt_zero _)⟩, cr_i (j := 33) (by decide +kernel), ⟨cr_i (j := 32) (by decide +kernel), fun r hr => absurd hr (Nat.not_lt_zero _)⟩, fun t ht => in_z 359 t (by decide) (by decide)⟩
  · exact ⟨v0_gv, by decide, by decide, fun r hr => absurd hr (Nat.not_lt_zero _), fun _ _ => trivial⟩
  · rw [ln.1]
    exact ⟨by decide, ⟨Or.inl rfl, by decide⟩, ⟨Or.inr (Or.inl rfl), by decide⟩, by decide, fun t p _ e => absurd e (by simp)⟩
theorem wh_goal : xGoal 3072 := by
  refine xGoal_inv (Nat.le_refl _) (fun _ i h => INV i h) (fun _ => in_inv) (fun _ i h q => q.six) (fun _ i h q => ?_) (fun _ i h hi q => ?_) (fun X h i v1x v2x v3x v4x v5x _ q => ok_all q)
  · obtain ⟨sh, I, L, R, rfl, r, v, P, a, s, y, B, n, rc, cds, cls, im, d⟩ := q
    exact d.1.1.1
  · obtain ⟨sh, I, L, R, rfl, r, d⟩ := q
    show sh.length ≤ 600000 ∧ xsum sh ≤ 7302250
    omega
end FI
