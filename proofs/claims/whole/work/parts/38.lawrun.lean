/-! THE LAW'S RUN: its beginning, its loop -/
theorem xGoal_of {N : Nat} (hh : ∀ (L : Nat) (xs : Nat → Int32) (g : Bool), L ≤ N → Eg (L, xs, g) xTb 999 0 0 [(0, .retAddr 0)] [] xh0 (fun r h => r = some (.int 1) ∧ h.1.length ≤ 600000 ∧ xsum h.1 ≤ 7302250)) : xGoal N := by
  intro L xs g hL
  obtain ⟨r, h', ⟨rfl, h1, h2⟩, n, hn⟩ := hh L xs g hL
  exact ⟨n, 999, h', Nat.le_refl _, hn n n (Nat.le_refl _) (Nat.le_refl _), h1, h2⟩
/-- both objects made: the law stands at its loop -/
theorem law_start {X : xX} {Q : Option Value → xH → Prop} (kk : Eg X xTb 999 0 18 [(3, .int 0), (2, .ref 290), (1, .ref 0), (0, .retAddr 0)] [] cr_m Q) : Eg X xTb 999 0 0 [(0, .retAddr 0)] [] xh0 Q := by
  refine e_ob rfl ?_
  refine e_dupr rfl ?_
  refine Eg.call [.ref 0] [.ref 0] rfl (by decide) (by decide) rfl rfl (Nat.le_of_ble_eq_true rfl) (xrcv_ofi (Or.inl rfl) rfl) ((ct_root (X := X)).mono (by omega)) (fun r1 h1 hq => ?_)
  obtain ⟨rfl, rfl⟩ := hq
  refine e_astore rfl ?_
  refine e_ob rfl ?_
  refine e_dupr rfl ?_
  have hl : cr_h.1.length = 290 := cr_len.2.2.2.2.2.2.2.2.2.2
  rw [hl]
  refine Eg.call [.ref 290] [.ref 290] rfl (by decide) (by decide) rfl rfl (Nat.le_of_ble_eq_true rfl) (xrcv_ofi (Or.inl rfl) rfl) ((ct_model (X := X) (h0 := xob 12 88 cr_h) (i := 290) (by have := xob_at (c := 12) (n := 88) cr_h; rw [hl] at this; exact this)).mono (by omega)) (fun r1 h1 hq => ?_)
  obtain ⟨rfl, rfl⟩ := hq
  refine e_astore rfl ?_
  refine e_ipush rfl ?_
  refine e_istore rfl ?_
  exact kk
