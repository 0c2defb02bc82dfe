/-! TOLD: sights, heights, the fleet -/
section TE
variable {X : xX} {h : xH} {sh : List (Nat × Nat)} {I : Nat → Nat → Int32} {L : Nat → Nat → Int64} {R : Nat → Nat → Option Nat} {v : Nat → Nat → Int32} {w s m : Nat}
/-- views that differ in what was told alone -/
def tld (V v : Nat → Nat → Int32) : Prop := ∀ f k, f < 24 → (f ≠ 1 ∨ k < 10) → V f k = v f k
theorem tld.c {V : Nat → Nat → Int32} (h : tld V v) {j : Nat} (hj : j < 10) : cn V j = cn v j := by
  unfold cn; rw [h 1 j (by decide) (Or.inr hj)]
theorem tld.f {V : Nat → Nat → Int32} (h : tld V v) {f k : Nat} (hf : f < 24) (h1 : f ≠ 1) : V f k = v f k := h f k hf (Or.inl h1)
theorem SeaV.tl {V : Nat → Nat → Int32} (h : SeaV I s v) (q : tld V v) : SeaV I s V := by
  unfold SeaV at h ⊢
  obtain ⟨h1, h2, h3, h4, h5, h6, h7, h8⟩ := h
  refine ⟨fun j hj => ?_, ?_, ?_, fun c hc => ?_, fun t ht => ?_, fun k hk => ?_, fun k hk => ?_, fun k hk => ?_⟩
  · rw [q.c (by omega)]; exact h1 j hj
  · rw [q.c (by omega)]; exact h2
  · rw [q.c (by omega)]; exact h3
  · rw [q.f (by omega) (by omega)]; exact h4 c hc
  · rw [q.c (by omega)] at ht
    obtain ⟨a, b, c, d⟩ := h5 t ht
    rw [q.f (f := 3) (by omega) (by omega), q.f (f := 4) (by omega) (by omega), q.f (f := 5) (by omega) (by omega)]
    exact ⟨a, b, c, fun k h1 h2 => by rw [q.f (f := 6) (by omega) (by omega)]; exact d k h1 h2⟩
  · rw [q.c (by omega)] at hk
    rw [q.f (f := 7) (by omega) (by omega), q.f (f := 8) (by omega) (by omega), q.f (f := 9) (by omega) (by omega)]; exact h6 k hk
  · rw [q.c (by omega)] at hk
    rw [q.f (f := 10) (by omega) (by omega), q.f (f := 11) (by omega) (by omega), q.f (f := 12) (by omega) (by omega)]; exact h7 k hk
  · rw [q.c (by omega)] at hk
    rw [q.f (f := 15) (by omega) (by omega), q.f (f := 16) (by omega) (by omega)]; exact h8 k hk
theorem tld_per {V : Nat → Nat → Int32} (q : tld V v) {t : Nat} : per V t = per v t := by
  unfold per; rw [q.f (f := 5) (by omega) (by omega)]
theorem SeaW.tl {V : Nat → Nat → Int32} (h : SeaW I s v) (q : tld V v) : SeaW I s V := by
  have er : rndN V = rndN v := by
    unfold rndN; rw [q.c (by omega)]
    exact itN_ext (fun t z ht => by rw [tld_per q])
  refine ⟨by rw [er]; exact h.1, fun t ht => ?_⟩
  rw [q.c (by omega)] at ht
  have eg : grF V t = grF v t := by
    unfold grF; rw [tld_per q]
    exact itN_ext (fun k z hk => by rw [q.f (f := 6) (by omega) (by omega)])
  rw [eg]; exact h.2 t ht
theorem SeaR.tl {V : Nat → Nat → Int32} (h : SeaR sh I R s v) (q : tld V v) : SeaR sh I R s V := ⟨h.1, h.2.1.tl q, h.2.2.tl q⟩
theorem MomV.tl {V : Nat → Nat → Int32} (h : MomV I m v) (q : tld V v) : MomV I m V := by
  obtain ⟨⟨h1, h2, h3⟩, hD⟩ := MomV_iff.mp h
  refine MomV_iff.mpr ⟨⟨by rw [q.c (by omega)]; exact h1, by rw [q.c (by omega)]; exact h2, fun k hk => ?_⟩, ?_⟩
  · rw [q.c (by omega)] at hk
    rw [q.f (f := 13) (by omega) (by omega), q.f (f := 14) (by omega) (by omega), q.f (f := 17) (by omega) (by omega), q.f (f := 18) (by omega) (by omega)]; exact h3 k hk
  · rw [q.c (by omega), digL_ext (v := v) (q 1 7 (by decide) (by decide)) (fun f k h1 h2 => q.f (by omega) (by omega))]; exact hD
theorem tld.pvw {V : Nat → Nat → Int32} (h : tld V v) {P : Nat → Int32} {k : Nat} : tld (pvw P V k) (pvw P v k) := by
  intro f i h1 h2
  by_cases hs : slot f i
  · obtain ⟨j, hj, e1, e2⟩ := hs
    subst e1; subst e2
    rw [pvw_in hj, pvw_in hj]
  · rw [pvw_o hs, pvw_o hs]; exact h f i h1 h2
theorem PastR.tl {V : Nat → Nat → Int32} {P : Nat → Int32} {a : Nat} {p : Nat → Nat} (h : PastR sh I R w s v P a p) (q : tld V v) : PastR sh I R w s V P a p :=
  ⟨h.1, h.2.1, h.2.2.1, fun i hi => ⟨(h.2.2.2 i hi).1, (h.2.2.2 i hi).2.tl q.pvw⟩⟩
theorem Wf.tl {V : Nat → Nat → Int32} (hw : Wf v) (q : tld V v) (h : ∀ j, 10 ≤ j → j < 13 → V 1 j = nI (cn V j)) (hb : cn V 10 ≤ 10 ∧ cn V 11 ≤ 10 ∧ cn V 12 ≤ 6) : Wf V := by
  obtain ⟨⟨n1, n2⟩, wT, wG, wP, wS⟩ := hw
  have c := fun j (hj : j < 10) => q.c hj
  refine ⟨⟨fun j hj => ?_, ?_⟩, fun t ht => ?_, fun k hk => ?_, ⟨fun k hk => ?_, fun k hk => ?_⟩, fun k hk => ?_⟩
  · by_cases e : j < 10
    · rw [c j e, q 1 j (by decide) (Or.inr e)]; exact n1 j hj
    · exact h j (by omega) hj
  · rw [c 0 (by omega), c 1 (by omega), c 2 (by omega), c 3 (by omega), c 4 (by omega), c 5 (by omega), c 6 (by omega), c 7 (by omega), c 8 (by omega), c 9 (by omega)]
    omega
  · rw [c 1 (by omega)] at ht
    rw [q.f (f := 5) (by omega) (by omega), q.f (f := 3) (by omega) (by omega), q.f (f := 4) (by omega) (by omega)]
    obtain ⟨p, lg, sf, a1, a2, a3, a4, a5, a6, a7, a8⟩ := wT t ht
    exact ⟨p, lg, sf, a1, a2, a3, a4, a5, a6, a7, fun k hk => by rw [q.f (f := 6) (by omega) (by omega)]; exact a8 k hk⟩
  · rw [q.f (f := 2) (by omega) (by omega)]; exact wG k hk
  · rw [c 2 (by omega)] at hk
    rw [c 0 (by omega), q.f (f := 7) (by omega) (by omega), q.f (f := 8) (by omega) (by omega), q.f (f := 9) (by omega) (by omega)]; exact wP.1 k hk
  · rw [c 3 (by omega)] at hk
    rw [c 0 (by omega), q.f (f := 10) (by omega) (by omega), q.f (f := 11) (by omega) (by omega), q.f (f := 12) (by omega) (by omega)]; exact wP.2 k hk
  · rw [c 4 (by omega)] at hk
    rw [c 0 (by omega), q.f (f := 13) (by omega) (by omega), q.f (f := 14) (by omega) (by omega), q.f (f := 15) (by omega) (by omega), q.f (f := 16) (by omega) (by omega)]; exact wS k hk
/-- one row of told things longer: fields f1 f2 f3 (f3 = 0: none), the count c -/
def telF (v : Nat → Nat → Int32) (c f1 f2 f3 : Nat) (x y z : Int32) : Nat → Nat → Int32 := xu (xu (xu (xu v f1 (cn v c) x) f2 (cn v c) y) f3 (cn v c) z) 1 c (nI (cn v c + 1))
theorem telF_o {c f1 f2 f3 f k : Nat} {x y z : Int32} (h1 : f ≠ 1 ∨ k ≠ c) (h2 : k ≠ cn v c ∨ (f ≠ f1 ∧ f ≠ f2 ∧ f ≠ f3)) : telF v c f1 f2 f3 x y z f k = v f k := by
  unfold telF
  rw [xu_o (by omega), xu_o (by omega), xu_o (by omega), xu_o (by omega)]
theorem telF_tld {c f1 f2 f3 : Nat} {x y z : Int32} (hc : 10 ≤ c) (h1 : 24 ≤ f1) (h2 : 24 ≤ f2) (h3 : 24 ≤ f3) : tld (telF v c f1 f2 f3 x y z) v := fun f k a b => telF_o (by omega) (Or.inr (by omega))
theorem telF_cn {c f1 f2 f3 j : Nat} {x y z : Int32} (h1 : 1 < f1) (h2 : 1 < f2) (h3 : 1 < f3) (hj : j ≠ c) : cn (telF v c f1 f2 f3 x y z) j = cn v j := by
  unfold cn; rw [telF_o (Or.inr hj) (Or.inr (by omega))]
theorem telF_c {c f1 f2 f3 : Nat} {x y z : Int32} (h : cn v c < 10) : cn (telF v c f1 f2 f3 x y z) c = cn v c + 1 := by
  unfold cn
  rw [show telF v c f1 f2 f3 x y z 1 c = nI (cn v c + 1) from xu_at, nI_clamp (by omega)]; rfl
theorem telF_1 {c f1 f2 f3 : Nat} {x y z : Int32} (h1 : f1 ≠ 1) (h12 : f1 ≠ f2) (h13 : f1 ≠ f3) : telF v c f1 f2 f3 x y z f1 (cn v c) = x := by
  unfold telF; rw [xu_i h1, xu_i h13, xu_i h12, xu_at]
theorem telF_2 {c f1 f2 f3 : Nat} {x y z : Int32} (h1 : f2 ≠ 1) (h13 : f2 ≠ f3) : telF v c f1 f2 f3 x y z f2 (cn v c) = y := by
  unfold telF; rw [xu_i h1, xu_i h13, xu_at]
theorem telF_3 {c f1 f2 f3 : Nat} {x y z : Int32} (h1 : f3 ≠ 1) : telF v c f1 f2 f3 x y z f3 (cn v c) = z := by
  unfold telF; rw [xu_i h1, xu_at]
def zerF (v : Nat → Nat → Int32) (c : Nat) : Nat → Nat → Int32 := xu v 1 c (nI 0)
theorem zerF_tld {c : Nat} (hc : 10 ≤ c) : tld (zerF v c) v := fun f k a b => xu_o (by omega)
theorem zerF_cn {c j : Nat} (hj : j ≠ c) : cn (zerF v c) j = cn v j := by unfold cn; rw [show zerF v c 1 j = v 1 j from xu_o (Or.inr hj)]
theorem zerF_c {c : Nat} : cn (zerF v c) c = 0 := by unfold cn; rw [show zerF v c 1 c = nI 0 from xu_at]; rfl
theorem zerF_o {c f k : Nat} (h : f ≠ 1 ∨ k ≠ c) : zerF v c f k = v f k := xu_o h
/-- what is told leaves all but the world's rows -/
def TACT (sh : List (Nat × Nat)) (I : Nat → Nat → Int32) (L : Nat → Nat → Int64) (R : Nat → Nat → Option Nat) (w : Nat) (v : Nat → Nat → Int32) (h' : xH) : Prop := ∃ I', h' = (sh, I', L, R) ∧ WorV I' w v ∧ ∀ i k, i < w ∨ w + 10 < i ∨ (i = w ∧ k = 2) → I' i k = I i k
theorem WorV.zer {I' : Nat → Nat → Int32} {c : Nat} (h : WorV I w v) (hc : c = 10 ∨ c = 11 ∨ c = 12) (g1 : c = 10 → I' w 3 = 0) (g2 : c = 11 → I' w 6 = 0) (g3 : c = 12 → I' (w + 7) 0 = 0) (f : ∀ p t, ¬ (p = w ∧ t = 3 ∧ c = 10) → ¬ (p = w ∧ t = 6 ∧ c = 11) → ¬ (p = w + 7 ∧ t = 0 ∧ c = 12) → I' p t = I p t) : WorV I' w (zerF v c) := by
  unfold WorV at h ⊢
  obtain ⟨h1, h2, h3, h4, h5, h6, h7⟩ := h
  refine ⟨?_, fun k hk => ?_, ?_, fun k hk => ?_, ?_, fun k hk => ?_, ?_⟩
  · by_cases e : c = 10
    · subst e; rw [zerF_c, g1 rfl]; rfl
    · rw [zerF_cn (by omega), f _ _ (by omega) (by omega) (by omega)]; exact h1
  · by_cases e : c = 10
    · subst e; rw [zerF_c] at hk; omega
    · rw [zerF_cn (by omega)] at hk
      rw [zerF_o (by omega), zerF_o (by omega), f _ _ (by omega) (by omega) (by omega), f _ _ (by omega) (by omega) (by omega)]; exact h2 k hk
  · by_cases e : c = 11
    · subst e; rw [zerF_c, g2 rfl]; rfl
    · rw [zerF_cn (by omega), f _ _ (by omega) (by omega) (by omega)]; exact h3
  · by_cases e : c = 11
    · subst e; rw [zerF_c] at hk; omega
    · rw [zerF_cn (by omega)] at hk
      rw [zerF_o (by omega), zerF_o (by omega), zerF_o (by omega), f _ _ (by omega) (by omega) (by omega), f _ _ (by omega) (by omega) (by omega), f _ _ (by omega) (by omega) (by omega)]; exact h4 k hk
  · by_cases e : c = 12
    · subst e; rw [zerF_c, g3 rfl]; rfl
    · rw [zerF_cn (by omega), f _ _ (by omega) (by omega) (by omega)]; exact h5
  · by_cases e : c = 12
    · subst e; rw [zerF_c] at hk; omega
    · rw [zerF_cn (by omega)] at hk
      rw [zerF_o (by omega), zerF_o (by omega), zerF_o (by omega), f _ _ (by omega) (by omega) (by omega), f _ _ (by omega) (by omega) (by omega), f _ _ (by omega) (by omega) (by omega)]; exact h6 k hk
  · rw [zerF_o (by omega), f _ _ (by omega) (by omega) (by omega)]; exact h7
theorem WorV.sig {I' : Nat → Nat → Int32} {x y : Int32} (h : WorV I w v) (hn : cn v 10 < 10) (g1 : I' (w + 2) (cn v 10) = x) (g2 : I' (w + 3) (cn v 10) = y) (gc : I' (w) 3 = nI (cn v 10 + 1)) (f : ∀ p t, ¬ (p = w + 2 ∧ t = cn v 10) → ¬ (p = w + 3 ∧ t = cn v 10) → ¬ (p = w ∧ t = 3) → I' p t = I p t) : WorV I' w (telF v 10 24 25 25 x y y) := by
  unfold WorV at h ⊢
  obtain ⟨h1, h2, h3, h4, h5, h6, h7⟩ := h
  have hc : ∀ j, j ≠ 10 → cn (telF v 10 24 25 25 x y y) j = cn v j := fun j hj => telF_cn (by decide) (by decide) (by decide) hj
  have hcc : cn (telF v 10 24 25 25 x y y) 10 = cn v 10 + 1 := telF_c hn
  have ho : ∀ f k, (f ≠ 1 ∨ k ≠ 10) → (k ≠ cn v 10 ∨ (f ≠ 24 ∧ f ≠ 25 ∧ f ≠ 25)) → (telF v 10 24 25 25 x y y) f k = v f k := fun f k a b => telF_o a b
  refine ⟨?_, fun k hk => ?_, ?_, fun k hk => ?_, ?_, fun k hk => ?_, ?_⟩
  · rw [hcc]; exact gc
  · rw [hcc] at hk
    by_cases e : k = cn v 10
    · subst e; exact ⟨g1.trans (telF_1 (by decide) (by decide) (by decide)).symm, g2.trans (telF_3 (f3 := 25) (by decide)).symm⟩
    · rw [ho 24 k (by omega) (by omega), ho 25 k (by omega) (by omega), f _ _ (by omega) (by omega) (by omega) , f _ _ (by omega) (by omega) (by omega) ]; exact h2 k (by omega)
  · rw [hc 11 (by decide), f _ _ (by omega) (by omega) (by omega) ]; exact h3
  · rw [hc 11 (by decide)] at hk
    rw [ho 26 k (by omega) (by omega), ho 27 k (by omega) (by omega), ho 28 k (by omega) (by omega), f _ _ (by omega) (by omega) (by omega) , f _ _ (by omega) (by omega) (by omega) , f _ _ (by omega) (by omega) (by omega) ]; exact h4 k hk
  · rw [hc 12 (by decide), f _ _ (by omega) (by omega) (by omega) ]; exact h5
  · rw [hc 12 (by decide)] at hk
    rw [ho 29 k (by omega) (by omega), ho 30 k (by omega) (by omega), ho 31 k (by omega) (by omega), f _ _ (by omega) (by omega) (by omega) , f _ _ (by omega) (by omega) (by omega) , f _ _ (by omega) (by omega) (by omega) ]; exact h6 k hk
  · rw [ho 1 13 (by omega) (by omega), f _ _ (by omega) (by omega) (by omega) ]; exact h7
theorem WorV.tol {I' : Nat → Nat → Int32} {x y z : Int32} (h : WorV I w v) (hn : cn v 11 < 10) (g1 : I' (w + 4) (cn v 11) = x) (g2 : I' (w + 5) (cn v 11) = y) (g3 : I' (w + 6) (cn v 11) = z) (gc : I' (w) 6 = nI (cn v 11 + 1)) (f : ∀ p t, ¬ (p = w + 4 ∧ t = cn v 11) → ¬ (p = w + 5 ∧ t = cn v 11) → ¬ (p = w + 6 ∧ t = cn v 11) → ¬ (p = w ∧ t = 6) → I' p t = I p t) : WorV I' w (telF v 11 26 27 28 x y z) := by
  unfold WorV at h ⊢
  obtain ⟨h1, h2, h3, h4, h5, h6, h7⟩ := h
  have hc : ∀ j, j ≠ 11 → cn (telF v 11 26 27 28 x y z) j = cn v j := fun j hj => telF_cn (by decide) (by decide) (by decide) hj
  have hcc : cn (telF v 11 26 27 28 x y z) 11 = cn v 11 + 1 := telF_c hn
  have ho : ∀ f k, (f ≠ 1 ∨ k ≠ 11) → (k ≠ cn v 11 ∨ (f ≠ 26 ∧ f ≠ 27 ∧ f ≠ 28)) → (telF v 11 26 27 28 x y z) f k = v f k := fun f k a b => telF_o a b
  refine ⟨?_, fun k hk => ?_, ?_, fun k hk => ?_, ?_, fun k hk => ?_, ?_⟩
  · rw [hc 10 (by decide), f _ _ (by omega) (by omega) (by omega) (by omega) ]; exact h1
  · rw [hc 10 (by decide)] at hk
    rw [ho 24 k (by omega) (by omega), ho 25 k (by omega) (by omega), f _ _ (by omega) (by omega) (by omega) (by omega) , f _ _ (by omega) (by omega) (by omega) (by omega) ]; exact h2 k hk
  · rw [hcc]; exact gc
  · rw [hcc] at hk
    by_cases e : k = cn v 11
    · subst e; exact ⟨g1.trans (telF_1 (by decide) (by decide) (by decide)).symm, g2.trans (telF_2 (by decide) (by decide)).symm, g3.trans (telF_3 (by decide)).symm⟩
    · rw [ho 26 k (by omega) (by omega), ho 27 k (by omega) (by omega), ho 28 k (by omega) (by omega), f _ _ (by omega) (by omega) (by omega) (by omega) , f _ _ (by omega) (by omega) (by omega) (by omega) , f _ _ (by omega) (by omega) (by omega) (by omega) ]; exact h4 k (by omega)
  · rw [hc 12 (by decide), f _ _ (by omega) (by omega) (by omega) (by omega) ]; exact h5
  · rw [hc 12 (by decide)] at hk
    rw [ho 29 k (by omega) (by omega), ho 30 k (by omega) (by omega), ho 31 k (by omega) (by omega), f _ _ (by omega) (by omega) (by omega) (by omega) , f _ _ (by omega) (by omega) (by omega) (by omega) , f _ _ (by omega) (by omega) (by omega) (by omega) ]; exact h6 k hk
  · rw [ho 1 13 (by omega) (by omega), f _ _ (by omega) (by omega) (by omega) (by omega) ]; exact h7
theorem WorV.fle {I' : Nat → Nat → Int32} {x y z : Int32} (h : WorV I w v) (hn : cn v 12 < 10) (g1 : I' (w + 8) (cn v 12) = x) (g2 : I' (w + 9) (cn v 12) = y) (g3 : I' (w + 10) (cn v 12) = z) (gc : I' (w + 7) 0 = nI (cn v 12 + 1)) (f : ∀ p t, ¬ (p = w + 8 ∧ t = cn v 12) → ¬ (p = w + 9 ∧ t = cn v 12) → ¬ (p = w + 10 ∧ t = cn v 12) → ¬ (p = w + 7 ∧ t = 0) → I' p t = I p t) : WorV I' w (telF v 12 29 30 31 x y z) := by
  unfold WorV at h ⊢
  obtain ⟨h1, h2, h3, h4, h5, h6, h7⟩ := h
  have hc : ∀ j, j ≠ 12 → cn (telF v 12 29 30 31 x y z) j = cn v j := fun j hj => telF_cn (by decide) (by decide) (by decide) hj
  have hcc : cn (telF v 12 29 30 31 x y z) 12 = cn v 12 + 1 := telF_c hn
  have ho : ∀ f k, (f ≠ 1 ∨ k ≠ 12) → (k ≠ cn v 12 ∨ (f ≠ 29 ∧ f ≠ 30 ∧ f ≠ 31)) → (telF v 12 29 30 31 x y z) f k = v f k := fun f k a b => telF_o a b
  refine ⟨?_, fun k hk => ?_, ?_, fun k hk => ?_, ?_, fun k hk => ?_, ?_⟩
  · rw [hc 10 (by decide), f _ _ (by omega) (by omega) (by omega) (by omega) ]; exact h1
  · rw [hc 10 (by decide)] at hk
    rw [ho 24 k (by omega) (by omega), ho 25 k (by omega) (by omega), f _ _ (by omega) (by omega) (by omega) (by omega) , f _ _ (by omega) (by omega) (by omega) (by omega) ]; exact h2 k hk
  · rw [hc 11 (by decide), f _ _ (by omega) (by omega) (by omega) (by omega) ]; exact h3
  · rw [hc 11 (by decide)] at hk
    rw [ho 26 k (by omega) (by omega), ho 27 k (by omega) (by omega), ho 28 k (by omega) (by omega), f _ _ (by omega) (by omega) (by omega) (by omega) , f _ _ (by omega) (by omega) (by omega) (by omega) , f _ _ (by omega) (by omega) (by omega) (by omega) ]; exact h4 k hk
  · rw [hcc]; exact gc
  · rw [hcc] at hk
    by_cases e : k = cn v 12
    · subst e; exact ⟨g1.trans (telF_1 (by decide) (by decide) (by decide)).symm, g2.trans (telF_2 (by decide) (by decide)).symm, g3.trans (telF_3 (by decide)).symm⟩
    · rw [ho 29 k (by omega) (by omega), ho 30 k (by omega) (by omega), ho 31 k (by omega) (by omega), f _ _ (by omega) (by omega) (by omega) (by omega) , f _ _ (by omega) (by omega) (by omega) (by omega) , f _ _ (by omega) (by omega) (by omega) (by omega) ]; exact h6 k (by omega)
  · rw [ho 1 13 (by omega) (by omega), f _ _ (by omega) (by omega) (by omega) (by omega) ]; exact h7
theorem cs_addHeight (hWA : WorldAt sh R w) (hWV : WorV I w v) {x y z : Int32} (hn : cn v 11 < 10)  : Ec X 1 137 [.ref (w), .int x, .int y, .int z] (sh, I, L, R) (fun r h' => r = none ∧ ∃ I', h' = (sh, I', L, R) ∧ WorV I' w (telF v 11 26 27 28 x y z) ∧ I' (w) 6 = nI (cn v 11 + 1) ∧ ∀ i k, i < w ∨ w + 10 < i ∨ (i = w ∧ k = 2) → I' i k = I i k) := by
  refine Ec.of (Nat.le_of_ble_eq_true rfl) ?_
  refine e_aload rfl rfl ?_
  refine e_getIv rfl hWA.1 hWV.2.2.1 ?_
  refine e_ipush rfl ?_
  refine e_cge_f rfl (nI_ge (b := 10) hn (by decide)) ?_
  refine e_aload rfl rfl ?_
  refine e_getR rfl hWA.1 hWA.2.2.2.2.2.1.2 ?_
  refine e_aload rfl rfl ?_
  refine e_getIv rfl hWA.1 hWV.2.2.1 ?_
  refine e_iload rfl rfl ?_
  refine e_iasJ (t := (cn v 11)) (n := 10) rfl hWA.2.2.2.2.2.1.1 rfl (by omega) (by decide) (fun J1 g1 f1 => ?_)
  refine e_aload rfl rfl ?_
  refine e_getR rfl hWA.1 hWA.2.2.2.2.2.2.1.2 ?_
  refine e_aload rfl rfl ?_
  refine e_getIv rfl hWA.1 ((f1 w 6 (Or.inl (by omega))).trans hWV.2.2.1) ?_
  refine e_iload rfl rfl ?_
  refine e_iasJ (t := (cn v 11)) (n := 10) rfl hWA.2.2.2.2.2.2.1.1 rfl (by omega) (by decide) (fun J2 g2 f2 => ?_)
  refine e_aload rfl rfl ?_
  refine e_getR rfl hWA.1 hWA.2.2.2.2.2.2.2.1.2 ?_
  refine e_aload rfl rfl ?_
  refine e_getIv rfl hWA.1 ((f2 w 6 (Or.inl (by omega))).trans ((f1 w 6 (Or.inl (by omega))).trans hWV.2.2.1)) ?_
  refine e_iload rfl rfl ?_
  refine e_iasJ (t := (cn v 11)) (n := 10) rfl hWA.2.2.2.2.2.2.2.1.1 rfl (by omega) (by decide) (fun J3 g3 f3 => ?_)
  refine e_aload rfl rfl ?_
  refine e_dupr rfl ?_
  refine e_getIv rfl hWA.1 ((f3 w 6 (Or.inl (by omega))).trans ((f2 w 6 (Or.inl (by omega))).trans ((f1 w 6 (Or.inl (by omega))).trans hWV.2.2.1))) ?_
  refine e_ipush rfl ?_
  refine e_iadd rfl ?_
  rw [show (nI (cn v 11)) + 1 = nI (cn v 11 + 1) from nI_1 _]
  refine e_putIJ rfl hWA.1 (fun J4 g4 f4 => ?_)
  refine Eg.ret rfl (by decide) rfl ⟨rfl, J4, rfl, hWV.tol (by omega) ((f4 (w + 4) (cn v 11) (by omega)).trans ((f3 (w + 4) (cn v 11) (by omega)).trans ((f2 (w + 4) (cn v 11) (by omega)).trans g1))) ((f4 (w + 5) (cn v 11) (by omega)).trans ((f3 (w + 5) (cn v 11) (by omega)).trans g2)) ((f4 (w + 6) (cn v 11) (by omega)).trans g3) g4 (fun p t h0 h1 h2 h3 => ?_), g4, fun i k hi => ((f4 i k (by omega)).trans ((f3 i k (by omega)).trans ((f2 i k (by omega)).trans (f1 i k (by omega)))))⟩
  exact ((f4 p t (by omega)).trans ((f3 p t (by omega)).trans ((f2 p t (by omega)).trans (f1 p t (by omega)))))
theorem cs_addFleet (hWA : WorldAt sh R w) (hWV : WorV I w v) {x y z : Int32} (hn : cn v 12 < 6)  : Ec X 1 30 [.ref (w + 7), .int x, .int y, .int z] (sh, I, L, R) (fun r h' => r = none ∧ ∃ I', h' = (sh, I', L, R) ∧ WorV I' w (telF v 12 29 30 31 x y z) ∧ I' (w + 7) 0 = nI (cn v 12 + 1) ∧ ∀ i k, i < w ∨ w + 10 < i ∨ (i = w ∧ k = 2) → I' i k = I i k) := by
  refine Ec.of (Nat.le_of_ble_eq_true rfl) ?_
  refine e_aload rfl rfl ?_
  refine e_getIv rfl hWA.2.2.2.2.2.2.2.2.1.1 hWV.2.2.2.2.1 ?_
  refine e_ipush rfl ?_
  refine e_cge_f rfl (nI_ge (b := 6) hn (by decide)) ?_
  refine e_aload rfl rfl ?_
  refine e_getR rfl hWA.2.2.2.2.2.2.2.2.1.1 hWA.2.2.2.2.2.2.2.2.2.1.2 ?_
  refine e_aload rfl rfl ?_
  refine e_getIv rfl hWA.2.2.2.2.2.2.2.2.1.1 hWV.2.2.2.2.1 ?_
  refine e_iload rfl rfl ?_
  refine e_iasJ (t := (cn v 12)) (n := 6) rfl hWA.2.2.2.2.2.2.2.2.2.1.1 rfl (by omega) (by decide) (fun J1 g1 f1 => ?_)
  refine e_aload rfl rfl ?_
  refine e_getR rfl hWA.2.2.2.2.2.2.2.2.1.1 hWA.2.2.2.2.2.2.2.2.2.2.1.2 ?_
  refine e_aload rfl rfl ?_
  refine e_getIv rfl hWA.2.2.2.2.2.2.2.2.1.1 ((f1 (w + 7) 0 (Or.inl (by omega))).trans hWV.2.2.2.2.1) ?_
  refine e_iload rfl rfl ?_
  refine e_iasJ (t := (cn v 12)) (n := 6) rfl hWA.2.2.2.2.2.2.2.2.2.2.1.1 rfl (by omega) (by decide) (fun J2 g2 f2 => ?_)
  refine e_aload rfl rfl ?_
  refine e_getR rfl hWA.2.2.2.2.2.2.2.2.1.1 hWA.2.2.2.2.2.2.2.2.2.2.2.1.2 ?_
  refine e_aload rfl rfl ?_
  refine e_getIv rfl hWA.2.2.2.2.2.2.2.2.1.1 ((f2 (w + 7) 0 (Or.inl (by omega))).trans ((f1 (w + 7) 0 (Or.inl (by omega))).trans hWV.2.2.2.2.1)) ?_
  refine e_iload rfl rfl ?_
  refine e_iasJ (t := (cn v 12)) (n := 6) rfl hWA.2.2.2.2.2.2.2.2.2.2.2.1.1 rfl (by omega) (by decide) (fun J3 g3 f3 => ?_)
  refine e_aload rfl rfl ?_
  refine e_dupr rfl ?_
  refine e_getIv rfl hWA.2.2.2.2.2.2.2.2.1.1 ((f3 (w + 7) 0 (Or.inl (by omega))).trans ((f2 (w + 7) 0 (Or.inl (by omega))).trans ((f1 (w + 7) 0 (Or.inl (by omega))).trans hWV.2.2.2.2.1))) ?_
  refine e_ipush rfl ?_
  refine e_iadd rfl ?_
  rw [show (nI (cn v 12)) + 1 = nI (cn v 12 + 1) from nI_1 _]
  refine e_putIJ rfl hWA.2.2.2.2.2.2.2.2.1.1 (fun J4 g4 f4 => ?_)
  refine Eg.ret rfl (by decide) rfl ⟨rfl, J4, rfl, hWV.fle (by omega) ((f4 (w + 8) (cn v 12) (by omega)).trans ((f3 (w + 8) (cn v 12) (by omega)).trans ((f2 (w + 8) (cn v 12) (by omega)).trans g1))) ((f4 (w + 9) (cn v 12) (by omega)).trans ((f3 (w + 9) (cn v 12) (by omega)).trans g2)) ((f4 (w + 10) (cn v 12) (by omega)).trans g3) g4 (fun p t h0 h1 h2 h3 => ?_), g4, fun i k hi => ((f4 i k (by omega)).trans ((f3 i k (by omega)).trans ((f2 i k (by omega)).trans (f1 i k (by omega)))))⟩
  exact ((f4 p t (by omega)).trans ((f3 p t (by omega)).trans ((f2 p t (by omega)).trans (f1 p t (by omega)))))
theorem z01 {y : Int32} (hy : y = 0 ∨ y = 1) : (¬ y = 0 → y = 1) := fun h => hy.resolve_left h
theorem cs_addSight (hWA : WorldAt sh R w) (hWV : WorV I w v) {x y : Int32} (hn : cn v 10 < 10) (hy : y = 0 ∨ y = 1) : Ec X 1 136 [.ref (w), .int x, .int y] (sh, I, L, R) (fun r h' => r = none ∧ ∃ I', h' = (sh, I', L, R) ∧ WorV I' w (telF v 10 24 25 25 x y y) ∧ I' (w) 3 = nI (cn v 10 + 1) ∧ ∀ i k, i < w ∨ w + 10 < i ∨ (i = w ∧ k = 2) → I' i k = I i k) := by
  refine Ec.of (Nat.le_of_ble_eq_true rfl) ?_
  refine e_aload rfl rfl ?_
  refine e_getIv rfl hWA.1 hWV.1 ?_
  refine e_ipush rfl ?_
  refine e_cge_f rfl (nI_ge (b := 10) hn (by decide)) ?_
  refine e_aload rfl rfl ?_
  refine e_getR rfl hWA.1 hWA.2.2.2.1.2 ?_
  refine e_aload rfl rfl ?_
  refine e_getIv rfl hWA.1 hWV.1 ?_
  refine e_iload rfl rfl ?_
  refine e_iasJ (t := (cn v 10)) (n := 10) rfl hWA.2.2.2.1.1 rfl (by omega) (by decide) (fun J1 g1 f1 => ?_)
  refine e_aload rfl rfl ?_
  refine e_getR rfl hWA.1 hWA.2.2.2.2.1.2 ?_
  refine e_aload rfl rfl ?_
  refine e_getIv rfl hWA.1 ((f1 w 3 (Or.inl (by omega))).trans hWV.1) ?_
  refine e_iload rfl rfl ?_
  refine e_ifeq_b rfl (fun b28 => ?_) (fun b28 => ?_)
  · refine e_ipush rfl ?_
    refine e_iasJ (t := (cn v 10)) (n := 10) rfl hWA.2.2.2.2.1.1 rfl (by omega) (by decide) (fun J2 g2 f2 => ?_)
    replace g2 := g2.trans b28.symm
    refine e_aload rfl rfl ?_
    refine e_dupr rfl ?_
    refine e_getIv rfl hWA.1 ((f2 w 3 (Or.inl (by omega))).trans ((f1 w 3 (Or.inl (by omega))).trans hWV.1)) ?_
    refine e_ipush rfl ?_
    refine e_iadd rfl ?_
    rw [show (nI (cn v 10)) + 1 = nI (cn v 10 + 1) from nI_1 _]
    refine e_putIJ rfl hWA.1 (fun J3 g3 f3 => ?_)
    refine Eg.ret rfl (by decide) rfl ⟨rfl, J3, rfl, hWV.sig (by omega) ((f3 (w + 2) (cn v 10) (by omega)).trans ((f2 (w + 2) (cn v 10) (by omega)).trans g1)) ((f3 (w + 3) (cn v 10) (by omega)).trans g2) g3 (fun p t h0 h1 h2 => ?_), g3, fun i k hi => ((f3 i k (by omega)).trans ((f2 i k (by omega)).trans (f1 i k (by omega))))⟩
    exact ((f3 p t (by omega)).trans ((f2 p t (by omega)).trans (f1 p t (by omega))))
  · refine e_ipush rfl ?_
    refine e_goto rfl ?_
    refine e_iasJ (t := (cn v 10)) (n := 10) rfl hWA.2.2.2.2.1.1 rfl (by omega) (by decide) (fun J4 g4 f4 => ?_)
    replace g4 := g4.trans (hy.resolve_left b28).symm
    refine e_aload rfl rfl ?_
    refine e_dupr rfl ?_
    refine e_getIv rfl hWA.1 ((f4 w 3 (Or.inl (by omega))).trans ((f1 w 3 (Or.inl (by omega))).trans hWV.1)) ?_
    refine e_ipush rfl ?_
    refine e_iadd rfl ?_
    rw [show (nI (cn v 10)) + 1 = nI (cn v 10 + 1) from nI_1 _]
    refine e_putIJ rfl hWA.1 (fun J5 g5 f5 => ?_)
    refine Eg.ret rfl (by decide) rfl ⟨rfl, J5, rfl, hWV.sig (by omega) ((f5 (w + 2) (cn v 10) (by omega)).trans ((f4 (w + 2) (cn v 10) (by omega)).trans g1)) ((f5 (w + 3) (cn v 10) (by omega)).trans g4) g5 (fun p t h0 h1 h2 => ?_), g5, fun i k hi => ((f5 i k (by omega)).trans ((f4 i k (by omega)).trans (f1 i k (by omega))))⟩
    exact ((f5 p t (by omega)).trans ((f4 p t (by omega)).trans (f1 p t (by omega))))
end TE
