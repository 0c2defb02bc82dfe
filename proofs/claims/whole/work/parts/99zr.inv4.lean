/-! the calls keep it: what is told, the seed, the tape, rules -/
section IV4x
variable {X : xX} {sh sh' : List (Nat × Nat)} {I J K : Nat → Nat → Int32} {L : Nat → Nat → Int64} {R R' : Nat → Nat → Option Nat} {v V : Nat → Nat → Int32} {P Q : Nat → Int32} {a b s y n rc i : Nat} {B : Nat → Nat} {cds : Nat → List (Nat × Nat)} {cls : Nat → List (Nat × Nat × Nat)} {im : Nat → Im} {x1x x2x x3x x4x x5x : Int32}
theorem WRel.tel {w : Nat} (h : WRel sh I R w s v P a) (q : tld V v) (hW : WorV J w V) (e : ∀ i k, i < w ∨ w + 10 < i ∨ (i = w ∧ k = 2) → J i k = I i k) : WRel sh J R w s V P a := by
  obtain ⟨h1x, h2x, h3x, h4x, h5x, h6x, h7x, p, hp⟩ := h
  obtain ⟨a1x, a2x, a3x, a4x⟩ := hp.tl q
  exact ⟨h1x, h2x, h3x, (h4x.fr (fun i k q1x q2x => e i k (by omega))).tl q, hW, (e _ _ (by omega)).trans h6x, h7x, p, a1x, a2x, a3x, fun i hi => ⟨(a4x i hi).1, (a4x i hi).2.fr (fun j k q1x q2x => e j k (by omega))⟩⟩
theorem XI.tl (h : XI sh I R s v y im) (q : tld V v) : XI sh I R s V y im := ⟨h.1.tl q, h.2⟩
theorem GV.tel (g : GV v P a) (q : tld V v) (h : ∀ j, 10 ≤ j → j < 13 → V 1 j = nI (cn V j)) (hb : cn V 10 ≤ 10 ∧ cn V 11 ≤ 10 ∧ cn V 12 ≤ 6) (hl : WfL V) (hz : vz V) (h13x : ∃ x, x < 2 ^ 31 ∧ V 1 13 = nI x) : GV V P a := by
  obtain ⟨g1x, g2x, g3x, g4x, g5x, g6x, g7x⟩ := g
  refine ⟨g1x.tl q h hb, hl, by rw [q.c (by decide)]; exact g3x, hz, g5x, h13x, fun i hi => ?_⟩
  have qp : tld (pvw P V i) (pvw P v i) := q.pvw
  have c1x : ∀ j, 10 ≤ j → pvw P V i 1 j = V 1 j := fun j hj => pvw_o (by rw [slot_iff]; omega)
  have c2x : ∀ j, 10 ≤ j → cn (pvw P V i) j = cn V j := fun j hj => by unfold cn; rw [c1x j hj]
  refine ⟨(g7x i hi).1.tl qp (fun j b1x b2x => by rw [c1x j b1x, c2x j b1x]; exact h j b1x b2x) (by rw [c2x 10 (by decide), c2x 11 (by decide), c2x 12 (by decide)]; exact hb), ?_⟩
  rw [qp.c (by decide)]; exact (g7x i hi).2
theorem fln_t : (∀ f, 24 ≤ f ∧ f ≤ 28 → 10 ≤ fln f) ∧ (∀ f, 29 ≤ f ∧ f ≤ 31 → 6 ≤ fln f) ∧ 14 ≤ fln 1 := by
  have h : ∀ f, f < 32 → (24 ≤ f ∧ f ≤ 28 → 10 ≤ fln f) ∧ (29 ≤ f ∧ f ≤ 31 → 6 ≤ fln f) := by decide
  exact ⟨fun f hf => (h f (by omega)).1 hf, fun f hf => (h f (by omega)).2 hf, by decide⟩
theorem GV.zer (g : GV v P a) {c : Nat} (hc : c = 10 ∨ c = 11 ∨ c = 12) : GV (zerF v c) P a := by
  obtain ⟨g1x, g2x, g3x, g4x, g5x, g6x, g7x⟩ := id g
  have cc : ∀ j, cn (zerF v c) j = if j = c then 0 else cn v j := fun j => by
    by_cases e : j = c
    · rw [if_pos e, e]; exact zerF_c
    · rw [if_neg e]; exact zerF_cn e
  have fo : ∀ f k, f ≠ 1 → zerF v c f k = v f k := fun f k h => zerF_o (Or.inl h)
  have hb := g1x.1.2
  refine g.tel (zerF_tld (by omega)) (fun j b1x b2x => ?_) ?_ ⟨fun k hk => ?_, fun k hk => ?_, fun k hk => ?_⟩ (fun f k hf hk => ?_) ?_
  · rw [cc]
    by_cases e : j = c
    · rw [if_pos e, e]; exact xu_at
    · rw [if_neg e, zerF_o (Or.inr e)]; exact g1x.n b2x
  · rw [cc, cc, cc]
    refine ⟨by split <;> omega, by split <;> omega, by split <;> omega⟩
  · rw [cc] at hk
    rw [fo _ _ (by decide), fo _ _ (by decide)]
    split at hk
    · omega
    · exact g2x.1 k hk
  · rw [cc] at hk
    rw [fo _ _ (by decide), fo _ _ (by decide), fo _ _ (by decide), cc, if_neg (by omega)]
    split at hk
    · omega
    · exact g2x.2.1 k hk
  · rw [cc] at hk
    rw [fo _ _ (by decide), fo _ _ (by decide), fo _ _ (by decide)]
    split at hk
    · omega
    · exact g2x.2.2 k hk
  · have := fln_t.2.2
    by_cases e : f = 1
    · subst e; rw [zerF_o (by omega)]; exact g4x 1 k hf hk
    · rw [fo f k e]; exact g4x f k hf hk
  · rw [zerF_o (by omega)]; exact g6x
def tOK (v : Nat → Nat → Int32) (c : Nat) (x y z : Int32) : Prop := (c = 10 → (∃ d, x = nI d ∧ d ≤ 9999) ∧ (z = 0 ∨ z = 1)) ∧ (c = 11 → ∃ e d h, x = nI e ∧ e < cn v 0 ∧ y = nI d ∧ d ≤ 9999 ∧ z = nI h ∧ h ≤ 99) ∧ (c = 12 → ∃ e d h, x = nI e ∧ 1 ≤ e ∧ e ≤ 99 ∧ y = nI d ∧ d ≤ 99 ∧ z = nI h ∧ h ≤ 99)
theorem GV.add (g : GV v P a) {c f1x f2x f3x : Nat} {x y z : Int32} (hc : c = 10 ∧ f1x = 24 ∧ f2x = 25 ∧ f3x = 25 ∧ cn v c < 10 ∨ c = 11 ∧ f1x = 26 ∧ f2x = 27 ∧ f3x = 28 ∧ cn v c < 10 ∨ c = 12 ∧ f1x = 29 ∧ f2x = 30 ∧ f3x = 31 ∧ cn v c < 6) (ht : tOK v c x y z) : GV (telF v c f1x f2x f3x x y z) P a := by
  obtain ⟨g1x, g2x, g3x, g4x, g5x, g6x, g7x⟩ := id g
  have hb := g1x.1.2
  have cc : ∀ j, cn (telF v c f1x f2x f3x x y z) j = if j = c then cn v c + 1 else cn v j := fun j => by
    by_cases e : j = c
    · rw [if_pos e, e]; exact telF_c (by omega)
    · rw [if_neg e]; exact telF_cn (by omega) (by omega) (by omega) e
  have fo : ∀ f k, f ≠ 1 → (k ≠ cn v c ∨ (f ≠ f1x ∧ f ≠ f2x ∧ f ≠ f3x)) → telF v c f1x f2x f3x x y z f k = v f k := fun f k h q => telF_o (Or.inl h) q
  have o1x : ∀ j, j ≠ c → telF v c f1x f2x f3x x y z 1 j = v 1 j := fun j h => telF_o (Or.inr h) (Or.inr (by omega))
  refine g.tel (telF_tld (by omega) (by omega) (by omega) (by omega)) (fun j b1x b2x => ?_) ?_ ⟨fun k hk => ?_, fun k hk => ?_, fun k hk => ?_⟩ (fun f k hf hk => ?_) ?_
  · rw [cc]
    by_cases e : j = c
    · rw [if_pos e, e]; exact xu_at
    · rw [if_neg e, o1x j e]; exact g1x.n b2x
  · rw [cc, cc, cc]
    refine ⟨by split <;> omega, by split <;> omega, by split <;> omega⟩
  · rw [cc] at hk
    by_cases e : c = 10
    · rw [if_pos e.symm] at hk
      by_cases z1x : k = cn v c
      · subst z1x
        have e1x : f1x = 24 := by omega
        have e2x : f2x = 25 := by omega
        have e3x : f3x = 25 := by omega
        subst e1x e2x e3x
        rw [telF_1 (by decide) (by decide) (by decide), telF_3 (by decide)]
        exact ht.1 e
      · rw [fo _ _ (by decide) (Or.inl z1x), fo _ _ (by decide) (Or.inl z1x)]; exact g2x.1 k (by rw [← e]; omega)
    · rw [if_neg (by omega)] at hk
      rw [fo _ _ (by decide) (Or.inr (by omega)), fo _ _ (by decide) (Or.inr (by omega))]; exact g2x.1 k hk
  · rw [cc] at hk
    rw [cc, if_neg (show ¬ 0 = c by omega)]
    by_cases e : c = 11
    · rw [if_pos e.symm] at hk
      by_cases z1x : k = cn v c
      · subst z1x
        have e1x : f1x = 26 := by omega
        have e2x : f2x = 27 := by omega
        have e3x : f3x = 28 := by omega
        subst e1x e2x e3x
        rw [telF_1 (by decide) (by decide) (by decide), telF_2 (by decide) (by decide), telF_3 (by decide)]
        exact ht.2.1 e
      · rw [fo _ _ (by decide) (Or.inl z1x), fo _ _ (by decide) (Or.inl z1x), fo _ _ (by decide) (Or.inl z1x)]; exact g2x.2.1 k (by rw [← e]; omega)
    · rw [if_neg (by omega)] at hk
      rw [fo _ _ (by decide) (Or.inr (by omega)), fo _ _ (by decide) (Or.inr (by omega)), fo _ _ (by decide) (Or.inr (by omega))]; exact g2x.2.1 k hk
  · rw [cc] at hk
    by_cases e : c = 12
    · rw [if_pos e.symm] at hk
      by_cases z1x : k = cn v c
      · subst z1x
        have e1x : f1x = 29 := by omega
        have e2x : f2x = 30 := by omega
        have e3x : f3x = 31 := by omega
        subst e1x e2x e3x
        rw [telF_1 (by decide) (by decide) (by decide), telF_2 (by decide) (by decide), telF_3 (by decide)]
        exact ht.2.2 e
      · rw [fo _ _ (by decide) (Or.inl z1x), fo _ _ (by decide) (Or.inl z1x), fo _ _ (by decide) (Or.inl z1x)]; exact g2x.2.2 k (by rw [← e]; omega)
    · rw [if_neg (by omega)] at hk
      rw [fo _ _ (by decide) (Or.inr (by omega)), fo _ _ (by decide) (Or.inr (by omega)), fo _ _ (by decide) (Or.inr (by omega))]; exact g2x.2.2 k hk
  · obtain ⟨t1x, t2x, t3x⟩ := fln_t
    by_cases e : f = 1
    · subst e; rw [o1x k (by omega)]; exact g4x 1 k hf hk
    · have fk : k ≠ cn v c ∨ (f ≠ f1x ∧ f ≠ f2x ∧ f ≠ f3x) := by
        by_cases w : f = f1x ∨ f = f2x ∨ f = f3x
        · left
          by_cases r : f ≤ 28
          · have := t1x f (by omega); omega
          · have := t2x f (by omega); omega
        · omega
      rw [fo f k e fk]; exact g4x f k hf hk
  · rw [o1x 13 (by omega)]; exact g6x
theorem ok_tell {kC kM d1x d2x : Nat} {as : List Value} {z : Int32} (h : BT i sh I R v P a s y B n rc cds cls im) (q : tld V v) (g : GV V P a) (hc : Ec X d1x kC (.ref 0 :: as) (sh, I, L, R) (fun r h' => r = some (.int z) ∧ TACT sh I L R 35 V h')) (hm : ∀ J : Nat → Nat → Int32, mV J v → Ec X d2x kM (.ref 290 :: as) (sh, J, L, R) (fun r h' => r = some (.int z) ∧ TMA sh J L R V h')) (h1x : d1x ≤ 998) (h2x : d2x ≤ 998) : callOK X kC kM as (INV (i + 6)) (sh, I, L, R) := by
  refine callOK.of hc h1x ?_
  rintro r h' ⟨rfl, J, rfl, hW, e⟩
  have hc2x := h.wrl (V := V) (Q := P) (b := a) (h.2.1.2.2.2.2.2.1.tl q) (h.wr.tel q hW e) (fun i k q => e i k (by omega)) (fun _ _ _ => rfl)
  refine ⟨z, d2x, _, h2x, rfl, h.mw.1, hm J hc2x.2.2.1, ?_⟩
  rintro r2x h3x ⟨rfl, K, rfl, k1x, k2x⟩
  exact ⟨rfl, (BT.wrm h.1 hc2x.1 hc2x.2 (h.2.2.2.1.new g h.2.2.2.1.2.1) h.2.2.2.2 k1x (fun x => (k2x 348 x (by omega)).trans (hc2x.2.2.2.1 x)) ((k2x _ _ (by omega)).trans hc2x.2.2.2.2.1) (fun k hk => (k2x _ _ (by omega)).trans (hc2x.2.2.2.2.2.1 k hk)) (fun i k q1x q2x _ _ => k2x i k (by omega)) ⟨k2x _ _ (by omega), k2x _ _ (by omega), k2x _ _ (by omega)⟩).in6⟩
theorem tld.rfl' : tld v v := fun _ _ _ _ => rfl
theorem ok_20 (h : BT i sh I R v P a s y B n rc cds cls im) : callOK X 159 285 [.int x1x, .int (if x2x = 0 then 0 else 1)] (INV (i + 6)) (sh, I, L, R) := by
  have hy : (if x2x = 0 then (0 : Int32) else 1) = 0 ∨ (if x2x = 0 then (0 : Int32) else 1) = 1 := by split; exact Or.inl rfl; exact Or.inr rfl
  generalize (if x2x = 0 then (0 : Int32) else 1) = z at hy ⊢
  have gg : tld (vSight v x1x z) v ∧ GV (vSight v x1x z) P a := by
    by_cases e : x1x = -1
    · rw [show vSight v x1x z = zerF v 10 from vTel_z e]; exact ⟨zerF_tld (by decide), h.2.2.2.1.1.zer (Or.inl rfl)⟩
    · cases g : gSight v x1x with
      | false => rw [show vSight v x1x z = v from vTel_n e g]; exact ⟨tld.rfl', h.2.2.2.1.1⟩
      | true =>
        rw [show vSight v x1x z = telF v 10 24 25 25 x1x z z from vTel_y e g]
        obtain ⟨q1x, q2x, q3x⟩ := of_decide_eq_true g
        obtain ⟨d, d1x, d2x⟩ := day_n q2x
        exact ⟨telF_tld (by decide) (by decide) (by decide) (by decide), h.2.2.2.1.1.add (Or.inl ⟨rfl, rfl, rfl, rfl, q3x⟩) ⟨fun _ => ⟨⟨d, d2x, d1x⟩, hy⟩, fun q => absurd q (by decide), fun q => absurd q (by decide)⟩⟩
  exact ok_tell h gg.1 gg.2 (cf_sight h.cq h.wa h.wv hy) (fun J q => md_sight h.mw q h.wf hy) (by decide) (by decide)
theorem n99x {x : Int32} (h : ¬ (x < 0 ∨ 99 < x)) : ∃ t, x = nI t ∧ t ≤ 99 := by
  obtain ⟨t, lt, rfl⟩ := nI_of (x := x) (fun q => h (Or.inl q))
  exact ⟨t, rfl, Decidable.byContradiction (fun q => h (Or.inr ((nI_lti (a := 99) (by decide) lt).mpr (by omega))))⟩
theorem ok_24 (h : BT i sh I R v P a s y B n rc cds cls im) : callOK X 163 292 [.int x1x, .int x2x, .int x3x] (INV (i + 6)) (sh, I, L, R) := by
  have h12x : cn v 0 ≤ 12 := h.wf.1.2.1
  have gg : tld (vTold v x1x x2x x3x) v ∧ GV (vTold v x1x x2x x3x) P a := by
    by_cases e : x1x = -1
    · rw [show vTold v x1x x2x x3x = zerF v 11 from vTel_z e]; exact ⟨zerF_tld (by decide), h.2.2.2.1.1.zer (Or.inr (Or.inl rfl))⟩
    · cases g : gTold v x1x x2x x3x with
      | false => rw [show vTold v x1x x2x x3x = v from vTel_n e g]; exact ⟨tld.rfl', h.2.2.2.1.1⟩
      | true =>
        rw [show vTold v x1x x2x x3x = telF v 11 26 27 28 x1x x2x x3x from vTel_y e g]
        obtain ⟨q1x, q2x, q3x, q4x⟩ := of_decide_eq_true g
        obtain ⟨t, t1x, t2x⟩ := nI_get q1x (by omega)
        obtain ⟨d, d1x, d2x⟩ := day_n q2x
        obtain ⟨u, u1x, u2x⟩ := n99x q3x
        exact ⟨telF_tld (by decide) (by decide) (by decide) (by decide), h.2.2.2.1.1.add (Or.inr (Or.inl ⟨rfl, rfl, rfl, rfl, q4x⟩)) ⟨fun q => absurd q (by decide), fun _ => ⟨t, d, u, t2x, t1x, d2x, d1x, u1x, u2x⟩, fun q => absurd q (by decide)⟩⟩
  exact ok_tell h gg.1 gg.2 (cf_told h.cq h.wa h.wv) (fun J q => md_told h.mw q h.wf) (by decide) (by decide)
theorem ok_27 (h : BT i sh I R v P a s y B n rc cds cls im) : callOK X 166 296 [.int x1x, .int x2x, .int x3x] (INV (i + 6)) (sh, I, L, R) := by
  have gg : tld (vFleet v x1x x2x x3x) v ∧ GV (vFleet v x1x x2x x3x) P a := by
    by_cases e : x1x = -1
    · rw [show vFleet v x1x x2x x3x = zerF v 12 from vTel_z e]; exact ⟨zerF_tld (by decide), h.2.2.2.1.1.zer (Or.inr (Or.inr rfl))⟩
    · cases g : gFleet v x1x x2x x3x with
      | false => rw [show vFleet v x1x x2x x3x = v from vTel_n e g]; exact ⟨tld.rfl', h.2.2.2.1.1⟩
      | true =>
        rw [show vFleet v x1x x2x x3x = telF v 12 29 30 31 x1x x2x x3x from vTel_y e g]
        obtain ⟨q1x, q2x, q3x, q4x, q5x⟩ := of_decide_eq_true g
        obtain ⟨t, t1x, t2x⟩ := n99x (x := x1x) (fun q => q3x (q.elim (fun r => Or.inl (Int32.lt_of_lt_of_le r (by decide))) Or.inr))
        obtain ⟨d, d1x, d2x⟩ := n99x q4x
        obtain ⟨u, u1x, u2x⟩ := n99x q5x
        have t0x : 1 ≤ t := by
          have : t ≠ 0 := fun r => q3x (Or.inl (by rw [t1x, r]; decide))
          omega
        exact ⟨telF_tld (by decide) (by decide) (by decide) (by decide), h.2.2.2.1.1.add (Or.inr (Or.inr ⟨rfl, rfl, rfl, rfl, q2x⟩)) ⟨fun q => absurd q (by decide), fun q => absurd q (by decide), fun _ => ⟨t, d, u, t1x, t0x, t2x, d1x, d2x, u1x, u2x⟩⟩⟩
  exact ok_tell h gg.1 gg.2 (cf_fleet h.cq h.wa h.wv) (fun J q => md_fleet h.mw q h.wf) (by decide) (by decide)
theorem x13_tld {x : Int32} : tld (xu v 1 13 x) v := fun f k h1x h2x => xu_o (by omega)
theorem GV.x13 (g : GV v P a) {t : Nat} (ht : t < 2 ^ 31) : GV (xu v 1 13 (nI t)) P a := by
  obtain ⟨g1x, g2x, g3x, g4x, g5x, g6x, g7x⟩ := id g
  have cc : ∀ j, j ≠ 13 → cn (xu v 1 13 (nI t)) j = cn v j := fun j hj => cn13x hj
  have fo : ∀ f k, f ≠ 1 ∨ k ≠ 13 → xu v 1 13 (nI t) f k = v f k := fun f k h => xu_o h
  have hb := g1x.1.2
  refine g.tel x13_tld (fun j b1x b2x => by rw [cc j (by omega), fo _ _ (by omega)]; exact g1x.n b2x) (by rw [cc _ (by decide), cc _ (by decide), cc _ (by decide)]; omega) ⟨fun k hk => ?_, fun k hk => ?_, fun k hk => ?_⟩ g4x.x13 ⟨t, ht, xu_at⟩
  · rw [cc _ (by decide)] at hk
    rw [fo _ _ (by omega), fo _ _ (by omega)]; exact g2x.1 k hk
  · rw [cc _ (by decide)] at hk
    rw [fo _ _ (by omega), fo _ _ (by omega), fo _ _ (by omega), cc _ (by decide)]; exact g2x.2.1 k hk
  · rw [cc _ (by decide)] at hk
    rw [fo _ _ (by omega), fo _ _ (by omega), fo _ _ (by omega)]; exact g2x.2.2 k hk
theorem ok_30 (h : BT i sh I R v P a s y B n rc cds cls im) : callOK X 169 301 [.int x1x] (INV (i + 6)) (sh, I, L, R) := by
  have hu : sh[291]? = some (20, 14) := (h.mw.2 0 _ rfl).1
  have hr : R 290 1 = some 291 := (h.mw.2 0 _ rfl).2
  refine callOK.of (cf_seed (o := 0) (w := 35) h.2.1.1.1 h.wa.1 h.2.1.1.2.1.2.2.2.2.2.1) (by decide) ?_
  intro r h' q
  by_cases c : x1x < 0
  · rw [if_pos c] at q
    obtain ⟨rfl, rfl⟩ := q
    refine ⟨_, _, _, by decide, rfl, h.mw.1, md_seed (m := 290) (u := 291) h.mw.1 hu hr, ?_⟩
    intro r2x h2x q2x
    rw [if_pos c] at q2x
    exact ⟨q2x.1, by rw [q2x.2]; exact h.in6⟩
  · rw [if_neg c] at q
    obtain ⟨rfl, rfl⟩ := q
    obtain ⟨t, lt, rfl⟩ := nI_of (x := x1x) c
    have e13x : I 35 11 = v 1 13 := h.wv.2.2.2.2.2.2
    have hWn : WorV (xu I 35 11 (nI t)) 35 (xu v 1 13 (nI t)) := by
      obtain ⟨b1x, b2x, b3x, b4x, b5x, b6x, b7x⟩ := h.wv
      have cc : ∀ j, j ≠ 13 → cn (xu v 1 13 (nI t)) j = cn v j := fun j hj => cn13x hj
      refine ⟨?_, fun k hk => ?_, ?_, fun k hk => ?_, ?_, fun k hk => ?_, ?_⟩
      · rw [cc _ (by decide), xu_o (by decide)]; exact b1x
      · rw [cc _ (by decide)] at hk
        rw [xu_o (by omega), xu_o (by omega), xu_o (by omega), xu_o (by omega)]; exact b2x k hk
      · rw [cc _ (by decide), xu_o (by decide)]; exact b3x
      · rw [cc _ (by decide)] at hk
        rw [xu_o (by omega), xu_o (by omega), xu_o (by omega), xu_o (by omega), xu_o (by omega), xu_o (by omega)]; exact b4x k hk
      · rw [cc _ (by decide), xu_o (by decide)]; exact b5x
      · rw [cc _ (by decide)] at hk
        rw [xu_o (by omega), xu_o (by omega), xu_o (by omega), xu_o (by omega), xu_o (by omega), xu_o (by omega)]; exact b6x k hk
      · rw [xu_at, xu_at]
    have hW2x : WRel sh (xu I 35 11 (nI t)) R 35 s (xu v 1 13 (nI t)) P a := h.wr.tel x13_tld hWn (fun i k q => xu_o (by omega))
    have hc2x := h.wrl (V := xu v 1 13 (nI t)) (Q := P) (b := a) (h.2.1.2.2.2.2.2.1.tl x13_tld) hW2x (fun i k q => xu_o (by omega)) (fun _ _ _ => rfl)
    refine ⟨_, _, _, by decide, rfl, h.mw.1, md_seed (m := 290) (u := 291) h.mw.1 hu hr, ?_⟩
    intro r2x h2x q2x
    rw [if_neg c] at q2x
    obtain ⟨rfl, rfl⟩ := q2x
    have m13x : xu I 35 11 (nI t) 291 13 = v 1 13 := (xu_o (by decide)).trans (h.mv 1 13 (by decide))
    refine ⟨by rw [m13x, e13x], (BT.wrm h.1 hc2x.1 hc2x.2 (h.2.2.2.1.new (h.2.2.2.1.1.x13 lt) h.2.2.2.1.2.1) h.2.2.2.2 (hc2x.2.2.1.up (f := 1) (by decide) xu_at (fun p k q => xu_o q)) (fun x => (xu_o (by omega)).trans (hc2x.2.2.2.1 x)) ((xu_o (by decide)).trans hc2x.2.2.2.2.1) (fun k hk => (xu_o (by omega)).trans (hc2x.2.2.2.2.2.1 k hk)) (fun i k q1x q2x _ _ => xu_o (by omega)) ⟨xu_o (by decide), xu_o (by decide), xu_o (by decide)⟩).in6⟩
end IV4x
