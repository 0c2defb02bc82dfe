/-! the calls keep it: acts -/
section IV3x
variable {X : xX} {sh sh' : List (Nat × Nat)} {I J K : Nat → Nat → Int32} {L : Nat → Nat → Int64} {R R' : Nat → Nat → Option Nat} {v V : Nat → Nat → Int32} {P Q : Nat → Int32} {a b s y n rc i : Nat} {B : Nat → Nat} {cds : Nat → List (Nat × Nat)} {cls : Nat → List (Nat × Nat × Nat)} {im : Nat → Im} {x1x x2x x3x x4x x5x : Int32}
theorem agr13s (q : agr V v) : V 1 13 = v 1 13 := q 1 13 (by rw [slot_iff]; omega)
theorem remB_le (ha : a ≤ 20) : remB a ≤ 19 := by unfold remB; split <;> omega
theorem remP_z (hp : pz P) (ha : a ≤ 20) : pz (remP v P a) := by
  intro x hx
  have hb := remB_le ha
  unfold remP stP
  rw [if_neg (by omega)]
  by_cases e : a = 20
  · rw [if_pos e]; unfold shP; rw [if_neg (by omega)]; exact hp x hx
  · rw [if_neg e]; exact hp x hx
theorem GV.ag (g : GV v P a) (q : agr V v) (hw : Wf V) (h7x : cn V 7 ≤ 9999) (hp : pz Q) (hi : ∀ i, i < b → Wf (pvw Q V i) ∧ cn (pvw Q V i) 7 ≤ 9999) : GV V Q b := by
  obtain ⟨g1x, g2x, g3x, g4x, g5x, g6x, g7x⟩ := g
  exact ⟨hw, g2x.ex q, h7x, g4x.agr q, hp, by rw [agr13s q]; exact g6x, hi⟩
theorem GV.act (g : GV v P a) (ha : a ≤ 20) (q : agr V v) (hw : Wf V) (h7x : cn V 7 ≤ 9999) : GV V (remP v P a) (remB a + 1) := by
  refine g.ag q hw h7x (remP_z g.2.2.2.2.1 ha) (fun i hi => ?_)
  by_cases e : i = remB a
  · subst e
    have z : pvw (remP v P a) V (remB a) = v := pvw_same q (fun j hj => stP_in hj)
    rw [z]; exact ⟨g.1, g.2.2.1⟩
  · by_cases e2x : a = 20
    · have hb : remB a = 19 := if_pos e2x
      have z : pvw (remP v P a) V i = pvw P v (i + 1) := pvw_congr q (fun j hj => by
        unfold remP
        rw [stP_o hj e, if_pos e2x]
        unfold shP
        rw [if_pos (by omega)]
        exact congrArg P (by omega))
      rw [z]; exact g.2.2.2.2.2.2 (i + 1) (by omega)
    · have hb : remB a = a := if_neg e2x
      have z : pvw (remP v P a) V i = pvw P v i := pvw_congr q (fun j hj => by
        unfold remP
        rw [stP_o hj e, if_neg e2x])
      rw [z]; exact g.2.2.2.2.2.2 i (by omega)
theorem GV.und (g : GV v P a) (ha : 0 < a) : GV (pvw P v (a - 1)) P (a - 1) := by
  have g7x := g.2.2.2.2.2.2
  refine g.ag agr.pvw (g7x _ (by omega)).1 (g7x _ (by omega)).2 g.2.2.2.2.1 (fun i hi => ?_)
  have z : pvw P (pvw P v (a - 1)) i = pvw P v i := pvw_congr agr.pvw (fun j hj => rfl)
  rw [z]; exact g7x i (by omega)
theorem XI.ex (h : XI sh I R s v y im) (q : agr V v) : XI sh I R s V y im := ⟨h.1.ex q, h.2⟩
/-- the class's world has changed -/
theorem BT.wrl (h : BT i sh I R v P a s y B n rc cds cls im) (hX : XI sh I R s V y im) (hW : WRel sh J R' 35 s V Q b) (e : ∀ i k, i < 35 ∨ 259 < i → J i k = I i k) (eR : ∀ i k, i < 35 ∨ 235 < i → R' i k = R i k) : CI sh J R' V Q b s y B n rc cds cls im ∧ MI sh J R' v P a B n rc cds cls im := by
  obtain ⟨h0x, ⟨h1x, ⟨qa, qb, qc, qd, h2x⟩, h3x, h4x, h5x, h6x, h7x⟩, hM, hP, hG⟩ := h
  exact ⟨⟨h1x.fr sh_same (fun i k q _ _ _ _ _ => eR i k (by omega)), ⟨qa, qb, qc, qd, h2x.mv sh_same (fun k => eR _ _ (by omega))⟩, h3x.fr (e _ _ (by omega)) (fun k => e _ _ (by omega)), ⟨(e _ _ (by omega)).trans h4x.1, fun r hr => (h4x.2 r hr).fr (fun i k q1x q2x => e i k (by have := hP.2.2.1; omega))⟩, hW, hX.fr hG sh_same (fun i k _ q => e i k (by omega)) (fun i k _ q => eR i k (by omega)), (eR _ _ (by omega)).trans h7x⟩, hM.fr sh_same (fun i k q1x q2x => e i k (by omega)) (fun k => eR _ _ (by omega))⟩
/-- the reference's has too -/
theorem BT.wrm (h0x : 6 * sh.length ≤ 2160 + 201 * i ∧ 6 * xsum sh ≤ 127614 + 1429 * i) (hC : CI sh J R V Q b s y B n rc cds cls im) (hM : MI sh J R v P a B n rc cds cls im) (hP : PI V Q b rc cds cls im) (hG : Rg sh.length s y im) (k1x : mV K V) (k2x : ∀ x, K 348 x = Q x) (k3x : K 290 71 = nI b) (k4x : ∀ k, k < 4 → K 309 k = 0) (e : ∀ i k, i < 290 ∨ 321 < i → i ≠ 348 → i ≠ 349 → (i ≠ 358 ∨ k < 5600) → K i k = J i k) (e2x : K 290 47 = J 290 47 ∧ K 290 51 = J 290 51 ∧ K 290 56 = J 290 56) : BT i sh K R V Q b s y B n rc cds cls im := by
  obtain ⟨h1x, h2x, h3x, h4x, h5x, h6x, h7x, h8x, h9x⟩ := hM
  exact ⟨h0x, hC.frM hG (fun i k q => e i k (by omega) (by omega) (by omega) (by omega)) hP.2.2.1, ⟨h1x, k1x, k2x, k3x, k4x, h6x.fr e2x.1 (fun k => e _ _ (by omega) (by omega) (by omega) (by omega)), e2x.2.2.trans h7x, ⟨e2x.2.1.trans h8x.1, fun r hr => ⟨(h8x.2 r hr).1.fr (fun i k q => e i k (by omega) (by omega) (by omega) (by omega)), (e _ _ (by omega) (by omega) (by omega) (by omega)).trans (h8x.2 r hr).2⟩⟩, fun t ht => (h9x t ht).fr (fun k => e _ _ (by omega) (by omega) (by omega) (by omega)) (fun k hk => e _ _ (by omega) (by omega) (by omega) (Or.inr hk)) ht⟩, hP, hG⟩
theorem PI.new (h : PI v P a rc cds cls im) (g : GV V Q b) (hb : b ≤ 20) : PI V Q b rc cds cls im := ⟨g, hb, h.2.2⟩
/-- an act, both sides -/
theorem BT.two {h2x : xH} (h : BT i sh I R v P a s y B n rc cds cls im) (q : agr V v) (g : GV V Q b) (hb : b ≤ 20) {J : Nat → Nat → Int32} (hc : CI sh J R' V Q b s y B n rc cds cls im ∧ MI sh J R' v P a B n rc cds cls im) (hm : MACT sh J L R' V Q b h2x) : INV (i + 6) h2x := by
  obtain ⟨K, rfl, k1x, k2x, k3x, k4x, k5x, k6x⟩ := hm
  exact (BT.wrm (h.1) hc.1 hc.2 (h.2.2.2.1.new g hb) h.2.2.2.2 k1x k2x k3x k4x (fun i k q1x q2x _ _ => k5x i k q1x q2x) ⟨k6x _ (by decide) (by decide) (by decide), k6x _ (by decide) (by decide) (by decide), k6x _ (by decide) (by decide) (by decide)⟩).in6
theorem ok_act {kC kM d1x d2x : Nat} {as : List Value} {G : Prop} {z zn : Int32} (h : BT i sh I R v P a s y B n rc cds cls im) (hV : G → agr V v ∧ Wf V ∧ cn V 7 ≤ 9999) (hc : Ec X d1x kC (.ref 0 :: as) (sh, I, L, R) (fun r h' => (G ∧ r = some (.int z) ∧ ACT sh I L R 35 s 259 V (remP v P a) (remB a + 1) h') ∨ (¬ G ∧ r = some (.int zn) ∧ h' = (sh, I, L, R)))) (hm : ∀ (J : Nat → Nat → Int32) (R' : Nat → Nat → Option Nat), MRq sh J R' v P a → Ec X d2x kM (.ref 290 :: as) (sh, J, L, R') (fun r h' => (G ∧ r = some (.int z) ∧ MACT sh J L R' V (remP v P a) (remB a + 1) h') ∨ (¬ G ∧ r = some (.int zn) ∧ h' = (sh, J, L, R')))) (h1x : d1x ≤ 998) (h2x : d2x ≤ 998) : callOK X kC kM as (INV (i + 6)) (sh, I, L, R) := by
  refine callOK.of hc h1x ?_
  rintro r h' (⟨g, rfl, J, R', rfl, hW, e, eR⟩ | ⟨g, rfl, rfl⟩)
  · obtain ⟨q1x, q2x, q3x⟩ := hV g
    have ha := h.2.2.2.1.2.1
    have hc2x := h.wrl (V := V) (h.2.1.2.2.2.2.2.1.ex q1x) hW (fun i k q => e i k (by omega) (by omega)) (fun i k q => eR i k (by omega))
    refine ⟨z, d2x, _, h2x, rfl, h.mw.1, hm J R' (hc2x.2.mrq h.2.2.2.1), ?_⟩
    rintro r2x h3x (⟨_, rfl, m⟩ | ⟨g2x, _⟩)
    · exact ⟨rfl, h.two q1x (h.2.2.2.1.1.act ha q1x q2x q3x) (by have := remB_le ha; omega) hc2x m⟩
    · exact absurd g g2x
  · refine ⟨zn, d2x, _, h2x, rfl, h.mw.1, hm I R (h.2.2.1.mrq h.2.2.2.1), ?_⟩
    rintro r2x h3x (⟨g2x, _⟩ | ⟨_, rfl, rfl⟩)
    · exact absurd g2x g
    · exact ⟨rfl, h.in6⟩
theorem sail_wf (hw : Wf v) (h7x : cn v 7 ≤ 9999) (g : gSail v x1x x2x) : Wf (dayF v (one x1x.toNatClampNeg x2x)) := by
  refine dayF_wf hw (by omega) (fun k hk _ _ => ?_)
  have h12x := hw.1.2.1
  obtain ⟨c, w, m, b, e1x, e2x, _⟩ := hw.2.2.2.2 k hk
  unfold one
  by_cases e : k = x1x.toNatClampNeg
  · rw [if_pos e]
    rcases g.2.2.2 with z | ⟨_, z⟩
    · subst z; exact ⟨c, e2x, by rw [e1x, Int32.add_zero]⟩
    · rw [← e] at z
      obtain ⟨q, _⟩ := of_decide_eq_true z
      obtain ⟨t, ht, et⟩ := nI_get q (by omega)
      exact ⟨t, ht, et⟩
  · rw [if_neg e]; exact ⟨c, e2x, by rw [e1x, Int32.add_zero]⟩
theorem BT.p7 (h : BT i sh I R v P a s y B n rc cds cls im) : cn v 7 ≤ 9999 := h.2.2.2.1.1.2.2.1
theorem ok_8 (h : BT i sh I R v P a s y B n rc cds cls im) : callOK X 147 254 [.int x1x, .int x2x] (INV (i + 6)) (sh, I, L, R) := by
  have h7x := h.p7
  have h4x : cn v 4 ≤ 4 := h.wf.1.2.2.2.2.2.1
  exact ok_act h (fun g => ⟨dayF_agr h4x, sail_wf h.wf h7x g, by rw [dayF_7 (by omega)]; have := g.2.2.1; omega⟩) (cf_sail h.aq h7x) (fun J R' q => md_sail q) (by decide) (by decide)
theorem ok_9 (h : BT i sh I R v P a s y B n rc cds cls im) : callOK X 148 257 [.int x1x] (INV (i + 6)) (sh, I, L, R) := by
  have h4x : cn v 4 ≤ 4 := h.wf.1.2.2.2.2.2.1
  refine ok_act h (fun g => ?_) (cf_fill h.aq) (fun J R' q => md_fill q) (by decide) (by decide)
  obtain ⟨t, ht, et⟩ := nI_get g.1 (by omega)
  have e : x1x.toNatClampNeg = t := by rw [et, nI_clamp (by omega)]
  rw [e]
  refine ⟨filF_agr (by omega), filF_wf h.wf ht, ?_⟩
  have : cn (filF v t (fCost v t)) 7 = cn v 7 := by unfold cn filF; rw [xu_o (Or.inl (by decide)), xu_o (Or.inl (by decide))]
  rw [this]; exact h.p7
theorem ok_10 (h : BT i sh I R v P a s y B n rc cds cls im) : callOK X 149 258 [.int x1x, .int (if x2x = 0 then 0 else 1)] (INV (i + 6)) (sh, I, L, R) := by
  have h12x : cn v 0 ≤ 12 := h.wf.1.2.1
  refine ok_act h (fun g => ?_) (cf_fence h.aq) (fun J R' q => md_fence q (by split; exact Or.inl rfl; exact Or.inr rfl)) (by decide) (by decide)
  obtain ⟨t, ht, et⟩ := nI_get g.1 (by omega)
  have e : x1x.toNatClampNeg = t := by rw [et, nI_clamp (by omega)]
  rw [e]
  refine ⟨fenF_agr, fenF_wf h.wf (by omega), ?_⟩
  have : cn (fenF v t) 7 = cn v 7 := by unfold cn fenF; rw [xu_o (by decide)]
  rw [this]; exact h.p7
theorem ok_11 (h : BT i sh I R v P a s y B n rc cds cls im) : callOK X 150 261 [.int x1x, .int x2x, .int x3x] (INV (i + 6)) (sh, I, L, R) := by
  refine ok_act h (fun g => ?_) (cf_dig h.aq) (fun J R' q => md_dig q) (by decide) (by decide)
  have g8x := g.2.2.2
  refine ⟨digF_agr h.wf g8x, digF_wf h.wf g8x, ?_⟩
  have : cn (digF v x1x x2x x3x) 7 = cn v 7 := by unfold cn; rw [digF_o h.wf g8x (by decide) (by decide)]
  rw [this]; exact h.p7
theorem ok_12 (h : BT i sh I R v P a s y B n rc cds cls im) : callOK X 151 251 [] (INV (i + 6)) (sh, I, L, R) := by
  have hg := h.2.2.2.1.1
  have ha := h.2.2.2.1.2.1
  refine callOK.of (cf_undo h.aq (fun i hi => (hg.2.2.2.2.2.2 i hi).1)) (by decide) ?_
  rintro r h' ⟨rfl, J, R', rfl, hW, e, eR⟩
  have q1x : agr (if a = 0 then v else pvw P v (a - 1)) v := by split; exact fun _ _ _ => rfl; exact agr.pvw
  have g1x : GV (if a = 0 then v else pvw P v (a - 1)) P (a - 1) := by
    by_cases z : a = 0
    · rw [if_pos z]; subst z; exact hg
    · rw [if_neg z]; exact hg.und (by omega)
  have hc2x := h.wrl (h.2.1.2.2.2.2.2.1.ex q1x) hW (fun i k q => e i k (by omega) (by omega)) (fun i k q => eR i k (by omega))
  refine ⟨_, _, _, by decide, rfl, h.mw.1, md_undo hc2x.2.1 hc2x.2.2.1 hc2x.2.2.2.1 hc2x.2.2.2.2.1 ha, ?_⟩
  rintro r2x h3x ⟨rfl, K, rfl, k1x, k2x, k3x, k4x, k5x, k6x⟩
  exact ⟨rfl, (BT.wrm h.1 hc2x.1 hc2x.2 (h.2.2.2.1.new g1x (by omega)) h.2.2.2.2 k1x k2x k3x (fun k hk => (k5x k).trans (hc2x.2.2.2.2.2.1 k hk)) (fun i k q1x q2x _ _ => k4x i k q1x q2x) ⟨k6x _ (by decide) (by decide) (by decide), k6x _ (by decide) (by decide) (by decide), k6x _ (by decide) (by decide) (by decide)⟩).in6⟩
theorem ok_13 (h : BT i sh I R v P a s y B n rc cds cls im) : callOK X 152 265 [.int x1x, .int x2x] (INV (i + 6)) (sh, I, L, R) := by
  have sl := h.sl
  have h7x := h.p7
  refine callOK.of (cf_run h.aq h.2.1.1.2.2.2.2.2.2.2.1 (h.2.1.rul h.2.2.2.1) h.2.1.1.2.1.2.2.2.2.2.2.2.1 (by decide) (by omega)) (by decide) ?_
  rintro r h' (⟨g, rfl, J, M, rfl, hW, e, eM⟩ | ⟨g, rfl, rfl⟩)
  · obtain ⟨z, lz, ez⟩ := nI_of (x := x2x) (fun q => g.2.2.1 (Or.inl (Int32.lt_of_lt_of_le q (by decide))))
    have z100x : z ≤ 100 := Decidable.byContradiction (fun q => g.2.2.1 (Or.inr (by rw [ez]; exact (nI_lti (a := 100) (by decide) lz).mpr (by omega))))
    have z99x : cn v 7 + z ≤ 9999 := by
      have := g.2.2.2
      rw [ez, nI_add] at this
      exact (nI_lei (b := 9999) (by omega) (by decide)).mp this
    have ec : x2x.toNatClampNeg = z := by rw [ez, nI_clamp lz]
    obtain ⟨w1x, w2x, w3x⟩ := runF_ok (cd := cds x1x.toNatClampNeg) (cl := cls x1x.toNatClampNeg) h.wf x2x.toNatClampNeg (by rw [ec]; omega)
    have g1x : GV (runF v (cds x1x.toNatClampNeg) (cls x1x.toNatClampNeg) x2x.toNatClampNeg) P 0 := h.2.2.2.1.1.ag w2x w1x (by rw [w3x, ec]; exact z99x) h.2.2.2.1.1.2.2.2.2.1 (fun i hi => absurd hi (Nat.not_lt_zero _))
    have hc2x := h.wrl (h.2.1.2.2.2.2.2.1.ex w2x) hW (fun i k q => e i k (by omega) (by omega) (by omega)) (fun _ _ _ => rfl)
    refine ⟨_, _, _, by decide, rfl, h.mw.1, md_run hc2x.2.1 hc2x.2.2.1 h.wf (hc2x.2.rul h.2.2.2.1) hc2x.2.2.2.2.2.1, ?_⟩
    rintro r2x h3x (⟨_, rfl, K, M2x, rfl, k1x, k2x, k3x, k4x, k5x⟩ | ⟨g2x, _⟩)
    · exact ⟨rfl, (BT.wrm h.1 hc2x.1 hc2x.2 (h.2.2.2.1.new g1x (by omega)) h.2.2.2.2 k1x (fun x => (k4x 348 x (by omega) (by omega)).trans (hc2x.2.2.2.1 x)) k2x k3x (fun i k q1x q2x _ _ => k4x i k (by omega) (by omega)) ⟨k4x _ _ (by omega) (by omega), k4x _ _ (by omega) (by omega), k4x _ _ (by omega) (by omega)⟩).in6⟩
    · exact absurd g g2x
  · refine ⟨_, _, _, by decide, rfl, h.mw.1, md_run h.mw h.mv h.wf (h.2.2.1.rul h.2.2.2.1) h.2.2.1.2.2.2.2.1, ?_⟩
    rintro r2x h3x (⟨g2x, _⟩ | ⟨_, rfl, rfl⟩)
    · exact absurd g2x g
    · exact ⟨rfl, h.in6⟩
theorem ok_31 (h : BT i sh I R v P a s y B n rc cds cls im) : callOK X 170 306 [.int x1x, .int x2x, .int x3x, .int x4x] (INV (i + 6)) (sh, I, L, R) := by
  have sl := h.sl
  have h7x := h.p7
  obtain ⟨x, hx, ex⟩ := h.2.2.2.1.1.2.2.2.2.2.1
  refine callOK.of (cf_drawn h.aq h.2.1.1.2.2.2.2.2.2.2.1 (h.2.1.rul h.2.2.2.1) h.2.1.1.2.1.2.2.2.2.2.2.2.1 (by decide) (by omega) h7x ex hx) (by decide) ?_
  rintro r h' (⟨g, rfl, J, M, S, rfl, e, eM, eS⟩ | ⟨g, rfl, rfl⟩)
  · obtain ⟨qa, qb, qc, qd, hPA⟩ := h.2.1.2.1
    have h2x : BT i sh J S v P a s y B n rc cds cls im := h.cla (h.ks (fun i k _ _ _ _ q _ => eS i k (by omega))) ⟨qa, qb, qc, qd, hPA.mv sh_same (fun k => eS _ _ (by omega))⟩ (h.wr.fr (fun i k q1x q2x => e i k (by omega)) (fun i k q1x q2x => eS i k (by omega))) (fun i k q => e i k (by omega)) (fun i k q => eS i k (by omega))
    refine ⟨_, _, _, by decide, rfl, h.mw.1, md_drawn h2x.mw h2x.mv h2x.wf (h2x.2.2.1.rul h2x.2.2.2.1) h2x.2.2.1.2.2.2.2.1 h2x.2.2.1.2.2.1 h2x.2.2.1.2.2.2.1 h2x.2.2.2.1.1.2.2.2.1 h2x.2.2.2.1.1.2.2.2.2.1 h7x ex hx, ?_⟩
    rintro r2x h3x (⟨_, rfl, K, M2x, rfl, k1x, k3x, k4x, k5x⟩ | ⟨g2x, _⟩)
    · exact ⟨rfl, (BT.wrm h2x.1 h2x.2.1 h2x.2.2.1 h2x.2.2.2.1 h2x.2.2.2.2 k1x (fun x => (k4x 348 x (by omega) (by omega) (by omega) (by omega)).trans (h2x.2.2.1.2.2.1 x)) ((k4x _ _ (by omega) (by omega) (by omega) (by omega)).trans h2x.2.2.1.2.2.2.1) k3x (fun i k q1x q2x q3x q4x => k4x i k (by omega) q3x q4x (by omega)) ⟨k4x _ _ (by omega) (by omega) (by omega) (by omega), k4x _ _ (by omega) (by omega) (by omega) (by omega), k4x _ _ (by omega) (by omega) (by omega) (by omega)⟩).in6⟩
    · exact absurd g g2x
  · refine ⟨_, _, _, by decide, rfl, h.mw.1, md_drawn h.mw h.mv h.wf (h.2.2.1.rul h.2.2.2.1) h.2.2.1.2.2.2.2.1 h.2.2.1.2.2.1 h.2.2.1.2.2.2.1 h.2.2.2.1.1.2.2.2.1 h.2.2.2.1.1.2.2.2.2.1 h7x ex hx, ?_⟩
    rintro r2x h3x (⟨g2x, _⟩ | ⟨_, rfl, rfl⟩)
    · exact absurd g2x g
    · exact ⟨rfl, h.in6⟩
end IV3x
