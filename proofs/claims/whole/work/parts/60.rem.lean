/-! WHAT WAS, the one side -/
section RM
variable {X : xX} {h : xH} {sh : List (Nat × Nat)} {I : Nat → Nat → Int32} {L : Nat → Nat → Int64} {R : Nat → Nat → Option Nat} {v : Nat → Nat → Int32} {w s m : Nat}
def SeaR (sh : List (Nat × Nat)) (I : Nat → Nat → Int32) (R : Nat → Nat → Option Nat) (s : Nat) (v : Nat → Nat → Int32) : Prop := SeaAt sh R s ∧ SeaV I s v ∧ SeaW I s v
def PastR (sh : List (Nat × Nat)) (I : Nat → Nat → Int32) (R : Nat → Nat → Option Nat) (w s : Nat) (v : Nat → Nat → Int32) (P : Nat → Int32) (a : Nat) (p : Nat → Nat) : Prop := (∀ i, i < 20 → p i < 20 ∧ R (w + 1) i = some (w + 21 + 9 * p i)) ∧ (∀ i j, i < 20 → j < 20 → p i = p j → i = j) ∧ (∀ i, i < 20 → MomAt sh R (w + 21 + 9 * i)) ∧ ∀ i, i < a → R (w + 21 + 9 * p i) 0 = some s ∧ MomV I (w + 21 + 9 * p i) (pvw P v i)
def WRel (sh : List (Nat × Nat)) (I : Nat → Nat → Int32) (R : Nat → Nat → Option Nat) (w s : Nat) (v : Nat → Nat → Int32) (P : Nat → Int32) (a : Nat) : Prop := WorldAt sh R w ∧ MomAt sh R (w + 12) ∧ R (w + 12) 0 = some s ∧ MomV I (w + 12) v ∧ WorV I w v ∧ I w 2 = nI a ∧ a ≤ 20 ∧ ∃ p, PastR sh I R w s v P a p
theorem MomAt.frR {R' : Nat → Nat → Option Nat} (h : MomAt sh R m) (e : ∀ k, k ≠ 0 → R' m k = R m k) : MomAt sh R' m := by
  refine ⟨h.1, fun j q hq => ⟨(h.2 j q hq).1, ?_⟩⟩
  have hz : ∀ q ∈ fs_mom, q.1 ≠ 0 := by decide
  rw [e _ (hz q (List.mem_of_getElem? hq))]
  exact (h.2 j q hq).2
theorem SeaAt.frR {R' : Nat → Nat → Option Nat} (h : SeaAt sh R s) (e : ∀ k, k ≠ 0 → R' s k = R s k) : SeaAt sh R' s := by
  refine ⟨h.1, fun j q hq => ⟨(h.2 j q hq).1, ?_⟩⟩
  have hz : ∀ q ∈ fs_sea, q.1 ≠ 0 := by decide
  rw [e _ (hz q (List.mem_of_getElem? hq))]
  exact (h.2 j q hq).2
theorem WorldAt.frR {R' : Nat → Nat → Option Nat} (h : WorldAt sh R w) (e : ∀ k, R' w k = R w k) (e7 : ∀ k, R' (w + 7) k = R (w + 7) k) : WorldAt sh R' w := by
  unfold WorldAt at h ⊢
  simp only [e, e7]
  exact h
/-- a slot of a moment -/
def slot (f k : Nat) : Prop := ∃ j, j < 51 ∧ sf j = f ∧ si j = k
theorem lodV_at {P : Nat → Int32} {k n f i : Nat} (h : ∀ j, j < n → ¬ (sf j = f ∧ si j = i)) : lodV v P k n f i = v f i := by
  induction n with
  | zero => rfl
  | succ n ih =>
    show xu (lodV v P k n) (sf n) (si n) _ f i = _
    rw [xu_o (by have := h n (by omega); omega), ih (fun j hj => h j (by omega))]
theorem slot_inj {i j : Nat} (hi : i < 51) (hj : j < 51) (e : sf i = sf j ∧ si i = si j) : i = j := by
  have h : ∀ i, i < 51 → ∀ j, j < 51 → sf i = sf j ∧ si i = si j → i = j := by decide +kernel
  exact h i hi j hj e
theorem lodV_in {P : Nat → Int32} {k n j : Nat} (hj : j < n) (hn : n ≤ 51) : lodV v P k n (sf j) (si j) = P (51 * k + j) := by
  induction n with
  | zero => omega
  | succ n ih =>
    show xu (lodV v P k n) (sf n) (si n) _ (sf j) (si j) = _
    by_cases e : j = n
    · subst e; exact xu_at
    · rw [xu_o (by
        have := slot_inj (i := j) (j := n) (by omega) (by omega)
        omega)]
      exact ih (by omega) (by omega)
theorem pvw_in {P : Nat → Int32} {k j : Nat} (hj : j < 51) : pvw P v k (sf j) (si j) = P (51 * k + j) := lodV_in hj (Nat.le_refl _)
theorem pvw_o {P : Nat → Int32} {k f i : Nat} (h : ¬ slot f i) : pvw P v k f i = v f i := lodV_at (fun j hj e => h ⟨j, hj, e⟩)
theorem pvw_congr {V : Nat → Nat → Int32} {P P' : Nat → Int32} {k k' : Nat} (hv : ∀ f i, ¬ slot f i → V f i = v f i) (hP : ∀ j, j < 51 → P' (51 * k' + j) = P (51 * k + j)) : pvw P' V k' = pvw P v k := by
  funext f i
  by_cases h : slot f i
  · obtain ⟨j, hj, e1, e2⟩ := h
    subst e1; subst e2
    rw [pvw_in hj, pvw_in hj, hP j hj]
  · rw [pvw_o h, pvw_o h, hv f i h]
/-- a view whose slots are those of another -/
theorem pvw_same {V : Nat → Nat → Int32} {P : Nat → Int32} {k : Nat} (hv : ∀ f i, ¬ slot f i → V f i = v f i) (hP : ∀ j, j < 51 → P (51 * k + j) = slc v j) : pvw P V k = v := by
  funext f i
  by_cases h : slot f i
  · obtain ⟨j, hj, e1, e2⟩ := h
    subst e1; subst e2
    rw [pvw_in hj, hP j hj]; rfl
  · rw [pvw_o h, hv f i h]
theorem slot_iff {f k : Nat} : slot f k ↔ (f = 1 ∧ 7 ≤ k ∧ k ≤ 9) ∨ ((f = 13 ∨ f = 14 ∨ f = 17 ∨ f = 18) ∧ k < 4) ∨ (20 ≤ f ∧ f ≤ 23 ∧ k < 8) := by
  constructor
  · intro ⟨j, hj, e1, e2⟩
    have h : ∀ j, j < 51 → (sf j = 1 ∧ 7 ≤ si j ∧ si j ≤ 9) ∨ ((sf j = 13 ∨ sf j = 14 ∨ sf j = 17 ∨ sf j = 18) ∧ si j < 4) ∨ (20 ≤ sf j ∧ sf j ≤ 23 ∧ si j < 8) := by decide +kernel
    have := h j hj
    rw [e1, e2] at this
    exact this
  · intro h
    rcases h with ⟨rfl, h1, h2⟩ | ⟨h1, h2⟩ | ⟨h1, h2, h3⟩
    · refine ⟨k - 7, by omega, ?_, ?_⟩
      · unfold sf; rw [if_pos (by omega)]
      · unfold si; rw [if_pos (by omega)]; omega
    · have hs := sf_s h2
      rcases h1 with rfl | rfl | rfl | rfl
      · exact ⟨35 + 4 * k + 0, by omega, hs.1, si_s h2 (by decide)⟩
      · exact ⟨35 + 4 * k + 1, by omega, hs.2.1, si_s h2 (by decide)⟩
      · exact ⟨35 + 4 * k + 2, by omega, hs.2.2.1, si_s h2 (by decide)⟩
      · exact ⟨35 + 4 * k + 3, by omega, hs.2.2.2, si_s h2 (by decide)⟩
    · have hd := sf_d (j := k) (r := f - 20) h3 (by omega)
      exact ⟨3 + 4 * k + (f - 20), by omega, by omega, hd.2⟩
theorem stP_in {P : Nat → Int32} {k j : Nat} (hj : j < 51) : stP v P k 51 (51 * k + j) = slc v j := by
  unfold stP; rw [if_pos (by omega), show 51 * k + j - 51 * k = j by omega]
theorem stP_o {P : Nat → Int32} {k i j : Nat} (hj : j < 51) (h : i ≠ k) : stP v P k 51 (51 * i + j) = P (51 * i + j) := by
  unfold stP; rw [if_neg (by omega)]
theorem WorV.fr0 {I' : Nat → Nat → Int32} (h : WorV I w v) (e : ∀ i k, w ≤ i → i ≤ w + 10 → (i ≠ w ∨ k ≠ 2) → I' i k = I i k) : WorV I' w v := by
  unfold WorV at h ⊢
  obtain ⟨h1, h2, h3, h4, h5, h6, h7⟩ := h
  refine ⟨?_, fun k hk => ?_, ?_, fun k hk => ?_, ?_, fun k hk => ?_, ?_⟩
  · rw [e _ _ (by omega) (by omega) (by omega)]; exact h1
  · obtain ⟨a, b⟩ := h2 k hk
    refine ⟨?_, ?_⟩ <;> rw [e _ _ (by omega) (by omega) (by omega)] <;> assumption
  · rw [e _ _ (by omega) (by omega) (by omega)]; exact h3
  · obtain ⟨a, b, c⟩ := h4 k hk
    refine ⟨?_, ?_, ?_⟩ <;> rw [e _ _ (by omega) (by omega) (by omega)] <;> assumption
  · rw [e _ _ (by omega) (by omega) (by omega)]; exact h5
  · obtain ⟨a, b, c⟩ := h6 k hk
    refine ⟨?_, ?_, ?_⟩ <;> rw [e _ _ (by omega) (by omega) (by omega)] <;> assumption
  · rw [e _ _ (by omega) (by omega) (by omega)]; exact h7
theorem cs_rem58 {P : Nat → Int32} {a : Nat} (hA : WRel sh I R w s v P a) (hw : Wf v) {P1 : Nat → Int32} {b : Nat} {R1 : Nat → Nat → Option Nat} {I1 : Nat → Nat → Int32} {p1 : Nat → Nat} (hb : b < 20) (hp : PastR sh I R1 w s v P1 b p1) (hR : ∀ x k, x ≠ w + 1 → R1 x k = R x k) (i2 : I1 w 2 = nI b) (hI : ∀ i k, i ≠ w ∨ k ≠ 2 → I1 i k = I i k) (e1 : remP v P a = stP v P1 b 51) (e2 : remB a = b) {l1 : xL} (hl : xlk l1 0 = some (.ref w)) : Eg X xTc 1 134 58 l1 [] (sh, I1, L, R1) (fun r h' => r = none ∧ ∃ I' R', h' = (sh, I', L, R') ∧ WRel sh I' R' w s v (remP v P a) (remB a + 1) ∧ (∀ i k, i < w ∨ (w + 2 ≤ i ∧ i ≤ w + 20) ∨ w + 200 < i → I' i k = I i k) ∧ (∀ k, k ≠ 2 → I' w k = I w k) ∧ ∀ x k, x ≠ w + 1 → (k ≠ 0 ∨ x < w + 21 ∨ w + 200 < x) → R' x k = R x k) := by
  obtain ⟨hWA, hM, hms, hW, hWV, ia, ha, -⟩ := hA
  obtain ⟨p1a, p1b, p1c, p1d⟩ := hp
  have hb2 := hw.1.2
  replace hWA := hWA.frR (fun k => hR w k (by omega)) (fun k => hR (w + 7) k (by omega))
  replace hM := hM.frR (fun k _ => hR (w + 12) k (by omega))
  replace hms : R1 (w + 12) 0 = some s := (hR (w + 12) 0 (by omega)).trans hms
  replace hW : MomV I1 (w + 12) v := hW.fr (fun i k h1 h2 => hI i k (by omega))
  obtain ⟨hpb, rpb⟩ := p1a b hb
  have hmb := p1c (p1 b) hpb
  refine e_aload rfl hl ?_
  refine e_getR rfl hWA.1 hWA.2.2.1.2 ?_
  refine e_aload rfl hl ?_
  refine e_getIv rfl hWA.1 i2 ?_
  refine e_aald26 rfl hWA.2.2.1.1 (vp_in_nI hb (by decide)) (by rw [nI_clamp (by omega)]; exact rpb) ?_
  refine e_aload rfl hl ?_
  refine e_getR rfl hWA.1 hWA.2.1 ?_
  refine Eg.c2 rfl (by decide) (by decide) rfl (Nat.le_of_ble_eq_true rfl) (xrcv_of rfl hmb.1 rfl) ((cs_copyFrom (m := w + 21 + 9 * p1 b) (o := w + 12) hmb hM hms (by omega)).mono (by decide)) (fun r1 h1 hq => ?_)
  obtain ⟨rfl, J, rfl, hC⟩ := hq
  have j2 : J w 2 = nI b := (hC.2.2.2 w 2 (by omega)).trans i2
  refine e_aload rfl hl ?_
  refine e_dupr rfl ?_
  refine e_getIv rfl hWA.1 j2 ?_
  refine e_ipush rfl ?_
  refine e_iadd rfl ?_
  rw [show (nI b) + 1 = nI (b + 1) from nI_1 b]
  refine e_putIJ rfl hWA.1 (fun J1 g1 f1 => ?_)
  have hK : ∀ i k, i ≠ w ∨ k ≠ 2 → (i < w + 21 + 9 * p1 b ∨ w + 21 + 9 * p1 b + 8 < i) → J1 i k = I i k := fun i k h1 h2 => (f1 i k h1).trans ((hC.2.2.2 i k h2).trans (hI i k h1))
  have hmv : MomV J1 (w + 21 + 9 * p1 b) v := (hW.cp hC (by omega) (by omega)).fr (fun i k h1 h2 => f1 i k (by omega))
  refine Eg.ret rfl (by decide) rfl ⟨rfl, J1, xu R1 (w + 21 + 9 * p1 b) 0 (some s), rfl, ⟨hWA.frR (fun k => xu_o (by omega)) (fun k => xu_o (by omega)), hM.put, (xu_o (by omega)).trans hms, ?_, ?_, by rw [e2]; exact g1, by omega, p1, fun i hi => ⟨(p1a i hi).1, (xu_o (by omega)).trans (p1a i hi).2⟩, p1b, fun i hi => (p1c i hi).put, fun i hi => ?_⟩, fun i k hi => ?_, fun k hk => ?_, fun x k h1 h2 => ?_⟩
  · exact hW.fr (fun i k h1 h2 => ((f1 i k (by omega)).trans (hC.2.2.2 i k (by omega))))
  · exact WorV.fr0 hWV (fun i k h1 h2 h3 => hK i k h3 (by omega))
  · rw [e2] at hi
    by_cases e : i = b
    · subst e
      refine ⟨xu_at, ?_⟩
      rw [e1, pvw_same (fun f t _ => rfl) (fun j hj => stP_in hj)]; exact hmv
    · obtain ⟨q1, q2⟩ := p1d i (by omega)
      have hne : p1 i ≠ p1 b := fun q => e (p1b i b (by omega) hb q)
      refine ⟨(xu_o (by omega)).trans q1, ?_⟩
      rw [e1, pvw_congr (fun f t _ => rfl) (fun j hj => stP_o hj e)]
      exact q2.fr (fun x k h1 h2 => hK x k (by omega) (by omega))
  · exact hK i k (by omega) (by omega)
  · exact hK w k (by omega) (by omega)
  · rw [xu_o (by omega)]; exact hR x k h1
theorem cs_remember {P : Nat → Int32} {a : Nat} (hA : WRel sh I R w s v P a) (hw : Wf v) : Ec X 2 134 [.ref w] (sh, I, L, R) (fun r h' => r = none ∧ ∃ I' R', h' = (sh, I', L, R') ∧ WRel sh I' R' w s v (remP v P a) (remB a + 1) ∧ (∀ i k, i < w ∨ (w + 2 ≤ i ∧ i ≤ w + 20) ∨ w + 200 < i → I' i k = I i k) ∧ (∀ k, k ≠ 2 → I' w k = I w k) ∧ ∀ x k, x ≠ w + 1 → (k ≠ 0 ∨ x < w + 21 ∨ w + 200 < x) → R' x k = R x k) := by
  have hA0 := hA
  obtain ⟨hWA, hM, hms, hW, hWV, ia, ha, p, hp⟩ := hA
  refine Ec.of (Nat.le_of_ble_eq_true rfl) ?_
  by_cases h20 : a = 20
  · subst h20
    refine e_aload rfl rfl ?_
    refine e_getIv rfl hWA.1 ia ?_
    refine e_ipush rfl ?_
    refine e_clt_f rfl (by decide) ?_
    refine e_aload rfl rfl ?_
    refine e_getR rfl hWA.1 hWA.2.2.1.2 ?_
    refine e_ipush rfl ?_
    refine e_aald26 rfl hWA.2.2.1.1 (vp_in_nI (n := 0) (by decide) (by decide)) (by rw [show (0 : Int32).toNatClampNeg = 0 by decide]; exact (hp.1 0 (by decide)).2) ?_
    refine e_astore rfl ?_
    refine e_ipush rfl ?_
    refine e_istv (y := nI (1 + 0)) rfl rfl ?_
    refine Eg.pk [0, 1, 2] [2, 1, 0] rfl (by decide) ?_
    refine up_ind (p := fun j => ∀ R1 : Nat → Nat → Option Nat, (∀ x k, x ≠ w + 1 → R1 x k = R x k) → (∀ i, i < j → R1 (w + 1) i = some (w + 21 + 9 * p (i + 1))) → (∀ i, j ≤ i → R1 (w + 1) i = R (w + 1) i) → Eg X xTc 1 134 18 [(0, .ref w), (1, .ref (w + 21 + 9 * p 0)), (2, .int (nI (1 + j)))] [] (sh, I, L, R1) (fun r h' => r = none ∧ ∃ I' R', h' = (sh, I', L, R') ∧ WRel sh I' R' w s v (remP v P 20) (remB 20 + 1) ∧ (∀ i k, i < w ∨ (w + 2 ≤ i ∧ i ≤ w + 20) ∨ w + 200 < i → I' i k = I i k) ∧ (∀ k, k ≠ 2 → I' w k = I w k) ∧ ∀ x k, x ≠ w + 1 → (k ≠ 0 ∨ x < w + 21 ∨ w + 200 < x) → R' x k = R x k)) (n := 19) (j := 0) (fun j hj ih => ?_) ?_ (Nat.zero_le _) R (fun x k hx => rfl) (fun i hi => absurd hi (by omega)) (fun i hi => rfl)
    · intro R1 a1 a2 a3
      have hWA := hWA.frR (R' := R1) (fun k => a1 w k (by omega)) (fun k => a1 (w + 7) k (by omega))
      obtain ⟨hpj, rpj⟩ := hp.1 (1 + j) (by omega)
      have hmj := hp.2.2.1 (p (1 + j)) hpj
      rw [Nat.add_comm 1 j] at hpj rpj hmj
      refine e_iload rfl rfl ?_
      refine e_ipush rfl ?_
      refine e_cge_f rfl (nI_ge (b := 20) (by omega) (by decide)) ?_
      refine e_aload rfl rfl ?_
      refine e_getR rfl hWA.1 hWA.2.2.1.2 ?_
      refine e_iload rfl rfl ?_
      refine e_ipush rfl ?_
      refine e_isub rfl ?_
      rw [show (nI (1 + j)) - 1 = nI j from (show nI (1 + j) - nI 1 = nI j by rw [nI_sub (by omega), Nat.add_sub_cancel_left])]
      refine e_aload rfl rfl ?_
      refine e_getR rfl hWA.1 hWA.2.2.1.2 ?_
      refine e_iload rfl rfl ?_
      refine e_aald26 rfl hWA.2.2.1.1 (vp_in_nI (by omega) (by decide)) (by rw [nI_clamp (by omega), Nat.add_comm 1 j, a3 _ (by omega)]; exact rpj) ?_
      refine e_aast26 rfl hWA.2.2.1.1 hmj.1 (vp_in_nI (by omega) (by decide)) ?_
      rw [nI_clamp (by omega)]
      refine e_iinc rfl rfl ?_
      refine e_goto rfl ?_
      refine Eg.pk [0, 1, 2] [2, 0, 1] rfl (by decide) ?_
      rw [nI_1]
      refine ih _ (fun x k hx => (xu_o (Or.inl hx)).trans (a1 x k hx)) (fun i hi => ?_) (fun i hi => (xu_o (Or.inr (by omega))).trans (a3 i (by omega)))
      by_cases e : i = j
      · subst e; exact xu_at
      · exact (xu_o (Or.inr e)).trans (a2 i (by omega))
    · intro R1 a1 a2 a3
      have hWA := hWA.frR (R' := R1) (fun k => a1 w k (by omega)) (fun k => a1 (w + 7) k (by omega))
      refine e_iload rfl rfl ?_
      refine e_ipush rfl ?_
      refine e_cge_t rfl (by decide) ?_
      refine e_aload rfl rfl ?_
      refine e_getR rfl hWA.1 hWA.2.2.1.2 ?_
      refine e_ipush rfl ?_
      refine e_aload rfl rfl ?_
      refine e_aast26 rfl hWA.2.2.1.1 (hp.2.2.1 (p 0) (hp.1 0 (by decide)).1).1 (vp_in_nI (n := 19) (by decide) (by decide)) ?_
      rw [show (19 : Int32).toNatClampNeg = 19 by decide]
      refine e_aload rfl rfl ?_
      refine e_ipush rfl ?_
      refine e_putIJ rfl hWA.1 (fun J1 g1 f1 => ?_)
      refine cs_rem58 hA0 hw (P1 := shP P) (b := 19) (p1 := fun i => if i < 19 then p (i + 1) else p 0) (by decide) ⟨fun i hi => ?_, fun i j hi hj e => ?_, fun i hi => ?_, fun i hi => ?_⟩ (fun x k hx => (xu_o (Or.inl hx)).trans (a1 x k hx)) g1 f1 (by unfold remP remB; rw [if_pos rfl, if_pos rfl]) (by unfold remB; rw [if_pos rfl]) rfl
      · by_cases e : i < 19
        · simp only [if_pos e]
          exact ⟨(hp.1 (i + 1) (by omega)).1, (xu_o (Or.inr (by omega))).trans (a2 i e)⟩
        · simp only [if_neg e]
          have e19 : i = 19 := by omega
          subst e19
          exact ⟨(hp.1 0 (by decide)).1, xu_at⟩
      · have q := fun a b (ha : a < 20) (hb : b < 20) => hp.2.1 a b ha hb
        by_cases e1 : i < 19
        · by_cases e2 : j < 19
          · simp only [if_pos e1, if_pos e2] at e
            have := q (i + 1) (j + 1) (by omega) (by omega) e; omega
          · simp only [if_pos e1, if_neg e2] at e
            have := q (i + 1) 0 (by omega) (by omega) e; omega
        · by_cases e2 : j < 19
          · simp only [if_neg e1, if_pos e2] at e
            have := q 0 (j + 1) (by omega) (by omega) e; omega
          · omega
      · exact (hp.2.2.1 i hi).frR (fun k _ => (xu_o (by omega)).trans (a1 _ k (by omega)))
      · simp only [if_pos hi]
        obtain ⟨q1, q2⟩ := hp.2.2.2 (i + 1) (by omega)
        refine ⟨(xu_o (by omega)).trans ((a1 _ 0 (by omega)).trans q1), ?_⟩
        rw [pvw_congr (fun f t _ => rfl) (fun j hj => show shP P (51 * i + j) = P (51 * (i + 1) + j) by unfold shP; rw [if_pos (by omega)]; congr 1; omega)]
        exact q2
  · refine e_aload rfl rfl ?_
    refine e_getIv rfl hWA.1 ia ?_
    refine e_ipush rfl ?_
    refine e_clt_t rfl (nI_lt (b := 20) (by omega) (by decide)) ?_
    exact cs_rem58 hA0 hw (P1 := P) (b := a) (p1 := p) (by omega) hp (fun x k hx => rfl) ia (fun i k hi => rfl) (by unfold remP remB; rw [if_neg h20, if_neg h20]) (by unfold remB; rw [if_neg h20]) rfl
end RM
