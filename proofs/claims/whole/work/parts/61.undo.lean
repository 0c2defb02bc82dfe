/-! UNDONE, FILLED, DUG: the one side -/
section UN
variable {X : xX} {h : xH} {sh : List (Nat × Nat)} {I : Nat → Nat → Int32} {L : Nat → Nat → Int64} {R : Nat → Nat → Option Nat} {v : Nat → Nat → Int32} {w s m : Nat}
/-- views that differ in a moment alone -/
def agr (V v : Nat → Nat → Int32) : Prop := ∀ f i, ¬ slot f i → V f i = v f i
theorem agr.c {V : Nat → Nat → Int32} (h : agr V v) {j : Nat} (hj : j < 7 ∨ 9 < j) : cn V j = cn v j := by
  unfold cn; rw [h 1 j (by rw [slot_iff]; omega)]
theorem agr.f {V : Nat → Nat → Int32} (h : agr V v) {f i : Nat} (hf : (2 ≤ f ∧ f ≤ 12) ∨ f = 15 ∨ f = 16 ∨ 24 ≤ f) : V f i = v f i := h f i (by rw [slot_iff]; omega)
theorem agr.pvw {P : Nat → Int32} {k : Nat} : agr (pvw P v k) v := fun _ _ h => pvw_o h
theorem agr.symm {V : Nat → Nat → Int32} (h : agr V v) : agr v V := fun f i q => (h f i q).symm
theorem SeaV.ex {V : Nat → Nat → Int32} (h : SeaV I s v) (q : agr V v) : SeaV I s V := by
  unfold SeaV at h ⊢
  obtain ⟨h1, h2, h3, h4, h5, h6, h7, h8⟩ := h
  refine ⟨fun j hj => ?_, ?_, ?_, fun c hc => ?_, fun t ht => ?_, fun k hk => ?_, fun k hk => ?_, fun k hk => ?_⟩
  · rw [q.c (by omega)]; exact h1 j hj
  · rw [q.c (by omega)]; exact h2
  · rw [q.c (by omega)]; exact h3
  · rw [q.f (by omega)]; exact h4 c hc
  · rw [q.c (by omega)] at ht
    obtain ⟨a, b, c, d⟩ := h5 t ht
    rw [q.f (f := 3) (by omega), q.f (f := 4) (by omega), q.f (f := 5) (by omega)]
    exact ⟨a, b, c, fun k h1 h2 => by rw [q.f (f := 6) (by omega)]; exact d k h1 h2⟩
  · rw [q.c (by omega)] at hk
    rw [q.f (f := 7) (by omega), q.f (f := 8) (by omega), q.f (f := 9) (by omega)]; exact h6 k hk
  · rw [q.c (by omega)] at hk
    rw [q.f (f := 10) (by omega), q.f (f := 11) (by omega), q.f (f := 12) (by omega)]; exact h7 k hk
  · rw [q.c (by omega)] at hk
    rw [q.f (f := 15) (by omega), q.f (f := 16) (by omega)]; exact h8 k hk
theorem agr_per {V : Nat → Nat → Int32} (q : agr V v) {t : Nat} : per V t = per v t := by
  unfold per; rw [q.f (f := 5) (by omega)]
theorem agr.rnd {V : Nat → Nat → Int32} (q : agr V v) : rndN V = rndN v := by
  unfold rndN; rw [q.c (by omega)]
  exact itN_ext (fun t z ht => by rw [agr_per q])
theorem agr.gr {V : Nat → Nat → Int32} (q : agr V v) {t : Nat} : grF V t = grF v t := by
  unfold grF; rw [agr_per q]
  exact itN_ext (fun k z hk => by rw [q.f (f := 6) (by omega)])
theorem SeaW.ex {V : Nat → Nat → Int32} (h : SeaW I s v) (q : agr V v) : SeaW I s V := by
  refine ⟨by rw [q.rnd]; exact h.1, fun t ht => ?_⟩
  rw [q.c (by omega)] at ht
  rw [q.gr]; exact h.2 t ht
theorem WorV.ex {V : Nat → Nat → Int32} (h : WorV I w v) (q : agr V v) : WorV I w V := by
  unfold WorV at h ⊢
  obtain ⟨h1, h2, h3, h4, h5, h6, h7⟩ := h
  refine ⟨?_, fun k hk => ?_, ?_, fun k hk => ?_, ?_, fun k hk => ?_, ?_⟩
  · rw [q.c (by omega)]; exact h1
  · rw [q.c (by omega)] at hk
    rw [q.f (f := 24) (by omega), q.f (f := 25) (by omega)]; exact h2 k hk
  · rw [q.c (by omega)]; exact h3
  · rw [q.c (by omega)] at hk
    rw [q.f (f := 26) (by omega), q.f (f := 27) (by omega), q.f (f := 28) (by omega)]; exact h4 k hk
  · rw [q.c (by omega)]; exact h5
  · rw [q.c (by omega)] at hk
    rw [q.f (f := 29) (by omega), q.f (f := 30) (by omega), q.f (f := 31) (by omega)]; exact h6 k hk
  · rw [q 1 13 (by rw [slot_iff]; omega)]; exact h7
theorem WfL.ex {V : Nat → Nat → Int32} (h : WfL v) (q : agr V v) : WfL V := by
  unfold WfL at h ⊢
  obtain ⟨h1, h2, h3⟩ := h
  refine ⟨fun k hk => ?_, fun k hk => ?_, fun k hk => ?_⟩
  · rw [q.c (by omega)] at hk
    rw [q.f (f := 24) (by omega), q.f (f := 25) (by omega)]; exact h1 k hk
  · rw [q.c (by omega)] at hk
    rw [q.c (j := 0) (by omega), q.f (f := 26) (by omega), q.f (f := 27) (by omega), q.f (f := 28) (by omega)]; exact h2 k hk
  · rw [q.c (by omega)] at hk
    rw [q.f (f := 29) (by omega), q.f (f := 30) (by omega), q.f (f := 31) (by omega)]; exact h3 k hk
theorem SeaR.ex {V : Nat → Nat → Int32} (h : SeaR sh I R s v) (q : agr V v) : SeaR sh I R s V := ⟨h.1, h.2.1.ex q, h.2.2.ex q⟩
theorem PastR.ex {V : Nat → Nat → Int32} {P : Nat → Int32} {a : Nat} {p : Nat → Nat} (h : PastR sh I R w s v P a p) (q : agr V v) : PastR sh I R w s V P a p := by
  refine ⟨h.1, h.2.1, h.2.2.1, fun i hi => ?_⟩
  rw [pvw_congr (v := v) q (fun j hj => rfl)]
  exact h.2.2.2 i hi
theorem cs_forgetLast {P : Nat → Int32} {a : Nat} (hA : WRel sh I R w s v P a) (hw : ∀ i, i < a → Wf (pvw P v i)) : Ec X 2 135 [.ref w] (sh, I, L, R) (fun r h' => r = some (.int (yn (¬ a = 0))) ∧ ∃ I' R', h' = (sh, I', L, R') ∧ WRel sh I' R' w s (if a = 0 then v else pvw P v (a - 1)) P (a - 1) ∧ (∀ i k, i < w ∨ (w < i ∧ i < w + 12) ∨ w + 20 < i → I' i k = I i k) ∧ (∀ k, k ≠ 2 → I' w k = I w k) ∧ ∀ x k, (x ≠ w + 12 ∨ k ≠ 0) → R' x k = R x k) := by
  have hA0 := hA
  obtain ⟨hWA, hM, hms, hW, hWV, ia, ha, p, hp⟩ := hA
  refine Ec.of (Nat.le_of_ble_eq_true rfl) ?_
  by_cases h0 : a = 0
  · subst h0
    refine e_aload rfl rfl ?_
    refine e_getIv rfl hWA.1 ia ?_
    refine e_ifgt_f rfl (by decide) ?_
    refine e_ipush rfl ?_
    exact Eg.ret rfl (by decide) rfl ⟨rfl, I, R, rfl, hA0, fun i k hi => rfl, fun k hk => rfl, fun x k hx => rfl⟩
  · simp only [if_neg h0]
    have hwf := hw (a - 1) (by omega)
    have hb := hwf.1.2
    obtain ⟨hpa, rpa⟩ := hp.1 (a - 1) (by omega)
    obtain ⟨rsa, mva⟩ := hp.2.2.2 (a - 1) (by omega)
    have hma := hp.2.2.1 (p (a - 1)) hpa
    refine e_aload rfl rfl ?_
    refine e_getIv rfl hWA.1 ia ?_
    refine e_ifgt_t rfl (nI_lt (a := 0) (by omega) (by omega)) ?_
    refine e_aload rfl rfl ?_
    refine e_dupr rfl ?_
    refine e_getIv rfl hWA.1 ia ?_
    refine e_ipush rfl ?_
    refine e_isub rfl ?_
    rw [show (nI a) - 1 = nI (a - 1) from (show nI a - nI 1 = _ from nI_sub (by omega))]
    refine e_putIJ rfl hWA.1 (fun J1 g1 f1 => ?_)
    refine e_aload rfl rfl ?_
    refine e_getR rfl hWA.1 hWA.2.1 ?_
    refine e_aload rfl rfl ?_
    refine e_getR rfl hWA.1 hWA.2.2.1.2 ?_
    refine e_aload rfl rfl ?_
    refine e_getIv rfl hWA.1 g1 ?_
    refine e_aald26 rfl hWA.2.2.1.1 (vp_in_nI (by omega) (by decide)) (by rw [nI_clamp (by omega)]; exact rpa) ?_
    refine Eg.c2 rfl (by decide) (by decide) rfl (Nat.le_of_ble_eq_true rfl) (xrcv_of rfl hM.1 rfl) ((cs_copyFrom (m := w + 12) (o := w + 21 + 9 * p (a - 1)) hM hma rsa (by omega)).mono (by decide)) (fun r1 h1 hq => ?_)
    obtain ⟨rfl, J, rfl, hC⟩ := hq
    refine e_ipush rfl ?_
    have hJ : ∀ i k, i ≠ w ∨ k ≠ 2 → (i < w + 12 ∨ w + 20 < i) → J i k = I i k := fun i k h1 h2 => (hC.2.2.2 i k (by omega)).trans (f1 i k h1)
    have mva1 : MomV J1 (w + 21 + 9 * p (a - 1)) (pvw P v (a - 1)) := mva.fr (fun i k h1 h2 => f1 i k (by omega))
    refine Eg.ret rfl (by decide) rfl ⟨congrArg (fun z => some (Value.int z)) (yn_t h0).symm, J, xu R (w + 12) 0 (some s), rfl, ⟨hWA.frR (fun k => xu_o (by omega)) (fun k => xu_o (by omega)), hM.put, xu_at, mva1.cp hC (by omega) (by omega), ?_, (hC.2.2.2 w 2 (by omega)).trans g1, by omega, p, ?_⟩, fun i k hi => hJ i k (by omega) (by omega), fun k hk => hJ w k (by omega) (by omega), fun x k hx => xu_o hx⟩
    · exact (WorV.fr0 hWV (fun i k h1 h2 h3 => hJ i k h3 (by omega))).ex agr.pvw
    · refine PastR.ex (v := v) ⟨fun i hi => ⟨(hp.1 i hi).1, (xu_o (by omega)).trans (hp.1 i hi).2⟩, hp.2.1, fun i hi => (hp.2.2.1 i hi).put, fun i hi => ?_⟩ agr.pvw
      obtain ⟨q1, q2⟩ := hp.2.2.2 i (by omega)
      exact ⟨(xu_o (by omega)).trans q1, q2.fr (fun x k h1 h2 => hJ x k (by omega) (by omega))⟩
theorem cs_addDig (hM : MomAt sh R m) {l : List (Int32 × Int32 × Int32 × Int32)} {e : Nat} {c b d : Int32} (hD : DigR I m l) (hl : l.length < 8) (h1 : I m 1 = nI e) : Ec X 1 47 [.ref m, .int c, .int b, .int d] (sh, I, L, R) (fun r h' => r = none ∧ ∃ I', h' = (sh, I', L, R) ∧ DigR I' m (l ++ [(c, b, nI e, nI e + d - 1)]) ∧ (∀ k, k ≠ 7 → I' m k = I m k) ∧ ∀ i k, i < m ∨ (m < i ∧ i < m + 5) ∨ m + 8 < i → I' i k = I i k) := by
  refine Ec.of (Nat.le_of_ble_eq_true rfl) ?_
  refine e_aload rfl rfl ?_
  refine e_getIv rfl hM.1 hD.1 ?_
  refine e_ipush rfl ?_
  refine e_cge_f rfl (nI_ge (b := 8) hl (by decide)) ?_
  refine e_aload rfl rfl ?_
  refine e_getR rfl hM.1 (hM.2 4 _ rfl).2 ?_
  refine e_aload rfl rfl ?_
  refine e_getIv rfl hM.1 hD.1 ?_
  refine e_iload rfl rfl ?_
  refine e_iasJ (t := l.length) (n := 8) rfl (hM.2 4 _ rfl).1 rfl (by omega) (by decide) (fun J1 g1 f1 => ?_)
  refine e_aload rfl rfl ?_
  refine e_getR rfl hM.1 (hM.2 5 _ rfl).2 ?_
  refine e_aload rfl rfl ?_
  refine e_getIv rfl hM.1 ((f1 m 7 (Or.inl (by omega))).trans hD.1) ?_
  refine e_iload rfl rfl ?_
  refine e_iasJ (t := l.length) (n := 8) rfl (hM.2 5 _ rfl).1 rfl (by omega) (by decide) (fun J2 g2 f2 => ?_)
  refine e_aload rfl rfl ?_
  refine e_getR rfl hM.1 (hM.2 6 _ rfl).2 ?_
  refine e_aload rfl rfl ?_
  refine e_getIv rfl hM.1 ((f2 m 7 (Or.inl (by omega))).trans ((f1 m 7 (Or.inl (by omega))).trans hD.1)) ?_
  refine e_aload rfl rfl ?_
  refine e_getIv rfl hM.1 ((f2 m 1 (Or.inl (by omega))).trans ((f1 m 1 (Or.inl (by omega))).trans h1)) ?_
  refine e_iasJ (t := l.length) (n := 8) rfl (hM.2 6 _ rfl).1 rfl (by omega) (by decide) (fun J3 g3 f3 => ?_)
  refine e_aload rfl rfl ?_
  refine e_getR rfl hM.1 (hM.2 7 _ rfl).2 ?_
  refine e_aload rfl rfl ?_
  refine e_getIv rfl hM.1 ((f3 m 7 (Or.inl (by omega))).trans ((f2 m 7 (Or.inl (by omega))).trans ((f1 m 7 (Or.inl (by omega))).trans hD.1))) ?_
  refine e_aload rfl rfl ?_
  refine e_getIv rfl hM.1 ((f3 m 1 (Or.inl (by omega))).trans ((f2 m 1 (Or.inl (by omega))).trans ((f1 m 1 (Or.inl (by omega))).trans h1))) ?_
  refine e_iload rfl rfl ?_
  refine e_iadd rfl ?_
  refine e_ipush rfl ?_
  refine e_isub rfl ?_
  refine e_iasJ (t := l.length) (n := 8) rfl (hM.2 7 _ rfl).1 rfl (by omega) (by decide) (fun J4 g4 f4 => ?_)
  refine e_aload rfl rfl ?_
  refine e_dupr rfl ?_
  refine e_getIv rfl hM.1 ((f4 m 7 (Or.inl (by omega))).trans ((f3 m 7 (Or.inl (by omega))).trans ((f2 m 7 (Or.inl (by omega))).trans ((f1 m 7 (Or.inl (by omega))).trans hD.1)))) ?_
  refine e_ipush rfl ?_
  refine e_iadd rfl ?_
  rw [show (nI l.length) + 1 = nI (l.length + 1) from nI_1 _]
  refine e_putIJ rfl hM.1 (fun J5 g5 f5 => ?_)
  refine Eg.ret rfl (by decide) rfl ⟨rfl, J5, rfl, ⟨by rw [List.length_append]; exact g5, fun i x hx => ?_⟩, fun k hk => ?_, fun i k hi => ?_⟩
  · by_cases hi : i < l.length
    · rw [List.getElem?_append_left hi] at hx
      obtain ⟨d1, d2, d3, d4⟩ := hD.2 i x hx
      exact ⟨((f5 (m + 5) i (Or.inl (by omega))).trans ((f4 (m + 5) i (Or.inl (by omega))).trans ((f3 (m + 5) i (Or.inl (by omega))).trans ((f2 (m + 5) i (Or.inl (by omega))).trans ((f1 (m + 5) i (Or.inr (by omega))).trans d1))))), ((f5 (m + 6) i (Or.inl (by omega))).trans ((f4 (m + 6) i (Or.inl (by omega))).trans ((f3 (m + 6) i (Or.inl (by omega))).trans ((f2 (m + 6) i (Or.inr (by omega))).trans ((f1 (m + 6) i (Or.inl (by omega))).trans d2))))), ((f5 (m + 7) i (Or.inl (by omega))).trans ((f4 (m + 7) i (Or.inl (by omega))).trans ((f3 (m + 7) i (Or.inr (by omega))).trans ((f2 (m + 7) i (Or.inl (by omega))).trans ((f1 (m + 7) i (Or.inl (by omega))).trans d3))))), ((f5 (m + 8) i (Or.inl (by omega))).trans ((f4 (m + 8) i (Or.inr (by omega))).trans ((f3 (m + 8) i (Or.inl (by omega))).trans ((f2 (m + 8) i (Or.inl (by omega))).trans ((f1 (m + 8) i (Or.inl (by omega))).trans d4)))))⟩
    · have e0 : i = l.length := by
        have := (List.getElem?_eq_some_iff.mp hx).1
        rw [List.length_append] at this; simp at this; omega
      subst e0
      rw [List.getElem?_append_right (by omega), Nat.sub_self] at hx
      have ey : (c, b, nI e, nI e + d - 1) = x := by simpa using hx
      subst ey
      exact ⟨((f5 (m + 5) l.length (Or.inl (by omega))).trans ((f4 (m + 5) l.length (Or.inl (by omega))).trans ((f3 (m + 5) l.length (Or.inl (by omega))).trans ((f2 (m + 5) l.length (Or.inl (by omega))).trans g1)))), ((f5 (m + 6) l.length (Or.inl (by omega))).trans ((f4 (m + 6) l.length (Or.inl (by omega))).trans ((f3 (m + 6) l.length (Or.inl (by omega))).trans g2))), ((f5 (m + 7) l.length (Or.inl (by omega))).trans ((f4 (m + 7) l.length (Or.inl (by omega))).trans g3)), ((f5 (m + 8) l.length (Or.inl (by omega))).trans g4)⟩
  · exact ((f5 m k (Or.inr hk)).trans ((f4 m k (Or.inl (by omega))).trans ((f3 m k (Or.inl (by omega))).trans ((f2 m k (Or.inl (by omega))).trans ((f1 m k (Or.inl (by omega))).trans rfl)))))
  · exact ((f5 i k (Or.inl (by omega))).trans ((f4 i k (Or.inl (by omega))).trans ((f3 i k (Or.inl (by omega))).trans ((f2 i k (Or.inl (by omega))).trans (f1 i k (Or.inl (by omega)))))))
/-- a ship filled -/
def filF (v : Nat → Nat → Int32) (k : Nat) (x : Int32) : Nat → Nat → Int32 := xu (xu v 14 k (v 15 k)) 17 k (v 17 k + x)
theorem cs_fillFrom (hS : SeaAt sh R s) (hV : SeaV I s v) (hw : Wf v) (hM : MomAt sh R m) (hms : R m 0 = some s) (hW : MomV I m v) {k b : Nat} (hk : k < cn v 4) (hp : isP v b) (hb4 : b < 4) (hsm : s + 12 < m ∨ m + 8 < s) : Ec X 1 46 [.ref m, .int (nI b), .int (nI k)] (sh, I, L, R) (fun r h' => r = some (.int ((v 15 k - v 14 k) * pco v b)) ∧ ∃ I', h' = (sh, I', L, R) ∧ MomV I' m (filF v k ((v 15 k - v 14 k) * pco v b)) ∧ ∀ i t, i < m ∨ m + 8 < i → I' i t = I i t) := by
  have hb := hw.1.2
  obtain ⟨hH, hD⟩ := MomV_iff.mp hW
  refine Ec.of (Nat.le_of_ble_eq_true rfl) ?_
  refine e_aload rfl rfl ?_
  refine e_getR rfl hM.1 hms ?_
  refine e_getR rfl hS.1 (hS.2 10 _ rfl).2 ?_
  refine e_iload rfl rfl ?_
  refine e_ialv (t := k) (n := 4) rfl (hS.2 10 _ rfl).1 rfl (by omega) (by decide) (hV.2.2.2.2.2.2.2 k (by omega)).1 ?_
  refine e_aload rfl rfl ?_
  refine e_getR rfl hM.1 (hM.2 1 _ rfl).2 ?_
  refine e_iload rfl rfl ?_
  refine e_ialv (t := k) (n := 4) rfl (hM.2 1 _ rfl).1 rfl (by omega) (by decide) (hW.2.2.1 k (by omega)).2.1 ?_
  refine e_isub rfl ?_
  refine e_aload rfl rfl ?_
  refine e_getR rfl hM.1 hms ?_
  refine e_getR rfl hS.1 (hS.2 8 _ rfl).2 ?_
  refine e_iload rfl rfl ?_
  refine e_ialv (t := b) (n := 8) rfl (hS.2 8 _ rfl).1 rfl (by omega) (by decide) (hV.p (p := b) (by assumption) hw).2.2 ?_
  refine e_imul rfl ?_
  refine e_istore rfl ?_
  refine e_aload rfl rfl ?_
  refine e_getR rfl hM.1 (hM.2 1 _ rfl).2 ?_
  refine e_iload rfl rfl ?_
  refine e_aload rfl rfl ?_
  refine e_getR rfl hM.1 hms ?_
  refine e_getR rfl hS.1 (hS.2 10 _ rfl).2 ?_
  refine e_iload rfl rfl ?_
  refine e_ialv (t := k) (n := 4) rfl (hS.2 10 _ rfl).1 rfl (by omega) (by decide) (hV.2.2.2.2.2.2.2 k (by omega)).1 ?_
  refine e_iasJ (t := k) (n := 4) rfl (hM.2 1 _ rfl).1 rfl (by omega) (by decide) (fun J1 g1 f1 => ?_)
  refine e_aload rfl rfl ?_
  refine e_getR rfl hM.1 (hM.2 2 _ rfl).2 ?_
  refine e_iload rfl rfl ?_
  refine e_dup2 rfl ?_
  refine e_ialv (t := k) (n := 4) rfl (hM.2 2 _ rfl).1 rfl (by omega) (by decide) ((f1 (m + 3) k (Or.inl (by omega))).trans (hW.2.2.1 k (by omega)).2.2.1) ?_
  refine e_iload rfl rfl ?_
  refine e_iadd rfl ?_
  refine e_iasJ (t := k) (n := 4) rfl (hM.2 2 _ rfl).1 rfl (by omega) (by decide) (fun J2 g2 f2 => ?_)
  refine e_iload rfl rfl ?_
  have m1 := (hH.u14 g1 f1).u17 g2 f2
  refine Eg.ret rfl (by decide) rfl ⟨rfl, J2, rfl, MomV_iff.mpr ⟨m1, ?_⟩, fun i t hi => (f2 i t (by omega)).trans (f1 i t (by omega))⟩
  unfold filF
  rw [cn_xu (by decide), cn_xu (by decide), digL_ext (v := v) ((xu_i (by decide)).trans (xu_i (by decide))) (fun f k h1 h2 => (xu_i (by omega)).trans (xu_i (by omega)))]
  exact hD.fr ((f2 m 7 (by omega)).trans (f1 m 7 (by omega))) (fun i t h1 h2 => (f2 i t (by omega)).trans (f1 i t (by omega)))
end UN
