/-! WORLDS copied -/
section WC
variable {X : xX} {h : xH} {sh : List (Nat × Nat)} {I : Nat → Nat → Int32} {L : Nat → Nat → Int64} {R : Nat → Nat → Option Nat} {v : Nat → Nat → Int32} {w s m : Nat}
theorem cs_fleetCopy {q : Nat} (hA : WorldAt sh R w) (hO : WorldAt sh R q) (hd : w + 200 < q ∨ q + 200 < w) : Ec X 1 31 [.ref (w + 7), .ref (q + 7)] (sh, I, L, R) (fun r h' => r = none ∧ ∃ J : Nat → Nat → Int32, h' = (sh, J, L, R) ∧ J (w + 7) 0 = I (q + 7) 0 ∧ (∀ k, k < 6 → J (w + 8) k = I (q + 8) k ∧ J (w + 9) k = I (q + 9) k ∧ J (w + 10) k = I (q + 10) k) ∧ ∀ i x, i < w + 7 ∨ w + 10 < i → J i x = I i x) := by
  refine Ec.of (Nat.le_of_ble_eq_true rfl) ?_
  refine e_aload rfl rfl ?_
  refine e_aload rfl rfl ?_
  refine e_getI rfl hO.2.2.2.2.2.2.2.2.1.1 ?_
  refine e_putIJ rfl hA.2.2.2.2.2.2.2.2.1.1 (fun J1x g1x f1x => ?_)
  refine e_aload rfl rfl ?_
  refine e_getR rfl hO.2.2.2.2.2.2.2.2.1.1 hO.2.2.2.2.2.2.2.2.2.1.2 ?_
  refine e_ipush rfl ?_
  refine e_aload rfl rfl ?_
  refine e_getR rfl hA.2.2.2.2.2.2.2.2.1.1 hA.2.2.2.2.2.2.2.2.2.1.2 ?_
  refine e_ipush rfl ?_
  refine e_ipush rfl ?_
  refine e_copyJ (r := 6) rfl hO.2.2.2.2.2.2.2.2.2.1.1 hA.2.2.2.2.2.2.2.2.2.1.1 rfl (by decide) (by decide) (by decide) (Nat.le_of_ble_eq_true rfl) (fun J2x g2x f2x => ?_)
  refine e_aload rfl rfl ?_
  refine e_getR rfl hO.2.2.2.2.2.2.2.2.1.1 hO.2.2.2.2.2.2.2.2.2.2.1.2 ?_
  refine e_ipush rfl ?_
  refine e_aload rfl rfl ?_
  refine e_getR rfl hA.2.2.2.2.2.2.2.2.1.1 hA.2.2.2.2.2.2.2.2.2.2.1.2 ?_
  refine e_ipush rfl ?_
  refine e_ipush rfl ?_
  refine e_copyJ (r := 6) rfl hO.2.2.2.2.2.2.2.2.2.2.1.1 hA.2.2.2.2.2.2.2.2.2.2.1.1 rfl (by decide) (by decide) (by decide) (Nat.le_of_ble_eq_true rfl) (fun J3x g3x f3x => ?_)
  refine e_aload rfl rfl ?_
  refine e_getR rfl hO.2.2.2.2.2.2.2.2.1.1 hO.2.2.2.2.2.2.2.2.2.2.2.1.2 ?_
  refine e_ipush rfl ?_
  refine e_aload rfl rfl ?_
  refine e_getR rfl hA.2.2.2.2.2.2.2.2.1.1 hA.2.2.2.2.2.2.2.2.2.2.2.1.2 ?_
  refine e_ipush rfl ?_
  refine e_ipush rfl ?_
  refine e_copyJ (r := 6) rfl hO.2.2.2.2.2.2.2.2.2.2.2.1.1 hA.2.2.2.2.2.2.2.2.2.2.2.1.1 rfl (by decide) (by decide) (by decide) (Nat.le_of_ble_eq_true rfl) (fun J4x g4x f4x => ?_)
  refine Eg.ret rfl (by decide) rfl ⟨rfl, J4x, rfl, ?_, fun k hk => ⟨?_, ?_, ?_⟩, fun i x hi => ?_⟩
  · exact (f4x _ _ (by omega)).trans ((f3x _ _ (by omega)).trans ((f2x _ _ (by omega)).trans g1x))
  · exact (f4x _ _ (by omega)).trans ((f3x _ _ (by omega)).trans ((g2x k hk).trans (f1x _ _ (by omega))))
  · exact (f4x _ _ (by omega)).trans ((g3x k hk).trans ((f2x _ _ (by omega)).trans (f1x _ _ (by omega))))
  · exact (g4x k hk).trans ((f3x _ _ (by omega)).trans ((f2x _ _ (by omega)).trans (f1x _ _ (by omega))))
  · exact (f4x _ _ (by omega)).trans ((f3x _ _ (by omega)).trans ((f2x _ _ (by omega)).trans (f1x _ _ (by omega))))
/-- a world's told rows taken over from another's -/
def WCP (J I : Nat → Nat → Int32) (w q : Nat) : Prop := J w 3 = I q 3 ∧ J w 6 = I q 6 ∧ J w 11 = I q 11 ∧ J (w + 7) 0 = I (q + 7) 0 ∧ (∀ k, k < 10 → J (w + 2) k = I (q + 2) k ∧ J (w + 3) k = I (q + 3) k ∧ J (w + 4) k = I (q + 4) k ∧ J (w + 5) k = I (q + 5) k ∧ J (w + 6) k = I (q + 6) k) ∧ (∀ k, k < 6 → J (w + 8) k = I (q + 8) k ∧ J (w + 9) k = I (q + 9) k ∧ J (w + 10) k = I (q + 10) k) ∧ ∀ i x, (i < w ∨ w + 10 < i ∨ (i = w ∧ x = 2)) → J i x = I i x
theorem WorV.cp {J : Nat → Nat → Int32} {q : Nat} (h : WorV I q v) (c : WCP J I w q) (hw : Wf v) : WorV J w v := by
  have hb := hw.1.2
  obtain ⟨h1x, h2x, h3x, h4x, h5x, h6x, h7x⟩ := h
  obtain ⟨c1x, c2x, c3x, c4x, c5x, c6x, -⟩ := c
  refine ⟨c1x.trans h1x, fun k hk => ?_, c2x.trans h3x, fun k hk => ?_, c4x.trans h5x, fun k hk => ?_, c3x.trans h7x⟩
  · obtain ⟨a1x, a2x, a3x, a4x, a5x⟩ := c5x k (by omega)
    rw [a1x, a2x]; exact h2x k hk
  · obtain ⟨a1x, a2x, a3x, a4x, a5x⟩ := c5x k (by omega)
    rw [a3x, a4x, a5x]; exact h4x k hk
  · obtain ⟨a1x, a2x, a3x⟩ := c6x k (by omega)
    rw [a1x, a2x, a3x]; exact h6x k hk
theorem cs_wcp50 {q : Nat} {l1x : xL} (h0x : xlk l1x 0 = some (.ref w)) (h1x : xlk l1x 1 = some (.ref q)) (hA : WorldAt sh R w) (hO : WorldAt sh R q) (hd : w + 200 < q ∨ q + 200 < w) : Eg X xTc 1 133 50 l1x [] (sh, I, L, R) (fun r h' => r = none ∧ ∃ J : Nat → Nat → Int32, h' = (sh, J, L, R) ∧ WCP J I w q) := by
  refine e_aload rfl (by assumption) ?_
  refine e_aload rfl (by assumption) ?_
  refine e_getI rfl hO.1 ?_
  refine e_putIJ rfl hA.1 (fun J1x g1x f1x => ?_)
  refine e_aload rfl (by assumption) ?_
  refine e_getR rfl hO.1 hO.2.2.2.1.2 ?_
  refine e_ipush rfl ?_
  refine e_aload rfl (by assumption) ?_
  refine e_getR rfl hA.1 hA.2.2.2.1.2 ?_
  refine e_ipush rfl ?_
  refine e_ipush rfl ?_
  refine e_copyJ (r := 10) rfl hO.2.2.2.1.1 hA.2.2.2.1.1 rfl (by decide) (by decide) (by decide) (Nat.le_of_ble_eq_true rfl) (fun J2x g2x f2x => ?_)
  refine e_aload rfl (by assumption) ?_
  refine e_getR rfl hO.1 hO.2.2.2.2.1.2 ?_
  refine e_ipush rfl ?_
  refine e_aload rfl (by assumption) ?_
  refine e_getR rfl hA.1 hA.2.2.2.2.1.2 ?_
  refine e_ipush rfl ?_
  refine e_ipush rfl ?_
  refine e_copyJ (r := 10) rfl hO.2.2.2.2.1.1 hA.2.2.2.2.1.1 rfl (by decide) (by decide) (by decide) (Nat.le_of_ble_eq_true rfl) (fun J3x g3x f3x => ?_)
  refine e_aload rfl (by assumption) ?_
  refine e_aload rfl (by assumption) ?_
  refine e_getIv rfl hO.1 ((f3x q 6 (Or.inl (by omega))).trans ((f2x q 6 (Or.inl (by omega))).trans (f1x q 6 (Or.inl (by omega))))) ?_
  refine e_putIJ rfl hA.1 (fun J4x g4x f4x => ?_)
  refine e_aload rfl (by assumption) ?_
  refine e_getR rfl hO.1 hO.2.2.2.2.2.1.2 ?_
  refine e_ipush rfl ?_
  refine e_aload rfl (by assumption) ?_
  refine e_getR rfl hA.1 hA.2.2.2.2.2.1.2 ?_
  refine e_ipush rfl ?_
  refine e_ipush rfl ?_
  refine e_copyJ (r := 10) rfl hO.2.2.2.2.2.1.1 hA.2.2.2.2.2.1.1 rfl (by decide) (by decide) (by decide) (Nat.le_of_ble_eq_true rfl) (fun J5x g5x f5x => ?_)
  refine e_aload rfl (by assumption) ?_
  refine e_getR rfl hO.1 hO.2.2.2.2.2.2.1.2 ?_
  refine e_ipush rfl ?_
  refine e_aload rfl (by assumption) ?_
  refine e_getR rfl hA.1 hA.2.2.2.2.2.2.1.2 ?_
  refine e_ipush rfl ?_
  refine e_ipush rfl ?_
  refine e_copyJ (r := 10) rfl hO.2.2.2.2.2.2.1.1 hA.2.2.2.2.2.2.1.1 rfl (by decide) (by decide) (by decide) (Nat.le_of_ble_eq_true rfl) (fun J6x g6x f6x => ?_)
  refine e_aload rfl (by assumption) ?_
  refine e_getR rfl hO.1 hO.2.2.2.2.2.2.2.1.2 ?_
  refine e_ipush rfl ?_
  refine e_aload rfl (by assumption) ?_
  refine e_getR rfl hA.1 hA.2.2.2.2.2.2.2.1.2 ?_
  refine e_ipush rfl ?_
  refine e_ipush rfl ?_
  refine e_copyJ (r := 10) rfl hO.2.2.2.2.2.2.2.1.1 hA.2.2.2.2.2.2.2.1.1 rfl (by decide) (by decide) (by decide) (Nat.le_of_ble_eq_true rfl) (fun J7x g7x f7x => ?_)
  refine e_aload rfl (by assumption) ?_
  refine e_getR rfl hA.1 hA.2.2.2.2.2.2.2.2.1.2 ?_
  refine e_aload rfl (by assumption) ?_
  refine e_getR rfl hO.1 hO.2.2.2.2.2.2.2.2.1.2 ?_
  refine Eg.c2 rfl (by decide) (by decide) rfl (Nat.le_of_ble_eq_true rfl) (xrcv_of rfl hA.2.2.2.2.2.2.2.2.1.1 rfl) ((cs_fleetCopy hA hO hd).mono (by decide)) (fun r1x h1x hq => ?_)
  obtain ⟨rfl, K, rfl, q1x, q2x, q3x⟩ := hq
  refine e_aload rfl (by assumption) ?_
  refine e_aload rfl (by assumption) ?_
  refine e_getIv rfl hO.1 ((q3x q 11 (by omega)).trans ((f7x _ _ (by omega)).trans ((f6x _ _ (by omega)).trans ((f5x _ _ (by omega)).trans ((f4x _ _ (by omega)).trans ((f3x _ _ (by omega)).trans ((f2x _ _ (by omega)).trans (f1x _ _ (by omega))))))))) ?_
  refine e_putIJ rfl hA.1 (fun J8x g8x f8x => ?_)
  have ki : ∀ i x, i < w ∨ w + 10 < i ∨ (i = w ∧ x = 2) → J8x i x = I i x := fun i x hi => (f8x _ _ (by omega)).trans ((q3x _ _ (by omega)).trans ((f7x _ _ (by omega)).trans ((f6x _ _ (by omega)).trans ((f5x _ _ (by omega)).trans ((f4x _ _ (by omega)).trans ((f3x _ _ (by omega)).trans ((f2x _ _ (by omega)).trans (f1x _ _ (by omega)))))))))
  refine Eg.ret rfl (by decide) rfl ⟨rfl, J8x, rfl, ?_, ?_, ?_, ?_, fun k hk => ⟨?_, ?_, ?_, ?_, ?_⟩, fun k hk => ?_, ki⟩
  · exact (f8x _ _ (by omega)).trans ((q3x _ _ (by omega)).trans ((f7x _ _ (by omega)).trans ((f6x _ _ (by omega)).trans ((f5x _ _ (by omega)).trans ((f4x _ _ (by omega)).trans ((f3x _ _ (by omega)).trans ((f2x _ _ (by omega)).trans g1x)))))))
  · exact (f8x _ _ (by omega)).trans ((q3x _ _ (by omega)).trans ((f7x _ _ (by omega)).trans ((f6x _ _ (by omega)).trans ((f5x _ _ (by omega)).trans g4x))))
  · exact g8x
  · exact (f8x _ _ (by omega)).trans (q1x.trans ((f7x _ _ (by omega)).trans ((f6x _ _ (by omega)).trans ((f5x _ _ (by omega)).trans ((f4x _ _ (by omega)).trans ((f3x _ _ (by omega)).trans ((f2x _ _ (by omega)).trans (f1x _ _ (by omega)))))))))
  · exact (f8x _ _ (by omega)).trans ((q3x _ _ (by omega)).trans ((f7x _ _ (by omega)).trans ((f6x _ _ (by omega)).trans ((f5x _ _ (by omega)).trans ((f4x _ _ (by omega)).trans ((f3x _ _ (by omega)).trans ((g2x k hk).trans (f1x _ _ (by omega)))))))))
  · exact (f8x _ _ (by omega)).trans ((q3x _ _ (by omega)).trans ((f7x _ _ (by omega)).trans ((f6x _ _ (by omega)).trans ((f5x _ _ (by omega)).trans ((f4x _ _ (by omega)).trans ((g3x k hk).trans ((f2x _ _ (by omega)).trans (f1x _ _ (by omega)))))))))
  · exact (f8x _ _ (by omega)).trans ((q3x _ _ (by omega)).trans ((f7x _ _ (by omega)).trans ((f6x _ _ (by omega)).trans ((g5x k hk).trans ((f4x _ _ (by omega)).trans ((f3x _ _ (by omega)).trans ((f2x _ _ (by omega)).trans (f1x _ _ (by omega)))))))))
  · exact (f8x _ _ (by omega)).trans ((q3x _ _ (by omega)).trans ((f7x _ _ (by omega)).trans ((g6x k hk).trans ((f5x _ _ (by omega)).trans ((f4x _ _ (by omega)).trans ((f3x _ _ (by omega)).trans ((f2x _ _ (by omega)).trans (f1x _ _ (by omega)))))))))
  · exact (f8x _ _ (by omega)).trans ((q3x _ _ (by omega)).trans ((g7x k hk).trans ((f6x _ _ (by omega)).trans ((f5x _ _ (by omega)).trans ((f4x _ _ (by omega)).trans ((f3x _ _ (by omega)).trans ((f2x _ _ (by omega)).trans (f1x _ _ (by omega)))))))))
  · obtain ⟨a1x, a2x, a3x⟩ := q2x k hk
    exact ⟨(f8x _ _ (by omega)).trans (a1x.trans ((f7x _ _ (by omega)).trans ((f6x _ _ (by omega)).trans ((f5x _ _ (by omega)).trans ((f4x _ _ (by omega)).trans ((f3x _ _ (by omega)).trans ((f2x _ _ (by omega)).trans (f1x _ _ (by omega))))))))), (f8x _ _ (by omega)).trans (a2x.trans ((f7x _ _ (by omega)).trans ((f6x _ _ (by omega)).trans ((f5x _ _ (by omega)).trans ((f4x _ _ (by omega)).trans ((f3x _ _ (by omega)).trans ((f2x _ _ (by omega)).trans (f1x _ _ (by omega))))))))), (f8x _ _ (by omega)).trans (a3x.trans ((f7x _ _ (by omega)).trans ((f6x _ _ (by omega)).trans ((f5x _ _ (by omega)).trans ((f4x _ _ (by omega)).trans ((f3x _ _ (by omega)).trans ((f2x _ _ (by omega)).trans (f1x _ _ (by omega)))))))))⟩
/-- a world's cells stand, whatever they hold -/
def WSh (sh : List (Nat × Nat)) (R : Nat → Nat → Option Nat) (w : Nat) (p : Nat → Nat) : Prop := WorldAt sh R w ∧ MomAt sh R (w + 12) ∧ (∀ i, i < 20 → p i < 20 ∧ R (w + 1) i = some (w + 21 + 9 * p i)) ∧ (∀ i j, i < 20 → j < 20 → p i = p j → i = j) ∧ ∀ i, i < 20 → MomAt sh R (w + 21 + 9 * i)
theorem WRel.wsh {P : Nat → Int32} {a : Nat} (h : WRel sh I R w s v P a) : ∃ p, WSh sh R w p := by
  obtain ⟨h1x, h2x, -, -, -, -, -, p, a1x, a2x, a3x, -⟩ := h
  exact ⟨p, h1x, h2x, a1x, a2x, a3x⟩
theorem cs_worldCopy {q a : Nat} {P : Nat → Int32} {p : Nat → Nat} (hA : WSh sh R w p) (hO : WRel sh I R q s v P a) (hw : Wf v) (hpw : ∀ i, i < a → Wf (pvw P v i)) (hd : w + 200 < q ∨ q + 200 < w) : Ec X 2 133 [.ref w, .ref q] (sh, I, L, R) (fun r h' => r = none ∧ ∃ J R', h' = (sh, J, L, R') ∧ WRel sh J R' w s v P a ∧ (∀ i k, i < w ∨ w + 200 < i → J i k = I i k) ∧ ∀ x k, (x < w + 12 ∨ w + 200 < x ∨ k ≠ 0) → R' x k = R x k) := by
  obtain ⟨wA, wM, p1x, p2x, p3x⟩ := hA
  obtain ⟨qA, qM, qs, qV, qW, q2x, qa, pq, u1x, u2x, u3x, u4x⟩ := hO
  have hb := hw.1.2
  refine Ec.of (Nat.le_of_ble_eq_true rfl) ?_
  refine e_aload rfl rfl ?_
  refine e_getR rfl wA.1 wA.2.1 ?_
  refine e_aload rfl rfl ?_
  refine e_getR rfl qA.1 qA.2.1 ?_
  refine Eg.c2 rfl (by decide) (by decide) rfl (Nat.le_of_ble_eq_true rfl) (xrcv_of rfl wM.1 rfl) ((cs_copyFrom (m := w + 12) (o := q + 12) wM qM qs (by omega)).mono (by decide)) (fun r1x h1x hq => ?_)
  obtain ⟨rfl, J, rfl, hC⟩ := hq
  have i2x : J q 2 = nI a := (hC.2.2.2 q 2 (by omega)).trans q2x
  refine e_aload rfl rfl ?_
  refine e_aload rfl rfl ?_
  refine e_getIv rfl qA.1 i2x ?_
  refine e_putIJ rfl wA.1 (fun J1x g1x f1x => ?_)
  refine e_ipush rfl ?_
  refine e_istore rfl ?_
  have m0x : MomV J1x (w + 12) v := (qV.cp hC (by omega) (by omega)).fr (fun i k h1x h2x => f1x i k (by omega))
  refine Eg.pk [0, 1, 2] [2, 0, 1] rfl (by decide) ?_
  refine up_ind (p := fun j => ∀ (J : Nat → Nat → Int32) (R' : Nat → Nat → Option Nat), MomV J (w + 12) v → R' (w + 12) 0 = some s → J w 2 = nI a → (∀ i, i < j → R' (w + 21 + 9 * p i) 0 = some s ∧ MomV J (w + 21 + 9 * p i) (pvw P v i)) → (∀ i k, i < w ∨ w + 200 < i → J i k = I i k) → (∀ x k, (x < w + 12 ∨ w + 200 < x ∨ k ≠ 0) → R' x k = R x k) → Eg X xTc 1 133 21 [(0, .ref w), (1, .ref q), (2, .int (nI j))] [] (sh, J, L, R') (fun r h' => r = none ∧ ∃ J R', h' = (sh, J, L, R') ∧ WRel sh J R' w s v P a ∧ (∀ i k, i < w ∨ w + 200 < i → J i k = I i k) ∧ ∀ x k, (x < w + 12 ∨ w + 200 < x ∨ k ≠ 0) → R' x k = R x k)) (n := a) (j := 0) (fun j hj ih => ?_) ?_ (Nat.zero_le _) J1x (xu R (w + 12) 0 (some s)) m0x xu_at g1x (fun i hi => absurd hi (by omega)) (fun i k hi => (f1x i k (by omega)).trans (hC.2.2.2 i k (by omega))) (fun x k hx => xu_o (by omega))
  · intro J R' a1x a2x a3x a4x a5x a6x
    have xA : WorldAt sh R' w := wA.frR (fun k => a6x w k (by omega)) (fun k => a6x (w + 7) k (by omega))
    have rO : ∀ x k, q ≤ x → x ≤ q + 200 → R' x k = R x k := fun x k h1x h2x => a6x x k (by omega)
    have xO : WorldAt sh R' q := qA.frR (fun k => rO q k (by omega) (by omega)) (fun k => rO (q + 7) k (by omega) (by omega))
    obtain ⟨pj, rj⟩ := p1x j (by omega)
    obtain ⟨uj, vj⟩ := u1x j (by omega)
    obtain ⟨y1x, y2x⟩ := u4x j hj
    replace rj : R' (w + 1) j = some (w + 21 + 9 * p j) := (a6x _ _ (by omega)).trans rj
    replace vj : R' (q + 1) j = some (q + 21 + 9 * pq j) := (a6x _ _ (by omega)).trans vj
    have md : MomAt sh R' (w + 21 + 9 * p j) := (p3x _ pj).frR (fun k hk => a6x _ _ (by omega))
    have mo : MomAt sh R' (q + 21 + 9 * pq j) := (u3x _ uj).frR (fun k hk => a6x _ _ (by omega))
    replace y1x : R' (q + 21 + 9 * pq j) 0 = some s := (a6x _ _ (by omega)).trans y1x
    replace y2x : MomV J (q + 21 + 9 * pq j) (pvw P v j) := y2x.fr (fun i k h1x h2x => a5x i k (by omega))
    refine e_iload rfl rfl ?_
    refine e_aload rfl rfl ?_
    refine e_getIv rfl xA.1 a3x ?_
    refine e_cge_f rfl (nI_ge hj (by omega)) ?_
    refine e_aload rfl rfl ?_
    refine e_getR rfl xA.1 xA.2.2.1.2 ?_
    refine e_iload rfl rfl ?_
    refine e_aald26 rfl xA.2.2.1.1 (vp_in_nI (by omega) (by decide)) (by rw [nI_clamp (by omega)]; exact rj) ?_
    refine e_aload rfl rfl ?_
    refine e_getR rfl xO.1 xO.2.2.1.2 ?_
    refine e_iload rfl rfl ?_
    refine e_aald26 rfl xO.2.2.1.1 (vp_in_nI (by omega) (by decide)) (by rw [nI_clamp (by omega)]; exact vj) ?_
    refine Eg.c2 rfl (by decide) (by decide) rfl (Nat.le_of_ble_eq_true rfl) (xrcv_of rfl md.1 rfl) ((cs_copyFrom (m := w + 21 + 9 * p j) (o := q + 21 + 9 * pq j) md mo y1x (by omega)).mono (by decide)) (fun r1x h1x hq => ?_)
    obtain ⟨rfl, K, rfl, kC⟩ := hq
    refine e_iinc rfl rfl ?_
    refine e_goto rfl ?_
    refine Eg.pk [0, 1, 2] [2, 0, 1] rfl (by decide) ?_
    rw [nI_1]
    refine ih K (xu R' (w + 21 + 9 * p j) 0 (some s)) (a1x.fr (fun i k h1x h2x => kC.2.2.2 i k (by omega))) ((xu_o (by omega)).trans a2x) ((kC.2.2.2 w 2 (by omega)).trans a3x) (fun i hi => ?_) (fun i k hi => (kC.2.2.2 i k (by omega)).trans (a5x i k hi)) (fun x k hx => (xu_o (by omega)).trans (a6x x k hx))
    by_cases e : i = j
    · subst e
      have hbj := (hpw i hj).1.2
      exact ⟨xu_at, y2x.cp kC (by omega) (by omega)⟩
    · obtain ⟨z1x, z2x⟩ := a4x i (by omega)
      have hne : p i ≠ p j := fun x => e (p2x i j (by omega) (by omega) x)
      exact ⟨(xu_o (by omega)).trans z1x, z2x.fr (fun x k h1x h2x => kC.2.2.2 x k (by omega))⟩
  · intro J R' a1x a2x a3x a4x a5x a6x
    have xA : WorldAt sh R' w := wA.frR (fun k => a6x w k (by omega)) (fun k => a6x (w + 7) k (by omega))
    have xO : WorldAt sh R' q := qA.frR (fun k => a6x q k (by omega)) (fun k => a6x (q + 7) k (by omega))
    refine e_iload rfl rfl ?_
    refine e_aload rfl rfl ?_
    refine e_getIv rfl xA.1 a3x ?_
    refine e_cge_t rfl (Int32.le_refl _) ?_
    refine (cs_wcp50 rfl rfl xA xO hd).imp ?_
    rintro r h' ⟨rfl, K, rfl, kc⟩
    have kf : ∀ i k, i < w ∨ w + 10 < i ∨ (i = w ∧ k = 2) → K i k = J i k := kc.2.2.2.2.2.2
    refine ⟨rfl, K, R', rfl, ⟨xA, wM.frR (fun k hk => a6x _ _ (by omega)), a2x, a1x.fr (fun i k h1x h2x => kf i k (by omega)), ?_, (kf w 2 (by omega)).trans a3x, qa, p, fun i hi => ⟨(p1x i hi).1, (a6x _ _ (by omega)).trans (p1x i hi).2⟩, p2x, fun i hi => (p3x i hi).frR (fun k hk => a6x _ _ (by omega)), fun i hi => ?_⟩, fun i k hi => (kf i k (by omega)).trans (a5x i k hi), a6x⟩
    · exact (qW.fr0 (fun i k h1x h2x h3x => a5x i k (by omega))).cp kc hw
    · obtain ⟨z1x, z2x⟩ := a4x i hi
      have := (p1x i (by omega)).1
      exact ⟨z1x, z2x.fr (fun x k h1x h2x => kf x k (by omega))⟩
end WC
