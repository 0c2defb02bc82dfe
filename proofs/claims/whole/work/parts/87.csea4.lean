/-! sea, the one side: what stands then; the call -/
section CT4x
variable {X : xX} {h : xH} {sh : List (Nat × Nat)} {I : Nat → Nat → Int32} {L : Nat → Nat → Int64} {R : Nat → Nat → Option Nat} {B : Nat → Nat} {n : Nat} {u U v : Nat → Nat → Int32} {s w m : Nat}
theorem finV_1 {k : Nat} : finV U v 1 k = if k < 13 then (if k < 7 then U 1 k else 0) else v 1 k := by
  unfold finV cpyV; simp
theorem finV_14 {k : Nat} (hk : k < 4) : finV U v 14 k = U 15 k := by unfold finV cpyV; simp [hk]
theorem finV_17 {k : Nat} (hk : k < 4) : finV U v 17 k = 0 := by unfold finV cpyV; simp [hk]
theorem finV_18 {k : Nat} (hk : k < 4) : finV U v 18 k = -1 := by unfold finV cpyV; simp [hk]
theorem finV_20 {f k : Nat} (hf : 19 ≤ f) : finV U v f k = v f k := by
  unfold finV cpyV
  rw [if_neg (by omega), if_neg (by omega), if_neg (by omega), if_neg (by omega), if_neg (by omega), if_neg (by omega), if_neg (by omega), if_neg (by omega), if_neg (by omega), if_neg (by omega), if_neg (by omega), if_neg (by omega), if_neg (by omega), if_neg (by omega), if_neg (by omega), if_neg (by omega), if_neg (by omega), if_neg (by omega)]
theorem finV_2f {k : Nat} (hk : k < 12) : finV U v 2 k = U 2 k := by unfold finV cpyV; simp [hk]
theorem finV_3f {k : Nat} (hk : k < 3) : finV U v 3 k = U 3 k := by unfold finV cpyV; simp [hk]
theorem finV_4f {k : Nat} (hk : k < 3) : finV U v 4 k = U 4 k := by unfold finV cpyV; simp [hk]
theorem finV_5f {k : Nat} (hk : k < 3) : finV U v 5 k = U 5 k := by unfold finV cpyV; simp [hk]
theorem finV_6f {k : Nat} (hk : k < 60) : finV U v 6 k = U 6 k := by unfold finV cpyV; simp [hk]
theorem finV_7f {k : Nat} (hk : k < 4) : finV U v 7 k = U 7 k := by unfold finV cpyV; simp [hk]
theorem finV_8f {k : Nat} (hk : k < 4) : finV U v 8 k = U 8 k := by unfold finV cpyV; simp [hk]
theorem finV_9f {k : Nat} (hk : k < 4) : finV U v 9 k = U 9 k := by unfold finV cpyV; simp [hk]
theorem finV_10f {k : Nat} (hk : k < 4) : finV U v 10 k = U 10 k := by unfold finV cpyV; simp [hk]
theorem finV_11f {k : Nat} (hk : k < 4) : finV U v 11 k = U 11 k := by unfold finV cpyV; simp [hk]
theorem finV_12f {k : Nat} (hk : k < 4) : finV U v 12 k = U 12 k := by unfold finV cpyV; simp [hk]
theorem finV_13f {k : Nat} (hk : k < 4) : finV U v 13 k = U 13 k := by unfold finV cpyV; simp [hk]
theorem finV_15f {k : Nat} (hk : k < 4) : finV U v 15 k = U 15 k := by unfold finV cpyV; simp [hk]
theorem finV_16f {k : Nat} (hk : k < 4) : finV U v 16 k = U 16 k := by unfold finV cpyV; simp [hk]
theorem finV_c {j : Nat} (hj : j < 7) : cn (finV U v) j = cn U j := by unfold cn; rw [finV_1, if_pos (by omega), if_pos hj]
theorem finV_c0 {j : Nat} (h1x : 7 ≤ j) (h2x : j < 13) : cn (finV U v) j = 0 := by unfold cn; rw [finV_1, if_pos h2x, if_neg (by omega)]; rfl
theorem finV_per {t : Nat} (ht : t < 3) : per (finV U v) t = per U t := by unfold per; rw [finV_5f ht]
theorem finV_rnd (h3x : cn U 1 ≤ 3) : rndN (finV U v) = rndN U := by
  unfold rndN; rw [finV_c (by decide)]; exact itN_ext (fun t z ht => by rw [finV_per (by omega)])
theorem finV_gr {t : Nat} (ht : t < 3) (hp : per U t ≤ 20) : grF (finV U v) t = grF U t := by
  unfold grF; rw [finV_per ht]; exact itN_ext (fun k z hk => by rw [finV_6f (by omega)])
theorem finV_wf (hw : WfU U) : Wf (finV U v) := by
  obtain ⟨⟨n1x, n2x⟩, wT, wG, wP, wK⟩ := hw
  have c := fun j (hj : j < 7) => finV_c (U := U) (v := v) hj
  refine ⟨⟨fun j hj => ?_, ?_⟩, fun t ht => ?_, fun k hk => ?_, ⟨fun k hk => ?_, fun k hk => ?_⟩, fun k hk => ?_⟩
  · by_cases e : j < 7
    · rw [c j e, finV_1, if_pos (by omega), if_pos e]; exact n1x j e
    · rw [finV_c0 (by omega) hj, finV_1, if_pos hj, if_neg e]; rfl
  · rw [c 0 (by decide), c 1 (by decide), c 2 (by decide), c 3 (by decide), c 4 (by decide), c 5 (by decide), c 6 (by decide), finV_c0 (j := 7) (by decide) (by decide), finV_c0 (j := 8) (by decide) (by decide), finV_c0 (j := 9) (by decide) (by decide), finV_c0 (j := 10) (by decide) (by decide), finV_c0 (j := 11) (by decide) (by decide), finV_c0 (j := 12) (by decide) (by decide)]; omega
  · rw [c 1 (by decide)] at ht
    obtain ⟨p, lg, sf, a1x, a2x, a3x, a4x, a5x, a6x, a7x, a8x⟩ := wT t ht
    rw [finV_5f (by omega), finV_3f (by omega), finV_4f (by omega)]
    exact ⟨p, lg, sf, a1x, a2x, a3x, a4x, a5x, a6x, a7x, fun k hk => by rw [finV_6f (by omega)]; exact a8x k hk⟩
  · rw [finV_2f hk]; exact wG k hk
  · rw [c 2 (by decide)] at hk
    rw [c 0 (by decide), finV_7f (by omega), finV_8f (by omega), finV_9f (by omega)]; exact wP.1 k hk
  · rw [c 3 (by decide)] at hk
    rw [c 0 (by decide), finV_10f (by omega), finV_11f (by omega), finV_12f (by omega)]; exact wP.2 k hk
  · rw [c 4 (by decide)] at hk
    rw [c 0 (by decide), finV_13f (by omega), finV_14 (by omega), finV_15f (by omega), finV_16f (by omega)]
    obtain ⟨a, b, d, e1x, e2x, e3x, e4x, e5x, e6x, e7x⟩ := wK k hk
    exact ⟨a, b, b, d, e1x, e2x, e3x, Nat.le_refl _, e3x, e4x, e5x, e6x, e7x⟩
theorem finV_wl : WfL (finV U v) := by
  refine ⟨fun k hk => ?_, fun k hk => ?_, fun k hk => ?_⟩
  · rw [finV_c0 (by decide) (by decide)] at hk; omega
  · rw [finV_c0 (by decide) (by decide)] at hk; omega
  · rw [finV_c0 (by decide) (by decide)] at hk; omega
theorem SeaS.fin (h : SeaS I s U) (hw : WfU U) : SeaV I s (finV U v) ∧ SeaW I s (finV U v) := by
  have hb := hw.1.2
  obtain ⟨⟨a1x, a2x, a3x, a4x, a5x, a6x, a7x, a8x⟩, ⟨w1x, w2x⟩, k1x⟩ := h
  have c := fun j (hj : j < 7) => finV_c (U := U) (v := v) hj
  refine ⟨⟨fun j hj => ?_, ?_, ?_, fun d hd => ?_, fun t ht => ?_, fun k hk => ?_, fun k hk => ?_, fun k hk => ?_⟩, ?_, fun t ht => ?_⟩
  · rw [c j (by omega)]; exact a1x j hj
  · rw [c 5 (by decide)]; exact a2x
  · rw [c 6 (by decide)]; exact a3x
  · rw [finV_2f hd]; exact a4x d hd
  · rw [c 1 (by decide)] at ht
    obtain ⟨b1x, b2x, b3x, b4x⟩ := a5x t ht
    rw [finV_3f (by omega), finV_4f (by omega), finV_5f (by omega)]
    refine ⟨b1x, b2x, b3x, fun k q1x q2x => ?_⟩
    rw [finV_6f (by omega)]; exact b4x k q1x q2x
  · rw [c 2 (by decide)] at hk
    rw [finV_7f (by omega), finV_8f (by omega), finV_9f (by omega)]; exact a6x k hk
  · rw [c 3 (by decide)] at hk
    rw [finV_10f (by omega), finV_11f (by omega), finV_12f (by omega)]; exact a7x k hk
  · rw [c 4 (by decide)] at hk
    rw [finV_15f (by omega), finV_16f (by omega)]; exact a8x k hk
  · rw [finV_rnd (by omega)]; exact w1x
  · rw [c 1 (by decide)] at ht
    rw [finV_gr (by omega) (hw.pers ht).2.2]; exact w2x t ht
theorem cs_read (hT : TpAt sh R) (hB : TpB I B n) (h6x : sh[6]? = some (8, 3)) (r60x : R 6 0 = some 1) (hS : SeaAt sh R s) (h9x : 9 ≤ s) (hu : U0x u) : Ec X 9 98 [.ref 6, .ref s] (sh, I, L, R) (fun r h' => r = some (.int (sRd B n 41 0 (skp B n 0) u false).1) ∧ ∃ J : Nat → Nat → Int32, h' = (sh, J, L, xu R 6 1 (some s)) ∧ TpB J B n ∧ ((sRd B n 41 0 (skp B n 0) u false).1 = 0 → SeaS J s (sRd B n 41 0 (skp B n 0) u false).2 ∧ WfU (sRd B n 41 0 (skp B n 0) u false).2 ∧ 2 ≤ cn (sRd B n 41 0 (skp B n 0) u false).2 0) ∧ (∀ i k, i ≠ 3 → i ≠ 4 → i ≠ 5 → (i ≠ 1 ∨ (k ≠ 2 ∧ k ≠ 6 ∧ k ≠ 7)) → (i < s ∨ s + 12 < i) → (i ≠ 6 ∨ k ≠ 2) → J i k = I i k)) := by
  refine Ec.of (Nat.le_of_ble_eq_true rfl) ?_
  refine e_aload rfl rfl ?_
  refine e_aload rfl rfl ?_
  refine e_putR rfl h6x ?_
  have hT1x : TpAt sh (xu R 6 1 (some s)) := by
    obtain ⟨t1x, t2x, t3x, t4x, t5x, t6x, t7x, t8x, t9x⟩ := hT
    exact ⟨t1x, t2x, t3x, t4x, t5x, (xu_o (by decide)).trans t6x, (xu_o (by decide)).trans t7x, (xu_o (by decide)).trans t8x, (xu_o (by decide)).trans t9x⟩
  have hA : SRAt sh (xu R 6 1 (some s)) s := ⟨h6x, (xu_o (by decide)).trans r60x, xu_at, h9x⟩
  have hS1x : SeaAt sh (xu R 6 1 (some s)) s := hS.frR (fun k _ => xu_o (by omega))
  refine e_aload rfl rfl ?_
  refine e_getR rfl hA.1 hA.2.2.1 ?_
  refine Eg.c1 rfl (by decide) (by decide) rfl (Nat.le_of_ble_eq_true rfl) (xrcv_of rfl hS1x.1 rfl) ((cs_clear hS1x hu).mono (by decide)) (fun r1x h1x hq => ?_)
  obtain ⟨rfl, J, rfl, a1x, a2x⟩ := hq
  refine e_aload rfl rfl ?_
  refine e_ipush rfl ?_
  refine e_putZJ rfl hA.1 (by decide) (fun J11x g11x f11x => ?_)
  refine e_aload rfl rfl ?_
  refine e_getR rfl hA.1 hA.2.1 ?_
  refine Eg.c1 rfl (by decide) (by decide) rfl (Nat.le_of_ble_eq_true rfl) (xrcv_of rfl hT1x.1 rfl) ((cs_cut hT1x (hB.fr ((f11x 1 1 (by omega)).trans (a2x 1 1 (by omega))) (fun k => (f11x 2 k (by omega)).trans (a2x 2 k (by omega))))).mono (by decide)) (fun r1x h1x hq => ?_)
  obtain ⟨rfl, K, E, rfl, b1x, b2x, b3x, b4x⟩ := hq
  refine e_ipush rfl ?_
  refine e_istore rfl ?_
  refine e_ipush rfl ?_
  refine e_istore rfl ?_
  refine Eg.pk [0, 2, 3] [3, 2, 0, 1] rfl (by decide) ?_
  have tb : TpB K B n := (hB.fr ((f11x 1 1 (by omega)).trans (a2x 1 1 (by omega))) (fun k => (f11x 2 k (by omega)).trans (a2x 2 k (by omega)))).fr (b4x 1 1 (by decide) (by decide) (by decide) (by decide)) (fun k => b4x 2 k (by decide) (by decide) (by decide) (Or.inl (by decide)))
  have rd : Rd K B n E (skp B n 0) 0 := ⟨tb, b1x, b3x, 0, Nat.zero_le _, b2x, rfl⟩
  have vs : SeaS K s u := a1x.fr (fun i k q1x q2x => (b4x i k (by omega) (by omega) (by omega) (by omega)).trans (f11x i k (by omega)))
  have k6x : K 6 2 = bI false := (b4x 6 2 (by decide) (by decide) (by decide) (by decide)).trans g11x
  refine (cs_readLoop hT1x hA hS1x 41 0 (skp B n 0) u false K (by omega) rd vs hu.wf k6x (fun e => absurd rfl e) (fun _ => hu.c (by decide))).imp ?_
  rintro r h' ⟨rfl, G, rfl, c1x, c2x, c3x⟩
  exact ⟨rfl, G, rfl, c1x, fun e => ⟨(c2x e).1, (c2x e).2.1, (c2x e).2.2 (by omega)⟩, fun i k q1x q2x q3x q4x q5x q6x => (c3x i k (by omega) q5x q6x).trans ((b4x i k q1x q2x q3x q4x).trans ((f11x i k (by omega)).trans (a2x i k q5x)))⟩
theorem cs_momStart (hM : MomAt sh R m) (hS : SeaAt sh R s) (hV : SeaS I s U) (hw : WfU U) (hd : s + 12 < m ∨ m + 8 < s) : Ec X 2 38 [.ref m, .ref s] (sh, I, L, R) (fun r h' => r = none ∧ ∃ J : Nat → Nat → Int32, h' = (sh, J, L, xu R m 0 (some s)) ∧ MomV J m (finV U v) ∧ ∀ i k, i < m ∨ m + 8 < i → J i k = I i k) := by
  have hb := hw.1.2
  refine Ec.of (Nat.le_of_ble_eq_true rfl) ?_
  refine e_aload rfl rfl ?_
  refine e_aload rfl rfl ?_
  refine e_putR rfl hM.1 ?_
  have hM1x : MomAt sh (xu R m 0 (some s)) m := hM.put
  have hS1x : SeaAt sh (xu R m 0 (some s)) s := hS.put
  have hms : (xu R m 0 (some s)) m 0 = some s := xu_at
  refine e_aload rfl rfl ?_
  refine e_ipush rfl ?_
  refine e_putIJ rfl hM1x.1 (fun J1x g1x f1x => ?_)
  refine e_aload rfl rfl ?_
  refine e_ipush rfl ?_
  refine e_putIJ rfl hM1x.1 (fun J2x g2x f2x => ?_)
  refine e_aload rfl rfl ?_
  refine e_ipush rfl ?_
  refine e_putIJ rfl hM1x.1 (fun J3x g3x f3x => ?_)
  refine e_aload rfl rfl ?_
  refine e_getR rfl hM1x.1 hms ?_
  refine e_getR rfl hS1x.1 (hS1x.2 9 _ rfl).2 ?_
  refine e_ipush rfl ?_
  refine e_aload rfl rfl ?_
  refine e_getR rfl hM1x.1 (hM1x.2 0 _ rfl).2 ?_
  refine e_ipush rfl ?_
  refine e_ipush rfl ?_
  refine e_copyJ (r := 4) rfl (hS1x.2 9 _ rfl).1 (hM1x.2 0 _ rfl).1 rfl (by decide) (by decide) (by decide) (Nat.le_of_ble_eq_true rfl) (fun J4x g4x f4x => ?_)
  refine e_aload rfl rfl ?_
  refine e_getR rfl hM1x.1 hms ?_
  refine e_getR rfl hS1x.1 (hS1x.2 10 _ rfl).2 ?_
  refine e_ipush rfl ?_
  refine e_aload rfl rfl ?_
  refine e_getR rfl hM1x.1 (hM1x.2 1 _ rfl).2 ?_
  refine e_ipush rfl ?_
  refine e_ipush rfl ?_
  refine e_copyJ (r := 4) rfl (hS1x.2 10 _ rfl).1 (hM1x.2 1 _ rfl).1 rfl (by decide) (by decide) (by decide) (Nat.le_of_ble_eq_true rfl) (fun J5x g5x f5x => ?_)
  refine e_aload rfl rfl ?_
  refine e_getR rfl hM1x.1 (hM1x.2 2 _ rfl).2 ?_
  refine e_ipush rfl ?_
  refine Eg.c2 rfl (by decide) (by decide) rfl (Nat.le_of_ble_eq_true rfl) (xrcv_ofs (Or.inl rfl)) ((cs_fill (a := m + 3) (n := 4) (x := 0) (hM1x.2 2 _ rfl).1 (by decide)).mono (by decide)) (fun r1x h1x hq => ?_)
  obtain ⟨rfl, G, rfl, G1x, G2x⟩ := hq
  refine e_aload rfl rfl ?_
  refine e_getR rfl hM1x.1 (hM1x.2 3 _ rfl).2 ?_
  refine e_ipush rfl ?_
  refine Eg.c2 rfl (by decide) (by decide) rfl (Nat.le_of_ble_eq_true rfl) (xrcv_ofs (Or.inl rfl)) ((cs_fill (a := m + 4) (n := 4) (x := (-1)) (hM1x.2 3 _ rfl).1 (by decide)).mono (by decide)) (fun r1x h1x hq => ?_)
  obtain ⟨rfl, Z, rfl, Z1x, Z2x⟩ := hq
  have c4x : cn (finV U v) 4 = cn U 4 := finV_c (by decide)
  refine Eg.ret rfl (by decide) rfl ⟨rfl, Z, rfl, ⟨?_, ?_, fun k hk => ?_, ?_, fun k hk => ?_⟩, fun i k hi => ?_⟩
  · rw [finV_c0 (by decide) (by decide)]; exact (Z2x _ _ (by omega)).trans ((G2x _ _ (by omega)).trans ((f5x _ _ (by omega)).trans ((f4x _ _ (by omega)).trans ((f3x _ _ (by omega)).trans ((f2x _ _ (by omega)).trans g1x)))))
  · rw [finV_c0 (by decide) (by decide)]; exact (Z2x _ _ (by omega)).trans ((G2x _ _ (by omega)).trans ((f5x _ _ (by omega)).trans ((f4x _ _ (by omega)).trans ((f3x _ _ (by omega)).trans g2x))))
  · rw [c4x] at hk
    rw [finV_13f (by omega), finV_14 (by omega), finV_17 (by omega), finV_18 (by omega)]
    refine ⟨?_, ?_, ?_, Z1x k (by omega)⟩
    · exact (Z2x _ _ (by omega)).trans ((G2x _ _ (by omega)).trans ((f5x _ _ (by omega)).trans ((g4x k (by omega)).trans (((f3x _ _ (by omega)).trans ((f2x _ _ (by omega)).trans (f1x _ _ (by omega)))).trans (hV.2.2 k hk)))))
    · exact (Z2x _ _ (by omega)).trans ((G2x _ _ (by omega)).trans ((g5x k (by omega)).trans (((f4x _ _ (by omega)).trans ((f3x _ _ (by omega)).trans ((f2x _ _ (by omega)).trans (f1x _ _ (by omega))))).trans (hV.1.2.2.2.2.2.2.2 k hk).1)))
    · exact (Z2x _ _ (by omega)).trans (G1x k (by omega))
  · rw [finV_c0 (by decide) (by decide)]; exact (Z2x _ _ (by omega)).trans ((G2x _ _ (by omega)).trans ((f5x _ _ (by omega)).trans ((f4x _ _ (by omega)).trans g3x)))
  · rw [finV_c0 (by decide) (by decide)] at hk; omega
  · exact (Z2x _ _ (by omega)).trans ((G2x _ _ (by omega)).trans ((f5x _ _ (by omega)).trans ((f4x _ _ (by omega)).trans ((f3x _ _ (by omega)).trans ((f2x _ _ (by omega)).trans (f1x _ _ (by omega)))))))
theorem cs_worldStart {p : Nat → Nat} {P : Nat → Int32} (hA : WSh sh R w p) (hS : SeaAt sh R s) (hV : SeaS I s U) (hw : WfU U) (hd : s + 12 < w ∨ w + 200 < s) (hx : I w 11 = v 1 13) : Ec X 3 132 [.ref w, .ref s] (sh, I, L, R) (fun r h' => r = none ∧ ∃ J : Nat → Nat → Int32, h' = (sh, J, L, xu R (w + 12) 0 (some s)) ∧ WRel sh J (xu R (w + 12) 0 (some s)) w s (finV U v) P 0 ∧ ∀ i k, i < w ∨ w + 200 < i → J i k = I i k) := by
  obtain ⟨wA, wM, p1x, p2x, p3x⟩ := hA
  have wA1x : WorldAt sh (xu R (w + 12) 0 (some s)) w := wA.frR (fun k => xu_o (by omega)) (fun k => xu_o (by omega))
  refine Ec.of (Nat.le_of_ble_eq_true rfl) ?_
  refine e_aload rfl rfl ?_
  refine e_getR rfl wA.1 wA.2.1 ?_
  refine e_aload rfl rfl ?_
  refine Eg.c2 rfl (by decide) (by decide) rfl (Nat.le_of_ble_eq_true rfl) (xrcv_of rfl wM.1 rfl) ((cs_momStart (m := w + 12) (v := v) wM hS hV hw (by omega)).mono (by decide)) (fun r1x h1x hq => ?_)
  obtain ⟨rfl, J, rfl, a1x, a2x⟩ := hq
  refine e_aload rfl rfl ?_
  refine e_ipush rfl ?_
  refine e_putIJ rfl wA1x.1 (fun J11x g11x f11x => ?_)
  refine e_aload rfl rfl ?_
  refine e_ipush rfl ?_
  refine e_putIJ rfl wA1x.1 (fun J12x g12x f12x => ?_)
  refine e_aload rfl rfl ?_
  refine e_ipush rfl ?_
  refine e_putIJ rfl wA1x.1 (fun J13x g13x f13x => ?_)
  refine e_aload rfl rfl ?_
  refine e_getR rfl wA1x.1 wA1x.2.2.2.2.2.2.2.2.1.2 ?_
  refine e_ipush rfl ?_
  refine e_putIJ rfl wA1x.2.2.2.2.2.2.2.2.1.1 (fun J14x g14x f14x => ?_)
  refine Eg.ret rfl (by decide) rfl ⟨rfl, J14x, rfl, ⟨wA1x, wM.put, xu_at, a1x.fr (fun i k q1x q2x => ((f14x i k (by omega)).trans ((f13x i k (by omega)).trans ((f12x i k (by omega)).trans (f11x i k (by omega)))))), ⟨?_, fun k hk => ?_, ?_, fun k hk => ?_, ?_, fun k hk => ?_, ?_⟩, ((f14x _ _ (by omega)).trans ((f13x _ _ (by omega)).trans ((f12x _ _ (by omega)).trans g11x))), by decide, p, fun i hi => ⟨(p1x i hi).1, (xu_o (by omega)).trans (p1x i hi).2⟩, p2x, fun i hi => (p3x i hi).put, fun i hi => absurd hi (by omega)⟩, fun i k hi => ((f14x i k (by omega)).trans ((f13x i k (by omega)).trans ((f12x i k (by omega)).trans (f11x i k (by omega))))).trans (a2x i k (by omega))⟩
  · rw [finV_c0 (by decide) (by decide)]; exact ((f14x _ _ (by omega)).trans ((f13x _ _ (by omega)).trans g12x))
  · rw [finV_c0 (by decide) (by decide)] at hk; omega
  · rw [finV_c0 (by decide) (by decide)]; exact ((f14x _ _ (by omega)).trans g13x)
  · rw [finV_c0 (by decide) (by decide)] at hk; omega
  · rw [finV_c0 (by decide) (by decide)]; exact g14x
  · rw [finV_c0 (by decide) (by decide)] at hk; omega
  · rw [finV_1, if_neg (by decide)]; exact ((f14x w 11 (by omega)).trans ((f13x w 11 (by omega)).trans ((f12x w 11 (by omega)).trans (f11x w 11 (by omega))))).trans ((a2x w 11 (by omega)).trans hx)
end CT4x
