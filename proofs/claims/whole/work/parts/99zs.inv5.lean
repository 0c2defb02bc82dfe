/-! the calls keep it: the tape, rules, seas -/
section IV5x
variable {X : xX} {sh sh' : List (Nat × Nat)} {I J K : Nat → Nat → Int32} {L : Nat → Nat → Int64} {R R' : Nat → Nat → Option Nat} {v V : Nat → Nat → Int32} {P Q : Nat → Int32} {a b s y n m rc i : Nat} {B C : Nat → Nat} {cds : Nat → List (Nat × Nat)} {cls : Nat → List (Nat × Nat × Nat)} {im : Nat → Im} {x1x x2x x3x x4x x5x : Int32}
theorem i8_all (w : Int8) : ∃ k, k < 256 ∧ w = Int8.ofNat k := ⟨w.toBitVec.toNat, w.toBitVec.isLt, Int8.toBitVec_inj.mp (by show w.toBitVec = BitVec.ofNat 8 w.toBitVec.toNat; simp)⟩
theorem tb_ok (x t : Int32) (ht : t = 24 ∨ t = 16 ∨ t = 8 ∨ t = 0) : tp_byte x t = nI (tp_byte x t).toNatClampNeg ∧ (tp_byte x t).toNatClampNeg < 256 ∧ md_byte x t = (Int8.ofNat (tp_byte x t).toNatClampNeg).toInt32 := by
  have h := by_rel x t ht
  obtain ⟨k, hk, e⟩ := i8_all (x >>> (t &&& 31)).toInt8.toInt32.toInt8
  have hm : md_byte x t = (Int8.ofNat k).toInt32 := congrArg Int8.toInt32 e
  rw [hm, (by_all k hk).1] at h
  rw [h, nI_clamp (by omega)]
  exact ⟨rfl, hk, hm⟩
theorem CI.tp (h : CI sh I R v P a s y B n rc cds cls im) (hG : Rg sh.length s y im) (hT : TpB J C m) (e : ∀ i k, i ≠ 1 → i ≠ 2 → J i k = I i k) : CI sh J R v P a s y C m rc cds cls im := by
  obtain ⟨h1x, h2x, h3x, h4x, h5x, h6x, h7x⟩ := h
  exact ⟨h1x, h2x, hT, ⟨(e _ _ (by omega) (by omega)).trans h4x.1, fun r hr => (h4x.2 r hr).fr (fun i k q1x q2x => e i k (by omega) (by omega))⟩, h5x.fr (fun i k q1x q2x => e i k (by omega) (by omega)) (fun _ _ _ _ => rfl), h6x.fr hG sh_same (fun i k _ q => e i k (by omega) (by omega)) (fun _ _ _ _ => rfl), h7x⟩
theorem MI.tp (h : MI sh I R v P a B n rc cds cls im) (hB : MB J C m) (e : ∀ i k, (i ≠ 290 ∨ k ≠ 47) → i ≠ 337 → J i k = I i k) : MI sh J R v P a C m rc cds cls im := by
  obtain ⟨h1x, h2x, h3x, h4x, h5x, h6x, h7x, h8x, h9x⟩ := h
  exact ⟨h1x, h2x.fz (fun i k q1x q2x => e i k (by omega) (by omega)), fun x => (e _ _ (by omega) (by omega)).trans (h3x x), (e _ _ (by omega) (by omega)).trans h4x, fun k hk => (e _ _ (by omega) (by omega)).trans (h5x k hk), hB, (e _ _ (by omega) (by omega)).trans h7x, ⟨(e _ _ (by omega) (by omega)).trans h8x.1, fun r hr => ⟨(h8x.2 r hr).1.fr (fun i k q => e i k (by omega) (by omega)), (e _ _ (by omega) (by omega)).trans (h8x.2 r hr).2⟩⟩, fun t ht => (h9x t ht).fr (fun k => e _ _ (by omega) (by omega)) (fun k _ => e _ _ (by omega) (by omega)) ht⟩
theorem BT.t1 (h : BT i sh I R v P a s y B n rc cds cls im) : sh[1]? = some (9, 8) := h.2.1.1.2.2.1.1
theorem BT.m58 (h : BT i sh I R v P a s y B n rc cds cls im) : sh[337]? = some (23, 400) ∧ R 290 58 = some 337 := h.mw.2 46 _ rfl
theorem ok_0 (h : BT i sh I R v P a s y B n rc cds cls im) : callOK X 139 191 [.int x1x, .int x2x, .int x3x, .int x4x, .int x5x] (INV (i + 6)) (sh, I, L, R) := by
  obtain ⟨t0x, t1x, t2x⟩ := h.2.1.2.2.1
  obtain ⟨m0x, m1x, m2x⟩ := h.2.2.1.2.2.2.2.2.1
  obtain ⟨u1x, u2x, u3x, u4x, u5x, u6x, u7x⟩ := h.2.1.1.2.2.1
  refine callOK.of (cf_feed (o := 0) (t := 1) (b := 2) h.2.1.1.1 h.2.1.1.2.1.1 u1x u2x u6x t0x t1x) (by decide) ?_
  intro r h' q
  by_cases c : n ≤ 380
  · rw [if_pos c] at q
    obtain ⟨rfl, J, rfl, f1x, f2x, f3x⟩ := q
    have eJ : ∀ i k, i ≠ 1 → i ≠ 2 → J i k = I i k := fun i k q1x q2x => f3x i k q2x (Or.inl q1x)
    obtain ⟨C, hC⟩ : ∃ C : Nat → Nat, ∀ j, C j = if n ≤ j ∧ j < n + 20 then (tp_byte (tp_arg x1x x2x x3x x4x x5x ((j - n) / 4)) (tp_sh ((j - n) % 4))).toNatClampNeg else B j := ⟨_, fun _ => rfl⟩
    have hT : TpB J C (n + 20) := by
      refine ⟨by omega, f1x, fun j hj => ?_⟩
      rw [f2x j, hC j]
      by_cases z : n ≤ j ∧ j < n + 20
      · rw [if_pos z, if_pos z]
        have := tb_ok (tp_arg x1x x2x x3x x4x x5x ((j - n) / 4)) (tp_sh ((j - n) % 4)) (tp_sh_or _)
        exact ⟨this.1, this.2.1⟩
      · rw [if_neg z, if_neg z]; exact t2x j (by omega)
    have c1x := h.2.1.tp h.2.2.2.2 hT eJ
    have c2x : MI sh J R v P a B n rc cds cls im := h.2.2.1.fr sh_same (fun i k q1x q2x => eJ i k (by omega) (by omega)) (fun _ => rfl)
    refine ⟨_, _, _, by decide, rfl, h.mw.1, md_feed (t := 290) (b := 337) h.mw.1 h.m58.1 h.m58.2 m0x c2x.2.2.2.2.2.1.2.1, ?_⟩
    intro r2x h2x q2x
    rw [if_pos c] at q2x
    obtain ⟨rfl, K, rfl, k1x, k2x, k3x⟩ := q2x
    have hB : MB K C (n + 20) := by
      refine ⟨by omega, k1x, fun j hj => ?_⟩
      rw [k2x j, hC j]
      by_cases z : n ≤ j ∧ j < n + 20
      · rw [if_pos z, if_pos z]
        have := tb_ok (tp_arg x1x x2x x3x x4x x5x ((j - n) / 4)) (tp_sh ((j - n) % 4)) (tp_sh_or _)
        exact ⟨this.2.1, this.2.2⟩
      · rw [if_neg z, if_neg z]; exact c2x.2.2.2.2.2.1.2.2 j (by omega)
    have eK : ∀ i k, (i ≠ 290 ∨ k ≠ 47) → i ≠ 337 → K i k = J i k := fun i k q1x q2x => k3x i k q2x q1x
    refine ⟨rfl, ?_⟩
    have : BT i sh K R v P a s y C (n + 20) rc cds cls im := ⟨h.1, c1x.frM h.2.2.2.2 (fun i k q => eK i k (by omega) (by omega)) h.2.2.2.1.2.2.1, c2x.tp hB eK, h.2.2.2⟩
    exact this.in6
  · rw [if_neg c] at q
    obtain ⟨rfl, rfl⟩ := q
    refine ⟨_, _, _, by decide, rfl, h.mw.1, md_feed (t := 290) (b := 337) h.mw.1 h.m58.1 h.m58.2 m0x m1x, ?_⟩
    intro r2x h2x q2x
    rw [if_neg c] at q2x
    exact ⟨q2x.1, by rw [q2x.2]; exact h.in6⟩
theorem ok_1 (h : BT i sh I R v P a s y B n rc cds cls im) : callOK X 140 193 [.int x1x] (INV (i + 6)) (sh, I, L, R) := by
  obtain ⟨t0x, t1x, t2x⟩ := h.2.1.2.2.1
  obtain ⟨m0x, m1x, m2x⟩ := h.2.2.1.2.2.2.2.2.1
  refine callOK.of (cf_end (o := 0) (t := 1) h.2.1.1.1 h.2.1.1.2.1.1 h.t1 t0x t1x) (by decide) ?_
  intro r h' q
  by_cases c : x1x < 0 ∨ nI n < x1x
  · rw [if_pos c] at q
    obtain ⟨rfl, rfl⟩ := q
    refine ⟨_, _, _, by decide, rfl, h.mw.1, md_end (t := 290) h.mw.1 m0x m1x, ?_⟩
    intro r2x h2x q2x
    rw [if_pos c] at q2x
    exact ⟨q2x.1, by rw [q2x.2]; exact h.in6⟩
  · rw [if_neg c] at q
    obtain ⟨rfl, rfl⟩ := q
    obtain ⟨t, lt, rfl⟩ := nI_of (x := x1x) (fun q => c (Or.inl q))
    have tn : t ≤ n := Decidable.byContradiction (fun q => c (Or.inr ((nI_lti (by omega) lt).mpr (by omega))))
    have eJ : ∀ i k, i ≠ 1 → i ≠ 2 → xu I 1 1 (nI t) i k = I i k := fun i k q1x q2x => xu_o (Or.inl q1x)
    have c1x := h.2.1.tp (C := B) (m := t) h.2.2.2.2 ⟨by omega, xu_at, fun j hj => by rw [xu_o (by omega)]; exact t2x j (by omega)⟩ eJ
    have c2x : MI sh (xu I 1 1 (nI t)) R v P a B n rc cds cls im := h.2.2.1.fr sh_same (fun i k q1x q2x => eJ i k (by omega) (by omega)) (fun _ => rfl)
    refine ⟨_, _, _, by decide, rfl, h.mw.1, md_end (t := 290) h.mw.1 m0x c2x.2.2.2.2.2.1.2.1, ?_⟩
    intro r2x h2x q2x
    rw [if_neg c] at q2x
    obtain ⟨rfl, rfl⟩ := q2x
    have eK : ∀ i k, (i ≠ 290 ∨ k ≠ 47) → i ≠ 337 → xu (xu I 1 1 (nI t)) 290 47 (nI t) i k = xu I 1 1 (nI t) i k := fun i k q1x _ => xu_o q1x
    refine ⟨rfl, ?_⟩
    have : BT i sh (xu (xu I 1 1 (nI t)) 290 47 (nI t)) R v P a s y B t rc cds cls im := ⟨h.1, c1x.frM h.2.2.2.2 (fun i k q => eK i k (by omega) (by omega)) h.2.2.2.1.2.2.1, c2x.tp ⟨by omega, xu_at, fun j hj => ⟨(c2x.2.2.2.2.2.1.2.2 j (by omega)).1, (xu_o (by omega)).trans (c2x.2.2.2.2.2.1.2.2 j (by omega)).2⟩⟩ eK, h.2.2.2⟩
    exact this.in6
theorem MuV.fi {r : Nat} {cd : List (Nat × Nat)} {cl : List (Nat × Nat × Nat)} (h : MuV I r cd cl) (ok : ruOK cd cl) (e1x : ∀ i k, i = 338 ∨ i = 339 → k < 300 * r + 300 → J i k = I i k) (e2x : ∀ i k, i = 341 ∨ i = 342 ∨ i = 343 ∨ i = 345 → k < 12 * r + 12 → J i k = I i k) : MuV J r cd cl := by
  have l1x := ok.1
  have l2x := ok.2.2.2.1
  refine ⟨fun k e q => ?_, fun j c q => ?_⟩
  · have hk : k < cd.length := (List.getElem?_eq_some_iff.mp q).1
    rw [e1x 338 _ (by omega) (by omega), e1x 339 _ (by omega) (by omega)]; exact h.1 k e q
  · have hk : j < cl.length := (List.getElem?_eq_some_iff.mp q).1
    rw [e2x 341 _ (by omega) (by omega), e2x 342 _ (by omega) (by omega), e2x 343 _ (by omega) (by omega), e2x 345 _ (by omega) (by omega)]; exact h.2 j c q
theorem ok_3 (h : BT i sh I R v P a s y B n rc cds cls im) : callOK X 142 226 [] (INV (i + 6)) (sh, I, L, R) := by
  have hT := h.2.1.2.2.1
  have hrc := h.2.2.2.1.2.2.1
  have hok := h.2.2.2.1.2.2.2.1
  have rr := rRule_ok (B := B) (n := n) hT.1
  refine callOK.of (cf_rule (ru := 260 + 5 * rc) h.2.1.1.1 h.2.1.1.2.1.1 h.2.1.1.2.1.2.2.1 h.2.1.1.2.1.2.2.2.1 h.2.1.1.2.2.2.2.2.1.1 h.2.1.1.2.2.1 hT h.2.1.1.2.2.2.2.1.1 h.2.1.1.2.2.2.2.1.2 h.2.1.2.2.2.1.1 hrc (fun q => ⟨(h.2.1.1.2.2.2.2.2.1.2 rc q).1, (h.2.1.1.2.2.2.2.2.1.2 rc q).2, by omega⟩)) (by decide) ?_
  rintro r h' (⟨r6x, rfl, rfl⟩ | ⟨r6x, J, rfl, j1x, j2x, j3x⟩)
  · refine ⟨_, _, _, by decide, rfl, h.mw.1, md_rule h.mw h.2.2.1.2.2.2.2.2.1 h.2.2.1.2.2.2.2.2.2.2.1.1 h.2.2.1.2.2.2.2.2.2.1 hrc, ?_⟩
    rintro r2x h2x (⟨_, rfl, rfl⟩ | ⟨q, _⟩)
    · exact ⟨rfl, h.in6⟩
    · omega
  · have eJ : ∀ i k, 6 ≤ i → (i ≠ 7 ∨ k ≠ 2) → (i < 260 + 5 * rc ∨ 260 + 5 * rc + 4 < i) → J i k = I i k := fun i k q1x q2x q3x => j2x i k (by omega) (by omega) (by omega) (by omega) q3x q2x (by omega)
    have eR : ∀ i k, (i ≠ 7 ∨ k ≠ 1) → xu R 7 1 (some (260 + 5 * rc)) i k = R i k := fun i k q => xu_o q
    obtain ⟨h0x, ⟨h1x, ⟨qa, qb, qc, qd, h2x⟩, h3x, h4x, h5x, h6x, h7x⟩, hM, hP, hG⟩ := h
    have z1x : KS sh (xu R 7 1 (some (260 + 5 * rc))) := h1x.fr sh_same (fun i k _ _ _ q _ _ => eR i k q)
    have z2x : ∃ qa qb qc qd, PA sh (xu R 7 1 (some (260 + 5 * rc))) qa qb qc qd := ⟨qa, qb, qc, qd, h2x.mv sh_same (fun k => eR _ _ (by omega))⟩
    have z3x : TpB J B 0 := ⟨by omega, j1x, fun j hj => absurd hj (by omega)⟩
    have z4x : ∀ r, r < rc → RuV J (260 + 5 * r) (cds r) (cls r) := fun r hr => (h4x.2 r hr).fr (fun i k q1x q2x => eJ i k (by omega) (by omega) (by omega))
    have z5x : WRel sh J (xu R 7 1 (some (260 + 5 * rc))) 35 s v P a := h5x.fr (fun i k q1x q2x => eJ i k (by omega) (by omega) (by omega)) (fun i k q1x q2x => eR i k (by omega))
    have z6x : XI sh J (xu R 7 1 (some (260 + 5 * rc))) s v y im := h6x.fr hG sh_same (fun i k _ q => eJ i k (by omega) (by omega) (by omega)) (fun i k _ q => eR i k (by omega))
    have z7x : xu R 7 1 (some (260 + 5 * rc)) 0 6 = some y := (eR _ _ (by omega)).trans h7x
    have zM : MI sh J (xu R 7 1 (some (260 + 5 * rc))) v P a B n rc cds cls im := hM.fr sh_same (fun i k q1x q2x => eJ i k (by omega) (by omega) (by omega)) (fun k => eR _ _ (by omega))
    have k348x : ∀ {K : Nat → Nat → Int32}, (∀ i k, (i ≠ 290 ∨ (k ≠ 47 ∧ k ≠ 48 ∧ k ≠ 49 ∧ k ≠ 50 ∧ k ≠ 51 ∧ k ≠ 52 ∧ k ≠ 53 ∧ k ≠ 54 ∧ k ≠ 55)) → ((i ≠ 338 ∧ i ≠ 339) ∨ k < 300 * rc ∨ 300 * rc + 300 ≤ k) → i ≠ 344 → ((i ≠ 341 ∧ i ≠ 342 ∧ i ≠ 343 ∧ i ≠ 345) ∨ k < 12 * rc ∨ 12 * rc + 12 ≤ k) → (i ≠ 340 ∨ k ≠ rc) → K i k = J i k) → (∀ i k, i < 290 ∨ 360 ≤ i → K i k = J i k) ∧ mV K v ∧ (∀ x, K 348 x = P x) ∧ K 290 71 = nI a ∧ (∀ k, k < 4 → K 309 k = 0) ∧ K 290 56 = 11 ∧ (∀ r, r < rc → MuV K r (cds r) (cls r) ∧ K 340 r = nI (cls r).length) ∧ ∀ t, t < 4 → ImM K t (im t) := by
      intro K f
      obtain ⟨w1x, w2x, w3x, w4x, w5x, w6x, w7x, w8x, w9x⟩ := zM
      exact ⟨fun i k q => f i k (by omega) (by omega) (by omega) (by omega) (by omega), w2x.fz (fun i k q1x q2x => f i k (by omega) (by omega) (by omega) (by omega) (by omega)), fun x => (f _ _ (by omega) (by omega) (by omega) (by omega) (by omega)).trans (w3x x), (f _ _ (by omega) (by omega) (by omega) (by omega) (by omega)).trans w4x, fun k hk => (f _ _ (by omega) (by omega) (by omega) (by omega) (by omega)).trans (w5x k hk), (f _ _ (by omega) (by omega) (by omega) (by omega) (by omega)).trans w7x, fun r hr => ⟨(w8x.2 r hr).1.fi (hok r hr) (fun i k q1x q2x => f i k (by omega) (by omega) (by omega) (by omega) (by omega)) (fun i k q1x q2x => f i k (by omega) (by omega) (by omega) (by omega) (by omega)), (f _ _ (by omega) (by omega) (by omega) (by omega) (by omega)).trans (w8x.2 r hr).2⟩, fun t ht => (w9x t ht).fr (fun k => f _ _ (by omega) (by omega) (by omega) (by omega) (by omega)) (fun k _ => f _ _ (by omega) (by omega) (by omega) (by omega) (by omega)) ht⟩
    rcases j3x with ⟨f0x, rfl, j4x⟩ | ⟨f0x, rfl, j4x, j5x⟩
    · refine ⟨_, _, _, by decide, rfl, zM.1.1, md_rule zM.1 zM.2.2.2.2.2.1 zM.2.2.2.2.2.2.2.1.1 zM.2.2.2.2.2.2.1 hrc, ?_⟩
      rintro r2x h2' (⟨q, _⟩ | ⟨_, K, rfl, k1x, k2x, k3x⟩)
      · omega
      · rcases k3x with ⟨_, rfl, k4x⟩ | ⟨q, _⟩
        · obtain ⟨y0x, y1x, y2x, y3x, y4x, y5x, y6x, y7x⟩ := k348x k2x
          have hC : CI sh J (xu R 7 1 (some (260 + 5 * rc))) v P a s y B 0 rc cds cls im := ⟨z1x, z2x, z3x, ⟨j4x, z4x⟩, z5x, z6x, z7x⟩
          have : BT i sh K (xu R 7 1 (some (260 + 5 * rc))) v P a s y B 0 rc cds cls im := ⟨h0x, hC.frM hG y0x hrc, ⟨zM.1, y1x, y2x, y3x, y4x, ⟨by omega, k1x, fun j hj => absurd hj (by omega)⟩, y5x, ⟨k4x, y6x⟩, y7x⟩, hP, hG⟩
          exact ⟨rfl, this.in6⟩
        · exact absurd q f0x
    · refine ⟨_, _, _, by decide, rfl, zM.1.1, md_rule zM.1 zM.2.2.2.2.2.1 zM.2.2.2.2.2.2.2.1.1 zM.2.2.2.2.2.2.1 hrc, ?_⟩
      rintro r2x h2' (⟨q, _⟩ | ⟨_, K, rfl, k1x, k2x, k3x⟩)
      · omega
      · rcases k3x with ⟨q, _⟩ | ⟨_, rfl, k4x, k5x, k6x⟩
        · exact absurd f0x q
        · obtain ⟨y0x, y1x, y2x, y3x, y4x, y5x, y6x, y7x⟩ := k348x k2x
          have ob := rr.2 f0x
          generalize (rRule B n).2.1.2.2 = cd at j5x k6x ob
          generalize (rRule B n).2.2 = cl at j5x k5x k6x ob
          obtain ⟨cds2, ec⟩ : ∃ c : Nat → List (Nat × Nat), ∀ r, c r = if r = rc then cd else cds r := ⟨_, fun _ => rfl⟩
          obtain ⟨cls2, el⟩ : ∃ c : Nat → List (Nat × Nat × Nat), ∀ r, c r = if r = rc then cl else cls r := ⟨_, fun _ => rfl⟩
          have hC : CI sh J (xu R 7 1 (some (260 + 5 * rc))) v P a s y B 0 (rc + 1) cds2 cls2 im := ⟨z1x, z2x, z3x, ⟨j4x, fun r hr => by
            rw [ec, el]
            by_cases e : r = rc
            · rw [if_pos e, if_pos e, e]; exact j5x
            · rw [if_neg e, if_neg e]; exact z4x r (by omega)⟩, z5x, z6x, z7x⟩
          have hM2x : MI sh K (xu R 7 1 (some (260 + 5 * rc))) v P a B 0 (rc + 1) cds2 cls2 im := ⟨zM.1, y1x, y2x, y3x, y4x, ⟨by omega, k1x, fun j hj => absurd hj (by omega)⟩, y5x, ⟨k4x, fun r hr => by
            rw [ec, el]
            by_cases e : r = rc
            · rw [if_pos e, if_pos e, e]; exact ⟨k6x, k5x⟩
            · rw [if_neg e, if_neg e]; exact y6x r (by omega)⟩, y7x⟩
          have hP2x : PI v P a (rc + 1) cds2 cls2 im := ⟨hP.1, hP.2.1, by omega, fun r hr => by
            rw [ec, el]
            by_cases e : r = rc
            · rw [if_pos e, if_pos e]; exact ob
            · rw [if_neg e, if_neg e]; exact hok r (by omega), hP.2.2.2.2⟩
          have : BT i sh K (xu R 7 1 (some (260 + 5 * rc))) v P a s y B 0 (rc + 1) cds2 cls2 im := ⟨h0x, hC.frM hG y0x (by omega), hM2x, hP2x, hG⟩
          exact ⟨rfl, this.in6⟩
end IV5x
