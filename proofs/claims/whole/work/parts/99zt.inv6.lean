/-! the calls keep it: seas, images -/
section IV6x
variable {X : xX} {sh sh' : List (Nat × Nat)} {I J K : Nat → Nat → Int32} {L : Nat → Nat → Int64} {R R' : Nat → Nat → Option Nat} {v V U : Nat → Nat → Int32} {P Q : Nat → Int32} {a b s y n m rc i : Nat} {B C : Nat → Nat} {cds : Nat → List (Nat × Nat)} {cls : Nat → List (Nat × Nat × Nat)} {im : Nat → Im} {x1x x2x x3x x4x x5x : Int32}
theorem cpyV_o {W : Nat → Nat → Int32} {f m g k : Nat} {x : Nat → Int32} (h : g ≠ f ∨ m ≤ k) : cpyV W f m x g k = W g k := if_neg (by omega)
theorem finV_z (hz : vz v) : vz (finV U v) := by
  intro f i hf hi
  have t : ∀ f, f < 32 → (f = 1 → 13 ≤ fln f) ∧ (f = 2 → 12 ≤ fln f) ∧ (3 ≤ f ∧ f ≤ 5 → 3 ≤ fln f) ∧ (f = 6 → 60 ≤ fln f) ∧ (7 ≤ f ∧ f ≤ 18 → 4 ≤ fln f) := by decide
  have tf := t f hf.2.1
  have e : finV U v f i = v f i := by
    unfold finV
    rw [cpyV_o (by omega), cpyV_o (by omega), cpyV_o (by omega), cpyV_o (by omega), cpyV_o (by omega), cpyV_o (by omega), cpyV_o (by omega), cpyV_o (by omega), cpyV_o (by omega), cpyV_o (by omega), cpyV_o (by omega), cpyV_o (by omega), cpyV_o (by omega), cpyV_o (by omega), cpyV_o (by omega), cpyV_o (by omega), cpyV_o (by omega), cpyV_o (by omega)]
  rw [e]; exact hz f i hf hi
theorem GV.sea (g : GV v P a) (hU : WfU U) : GV (finV U v) P 0 := by
  obtain ⟨g1x, g2x, g3x, g4x, g5x, g6x, g7x⟩ := g
  refine ⟨finV_wf hU, finV_wl, by rw [finV_c0 (by decide) (by decide)]; omega, finV_z g4x, g5x, ?_, fun i hi => absurd hi (Nat.not_lt_zero _)⟩
  rw [show finV U v 1 13 = v 1 13 from by rw [finV_1, if_neg (by decide)]]; exact g6x
theorem ok_2 (h : BT i sh I R v P a s y B n rc cds cls im) : callOK X 141 224 [] (INV (i + 6)) (sh, I, L, R) := by
  obtain ⟨p, hA⟩ := h.wr.wsh
  have hT := h.2.1.2.2.1
  have hx : I 35 11 = v 1 13 := h.wv.2.2.2.2.2.2
  have hG := h.2.2.2.2
  obtain ⟨r0x, ⟨r1x, r2x⟩, ⟨r3x, r4x⟩, r5x, r6x⟩ := id hG
  have cs := fun (u : Nat → Nat → Int32) (hu : U0x u) => cf_sea (X := X) (L := L) (P := P) (s := y) h.2.1.1.1 h.2.1.1.2.1.1 h.2.1.1.2.1.2.1 h.2.1.2.2.2.2.2.2 h.2.1.1.2.1.2.2.2.2.2.1 h.2.1.1.2.2.1 hT h.2.1.1.2.2.2.1.1 h.2.1.1.2.2.2.1.2 h.2.1.2.2.2.2.2.1.2.1 (by omega) hA (by decide) (by omega) r4x (by omega) hx hu (eF := rfl) (eU := rfl)
  refine callOK.of (Ec.det (cs (u0F I) u0F_U0) (fun r h' _ => cs (u0F h'.2.1) u0F_U0)) (by decide) ?_
  rintro r h' ⟨_, q⟩
  obtain ⟨h0x, ⟨h1x, ⟨qa, qb, qc, qd, h2x⟩, h3x, h4x, h5x, h6x, h7x⟩, hM, hP, _⟩ := h
  rcases q with ⟨f0x, rfl, J, rfl, j1x, j2x⟩ | ⟨f0x, rfl, J, L', R', rfl, j1x, j2x, j3x, j4x, j5x, j6x, j7x, j8x, j9x, j10x⟩
  · have eJ : ∀ i k, 7 ≤ i → (i < y ∨ y + 12 < i) → J i k = I i k := fun i k q1x q2x => j2x i k (by omega) (by omega) (by omega) (by omega) q2x (by omega)
    have eR : ∀ i k, (i ≠ 6 ∨ k ≠ 1) → xu R 6 1 (some y) i k = R i k := fun i k q => xu_o q
    have z6x : XI sh J (xu R 6 1 (some y)) s v y im := by
      refine ⟨h6x.1.mv sh_same (fun i k q1x q2x => eJ i k (by omega) (by omega)) (fun k => eR _ _ (by omega)), h6x.2.1.mv sh_same (fun k _ => eR _ _ (by omega)), fun t ht => (h6x.2.2 t ht).fr sh_same (eR _ _ (by omega)) (fun p e i k q => ?_) (fun p e i k q => ?_)⟩
      · obtain ⟨b1x, ⟨b2x, b3x⟩, b4x, b5x, b6x, _⟩ := r6x t p ht e; exact eJ i k (by omega) (by omega)
      · obtain ⟨b1x, ⟨b2x, b3x⟩, _⟩ := r6x t p ht e; exact eR i k (by omega)
    have hC : CI sh J (xu R 6 1 (some y)) v P a s y B 0 rc cds cls im := ⟨h1x.fr sh_same (fun i k _ _ q _ _ _ => eR i k q), ⟨qa, qb, qc, qd, h2x.mv sh_same (fun k => eR _ _ (by omega))⟩, ⟨by omega, j1x, fun j hj => absurd hj (by omega)⟩, ⟨(j2x 0 4 (by omega) (by omega) (by omega) (by omega) (by omega) (by omega)).trans h4x.1, fun r hr => (h4x.2 r hr).fr (fun i k q1x q2x => eJ i k (by omega) (by have := hP.2.2.1; omega))⟩, h5x.fr (fun i k q1x q2x => eJ i k (by omega) (by omega)) (fun i k q1x q2x => eR i k (by omega)), z6x, (eR _ _ (by omega)).trans h7x⟩
    have hM2x : MI sh J (xu R 6 1 (some y)) v P a B n rc cds cls im := hM.fr sh_same (fun i k q1x q2x => eJ i k (by omega) (by omega)) (fun k => eR _ _ (by omega))
    refine ⟨_, _, _, by decide, rfl, hM2x.1.1, md_sea hM2x.1 hM2x.2.2.2.2.2.1 hM2x.2.1 (eF := rfl) (eU := rfl) (fun q => absurd q f0x), ?_⟩
    rintro r2x h2' (⟨_, rfl, K, rfl, k1x, k2x⟩ | ⟨q, _⟩)
    · obtain ⟨w1x, w2x, w3x, w4x, w5x, w6x, w7x, w8x, w9x⟩ := hM2x
      have eK : ∀ i k, (i ≠ 290 ∨ (k ≠ 47 ∧ k ≠ 48 ∧ k ≠ 49 ∧ k ≠ 52 ∧ k ≠ 53 ∧ k ≠ 54 ∧ k ≠ 57)) → (i < 322 ∨ 336 < i) → K i k = J i k := k2x
      have : BT i sh K (xu R 6 1 (some y)) v P a s y B 0 rc cds cls im := ⟨h0x, hC.frM hG (fun i k q => eK i k (by omega) (by omega)) hP.2.2.1, ⟨w1x, w2x.fz (fun i k q1x q2x => eK i k (by omega) (by omega)), fun x => (eK _ _ (by omega) (by omega)).trans (w3x x), (eK _ _ (by omega) (by omega)).trans w4x, fun k hk => (eK _ _ (by omega) (by omega)).trans (w5x k hk), ⟨by omega, k1x, fun j hj => absurd hj (by omega)⟩, (eK _ _ (by omega) (by omega)).trans w7x, ⟨(eK _ _ (by omega) (by omega)).trans w8x.1, fun r hr => ⟨(w8x.2 r hr).1.fr (fun i k q => eK i k (by omega) (by omega)), (eK _ _ (by omega) (by omega)).trans (w8x.2 r hr).2⟩⟩, fun t ht => (w9x t ht).fr (fun k => eK _ _ (by omega) (by omega)) (fun k _ => eK _ _ (by omega) (by omega)) ht⟩, hP, hG⟩
      exact ⟨rfl, this.in6⟩
    · exact absurd q f0x
  · have hs : ∃ e, sh ++ ssh = sh ++ e := ⟨ssh, rfl⟩
    have eJ : ∀ i k, i < sh.length → 7 ≤ i → (i < y ∨ y + 12 < i) → (i < 35 ∨ 235 < i) → J i k = I i k := fun i k q0x q1x q2x q3x => j9x i k q0x (by omega) (by omega) (by omega) (by omega) q2x (by omega) (by omega)
    have eR : ∀ i k, i < sh.length → (i ≠ 6 ∨ k ≠ 1) → (i ≠ 0 ∨ k ≠ 6) → (i ≠ 47 ∨ k ≠ 0) → R' i k = R i k := fun i k q0x q1x q2x q3x => j10x i k q0x q1x q2x (by omega)
    have ln : (sh ++ ssh).length = sh.length + 13 := by rw [List.length_append, ssh_len.1]
    have hG2x : Rg (sh ++ ssh).length y sh.length im := by
      rw [ln]
      refine ⟨by omega, ⟨by omega, by omega⟩, ⟨by omega, by omega⟩, by omega, fun t p ht e => ?_⟩
      obtain ⟨b1x, ⟨b2x, b3x⟩, b4x, b5x, b6x, b7x⟩ := r6x t p ht e
      exact ⟨by omega, ⟨b2x, by omega⟩, by omega, b6x, by omega, b7x⟩
    have z6x : XI (sh ++ ssh) J R' y (finV (sRd B n 41 0 (skp B n 0) (u0F J) false).2 v) sh.length im := by
      refine ⟨j2x, j3x, fun t ht => (h6x.2.2 t ht).fr hs (eR _ _ (by omega) (by omega) (by omega) (by omega)) (fun p e i k q => ?_) (fun p e i k q => ?_)⟩
      · obtain ⟨b1x, ⟨b2x, b3x⟩, b4x, b5x, b6x, _⟩ := r6x t p ht e; exact eJ i k (by omega) (by omega) (by omega) (by omega)
      · obtain ⟨b1x, ⟨b2x, b3x⟩, _⟩ := r6x t p ht e; exact eR i k (by omega) (by omega) (by omega) (by omega)
    have hC : CI (sh ++ ssh) J R' (finV (sRd B n 41 0 (skp B n 0) (u0F J) false).2 v) P 0 y sh.length B 0 rc cds cls im := ⟨h1x.fr hs (fun i k q0x q1x q2x _ _ _ => eR i k (by omega) q2x q1x (by omega)), ⟨qa, qb, qc, qd, h2x.mv hs (fun k => eR _ _ (by omega) (by omega) (by omega) (by omega))⟩, ⟨by omega, j7x, fun j hj => absurd hj (by omega)⟩, ⟨(j9x 0 4 (by omega) (by omega) (by omega) (by omega) (by omega) (by omega) (by omega) (by omega)).trans h4x.1, fun r hr => (h4x.2 r hr).fr (fun i k q1x q2x => eJ i k (by have := hP.2.2.1; omega) (by omega) (by have := hP.2.2.1; omega) (by omega))⟩, j1x, z6x, j4x⟩
    have hM2x : MI (sh ++ ssh) J R' v P a B n rc cds cls im := hM.fr hs (fun i k q1x q2x => eJ i k (by omega) (by omega) (by omega) (by omega)) (fun k => eR _ _ (by omega) (by omega) (by omega) (by omega))
    refine ⟨_, _, _, by decide, rfl, hM2x.1.1, md_sea hM2x.1 hM2x.2.2.2.2.2.1 hM2x.2.1 (eF := rfl) (eU := rfl) (fun _ => j5x.1.1 0 (by decide)), ?_⟩
    rintro r2x h2' (⟨q, _⟩ | ⟨_, rfl, K, rfl, k0x, k1x, k3x, k2x⟩)
    · exact absurd f0x q
    · obtain ⟨w1x, w2x, w3x, w4x, w5x, w6x, w7x, w8x, w9x⟩ := hM2x
      have eK : ∀ i k, (i ≠ 290 ∨ (k ≠ 47 ∧ k ≠ 48 ∧ k ≠ 49 ∧ k ≠ 52 ∧ k ≠ 53 ∧ k ≠ 54 ∧ k ≠ 57 ∧ k ≠ 71)) → (i < 291 ∨ 336 < i ∨ i = 309) → K i k = J i k := k2x
      have : BT (i + 6) (sh ++ ssh) K R' (finV (sRd B n 41 0 (skp B n 0) (u0F J) false).2 v) P 0 y sh.length B 0 rc cds cls im := ⟨by rw [ln, xsum_app, ssh_len.2]; omega, hC.frM hG2x (fun i k q => eK i k (by omega) (by omega)) hP.2.2.1, ⟨w1x, k0x, fun x => (eK _ _ (by omega) (by omega)).trans (w3x x), k1x, fun k hk => (eK _ _ (by omega) (by omega)).trans (w5x k hk), ⟨by omega, k3x, fun j hj => absurd hj (by omega)⟩, (eK _ _ (by omega) (by omega)).trans w7x, ⟨(eK _ _ (by omega) (by omega)).trans w8x.1, fun r hr => ⟨(w8x.2 r hr).1.fr (fun i k q => eK i k (by omega) (by omega)), (eK _ _ (by omega) (by omega)).trans (w8x.2 r hr).2⟩⟩, fun t ht => (w9x t ht).fr (fun k => eK _ _ (by omega) (by omega)) (fun k _ => eK _ _ (by omega) (by omega)) ht⟩, hP.new (hP.1.sea j5x) (by omega), hG2x⟩
      exact ⟨rfl, this.inv⟩
theorem BT.a20 (h : BT i sh I R v P a s y B n rc cds cls im) : ∀ t p, t < 4 → im t = some p → ImC sh I R t (some p) ∧ ImM I t (some p) ∧ GV p.2.2.1 p.2.2.2.1 p.2.2.2.2 := fun t p ht e => ⟨by rw [← e]; exact h.2.1.2.2.2.2.2.1.2.2 t ht, by rw [← e]; exact h.2.2.1.2.2.2.2.2.2.2.2 t ht, by have := h.2.2.2.1.2.2.2.2 t ht; rw [e] at this; exact this⟩
theorem ok_34 (h : BT i sh I R v P a s y B n rc cds cls im) : callOK X 173 311 [.int x1x] (INV (i + 6)) (sh, I, L, R) := by
  obtain ⟨p, hA⟩ := h.wr.wsh
  have hG := h.2.2.2.2
  obtain ⟨r0x, ⟨r1x, r2x⟩, ⟨r3x, r4x⟩, r5x, r6x⟩ := id hG
  obtain ⟨g, eg⟩ : ∃ g : Nat → Nat × Nat × (Nat → Nat → Int32) × (Nat → Int32) × Nat, ∀ t q, im t = some q → g t = q := ⟨fun t => (im t).getD (0, 0, fun _ _ => 0, fun _ => 0, 0), fun t q e => by show (im t).getD _ = q; rw [e]; rfl⟩
  have hc := cf_back (X := X) (L := L) (a := fun t => (g t).2.2.2.2) (P := fun t => (g t).2.2.2.1) (wt := fun t => (g t).1) (st := fun t => (g t).2.1) (V := fun t => (g t).2.2.1) (x := x1x) h.2.1.1.1 h.2.1.1.2.1.2.2.2.2.2.1 h.2.1.1.2.1.2.2.2.2.2.2.1 h.2.1.1.2.2.2.2.2.2.1 (by decide) (by decide) hA (fun t ht => by
    cases e : im t with
    | none => left; have := h.2.1.2.2.2.2.2.1.2.2 t ht; rw [e] at this; exact this
    | some q =>
      right
      obtain ⟨z1x, z2x, z3x⟩ := h.a20 t q ht e
      obtain ⟨b1x, _⟩ := r6x t q ht e
      rw [eg t q e]
      exact ⟨z1x.1, by omega, z3x.1, fun i hi => (z3x.2.2.2.2.2.2 i hi).1, z1x.2.1⟩)
  have hmm : ∀ {J : Nat → Nat → Int32}, (∀ i k, 290 ≤ i → i < 360 → J i k = I i k) → ∀ t, t < 4 → J 359 t = 0 ∨ (J 359 t = 1 ∧ vz (g t).2.2.1 ∧ pz (g t).2.2.2.1 ∧ (g t).2.2.1 1 7 = nI (cn (g t).2.2.1 7) ∧ ImgV (fun x => J 358 (1400 * t + x)) (g t).2.2.1 (g t).2.2.2.1 (g t).2.2.2.2) := by
    intro J eJ t ht
    have im1x : ImM J t (im t) := (h.2.2.1.2.2.2.2.2.2.2.2 t ht).fr (fun k => eJ _ _ (by omega) (by omega)) (fun k _ => eJ _ _ (by omega) (by omega)) ht
    cases e : im t with
    | none => left; rw [e] at im1x; exact im1x
    | some q =>
      right
      obtain ⟨z1x, z2x, z3x⟩ := h.a20 t q ht e
      rw [e] at im1x
      rw [eg t q e]
      exact ⟨im1x.1, z3x.2.2.2.1, z3x.2.2.2.2.1, z3x.1.n (by decide), im1x.2⟩
  refine callOK.of hc (by decide) ?_
  rintro r h' (⟨c, rfl, rfl⟩ | ⟨t, ht, rfl, q⟩)
  · refine ⟨_, _, _, by decide, rfl, h.mw.1, md_back (a := fun t => (g t).2.2.2.2) (P := fun t => (g t).2.2.2.1) (V := fun t => (g t).2.2.1) h.mw h.mv h.2.2.1.2.2.1 h.2.2.2.1.1.2.2.2.1 h.2.2.2.1.1.2.2.2.2.1 (hmm (fun _ _ _ _ => rfl)), ?_⟩
    rintro r2x h2x (⟨_, rfl, rfl⟩ | ⟨t, ht, rfl, _⟩)
    · exact ⟨rfl, h.in6⟩
    · rcases c with c | c
      · exact absurd c (nI_pos (by omega))
      · have := (nI_lti (a := 3) (by decide) (by omega)).mp c; omega
  · rcases q with ⟨n1x, rfl, rfl⟩ | ⟨n1x, rfl, J, R', rfl, hW, eI, eR⟩
    · refine ⟨_, _, _, by decide, rfl, h.mw.1, md_back (a := fun t => (g t).2.2.2.2) (P := fun t => (g t).2.2.2.1) (V := fun t => (g t).2.2.1) h.mw h.mv h.2.2.1.2.2.1 h.2.2.2.1.1.2.2.2.1 h.2.2.2.1.1.2.2.2.2.1 (hmm (fun _ _ _ _ => rfl)), ?_⟩
      rintro r2x h2x (⟨c, _⟩ | ⟨u, hu, eu, z⟩)
      · rcases c with c | c
        · exact absurd c (nI_pos (by omega))
        · have := (nI_lti (a := 3) (by decide) (by omega)).mp c; omega
      · have tu : t = u := (nI_ij (by omega) (by omega)).mp eu
        subst tu
        rcases z with ⟨_, rfl, rfl⟩ | ⟨z, _⟩
        · exact ⟨rfl, h.in6⟩
        · cases e : im t with
          | none => have := h.2.2.1.2.2.2.2.2.2.2.2 t ht; rw [e] at this; rw [show I 359 t = 0 from this] at z; exact absurd z (by decide)
          | some q => rw [(h.a20 t q ht e).1.1] at n1x; exact absurd n1x (by simp)
    · cases e : im t with
      | none => have := h.2.1.2.2.2.2.2.1.2.2 t ht; rw [e] at this; rw [show R 236 t = none from this] at n1x; exact absurd n1x (by simp)
      | some q =>
        obtain ⟨z1x, z2x, z3x⟩ := h.a20 t q ht e
        obtain ⟨b1x, ⟨b2x, b3x⟩, b4x, b5x, b6x, b7x⟩ := r6x t q ht e
        have hgt := eg t q e
        rw [hgt] at hW
        have hG2x : Rg sh.length q.2.1 y im := ⟨r0x, ⟨b2x, b3x⟩, ⟨r3x, r4x⟩, b4x, fun u p hu eu => by
          obtain ⟨c1x, c2x, c3x, c4x, c5x, c6x⟩ := r6x u p hu eu
          exact ⟨c1x, c2x, c3x, (c6x t q ht e).1, c5x, c6x⟩⟩
        have hX : XI sh I R q.2.1 q.2.2.1 y im := ⟨z1x.2.2, h.2.1.2.2.2.2.2.1.2⟩
        obtain ⟨h0x, ⟨h1x, ⟨qa, qb, qc, qd, h2x⟩, h3x, h4x, h5x, h6x, h7x⟩, hM, hP, _⟩ := id h
        have eR2x : ∀ x k, x < 35 ∨ 235 < x → R' x k = R x k := fun x k q => eR x k (by omega)
        have hC : CI sh J R' q.2.2.1 q.2.2.2.1 q.2.2.2.2 q.2.1 y B n rc cds cls im := ⟨h1x.fr sh_same (fun i k q _ _ _ _ _ => eR2x i k (by omega)), ⟨qa, qb, qc, qd, h2x.mv sh_same (fun k => eR2x _ _ (by omega))⟩, h3x.fr (eI _ _ (by omega)) (fun k => eI _ _ (by omega)), ⟨(eI _ _ (by omega)).trans h4x.1, fun r hr => (h4x.2 r hr).fr (fun i k q1x q2x => eI i k (by omega))⟩, hW, hX.fr hG2x sh_same (fun i k _ q => eI i k (by omega)) (fun i k _ q => eR2x i k (by omega)), (eR2x _ _ (by omega)).trans h7x⟩
        have hM2x : MI sh J R' v P a B n rc cds cls im := hM.fr sh_same (fun i k q1x q2x => eI i k (by omega)) (fun k => eR2x _ _ (by omega))
        refine ⟨_, _, _, by decide, rfl, hM2x.1.1, md_back (a := fun t => (g t).2.2.2.2) (P := fun t => (g t).2.2.2.1) (V := fun t => (g t).2.2.1) hM2x.1 hM2x.2.1 hM2x.2.2.1 hP.1.2.2.2.1 hP.1.2.2.2.2.1 (hmm (fun i k q1x q2x => eI i k (by omega))), ?_⟩
        rintro r2x h2' (⟨c, _⟩ | ⟨u, hu, eu, z⟩)
        · rcases c with c | c
          · exact absurd c (nI_pos (by omega))
          · have := (nI_lti (a := 3) (by decide) (by omega)).mp c; omega
        · have tu : t = u := (nI_ij (by omega) (by omega)).mp eu
          subst tu
          rcases z with ⟨z, _⟩ | ⟨_, rfl, K, rfl, k1x, k2x, k3x, k4x⟩
          · rw [show J 359 t = I 359 t from eI _ _ (by omega), z2x.1] at z; exact absurd z (by decide)
          · have k1' : mV K q.2.2.1 := by rw [← hgt]; exact k1x
            have k2' : ∀ x, K 348 x = q.2.2.2.1 x := fun x => (k2x x).trans (congrArg (fun z => z.2.2.2.1 x) hgt)
            have k3' : K 290 71 = nI q.2.2.2.2 := k3x.trans (congrArg (fun z => nI z.2.2.2.2) hgt)
            have eK : ∀ i k, (i < 291 ∨ 321 < i ∨ i = 309) → i ≠ 348 → i ≠ 349 → (i ≠ 290 ∨ (k ≠ 86 ∧ k ≠ 87 ∧ k ≠ 71)) → K i k = J i k := fun i k q1x q2x q3x q4x => k4x i k (fun p hp e => by have := cel_out p hp; omega) q4x
            refine ⟨rfl, (BT.wrm h0x hC hM2x (hP.new z3x (z1x.2.1.2.2.2.2.2.2.1)) hG2x k1' k2' k3' (fun k hk => (eK _ _ (by omega) (by omega) (by omega) (by omega)).trans (hM2x.2.2.2.2.1 k hk)) (fun i k q1x q2x q3x q4x => eK i k (by omega) q2x q3x (by omega)) ⟨eK _ _ (by omega) (by omega) (by omega) (by omega), eK _ _ (by omega) (by omega) (by omega) (by omega), eK _ _ (by omega) (by omega) (by omega) (by omega)⟩).in6⟩
end IV6x
