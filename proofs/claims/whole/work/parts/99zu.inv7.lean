/-! the calls keep it: image -/
section IV7x
variable {X : xX} {sh sh' : List (Nat × Nat)} {I J K : Nat → Nat → Int32} {L : Nat → Nat → Int64} {R R' : Nat → Nat → Option Nat} {v V U : Nat → Nat → Int32} {P Q : Nat → Int32} {a b s y n m rc i : Nat} {B C : Nat → Nat} {cds : Nat → List (Nat × Nat)} {cls : Nat → List (Nat × Nat × Nat)} {im : Nat → Im} {x1x x2x x3x x4x x5x : Int32}
theorem ok_33 (h : BT i sh I R v P a s y B n rc cds cls im) : callOK X 172 310 [.int x1x] (INV (i + 6)) (sh, I, L, R) := by
  have hG := h.2.2.2.2
  obtain ⟨r0x, ⟨r1x, r2x⟩, ⟨r3x, r4x⟩, r5x, r6x⟩ := id hG
  obtain ⟨g, eg⟩ : ∃ g : Nat → Nat, ∀ t q, im t = some q → g t = q.1 := ⟨fun t => ((im t).getD (0, 0, fun _ _ => 0, fun _ => 0, 0)).1, fun t q e => by show ((im t).getD _).1 = q.1; rw [e]; rfl⟩
  have ex : ∀ t, ∃ p : Nat → Nat, t < 4 → R 236 t = none ∨ (R 236 t = some (g t) ∧ 236 < g t ∧ WSh sh R (g t) p) := fun t => by
    cases e : im t with
    | none => exact ⟨fun _ => 0, fun ht => Or.inl (by have := h.2.1.2.2.2.2.2.1.2.2 t ht; rw [e] at this; exact this)⟩
    | some q =>
      by_cases ht : t < 4
      · obtain ⟨z1x, z2x, z3x⟩ := h.a20 t q ht e
        obtain ⟨b1x, _⟩ := r6x t q ht e
        obtain ⟨p, hp⟩ := z1x.2.1.wsh
        exact ⟨p, fun _ => Or.inr (by rw [eg t q e]; exact ⟨z1x.1, by omega, hp⟩)⟩
      · exact ⟨fun _ => 0, fun q => absurd q ht⟩
  obtain ⟨p, him⟩ := Classical.skolem.mp ex
  refine callOK.of (cf_image (X := X) (L := L) (p := p) (wt := g) (x := x1x) h.2.1.1.1 h.2.1.1.2.1.2.2.2.2.2.1 h.2.1.1.2.1.2.2.2.2.1 h.2.1.1.2.1.2.2.2.2.2.2.1 h.2.1.1.2.2.2.2.2.2.1 (by omega) (by decide) h.wr h.wf (fun i hi => (h.2.2.2.1.1.2.2.2.2.2.2 i hi).1) him) (by decide) ?_
  rintro r h' (⟨c, rfl, rfl⟩ | ⟨t, ht, rfl, rfl, wt, sh', J, L', R', rfl, j1x, j2x, j3x, j4x, j5x, j6x⟩)
  · refine ⟨_, _, _, by decide, rfl, h.mw.1, md_image h.mw h.mv h.wf, ?_⟩
    rintro r2x h2x (⟨_, rfl, rfl⟩ | ⟨t, ht, rfl, _⟩)
    · exact ⟨rfl, h.in6⟩
    · rcases c with c | c
      · exact absurd c (nI_pos (by omega))
      · have := (nI_lti (a := 3) (by decide) (by omega)).mp c; omega
  · have hs : ∃ e, sh' = sh ++ e := by rcases j3x with q | q; exact ⟨[], by rw [q.2, List.append_nil]⟩; exact ⟨wsh, q.2.2⟩
    have ln : sh'.length ≤ sh.length + 201 ∧ xsum sh' ≤ xsum sh + 1429 ∧ wt + 200 < sh'.length ∧ sh.length ≤ sh'.length ∧ 360 ≤ wt ∧ (wt + 200 < s ∨ s + 12 < wt) ∧ (wt + 200 < y ∨ y + 12 < wt) ∧ ∀ u q, u < 4 → im u = some q → (wt + 200 < q.2.1 ∨ q.2.1 + 12 < wt) ∧ (u ≠ t → wt + 200 < q.1 ∨ q.1 + 200 < wt) := by
      rcases j3x with ⟨q1x, q2x⟩ | ⟨q1x, q2x, q3x⟩
      · subst q2x
        cases e : im t with
        | none => have := h.2.1.2.2.2.2.2.1.2.2 t ht; rw [e] at this; rw [show R 236 t = none from this] at q1x; exact absurd q1x (by simp)
        | some p =>
          have z1x := (h.a20 t p ht e).1.1
          rw [z1x] at q1x
          have ew : p.1 = wt := Option.some.inj q1x
          obtain ⟨b1x, b2x, b4x, b5x, b6x, b7x⟩ := r6x t p ht e
          rw [ew] at b1x b5x b6x
          refine ⟨by omega, by omega, b1x.2, by omega, b1x.1, b5x, b6x, fun u q hu eu => ?_⟩
          have := b7x u q hu eu
          rw [ew] at this
          exact this
      · rw [q3x, List.length_append, wsh_len.1, xsum_app, wsh_len.2]
        refine ⟨by omega, by omega, by omega, by omega, by omega, by omega, by omega, fun u q hu eu => ?_⟩
        obtain ⟨b1x, ⟨b2x, b3x⟩, _⟩ := r6x u q hu eu
        exact ⟨by omega, fun _ => by omega⟩
    obtain ⟨n1x, n2x, n3x, n4x, n5x, n6x, n7x, n8x⟩ := ln
    have eJ : ∀ i k, i < sh.length → (i < wt ∨ wt + 200 < i) → J i k = I i k := j5x
    have eR : ∀ i k, i < sh.length → (i ≠ 236 ∨ k ≠ t) → (i < wt ∨ wt + 200 < i) → R' i k = R i k := fun i k q0x q1x q2x => j6x i k q0x q1x (by omega)
    obtain ⟨im2x, ei⟩ : ∃ f : Nat → Im, ∀ u, f u = if u = t then some (wt, s, v, P, a) else im u := ⟨_, fun _ => rfl⟩
    have eit : im2x t = some (wt, s, v, P, a) := by rw [ei, if_pos rfl]
    have eiu : ∀ u, u ≠ t → im2x u = im u := fun u q => by rw [ei, if_neg q]
    have hG2x : Rg sh'.length s y im2x := by
      refine ⟨by omega, ⟨r1x, by omega⟩, ⟨r3x, by omega⟩, r5x, fun u q hu eu => ?_⟩
      by_cases c : u = t
      · subst c
        rw [eit] at eu
        have eq : q = (wt, s, v, P, a) := (Option.some.inj eu).symm
        subst eq
        refine ⟨⟨n5x, n3x⟩, ⟨r1x, by show s + 12 < _; omega⟩, r5x, n6x, n7x, fun u2x q2x hu2x eu2x => ?_⟩
        by_cases c2x : u2x = u
        · subst c2x
          rw [eit] at eu2x
          have eq2x : q2x = (wt, s, v, P, a) := (Option.some.inj eu2x).symm
          subst eq2x
          exact ⟨n6x, fun z => absurd rfl z⟩
        · rw [eiu u2x c2x] at eu2x; exact n8x u2x q2x hu2x eu2x
      · rw [eiu u c] at eu
        obtain ⟨b1x, ⟨b2x, b3x⟩, b4x, b5x, b6x, b7x⟩ := r6x u q hu eu
        refine ⟨by omega, ⟨b2x, by omega⟩, b4x, b5x, b6x, fun u2x q2x hu2x eu2x => ?_⟩
        by_cases c2x : u2x = t
        · subst c2x
          rw [eit] at eu2x
          have eq2x : q2x = (wt, s, v, P, a) := (Option.some.inj eu2x).symm
          subst eq2x
          have z := (n8x u q hu eu).2 c
          exact ⟨b5x, fun _ => by show q.1 + 200 < wt ∨ wt + 200 < q.1; omega⟩
        · rw [eiu u2x c2x] at eu2x; exact b7x u2x q2x hu2x eu2x
    obtain ⟨h0x, ⟨h1x, ⟨qa, qb, qc, qd, h2x⟩, h3x, h4x, h5x, h6x, h7x⟩, hM, hP, _⟩ := id h
    have sr : SeaR sh' J R' s v := h6x.1.mv hs (fun i k q1x q2x => eJ i k (by omega) (by omega)) (fun k => eR _ _ (by omega) (by omega) (by omega))
    have z6x : XI sh' J R' s v y im2x := by
      refine ⟨sr, h6x.2.1.mv hs (fun k _ => eR _ _ (by omega) (by omega) (by omega)), fun u hu => ?_⟩
      by_cases c : u = t
      · subst c; rw [eit]; exact ⟨j2x, j1x, sr⟩
      · rw [eiu u c]
        refine (h6x.2.2 u hu).fr hs (eR _ _ (by omega) (Or.inr c) (by omega)) (fun q e i k z => ?_) (fun q e i k z => ?_)
        · obtain ⟨b1x, ⟨b2x, b3x⟩, _⟩ := r6x u q hu e
          have n9x := n8x u q hu e
          have n10x := n9x.2 c
          exact eJ i k (by omega) (by omega)
        · obtain ⟨b1x, ⟨b2x, b3x⟩, _⟩ := r6x u q hu e
          have n9x := n8x u q hu e
          have n10x := n9x.2 c
          exact eR i k (by omega) (by omega) (by omega)
    have hC : CI sh' J R' v P a s y B n rc cds cls im2x := ⟨h1x.fr hs (fun i k q _ _ _ _ _ => eR i k (by omega) (by omega) (by omega)), ⟨qa, qb, qc, qd, h2x.mv hs (fun k => eR _ _ (by omega) (by omega) (by omega))⟩, h3x.fr (eJ _ _ (by omega) (by omega)) (fun k => eJ _ _ (by omega) (by omega)), ⟨(eJ _ _ (by omega) (by omega)).trans h4x.1, fun r hr => (h4x.2 r hr).fr (fun i k q1x q2x => eJ i k (by have := hP.2.2.1; omega) (by have := hP.2.2.1; omega))⟩, h5x.gr hs (fun i q1x q2x => funext (fun k => eJ i k (by omega) (by omega))) (fun i q1x q2x => funext (fun k => eR i k (by omega) (by omega) (by omega))), z6x, (eR _ _ (by omega) (by omega) (by omega)).trans h7x⟩
    have hM2x : MI sh' J R' v P a B n rc cds cls im := hM.fr hs (fun i k q1x q2x => eJ i k (by omega) (by omega)) (fun k => eR _ _ (by omega) (by omega) (by omega))
    refine ⟨_, _, _, by decide, rfl, hM2x.1.1, md_image hM2x.1 hM2x.2.1 hP.1.1, ?_⟩
    rintro r2x h2' (⟨c, _⟩ | ⟨u, hu, eu, rfl, I1x, K, rfl, k1x, k2x, k3x⟩)
    · rcases c with c | c
      · exact absurd c (nI_pos (by omega))
      · have := (nI_lti (a := 3) (by decide) (by omega)).mp c; omega
    · have tu : t = u := (nI_ij (by omega) (by omega)).mp eu
      subst tu
      obtain ⟨w1x, w2x, w3x, w4x, w5x, w6x, w7x, w8x, w9x⟩ := hM2x
      have e1x : ∀ i k, i ≠ 359 → I1x i k = J i k := fun i k q => k2x i k (Or.inl q)
      have iv := k3x.img (v := v) (P := P) (a := a) (w2x.fz (fun i k q1x q2x => e1x i k (by omega))) (fun x => (e1x _ _ (by omega)).trans (w3x x)) ((e1x _ _ (by omega)).trans w4x)
      obtain ⟨c1x, c2x, c3x, c4x⟩ := k3x
      have eK : ∀ i k, i ≠ 358 → i ≠ 349 → i ≠ 359 → (i ≠ 290 ∨ (k ≠ 86 ∧ k ≠ 87)) → K i k = J i k := fun i k q1x q2x q3x q4x => (c4x i k q1x q2x q4x).trans (e1x i k q3x)
      have hM3x : MI sh' K R' v P a B n rc cds cls im2x := ⟨w1x, w2x.fz (fun i k q1x q2x => eK i k (by omega) (by omega) (by omega) (by omega)), fun x => (eK _ _ (by omega) (by omega) (by omega) (by omega)).trans (w3x x), (eK _ _ (by omega) (by omega) (by omega) (by omega)).trans w4x, fun k hk => (eK _ _ (by omega) (by omega) (by omega) (by omega)).trans (w5x k hk), w6x.fr (eK _ _ (by omega) (by omega) (by omega) (by omega)) (fun k => eK _ _ (by omega) (by omega) (by omega) (by omega)), (eK _ _ (by omega) (by omega) (by omega) (by omega)).trans w7x, ⟨(eK _ _ (by omega) (by omega) (by omega) (by omega)).trans w8x.1, fun r hr => ⟨(w8x.2 r hr).1.fr (fun i k q => eK i k (by omega) (by omega) (by omega) (by omega)), (eK _ _ (by omega) (by omega) (by omega) (by omega)).trans (w8x.2 r hr).2⟩⟩, fun u hu => by
        by_cases c : u = t
        · subst c; rw [eit]; exact ⟨(c4x _ _ (by omega) (by omega) (by omega)).trans k1x, iv⟩
        · rw [eiu u c]
          have z := w9x u hu
          have e9x : K 359 u = J 359 u := (c4x _ _ (by omega) (by omega) (by omega)).trans (k2x _ _ (Or.inr c))
          have e8x : ∀ x, x < 1400 → K 358 (1400 * u + x) = J 358 (1400 * u + x) := fun x hx => (c3x _ (by omega)).trans (e1x _ _ (by omega))
          have ofl : ∀ f, f < 32 → fof f + fln f ≤ 1400 := by decide
          cases o : im u with
          | none => rw [o] at z; exact e9x.trans z
          | some p =>
            rw [o] at z
            obtain ⟨y1x, y2x, y3x, y4x⟩ := z
            exact ⟨e9x.trans y1x, (e8x 0 (by omega)).trans y2x, fun f i hf hi => (e8x _ (by have := ofl f hf.2.1; omega)).trans (y3x f i hf hi), fun x hx => (e8x _ (by omega)).trans (y4x x hx)⟩⟩
      have hP2x : PI v P a rc cds cls im2x := ⟨hP.1, hP.2.1, hP.2.2.1, hP.2.2.2.1, fun u hu => by
        by_cases c : u = t
        · subst c; rw [eit]; exact hP.1
        · rw [eiu u c]; exact hP.2.2.2.2 u hu⟩
      have : BT (i + 6) sh' K R' v P a s y B n rc cds cls im2x := ⟨by omega, hC.frM hG2x (fun i k q => eK i k (by omega) (by omega) (by omega) (by omega)) hP.2.2.1, hM3x, hP2x, hG2x⟩
      exact ⟨rfl, this.inv⟩
/-- every call keeps it -/
theorem ok_all {h : xH} (q : INV i h) : ∀ c, c < 35 → calls X (INV (i + 6)) h x1x x2x x3x x4x x5x c := by
  obtain ⟨sh, I, L, R, rfl, r, v, P, a, s, y, B, n, rc, cds, cls, im, d⟩ := q
  have b : BT i sh I R v P a s y B n rc cds cls im := ⟨r, d⟩
  intro c hc
  match c, hc with
  | 0, _ => exact ok_0 b
  | 1, _ => exact ok_1 b
  | 2, _ => exact ok_2 b
  | 3, _ => exact ok_3 b
  | 4, _ => exact ok_4 b
  | 5, _ => exact ok_5 b
  | 6, _ => exact ok_6 b
  | 7, _ => exact ok_7 b
  | 8, _ => exact ok_8 b
  | 9, _ => exact ok_9 b
  | 10, _ => exact ok_10 b
  | 11, _ => exact ok_11 b
  | 12, _ => exact ok_12 b
  | 13, _ => exact ok_13 b
  | 14, _ => exact ok_14 b
  | 15, _ => exact ok_15 b
  | 16, _ => exact ok_16 b
  | 17, _ => exact ok_17 b
  | 18, _ => exact ok_18 b
  | 19, _ => exact ok_19 b
  | 20, _ => exact ok_20 b
  | 21, _ => exact ok_21 b
  | 22, _ => exact ok_22 b
  | 23, _ => exact ok_23 b
  | 24, _ => exact ok_24 b
  | 25, _ => exact ok_25 b
  | 26, _ => exact ok_26 b
  | 27, _ => exact ok_27 b
  | 28, _ => exact ok_28 b
  | 29, _ => exact ok_29 b
  | 30, _ => exact ok_30 b
  | 31, _ => exact ok_31 b
  | 32, _ => exact ok_32 b
  | 33, _ => exact ok_33 b
  | 34, _ => exact ok_34 b
  | c + 35, hh => exact absurd hh (by omega)
end IV7x
