/-! the calls keep it: questions, and what changes little -/
section IV2x
variable {X : xX} {sh sh' : List (Nat × Nat)} {I J : Nat → Nat → Int32} {L : Nat → Nat → Int64} {R R' : Nat → Nat → Option Nat} {v : Nat → Nat → Int32} {P : Nat → Int32} {a s y n rc i : Nat} {B : Nat → Nat} {cds : Nat → List (Nat × Nat)} {cls : Nat → List (Nat × Nat × Nat)} {im : Nat → Im} {x1x x2x x3x x4x x5x : Int32}
/-- what is known between two calls -/
def BT (i : Nat) (sh : List (Nat × Nat)) (I : Nat → Nat → Int32) (R : Nat → Nat → Option Nat) (v : Nat → Nat → Int32) (P : Nat → Int32) (a s y : Nat) (B : Nat → Nat) (n rc : Nat) (cds : Nat → List (Nat × Nat)) (cls : Nat → List (Nat × Nat × Nat)) (im : Nat → Im) : Prop := (6 * sh.length ≤ 2160 + 201 * i ∧ 6 * xsum sh ≤ 127614 + 1429 * i) ∧ CI sh I R v P a s y B n rc cds cls im ∧ MI sh I R v P a B n rc cds cls im ∧ PI v P a rc cds cls im ∧ Rg sh.length s y im
theorem BT.inv (h : BT i sh I R v P a s y B n rc cds cls im) : INV i (sh, I, L, R) := ⟨sh, I, L, R, rfl, h.1, v, P, a, s, y, B, n, rc, cds, cls, im, h.2⟩
theorem BT.six (h : BT i sh I R v P a s y B n rc cds cls im) : BT (i + 6) sh I R v P a s y B n rc cds cls im := ⟨by have := h.1; omega, h.2⟩
theorem BT.in6 (h : BT i sh I R v P a s y B n rc cds cls im) : INV (i + 6) (sh, I, L, R) := h.six.inv
theorem BT.cq (h : BT i sh I R v P a s y B n rc cds cls im) : CQ sh I R 35 47 s v := h.2.1.cq h.2.2.2.1
theorem BT.aq (h : BT i sh I R v P a s y B n rc cds cls im) : AQ sh I R 35 s 259 v P a := h.2.1.aq h.2.2.2.1 h.2.2.2.2
theorem BT.wf (h : BT i sh I R v P a s y B n rc cds cls im) : Wf v := h.2.2.2.1.1.1
theorem BT.wl (h : BT i sh I R v P a s y B n rc cds cls im) : WfL v := h.2.2.2.1.1.2.1
theorem BT.mw (h : BT i sh I R v P a s y B n rc cds cls im) : MW sh R := h.2.2.1.1
theorem BT.mv (h : BT i sh I R v P a s y B n rc cds cls im) : mV I v := h.2.2.1.2.1
theorem BT.r11 (h : BT i sh I R v P a s y B n rc cds cls im) : R 0 11 = some 258 := h.2.1.1.2.1.2.2.2.2.2.2.2.2.2.1
theorem BT.f258 (h : BT i sh I R v P a s y B n rc cds cls im) : sh[258]? = some (1, 4) := h.2.1.1.2.2.2.2.2.2.2.2.1
theorem BT.wa (h : BT i sh I R v P a s y B n rc cds cls im) : WorldAt sh R 35 := h.2.1.2.2.2.2.1.1
theorem BT.wv (h : BT i sh I R v P a s y B n rc cds cls im) : WorV I 35 v := h.2.1.2.2.2.2.1.2.2.2.2.1
theorem BT.sl (h : BT i sh I R v P a s y B n rc cds cls im) : (s + 12 < 35 ∨ 360 ≤ s) ∧ s + 12 < sh.length ∧ 360 ≤ sh.length := by
  obtain ⟨r0x, ⟨r1x, r2x⟩, r3x⟩ := h.2.2.2.2; omega
section AS1x
variable (h : BT i sh I R v P a s y B n rc cds cls im)
theorem ok_4 (h : BT i sh I R v P a s y B n rc cds cls im) : callOK X 143 243 [.int x1x, .int x2x] (INV (i + 6)) (sh, I, L, R) := callOK.ask (cf_height h.cq) (md_height h.mw h.mv h.wf) (by decide) (by decide) h.mw.1 h.in6
theorem ok_5 (h : BT i sh I R v P a s y B n rc cds cls im) : callOK X 144 245 [.int x1x, .int x2x] (INV (i + 6)) (sh, I, L, R) := callOK.ask (cf_train h.cq) (md_train h.mw h.mv h.wf) (by decide) (by decide) h.mw.1 h.in6
theorem ok_6 (h : BT i sh I R v P a s y B n rc cds cls im) : callOK X 145 246 [.int x1x, .int x2x] (INV (i + 6)) (sh, I, L, R) := callOK.ask (cf_place h.cq) (md_place h.mw h.mv h.wf) (by decide) (by decide) h.mw.1 h.in6
theorem ok_7 (h : BT i sh I R v P a s y B n rc cds cls im) : callOK X 146 247 [.int x1x, .int x2x] (INV (i + 6)) (sh, I, L, R) := callOK.ask (cf_ship h.cq) (md_ship h.mw h.mv h.wf) (by decide) (by decide) h.mw.1 h.in6
theorem ok_14 (h : BT i sh I R v P a s y B n rc cds cls im) : callOK X 153 267 [] (INV (i + 6)) (sh, I, L, R) := callOK.ask (cf_round h.cq) (md_round h.mw h.mv h.wf) (by decide) (by decide) h.mw.1 h.in6
theorem ok_15 (h : BT i sh I R v P a s y B n rc cds cls im) : callOK X 154 268 [.int x1x, .int x2x] (INV (i + 6)) (sh, I, L, R) := callOK.ask (cf_again h.cq h.r11 h.f258) (md_again h.mw h.mv h.wf) (by decide) (by decide) h.mw.1 h.in6
theorem ok_16 (h : BT i sh I R v P a s y B n rc cds cls im) : callOK X 155 269 [.int x1x, .int x2x] (INV (i + 6)) (sh, I, L, R) := callOK.ask (cf_share h.cq h.r11 h.f258) (md_share h.mw h.mv h.wf) (by decide) (by decide) h.mw.1 h.in6
theorem ok_17 (h : BT i sh I R v P a s y B n rc cds cls im) : callOK X 156 271 [.int x1x, .int x2x] (INV (i + 6)) (sh, I, L, R) := callOK.ask (cf_crest h.cq h.r11 h.f258) (md_crest h.mw h.mv h.wf) (by decide) (by decide) h.mw.1 h.in6
theorem ok_19 (h : BT i sh I R v P a s y B n rc cds cls im) : callOK X 158 284 [.int x1x, .int x2x, .int x3x, .int x4x] (INV (i + 6)) (sh, I, L, R) := by
  by_cases g : gFen v x1x x2x x3x x4x
  · exact callOK.ask (z := aFen v x1x x2x x3x x4x) ((cf_fences h.cq h.r11 h.f258).imp (fun r h' q => q.elim (fun z => z.2) (fun z => absurd g z.1))) ((md_fences h.mw h.mv h.wf).imp (fun r h' q => q.elim (fun z => z.2) (fun z => absurd g z.1))) (by decide) (by decide) h.mw.1 h.in6
  · exact callOK.ask (z := -1) ((cf_fences h.cq h.r11 h.f258).imp (fun r h' q => q.elim (fun z => absurd z.1 g) (fun z => z.2))) ((md_fences h.mw h.mv h.wf).imp (fun r h' q => q.elim (fun z => absurd z.1 g) (fun z => z.2))) (by decide) (by decide) h.mw.1 h.in6
theorem ok_21 (h : BT i sh I R v P a s y B n rc cds cls im) : callOK X 160 288 [.int x1x] (INV (i + 6)) (sh, I, L, R) := callOK.ask (cf_wreck h.cq h.wa h.wv h.wl h.r11 h.f258) (md_wreck h.mw h.mv h.wf h.wl) (by decide) (by decide) h.mw.1 h.in6
theorem ok_22 (h : BT i sh I R v P a s y B n rc cds cls im) : callOK X 161 289 [.int x1x] (INV (i + 6)) (sh, I, L, R) := callOK.ask (cf_masts h.cq h.wa h.wv h.wl h.r11 h.f258) (md_masts h.mw h.mv h.wf h.wl) (by decide) (by decide) h.mw.1 h.in6
theorem ok_23 (h : BT i sh I R v P a s y B n rc cds cls im) : callOK X 162 291 [.int x1x, .int x2x] (INV (i + 6)) (sh, I, L, R) := callOK.ask (cf_shows h.cq h.wa h.wv h.wl h.r11 h.f258) (md_shows h.mw h.mv h.wf h.wl) (by decide) (by decide) h.mw.1 h.in6
theorem ok_26 (h : BT i sh I R v P a s y B n rc cds cls im) : callOK X 165 295 [.int x1x, .int x2x, .int x3x] (INV (i + 6)) (sh, I, L, R) := callOK.ask (cf_rent h.cq) (md_rent h.mw h.mv h.wf) (by decide) (by decide) h.mw.1 h.in6
theorem ok_29 (h : BT i sh I R v P a s y B n rc cds cls im) : callOKl X 168 300 [.int x1x, .int x2x, .int x3x] (INV (i + 6)) (sh, I, L, R) := callOKl.ask (cf_storms h.cq) (md_storms h.mw h.mv h.wf) (by decide) (by decide) h.mw.1 h.in6
theorem ok_32 (h : BT i sh I R v P a s y B n rc cds cls im) : callOK X 171 307 [.int x1x] (INV (i + 6)) (sh, I, L, R) := callOK.ask (cf_count h.cq h.wa h.wv h.2.1.2.2.2.1.1 h.2.1.2.2.2.2.1.2.2.2.2.2.1 h.2.1.1.2.1.1 h.2.1.1.2.2.1.1 h.2.1.2.2.1.2.1) (md_count h.mw h.mv h.wf h.2.2.1.2.2.2.2.2.2.2.1.1 h.2.2.1.2.2.2.1 h.2.2.1.2.2.2.2.2.1.2.1) (by decide) (by decide) h.mw.1 h.in6
end AS1x
/-- the class has changed cells that hold nothing of it -/
theorem BT.cla (h : BT i sh I R v P a s y B n rc cds cls im) (hK : KS sh R') (hPA : ∃ qa qb qc qd, PA sh R' qa qb qc qd) (hW : WRel sh J R' 35 s v P a) (e : ∀ i k, i < 35 ∨ 259 < i → J i k = I i k) (eR : ∀ i k, i < 35 ∨ i = 236 ∨ 259 < i → R' i k = R i k) : BT i sh J R' v P a s y B n rc cds cls im := by
  obtain ⟨h0x, ⟨h1x, h2x, h3x, h4x, h5x, h6x, h7x⟩, hM, hP, hG⟩ := h
  exact ⟨h0x, ⟨hK, hPA, h3x.fr (e _ _ (by omega)) (fun k => e _ _ (by omega)), ⟨(e _ _ (by omega)).trans h4x.1, fun r hr => (h4x.2 r hr).fr (fun i k q1x q2x => e i k (by omega))⟩, hW, h6x.fr hG sh_same (fun i k _ q => e i k (by omega)) (fun i k _ q => eR i k (by omega)), (eR _ _ (by omega)).trans h7x⟩, hM.fr sh_same (fun i k q1x q2x => e i k (by omega)) (fun k => eR _ _ (by omega)), hP, hG⟩
/-- the reference has changed cells that hold nothing of it -/
theorem BT.ref (h : BT i sh I R v P a s y B n rc cds cls im) (e : ∀ i k, (i ≠ 290 ∨ k ≠ 79 ∧ k ≠ 80) → (i < 350 ∨ 357 < i) → J i k = I i k) : BT i sh J R v P a s y B n rc cds cls im := by
  obtain ⟨h0x, hC, ⟨h1x, h2x, h3x, h4x, h5x, h6x, h7x, h8x, h9x⟩, hP, hG⟩ := h
  refine ⟨h0x, hC.frM hG (fun i k q => e i k (by omega) (by omega)) hP.2.2.1, ⟨h1x, h2x.fz (fun i k q1x q2x => e i k (by omega) (by omega)), fun x => (e _ _ (by omega) (by omega)).trans (h3x x), (e _ _ (by omega) (by omega)).trans h4x, fun k hk => (e _ _ (by omega) (by omega)).trans (h5x k hk), h6x.fr (e _ _ (by omega) (by omega)) (fun k => e _ _ (by omega) (by omega)), (e _ _ (by omega) (by omega)).trans h7x, ⟨(e _ _ (by omega) (by omega)).trans h8x.1, fun r hr => ⟨(h8x.2 r hr).1.fr (fun i k q => e i k (by omega) (by omega)), (e _ _ (by omega) (by omega)).trans (h8x.2 r hr).2⟩⟩, fun t ht => (h9x t ht).fr (fun k => e _ _ (by omega) (by omega)) (fun k _ => e _ _ (by omega) (by omega)) ht⟩, hP, hG⟩
theorem BT.ks (h : BT i sh I R v P a s y B n rc cds cls im) (e : ∀ i k, i < 9 ∨ 236 < i ∧ i < 290 → (i ≠ 0 ∨ k ≠ 6) → (i ≠ 6 ∨ k ≠ 1) → (i ≠ 7 ∨ k ≠ 1) → (i ≠ 241 ∨ k ≠ 0) → i ≠ 250 → R' i k = R i k) : KS sh R' := h.2.1.1.fr sh_same e
theorem BT.wr (h : BT i sh I R v P a s y B n rc cds cls im) : WRel sh I R 35 s v P a := h.2.1.2.2.2.2.1
theorem WRel.f11 {w : Nat} (h : WRel sh I R w s v P a) (e : ∀ i k, i ≠ w + 11 → J i k = I i k) : WRel sh J R w s v P a := by
  obtain ⟨h1x, h2x, h3x, h4x, h5x, h6x, h7x, p, a1x, a2x, a3x, a4x⟩ := h
  exact ⟨h1x, h2x, h3x, h4x.fr (fun i k q1x q2x => e i k (by omega)), h5x.fr (fun i k q1x q2x => e i k (by omega)), (e _ _ (by omega)).trans h6x, h7x, p, a1x, a2x, a3x, fun i hi => ⟨(a4x i hi).1, (a4x i hi).2.fr (fun j k q1x q2x => e j k (by omega))⟩⟩
theorem ok_25 (h : BT i sh I R v P a s y B n rc cds cls im) : callOK X 164 294 [.int x1x, .int x2x] (INV (i + 6)) (sh, I, L, R) := by
  have sl := h.sl
  refine callOK.of (cf_winds h.cq h.wa h.wv h.wl h.r11 h.f258 (by decide) rfl (by omega)) (by decide) ?_
  rintro r h1x ⟨rfl, J, rfl, e⟩
  have h2x : BT i sh J R v P a s y B n rc cds cls im := h.cla h.2.1.1 h.2.1.2.1 (h.wr.fr (fun i k q1x q2x => e i k (by omega)) (fun _ _ _ _ => rfl)) (fun i k q => e i k (by omega)) (fun _ _ _ => rfl)
  exact ⟨_, _, _, by decide, rfl, h.mw.1, md_winds h2x.mw h2x.mv h2x.wf h2x.wl, fun r2x h3x q => ⟨q.1, by rw [q.2]; exact h2x.in6⟩⟩
theorem ok_28 (h : BT i sh I R v P a s y B n rc cds cls im) : callOK X 167 298 [.int x1x] (INV (i + 6)) (sh, I, L, R) := by
  refine callOK.of (cf_order h.cq h.wa h.wv h.wl.ff) (by decide) ?_
  rintro r h1x ⟨rfl, J, rfl, e⟩
  have h2x : BT i sh J R v P a s y B n rc cds cls im := h.cla h.2.1.1 h.2.1.2.1 (h.wr.f11 e) (fun i k q => e i k (by omega)) (fun _ _ _ => rfl)
  refine ⟨_, _, _, by decide, rfl, h.mw.1, md_order h2x.mw h2x.mv h2x.wf h2x.wl.ff, ?_⟩
  rintro r2x h3x ⟨rfl, K, rfl, f⟩
  exact ⟨rfl, (h2x.ref (fun i k _ q => f i k (by omega) (by omega))).in6⟩
theorem ok_18 (h : BT i sh I R v P a s y B n rc cds cls im) : callOK X 157 279 [.int x1x, .int x2x, .int x3x] (INV (i + 6)) (sh, I, L, R) := by
  have sl := h.sl
  obtain ⟨qa, qb, qc, qd, hPA⟩ := h.2.1.2.1
  refine callOK.of (cf_voyage h.cq hPA h.2.1.1.2.1.2.2.2.2.2.2.2.2.1 (by decide) (by omega) (by decide)) (by decide) ?_
  rintro r h1x ⟨z, rfl, qz, J, R', a', b', c', d', rfl, p1x, e1x, e2x⟩
  have h2x : BT i sh J R' v P a s y B n rc cds cls im := h.cla (h.ks (fun i k _ _ _ _ _ q => e2x i k q)) ⟨a', b', c', d', p1x⟩ (h.wr.fr (fun i k q1x q2x => e1x i k (by omega)) (fun i k q1x q2x => e2x i k (by omega))) (fun i k q => e1x i k (by omega)) (fun i k q => e2x i k (by omega))
  refine ⟨z, _, _, by decide, rfl, h.mw.1, md_voyage h2x.mw h2x.mv h2x.wf, ?_⟩
  rintro r2x h3x ⟨z2x, rfl, qz2x, K, rfl, f⟩
  rw [QVoy_un qz2x qz]
  exact ⟨rfl, (h2x.ref (fun i k q1x q2x => f i k q1x (by omega))).in6⟩
end IV2x
