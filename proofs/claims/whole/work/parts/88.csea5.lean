/-! sea, the one side: the call -/
section CT5x
variable {X : xX} {h : xH} {sh : List (Nat × Nat)} {I : Nat → Nat → Int32} {L : Nat → Nat → Int64} {R : Nat → Nat → Option Nat} {B : Nat → Nat} {n : Nat} {u U v : Nat → Nat → Int32} {s w m : Nat}
theorem cf_sea {p : Nat → Nat} {P : Nat → Int32} (h0x : sh[0]? = some (11, 13)) (r00x : R 0 0 = some 1) (r01x : R 0 1 = some 6) (r06x : R 0 6 = some s) (r07x : R 0 7 = some w) (hT : TpAt sh R) (hB : TpB I B n) (h6x : sh[6]? = some (8, 3)) (r60x : R 6 0 = some 1) (hS : SeaAt sh R s) (h9x : 9 ≤ s) (hA : WSh sh R w p) (hw9x : 9 ≤ w) (hd : s + 12 < w ∨ w + 200 < s) (hl : s + 12 < sh.length) (hl2x : w + 200 < sh.length) (hx : I w 11 = v 1 13) (hu : U0x u) {F : Int32} {U : Nat → Nat → Int32} (eF : (sRd B n 41 0 (skp B n 0) u false).1 = F) (eU : (sRd B n 41 0 (skp B n 0) u false).2 = U) : Ec X 10 141 [.ref 0] (sh, I, L, R) (fun r h' => (¬ F = 0 ∧ r = some (.int (-2 - F)) ∧ ∃ J : Nat → Nat → Int32, h' = (sh, J, L, xu R 6 1 (some s)) ∧ J 1 1 = nI 0 ∧ (∀ i k, i ≠ 3 → i ≠ 4 → i ≠ 5 → (i ≠ 1 ∨ (k ≠ 1 ∧ k ≠ 2 ∧ k ≠ 6 ∧ k ≠ 7)) → (i < s ∨ s + 12 < i) → (i ≠ 6 ∨ k ≠ 2) → J i k = I i k)) ∨ (F = 0 ∧ r = some (.int (nI (cn U 0))) ∧ ∃ J L' R', h' = (sh ++ ssh, J, L', R') ∧ WRel (sh ++ ssh) J R' w s (finV U v) P 0 ∧ SeaR (sh ++ ssh) J R' s (finV U v) ∧ SeaAt (sh ++ ssh) R' sh.length ∧ R' 0 6 = some sh.length ∧ WfU U ∧ 2 ≤ cn U 0 ∧ J 1 1 = nI 0 ∧ (∀ i, i < sh.length → L' i = L i) ∧ (∀ i k, i < sh.length → i ≠ 3 → i ≠ 4 → i ≠ 5 → (i ≠ 1 ∨ (k ≠ 1 ∧ k ≠ 2 ∧ k ≠ 6 ∧ k ≠ 7)) → (i < s ∨ s + 12 < i) → (i ≠ 6 ∨ k ≠ 2) → (i < w ∨ w + 200 < i) → J i k = I i k) ∧ ∀ i k, i < sh.length → (i ≠ 6 ∨ k ≠ 1) → (i ≠ 0 ∨ k ≠ 6) → (i ≠ w + 12 ∨ k ≠ 0) → R' i k = R i k)) := by
  refine Ec.of (Nat.le_of_ble_eq_true rfl) ?_
  have x0x : ∀ k, (xu R 6 1 (some s)) 0 k = R 0 k := fun k => xu_o (by omega)
  have hA1x : WSh sh (xu R 6 1 (some s)) w p := hA.fr (fun i k q1x q2x q3x => xu_o (by omega))
  have hS1x : SeaAt sh (xu R 6 1 (some s)) s := hS.frR (fun k _ => xu_o (by omega))
  refine e_aload rfl rfl ?_
  refine e_getR rfl h0x r01x ?_
  refine e_aload rfl rfl ?_
  refine e_getR rfl h0x r06x ?_
  refine Eg.c2 rfl (by decide) (by decide) rfl (Nat.le_of_ble_eq_true rfl) (xrcv_of rfl h6x rfl) ((cs_read hT hB h6x r60x hS h9x hu).mono (by decide)) (fun r1x h1x hq => ?_)
  obtain ⟨rfl, J, rfl, a1x, a2x, a3x⟩ := hq
  rw [eF, eU] at a2x
  rw [eF]
  refine e_istore rfl ?_
  refine e_aload rfl rfl ?_
  refine e_getR rfl h0x ((x0x 0).trans r00x) ?_
  refine e_ipush rfl ?_
  refine e_putIJ rfl hT.1 (fun J11x g11x f11x => ?_)
  refine e_iload rfl rfl ?_
  refine e_ifeq_b rfl (fun b21x => ?_) (fun b21x => ?_)
  · obtain ⟨c1x, c2x, c3x⟩ := a2x b21x
    have vs : SeaS J11x s U := c1x.fr (fun i k q1x q2x => f11x i k (by omega))
    have hx1x : J11x w 11 = v 1 13 := (f11x w 11 (by omega)).trans ((a3x w 11 (by omega) (by omega) (by omega) (by omega) (by omega) (by omega)).trans hx)
    refine e_aload rfl rfl ?_
    refine e_getR rfl h0x ((x0x 7).trans r07x) ?_
    refine e_aload rfl rfl ?_
    refine e_getR rfl h0x ((x0x 6).trans r06x) ?_
    refine Eg.c2 rfl (by decide) (by decide) rfl (Nat.le_of_ble_eq_true rfl) (xrcv_of rfl hA.1.1 rfl) ((cs_worldStart (P := P) (v := v) hA1x hS1x vs c2x hd hx1x).mono (by decide)) (fun r1x h1x hq => ?_)
    obtain ⟨rfl, K, rfl, d1x, d2x⟩ := hq
    have vK : SeaS K s U := vs.fr (fun i k q1x q2x => d2x i k (by omega))
    have sK := vK.fin (v := v) c2x
    have hS2x : SeaAt sh (xu (xu R 6 1 (some s)) (w + 12) 0 (some s)) s := hS1x.put
    have q0x : ∀ k, (xu (xu R 6 1 (some s)) (w + 12) 0 (some s)) 0 k = R 0 k := fun k => (xu_o (by omega)).trans (x0x k)
    have qq : ∀ i k, (i ≠ 6 ∨ k ≠ 1) → (i ≠ w + 12 ∨ k ≠ 0) → (xu (xu R 6 1 (some s)) (w + 12) 0 (some s)) i k = R i k := fun i k h1x h2x => (xu_o h2x).trans (xu_o h1x)
    revert d1x hS2x q0x qq
    generalize xu (xu R 6 1 (some s)) (w + 12) 0 (some s) = R2x
    intro d1x hS2x q0x qq
    refine e_aload rfl rfl ?_
    refine e_ob rfl ?_
    refine e_dupr rfl ?_
    refine Eg.c1 rfl (by decide) (by decide) rfl (Nat.le_of_ble_eq_true rfl) (xrcv_ofi (Or.inr rfl) rfl) ((ct_sea (xob_at _)).mono (by decide)) (fun r1x h1x hq => ?_)
    obtain ⟨rfl, rfl⟩ := hq
    obtain ⟨w1x, w2x, w3x⟩ := sea_spec (sh, K, L, R2x)
    change Eg X xTc 9 141 48 _ _ (sea_new (sh, K, L, R2x)) _
    revert w1x w2x w3x
    generalize sea_new (sh, K, L, R2x) = g
    intro w1x w2x w3x
    obtain ⟨sh1x, I1x, L1x, R1x⟩ := g
    have w1x : sh1x = sh ++ ssh := w1x
    have w3x : SeaAt sh1x R1x sh.length := w3x
    have wI : ∀ i, i < sh.length → I1x i = K i := fun i hi => (w2x.2 i hi).1
    have wL : ∀ i, i < sh.length → L1x i = L i := fun i hi => (w2x.2 i hi).2.1
    have wR : ∀ i, i < sh.length → R1x i = R2x i := fun i hi => (w2x.2 i hi).2.2
    have l0x : 0 < sh.length := by omega
    have a0x : sh1x[0]? = some (11, 13) := by rw [w1x]; exact up_at h0x
    subst w1x
    refine e_putR rfl a0x ?_
    have e1x : WRel (sh ++ ssh) I1x (xu R1x 0 6 (some sh.length)) w s (finV U v) P 0 := d1x.gr ⟨ssh, rfl⟩ (fun i h1x h2x => wI i (by omega)) (fun i h1x h2x => (xu_ne (by omega)).trans (wR i (by omega)))
    have e2x : SeaAt (sh ++ ssh) (xu R1x 0 6 (some sh.length)) s := hS2x.gr ⟨ssh, rfl⟩ ((xu_ne (by omega)).trans (wR s (by omega)))
    have e3x : SeaV I1x s (finV U v) := sK.1.fr (fun i k h1x h2x => by rw [wI i (by omega)])
    have e4x : SeaW I1x s (finV U v) := sK.2.fr (fun i k h1x h2x => by rw [wI i (by omega)])
    refine e_aload rfl rfl ?_
    refine e_getR rfl a0x ((xu_o (by omega)).trans (by rw [wR 0 l0x]; exact (q0x 7).trans r07x)) ?_
    refine e_getR rfl e1x.1.1 e1x.1.2.1 ?_
    refine e_getR rfl e1x.2.1.1 e1x.2.2.1 ?_
    refine e_getIv rfl e2x.1 (e3x.1 0 (by decide)) ?_
    rw [finV_c (by decide)]
    refine Eg.ret rfl (by decide) rfl (Or.inr ⟨b21x, rfl, I1x, L1x, xu R1x 0 6 (some sh.length), rfl, e1x, ⟨e2x, e3x, e4x⟩, w3x.frR (fun k _ => xu_o (by omega)), xu_at, c2x, c3x, ?_, wL, fun i k q1x q2x q3x q4x q5x q6x q7x q8x => ?_, fun i k q1x q2x q3x q4x => ?_⟩)
    · rw [wI 1 (by omega)]; exact (d2x 1 1 (by omega)).trans g11x
    · rw [wI i q1x]; exact (d2x i k q8x).trans ((f11x i k (by omega)).trans (a3x i k q2x q3x q4x (by omega) q6x q7x))
    · rw [xu_o q3x, wR i q1x]; exact qq i k q2x q4x
  · refine e_ipush rfl ?_
    refine e_iload rfl rfl ?_
    refine e_isub rfl ?_
    exact Eg.ret rfl (by decide) rfl (Or.inl ⟨b21x, rfl, J11x, rfl, g11x, fun i k q1x q2x q3x q4x q5x q6x => (f11x i k (by omega)).trans (a3x i k q1x q2x q3x (by omega) q5x q6x)⟩)
end CT5x
