/-! A RULE read, the other side: a round of a test -/
section MU7x
variable {X : xX} {h : xH} {sh : List (Nat × Nat)} {I : Nat → Nat → Int32} {L : Nat → Nat → Int64} {R : Nat → Nat → Option Nat} {B : Nat → Nat} {n ri p : Nat} {st : rS}
variable {S base : List Nat} {d x : Nat} {Q : Option Value → xH → Prop}
def nb (b : Bool) : Nat := if b then 1 else 0
theorem adN_1 : ∀ (k : Nat) (st : rS), (adN k x st).1 = st.1 ∧ (adN k x st).2.1 = st.2.1 ∧ (adN k x st).2.2.length = st.2.2.length + k := by
  intro k
  induction k with
  | zero => intro st; exact ⟨rfl, rfl, rfl⟩
  | succ k ih =>
    intro st
    obtain ⟨a, b, c⟩ := ih (adE x st)
    refine ⟨a, b, c.trans ?_⟩
    show (st.2.2 ++ [(x, 0)]).length + k = _
    rw [List.length_append]; simp; omega
theorem tp_ne {y : Nat} (h : ¬ tpS base = nI y) (hxy : ¬ nI x = nI y) : ∀ k, ¬ tpS (List.replicate k x ++ base) = nI y := by
  intro k
  cases k with
  | zero => exact h
  | succ k => exact hxy
theorem bAd_N {b : Bool} {s : rS} : adN (nb b) x s = bAd b x s := by cases b <;> rfl
theorem ms_ans (hM : MW sh R) (hx : x = 9 ∨ x = 10 ∨ x = 11) {k : Nat} (hr : Cf0x I B n ri p st (List.replicate k x ++ S) d) (ht : ¬ tpS S = nI x) (hb : 2 * (st.2.2.length + k) ≤ 2 * st.2.1 + st.1) (hk : x = 9 → k ≤ d) : Ec X 2 210 [.ref 290, .int (nI x)] (sh, I, L, R) (fun r h' => r = none ∧ ∃ J : Nat → Nat → Int32, h' = (sh, J, L, R) ∧ MqT I J ri ∧ Cf0x J B n ri p (adN k x st) S (if x = 9 then d - k else d)) := by
  refine Ec.of (Nat.le_of_ble_eq_true rfl) ?_
  exact ms_answers hM hx k d st I hr ht hb hk
theorem ms_it0 (hM : MW sh R) {an o : Bool} {k : Nat} {s0x : rS} (hr : Cf0x I B n ri p st (List.replicate k 9 ++ (List.replicate (nb an) 10 ++ (List.replicate (nb o) 11 ++ base))) (d + k)) (hs : adN k 9 st = s0x) (t9x : ¬ tpS base = nI 9) (t10x : ¬ tpS base = nI 10) (t11x : ¬ tpS base = nI 11) (hb : 2 * (s0x.2.2.length + pdn an o) ≤ 2 * s0x.2.1 + s0x.1) (hl : base.length < 399)
    (hAnd : wdH B n s0x.1 = 11 → ∀ (J : Nat → Nat → Int32) (p' : Nat), MqT I J ri → Cf0x J B n ri p' (goN B n (adN (nb an) 10 s0x)) (10 :: (List.replicate (nb o) 11 ++ base)) d → Eg X xTc 10 212 9 [(0, .ref 290), (1, .int 1), (2, .int 1)] [] (sh, J, L, R) Q)
    (hOr : ¬ wdH B n s0x.1 = 11 → wdH B n s0x.1 = 10 → ∀ (J : Nat → Nat → Int32) (p' : Nat), MqT I J ri → Cf0x J B n ri p' (goN B n (adN (nb o) 11 (adN (nb an) 10 s0x))) (11 :: base) d → Eg X xTc 10 212 9 [(0, .ref 290), (1, .int 1), (2, .int 1)] [] (sh, J, L, R) Q)
    (hEnd : ¬ wdH B n s0x.1 = 11 → ¬ wdH B n s0x.1 = 10 → ∀ (J : Nat → Nat → Int32), MqT I J ri → Cf0x J B n ri s0x.1 (adN (nb o) 11 (adN (nb an) 10 s0x)) base d → Eg X xTc 10 212 137 [(0, .ref 290), (1, .int 0), (2, .int 1), (3, .int 0), (4, .int 0)] [] (sh, J, L, R) Q) : Eg X xTc 10 212 9 [(0, .ref 290), (1, .int 0), (2, .int 1)] [] (sh, I, L, R) Q := by
  obtain ⟨hsn, hn, hps, htk⟩ := hr.1.le
  obtain ⟨z1x, z2x, z3x⟩ := adN_1 (x := 9) k st
  rw [hs] at z1x z2x z3x
  obtain ⟨y1x, y2x, y3x⟩ := adN_1 (x := 10) (nb an) s0x
  obtain ⟨x1x, x2x, x3x⟩ := adN_1 (x := 11) (nb o) (adN (nb an) 10 s0x)
  have hpd : pdn an o = nb an + nb o := rfl
  have hno : nb o ≤ 1 := by unfold nb; split <;> omega
  have w11x : wdH B n s0x.1 = 11 ↔ wIs B n s0x.1 11 = true := wdH_iff (w := 11) (by decide)
  have w10x : wdH B n s0x.1 = 10 ↔ wIs B n s0x.1 10 = true := wdH_iff (w := 10) (by decide)
  have nl := nxt_le (B := B) (n := n) (p := s0x.1) (by omega)
  refine e_iload rfl rfl ?_
  refine e_ifeq_f rfl (by decide) ?_
  refine e_aload rfl rfl ?_
  refine e_getIv rfl hM.1 hr.1.1.2.2 ?_
  refine e_ifne_f rfl rfl ?_
  refine e_iload rfl rfl ?_
  refine e_ifeq_t rfl rfl ?_
  refine e_aload rfl rfl ?_
  refine e_ipush rfl ?_
  refine Eg.c2 rfl (by decide) (by decide) rfl (Nat.le_of_ble_eq_true rfl) (xrcv_of rfl hM.1 rfl) ((ms_ans hM (x := 9) (k := k) (Or.inl rfl) hr (tp_ne (tp_ne t9x (by decide) _) (by decide) _) (by omega) (fun _ => by omega)).mono (by decide)) (fun r1x h1x hq => ?_)
  obtain ⟨rfl, J1x, rfl, q1x, f1x⟩ := hq
  rw [hs, if_pos rfl, Nat.add_sub_cancel] at f1x
  refine e_aload rfl rfl ?_
  refine Eg.c1 rfl (by decide) (by decide) rfl (Nat.le_of_ble_eq_true rfl) (xrcv_of rfl hM.1 rfl) ((ms_blS hM f1x.1).mono (by decide)) (fun r1x h1x hq => ?_)
  obtain ⟨rfl, J2x, rfl, c2x, k2x⟩ := hq
  have f2x := f1x.q k2x c2x
  have q2x := q1x.tr (MqT.of k2x)
  refine e_aload rfl rfl ?_
  refine e_text rfl ?_
  refine Eg.p2 rfl (by decide) (by decide) rfl (Nat.le_of_ble_eq_true rfl) (xrcv_of rfl hM.1 rfl) ((ms_stood hM c2x.1 (by omega) (j := 21) (w := 11) (by decide) (by decide) rfl).mono (by decide)) ?_
  by_cases h11x : wIs B n s0x.1 11 = true
  · have e11x := w11x.mpr h11x
    rw [yn_t h11x]
    refine e_istore rfl ?_
    refine e_aload rfl rfl ?_
    refine e_text rfl ?_
    refine Eg.p2 rfl (by decide) (by decide) rfl (Nat.le_of_ble_eq_true rfl) (xrcv_of rfl hM.1 rfl) ((ms_stood hM c2x.1 (by omega) (j := 22) (w := 10) (by decide) (by decide) rfl).mono (by decide)) ?_
    have h10x : ¬ wIs B n s0x.1 10 = true := fun e => absurd (e11x.symm.trans (w10x.mpr e)) (by decide)
    rw [yn_f h10x]
    refine e_istore rfl ?_
    refine e_aload rfl rfl ?_
    refine e_ipush rfl ?_
    refine Eg.c2 rfl (by decide) (by decide) rfl (Nat.le_of_ble_eq_true rfl) (xrcv_of rfl hM.1 rfl) ((ms_ans hM (x := 10) (k := nb an) (Or.inr (Or.inl rfl)) f2x (tp_ne t10x (by decide) _) (by omega) (fun e => absurd e (by decide))).mono (by decide)) (fun r1x h1x hq => ?_)
    obtain ⟨rfl, J3x, rfl, q3x, f3x⟩ := hq
    rw [if_neg (by decide)] at f3x
    replace q3x := q2x.tr q3x
    refine e_iload rfl rfl ?_
    refine e_ifne_t rfl (by decide) ?_
    refine e_iload rfl rfl ?_
    refine e_ifeq_t rfl rfl ?_
    refine e_aload rfl rfl ?_
    refine e_iload rfl rfl ?_
    refine e_ifeq_f rfl (by decide) ?_
    refine e_ipush rfl ?_
    refine e_goto rfl ?_
    refine Eg.c2 rfl (by decide) (by decide) rfl (Nat.le_of_ble_eq_true rfl) (xrcv_of rfl hM.1 rfl) ((ms_opens hM f3x (x := 10) (Or.inr (Or.inl rfl)) (by simp; omega)).mono (by decide)) (fun r1x h1x hq => ?_)
    obtain ⟨rfl, K, rfl, q5x, hp48x, hz⟩ := hq
    replace hp48x := hp48x.trans f3x.1.1.2.1
    replace q5x := q3x.tr q5x
    rcases hz with ⟨xx, -⟩ | ⟨xx, -⟩ | ⟨-, f5x⟩
    · exact absurd xx (by decide)
    · exact absurd xx (by decide)
    · have mm := f5x.1.1
      refine e_aload rfl rfl ?_
      refine e_dupr rfl ?_
      refine e_getIv rfl hM.1 hp48x ?_
      refine e_iload rfl rfl ?_
      refine e_ifeq_f rfl (by decide) ?_
      refine e_ipush rfl ?_
      refine e_goto rfl ?_
      refine e_iadd rfl ?_
      rw [show (nI s0x.1) + 3 = nI (s0x.1 + 3) from nI_add _ 3]
      refine e_putIJ rfl hM.1 (fun J21x g21x f21x => ?_)
      have wn := wIs_nxt (B := B) (n := n) (p := s0x.1) (w := 11) (by decide) h11x
      have wn1x : (s0x.1 + 3) ≤ n := wn.1
      have wn2x : skp B n (s0x.1 + 3) = nxt B n s0x.1 := wn.2
      have mf : MF K J21x := fun i k a => f21x i k (by omega)
      have m6x : Mr J21x B n (s0x.1 + 3) 0 := mm.fr mf g21x ((f21x 290 49 (by decide)).trans mm.2.2)
      have c6x := f5x.1.mv (q := nxt B n (adN (nb an) 10 s0x).1) m6x wn1x (by rw [y1x]; exact wn2x) (by rw [y1x]; exact nl.1) mf
      have f6x := f5x.q (MqF.of mf) c6x
      refine e_ipush rfl ?_
      refine e_istore rfl ?_
      refine e_goto rfl ?_
      refine e_goto rfl ?_
      refine Eg.pk [0, 1, 2] [1, 4, 3, 0, 2] rfl (by decide) ?_
      exact hAnd e11x J21x _ (q5x.tr (MqT.of (MqF.of mf))) f6x
  · have e11x : ¬ wdH B n s0x.1 = 11 := fun e => h11x (w11x.mp e)
    rw [yn_f h11x]
    refine e_istore rfl ?_
    refine e_aload rfl rfl ?_
    refine e_text rfl ?_
    refine Eg.p2 rfl (by decide) (by decide) rfl (Nat.le_of_ble_eq_true rfl) (xrcv_of rfl hM.1 rfl) ((ms_stood hM c2x.1 (by omega) (j := 22) (w := 10) (by decide) (by decide) rfl).mono (by decide)) ?_
    by_cases h10x : wIs B n s0x.1 10 = true
    · have e10x := w10x.mpr h10x
      rw [yn_t h10x]
      refine e_istore rfl ?_
      refine e_aload rfl rfl ?_
      refine e_ipush rfl ?_
      refine Eg.c2 rfl (by decide) (by decide) rfl (Nat.le_of_ble_eq_true rfl) (xrcv_of rfl hM.1 rfl) ((ms_ans hM (x := 10) (k := nb an) (Or.inr (Or.inl rfl)) f2x (tp_ne t10x (by decide) _) (by omega) (fun e => absurd e (by decide))).mono (by decide)) (fun r1x h1x hq => ?_)
      obtain ⟨rfl, J3x, rfl, q3x, f3x⟩ := hq
      rw [if_neg (by decide)] at f3x
      replace q3x := q2x.tr q3x
      refine e_iload rfl rfl ?_
      refine e_ifne_f rfl rfl ?_
      refine e_iload rfl rfl ?_
      refine e_ifeq_f rfl (by decide) ?_
      refine e_iload rfl rfl ?_
      refine e_ifeq_f rfl (by decide) ?_
      refine e_aload rfl rfl ?_
      refine e_ipush rfl ?_
      refine Eg.c2 rfl (by decide) (by decide) rfl (Nat.le_of_ble_eq_true rfl) (xrcv_of rfl hM.1 rfl) ((ms_ans hM (x := 11) (k := nb o) (Or.inr (Or.inr rfl)) f3x t11x (by rw [y1x, y2x, y3x]; omega) (fun e => absurd e (by decide))).mono (by decide)) (fun r1x h1x hq => ?_)
      obtain ⟨rfl, J4x, rfl, q4x, f4x⟩ := hq
      rw [if_neg (by decide)] at f4x
      replace q4x := q3x.tr q4x
      refine e_aload rfl rfl ?_
      refine e_iload rfl rfl ?_
      refine e_ifeq_t rfl rfl ?_
      refine e_ipush rfl ?_
      refine Eg.c2 rfl (by decide) (by decide) rfl (Nat.le_of_ble_eq_true rfl) (xrcv_of rfl hM.1 rfl) ((ms_opens hM f4x (x := 11) (Or.inr (Or.inr (Or.inl rfl))) (by omega)).mono (by decide)) (fun r1x h1x hq => ?_)
      obtain ⟨rfl, K, rfl, q5x, hp48x, hz⟩ := hq
      replace hp48x := hp48x.trans f4x.1.1.2.1
      replace q5x := q4x.tr q5x
      rcases hz with ⟨xx, -⟩ | ⟨xx, -⟩ | ⟨-, f5x⟩
      · exact absurd xx (by decide)
      · exact absurd xx (by decide)
      · have mm := f5x.1.1
        refine e_aload rfl rfl ?_
        refine e_dupr rfl ?_
        refine e_getIv rfl hM.1 hp48x ?_
        refine e_iload rfl rfl ?_
        refine e_ifeq_t rfl rfl ?_
        refine e_ipush rfl ?_
        refine e_iadd rfl ?_
        rw [show (nI s0x.1) + 2 = nI (s0x.1 + 2) from nI_add _ 2]
        refine e_putIJ rfl hM.1 (fun J22x g22x f22x => ?_)
        have wn := wIs_nxt (B := B) (n := n) (p := s0x.1) (w := 10) (by decide) h10x
        have wn1x : (s0x.1 + 2) ≤ n := wn.1
        have wn2x : skp B n (s0x.1 + 2) = nxt B n s0x.1 := wn.2
        have mf : MF K J22x := fun i k a => f22x i k (by omega)
        have m6x : Mr J22x B n (s0x.1 + 2) 0 := mm.fr mf g22x ((f22x 290 49 (by decide)).trans mm.2.2)
        have c6x := f5x.1.mv (q := nxt B n (adN (nb o) 11 (adN (nb an) 10 s0x)).1) m6x wn1x (by rw [(x1x.trans y1x)]; exact wn2x) (by rw [(x1x.trans y1x)]; exact nl.1) mf
        have f6x := f5x.q (MqF.of mf) c6x
        refine e_ipush rfl ?_
        refine e_istore rfl ?_
        refine e_goto rfl ?_
        refine e_goto rfl ?_
        refine Eg.pk [0, 1, 2] [1, 4, 3, 0, 2] rfl (by decide) ?_
        exact hOr e11x e10x J22x _ (q5x.tr (MqT.of (MqF.of mf))) f6x
    · have e10x : ¬ wdH B n s0x.1 = 10 := fun e => h10x (w10x.mp e)
      rw [yn_f h10x]
      refine e_istore rfl ?_
      refine e_aload rfl rfl ?_
      refine e_ipush rfl ?_
      refine Eg.c2 rfl (by decide) (by decide) rfl (Nat.le_of_ble_eq_true rfl) (xrcv_of rfl hM.1 rfl) ((ms_ans hM (x := 10) (k := nb an) (Or.inr (Or.inl rfl)) f2x (tp_ne t10x (by decide) _) (by omega) (fun e => absurd e (by decide))).mono (by decide)) (fun r1x h1x hq => ?_)
      obtain ⟨rfl, J3x, rfl, q3x, f3x⟩ := hq
      rw [if_neg (by decide)] at f3x
      replace q3x := q2x.tr q3x
      refine e_iload rfl rfl ?_
      refine e_ifne_f rfl rfl ?_
      refine e_iload rfl rfl ?_
      refine e_ifeq_t rfl rfl ?_
      refine e_aload rfl rfl ?_
      refine e_ipush rfl ?_
      refine Eg.c2 rfl (by decide) (by decide) rfl (Nat.le_of_ble_eq_true rfl) (xrcv_of rfl hM.1 rfl) ((ms_ans hM (x := 11) (k := nb o) (Or.inr (Or.inr rfl)) f3x t11x (by rw [y1x, y2x, y3x]; omega) (fun e => absurd e (by decide))).mono (by decide)) (fun r1x h1x hq => ?_)
      obtain ⟨rfl, J4x, rfl, q4x, f4x⟩ := hq
      rw [if_neg (by decide)] at f4x
      replace q4x := q3x.tr q4x
      refine Eg.pk [0, 1, 2, 3, 4] [4, 3, 0, 1, 2] rfl (by decide) ?_
      exact hEnd e11x e10x J4x q4x f4x
end MU7x
