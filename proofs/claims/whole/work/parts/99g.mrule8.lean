/-! A RULE read, the other side: tests -/
section MU8x
variable {X : xX} {h : xH} {sh : List (Nat × Nat)} {I : Nat → Nat → Int32} {L : Nat → Nat → Int64} {R : Nat → Nat → Option Nat} {B : Nat → Nat} {n ri p : Nat} {st : rS}
variable {S base : List Nat} {d x : Nat} {Q : Option Value → xH → Prop}
/-- a fault stands, the mark at most one behind the end -/
def Msx (I : Nat → Nat → Int32) (B : Nat → Nat) (n ri : Nat) (F : Int32) : Prop := ¬ F = 0 ∧ (∃ p, p ≤ n + 1 ∧ Mr I B n p F) ∧ I 290 50 = nI ri ∧ ri < 6 ∧ I 290 56 = 11
theorem Msw.toX {F : Int32} (h : Msw I B n ri F) : Msx I B n ri F := by
  obtain ⟨h0x, ⟨p, hp, hm⟩, h8x⟩ := h
  exact ⟨h0x, ⟨p, by omega, hm⟩, h8x⟩
theorem ms_tx (hM : MW sh R) {F w : Int32} (hw : Msx I B n ri F) (hQ : Q none (sh, I, L, R)) : Eg X xTc 10 212 9 [(0, .ref 290), (1, .int w), (2, .int 1)] [] (sh, I, L, R) Q := by
  obtain ⟨h0x, ⟨p, hp, hm⟩, -⟩ := id hw
  refine e_iload rfl rfl ?_
  refine e_ifeq_f rfl (by decide) ?_
  refine e_aload rfl rfl ?_
  refine e_getIv rfl hM.1 hm.2.2 ?_
  refine e_ifne_t rfl h0x ?_
  exact Eg.ret rfl (by decide) rfl hQ
theorem ms_tw1 (hM : MW sh R) (hr : Cf0x I B n ri p st S d) (hl : S.length < 400)
    (hA : ∀ J : Nat → Nat → Int32, MqT I J ri → (wdH B n st.1 = 12 ∨ sgH B n st.1 = 91) → ((d = 10 ∧ Msw J B n ri (fl 0 st.1 2)) ∨ (d < 10 ∧ ∃ p', Cf0x J B n ri p' (goN B n st) ((if wdH B n st.1 = 12 then 9 else 12) :: S) (d + 1))) → Eg X xTc 10 212 9 [(0, .ref 290), (1, .int 1), (2, .int 1)] [] (sh, J, L, R) Q)
    (hC : ∀ J : Nat → Nat → Int32, MqT I J ri → (¬ wdH B n st.1 = 12 ∧ ¬ sgH B n st.1 = 91) → (((rCmp B n st).1 = 0 ∧ Cf0x J B n ri (rCmp B n st).2.1 (rCmp B n st).2 S d) ∨ Msw J B n ri (rCmp B n st).1) → Eg X xTc 10 212 9 [(0, .ref 290), (1, .int 0), (2, .int 1)] [] (sh, J, L, R) Q) : Eg X xTc 10 212 9 [(0, .ref 290), (1, .int 1), (2, .int 1)] [] (sh, I, L, R) Q := by
  refine e_iload rfl rfl ?_
  refine e_ifeq_f rfl (by decide) ?_
  refine e_aload rfl rfl ?_
  refine e_getIv rfl hM.1 hr.1.1.2.2 ?_
  refine e_ifne_f rfl rfl ?_
  refine e_iload rfl rfl ?_
  refine e_ifeq_f rfl (by decide) ?_
  refine e_aload rfl rfl ?_
  refine Eg.c1 rfl (by decide) (by decide) rfl (Nat.le_of_ble_eq_true rfl) (xrcv_of rfl hM.1 rfl) ((ms_fact hM hr hl).mono (by decide)) (fun r1x h1x hq => ?_)
  obtain ⟨J, rfl, q1x, hz⟩ := hq
  rcases hz with ⟨ha, rfl, hz⟩ | ⟨ha, rfl, hz⟩
  · have ha' := ha
    refine e_ifne_f rfl rfl ?_
    refine e_ipush rfl ?_
    refine e_goto rfl ?_
    refine e_istore rfl ?_
    refine e_goto rfl ?_
    refine Eg.pk [0, 1, 2] [1, 0, 2] rfl (by decide) ?_
    exact hA J q1x ha hz
  · have ha' := ha
    refine e_ifne_t rfl (by decide) ?_
    refine e_ipush rfl ?_
    refine e_istore rfl ?_
    refine e_goto rfl ?_
    refine Eg.pk [0, 1, 2] [1, 0, 2] rfl (by decide) ?_
    exact hC J q1x ha hz
theorem ms_tend (hM : MW sh R) (hr : Cf0x I B n ri p st [] d) (hQ : Q none (sh, I, L, R)) : Eg X xTc 10 212 137 [(0, .ref 290), (1, .int 0), (2, .int 1), (3, .int 0), (4, .int 0)] [] (sh, I, L, R) Q := by
  obtain ⟨hm, h55x, h53x, hS, hd, hl4x⟩ := id hr
  refine e_aload rfl rfl ?_
  refine Eg.p1 rfl (by decide) (by decide) rfl (Nat.le_of_ble_eq_true rfl) (xrcv_of rfl hM.1 rfl) ((ms_top hM h55x hS hl4x).mono (by decide)) ?_
  refine e_ipush rfl ?_
  refine e_cne_t rfl (by decide) ?_
  refine e_ipush rfl ?_
  refine e_istore rfl ?_
  refine e_goto rfl ?_
  refine e_iload rfl rfl ?_
  refine e_ifeq_t rfl rfl ?_
  exact Eg.ret rfl (by decide) rfl hQ
theorem ms_tcl (hM : MW sh R) (hr : Cf0x I B n ri st.1 st (12 :: S) (d + 1))
    (hok : sgH B n st.1 = 93 → ∀ (J : Nat → Nat → Int32) (p' : Nat), MqT I J ri → Cf0x J B n ri p' (goN B n st) S d → Eg X xTc 10 212 9 [(0, .ref 290), (1, .int 0), (2, .int 1)] [] (sh, J, L, R) Q)
    (hbad : ¬ sgH B n st.1 = 93 → ∀ J : Nat → Nat → Int32, MqT I J ri → Msx J B n ri (fl 0 st.1 0) → Q none (sh, J, L, R)) : Eg X xTc 10 212 137 [(0, .ref 290), (1, .int 0), (2, .int 1), (3, .int 0), (4, .int 0)] [] (sh, I, L, R) Q := by
  obtain ⟨hm, h55x, h53x, hS, hd, hl4x⟩ := id hr
  obtain ⟨hsn, hn, hps, htk⟩ := hm.le
  have hbb := hm.bb
  have h55' : I 290 55 = nI (S.length + 1) := h55x
  have hl5x : S.length + 1 ≤ 400 := hl4x
  have nl := nxt_le (B := B) (n := n) (p := st.1) hsn
  refine e_aload rfl rfl ?_
  refine Eg.p1 rfl (by decide) (by decide) rfl (Nat.le_of_ble_eq_true rfl) (xrcv_of rfl hM.1 rfl) ((ms_top hM h55x hS hl4x).mono (by decide)) ?_
  refine e_ipush rfl ?_
  refine e_cne_f rfl rfl ?_
  refine e_aload rfl rfl ?_
  refine Eg.p1 rfl (by decide) (by decide) rfl (Nat.le_of_ble_eq_true rfl) (xrcv_of rfl hM.1 rfl) ((ms_sign hM hm.1 (by omega)).mono (by decide)) ?_
  refine e_ipush rfl ?_
  refine e_ceq_b rfl (fun b152x => ?_) (fun b152x => ?_)
  · refine e_aload rfl rfl ?_
    refine e_dupr rfl ?_
    refine e_getIv rfl hM.1 hm.1.2.1 ?_
    refine e_ipush rfl ?_
    refine e_iadd rfl ?_
    rw [show (nI st.1) + 1 = nI (st.1 + 1) from nI_1 _]
    refine e_putIJ rfl hM.1 (fun J21x g21x f21x => ?_)
    refine e_aload rfl rfl ?_
    refine e_dupr rfl ?_
    refine e_getIv rfl hM.1 ((f21x 290 55 (by omega)).trans h55') ?_
    refine e_ipush rfl ?_
    refine e_isub rfl ?_
    rw [show (nI (S.length + 1)) - 1 = nI S.length from (show nI (S.length + 1) - nI 1 = _ from nI_sub (by omega))]
    refine e_putIJ rfl hM.1 (fun J22x g22x f22x => ?_)
    refine e_aload rfl rfl ?_
    refine e_dupr rfl ?_
    refine e_getIv rfl hM.1 ((f22x 290 53 (by omega)).trans ((f21x 290 53 (by omega)).trans h53x)) ?_
    refine e_ipush rfl ?_
    refine e_isub rfl ?_
    rw [show (nI (d + 1)) - 1 = nI d from (show nI (d + 1) - nI 1 = _ from nI_sub (by omega))]
    refine e_putIJ rfl hM.1 (fun J23x g23x f23x => ?_)
    refine e_goto rfl ?_
    refine e_goto rfl ?_
    refine Eg.pk [0, 1, 2] [0, 1, 2, 3, 4] rfl (by decide) ?_
    have fr : ∀ i k, (i ≠ 290 ∨ (k ≠ 48 ∧ k ≠ 55 ∧ k ≠ 53)) → J23x i k = I i k := fun i k q => (f23x i k (by omega)).trans ((f22x i k (by omega)).trans (f21x i k (by omega)))
    have p48x : J23x 290 48 = nI (st.1 + 1) := (f23x 290 48 (by omega)).trans ((f22x 290 48 (by omega)).trans g21x)
    have e93x : sgH B n st.1 = 93 := (sgMH (c := 93) hbb (by decide) (by decide) (by decide) (by decide)).mp b152x
    obtain ⟨lt9x, nx9x⟩ := nxt_c (c := 93) hbb (by decide) (by decide) (by decide) (by decide) b152x
    have mfa : MF I J21x := fun i k q => f21x i k (by omega)
    have ma : Mr J21x B n (st.1 + 1) 0 := hm.1.fr mfa g21x ((f21x 290 49 (by decide)).trans hm.1.2.2)
    have ca : Mst J21x B n ri (st.1 + 1) (goN B n st) := hm.mv ma (by omega) nx9x nl.1 mfa
    have cc : Mst J23x B n ri (st.1 + 1) (goN B n st) := ca.fr (fun i k q => (f23x i k (by omega)).trans (f22x i k (by omega)))
    exact hok e93x J23x _ (fun i k x y z => fr i k (by omega)) ⟨cc, (f23x 290 55 (by omega)).trans g22x, g23x, hS.2.fr _ (fun k _ => fr 344 k (by omega)), by omega, by omega⟩
  · refine e_aload rfl rfl ?_
    refine e_ipush rfl ?_
    refine e_aload rfl rfl ?_
    refine e_getIv rfl hM.1 hm.1.2.1 ?_
    refine Eg.c3 rfl (by decide) (by decide) rfl (Nat.le_of_ble_eq_true rfl) (xrcv_of rfl hM.1 rfl) ((ms_fails hM hm.1 (k := 0) (q := st.1)).mono (by decide)) (fun r1x h1x hq => ?_)
    obtain ⟨rfl, K, rfl, b1x, b2x⟩ := hq
    refine e_aload rfl rfl ?_
    refine e_dupr rfl ?_
    refine e_getIv rfl hM.1 b1x.2.1 ?_
    refine e_ipush rfl ?_
    refine e_iadd rfl ?_
    rw [show (nI st.1) + 1 = nI (st.1 + 1) from nI_1 _]
    refine e_putIJ rfl hM.1 (fun J24x g24x f24x => ?_)
    refine e_aload rfl rfl ?_
    refine e_dupr rfl ?_
    refine e_getIv rfl hM.1 ((f24x 290 55 (by omega)).trans ((b2x 290 55 (by decide)).trans h55')) ?_
    refine e_ipush rfl ?_
    refine e_isub rfl ?_
    rw [show (nI (S.length + 1)) - 1 = nI S.length from (show nI (S.length + 1) - nI 1 = _ from nI_sub (by omega))]
    refine e_putIJ rfl hM.1 (fun J25x g25x f25x => ?_)
    refine e_aload rfl rfl ?_
    refine e_dupr rfl ?_
    refine e_getIv rfl hM.1 ((f25x 290 53 (by omega)).trans ((f24x 290 53 (by omega)).trans ((b2x 290 53 (by decide)).trans h53x))) ?_
    refine e_ipush rfl ?_
    refine e_isub rfl ?_
    rw [show (nI (d + 1)) - 1 = nI d from (show nI (d + 1) - nI 1 = _ from nI_sub (by omega))]
    refine e_putIJ rfl hM.1 (fun J26x g26x f26x => ?_)
    refine e_goto rfl ?_
    refine e_goto rfl ?_
    refine Eg.pk [0, 1, 2] [0, 1, 2, 3, 4] rfl (by decide) ?_
    have fr : ∀ i k, (i ≠ 290 ∨ (k ≠ 48 ∧ k ≠ 55 ∧ k ≠ 53)) → J26x i k = K i k := fun i k q => (f26x i k (by omega)).trans ((f25x i k (by omega)).trans (f24x i k (by omega)))
    have p48x : J26x 290 48 = nI (st.1 + 1) := (f26x 290 48 (by omega)).trans ((f25x 290 48 (by omega)).trans g24x)
    have e93x : ¬ sgH B n st.1 = 93 := fun e => b152x ((sgMH (c := 93) hbb (by decide) (by decide) (by decide) (by decide)).mpr e)
    have wk : Msw K B n ri (fl 0 st.1 0) := hm.wk (fl_ne (by omega)) b1x hsn (MqF.of b2x)
    have mc : Mr J26x B n (st.1 + 1) (fl 0 st.1 0) := ⟨⟨b1x.1.1, (fr 290 47 (by omega)).trans b1x.1.2.1, fun j hj => ⟨(b1x.1.2.2 j hj).1, (fr 337 j (by omega)).trans (b1x.1.2.2 j hj).2⟩⟩, p48x, (fr 290 49 (by omega)).trans b1x.2.2⟩
    have xx : Msx J26x B n ri (fl 0 st.1 0) := ⟨wk.1, ⟨_, by omega, mc⟩, (fr 290 50 (by omega)).trans wk.2.2.1, wk.2.2.2.1, (fr 290 56 (by omega)).trans wk.2.2.2.2⟩
    exact ms_tx hM xx (hbad e93x J26x ((MqT.of (MqF.of b2x)).tr (fun i k x y z => fr i k (by omega))) xx)
end MU8x
