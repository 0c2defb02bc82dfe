/-! A RULE read, the other side: one fact -/
section MU6x
variable {X : xX} {h : xH} {sh : List (Nat × Nat)} {I : Nat → Nat → Int32} {L : Nat → Nat → Int64} {R : Nat → Nat → Option Nat} {B : Nat → Nat} {n ri p : Nat} {st : rS}
variable {S : List Nat} {d x : Nat}
def FaO (I : Nat → Nat → Int32) (B : Nat → Nat) (n ri : Nat) (st : rS) (S : List Nat) (d : Nat) (r : Option Value) (J : Nat → Nat → Int32) : Prop := MqT I J ri ∧ (((wdH B n st.1 = 12 ∨ sgH B n st.1 = 91) ∧ r = some (.int 0) ∧ ((d = 10 ∧ Msw J B n ri (fl 0 st.1 2)) ∨ (d < 10 ∧ ∃ p', Cf0x J B n ri p' (goN B n st) ((if wdH B n st.1 = 12 then 9 else 12) :: S) (d + 1)))) ∨ ((¬ wdH B n st.1 = 12 ∧ ¬ sgH B n st.1 = 91) ∧ r = some (.int 1) ∧ (((rCmp B n st).1 = 0 ∧ Cf0x J B n ri (rCmp B n st).2.1 (rCmp B n st).2 S d) ∨ Msw J B n ri (rCmp B n st).1)))
theorem w12_iff : wdH B n st.1 = 12 ↔ wIs B n st.1 12 = true := wdH_iff (w := 12) (by decide)
theorem ms_fact (hM : MW sh R) (hr : Cf0x I B n ri p st S d) (hl : S.length < 400) : Ec X 10 211 [.ref 290] (sh, I, L, R) (fun r h' => ∃ J : Nat → Nat → Int32, h' = (sh, J, L, R) ∧ FaO I B n ri st S d r J) := by
  obtain ⟨hsn, hn, hps, htk⟩ := hr.1.le
  have hbb := hr.1.bb
  have nl := nxt_le (B := B) (n := n) (p := st.1) hsn
  refine Ec.of (Nat.le_of_ble_eq_true rfl) ?_
  refine e_aload rfl rfl ?_
  refine Eg.c1 rfl (by decide) (by decide) rfl (Nat.le_of_ble_eq_true rfl) (xrcv_of rfl hM.1 rfl) ((ms_blS hM hr.1).mono (by decide)) (fun r1x h1x hq => ?_)
  obtain ⟨rfl, J, rfl, c1x, k1x⟩ := hq
  have f1x := hr.q k1x c1x
  refine e_aload rfl rfl ?_
  refine e_text rfl ?_
  refine Eg.p2 rfl (by decide) (by decide) rfl (Nat.le_of_ble_eq_true rfl) (xrcv_of rfl hM.1 rfl) ((ms_stood hM c1x.1 (by omega) (j := 20) (w := 12) (by decide) (by decide) rfl).mono (by decide)) ?_
  refine e_ifeq_b rfl (fun b11x => ?_) (fun b11x => ?_)
  · replace b11x := yn_0.mp b11x
    refine e_aload rfl rfl ?_
    refine Eg.p1 rfl (by decide) (by decide) rfl (Nat.le_of_ble_eq_true rfl) (xrcv_of rfl hM.1 rfl) ((ms_sign hM c1x.1 (by omega)).mono (by decide)) ?_
    refine e_ipush rfl ?_
    refine e_cne_b rfl (fun b38x => ?_) (fun b38x => ?_)
    · refine e_aload rfl rfl ?_
      refine Eg.c1 rfl (by decide) (by decide) rfl (Nat.le_of_ble_eq_true rfl) (xrcv_of rfl hM.1 rfl) ((ms_compared hM c1x).mono (by decide)) (fun r1x h1x hq => ?_)
      obtain ⟨rfl, K, rfl, q2x, hz⟩ := hq
      refine e_ipush rfl ?_
      have ne12x : ¬ wdH B n st.1 = 12 := fun e => b11x (w12_iff.mp e)
      have ne91x : ¬ sgH B n st.1 = 91 := fun e => b38x ((sgMH (c := 91) hbb (by decide) (by decide) (by decide) (by decide)).mpr e)
      refine Eg.ret rfl (by decide) rfl ⟨K, rfl, (MqT.of k1x).tr (MqT.of q2x), Or.inr ⟨⟨ne12x, ne91x⟩, rfl, ?_⟩⟩
      rcases hz with ⟨e2x, c2x⟩ | v2x
      · exact Or.inl ⟨e2x, f1x.q q2x c2x⟩
      · exact Or.inr v2x
    · refine e_aload rfl rfl ?_
      refine e_ipush rfl ?_
      refine Eg.c2 rfl (by decide) (by decide) rfl (Nat.le_of_ble_eq_true rfl) (xrcv_of rfl hM.1 rfl) ((ms_opens hM f1x (x := 12) (by decide) hl).mono (by decide)) (fun r1x h1x hq => ?_)
      obtain ⟨rfl, K, rfl, q2x, hp48x, hz⟩ := hq
      have e91x : sgH B n st.1 = 91 := (sgMH (c := 91) hbb (by decide) (by decide) (by decide) (by decide)).mp b38x
      have ne12x : ¬ wdH B n st.1 = 12 := fun e => b11x (w12_iff.mp e)
      obtain ⟨lt9x, nx9x⟩ := nxt_c (c := 91) hbb (by decide) (by decide) (by decide) (by decide) b38x
      replace hp48x := hp48x.trans c1x.1.2.1
      rcases hz with ⟨-, d10x, v2x⟩ | ⟨-, d9x, f2x⟩ | ⟨xx, -⟩
      · have mm := v2x.at hp48x
        refine e_aload rfl rfl ?_
        refine e_dupr rfl ?_
        refine e_getIv rfl hM.1 hp48x ?_
        refine e_ipush rfl ?_
        refine e_iadd rfl ?_
        rw [show (nI st.1) + 1 = nI (st.1 + 1) from nI_1 _]
        refine e_putIJ rfl hM.1 (fun J21x g21x f21x => ?_)
        have mf : MF K J21x := fun i k a => f21x i k (by omega)
        have m3x : Mr J21x B n (st.1 + 1) (fl 0 st.1 2) := mm.fr mf g21x ((f21x 290 49 (by decide)).trans mm.2.2)
        refine e_ipush rfl ?_
        exact Eg.ret rfl (by decide) rfl ⟨J21x, rfl, ((MqT.of k1x).tr q2x).tr (MqT.of (MqF.of mf)), Or.inl ⟨Or.inr e91x, rfl, Or.inl ⟨d10x, v2x.mv m3x (by omega) (MqF.of mf)⟩⟩⟩
      · have mm := f2x.1.1
        refine e_aload rfl rfl ?_
        refine e_dupr rfl ?_
        refine e_getIv rfl hM.1 hp48x ?_
        refine e_ipush rfl ?_
        refine e_iadd rfl ?_
        rw [show (nI st.1) + 1 = nI (st.1 + 1) from nI_1 _]
        refine e_putIJ rfl hM.1 (fun J22x g22x f22x => ?_)
        have mf : MF K J22x := fun i k a => f22x i k (by omega)
        have m3x : Mr J22x B n (st.1 + 1) (0) := mm.fr mf g22x ((f22x 290 49 (by decide)).trans mm.2.2)
        have f3x := f2x.q (MqF.of mf) (f2x.1.mv m3x (by omega) nx9x nl.1 mf)
        refine e_ipush rfl ?_
        exact Eg.ret rfl (by decide) rfl ⟨J22x, rfl, ((MqT.of k1x).tr q2x).tr (MqT.of (MqF.of mf)), Or.inl ⟨Or.inr e91x, rfl, Or.inr ⟨d9x, _, by rw [if_neg ne12x]; exact f3x⟩⟩⟩
      · exact absurd xx (by decide)
  · replace b11x := yn_n0.mp b11x
    refine e_aload rfl rfl ?_
    refine e_ipush rfl ?_
    refine Eg.c2 rfl (by decide) (by decide) rfl (Nat.le_of_ble_eq_true rfl) (xrcv_of rfl hM.1 rfl) ((ms_opens hM f1x (x := 9) (by decide) hl).mono (by decide)) (fun r1x h1x hq => ?_)
    obtain ⟨rfl, K, rfl, q2x, hp48x, hz⟩ := hq
    have e12x := w12_iff.mpr b11x
    obtain ⟨wn1x, wn2x⟩ := wIs_nxt (w := 12) (by decide) b11x
    have wn1' : st.1 + 3 ≤ n := wn1x
    have wn2' : skp B n (st.1 + 3) = nxt B n st.1 := wn2x
    replace hp48x := hp48x.trans c1x.1.2.1
    rcases hz with ⟨-, d10x, v2x⟩ | ⟨-, d9x, f2x⟩ | ⟨xx, -⟩
    · have mm := v2x.at hp48x
      refine e_aload rfl rfl ?_
      refine e_dupr rfl ?_
      refine e_getIv rfl hM.1 hp48x ?_
      refine e_ipush rfl ?_
      refine e_iadd rfl ?_
      rw [show (nI st.1) + 3 = nI (st.1 + 3) from nI_add _ 3]
      refine e_putIJ rfl hM.1 (fun J23x g23x f23x => ?_)
      have mf : MF K J23x := fun i k a => f23x i k (by omega)
      have m3x : Mr J23x B n (st.1 + 3) (fl 0 st.1 2) := mm.fr mf g23x ((f23x 290 49 (by decide)).trans mm.2.2)
      refine e_ipush rfl ?_
      exact Eg.ret rfl (by decide) rfl ⟨J23x, rfl, ((MqT.of k1x).tr q2x).tr (MqT.of (MqF.of mf)), Or.inl ⟨Or.inl e12x, rfl, Or.inl ⟨d10x, v2x.mv m3x (by omega) (MqF.of mf)⟩⟩⟩
    · have mm := f2x.1.1
      refine e_aload rfl rfl ?_
      refine e_dupr rfl ?_
      refine e_getIv rfl hM.1 hp48x ?_
      refine e_ipush rfl ?_
      refine e_iadd rfl ?_
      rw [show (nI st.1) + 3 = nI (st.1 + 3) from nI_add _ 3]
      refine e_putIJ rfl hM.1 (fun J24x g24x f24x => ?_)
      have mf : MF K J24x := fun i k a => f24x i k (by omega)
      have m3x : Mr J24x B n (st.1 + 3) (0) := mm.fr mf g24x ((f24x 290 49 (by decide)).trans mm.2.2)
      have f3x := f2x.q (MqF.of mf) (f2x.1.mv m3x (by omega) wn2' nl.1 mf)
      refine e_ipush rfl ?_
      exact Eg.ret rfl (by decide) rfl ⟨J24x, rfl, ((MqT.of k1x).tr q2x).tr (MqT.of (MqF.of mf)), Or.inl ⟨Or.inl e12x, rfl, Or.inr ⟨d9x, _, by rw [if_pos e12x]; exact f3x⟩⟩⟩
    · exact absurd xx (by decide)
end MU6x
