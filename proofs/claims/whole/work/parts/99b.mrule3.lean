/-! A RULE read, the other side: terms, sums -/
section MU3x
variable {X : xX} {h : xH} {sh : List (Nat × Nat)} {I : Nat → Nat → Int32} {L : Nat → Nat → Int64} {R : Nat → Nat → Option Nat} {B : Nat → Nat} {n ri p : Nat} {st : rS}
theorem sgMH {p c : Nat} (hB : ∀ j, j < n → B j < 256) (hc : c < 256) (h1x : isL c = false) (h2x : isD c = false) (h3x : c ≠ 60 ∧ c ≠ 62) : sgM B n p = nI c ↔ sgH B n p = nI c := (sgM_eq hB hc).trans (sgH_c hB hc h1x h2x h3x).symm
theorem nxt_c {p c : Nat} (hB : ∀ j, j < n → B j < 256) (hc : c < 256) (h1x : isL c = false) (h2x : isD c = false) (h3x : c ≠ 60 ∧ c ≠ 62) (h : sgM B n p = nI c) : p < n ∧ skp B n (p + 1) = nxt B n p := by
  obtain ⟨a, b⟩ := (sgM_eq hB hc).mp h
  refine ⟨a, ?_⟩
  unfold nxt; rw [if_pos a, tend_c (by rw [b]; exact h1x) (by rw [b]; exact h2x) (by rw [b]; exact h3x)]
theorem Mst.bb (h : Mst I B n ri p st) : ∀ j, j < n → B j < 256 := fun j hj => (h.1.1.2.2 j hj).1
theorem ms_blS (hM : MW sh R) (hr : Mst I B n ri p st) : Ec X 2 197 [.ref 290] (sh, I, L, R) (fun r h' => r = none ∧ ∃ J : Nat → Nat → Int32, h' = (sh, J, L, R) ∧ Mst J B n ri st.1 st ∧ MqF I J ri) := by
  have hl := hr.le
  have hp := hr.2.1
  refine (ms_blanks hM hr.1 (by omega)).imp ?_
  rintro r h' ⟨rfl, J, rfl, a1x, a2x⟩
  exact ⟨rfl, J, rfl, hr.bl a1x a2x, MqF.of a2x⟩
theorem ms_blW (hM : MW sh R) {F : Int32} (hw : Msw I B n ri F) : Ec X 2 197 [.ref 290] (sh, I, L, R) (fun r h' => r = none ∧ ∃ J : Nat → Nat → Int32, h' = (sh, J, L, R) ∧ Msw J B n ri F ∧ MqF I J ri) := by
  obtain ⟨h0x, ⟨p, hp, hm⟩, -⟩ := id hw
  have hn := hm.1.1
  refine (ms_blanks hM hm (by omega)).imp ?_
  rintro r h' ⟨rfl, J, rfl, a1x, a2x⟩
  exact ⟨rfl, J, rfl, hw.mv a1x ((skp_le (B := B) (n := n) (p := p)).2 hp) (MqF.of a2x), MqF.of a2x⟩
theorem tmS_M {p : Nat} (hB : ∀ j, j < n → B j < 256) : tmS B n p = if sgM B n p = 42 then 13 else if sgM B n p = 47 then 14 else if sgM B n p = 37 then 15 else 0 := by
  have a : sgM B n p = 42 ↔ sgH B n p = 42 := sgMH (c := 42) hB (by decide) (by decide) (by decide) (by decide)
  have b : sgM B n p = 47 ↔ sgH B n p = 47 := sgMH (c := 47) hB (by decide) (by decide) (by decide) (by decide)
  have c : sgM B n p = 37 ↔ sgH B n p = 37 := sgMH (c := 37) hB (by decide) (by decide) (by decide) (by decide)
  unfold tmS; simp only [a, b, c]
theorem plS_M {p : Nat} (hB : ∀ j, j < n → B j < 256) : plS B n p = if sgM B n p = 43 then 2 else if sgM B n p = 45 then 3 else 0 := by
  have a : sgM B n p = 43 ↔ sgH B n p = 43 := sgMH (c := 43) hB (by decide) (by decide) (by decide) (by decide)
  have b : sgM B n p = 45 ↔ sgH B n p = 45 := sgMH (c := 45) hB (by decide) (by decide) (by decide) (by decide)
  unfold plS; simp only [a, b]
theorem mRt.tr {J K : Nat → Nat → Int32} {D : Int32 × rS} (h : MqF I J ri) (g : mRt J K B n ri D) : mRt I K B n ri D := ⟨h.tr g.1, g.2⟩
theorem ms_signW (hM : MW sh R) {F : Int32} (hw : Msw I B n ri F) : Ec X 1 196 [.ref 290] (sh, I, L, R) (fun r h' => ∃ x, r = some (.int x) ∧ h' = (sh, I, L, R)) := by
  obtain ⟨h0x, ⟨p, hp, hm⟩, -⟩ := id hw
  have hn := hm.1.1
  refine (ms_sign hM hm (by omega)).imp ?_
  rintro r h' ⟨rfl, rfl⟩; exact ⟨_, rfl, rfl⟩
theorem rV_Gx (hn : n ≤ 400) {st : rS} (ht : tok B n st.1) (h : (rV B n st).1 = 0) : rG B n st (rV B n st).2 1 [] [false] := (rV_G hn ht h).1
theorem ms_term_loop (hM : MW sh R) : ∀ (N a : Nat) (st : rS) (I : Nat → Nat → Int32), n - st.1 = N → n - st.1 ≤ a → Mst I B n ri st.1 st → Eg X xTc 6 205 8 [(0, .ref 290)] [] (sh, I, L, R) (fun r h' => r = none ∧ ∃ J : Nat → Nat → Int32, h' = (sh, J, L, R) ∧ mRt I J B n ri (tmL B n a st)) := by
  intro N
  induction N using Nat.strongRecOn with
  | _ N ih =>
  intro a st I hN ha hr
  obtain ⟨hsn, hn, hps, htk⟩ := hr.le
  have hbd := hr.2.2.2.2.2.2.1
  have hbb := hr.bb
  have hS := tmS_M (p := st.1) hbb
  refine e_aload rfl rfl ?_
  refine e_getIv rfl hM.1 hr.1.2.2 ?_
  refine e_ifne_f rfl rfl ?_
  refine e_aload rfl rfl ?_
  refine Eg.p1 rfl (by decide) (by decide) rfl (Nat.le_of_ble_eq_true rfl) (xrcv_of rfl hM.1 rfl) ((ms_sign hM hr.1 (by omega)).mono (by decide)) ?_
  refine e_ipush rfl ?_
  refine e_ceq_b rfl (fun b21x => ?_) (fun b21x => ?_)
  · refine e_aload rfl rfl ?_
    refine Eg.p1 rfl (by decide) (by decide) rfl (Nat.le_of_ble_eq_true rfl) (xrcv_of rfl hM.1 rfl) ((ms_sign hM hr.1 (by omega)).mono (by decide)) ?_
    refine e_ipush rfl ?_
    refine e_cne_f rfl b21x ?_
    refine e_ipush rfl ?_
    refine e_goto rfl ?_
    refine e_istore rfl ?_
    refine e_aload rfl rfl ?_
    refine e_dupr rfl ?_
    refine e_getIv rfl hM.1 hr.1.2.1 ?_
    refine e_ipush rfl ?_
    refine e_iadd rfl ?_
    rw [show (nI st.1) + 1 = nI (st.1 + 1) from nI_1 _]
    refine e_putIJ rfl hM.1 (fun J21x g21x f21x => ?_)
    have eS : tmS B n st.1 = 13 := by rw [hS, if_pos b21x]
    obtain ⟨lt, nx⟩ := nxt_c (c := 42) hbb (by decide) (by decide) (by decide) (by decide) b21x
    have nl := nxt_le (B := B) (n := n) (p := st.1) hsn
    have nl3x := nl.2.2 lt
    have r0x : Mr J21x B n (st.1 + 1) 0 := hr.1.fr (fun i k q => f21x i k (by omega)) g21x ((f21x 290 49 (by decide)).trans hr.1.2.2)
    have c0x : Mst J21x B n ri (st.1 + 1) (goN B n st) := hr.mv r0x (by omega) nx nl.1 (fun i k q => f21x i k (by omega))
    have m0x : MqF I J21x ri := fun i k a b => f21x i k (by omega)
    obtain ⟨a', rfl⟩ : ∃ a', a = a' + 1 := ⟨a - 1, by omega⟩
    have nS : ¬ tmS B n st.1 = 0 := by rw [eS]; decide
    refine e_aload rfl rfl ?_
    refine Eg.c1 rfl (by decide) (by decide) rfl (Nat.le_of_ble_eq_true rfl) (xrcv_of rfl hM.1 rfl) ((ms_val hM c0x).mono (by decide)) (fun r1x h1x hq => ?_)
    obtain ⟨rfl, K2x, rfl, k2x, hz2x⟩ := hq
    replace k2x := MqF.tr (m0x) k2x
    rcases hz2x with ⟨e2x, ⟨p2x, c2x⟩⟩ | v2x
    · have e2' := e2x
      have gA : rG B n st (goN B n st) 1 [false] [false] := rG.go lt
      have gB := rV_Gx hn (gA.tk htk) e2x
      have hbE : 2 * ((rV B n (goN B n st)).2.2.2.length + 1) ≤ 2 * (rV B n (goN B n st)).2.2.1 + (rV B n (goN B n st)).2.1 := (gA.tr (gB.ext [false])).b2 (j := 1) (by decide) hbd
      have gle := gB.le
      refine e_aload rfl rfl ?_
      refine e_iload rfl rfl ?_
      refine e_ipush rfl ?_
      refine Eg.c3 rfl (by decide) (by decide) rfl (Nat.le_of_ble_eq_true rfl) (xrcv_of rfl hM.1 rfl) ((ms_entry hM c2x (e := (13, 0)) hbE).mono (by decide)) (fun r1x h1x hq => ?_)
      obtain ⟨rfl, K3x, rfl, c3x, k3x⟩ := hq
      replace k3x := MqF.tr (k2x) k3x
      refine e_aload rfl rfl ?_
      refine Eg.c1 rfl (by decide) (by decide) rfl (Nat.le_of_ble_eq_true rfl) (xrcv_of rfl hM.1 rfl) ((ms_blS hM c3x).mono (by decide)) (fun r1x h1x hq => ?_)
      obtain ⟨rfl, K4x, rfl, c4x, k4x⟩ := hq
      replace k4x := MqF.tr (k3x) k4x
      refine e_goto rfl ?_
      refine Eg.pk [0] [1, 0] rfl (by decide) ?_
      have eD : tmL B n (a' + 1) st = tmL B n a' (adE 13 (rV B n (goN B n st)).2) := by rw [tmL, if_neg nS, if_neg (fun q => q e2x), eS]
      have gle2 : nxt B n st.1 ≤ (rV B n (goN B n st)).2.1 := gle
      refine (ih _ (by rw [← hN]; show n - (rV B n (goN B n st)).2.1 < _; omega) a' (adE 13 (rV B n (goN B n st)).2) K4x rfl (by show n - (rV B n (goN B n st)).2.1 ≤ a'; omega) c4x).imp ?_
      rintro r h' ⟨rfl, T, rfl, t1x⟩
      exact ⟨rfl, T, rfl, by rw [eD]; exact t1x.tr k4x⟩
    · have z2x := v2x.1
      refine e_aload rfl rfl ?_
      refine e_iload rfl rfl ?_
      refine e_ipush rfl ?_
      refine Eg.c3 rfl (by decide) (by decide) rfl (Nat.le_of_ble_eq_true rfl) (xrcv_of rfl hM.1 rfl) ((ms_entryW hM v2x).mono (by decide)) (fun r1x h1x hq => ?_)
      obtain ⟨rfl, rfl⟩ := hq
      refine e_aload rfl rfl ?_
      refine Eg.c1 rfl (by decide) (by decide) rfl (Nat.le_of_ble_eq_true rfl) (xrcv_of rfl hM.1 rfl) ((ms_blW hM v2x).mono (by decide)) (fun r1x h1x hq => ?_)
      obtain ⟨rfl, K3x, rfl, v3x, k3x⟩ := hq
      replace k3x := MqF.tr (k2x) k3x
      refine e_goto rfl ?_
      refine e_aload rfl rfl ?_
      obtain ⟨-, ⟨pw, -, mw⟩, -⟩ := id v3x
      refine e_getIv rfl hM.1 mw.2.2 ?_
      refine e_ifne_t rfl v3x.1 ?_
      have eD : (tmL B n (a' + 1) st).1 = (rV B n (goN B n st)).1 := by rw [tmL, if_neg nS, if_pos z2x]
      exact Eg.ret rfl (by decide) rfl ⟨rfl, K3x, rfl, k3x, Or.inr (by rw [eD]; exact v3x)⟩
  · refine e_aload rfl rfl ?_
    refine Eg.p1 rfl (by decide) (by decide) rfl (Nat.le_of_ble_eq_true rfl) (xrcv_of rfl hM.1 rfl) ((ms_sign hM hr.1 (by omega)).mono (by decide)) ?_
    refine e_ipush rfl ?_
    refine e_ceq_b rfl (fun b30x => ?_) (fun b30x => ?_)
    · refine e_aload rfl rfl ?_
      refine Eg.p1 rfl (by decide) (by decide) rfl (Nat.le_of_ble_eq_true rfl) (xrcv_of rfl hM.1 rfl) ((ms_sign hM hr.1 (by omega)).mono (by decide)) ?_
      refine e_ipush rfl ?_
      refine e_cne_t rfl b21x ?_
      refine e_aload rfl rfl ?_
      refine Eg.p1 rfl (by decide) (by decide) rfl (Nat.le_of_ble_eq_true rfl) (xrcv_of rfl hM.1 rfl) ((ms_sign hM hr.1 (by omega)).mono (by decide)) ?_
      refine e_ipush rfl ?_
      refine e_cne_f rfl b30x ?_
      refine e_ipush rfl ?_
      refine e_goto rfl ?_
      refine e_istore rfl ?_
      refine e_aload rfl rfl ?_
      refine e_dupr rfl ?_
      refine e_getIv rfl hM.1 hr.1.2.1 ?_
      refine e_ipush rfl ?_
      refine e_iadd rfl ?_
      rw [show (nI st.1) + 1 = nI (st.1 + 1) from nI_1 _]
      refine e_putIJ rfl hM.1 (fun J22x g22x f22x => ?_)
      have eS : tmS B n st.1 = 14 := by rw [hS, if_neg b21x, if_pos b30x]
      obtain ⟨lt, nx⟩ := nxt_c (c := 47) hbb (by decide) (by decide) (by decide) (by decide) b30x
      have nl := nxt_le (B := B) (n := n) (p := st.1) hsn
      have nl3x := nl.2.2 lt
      have r0x : Mr J22x B n (st.1 + 1) 0 := hr.1.fr (fun i k q => f22x i k (by omega)) g22x ((f22x 290 49 (by decide)).trans hr.1.2.2)
      have c0x : Mst J22x B n ri (st.1 + 1) (goN B n st) := hr.mv r0x (by omega) nx nl.1 (fun i k q => f22x i k (by omega))
      have m0x : MqF I J22x ri := fun i k a b => f22x i k (by omega)
      obtain ⟨a', rfl⟩ : ∃ a', a = a' + 1 := ⟨a - 1, by omega⟩
      have nS : ¬ tmS B n st.1 = 0 := by rw [eS]; decide
      refine e_aload rfl rfl ?_
      refine Eg.c1 rfl (by decide) (by decide) rfl (Nat.le_of_ble_eq_true rfl) (xrcv_of rfl hM.1 rfl) ((ms_val hM c0x).mono (by decide)) (fun r1x h1x hq => ?_)
      obtain ⟨rfl, K2x, rfl, k2x, hz2x⟩ := hq
      replace k2x := MqF.tr (m0x) k2x
      rcases hz2x with ⟨e2x, ⟨p2x, c2x⟩⟩ | v2x
      · have e2' := e2x
        have gA : rG B n st (goN B n st) 1 [false] [false] := rG.go lt
        have gB := rV_Gx hn (gA.tk htk) e2x
        have hbE : 2 * ((rV B n (goN B n st)).2.2.2.length + 1) ≤ 2 * (rV B n (goN B n st)).2.2.1 + (rV B n (goN B n st)).2.1 := (gA.tr (gB.ext [false])).b2 (j := 1) (by decide) hbd
        have gle := gB.le
        refine e_aload rfl rfl ?_
        refine e_iload rfl rfl ?_
        refine e_ipush rfl ?_
        refine Eg.c3 rfl (by decide) (by decide) rfl (Nat.le_of_ble_eq_true rfl) (xrcv_of rfl hM.1 rfl) ((ms_entry hM c2x (e := (14, 0)) hbE).mono (by decide)) (fun r1x h1x hq => ?_)
        obtain ⟨rfl, K3x, rfl, c3x, k3x⟩ := hq
        replace k3x := MqF.tr (k2x) k3x
        refine e_aload rfl rfl ?_
        refine Eg.c1 rfl (by decide) (by decide) rfl (Nat.le_of_ble_eq_true rfl) (xrcv_of rfl hM.1 rfl) ((ms_blS hM c3x).mono (by decide)) (fun r1x h1x hq => ?_)
        obtain ⟨rfl, K4x, rfl, c4x, k4x⟩ := hq
        replace k4x := MqF.tr (k3x) k4x
        refine e_goto rfl ?_
        refine Eg.pk [0] [1, 0] rfl (by decide) ?_
        have eD : tmL B n (a' + 1) st = tmL B n a' (adE 14 (rV B n (goN B n st)).2) := by rw [tmL, if_neg nS, if_neg (fun q => q e2x), eS]
        have gle2 : nxt B n st.1 ≤ (rV B n (goN B n st)).2.1 := gle
        refine (ih _ (by rw [← hN]; show n - (rV B n (goN B n st)).2.1 < _; omega) a' (adE 14 (rV B n (goN B n st)).2) K4x rfl (by show n - (rV B n (goN B n st)).2.1 ≤ a'; omega) c4x).imp ?_
        rintro r h' ⟨rfl, T, rfl, t1x⟩
        exact ⟨rfl, T, rfl, by rw [eD]; exact t1x.tr k4x⟩
      · have z2x := v2x.1
        refine e_aload rfl rfl ?_
        refine e_iload rfl rfl ?_
        refine e_ipush rfl ?_
        refine Eg.c3 rfl (by decide) (by decide) rfl (Nat.le_of_ble_eq_true rfl) (xrcv_of rfl hM.1 rfl) ((ms_entryW hM v2x).mono (by decide)) (fun r1x h1x hq => ?_)
        obtain ⟨rfl, rfl⟩ := hq
        refine e_aload rfl rfl ?_
        refine Eg.c1 rfl (by decide) (by decide) rfl (Nat.le_of_ble_eq_true rfl) (xrcv_of rfl hM.1 rfl) ((ms_blW hM v2x).mono (by decide)) (fun r1x h1x hq => ?_)
        obtain ⟨rfl, K3x, rfl, v3x, k3x⟩ := hq
        replace k3x := MqF.tr (k2x) k3x
        refine e_goto rfl ?_
        refine e_aload rfl rfl ?_
        obtain ⟨-, ⟨pw, -, mw⟩, -⟩ := id v3x
        refine e_getIv rfl hM.1 mw.2.2 ?_
        refine e_ifne_t rfl v3x.1 ?_
        have eD : (tmL B n (a' + 1) st).1 = (rV B n (goN B n st)).1 := by rw [tmL, if_neg nS, if_pos z2x]
        exact Eg.ret rfl (by decide) rfl ⟨rfl, K3x, rfl, k3x, Or.inr (by rw [eD]; exact v3x)⟩
    · refine e_aload rfl rfl ?_
      refine Eg.p1 rfl (by decide) (by decide) rfl (Nat.le_of_ble_eq_true rfl) (xrcv_of rfl hM.1 rfl) ((ms_sign hM hr.1 (by omega)).mono (by decide)) ?_
      refine e_ipush rfl ?_
      refine e_cne_b rfl (fun b39x => ?_) (fun b39x => ?_)
      · have eS : tmS B n st.1 = 0 := by rw [hS, if_neg b21x, if_neg b30x, if_neg b39x]
        have eD : tmL B n a st = (0, st) := tmL_z eS
        exact Eg.ret rfl (by decide) rfl ⟨rfl, I, rfl, by rw [eD]; exact ⟨MqF.rf, Or.inl ⟨rfl, hr⟩⟩⟩
      · refine e_aload rfl rfl ?_
        refine Eg.p1 rfl (by decide) (by decide) rfl (Nat.le_of_ble_eq_true rfl) (xrcv_of rfl hM.1 rfl) ((ms_sign hM hr.1 (by omega)).mono (by decide)) ?_
        refine e_ipush rfl ?_
        refine e_cne_t rfl b21x ?_
        refine e_aload rfl rfl ?_
        refine Eg.p1 rfl (by decide) (by decide) rfl (Nat.le_of_ble_eq_true rfl) (xrcv_of rfl hM.1 rfl) ((ms_sign hM hr.1 (by omega)).mono (by decide)) ?_
        refine e_ipush rfl ?_
        refine e_cne_t rfl b30x ?_
        refine e_ipush rfl ?_
        refine e_istore rfl ?_
        refine e_aload rfl rfl ?_
        refine e_dupr rfl ?_
        refine e_getIv rfl hM.1 hr.1.2.1 ?_
        refine e_ipush rfl ?_
        refine e_iadd rfl ?_
        rw [show (nI st.1) + 1 = nI (st.1 + 1) from nI_1 _]
        refine e_putIJ rfl hM.1 (fun J23x g23x f23x => ?_)
        have eS : tmS B n st.1 = 15 := by rw [hS, if_neg b21x, if_neg b30x, if_pos b39x]
        obtain ⟨lt, nx⟩ := nxt_c (c := 37) hbb (by decide) (by decide) (by decide) (by decide) b39x
        have nl := nxt_le (B := B) (n := n) (p := st.1) hsn
        have nl3x := nl.2.2 lt
        have r0x : Mr J23x B n (st.1 + 1) 0 := hr.1.fr (fun i k q => f23x i k (by omega)) g23x ((f23x 290 49 (by decide)).trans hr.1.2.2)
        have c0x : Mst J23x B n ri (st.1 + 1) (goN B n st) := hr.mv r0x (by omega) nx nl.1 (fun i k q => f23x i k (by omega))
        have m0x : MqF I J23x ri := fun i k a b => f23x i k (by omega)
        obtain ⟨a', rfl⟩ : ∃ a', a = a' + 1 := ⟨a - 1, by omega⟩
        have nS : ¬ tmS B n st.1 = 0 := by rw [eS]; decide
        refine e_aload rfl rfl ?_
        refine Eg.c1 rfl (by decide) (by decide) rfl (Nat.le_of_ble_eq_true rfl) (xrcv_of rfl hM.1 rfl) ((ms_val hM c0x).mono (by decide)) (fun r1x h1x hq => ?_)
        obtain ⟨rfl, K2x, rfl, k2x, hz2x⟩ := hq
        replace k2x := MqF.tr (m0x) k2x
        rcases hz2x with ⟨e2x, ⟨p2x, c2x⟩⟩ | v2x
        · have e2' := e2x
          have gA : rG B n st (goN B n st) 1 [false] [false] := rG.go lt
          have gB := rV_Gx hn (gA.tk htk) e2x
          have hbE : 2 * ((rV B n (goN B n st)).2.2.2.length + 1) ≤ 2 * (rV B n (goN B n st)).2.2.1 + (rV B n (goN B n st)).2.1 := (gA.tr (gB.ext [false])).b2 (j := 1) (by decide) hbd
          have gle := gB.le
          refine e_aload rfl rfl ?_
          refine e_iload rfl rfl ?_
          refine e_ipush rfl ?_
          refine Eg.c3 rfl (by decide) (by decide) rfl (Nat.le_of_ble_eq_true rfl) (xrcv_of rfl hM.1 rfl) ((ms_entry hM c2x (e := (15, 0)) hbE).mono (by decide)) (fun r1x h1x hq => ?_)
          obtain ⟨rfl, K3x, rfl, c3x, k3x⟩ := hq
          replace k3x := MqF.tr (k2x) k3x
          refine e_aload rfl rfl ?_
          refine Eg.c1 rfl (by decide) (by decide) rfl (Nat.le_of_ble_eq_true rfl) (xrcv_of rfl hM.1 rfl) ((ms_blS hM c3x).mono (by decide)) (fun r1x h1x hq => ?_)
          obtain ⟨rfl, K4x, rfl, c4x, k4x⟩ := hq
          replace k4x := MqF.tr (k3x) k4x
          refine e_goto rfl ?_
          refine Eg.pk [0] [1, 0] rfl (by decide) ?_
          have eD : tmL B n (a' + 1) st = tmL B n a' (adE 15 (rV B n (goN B n st)).2) := by rw [tmL, if_neg nS, if_neg (fun q => q e2x), eS]
          have gle2 : nxt B n st.1 ≤ (rV B n (goN B n st)).2.1 := gle
          refine (ih _ (by rw [← hN]; show n - (rV B n (goN B n st)).2.1 < _; omega) a' (adE 15 (rV B n (goN B n st)).2) K4x rfl (by show n - (rV B n (goN B n st)).2.1 ≤ a'; omega) c4x).imp ?_
          rintro r h' ⟨rfl, T, rfl, t1x⟩
          exact ⟨rfl, T, rfl, by rw [eD]; exact t1x.tr k4x⟩
        · have z2x := v2x.1
          refine e_aload rfl rfl ?_
          refine e_iload rfl rfl ?_
          refine e_ipush rfl ?_
          refine Eg.c3 rfl (by decide) (by decide) rfl (Nat.le_of_ble_eq_true rfl) (xrcv_of rfl hM.1 rfl) ((ms_entryW hM v2x).mono (by decide)) (fun r1x h1x hq => ?_)
          obtain ⟨rfl, rfl⟩ := hq
          refine e_aload rfl rfl ?_
          refine Eg.c1 rfl (by decide) (by decide) rfl (Nat.le_of_ble_eq_true rfl) (xrcv_of rfl hM.1 rfl) ((ms_blW hM v2x).mono (by decide)) (fun r1x h1x hq => ?_)
          obtain ⟨rfl, K3x, rfl, v3x, k3x⟩ := hq
          replace k3x := MqF.tr (k2x) k3x
          refine e_goto rfl ?_
          refine e_aload rfl rfl ?_
          obtain ⟨-, ⟨pw, -, mw⟩, -⟩ := id v3x
          refine e_getIv rfl hM.1 mw.2.2 ?_
          refine e_ifne_t rfl v3x.1 ?_
          have eD : (tmL B n (a' + 1) st).1 = (rV B n (goN B n st)).1 := by rw [tmL, if_neg nS, if_pos z2x]
          exact Eg.ret rfl (by decide) rfl ⟨rfl, K3x, rfl, k3x, Or.inr (by rw [eD]; exact v3x)⟩
theorem ms_term (hM : MW sh R) (hr : Mst I B n ri p st) : Ec X 7 205 [.ref 290] (sh, I, L, R) (fun r h' => r = none ∧ ∃ J : Nat → Nat → Int32, h' = (sh, J, L, R) ∧ mRt I J B n ri (rTm B n st)) := by
  obtain ⟨hsn, hn, hps, htk⟩ := hr.le
  refine Ec.of (Nat.le_of_ble_eq_true rfl) ?_
  refine e_aload rfl rfl ?_
  refine Eg.c1 rfl (by decide) (by decide) rfl (Nat.le_of_ble_eq_true rfl) (xrcv_of rfl hM.1 rfl) ((ms_val hM hr).mono (by decide)) (fun r1x h1x hq => ?_)
  obtain ⟨rfl, K1x, rfl, k1x, hz1x⟩ := hq
  replace k1x := MqF.tr (MqF.rf) k1x
  rcases hz1x with ⟨e1x, ⟨p1x, c1x⟩⟩ | v1x
  · have e1' := e1x
    refine e_aload rfl rfl ?_
    refine Eg.c1 rfl (by decide) (by decide) rfl (Nat.le_of_ble_eq_true rfl) (xrcv_of rfl hM.1 rfl) ((ms_blS hM c1x).mono (by decide)) (fun r1x h1x hq => ?_)
    obtain ⟨rfl, K2x, rfl, c2x, k2x⟩ := hq
    replace k2x := MqF.tr (k1x) k2x
    refine Eg.pk [0] [0] rfl (by decide) ?_
    have eD : rTm B n st = tmL B n 401 (rV B n st).2 := by unfold rTm; rw [if_neg (fun q => q e1x)]
    refine (ms_term_loop hM _ 401 (rV B n st).2 K2x rfl (by have := c2x.le; omega) c2x).imp ?_
    rintro r h' ⟨rfl, T, rfl, t1x⟩
    exact ⟨rfl, T, rfl, by rw [eD]; exact t1x.tr k2x⟩
  · have z1x := v1x.1
    refine e_aload rfl rfl ?_
    refine Eg.c1 rfl (by decide) (by decide) rfl (Nat.le_of_ble_eq_true rfl) (xrcv_of rfl hM.1 rfl) ((ms_blW hM v1x).mono (by decide)) (fun r1x h1x hq => ?_)
    obtain ⟨rfl, K2x, rfl, v2x, k2x⟩ := hq
    replace k2x := MqF.tr (k1x) k2x
    refine e_aload rfl rfl ?_
    obtain ⟨-, ⟨pw, -, mw⟩, -⟩ := id v2x
    refine e_getIv rfl hM.1 mw.2.2 ?_
    refine e_ifne_t rfl v2x.1 ?_
    have eD : (rTm B n st).1 = (rV B n st).1 := by unfold rTm; rw [if_pos z1x]
    exact Eg.ret rfl (by decide) rfl ⟨rfl, K2x, rfl, k2x, Or.inr (by rw [eD]; exact v2x)⟩
theorem ms_termW (hM : MW sh R) {F : Int32} (hw : Msw I B n ri F) : Ec X 7 205 [.ref 290] (sh, I, L, R) (fun r h' => r = none ∧ ∃ J : Nat → Nat → Int32, h' = (sh, J, L, R) ∧ Msw J B n ri F ∧ MqF I J ri) := by
  refine Ec.of (Nat.le_of_ble_eq_true rfl) ?_
  refine e_aload rfl rfl ?_
  refine Eg.c1 rfl (by decide) (by decide) rfl (Nat.le_of_ble_eq_true rfl) (xrcv_of rfl hM.1 rfl) ((ms_valW hM hw).mono (by decide)) (fun r1x h1x hq => ?_)
  obtain ⟨rfl, K1x, rfl, v1x, k1x⟩ := hq
  replace k1x := MqF.tr (MqF.rf) k1x
  refine e_aload rfl rfl ?_
  refine Eg.c1 rfl (by decide) (by decide) rfl (Nat.le_of_ble_eq_true rfl) (xrcv_of rfl hM.1 rfl) ((ms_blW hM v1x).mono (by decide)) (fun r1x h1x hq => ?_)
  obtain ⟨rfl, K2x, rfl, v2x, k2x⟩ := hq
  replace k2x := MqF.tr (k1x) k2x
  refine e_aload rfl rfl ?_
  obtain ⟨-, ⟨pw, -, mw⟩, -⟩ := id v2x
  refine e_getIv rfl hM.1 mw.2.2 ?_
  refine e_ifne_t rfl v2x.1 ?_
  exact Eg.ret rfl (by decide) rfl ⟨rfl, K2x, rfl, v2x, k2x⟩
theorem ms_sum_loop (hM : MW sh R) : ∀ (N a : Nat) (st : rS) (I : Nat → Nat → Int32), n - st.1 = N → n - st.1 ≤ a → Mst I B n ri st.1 st → Eg X xTc 7 206 4 [(0, .ref 290)] [] (sh, I, L, R) (fun r h' => r = none ∧ ∃ J : Nat → Nat → Int32, h' = (sh, J, L, R) ∧ mRt I J B n ri (slL B n a st)) := by
  intro N
  induction N using Nat.strongRecOn with
  | _ N ih =>
  intro a st I hN ha hr
  obtain ⟨hsn, hn, hps, htk⟩ := hr.le
  have hbd := hr.2.2.2.2.2.2.1
  have hbb := hr.bb
  have hS := plS_M (p := st.1) hbb
  refine e_aload rfl rfl ?_
  refine e_getIv rfl hM.1 hr.1.2.2 ?_
  refine e_ifne_f rfl rfl ?_
  refine e_aload rfl rfl ?_
  refine Eg.p1 rfl (by decide) (by decide) rfl (Nat.le_of_ble_eq_true rfl) (xrcv_of rfl hM.1 rfl) ((ms_sign hM hr.1 (by omega)).mono (by decide)) ?_
  refine e_ipush rfl ?_
  refine e_ceq_b rfl (fun b17x => ?_) (fun b17x => ?_)
  · refine e_aload rfl rfl ?_
    refine Eg.p1 rfl (by decide) (by decide) rfl (Nat.le_of_ble_eq_true rfl) (xrcv_of rfl hM.1 rfl) ((ms_sign hM hr.1 (by omega)).mono (by decide)) ?_
    refine e_ipush rfl ?_
    refine e_cne_f rfl b17x ?_
    refine e_ipush rfl ?_
    refine e_goto rfl ?_
    refine e_istore rfl ?_
    refine e_aload rfl rfl ?_
    refine e_dupr rfl ?_
    refine e_getIv rfl hM.1 hr.1.2.1 ?_
    refine e_ipush rfl ?_
    refine e_iadd rfl ?_
    rw [show (nI st.1) + 1 = nI (st.1 + 1) from nI_1 _]
    refine e_putIJ rfl hM.1 (fun J21x g21x f21x => ?_)
    have eS : plS B n st.1 = 2 := by rw [hS, if_pos b17x]
    obtain ⟨lt, nx⟩ := nxt_c (c := 43) hbb (by decide) (by decide) (by decide) (by decide) b17x
    have nl := nxt_le (B := B) (n := n) (p := st.1) hsn
    have nl3x := nl.2.2 lt
    have r0x : Mr J21x B n (st.1 + 1) 0 := hr.1.fr (fun i k q => f21x i k (by omega)) g21x ((f21x 290 49 (by decide)).trans hr.1.2.2)
    have c0x : Mst J21x B n ri (st.1 + 1) (goN B n st) := hr.mv r0x (by omega) nx nl.1 (fun i k q => f21x i k (by omega))
    have m0x : MqF I J21x ri := fun i k a b => f21x i k (by omega)
    obtain ⟨a', rfl⟩ : ∃ a', a = a' + 1 := ⟨a - 1, by omega⟩
    have nS : ¬ plS B n st.1 = 0 := by rw [eS]; decide
    refine e_aload rfl rfl ?_
    refine Eg.c1 rfl (by decide) (by decide) rfl (Nat.le_of_ble_eq_true rfl) (xrcv_of rfl hM.1 rfl) ((ms_term hM c0x).mono (by decide)) (fun r1x h1x hq => ?_)
    obtain ⟨rfl, K2x, rfl, k2x, hz2x⟩ := hq
    replace k2x := MqF.tr (m0x) k2x
    rcases hz2x with ⟨e2x, c2x⟩ | v2x
    · have e2' := e2x
      have gA : rG B n st (goN B n st) 1 [false] [false] := rG.go lt
      have gB := rTm_G hn (gA.tk htk) e2x
      have hbE : 2 * ((rTm B n (goN B n st)).2.2.2.length + 1) ≤ 2 * (rTm B n (goN B n st)).2.2.1 + (rTm B n (goN B n st)).2.1 := (gA.tr (gB.ext [false])).b2 (j := 1) (by decide) hbd
      have gle := gB.le
      refine e_aload rfl rfl ?_
      refine e_iload rfl rfl ?_
      refine e_ipush rfl ?_
      refine Eg.c3 rfl (by decide) (by decide) rfl (Nat.le_of_ble_eq_true rfl) (xrcv_of rfl hM.1 rfl) ((ms_entry hM c2x (e := (2, 0)) hbE).mono (by decide)) (fun r1x h1x hq => ?_)
      obtain ⟨rfl, K3x, rfl, c3x, k3x⟩ := hq
      replace k3x := MqF.tr (k2x) k3x
      refine e_goto rfl ?_
      refine Eg.pk [0] [1, 0] rfl (by decide) ?_
      have eD : slL B n (a' + 1) st = slL B n a' (adE 2 (rTm B n (goN B n st)).2) := by rw [slL, if_neg nS, if_neg (fun q => q e2x), eS]
      have gle2 : nxt B n st.1 ≤ (rTm B n (goN B n st)).2.1 := gle
      refine (ih _ (by rw [← hN]; show n - (rTm B n (goN B n st)).2.1 < _; omega) a' (adE 2 (rTm B n (goN B n st)).2) K3x rfl (by show n - (rTm B n (goN B n st)).2.1 ≤ a'; omega) c3x).imp ?_
      rintro r h' ⟨rfl, T, rfl, t1x⟩
      exact ⟨rfl, T, rfl, by rw [eD]; exact t1x.tr k3x⟩
    · have z2x := v2x.1
      refine e_aload rfl rfl ?_
      refine e_iload rfl rfl ?_
      refine e_ipush rfl ?_
      refine Eg.c3 rfl (by decide) (by decide) rfl (Nat.le_of_ble_eq_true rfl) (xrcv_of rfl hM.1 rfl) ((ms_entryW hM v2x).mono (by decide)) (fun r1x h1x hq => ?_)
      obtain ⟨rfl, rfl⟩ := hq
      refine e_goto rfl ?_
      refine e_aload rfl rfl ?_
      obtain ⟨-, ⟨pw, -, mw⟩, -⟩ := id v2x
      refine e_getIv rfl hM.1 mw.2.2 ?_
      refine e_ifne_t rfl v2x.1 ?_
      have eD : (slL B n (a' + 1) st).1 = (rTm B n (goN B n st)).1 := by rw [slL, if_neg nS, if_pos z2x]
      exact Eg.ret rfl (by decide) rfl ⟨rfl, K2x, rfl, k2x, Or.inr (by rw [eD]; exact v2x)⟩
  · refine e_aload rfl rfl ?_
    refine Eg.p1 rfl (by decide) (by decide) rfl (Nat.le_of_ble_eq_true rfl) (xrcv_of rfl hM.1 rfl) ((ms_sign hM hr.1 (by omega)).mono (by decide)) ?_
    refine e_ipush rfl ?_
    refine e_cne_b rfl (fun b26x => ?_) (fun b26x => ?_)
    · have eS : plS B n st.1 = 0 := by rw [hS, if_neg b17x, if_neg b26x]
      have eD : slL B n a st = (0, st) := slL_z eS
      exact Eg.ret rfl (by decide) rfl ⟨rfl, I, rfl, by rw [eD]; exact ⟨MqF.rf, Or.inl ⟨rfl, hr⟩⟩⟩
    · refine e_aload rfl rfl ?_
      refine Eg.p1 rfl (by decide) (by decide) rfl (Nat.le_of_ble_eq_true rfl) (xrcv_of rfl hM.1 rfl) ((ms_sign hM hr.1 (by omega)).mono (by decide)) ?_
      refine e_ipush rfl ?_
      refine e_cne_t rfl b17x ?_
      refine e_ipush rfl ?_
      refine e_istore rfl ?_
      refine e_aload rfl rfl ?_
      refine e_dupr rfl ?_
      refine e_getIv rfl hM.1 hr.1.2.1 ?_
      refine e_ipush rfl ?_
      refine e_iadd rfl ?_
      rw [show (nI st.1) + 1 = nI (st.1 + 1) from nI_1 _]
      refine e_putIJ rfl hM.1 (fun J22x g22x f22x => ?_)
      have eS : plS B n st.1 = 3 := by rw [hS, if_neg b17x, if_pos b26x]
      obtain ⟨lt, nx⟩ := nxt_c (c := 45) hbb (by decide) (by decide) (by decide) (by decide) b26x
      have nl := nxt_le (B := B) (n := n) (p := st.1) hsn
      have nl3x := nl.2.2 lt
      have r0x : Mr J22x B n (st.1 + 1) 0 := hr.1.fr (fun i k q => f22x i k (by omega)) g22x ((f22x 290 49 (by decide)).trans hr.1.2.2)
      have c0x : Mst J22x B n ri (st.1 + 1) (goN B n st) := hr.mv r0x (by omega) nx nl.1 (fun i k q => f22x i k (by omega))
      have m0x : MqF I J22x ri := fun i k a b => f22x i k (by omega)
      obtain ⟨a', rfl⟩ : ∃ a', a = a' + 1 := ⟨a - 1, by omega⟩
      have nS : ¬ plS B n st.1 = 0 := by rw [eS]; decide
      refine e_aload rfl rfl ?_
      refine Eg.c1 rfl (by decide) (by decide) rfl (Nat.le_of_ble_eq_true rfl) (xrcv_of rfl hM.1 rfl) ((ms_term hM c0x).mono (by decide)) (fun r1x h1x hq => ?_)
      obtain ⟨rfl, K2x, rfl, k2x, hz2x⟩ := hq
      replace k2x := MqF.tr (m0x) k2x
      rcases hz2x with ⟨e2x, c2x⟩ | v2x
      · have e2' := e2x
        have gA : rG B n st (goN B n st) 1 [false] [false] := rG.go lt
        have gB := rTm_G hn (gA.tk htk) e2x
        have hbE : 2 * ((rTm B n (goN B n st)).2.2.2.length + 1) ≤ 2 * (rTm B n (goN B n st)).2.2.1 + (rTm B n (goN B n st)).2.1 := (gA.tr (gB.ext [false])).b2 (j := 1) (by decide) hbd
        have gle := gB.le
        refine e_aload rfl rfl ?_
        refine e_iload rfl rfl ?_
        refine e_ipush rfl ?_
        refine Eg.c3 rfl (by decide) (by decide) rfl (Nat.le_of_ble_eq_true rfl) (xrcv_of rfl hM.1 rfl) ((ms_entry hM c2x (e := (3, 0)) hbE).mono (by decide)) (fun r1x h1x hq => ?_)
        obtain ⟨rfl, K3x, rfl, c3x, k3x⟩ := hq
        replace k3x := MqF.tr (k2x) k3x
        refine e_goto rfl ?_
        refine Eg.pk [0] [1, 0] rfl (by decide) ?_
        have eD : slL B n (a' + 1) st = slL B n a' (adE 3 (rTm B n (goN B n st)).2) := by rw [slL, if_neg nS, if_neg (fun q => q e2x), eS]
        have gle2 : nxt B n st.1 ≤ (rTm B n (goN B n st)).2.1 := gle
        refine (ih _ (by rw [← hN]; show n - (rTm B n (goN B n st)).2.1 < _; omega) a' (adE 3 (rTm B n (goN B n st)).2) K3x rfl (by show n - (rTm B n (goN B n st)).2.1 ≤ a'; omega) c3x).imp ?_
        rintro r h' ⟨rfl, T, rfl, t1x⟩
        exact ⟨rfl, T, rfl, by rw [eD]; exact t1x.tr k3x⟩
      · have z2x := v2x.1
        refine e_aload rfl rfl ?_
        refine e_iload rfl rfl ?_
        refine e_ipush rfl ?_
        refine Eg.c3 rfl (by decide) (by decide) rfl (Nat.le_of_ble_eq_true rfl) (xrcv_of rfl hM.1 rfl) ((ms_entryW hM v2x).mono (by decide)) (fun r1x h1x hq => ?_)
        obtain ⟨rfl, rfl⟩ := hq
        refine e_goto rfl ?_
        refine e_aload rfl rfl ?_
        obtain ⟨-, ⟨pw, -, mw⟩, -⟩ := id v2x
        refine e_getIv rfl hM.1 mw.2.2 ?_
        refine e_ifne_t rfl v2x.1 ?_
        have eD : (slL B n (a' + 1) st).1 = (rTm B n (goN B n st)).1 := by rw [slL, if_neg nS, if_pos z2x]
        exact Eg.ret rfl (by decide) rfl ⟨rfl, K2x, rfl, k2x, Or.inr (by rw [eD]; exact v2x)⟩
theorem ms_sum (hM : MW sh R) (hr : Mst I B n ri p st) : Ec X 8 206 [.ref 290] (sh, I, L, R) (fun r h' => r = none ∧ ∃ J : Nat → Nat → Int32, h' = (sh, J, L, R) ∧ mRt I J B n ri (rSum B n st)) := by
  obtain ⟨hsn, hn, hps, htk⟩ := hr.le
  refine Ec.of (Nat.le_of_ble_eq_true rfl) ?_
  refine e_aload rfl rfl ?_
  refine Eg.c1 rfl (by decide) (by decide) rfl (Nat.le_of_ble_eq_true rfl) (xrcv_of rfl hM.1 rfl) ((ms_term hM hr).mono (by decide)) (fun r1x h1x hq => ?_)
  obtain ⟨rfl, K1x, rfl, k1x, hz1x⟩ := hq
  replace k1x := MqF.tr (MqF.rf) k1x
  rcases hz1x with ⟨e1x, c1x⟩ | v1x
  · have e1' := e1x
    refine Eg.pk [0] [0] rfl (by decide) ?_
    have eD : rSum B n st = slL B n 401 (rTm B n st).2 := by unfold rSum; rw [if_neg (fun q => q e1x)]
    refine (ms_sum_loop hM _ 401 (rTm B n st).2 K1x rfl (by have := c1x.le; omega) c1x).imp ?_
    rintro r h' ⟨rfl, T, rfl, t1x⟩
    exact ⟨rfl, T, rfl, by rw [eD]; exact t1x.tr k1x⟩
  · have z1x := v1x.1
    refine e_aload rfl rfl ?_
    obtain ⟨-, ⟨pw, -, mw⟩, -⟩ := id v1x
    refine e_getIv rfl hM.1 mw.2.2 ?_
    refine e_ifne_t rfl v1x.1 ?_
    have eD : (rSum B n st).1 = (rTm B n st).1 := by unfold rSum; rw [if_pos z1x]
    exact Eg.ret rfl (by decide) rfl ⟨rfl, K1x, rfl, k1x, Or.inr (by rw [eD]; exact v1x)⟩
theorem ms_sumW (hM : MW sh R) {F : Int32} (hw : Msw I B n ri F) : Ec X 8 206 [.ref 290] (sh, I, L, R) (fun r h' => r = none ∧ ∃ J : Nat → Nat → Int32, h' = (sh, J, L, R) ∧ Msw J B n ri F ∧ MqF I J ri) := by
  refine Ec.of (Nat.le_of_ble_eq_true rfl) ?_
  refine e_aload rfl rfl ?_
  refine Eg.c1 rfl (by decide) (by decide) rfl (Nat.le_of_ble_eq_true rfl) (xrcv_of rfl hM.1 rfl) ((ms_termW hM hw).mono (by decide)) (fun r1x h1x hq => ?_)
  obtain ⟨rfl, K1x, rfl, v1x, k1x⟩ := hq
  replace k1x := MqF.tr (MqF.rf) k1x
  refine e_aload rfl rfl ?_
  obtain ⟨-, ⟨pw, -, mw⟩, -⟩ := id v1x
  refine e_getIv rfl hM.1 mw.2.2 ?_
  refine e_ifne_t rfl v1x.1 ?_
  exact Eg.ret rfl (by decide) rfl ⟨rfl, K1x, rfl, v1x, k1x⟩
end MU3x
