/-! A RULE read, the other side: comparisons -/
section MU4x
variable {X : xX} {h : xH} {sh : List (Nat × Nat)} {I : Nat → Nat → Int32} {L : Nat → Nat → Int64} {R : Nat → Nat → Option Nat} {B : Nat → Nat} {n ri p : Nat} {st : rS}
theorem sgM_lt {q : Nat} (h : ¬ sgM B n q = -1) : q < n := Decidable.byContradiction (fun e => h (if_neg e))
theorem Msw.at {F : Int32} {q : Nat} (h : Msw I B n ri F) (h48x : I 290 48 = nI q) : Mr I B n q F := by
  obtain ⟨-, ⟨p, -, m⟩, -⟩ := h
  exact ⟨m.1, h48x, m.2.2⟩
/-- what a sign of comparison is -/
theorem cmp_6 {q : Nat} (hB : ∀ j, j < n → B j < 256) (h : sgM B n q = 61) : cmS B n q = 6 ∧ q < n ∧ skp B n (q + 1) = nxt B n q := by
  have e : sgH B n q = 61 := (sgMH (c := 61) hB (by decide) (by decide) (by decide) (by decide)).mp h
  refine ⟨?_, nxt_c (c := 61) hB (by decide) (by decide) (by decide) (by decide) h⟩
  unfold cmS; rw [e]; rfl
theorem sg_lg {q c : Nat} (hB : ∀ j, j < n → B j < 256) (hc : c = 60 ∨ c = 62) (h : sgM B n q = nI c) : q < n ∧ (sgM B n (q + 1) = 61 → sgH B n q = nI (c + 256) ∧ q + 1 < n ∧ skp B n (q + 1 + 1) = nxt B n q) ∧ (¬ sgM B n (q + 1) = 61 → sgH B n q = nI c ∧ skp B n (q + 1) = nxt B n q) := by
  obtain ⟨a, b⟩ := (sgM_eq hB (by omega)).mp h
  have hl : isL (B q) = false := by rw [b]; rcases hc with rfl | rfl <;> decide
  have hd : isD (B q) = false := by rw [b]; rcases hc with rfl | rfl <;> decide
  have k3x : tknd B n q = 3 := by unfold tknd; rw [if_neg (by omega), hl, hd]; rfl
  have ev : sgH B n q = if dbl B n q = true then nI (B q + 256) else nI (B q) := by
    unfold sgH; rw [if_pos k3x]; unfold tvl; rw [if_neg (by omega), hl, hd]; rfl
  have et : tend B n q = if dbl B n q = true then q + 2 else q + 1 := by unfold tend; rw [hl, hd]; rfl
  have en : nxt B n q = skp B n (tend B n q) := by unfold nxt; rw [if_pos a]
  have hs : sgM B n (q + 1) = 61 ↔ q + 1 < n ∧ B (q + 1) = 61 := sgM_eq (c := 61) hB (by decide)
  refine ⟨a, fun e => ?_, fun e => ?_⟩
  · obtain ⟨e1x, e2x⟩ := hs.mp e
    have hd2x : dbl B n q = true := dbl_iff.mpr ⟨by omega, e1x, e2x⟩
    rw [ev, en, et, if_pos hd2x, if_pos hd2x, b]; exact ⟨rfl, e1x, rfl⟩
  · have hd2x : ¬ dbl B n q = true := fun x => e (hs.mpr ⟨(dbl_iff.mp x).2.1, (dbl_iff.mp x).2.2⟩)
    rw [ev, en, et, if_neg hd2x, if_neg hd2x, b]; exact ⟨rfl, rfl⟩
theorem cmS_n {q : Nat} (hB : ∀ j, j < n → B j < 256) (h1x : ¬ sgM B n q = 60) (h2x : ¬ sgM B n q = 61) (h3x : ¬ sgM B n q = 62) : cmS B n q = 0 := by
  rw [cmS_0]
  have e61x : sgM B n q = 61 ↔ sgH B n q = 61 := sgMH (c := 61) hB (by decide) (by decide) (by decide) (by decide)
  have key : ∀ c, c = 60 ∨ c = 62 → (sgH B n q = nI c ∨ sgH B n q = nI (c + 256)) → sgM B n q = nI c := by
    intro c hc hs
    have hlt : q < n := sgH_lt (B := B) (by rcases hs with e | e <;> rw [e] <;> exact nI_m1' (by omega))
    have hb := hB q hlt
    unfold sgH at hs
    by_cases k3x : tknd B n q = 3
    · rw [if_pos k3x] at hs
      have hl : isL (B q) = false := by
        cases e : isL (B q) with
        | false => rfl
        | true => unfold tknd at k3x; rw [if_neg (by omega), e] at k3x; cases k3x
      have hd : isD (B q) = false := by
        cases e : isD (B q) with
        | false => rfl
        | true => unfold tknd at k3x; rw [if_neg (by omega), hl, e] at k3x; cases k3x
      have ev : tvl B n q = if dbl B n q = true then nI (B q + 256) else nI (B q) := by unfold tvl; rw [if_neg (by omega), hl, hd]; rfl
      rw [ev] at hs
      have : B q = c := by
        by_cases hx : dbl B n q = true
        · rw [if_pos hx] at hs
          rcases hs with e | e <;> have := (nI_eq (by omega) (by omega)).mp e <;> omega
        · rw [if_neg hx] at hs
          rcases hs with e | e <;> have := (nI_eq (by omega) (by omega)).mp e <;> omega
      exact (sgM_eq hB (by omega)).mpr ⟨hlt, this⟩
    · rw [if_neg k3x] at hs
      rcases hs with e | e <;> exact absurd e.symm (nI_m1' (by omega))
  exact ⟨fun e => h1x (key 60 (Or.inl rfl) (Or.inl e)), fun e => h2x (e61x.mpr e), fun e => h3x (key 62 (Or.inr rfl) (Or.inl e)), fun e => h1x (key 60 (Or.inl rfl) (Or.inr e)), fun e => h3x (key 62 (Or.inr rfl) (Or.inr e))⟩
theorem cmS_of {q k : Nat} {s : Int32} (e : sgH B n q = s) (h : (s = 60 ∧ k = 4) ∨ (s = 316 ∧ k = 5) ∨ (s = 318 ∧ k = 7) ∨ (s = 62 ∧ k = 8)) : cmS B n q = k := by
  unfold cmS; rw [e]; rcases h with ⟨rfl, rfl⟩ | ⟨rfl, rfl⟩ | ⟨rfl, rfl⟩ | ⟨rfl, rfl⟩ <;> rfl
theorem ms_cmpW45 (hM : MW sh R) {F x : Int32} {q : Nat} (hw : Msw I B n ri F) (h48x : I 290 48 = nI q) (hq : q < n) : Eg X xTc 8 207 45 [(0, .ref 290), (1, .int x)] [] (sh, I, L, R) (fun r h' => r = none ∧ ∃ J : Nat → Nat → Int32, h' = (sh, J, L, R) ∧ Msw J B n ri F ∧ MqF I J ri) := by
  have mm := hw.at h48x
  have hn := mm.1.1
  refine e_aload rfl rfl ?_
  refine e_dupr rfl ?_
  refine e_getIv rfl hM.1 h48x ?_
  refine e_ipush rfl ?_
  refine e_iadd rfl ?_
  rw [show (nI q) + 1 = nI (q + 1) from nI_1 _]
  refine e_putIJ rfl hM.1 (fun J21x g21x f21x => ?_)
  have m1x : MqF I J21x ri := fun i k a b => f21x i k (by omega)
  have mm1x : Mr J21x B n (q + 1) F := mm.fr (fun i k a => f21x i k (by omega)) g21x ((f21x 290 49 (by decide)).trans mm.2.2)
  have w1x := hw.mv mm1x (by omega) m1x
  refine e_iload rfl rfl ?_
  refine e_ipush rfl ?_
  refine e_ceq_b rfl (fun b58x => ?_) (fun b58x => ?_)
  · refine e_ipush rfl ?_
    refine e_istore rfl ?_
    refine e_aload rfl rfl ?_
    refine e_dupr rfl ?_
    refine e_getIv rfl hM.1 mm1x.2.1 ?_
    refine e_iload rfl rfl ?_
    refine e_ifeq_t rfl rfl ?_
    refine e_ipush rfl ?_
    refine e_iadd rfl ?_
    rw [show (nI (q + 1)) + 0 = nI (q + 1) from (Int32.add_zero _)]
    refine e_putIJ rfl hM.1 (fun J22x g22x f22x => ?_)
    have m2x : MqF I J22x ri := MqF.tr m1x (fun i k a b => f22x i k (by omega))
    have mm2x : Mr J22x B n (q + 1) F := mm1x.fr (fun i k a => f22x i k (by omega)) g22x ((f22x 290 49 (by decide)).trans mm1x.2.2)
    have w2x := w1x.mv mm2x (by omega) (fun i k a b => f22x i k (by omega))
    refine e_aload rfl rfl ?_
    refine Eg.c1 rfl (by decide) (by decide) rfl (Nat.le_of_ble_eq_true rfl) (xrcv_of rfl hM.1 rfl) ((ms_sumW hM w2x).mono (by decide)) (fun r1x h1x hq => ?_)
    obtain ⟨rfl, K3x, rfl, v3x, k3x⟩ := hq
    replace k3x := MqF.tr (m2x) k3x
    refine e_aload rfl rfl ?_
    refine e_iload rfl rfl ?_
    refine e_ipush rfl ?_
    refine e_cne_b rfl (fun b102x => ?_) (fun b102x => ?_)
    · refine e_iload rfl rfl ?_
      refine e_ipush rfl ?_
      refine e_cne_b rfl (fun b113x => ?_) (fun b113x => ?_)
      · refine e_iload rfl rfl ?_
        refine e_ifeq_t rfl rfl ?_
        refine e_ipush rfl ?_
        refine e_ipush rfl ?_
        refine Eg.c3 rfl (by decide) (by decide) rfl (Nat.le_of_ble_eq_true rfl) (xrcv_of rfl hM.1 rfl) ((ms_entryW hM v3x).mono (by decide)) (fun r1x h1x hq => ?_)
        obtain ⟨rfl, rfl⟩ := hq
        exact Eg.ret rfl (by decide) rfl ⟨rfl, K3x, rfl, v3x, k3x⟩
      · refine e_iload rfl rfl ?_
        refine e_ifeq_t rfl rfl ?_
        refine e_ipush rfl ?_
        refine e_goto rfl ?_
        refine e_ipush rfl ?_
        refine Eg.c3 rfl (by decide) (by decide) rfl (Nat.le_of_ble_eq_true rfl) (xrcv_of rfl hM.1 rfl) ((ms_entryW hM v3x).mono (by decide)) (fun r1x h1x hq => ?_)
        obtain ⟨rfl, rfl⟩ := hq
        exact Eg.ret rfl (by decide) rfl ⟨rfl, K3x, rfl, v3x, k3x⟩
    · refine e_ipush rfl ?_
      refine e_goto rfl ?_
      refine e_ipush rfl ?_
      refine Eg.c3 rfl (by decide) (by decide) rfl (Nat.le_of_ble_eq_true rfl) (xrcv_of rfl hM.1 rfl) ((ms_entryW hM v3x).mono (by decide)) (fun r1x h1x hq => ?_)
      obtain ⟨rfl, rfl⟩ := hq
      exact Eg.ret rfl (by decide) rfl ⟨rfl, K3x, rfl, v3x, k3x⟩
  · refine e_aload rfl rfl ?_
    refine Eg.p1 rfl (by decide) (by decide) rfl (Nat.le_of_ble_eq_true rfl) (xrcv_of rfl hM.1 rfl) ((ms_sign hM mm1x (by omega)).mono (by decide)) ?_
    refine e_ipush rfl ?_
    refine e_cne_b rfl (fun b67x => ?_) (fun b67x => ?_)
    · refine e_ipush rfl ?_
      refine e_istore rfl ?_
      refine e_aload rfl rfl ?_
      refine e_dupr rfl ?_
      refine e_getIv rfl hM.1 mm1x.2.1 ?_
      refine e_iload rfl rfl ?_
      refine e_ifeq_t rfl rfl ?_
      refine e_ipush rfl ?_
      refine e_iadd rfl ?_
      rw [show (nI (q + 1)) + 0 = nI (q + 1) from (Int32.add_zero _)]
      refine e_putIJ rfl hM.1 (fun J23x g23x f23x => ?_)
      have m2x : MqF I J23x ri := MqF.tr m1x (fun i k a b => f23x i k (by omega))
      have mm2x : Mr J23x B n (q + 1) F := mm1x.fr (fun i k a => f23x i k (by omega)) g23x ((f23x 290 49 (by decide)).trans mm1x.2.2)
      have w2x := w1x.mv mm2x (by omega) (fun i k a b => f23x i k (by omega))
      refine e_aload rfl rfl ?_
      refine Eg.c1 rfl (by decide) (by decide) rfl (Nat.le_of_ble_eq_true rfl) (xrcv_of rfl hM.1 rfl) ((ms_sumW hM w2x).mono (by decide)) (fun r1x h1x hq => ?_)
      obtain ⟨rfl, K3x, rfl, v3x, k3x⟩ := hq
      replace k3x := MqF.tr (m2x) k3x
      refine e_aload rfl rfl ?_
      refine e_iload rfl rfl ?_
      refine e_ipush rfl ?_
      refine e_cne_b rfl (fun b102x => ?_) (fun b102x => ?_)
      · refine e_iload rfl rfl ?_
        refine e_ipush rfl ?_
        refine e_cne_b rfl (fun b113x => ?_) (fun b113x => ?_)
        · refine e_iload rfl rfl ?_
          refine e_ifeq_t rfl rfl ?_
          refine e_ipush rfl ?_
          refine e_ipush rfl ?_
          refine Eg.c3 rfl (by decide) (by decide) rfl (Nat.le_of_ble_eq_true rfl) (xrcv_of rfl hM.1 rfl) ((ms_entryW hM v3x).mono (by decide)) (fun r1x h1x hq => ?_)
          obtain ⟨rfl, rfl⟩ := hq
          exact Eg.ret rfl (by decide) rfl ⟨rfl, K3x, rfl, v3x, k3x⟩
        · refine e_iload rfl rfl ?_
          refine e_ifeq_t rfl rfl ?_
          refine e_ipush rfl ?_
          refine e_goto rfl ?_
          refine e_ipush rfl ?_
          refine Eg.c3 rfl (by decide) (by decide) rfl (Nat.le_of_ble_eq_true rfl) (xrcv_of rfl hM.1 rfl) ((ms_entryW hM v3x).mono (by decide)) (fun r1x h1x hq => ?_)
          obtain ⟨rfl, rfl⟩ := hq
          exact Eg.ret rfl (by decide) rfl ⟨rfl, K3x, rfl, v3x, k3x⟩
      · refine e_ipush rfl ?_
        refine e_goto rfl ?_
        refine e_ipush rfl ?_
        refine Eg.c3 rfl (by decide) (by decide) rfl (Nat.le_of_ble_eq_true rfl) (xrcv_of rfl hM.1 rfl) ((ms_entryW hM v3x).mono (by decide)) (fun r1x h1x hq => ?_)
        obtain ⟨rfl, rfl⟩ := hq
        exact Eg.ret rfl (by decide) rfl ⟨rfl, K3x, rfl, v3x, k3x⟩
    · refine e_ipush rfl ?_
      refine e_goto rfl ?_
      refine e_istore rfl ?_
      refine e_aload rfl rfl ?_
      refine e_dupr rfl ?_
      refine e_getIv rfl hM.1 mm1x.2.1 ?_
      refine e_iload rfl rfl ?_
      refine e_ifeq_f rfl (by decide) ?_
      refine e_ipush rfl ?_
      refine e_goto rfl ?_
      refine e_iadd rfl ?_
      rw [show (nI (q + 1)) + 1 = nI (q + 1 + 1) from nI_1 _]
      refine e_putIJ rfl hM.1 (fun J24x g24x f24x => ?_)
      have lt2x := sgM_lt (B := B) (n := n) (q := q + 1) (by rw [b67x]; decide)
      have m2x : MqF I J24x ri := MqF.tr m1x (fun i k a b => f24x i k (by omega))
      have mm2x : Mr J24x B n (q + 1 + 1) F := mm1x.fr (fun i k a => f24x i k (by omega)) g24x ((f24x 290 49 (by decide)).trans mm1x.2.2)
      have w2x := w1x.mv mm2x (by omega) (fun i k a b => f24x i k (by omega))
      refine e_aload rfl rfl ?_
      refine Eg.c1 rfl (by decide) (by decide) rfl (Nat.le_of_ble_eq_true rfl) (xrcv_of rfl hM.1 rfl) ((ms_sumW hM w2x).mono (by decide)) (fun r1x h1x hq => ?_)
      obtain ⟨rfl, K3x, rfl, v3x, k3x⟩ := hq
      replace k3x := MqF.tr (m2x) k3x
      refine e_aload rfl rfl ?_
      refine e_iload rfl rfl ?_
      refine e_ipush rfl ?_
      refine e_cne_b rfl (fun b102x => ?_) (fun b102x => ?_)
      · refine e_iload rfl rfl ?_
        refine e_ipush rfl ?_
        refine e_cne_b rfl (fun b113x => ?_) (fun b113x => ?_)
        · refine e_iload rfl rfl ?_
          refine e_ifeq_f rfl (by decide) ?_
          refine e_ipush rfl ?_
          refine e_goto rfl ?_
          refine e_ipush rfl ?_
          refine Eg.c3 rfl (by decide) (by decide) rfl (Nat.le_of_ble_eq_true rfl) (xrcv_of rfl hM.1 rfl) ((ms_entryW hM v3x).mono (by decide)) (fun r1x h1x hq => ?_)
          obtain ⟨rfl, rfl⟩ := hq
          exact Eg.ret rfl (by decide) rfl ⟨rfl, K3x, rfl, v3x, k3x⟩
        · refine e_iload rfl rfl ?_
          refine e_ifeq_f rfl (by decide) ?_
          refine e_ipush rfl ?_
          refine e_goto rfl ?_
          refine e_ipush rfl ?_
          refine Eg.c3 rfl (by decide) (by decide) rfl (Nat.le_of_ble_eq_true rfl) (xrcv_of rfl hM.1 rfl) ((ms_entryW hM v3x).mono (by decide)) (fun r1x h1x hq => ?_)
          obtain ⟨rfl, rfl⟩ := hq
          exact Eg.ret rfl (by decide) rfl ⟨rfl, K3x, rfl, v3x, k3x⟩
      · refine e_ipush rfl ?_
        refine e_goto rfl ?_
        refine e_ipush rfl ?_
        refine Eg.c3 rfl (by decide) (by decide) rfl (Nat.le_of_ble_eq_true rfl) (xrcv_of rfl hM.1 rfl) ((ms_entryW hM v3x).mono (by decide)) (fun r1x h1x hq => ?_)
        obtain ⟨rfl, rfl⟩ := hq
        exact Eg.ret rfl (by decide) rfl ⟨rfl, K3x, rfl, v3x, k3x⟩
theorem ms_cmpW4 (hM : MW sh R) {F : Int32} (hw : Msw I B n ri F) : Eg X xTc 8 207 4 [(0, .ref 290)] [] (sh, I, L, R) (fun r h' => r = none ∧ ∃ J : Nat → Nat → Int32, h' = (sh, J, L, R) ∧ Msw J B n ri F ∧ MqF I J ri) := by
  obtain ⟨h0x, ⟨q, hqn, mm⟩, -⟩ := id hw
  have hn := mm.1.1
  refine e_aload rfl rfl ?_
  refine Eg.p1 rfl (by decide) (by decide) rfl (Nat.le_of_ble_eq_true rfl) (xrcv_of rfl hM.1 rfl) ((ms_sign hM mm (by omega)).mono (by decide)) ?_
  refine e_istore rfl ?_
  refine e_iload rfl rfl ?_
  refine e_ipush rfl ?_
  refine e_ceq_b rfl (fun b12x => ?_) (fun b12x => ?_)
  · refine e_aload rfl rfl ?_
    refine e_aload rfl rfl ?_
    refine e_getIv rfl hM.1 mm.2.1 ?_
    refine Eg.c2 rfl (by decide) (by decide) rfl (Nat.le_of_ble_eq_true rfl) (xrcv_of rfl hM.1 rfl) ((ms_cntW hM (q := q) hw).mono (by decide)) (fun r1x h1x hq => ?_)
    obtain ⟨rfl, K1x, rfl, v1x, k1x, hgp⟩ := hq
    refine Eg.pk [0, 1] [1, 0] rfl (by decide) ?_
    have lt := sgM_lt (B := B) (n := n) (q := q) (by rw [b12x]; decide)
    refine (ms_cmpW45 hM v1x (hgp.trans mm.2.1) lt).imp ?_
    rintro r h' ⟨rfl, T, rfl, t1x, t2x⟩
    exact ⟨rfl, T, rfl, t1x, k1x.tr t2x⟩
  · refine e_iload rfl rfl ?_
    refine e_ipush rfl ?_
    refine e_ceq_b rfl (fun b18x => ?_) (fun b18x => ?_)
    · refine e_aload rfl rfl ?_
      refine e_aload rfl rfl ?_
      refine e_getIv rfl hM.1 mm.2.1 ?_
      refine Eg.c2 rfl (by decide) (by decide) rfl (Nat.le_of_ble_eq_true rfl) (xrcv_of rfl hM.1 rfl) ((ms_cntW hM (q := q) hw).mono (by decide)) (fun r1x h1x hq => ?_)
      obtain ⟨rfl, K1x, rfl, v1x, k1x, hgp⟩ := hq
      refine Eg.pk [0, 1] [1, 0] rfl (by decide) ?_
      have lt := sgM_lt (B := B) (n := n) (q := q) (by rw [b18x]; decide)
      refine (ms_cmpW45 hM v1x (hgp.trans mm.2.1) lt).imp ?_
      rintro r h' ⟨rfl, T, rfl, t1x, t2x⟩
      exact ⟨rfl, T, rfl, t1x, k1x.tr t2x⟩
    · refine e_iload rfl rfl ?_
      refine e_ipush rfl ?_
      refine e_ceq_b rfl (fun b24x => ?_) (fun b24x => ?_)
      · refine e_aload rfl rfl ?_
        refine e_aload rfl rfl ?_
        refine e_getIv rfl hM.1 mm.2.1 ?_
        refine Eg.c2 rfl (by decide) (by decide) rfl (Nat.le_of_ble_eq_true rfl) (xrcv_of rfl hM.1 rfl) ((ms_cntW hM (q := q) hw).mono (by decide)) (fun r1x h1x hq => ?_)
        obtain ⟨rfl, K1x, rfl, v1x, k1x, hgp⟩ := hq
        refine Eg.pk [0, 1] [1, 0] rfl (by decide) ?_
        have lt := sgM_lt (B := B) (n := n) (q := q) (by rw [b24x]; decide)
        refine (ms_cmpW45 hM v1x (hgp.trans mm.2.1) lt).imp ?_
        rintro r h' ⟨rfl, T, rfl, t1x, t2x⟩
        exact ⟨rfl, T, rfl, t1x, k1x.tr t2x⟩
      · refine e_aload rfl rfl ?_
        refine e_ipush rfl ?_
        refine e_aload rfl rfl ?_
        refine e_getIv rfl hM.1 mm.2.1 ?_
        refine Eg.c3 rfl (by decide) (by decide) rfl (Nat.le_of_ble_eq_true rfl) (xrcv_of rfl hM.1 rfl) ((ms_fails hM mm (k := 0) (q := q)).mono (by decide)) (fun r1x h1x hq => ?_)
        obtain ⟨rfl, K, rfl, b1x, b2x⟩ := hq
        rw [fl_n h0x] at b1x
        exact Eg.ret rfl (by decide) rfl ⟨rfl, K, rfl, hw.mv b1x hqn (MqF.of b2x), MqF.of b2x⟩
theorem ms_compared (hM : MW sh R) (hr : Mst I B n ri p st) : Ec X 9 207 [.ref 290] (sh, I, L, R) (fun r h' => r = none ∧ ∃ J : Nat → Nat → Int32, h' = (sh, J, L, R) ∧ mRt I J B n ri (rCmp B n st)) := by
  obtain ⟨hsn, hn, hps, htk⟩ := hr.le
  have hbd := hr.2.2.2.2.2.2.1
  have hbb := hr.bb
  refine Ec.of (Nat.le_of_ble_eq_true rfl) ?_
  refine e_aload rfl rfl ?_
  refine Eg.c1 rfl (by decide) (by decide) rfl (Nat.le_of_ble_eq_true rfl) (xrcv_of rfl hM.1 rfl) ((ms_sum hM hr).mono (by decide)) (fun r1x h1x hq => ?_)
  obtain ⟨rfl, K1x, rfl, k1x, hz1x⟩ := hq
  replace k1x := MqF.tr (MqF.rf) k1x
  rcases hz1x with ⟨e1x, c1x⟩ | v1x
  · have e1' := e1x
    have gA := rSum_G hn htk e1x
    obtain ⟨h1n, -, -, h1k⟩ := c1x.le
    refine e_aload rfl rfl ?_
    refine Eg.p1 rfl (by decide) (by decide) rfl (Nat.le_of_ble_eq_true rfl) (xrcv_of rfl hM.1 rfl) ((ms_sign hM c1x.1 (by omega)).mono (by decide)) ?_
    refine e_istore rfl ?_
    refine e_iload rfl rfl ?_
    refine e_ipush rfl ?_
    refine e_ceq_b rfl (fun b12x => ?_) (fun b12x => ?_)
    · refine e_aload rfl rfl ?_
      refine e_aload rfl rfl ?_
      refine e_getIv rfl hM.1 c1x.1.2.1 ?_
      refine Eg.c2 rfl (by decide) (by decide) rfl (Nat.le_of_ble_eq_true rfl) (xrcv_of rfl hM.1 rfl) ((ms_cnt hM c1x (q := (rSum B n st).2.1) (by omega)).mono (by decide)) (fun r1x h1x hq => ?_)
      obtain ⟨rfl, G, rfl, x2x, hgp, hz⟩ := hq
      replace x2x := k1x.tr x2x
      rcases hz with ⟨y2x, c2x⟩ | ⟨y2x, v2x⟩
      · have y60x : ¬ 60 ≤ (rSum B n st).2.2.1 := Nat.not_le.mpr y2x
        have lt : (rSum B n st).2.1 < n := sgM_lt (B := B) (by rw [b12x]; decide)
        refine e_aload rfl rfl ?_
        refine e_dupr rfl ?_
        refine e_getIv rfl hM.1 c2x.1.2.1 ?_
        refine e_ipush rfl ?_
        refine e_iadd rfl ?_
        rw [show (nI (rSum B n st).2.1) + 1 = nI ((rSum B n st).2.1 + 1) from nI_1 _]
        refine e_putIJ rfl hM.1 (fun J21x g21x f21x => ?_)
        have m3x : MqF I J21x ri := x2x.tr (fun i k a b => f21x i k (by omega))
        have mf3x : MF G J21x := fun i k a => f21x i k (by omega)
        have mm1x : Mr J21x B n ((rSum B n st).2.1 + 1) 0 := c2x.1.fr mf3x g21x ((f21x 290 49 (by decide)).trans c2x.1.2.2)
        refine e_iload rfl rfl ?_
        refine e_ipush rfl ?_
        refine e_ceq_f rfl (by rw [b12x]; decide) ?_
        refine e_aload rfl rfl ?_
        refine Eg.p1 rfl (by decide) (by decide) rfl (Nat.le_of_ble_eq_true rfl) (xrcv_of rfl hM.1 rfl) ((ms_sign hM mm1x (by omega)).mono (by decide)) ?_
        refine e_ipush rfl ?_
        refine e_cne_b rfl (fun b67x => ?_) (fun b67x => ?_)
        · refine e_ipush rfl ?_
          refine e_istore rfl ?_
          refine e_aload rfl rfl ?_
          refine e_dupr rfl ?_
          refine e_getIv rfl hM.1 mm1x.2.1 ?_
          refine e_iload rfl rfl ?_
          refine e_ifeq_t rfl rfl ?_
          refine e_ipush rfl ?_
          refine e_iadd rfl ?_
          rw [show (nI ((rSum B n st).2.1 + 1)) + 0 = nI ((rSum B n st).2.1 + 1) from (Int32.add_zero _)]
          refine e_putIJ rfl hM.1 (fun J22x g22x f22x => ?_)
          obtain ⟨-, x1x, x3x⟩ := sg_lg (c := 60) hbb (by decide) b12x
          obtain ⟨sh0x, nx⟩ := x3x b67x
          have eS := cmS_of (k := 4) sh0x (by decide)
          have nz : ¬ cmS B n (rSum B n st).2.1 = 0 := by rw [eS]; decide
          have eC : rCs B n (rSum B n st).2 = (0, (nxt B n (rSum B n st).2.1, (rSum B n st).2.2.1 + 1, (rSum B n st).2.2.2)) := by unfold rCs; rw [if_neg nz, if_neg y60x]
          have m4x : MqF I J22x ri := m3x.tr (fun i k a b => f22x i k (by omega))
          have mm2x : Mr J22x B n ((rSum B n st).2.1 + 1) 0 := mm1x.fr (fun i k a => f22x i k (by omega)) g22x ((f22x 290 49 (by decide)).trans mm1x.2.2)
          have nl := (nxt_le (B := B) (n := n) (p := (rSum B n st).2.1) h1n).1
          have c4' : Mst J22x B n ri ((rSum B n st).2.1 + 1) (nxt B n (rSum B n st).2.1, (rSum B n st).2.2.1 + 1, (rSum B n st).2.2.2) := c2x.mv mm2x (by omega) nx nl (mf3x.tr (fun i k a => f22x i k (by omega)))
          have c4x : Mst J22x B n ri ((rSum B n st).2.1 + 1) (rCs B n (rSum B n st).2).2 := by rw [eC]; exact c4'
          have eC0x : (rCs B n (rSum B n st).2).1 = 0 := by rw [eC]
          have gB := (rCs_G (x := [false]) hn h1k eC0x).1
          refine e_aload rfl rfl ?_
          refine Eg.c1 rfl (by decide) (by decide) rfl (Nat.le_of_ble_eq_true rfl) (xrcv_of rfl hM.1 rfl) ((ms_sum hM c4x).mono (by decide)) (fun r1x h1x hq => ?_)
          obtain ⟨rfl, K5x, rfl, k5x, hz5x⟩ := hq
          replace k5x := MqF.tr (m4x) k5x
          rcases hz5x with ⟨e5x, c5x⟩ | v5x
          · have e5' := e5x
            have gC := rSum_G hn (gB.tk (gA.tk htk)) e5x
            have hbE : 2 * ((rSum B n (rCs B n (rSum B n st).2).2).2.2.2.length + 1) ≤ 2 * (rSum B n (rCs B n (rSum B n st).2).2).2.2.1 + (rSum B n (rCs B n (rSum B n st).2).2).2.1 := ((gA.tr gB).tr (gC.ext [false])).b2 (j := 1) (by decide) hbd
            refine e_aload rfl rfl ?_
            refine e_iload rfl rfl ?_
            refine e_ipush rfl ?_
            refine e_cne_t rfl (by rw [b12x]; decide) ?_
            refine e_iload rfl rfl ?_
            refine e_ipush rfl ?_
            refine e_cne_f rfl b12x ?_
            refine e_iload rfl rfl ?_
            refine e_ifeq_t rfl rfl ?_
            refine e_ipush rfl ?_
            refine e_goto rfl ?_
            refine e_ipush rfl ?_
            refine Eg.c3 rfl (by decide) (by decide) rfl (Nat.le_of_ble_eq_true rfl) (xrcv_of rfl hM.1 rfl) ((ms_entry hM c5x (e := (4, 0)) hbE).mono (by decide)) (fun r1x h1x hq => ?_)
            obtain ⟨rfl, K6x, rfl, c6x, k6x⟩ := hq
            replace k6x := MqF.tr (k5x) k6x
            have eD : rCmp B n st = (0, adE (cmS B n (rSum B n st).2.1) (rSum B n (rCs B n (rSum B n st).2).2).2) := by unfold rCmp; rw [if_neg (fun q => q e1x), if_neg (fun q => q eC0x), if_neg (fun q => q e5x)]
            exact Eg.ret rfl (by decide) rfl ⟨rfl, K6x, rfl, by rw [eD, eS]; exact ⟨k6x, Or.inl ⟨rfl, c6x⟩⟩⟩
          · have z5x := v5x.1
            refine e_aload rfl rfl ?_
            refine e_iload rfl rfl ?_
            refine e_ipush rfl ?_
            refine e_cne_t rfl (by rw [b12x]; decide) ?_
            refine e_iload rfl rfl ?_
            refine e_ipush rfl ?_
            refine e_cne_f rfl b12x ?_
            refine e_iload rfl rfl ?_
            refine e_ifeq_t rfl rfl ?_
            refine e_ipush rfl ?_
            refine e_goto rfl ?_
            refine e_ipush rfl ?_
            refine Eg.c3 rfl (by decide) (by decide) rfl (Nat.le_of_ble_eq_true rfl) (xrcv_of rfl hM.1 rfl) ((ms_entryW hM v5x).mono (by decide)) (fun r1x h1x hq => ?_)
            obtain ⟨rfl, rfl⟩ := hq
            have eD : (rCmp B n st).1 = (rSum B n (rCs B n (rSum B n st).2).2).1 := by unfold rCmp; rw [if_neg (fun q => q e1x), if_neg (fun q => q eC0x), if_pos z5x]
            exact Eg.ret rfl (by decide) rfl ⟨rfl, K5x, rfl, k5x, Or.inr (by rw [eD]; exact v5x)⟩
        · refine e_ipush rfl ?_
          refine e_goto rfl ?_
          refine e_istore rfl ?_
          refine e_aload rfl rfl ?_
          refine e_dupr rfl ?_
          refine e_getIv rfl hM.1 mm1x.2.1 ?_
          refine e_iload rfl rfl ?_
          refine e_ifeq_f rfl (by decide) ?_
          refine e_ipush rfl ?_
          refine e_goto rfl ?_
          refine e_iadd rfl ?_
          rw [show (nI ((rSum B n st).2.1 + 1)) + 1 = nI ((rSum B n st).2.1 + 1 + 1) from nI_1 _]
          refine e_putIJ rfl hM.1 (fun J23x g23x f23x => ?_)
          obtain ⟨-, x1x, x3x⟩ := sg_lg (c := 60) hbb (by decide) b12x
          obtain ⟨sh0x, lt2x, nx⟩ := x1x b67x
          have eS := cmS_of (k := 5) sh0x (by decide)
          have nz : ¬ cmS B n (rSum B n st).2.1 = 0 := by rw [eS]; decide
          have eC : rCs B n (rSum B n st).2 = (0, (nxt B n (rSum B n st).2.1, (rSum B n st).2.2.1 + 1, (rSum B n st).2.2.2)) := by unfold rCs; rw [if_neg nz, if_neg y60x]
          have m4x : MqF I J23x ri := m3x.tr (fun i k a b => f23x i k (by omega))
          have mm2x : Mr J23x B n ((rSum B n st).2.1 + 1 + 1) 0 := mm1x.fr (fun i k a => f23x i k (by omega)) g23x ((f23x 290 49 (by decide)).trans mm1x.2.2)
          have nl := (nxt_le (B := B) (n := n) (p := (rSum B n st).2.1) h1n).1
          have c4' : Mst J23x B n ri ((rSum B n st).2.1 + 1 + 1) (nxt B n (rSum B n st).2.1, (rSum B n st).2.2.1 + 1, (rSum B n st).2.2.2) := c2x.mv mm2x (by omega) nx nl (mf3x.tr (fun i k a => f23x i k (by omega)))
          have c4x : Mst J23x B n ri ((rSum B n st).2.1 + 1 + 1) (rCs B n (rSum B n st).2).2 := by rw [eC]; exact c4'
          have eC0x : (rCs B n (rSum B n st).2).1 = 0 := by rw [eC]
          have gB := (rCs_G (x := [false]) hn h1k eC0x).1
          refine e_aload rfl rfl ?_
          refine Eg.c1 rfl (by decide) (by decide) rfl (Nat.le_of_ble_eq_true rfl) (xrcv_of rfl hM.1 rfl) ((ms_sum hM c4x).mono (by decide)) (fun r1x h1x hq => ?_)
          obtain ⟨rfl, K5x, rfl, k5x, hz5x⟩ := hq
          replace k5x := MqF.tr (m4x) k5x
          rcases hz5x with ⟨e5x, c5x⟩ | v5x
          · have e5' := e5x
            have gC := rSum_G hn (gB.tk (gA.tk htk)) e5x
            have hbE : 2 * ((rSum B n (rCs B n (rSum B n st).2).2).2.2.2.length + 1) ≤ 2 * (rSum B n (rCs B n (rSum B n st).2).2).2.2.1 + (rSum B n (rCs B n (rSum B n st).2).2).2.1 := ((gA.tr gB).tr (gC.ext [false])).b2 (j := 1) (by decide) hbd
            refine e_aload rfl rfl ?_
            refine e_iload rfl rfl ?_
            refine e_ipush rfl ?_
            refine e_cne_t rfl (by rw [b12x]; decide) ?_
            refine e_iload rfl rfl ?_
            refine e_ipush rfl ?_
            refine e_cne_f rfl b12x ?_
            refine e_iload rfl rfl ?_
            refine e_ifeq_f rfl (by decide) ?_
            refine e_ipush rfl ?_
            refine e_goto rfl ?_
            refine e_ipush rfl ?_
            refine Eg.c3 rfl (by decide) (by decide) rfl (Nat.le_of_ble_eq_true rfl) (xrcv_of rfl hM.1 rfl) ((ms_entry hM c5x (e := (5, 0)) hbE).mono (by decide)) (fun r1x h1x hq => ?_)
            obtain ⟨rfl, K6x, rfl, c6x, k6x⟩ := hq
            replace k6x := MqF.tr (k5x) k6x
            have eD : rCmp B n st = (0, adE (cmS B n (rSum B n st).2.1) (rSum B n (rCs B n (rSum B n st).2).2).2) := by unfold rCmp; rw [if_neg (fun q => q e1x), if_neg (fun q => q eC0x), if_neg (fun q => q e5x)]
            exact Eg.ret rfl (by decide) rfl ⟨rfl, K6x, rfl, by rw [eD, eS]; exact ⟨k6x, Or.inl ⟨rfl, c6x⟩⟩⟩
          · have z5x := v5x.1
            refine e_aload rfl rfl ?_
            refine e_iload rfl rfl ?_
            refine e_ipush rfl ?_
            refine e_cne_t rfl (by rw [b12x]; decide) ?_
            refine e_iload rfl rfl ?_
            refine e_ipush rfl ?_
            refine e_cne_f rfl b12x ?_
            refine e_iload rfl rfl ?_
            refine e_ifeq_f rfl (by decide) ?_
            refine e_ipush rfl ?_
            refine e_goto rfl ?_
            refine e_ipush rfl ?_
            refine Eg.c3 rfl (by decide) (by decide) rfl (Nat.le_of_ble_eq_true rfl) (xrcv_of rfl hM.1 rfl) ((ms_entryW hM v5x).mono (by decide)) (fun r1x h1x hq => ?_)
            obtain ⟨rfl, rfl⟩ := hq
            have eD : (rCmp B n st).1 = (rSum B n (rCs B n (rSum B n st).2).2).1 := by unfold rCmp; rw [if_neg (fun q => q e1x), if_neg (fun q => q eC0x), if_pos z5x]
            exact Eg.ret rfl (by decide) rfl ⟨rfl, K5x, rfl, k5x, Or.inr (by rw [eD]; exact v5x)⟩
      · have y60x := y2x
        have lt : (rSum B n st).2.1 < n := sgM_lt (B := B) (by rw [b12x]; decide)
        have nz : ¬ cmS B n (rSum B n st).2.1 = 0 := by
          obtain ⟨-, x1x, x2x⟩ := sg_lg (c := 60) hbb (by decide) b12x
          by_cases h6x : sgM B n ((rSum B n st).2.1 + 1) = 61
          · rw [cmS_of (k := 5) (x1x h6x).1 (by decide)]; decide
          · rw [cmS_of (k := 4) (x2x h6x).1 (by decide)]; decide
        refine Eg.pk [0, 1] [1, 0] rfl (by decide) ?_
        have eC : (rCs B n (rSum B n st).2).1 = fl 0 (rSum B n st).2.1 3 := by unfold rCs; rw [if_neg nz, if_pos y60x]
        have eD : (rCmp B n st).1 = fl 0 (rSum B n st).2.1 3 := by unfold rCmp; rw [if_neg (fun q => q e1x), if_pos (by rw [eC]; exact v2x.1), eC]
        refine (ms_cmpW45 hM v2x (hgp.trans c1x.1.2.1) lt).imp ?_
        rintro r h' ⟨rfl, T, rfl, t1x, t2x⟩
        exact ⟨rfl, T, rfl, x2x.tr t2x, Or.inr (by rw [eD]; exact t1x)⟩
    · refine e_iload rfl rfl ?_
      refine e_ipush rfl ?_
      refine e_ceq_b rfl (fun b18x => ?_) (fun b18x => ?_)
      · refine e_aload rfl rfl ?_
        refine e_aload rfl rfl ?_
        refine e_getIv rfl hM.1 c1x.1.2.1 ?_
        refine Eg.c2 rfl (by decide) (by decide) rfl (Nat.le_of_ble_eq_true rfl) (xrcv_of rfl hM.1 rfl) ((ms_cnt hM c1x (q := (rSum B n st).2.1) (by omega)).mono (by decide)) (fun r1x h1x hq => ?_)
        obtain ⟨rfl, G, rfl, x2x, hgp, hz⟩ := hq
        replace x2x := k1x.tr x2x
        rcases hz with ⟨y2x, c2x⟩ | ⟨y2x, v2x⟩
        · have y60x : ¬ 60 ≤ (rSum B n st).2.2.1 := Nat.not_le.mpr y2x
          have lt : (rSum B n st).2.1 < n := sgM_lt (B := B) (by rw [b18x]; decide)
          refine e_aload rfl rfl ?_
          refine e_dupr rfl ?_
          refine e_getIv rfl hM.1 c2x.1.2.1 ?_
          refine e_ipush rfl ?_
          refine e_iadd rfl ?_
          rw [show (nI (rSum B n st).2.1) + 1 = nI ((rSum B n st).2.1 + 1) from nI_1 _]
          refine e_putIJ rfl hM.1 (fun J24x g24x f24x => ?_)
          have m3x : MqF I J24x ri := x2x.tr (fun i k a b => f24x i k (by omega))
          have mf3x : MF G J24x := fun i k a => f24x i k (by omega)
          have mm1x : Mr J24x B n ((rSum B n st).2.1 + 1) 0 := c2x.1.fr mf3x g24x ((f24x 290 49 (by decide)).trans c2x.1.2.2)
          refine e_iload rfl rfl ?_
          refine e_ipush rfl ?_
          refine e_ceq_t rfl b18x ?_
          refine e_ipush rfl ?_
          refine e_istore rfl ?_
          refine e_aload rfl rfl ?_
          refine e_dupr rfl ?_
          refine e_getIv rfl hM.1 mm1x.2.1 ?_
          refine e_iload rfl rfl ?_
          refine e_ifeq_t rfl rfl ?_
          refine e_ipush rfl ?_
          refine e_iadd rfl ?_
          rw [show (nI ((rSum B n st).2.1 + 1)) + 0 = nI ((rSum B n st).2.1 + 1) from (Int32.add_zero _)]
          refine e_putIJ rfl hM.1 (fun J25x g25x f25x => ?_)
          obtain ⟨eS, -, nx⟩ := cmp_6 hbb b18x
          have nz : ¬ cmS B n (rSum B n st).2.1 = 0 := by rw [eS]; decide
          have eC : rCs B n (rSum B n st).2 = (0, (nxt B n (rSum B n st).2.1, (rSum B n st).2.2.1 + 1, (rSum B n st).2.2.2)) := by unfold rCs; rw [if_neg nz, if_neg y60x]
          have m4x : MqF I J25x ri := m3x.tr (fun i k a b => f25x i k (by omega))
          have mm2x : Mr J25x B n ((rSum B n st).2.1 + 1) 0 := mm1x.fr (fun i k a => f25x i k (by omega)) g25x ((f25x 290 49 (by decide)).trans mm1x.2.2)
          have nl := (nxt_le (B := B) (n := n) (p := (rSum B n st).2.1) h1n).1
          have c4' : Mst J25x B n ri ((rSum B n st).2.1 + 1) (nxt B n (rSum B n st).2.1, (rSum B n st).2.2.1 + 1, (rSum B n st).2.2.2) := c2x.mv mm2x (by omega) nx nl (mf3x.tr (fun i k a => f25x i k (by omega)))
          have c4x : Mst J25x B n ri ((rSum B n st).2.1 + 1) (rCs B n (rSum B n st).2).2 := by rw [eC]; exact c4'
          have eC0x : (rCs B n (rSum B n st).2).1 = 0 := by rw [eC]
          have gB := (rCs_G (x := [false]) hn h1k eC0x).1
          refine e_aload rfl rfl ?_
          refine Eg.c1 rfl (by decide) (by decide) rfl (Nat.le_of_ble_eq_true rfl) (xrcv_of rfl hM.1 rfl) ((ms_sum hM c4x).mono (by decide)) (fun r1x h1x hq => ?_)
          obtain ⟨rfl, K5x, rfl, k5x, hz5x⟩ := hq
          replace k5x := MqF.tr (m4x) k5x
          rcases hz5x with ⟨e5x, c5x⟩ | v5x
          · have e5' := e5x
            have gC := rSum_G hn (gB.tk (gA.tk htk)) e5x
            have hbE : 2 * ((rSum B n (rCs B n (rSum B n st).2).2).2.2.2.length + 1) ≤ 2 * (rSum B n (rCs B n (rSum B n st).2).2).2.2.1 + (rSum B n (rCs B n (rSum B n st).2).2).2.1 := ((gA.tr gB).tr (gC.ext [false])).b2 (j := 1) (by decide) hbd
            refine e_aload rfl rfl ?_
            refine e_iload rfl rfl ?_
            refine e_ipush rfl ?_
            refine e_cne_f rfl b18x ?_
            refine e_ipush rfl ?_
            refine e_goto rfl ?_
            refine e_ipush rfl ?_
            refine Eg.c3 rfl (by decide) (by decide) rfl (Nat.le_of_ble_eq_true rfl) (xrcv_of rfl hM.1 rfl) ((ms_entry hM c5x (e := (6, 0)) hbE).mono (by decide)) (fun r1x h1x hq => ?_)
            obtain ⟨rfl, K6x, rfl, c6x, k6x⟩ := hq
            replace k6x := MqF.tr (k5x) k6x
            have eD : rCmp B n st = (0, adE (cmS B n (rSum B n st).2.1) (rSum B n (rCs B n (rSum B n st).2).2).2) := by unfold rCmp; rw [if_neg (fun q => q e1x), if_neg (fun q => q eC0x), if_neg (fun q => q e5x)]
            exact Eg.ret rfl (by decide) rfl ⟨rfl, K6x, rfl, by rw [eD, eS]; exact ⟨k6x, Or.inl ⟨rfl, c6x⟩⟩⟩
          · have z5x := v5x.1
            refine e_aload rfl rfl ?_
            refine e_iload rfl rfl ?_
            refine e_ipush rfl ?_
            refine e_cne_f rfl b18x ?_
            refine e_ipush rfl ?_
            refine e_goto rfl ?_
            refine e_ipush rfl ?_
            refine Eg.c3 rfl (by decide) (by decide) rfl (Nat.le_of_ble_eq_true rfl) (xrcv_of rfl hM.1 rfl) ((ms_entryW hM v5x).mono (by decide)) (fun r1x h1x hq => ?_)
            obtain ⟨rfl, rfl⟩ := hq
            have eD : (rCmp B n st).1 = (rSum B n (rCs B n (rSum B n st).2).2).1 := by unfold rCmp; rw [if_neg (fun q => q e1x), if_neg (fun q => q eC0x), if_pos z5x]
            exact Eg.ret rfl (by decide) rfl ⟨rfl, K5x, rfl, k5x, Or.inr (by rw [eD]; exact v5x)⟩
        · have y60x := y2x
          have lt : (rSum B n st).2.1 < n := sgM_lt (B := B) (by rw [b18x]; decide)
          have nz : ¬ cmS B n (rSum B n st).2.1 = 0 := by
            rw [(cmp_6 hbb b18x).1]; decide
          refine Eg.pk [0, 1] [1, 0] rfl (by decide) ?_
          have eC : (rCs B n (rSum B n st).2).1 = fl 0 (rSum B n st).2.1 3 := by unfold rCs; rw [if_neg nz, if_pos y60x]
          have eD : (rCmp B n st).1 = fl 0 (rSum B n st).2.1 3 := by unfold rCmp; rw [if_neg (fun q => q e1x), if_pos (by rw [eC]; exact v2x.1), eC]
          refine (ms_cmpW45 hM v2x (hgp.trans c1x.1.2.1) lt).imp ?_
          rintro r h' ⟨rfl, T, rfl, t1x, t2x⟩
          exact ⟨rfl, T, rfl, x2x.tr t2x, Or.inr (by rw [eD]; exact t1x)⟩
      · refine e_iload rfl rfl ?_
        refine e_ipush rfl ?_
        refine e_ceq_b rfl (fun b24x => ?_) (fun b24x => ?_)
        · refine e_aload rfl rfl ?_
          refine e_aload rfl rfl ?_
          refine e_getIv rfl hM.1 c1x.1.2.1 ?_
          refine Eg.c2 rfl (by decide) (by decide) rfl (Nat.le_of_ble_eq_true rfl) (xrcv_of rfl hM.1 rfl) ((ms_cnt hM c1x (q := (rSum B n st).2.1) (by omega)).mono (by decide)) (fun r1x h1x hq => ?_)
          obtain ⟨rfl, G, rfl, x2x, hgp, hz⟩ := hq
          replace x2x := k1x.tr x2x
          rcases hz with ⟨y2x, c2x⟩ | ⟨y2x, v2x⟩
          · have y60x : ¬ 60 ≤ (rSum B n st).2.2.1 := Nat.not_le.mpr y2x
            have lt : (rSum B n st).2.1 < n := sgM_lt (B := B) (by rw [b24x]; decide)
            refine e_aload rfl rfl ?_
            refine e_dupr rfl ?_
            refine e_getIv rfl hM.1 c2x.1.2.1 ?_
            refine e_ipush rfl ?_
            refine e_iadd rfl ?_
            rw [show (nI (rSum B n st).2.1) + 1 = nI ((rSum B n st).2.1 + 1) from nI_1 _]
            refine e_putIJ rfl hM.1 (fun J26x g26x f26x => ?_)
            have m3x : MqF I J26x ri := x2x.tr (fun i k a b => f26x i k (by omega))
            have mf3x : MF G J26x := fun i k a => f26x i k (by omega)
            have mm1x : Mr J26x B n ((rSum B n st).2.1 + 1) 0 := c2x.1.fr mf3x g26x ((f26x 290 49 (by decide)).trans c2x.1.2.2)
            refine e_iload rfl rfl ?_
            refine e_ipush rfl ?_
            refine e_ceq_f rfl (by rw [b24x]; decide) ?_
            refine e_aload rfl rfl ?_
            refine Eg.p1 rfl (by decide) (by decide) rfl (Nat.le_of_ble_eq_true rfl) (xrcv_of rfl hM.1 rfl) ((ms_sign hM mm1x (by omega)).mono (by decide)) ?_
            refine e_ipush rfl ?_
            refine e_cne_b rfl (fun b67x => ?_) (fun b67x => ?_)
            · refine e_ipush rfl ?_
              refine e_istore rfl ?_
              refine e_aload rfl rfl ?_
              refine e_dupr rfl ?_
              refine e_getIv rfl hM.1 mm1x.2.1 ?_
              refine e_iload rfl rfl ?_
              refine e_ifeq_t rfl rfl ?_
              refine e_ipush rfl ?_
              refine e_iadd rfl ?_
              rw [show (nI ((rSum B n st).2.1 + 1)) + 0 = nI ((rSum B n st).2.1 + 1) from (Int32.add_zero _)]
              refine e_putIJ rfl hM.1 (fun J27x g27x f27x => ?_)
              obtain ⟨-, x1x, x3x⟩ := sg_lg (c := 62) hbb (by decide) b24x
              obtain ⟨sh0x, nx⟩ := x3x b67x
              have eS := cmS_of (k := 8) sh0x (by decide)
              have nz : ¬ cmS B n (rSum B n st).2.1 = 0 := by rw [eS]; decide
              have eC : rCs B n (rSum B n st).2 = (0, (nxt B n (rSum B n st).2.1, (rSum B n st).2.2.1 + 1, (rSum B n st).2.2.2)) := by unfold rCs; rw [if_neg nz, if_neg y60x]
              have m4x : MqF I J27x ri := m3x.tr (fun i k a b => f27x i k (by omega))
              have mm2x : Mr J27x B n ((rSum B n st).2.1 + 1) 0 := mm1x.fr (fun i k a => f27x i k (by omega)) g27x ((f27x 290 49 (by decide)).trans mm1x.2.2)
              have nl := (nxt_le (B := B) (n := n) (p := (rSum B n st).2.1) h1n).1
              have c4' : Mst J27x B n ri ((rSum B n st).2.1 + 1) (nxt B n (rSum B n st).2.1, (rSum B n st).2.2.1 + 1, (rSum B n st).2.2.2) := c2x.mv mm2x (by omega) nx nl (mf3x.tr (fun i k a => f27x i k (by omega)))
              have c4x : Mst J27x B n ri ((rSum B n st).2.1 + 1) (rCs B n (rSum B n st).2).2 := by rw [eC]; exact c4'
              have eC0x : (rCs B n (rSum B n st).2).1 = 0 := by rw [eC]
              have gB := (rCs_G (x := [false]) hn h1k eC0x).1
              refine e_aload rfl rfl ?_
              refine Eg.c1 rfl (by decide) (by decide) rfl (Nat.le_of_ble_eq_true rfl) (xrcv_of rfl hM.1 rfl) ((ms_sum hM c4x).mono (by decide)) (fun r1x h1x hq => ?_)
              obtain ⟨rfl, K5x, rfl, k5x, hz5x⟩ := hq
              replace k5x := MqF.tr (m4x) k5x
              rcases hz5x with ⟨e5x, c5x⟩ | v5x
              · have e5' := e5x
                have gC := rSum_G hn (gB.tk (gA.tk htk)) e5x
                have hbE : 2 * ((rSum B n (rCs B n (rSum B n st).2).2).2.2.2.length + 1) ≤ 2 * (rSum B n (rCs B n (rSum B n st).2).2).2.2.1 + (rSum B n (rCs B n (rSum B n st).2).2).2.1 := ((gA.tr gB).tr (gC.ext [false])).b2 (j := 1) (by decide) hbd
                refine e_aload rfl rfl ?_
                refine e_iload rfl rfl ?_
                refine e_ipush rfl ?_
                refine e_cne_t rfl (by rw [b24x]; decide) ?_
                refine e_iload rfl rfl ?_
                refine e_ipush rfl ?_
                refine e_cne_t rfl (by rw [b24x]; decide) ?_
                refine e_iload rfl rfl ?_
                refine e_ifeq_t rfl rfl ?_
                refine e_ipush rfl ?_
                refine e_ipush rfl ?_
                refine Eg.c3 rfl (by decide) (by decide) rfl (Nat.le_of_ble_eq_true rfl) (xrcv_of rfl hM.1 rfl) ((ms_entry hM c5x (e := (8, 0)) hbE).mono (by decide)) (fun r1x h1x hq => ?_)
                obtain ⟨rfl, K6x, rfl, c6x, k6x⟩ := hq
                replace k6x := MqF.tr (k5x) k6x
                have eD : rCmp B n st = (0, adE (cmS B n (rSum B n st).2.1) (rSum B n (rCs B n (rSum B n st).2).2).2) := by unfold rCmp; rw [if_neg (fun q => q e1x), if_neg (fun q => q eC0x), if_neg (fun q => q e5x)]
                exact Eg.ret rfl (by decide) rfl ⟨rfl, K6x, rfl, by rw [eD, eS]; exact ⟨k6x, Or.inl ⟨rfl, c6x⟩⟩⟩
              · have z5x := v5x.1
                refine e_aload rfl rfl ?_
                refine e_iload rfl rfl ?_
                refine e_ipush rfl ?_
                refine e_cne_t rfl (by rw [b24x]; decide) ?_
                refine e_iload rfl rfl ?_
                refine e_ipush rfl ?_
                refine e_cne_t rfl (by rw [b24x]; decide) ?_
                refine e_iload rfl rfl ?_
                refine e_ifeq_t rfl rfl ?_
                refine e_ipush rfl ?_
                refine e_ipush rfl ?_
                refine Eg.c3 rfl (by decide) (by decide) rfl (Nat.le_of_ble_eq_true rfl) (xrcv_of rfl hM.1 rfl) ((ms_entryW hM v5x).mono (by decide)) (fun r1x h1x hq => ?_)
                obtain ⟨rfl, rfl⟩ := hq
                have eD : (rCmp B n st).1 = (rSum B n (rCs B n (rSum B n st).2).2).1 := by unfold rCmp; rw [if_neg (fun q => q e1x), if_neg (fun q => q eC0x), if_pos z5x]
                exact Eg.ret rfl (by decide) rfl ⟨rfl, K5x, rfl, k5x, Or.inr (by rw [eD]; exact v5x)⟩
            · refine e_ipush rfl ?_
              refine e_goto rfl ?_
              refine e_istore rfl ?_
              refine e_aload rfl rfl ?_
              refine e_dupr rfl ?_
              refine e_getIv rfl hM.1 mm1x.2.1 ?_
              refine e_iload rfl rfl ?_
              refine e_ifeq_f rfl (by decide) ?_
              refine e_ipush rfl ?_
              refine e_goto rfl ?_
              refine e_iadd rfl ?_
              rw [show (nI ((rSum B n st).2.1 + 1)) + 1 = nI ((rSum B n st).2.1 + 1 + 1) from nI_1 _]
              refine e_putIJ rfl hM.1 (fun J28x g28x f28x => ?_)
              obtain ⟨-, x1x, x3x⟩ := sg_lg (c := 62) hbb (by decide) b24x
              obtain ⟨sh0x, lt2x, nx⟩ := x1x b67x
              have eS := cmS_of (k := 7) sh0x (by decide)
              have nz : ¬ cmS B n (rSum B n st).2.1 = 0 := by rw [eS]; decide
              have eC : rCs B n (rSum B n st).2 = (0, (nxt B n (rSum B n st).2.1, (rSum B n st).2.2.1 + 1, (rSum B n st).2.2.2)) := by unfold rCs; rw [if_neg nz, if_neg y60x]
              have m4x : MqF I J28x ri := m3x.tr (fun i k a b => f28x i k (by omega))
              have mm2x : Mr J28x B n ((rSum B n st).2.1 + 1 + 1) 0 := mm1x.fr (fun i k a => f28x i k (by omega)) g28x ((f28x 290 49 (by decide)).trans mm1x.2.2)
              have nl := (nxt_le (B := B) (n := n) (p := (rSum B n st).2.1) h1n).1
              have c4' : Mst J28x B n ri ((rSum B n st).2.1 + 1 + 1) (nxt B n (rSum B n st).2.1, (rSum B n st).2.2.1 + 1, (rSum B n st).2.2.2) := c2x.mv mm2x (by omega) nx nl (mf3x.tr (fun i k a => f28x i k (by omega)))
              have c4x : Mst J28x B n ri ((rSum B n st).2.1 + 1 + 1) (rCs B n (rSum B n st).2).2 := by rw [eC]; exact c4'
              have eC0x : (rCs B n (rSum B n st).2).1 = 0 := by rw [eC]
              have gB := (rCs_G (x := [false]) hn h1k eC0x).1
              refine e_aload rfl rfl ?_
              refine Eg.c1 rfl (by decide) (by decide) rfl (Nat.le_of_ble_eq_true rfl) (xrcv_of rfl hM.1 rfl) ((ms_sum hM c4x).mono (by decide)) (fun r1x h1x hq => ?_)
              obtain ⟨rfl, K5x, rfl, k5x, hz5x⟩ := hq
              replace k5x := MqF.tr (m4x) k5x
              rcases hz5x with ⟨e5x, c5x⟩ | v5x
              · have e5' := e5x
                have gC := rSum_G hn (gB.tk (gA.tk htk)) e5x
                have hbE : 2 * ((rSum B n (rCs B n (rSum B n st).2).2).2.2.2.length + 1) ≤ 2 * (rSum B n (rCs B n (rSum B n st).2).2).2.2.1 + (rSum B n (rCs B n (rSum B n st).2).2).2.1 := ((gA.tr gB).tr (gC.ext [false])).b2 (j := 1) (by decide) hbd
                refine e_aload rfl rfl ?_
                refine e_iload rfl rfl ?_
                refine e_ipush rfl ?_
                refine e_cne_t rfl (by rw [b24x]; decide) ?_
                refine e_iload rfl rfl ?_
                refine e_ipush rfl ?_
                refine e_cne_t rfl (by rw [b24x]; decide) ?_
                refine e_iload rfl rfl ?_
                refine e_ifeq_f rfl (by decide) ?_
                refine e_ipush rfl ?_
                refine e_goto rfl ?_
                refine e_ipush rfl ?_
                refine Eg.c3 rfl (by decide) (by decide) rfl (Nat.le_of_ble_eq_true rfl) (xrcv_of rfl hM.1 rfl) ((ms_entry hM c5x (e := (7, 0)) hbE).mono (by decide)) (fun r1x h1x hq => ?_)
                obtain ⟨rfl, K6x, rfl, c6x, k6x⟩ := hq
                replace k6x := MqF.tr (k5x) k6x
                have eD : rCmp B n st = (0, adE (cmS B n (rSum B n st).2.1) (rSum B n (rCs B n (rSum B n st).2).2).2) := by unfold rCmp; rw [if_neg (fun q => q e1x), if_neg (fun q => q eC0x), if_neg (fun q => q e5x)]
                exact Eg.ret rfl (by decide) rfl ⟨rfl, K6x, rfl, by rw [eD, eS]; exact ⟨k6x, Or.inl ⟨rfl, c6x⟩⟩⟩
              · have z5x := v5x.1
                refine e_aload rfl rfl ?_
                refine e_iload rfl rfl ?_
                refine e_ipush rfl ?_
                refine e_cne_t rfl (by rw [b24x]; decide) ?_
                refine e_iload rfl rfl ?_
                refine e_ipush rfl ?_
                refine e_cne_t rfl (by rw [b24x]; decide) ?_
                refine e_iload rfl rfl ?_
                refine e_ifeq_f rfl (by decide) ?_
                refine e_ipush rfl ?_
                refine e_goto rfl ?_
                refine e_ipush rfl ?_
                refine Eg.c3 rfl (by decide) (by decide) rfl (Nat.le_of_ble_eq_true rfl) (xrcv_of rfl hM.1 rfl) ((ms_entryW hM v5x).mono (by decide)) (fun r1x h1x hq => ?_)
                obtain ⟨rfl, rfl⟩ := hq
                have eD : (rCmp B n st).1 = (rSum B n (rCs B n (rSum B n st).2).2).1 := by unfold rCmp; rw [if_neg (fun q => q e1x), if_neg (fun q => q eC0x), if_pos z5x]
                exact Eg.ret rfl (by decide) rfl ⟨rfl, K5x, rfl, k5x, Or.inr (by rw [eD]; exact v5x)⟩
          · have y60x := y2x
            have lt : (rSum B n st).2.1 < n := sgM_lt (B := B) (by rw [b24x]; decide)
            have nz : ¬ cmS B n (rSum B n st).2.1 = 0 := by
              obtain ⟨-, x1x, x2x⟩ := sg_lg (c := 62) hbb (by decide) b24x
              by_cases h6x : sgM B n ((rSum B n st).2.1 + 1) = 61
              · rw [cmS_of (k := 7) (x1x h6x).1 (by decide)]; decide
              · rw [cmS_of (k := 8) (x2x h6x).1 (by decide)]; decide
            refine Eg.pk [0, 1] [1, 0] rfl (by decide) ?_
            have eC : (rCs B n (rSum B n st).2).1 = fl 0 (rSum B n st).2.1 3 := by unfold rCs; rw [if_neg nz, if_pos y60x]
            have eD : (rCmp B n st).1 = fl 0 (rSum B n st).2.1 3 := by unfold rCmp; rw [if_neg (fun q => q e1x), if_pos (by rw [eC]; exact v2x.1), eC]
            refine (ms_cmpW45 hM v2x (hgp.trans c1x.1.2.1) lt).imp ?_
            rintro r h' ⟨rfl, T, rfl, t1x, t2x⟩
            exact ⟨rfl, T, rfl, x2x.tr t2x, Or.inr (by rw [eD]; exact t1x)⟩
        · refine e_aload rfl rfl ?_
          refine e_ipush rfl ?_
          refine e_aload rfl rfl ?_
          refine e_getIv rfl hM.1 c1x.1.2.1 ?_
          refine Eg.c3 rfl (by decide) (by decide) rfl (Nat.le_of_ble_eq_true rfl) (xrcv_of rfl hM.1 rfl) ((ms_fails hM c1x.1 (k := 0) (q := (rSum B n st).2.1)).mono (by decide)) (fun r1x h1x hq => ?_)
          obtain ⟨rfl, KF, rfl, b1x, b2x⟩ := hq
          have eC : rCs B n (rSum B n st).2 = (fl 0 (rSum B n st).2.1 0, (rSum B n st).2) := by unfold rCs; rw [if_pos (cmS_n hbb b12x b18x b24x)]
          have nf : ¬ fl 0 (rSum B n st).2.1 0 = 0 := fl_ne (by omega)
          have eD : (rCmp B n st).1 = fl 0 (rSum B n st).2.1 0 := by unfold rCmp; rw [if_neg (fun q => q e1x), eC, if_pos nf]
          exact Eg.ret rfl (by decide) rfl ⟨rfl, KF, rfl, k1x.tr (MqF.of b2x), Or.inr (by rw [eD]; exact c1x.wk nf b1x h1n (MqF.of b2x))⟩
  · have z1x := v1x.1
    refine Eg.pk [0] [0] rfl (by decide) ?_
    have eD : (rCmp B n st).1 = (rSum B n st).1 := by unfold rCmp; rw [if_pos z1x]
    refine (ms_cmpW4 hM v1x).imp ?_
    rintro r h' ⟨rfl, T, rfl, t1x, t2x⟩
    exact ⟨rfl, T, rfl, k1x.tr t2x, Or.inr (by rw [eD]; exact t1x)⟩
end MU4x
