/-! THE TAPE, the other side: numbers; behind a clause -/
section MU
variable {X : xX} {h : xH} {sh : List (Nat × Nat)} {I : Nat → Nat → Int32} {L : Nat → Nat → Int64} {R : Nat → Nat → Option Nat} {B : Nat → Nat} {n : Nat}
theorem isD_nL {c : Nat} (h : isD c = true) : ¬ isL c = true := fun q => by
  have a := isD_iff.mp h; have b := isL_iff.mp q; omega
theorem tknd_2 {p : Nat} : tknd B n p = 2 ↔ dgM B n p = true := by
  rw [dgM_iff]; unfold tknd
  by_cases h1x : n ≤ p
  · rw [if_pos h1x]; exact ⟨fun q => absurd q (by decide), fun q => absurd q.1 (by omega)⟩
  · rw [if_neg h1x]
    by_cases h2x : isL (B p) = true
    · rw [if_pos h2x]; exact ⟨fun q => absurd q (by decide), fun q => absurd h2x (isD_nL q.2)⟩
    · rw [if_neg h2x]
      by_cases h3x : isD (B p) = true
      · rw [if_pos h3x]; exact ⟨fun _ => ⟨by omega, h3x⟩, fun _ => rfl⟩
      · rw [if_neg h3x]; exact ⟨fun q => absurd q (by decide), fun q => absurd q.2 h3x⟩
theorem tvl_2 {p : Nat} (h : dgM B n p = true) : tvl B n p = nmI B p (dend B n p) ∧ tend B n p = dend B n p ∧ p < n := by
  obtain ⟨a, b⟩ := dgM_iff.mp h
  have c := isD_nL b
  refine ⟨?_, ?_, a⟩
  · unfold tvl; rw [if_neg (by omega), if_neg c, if_pos b]
  · unfold tend; rw [if_neg c, if_pos b]
theorem dend_in {p i : Nat} (h1x : p ≤ i) (h2x : i < dend B n p) : isD (B i) = true := scan_in (f := fun i => isD (B i)) (n - p) p i h1x h2x
theorem dend_out {p : Nat} (hp : p ≤ n) : ¬ dgM B n (dend B n p) = true := fun q => by
  obtain ⟨a, b⟩ := dgM_iff.mp q
  have := scan_end (f := fun i => isD (B i)) (n - p) p (by show dend B n p < _; omega)
  rw [show isD (B (scan (fun i => isD (B i)) (n - p) p)) = true from b] at this; cases this
theorem nmv_5 {p : Nat} (h : dend B n p - p ≤ 5) : nmv B p (dend B n p - p) ≤ 99999 := by
  have a := nmv_lt (B := B) (p := p) (dend B n p - p) (fun i hi => dend_in (n := n) (p := p) (by omega) (by omega))
  have b : 10 ^ (dend B n p - p) ≤ 10 ^ 5 := Nat.pow_le_pow_right (by decide) h
  omega
theorem nmv_m {p : Nat} (k : Nat) (h : ∀ i, i < k → isD (B (p + i)) = true) : nmv B p (min k 5) ≤ 99999 := by
  have a := nmv_lt (B := B) (p := p) (min k 5) (fun i hi => h i (by omega))
  have b : 10 ^ (min k 5) ≤ 10 ^ 5 := Nat.pow_le_pow_right (by decide) (by omega)
  omega
theorem fl_n {f : Int32} {p k : Nat} (h : ¬ f = 0) : fl f p k = f := if_neg h
theorem tkF_n {f lo hi : Int32} {p : Nat} (h : ¬ f = 0) : tkF B n p f lo hi = f := by
  unfold tkF; rw [fl_n h, fl_n h]; simp
def dgF (B : Nat → Nat) (n p : Nat) (f : Int32) : Int32 := if dgM B n p then (if 5 < dend B n p - p then fl f p 1 else f) else fl f p 0
def dgP (B : Nat → Nat) (n p : Nat) : Nat := if dgM B n p then dend B n p else p
def dgV (B : Nat → Nat) (n p : Nat) : Nat := if dgM B n p then nmv B p (min (dend B n p - p) 5) else 0
theorem ms_digits (hM : MW sh R) {p : Nat} {f : Int32} (hr : Mr I B n p f) (hp : p ≤ 1000) (hpn : p ≤ n) : Ec X 3 203 [.ref 290, .int 99999] (sh, I, L, R) (fun r h' => r = some (.int (nI (dgV B n p))) ∧ ∃ J : Nat → Nat → Int32, h' = (sh, J, L, R) ∧ Mr J B n (dgP B n p) (dgF B n p f) ∧ MF I J) := by
  obtain ⟨hB, h48x, h49x⟩ := id hr
  have hn := hB.1
  have hbb := hB.2.2
  refine Ec.of (Nat.le_of_ble_eq_true rfl) ?_
  refine e_aload rfl rfl ?_
  refine Eg.p1 rfl (by decide) (by decide) rfl (Nat.le_of_ble_eq_true rfl) (xrcv_of rfl hM.1 rfl) ((ms_isDigit hM hr hp).mono (by decide)) ?_
  refine e_ifne_b rfl (fun b4x => ?_) (fun b4x => ?_)
  · replace b4x := yn_n0.mp b4x
    refine e_aload rfl rfl ?_
    refine e_getIv rfl hM.1 h48x ?_
    refine e_istore rfl ?_
    refine e_ipush rfl ?_
    refine e_istore rfl ?_
    obtain ⟨hlt, hdp⟩ := dgM_iff.mp b4x
    have hD := dend_le (B := B) (n := n) (p := p)
    have hD2x := hD.2 hpn
    have hD3x := dend_lt hlt hdp
    refine Eg.pk [0, 1, 2, 3] [3, 2, 0, 1] rfl (by decide) ?_
    have lp : ∀ m k (J : Nat → Nat → Int32), p + k + m = dend B n p → Mr J B n (p + k) f → MF I J → Eg X xTc 2 203 25 [(0, .ref 290), (1, .int 99999), (2, .int (nI p)), (3, .int (nI (nmv B p (min k 5))))] [] (sh, J, L, R) (fun r h' => r = some (.int (nI (dgV B n p))) ∧ ∃ J : Nat → Nat → Int32, h' = (sh, J, L, R) ∧ Mr J B n (dgP B n p) (dgF B n p f) ∧ MF I J) := by
      intro m
      induction m with
      | zero =>
        intro k J hk hr fr
        obtain ⟨hB, h48x, h49x⟩ := id hr
        have ek : p + k = dend B n p := by omega
        rw [ek] at h48x hr
        have nd := dend_out (B := B) hpn
        have hv := nmv_m (B := B) (p := p) k (fun i hi => dend_in (n := n) (p := p) (by omega) (by omega))
        have ek2x : k = dend B n p - p := by omega
        refine e_aload rfl rfl ?_
        refine Eg.p1 rfl (by decide) (by decide) rfl (Nat.le_of_ble_eq_true rfl) (xrcv_of rfl hM.1 rfl) ((ms_isDigit hM hr (by omega)).mono (by decide)) ?_
        refine e_ifeq_t rfl (yn_0.mpr nd) ?_
        refine e_aload rfl rfl ?_
        refine e_getIv rfl hM.1 h48x ?_
        refine e_iload rfl rfl ?_
        refine e_isub rfl ?_
        rw [show (nI (dend B n p)) - (nI p) = nI (dend B n p - p) from nI_sub (by omega)]
        refine e_ipush rfl ?_
        refine e_cgt_b rfl (fun b79x => ?_) (fun b79x => ?_)
        · have b79x := (nI_lti (a := 5) (by decide) (by omega)).mp b79x
          refine e_aload rfl rfl ?_
          refine e_ipush rfl ?_
          refine e_iload rfl rfl ?_
          refine Eg.c3 rfl (by decide) (by decide) rfl (Nat.le_of_ble_eq_true rfl) (xrcv_of rfl hM.1 rfl) ((ms_fails hM hr (k := 1) (q := p)).mono (by decide)) (fun r1x h1x hq => ?_)
          obtain ⟨rfl, K, rfl, hk, fk⟩ := hq
          refine e_iload rfl rfl ?_
          refine Eg.ret rfl (by decide) rfl ⟨congrArg (fun z => some (Value.int z)) ?_, K, rfl, ?_, fr.tr fk⟩
          · unfold dgV; rw [if_pos b4x, ← ek2x]
          · unfold dgP dgF; rw [if_pos b4x, if_pos b4x, if_pos b79x]; exact hk
        · have b79x : ¬ 5 < dend B n p - p := fun q => b79x ((nI_lti (a := 5) (by decide) (by omega)).mpr q)
          refine e_iload rfl rfl ?_
          refine e_iload rfl rfl ?_
          refine e_cle_t rfl ((nI_lei (b := 99999) (by omega) (by decide)).mpr hv) ?_
          refine e_iload rfl rfl ?_
          refine Eg.ret rfl (by decide) rfl ⟨congrArg (fun z => some (Value.int z)) ?_, J, rfl, ?_, fr⟩
          · unfold dgV; rw [if_pos b4x, ← ek2x]
          · unfold dgP dgF; rw [if_pos b4x, if_pos b4x, if_neg b79x]; exact hr
      | succ m ih =>
        intro k J hk hr fr
        obtain ⟨hB, h48x, h49x⟩ := id hr
        have hdk : dgM B n (p + k) = true := dgM_iff.mpr ⟨by omega, dend_in (n := n) (p := p) (by omega) (by omega)⟩
        have hdc := isD_iff.mp (dgM_iff.mp hdk).2
        have sg : sgM B n (p + k) = nI (B (p + k)) := if_pos (by omega)
        refine e_aload rfl rfl ?_
        refine Eg.p1 rfl (by decide) (by decide) rfl (Nat.le_of_ble_eq_true rfl) (xrcv_of rfl hM.1 rfl) ((ms_isDigit hM hr (by omega)).mono (by decide)) ?_
        refine e_ifeq_f rfl (yn_n0.mpr hdk) ?_
        refine e_aload rfl rfl ?_
        refine e_getIv rfl hM.1 h48x ?_
        refine e_iload rfl rfl ?_
        refine e_isub rfl ?_
        rw [show (nI (p + k)) - (nI p) = nI k from (by rw [nI_sub (by omega), Nat.add_sub_cancel_left])]
        refine e_ipush rfl ?_
        refine e_cge_b rfl (fun b39x => ?_) (fun b39x => ?_)
        · have b39x := (nI_lei (a := 5) (by decide) (by omega)).mp b39x
          refine e_iload rfl rfl ?_
          refine e_istore rfl ?_
          refine e_aload rfl rfl ?_
          refine e_dupr rfl ?_
          refine e_getIv rfl hM.1 h48x ?_
          refine e_ipush rfl ?_
          refine e_iadd rfl ?_
          rw [show (nI (p + k)) + 1 = nI (p + (k + 1)) from nI_1 (p + k)]
          refine e_putIJ rfl hM.1 (fun J1x g1x f1x => ?_)
          refine e_goto rfl ?_
          refine Eg.pk [0, 1, 2, 3] [3, 0, 1, 2] rfl (by decide) ?_
          have hr2x : Mr J1x B n (p + (k + 1)) f := hr.fr (fun i k q => f1x i k (by omega)) g1x ((f1x 290 49 (by decide)).trans h49x)
          have key := ih (k + 1) J1x (by omega) hr2x (fr.tr (fun i k q => f1x i k (by omega)))
          rw [show min (k + 1) 5 = 5 by omega] at key
          rw [show min k 5 = 5 by omega]
          exact key
        · have b39x := nle (a := 5) (by decide) (by omega) b39x
          refine e_ipush rfl ?_
          refine e_iload rfl rfl ?_
          refine e_imul rfl ?_
          rw [show 10 * (nI (nmv B p (min k 5))) = nI (10 * nmv B p (min k 5)) from nI_times 10 _]
          refine e_aload rfl rfl ?_
          refine Eg.p1 rfl (by decide) (by decide) rfl (Nat.le_of_ble_eq_true rfl) (xrcv_of rfl hM.1 rfl) ((ms_sign hM hr (by omega)).mono (by decide)) ?_
          rw [sg]
          refine e_iadd rfl ?_
          refine e_ipush rfl ?_
          refine e_isub rfl ?_
          rw [show ((nI (10 * nmv B p (min k 5))) + (nI (B (p + k)))) - 48 = nI (nmv B p (k + 1)) from (show _ - nI 48 = _ by rw [nI_add, nI_sub (by omega), nmv, show min k 5 = k by omega, Nat.mul_comm, Nat.add_sub_assoc hdc.1])]
          refine e_goto rfl ?_
          refine e_istore rfl ?_
          refine e_aload rfl rfl ?_
          refine e_dupr rfl ?_
          refine e_getIv rfl hM.1 h48x ?_
          refine e_ipush rfl ?_
          refine e_iadd rfl ?_
          rw [show (nI (p + k)) + 1 = nI (p + (k + 1)) from nI_1 (p + k)]
          refine e_putIJ rfl hM.1 (fun J2x g2x f2x => ?_)
          refine e_goto rfl ?_
          refine Eg.pk [0, 1, 2, 3] [3, 0, 1, 2] rfl (by decide) ?_
          have hr2x : Mr J2x B n (p + (k + 1)) f := hr.fr (fun i k q => f2x i k (by omega)) g2x ((f2x 290 49 (by decide)).trans h49x)
          have key := ih (k + 1) J2x (by omega) hr2x (fr.tr (fun i k q => f2x i k (by omega)))
          rw [show min (k + 1) 5 = k + 1 by omega] at key
          rw [show min k 5 = k by omega]
          exact key
    exact lp (dend B n p - p) 0 I (by omega) hr MF.rf
  · replace b4x := yn_0.mp b4x
    refine e_aload rfl rfl ?_
    refine e_ipush rfl ?_
    refine e_aload rfl rfl ?_
    refine e_getIv rfl hM.1 h48x ?_
    refine Eg.c3 rfl (by decide) (by decide) rfl (Nat.le_of_ble_eq_true rfl) (xrcv_of rfl hM.1 rfl) ((ms_fails hM hr (k := 0) (q := p)).mono (by decide)) (fun r1x h1x hq => ?_)
    obtain ⟨rfl, K, rfl, hk, fk⟩ := hq
    refine e_ipush rfl ?_
    refine Eg.ret rfl (by decide) rfl ⟨congrArg (fun z => some (Value.int z)) ?_, K, rfl, ?_, fk⟩
    · unfold dgV; rw [if_neg b4x]; rfl
    · unfold dgP dgF; rw [if_neg b4x, if_neg b4x]; exact hk
theorem ms_amount (hM : MW sh R) {p : Nat} {f : Int32} (hr : Mr I B n p f) (hpn : p ≤ n) {lo hi : Int32} (hlo : ¬ lo < 0) (hhi : ¬ 99999 < hi) : Ec X 4 213 [.ref 290, .int lo, .int hi] (sh, I, L, R) (fun r h' => ∃ (x : Int32) (q : Nat) (J : Nat → Nat → Int32), r = some (.int x) ∧ h' = (sh, J, L, R) ∧ Mr J B n q (tkF B n (skp B n p) f lo hi) ∧ MF I J ∧ q ≤ n ∧ (tkF B n (skp B n p) f lo hi = 0 → x = tkV B n (skp B n p) lo hi ∧ skp B n q = tkP B n (skp B n p) f lo hi ∧ tkB B n (skp B n p) lo hi = true ∧ f = 0)) := by
  have hn := hr.1.1
  have hs := (skp_le (B := B) (n := n) (p := p)).2 hpn
  refine Ec.of (Nat.le_of_ble_eq_true rfl) ?_
  refine e_aload rfl rfl ?_
  refine Eg.c1 rfl (by decide) (by decide) rfl (Nat.le_of_ble_eq_true rfl) (xrcv_of rfl hM.1 rfl) ((ms_blanks hM hr (by omega)).mono (by decide)) (fun r1x h1x hq => ?_)
  obtain ⟨rfl, J, rfl, hj, fj⟩ := hq
  refine e_aload rfl rfl ?_
  refine e_getIv rfl hM.1 hj.2.1 ?_
  refine e_istore rfl ?_
  refine e_aload rfl rfl ?_
  refine e_getIv rfl hM.1 hj.2.2 ?_
  refine e_ifne_b rfl (fun b13x => ?_) (fun b13x => ?_)
  · refine e_ipush rfl ?_
    refine e_istore rfl ?_
    refine e_aload rfl rfl ?_
    refine e_getIv rfl hM.1 hj.2.2 ?_
    refine e_ifne_t rfl b13x ?_
    refine e_iload rfl rfl ?_
    refine Eg.ret rfl (by decide) rfl ⟨0, skp B n p, J, rfl, rfl, ?_, fj, hs, fun q => ?_⟩
    · rw [tkF_n b13x]; exact hj
    · rw [tkF_n b13x] at q; exact absurd q b13x
  · subst b13x
    refine e_aload rfl rfl ?_
    refine e_ipush rfl ?_
    refine Eg.c2 rfl (by decide) (by decide) rfl (Nat.le_of_ble_eq_true rfl) (xrcv_of rfl hM.1 rfl) ((ms_digits hM hj (by omega) hs).mono (by decide)) (fun r1x h1x hq => ?_)
    obtain ⟨rfl, K, rfl, hk, fk⟩ := hq
    replace fk := fj.tr fk
    refine e_goto rfl ?_
    refine e_istore rfl ?_
    refine e_aload rfl rfl ?_
    refine e_getIv rfl hM.1 hk.2.2 ?_
    refine e_ifne_b rfl (fun b33x => ?_) (fun b33x => ?_)
    · refine e_iload rfl rfl ?_
      have e : tkF B n (skp B n p) 0 lo hi = dgF B n (skp B n p) 0 := by
        unfold dgF at b33x ⊢; unfold tkF
        by_cases hd : dgM B n (skp B n p) = true
        · rw [if_pos hd] at b33x ⊢
          by_cases h5x : 5 < dend B n (skp B n p) - skp B n p
          · rw [if_pos h5x, if_neg (fun q => ?_), if_pos (tknd_2.mpr hd)]
            refine (of_decide_eq_true q).2 (Or.inl ?_)
            rw [(tvl_2 hd).1]; unfold nmI; rw [if_pos h5x]
            exact Int32.lt_of_lt_of_le (show (-1 : Int32) < 0 by decide) (Int32.not_lt.mp hlo)
          · rw [if_neg h5x] at b33x; exact absurd rfl b33x
        · rw [if_neg hd, if_neg (fun q => hd (tknd_2.mp (of_decide_eq_true q).1)), if_neg (fun q => hd (tknd_2.mp q))]
      refine Eg.ret rfl (by decide) rfl ⟨_, dgP B n (skp B n p), K, rfl, rfl, ?_, fk, ?_, fun q => ?_⟩
      · rw [e]; exact hk
      · unfold dgP; split
        · exact dend_le.2 hs
        · exact hs
      · rw [e] at q; exact absurd q b33x
    · refine e_iload rfl rfl ?_
      refine e_i2l rfl ?_
      refine e_iload rfl rfl ?_
      refine e_i2l rfl ?_
      refine e_iload rfl rfl ?_
      refine e_i2l rfl ?_
      refine Eg.p3 rfl (by decide) (by decide) rfl (Nat.le_of_ble_eq_true rfl) (xrcv_ofs (Or.inl rfl)) ((ms_inv (x := nI (dgV B n (skp B n p))) (y := lo) (z := hi) rfl rfl rfl).mono (by decide)) ?_
      refine e_ifne_b rfl (fun b46x => ?_) (fun b46x => ?_)
      · replace b46x := yn_n0.mp b46x
        refine e_iload rfl rfl ?_
        have hd : dgM B n (skp B n p) = true := Decidable.byContradiction (fun q => by unfold dgF at b33x; rw [if_neg q] at b33x; exact fl_ne (by omega) b33x)
        have h5x : ¬ 5 < dend B n (skp B n p) - skp B n p := fun q => by unfold dgF at b33x; rw [if_pos hd, if_pos q] at b33x; exact fl_ne (by omega) b33x
        obtain ⟨t1x, t2x, t3x⟩ := tvl_2 hd
        have ev : nI (dgV B n (skp B n p)) = tvl B n (skp B n p) := by
          unfold dgV; rw [if_pos hd, t1x]; unfold nmI; rw [if_neg h5x, show min (dend B n (skp B n p) - skp B n p) 5 = dend B n (skp B n p) - skp B n p by omega]
        have ep : dgP B n (skp B n p) = dend B n (skp B n p) := if_pos hd
        rw [ev] at b46x
        have tb : tkB B n (skp B n p) lo hi = true := decide_eq_true ⟨tknd_2.mpr hd, b46x⟩
        have e : tkF B n (skp B n p) 0 lo hi = 0 := if_pos tb
        refine Eg.ret rfl (by decide) rfl ⟨_, dgP B n (skp B n p), K, rfl, rfl, ?_, fk, ?_, fun q => ⟨?_, ?_, tb, rfl⟩⟩
        · rw [e]; rw [b33x] at hk; exact hk
        · rw [ep]; exact dend_le.2 hs
        · rw [ev]; exact (if_pos tb).symm
        · unfold tkP nxt; rw [if_pos ⟨tb, rfl⟩, if_pos t3x, t2x, ep]
      · replace b46x := yn_0.mp b46x
        refine e_aload rfl rfl ?_
        refine e_ipush rfl ?_
        refine e_iload rfl rfl ?_
        refine Eg.c3 rfl (by decide) (by decide) rfl (Nat.le_of_ble_eq_true rfl) (xrcv_of rfl hM.1 rfl) ((ms_fails hM hk (k := 1) (q := skp B n p)).mono (by decide)) (fun r1x h1x hq => ?_)
        obtain ⟨rfl, G, rfl, hg, fg⟩ := hq
        refine e_iload rfl rfl ?_
        have hd : dgM B n (skp B n p) = true := Decidable.byContradiction (fun q => by unfold dgF at b33x; rw [if_neg q] at b33x; exact fl_ne (by omega) b33x)
        have h5x : ¬ 5 < dend B n (skp B n p) - skp B n p := fun q => by unfold dgF at b33x; rw [if_pos hd, if_pos q] at b33x; exact fl_ne (by omega) b33x
        obtain ⟨t1x, t2x, t3x⟩ := tvl_2 hd
        have ev : nI (dgV B n (skp B n p)) = tvl B n (skp B n p) := by
          unfold dgV; rw [if_pos hd, t1x]; unfold nmI; rw [if_neg h5x, show min (dend B n (skp B n p) - skp B n p) 5 = dend B n (skp B n p) - skp B n p by omega]
        have ep : dgP B n (skp B n p) = dend B n (skp B n p) := if_pos hd
        rw [ev] at b46x
        have tb : ¬ tkB B n (skp B n p) lo hi = true := fun q => b46x (of_decide_eq_true q).2
        have e : tkF B n (skp B n p) 0 lo hi = fl 0 (skp B n p) 1 := by unfold tkF; rw [if_neg tb, if_pos (tknd_2.mpr hd)]
        refine Eg.ret rfl (by decide) rfl ⟨_, dgP B n (skp B n p), G, rfl, rfl, ?_, fk.tr fg, ?_, fun q => ?_⟩
        · rw [e]; rw [b33x] at hg; exact hg
        · rw [ep]; exact dend_le.2 hs
        · rw [e] at q; exact absurd q (fl_ne (by omega))
theorem tknd_0 {p : Nat} : tknd B n p = 0 ↔ n ≤ p := by
  unfold tknd
  by_cases h : n ≤ p
  · rw [if_pos h]; exact ⟨fun _ => h, fun _ => rfl⟩
  · rw [if_neg h]
    refine ⟨fun q => ?_, fun q => absurd q h⟩
    split at q
    · cases q
    · split at q <;> cases q
/-- a sign that is neither < nor > -/
theorem sgH_c {p c : Nat} (hB : ∀ j, j < n → B j < 256) (hc : c < 256) (h1x : isL c = false) (h2x : isD c = false) (h3x : c ≠ 60 ∧ c ≠ 62) : sgH B n p = nI c ↔ p < n ∧ B p = c := by
  unfold sgH tknd tvl
  by_cases h : n ≤ p
  · rw [if_pos h, if_neg (by decide)]; exact ⟨fun q => absurd q.symm (nI_m1' (by omega)), fun q => absurd q.1 (by omega)⟩
  · have hp := hB p (by omega)
    rw [if_neg h, if_neg h]
    by_cases hl : isL (B p) = true
    · rw [if_pos hl, if_neg (by decide)]; exact ⟨fun q => absurd q.symm (nI_m1' (by omega)), fun q => by rw [q.2, h1x] at hl; cases hl⟩
    · rw [if_neg hl, if_neg hl]
      by_cases hd : isD (B p) = true
      · rw [if_pos hd, if_neg (by decide)]; exact ⟨fun q => absurd q.symm (nI_m1' (by omega)), fun q => by rw [q.2, h2x] at hd; cases hd⟩
      · rw [if_neg hd, if_neg hd, if_pos rfl]
        by_cases hb : dbl B n p = true
        · rw [if_pos hb, nI_eq (by omega) (by omega)]
          have := (dbl_iff.mp hb).1
          exact ⟨fun q => by omega, fun q => by omega⟩
        · rw [if_neg hb, nI_eq (by omega) (by omega)]
          exact ⟨fun q => ⟨by omega, q⟩, fun q => q.2⟩
theorem tend_c {p : Nat} (h1x : isL (B p) = false) (h2x : isD (B p) = false) (h3x : B p ≠ 60 ∧ B p ≠ 62) : tend B n p = p + 1 := by
  unfold tend
  rw [h1x, h2x, if_neg (by decide), if_neg (by decide), if_neg (fun q => by have := (dbl_iff.mp q).1; omega)]
theorem go_59 {p : Nat} {f : Int32} (hB : ∀ j, j < n → B j < 256) : goB B n p f = true ↔ f = 0 ∧ p < n ∧ B p = 59 := by
  unfold goB
  rw [decide_eq_true_iff, tknd_0, show (59 : Int32) = nI 59 from rfl, sgH_c hB (by decide) (by decide) (by decide) (by decide)]
  exact ⟨fun q => ⟨q.1, q.2.2⟩, fun q => ⟨q.1, by omega, q.2⟩⟩
theorem ms_goesOn (hM : MW sh R) {p : Nat} {f : Int32} (hr : Mr I B n p f) (hpn : p ≤ n) : Ec X 3 221 [.ref 290] (sh, I, L, R) (fun r h' => r = some (.int (yn (goB B n (skp B n p) f = true))) ∧ ∃ J : Nat → Nat → Int32, h' = (sh, J, L, R) ∧ Mr J B n (skp B n p + 1) (goF B n (skp B n p) f) ∧ MF I J) := by
  have hn := hr.1.1
  have hbb : ∀ j, j < n → B j < 256 := fun j hj => (hr.1.2.2 j hj).1
  have hs := (skp_le (B := B) (n := n) (p := p)).2 hpn
  have gi := go_59 (p := skp B n p) (f := f) hbb
  refine Ec.of (Nat.le_of_ble_eq_true rfl) ?_
  refine e_aload rfl rfl ?_
  refine Eg.c1 rfl (by decide) (by decide) rfl (Nat.le_of_ble_eq_true rfl) (xrcv_of rfl hM.1 rfl) ((ms_blanks hM hr (by omega)).mono (by decide)) (fun r1x h1x hq => ?_)
  obtain ⟨rfl, J, rfl, hj, fj⟩ := hq
  refine e_aload rfl rfl ?_
  refine e_getIv rfl hM.1 hj.2.2 ?_
  refine e_ifne_b rfl (fun b8x => ?_) (fun b8x => ?_)
  · refine e_aload rfl rfl ?_
    refine e_getIv rfl hM.1 hj.2.2 ?_
    refine e_ifne_t rfl b8x ?_
    refine e_ipush rfl ?_
    refine e_istore rfl ?_
    refine e_aload rfl rfl ?_
    refine e_dupr rfl ?_
    refine e_getIv rfl hM.1 hj.2.1 ?_
    refine e_ipush rfl ?_
    refine e_iadd rfl ?_
    rw [show (nI (skp B n p)) + 1 = nI (skp B n p + 1) from nI_1 _]
    refine e_putIJ rfl hM.1 (fun J1x g1x f1x => ?_)
    refine e_iload rfl rfl ?_
    have nb : ¬ goB B n (skp B n p) f = true := fun q => b8x (gi.mp q).1
    have fe : goF B n (skp B n p) f = f := if_neg (fun q => b8x q.1)
    refine Eg.retZ rfl (by decide) ⟨congrArg (fun z => some (Value.int z)) (yn_f nb).symm, J1x, rfl, ?_, fj.tr (fun i k q => f1x i k (by omega))⟩
    rw [fe]; exact hj.fr (fun i k q => f1x i k (by omega)) g1x ((f1x 290 49 (by decide)).trans hj.2.2)
  · refine e_aload rfl rfl ?_
    refine e_getIv rfl hM.1 hj.2.1 ?_
    refine e_aload rfl rfl ?_
    refine e_getIv rfl hM.1 hj.1.2.1 ?_
    refine e_cge_b rfl (fun b19x => ?_) (fun b19x => ?_)
    · have b19x := (nI_lei (by omega) (by omega)).mp b19x
      refine e_aload rfl rfl ?_
      refine e_getIv rfl hM.1 hj.2.2 ?_
      refine e_ifne_f rfl b8x ?_
      refine e_aload rfl rfl ?_
      refine e_getIv rfl hM.1 hj.2.1 ?_
      refine e_aload rfl rfl ?_
      refine e_getIv rfl hM.1 hj.1.2.1 ?_
      refine e_cge_t rfl ((nI_lei (by omega) (by omega)).mpr b19x) ?_
      refine e_ipush rfl ?_
      refine e_istore rfl ?_
      refine e_aload rfl rfl ?_
      refine e_dupr rfl ?_
      refine e_getIv rfl hM.1 hj.2.1 ?_
      refine e_ipush rfl ?_
      refine e_iadd rfl ?_
      rw [show (nI (skp B n p)) + 1 = nI (skp B n p + 1) from nI_1 _]
      refine e_putIJ rfl hM.1 (fun J2x g2x f2x => ?_)
      refine e_iload rfl rfl ?_
      have nb : ¬ goB B n (skp B n p) f = true := fun q => absurd (gi.mp q).2.1 (by omega)
      have fe : goF B n (skp B n p) f = f := if_neg (fun q => q.2.1 (tknd_0.mpr b19x))
      refine Eg.retZ rfl (by decide) ⟨congrArg (fun z => some (Value.int z)) (yn_f nb).symm, J2x, rfl, ?_, fj.tr (fun i k q => f2x i k (by omega))⟩
      rw [fe]; exact hj.fr (fun i k q => f2x i k (by omega)) g2x ((f2x 290 49 (by decide)).trans hj.2.2)
    · have b19x := nle (by omega) (by omega) b19x
      refine e_aload rfl rfl ?_
      refine Eg.p1 rfl (by decide) (by decide) rfl (Nat.le_of_ble_eq_true rfl) (xrcv_of rfl hM.1 rfl) ((ms_sign hM hj (by omega)).mono (by decide)) ?_
      refine e_ipush rfl ?_
      refine e_ceq_b rfl (fun b28x => ?_) (fun b28x => ?_)
      · refine e_aload rfl rfl ?_
        refine e_getIv rfl hM.1 hj.2.2 ?_
        refine e_ifne_f rfl b8x ?_
        refine e_aload rfl rfl ?_
        refine e_getIv rfl hM.1 hj.2.1 ?_
        refine e_aload rfl rfl ?_
        refine e_getIv rfl hM.1 hj.1.2.1 ?_
        refine e_cge_f rfl (nI_ge b19x (by omega)) ?_
        refine e_ipush rfl ?_
        refine e_goto rfl ?_
        refine e_istore rfl ?_
        refine e_aload rfl rfl ?_
        refine e_dupr rfl ?_
        refine e_getIv rfl hM.1 hj.2.1 ?_
        refine e_ipush rfl ?_
        refine e_iadd rfl ?_
        rw [show (nI (skp B n p)) + 1 = nI (skp B n p + 1) from nI_1 _]
        refine e_putIJ rfl hM.1 (fun J3x g3x f3x => ?_)
        refine e_iload rfl rfl ?_
        have nb : goB B n (skp B n p) f = true := gi.mpr ⟨b8x, (sgM_eq (c := 59) hbb (by decide)).mp b28x⟩
        have fe : goF B n (skp B n p) f = f := if_neg (fun q => q.2.2 ((sgH_c hbb (by decide) (by decide) (by decide) (by decide)).mpr ((sgM_eq (c := 59) hbb (by decide)).mp b28x)))
        refine Eg.retZ rfl (by decide) ⟨congrArg (fun z => some (Value.int z)) (yn_t nb).symm, J3x, rfl, ?_, fj.tr (fun i k q => f3x i k (by omega))⟩
        rw [fe]; exact hj.fr (fun i k q => f3x i k (by omega)) g3x ((f3x 290 49 (by decide)).trans hj.2.2)
      · refine e_aload rfl rfl ?_
        refine e_ipush rfl ?_
        refine e_aload rfl rfl ?_
        refine e_getIv rfl hM.1 hj.2.1 ?_
        refine Eg.c3 rfl (by decide) (by decide) rfl (Nat.le_of_ble_eq_true rfl) (xrcv_of rfl hM.1 rfl) ((ms_fails hM hj (k := 0) (q := skp B n p)).mono (by decide)) (fun r1x h1x hq => ?_)
        obtain ⟨rfl, K, rfl, hk, fk⟩ := hq
        replace fk := fj.tr fk
        refine e_aload rfl rfl ?_
        refine e_getIv rfl hM.1 hk.2.2 ?_
        refine e_ifne_t rfl (by rw [b8x]; exact fl_ne (by omega)) ?_
        refine e_ipush rfl ?_
        refine e_istore rfl ?_
        refine e_aload rfl rfl ?_
        refine e_dupr rfl ?_
        refine e_getIv rfl hM.1 hk.2.1 ?_
        refine e_ipush rfl ?_
        refine e_iadd rfl ?_
        rw [show (nI (skp B n p)) + 1 = nI (skp B n p + 1) from nI_1 _]
        refine e_putIJ rfl hM.1 (fun J4x g4x f4x => ?_)
        refine e_iload rfl rfl ?_
        have nb : ¬ goB B n (skp B n p) f = true := fun q => b28x ((sgM_eq (c := 59) hbb (by decide)).mpr (gi.mp q).2)
        have fe : goF B n (skp B n p) f = fl f (skp B n p) 0 := by unfold goF; rw [if_pos ⟨b8x, fun q => absurd (tknd_0.mp q) (by omega), fun q => b28x ((sgM_eq (c := 59) hbb (by decide)).mpr ((sgH_c hbb (by decide) (by decide) (by decide) (by decide)).mp q))⟩, b8x]
        refine Eg.retZ rfl (by decide) ⟨congrArg (fun z => some (Value.int z)) (yn_f nb).symm, J4x, rfl, ?_, fk.tr (fun i k q => f4x i k (by omega))⟩
        rw [fe]; exact hk.fr (fun i k q => f4x i k (by omega)) g4x ((f4x 290 49 (by decide)).trans hk.2.2)
theorem ms_starts (hM : MW sh R) (hB : MB I B n) : Ec X 1 222 [.ref 290] (sh, I, L, R) (fun r h' => r = none ∧ ∃ J : Nat → Nat → Int32, h' = (sh, J, L, R) ∧ Mr J B n 0 0 ∧ J 290 52 = nI 0 ∧ J 290 53 = nI 0 ∧ J 290 54 = nI 0 ∧ ∀ i k, (i ≠ 290 ∨ (k ≠ 48 ∧ k ≠ 49 ∧ k ≠ 52 ∧ k ≠ 53 ∧ k ≠ 54)) → J i k = I i k) := by
  refine Ec.of (Nat.le_of_ble_eq_true rfl) ?_
  refine e_aload rfl rfl ?_
  refine e_ipush rfl ?_
  refine e_putIJ rfl hM.1 (fun J1x g1x f1x => ?_)
  refine e_aload rfl rfl ?_
  refine e_ipush rfl ?_
  refine e_putIJ rfl hM.1 (fun J2x g2x f2x => ?_)
  refine e_aload rfl rfl ?_
  refine e_ipush rfl ?_
  refine e_putIJ rfl hM.1 (fun J3x g3x f3x => ?_)
  refine e_aload rfl rfl ?_
  refine e_ipush rfl ?_
  refine e_putIJ rfl hM.1 (fun J4x g4x f4x => ?_)
  refine e_aload rfl rfl ?_
  refine e_ipush rfl ?_
  refine e_putIJ rfl hM.1 (fun J5x g5x f5x => ?_)
  have fr : ∀ i k, (i ≠ 290 ∨ (k ≠ 48 ∧ k ≠ 49 ∧ k ≠ 52 ∧ k ≠ 53 ∧ k ≠ 54)) → J5x i k = I i k := fun i k q => (f5x i k (by omega)).trans ((f4x i k (by omega)).trans ((f3x i k (by omega)).trans ((f2x i k (by omega)).trans (f1x i k (by omega)))))
  refine Eg.ret rfl (by decide) rfl ⟨rfl, J5x, rfl, ⟨⟨hB.1, (fr 290 47 (by decide)).trans hB.2.1, fun j hj => ⟨(hB.2.2 j hj).1, (fr 337 j (Or.inl (by decide))).trans (hB.2.2 j hj).2⟩⟩, ?_, ?_⟩, ?_, ?_, g5x, fr⟩
  · exact (f5x 290 48 (by omega)).trans ((f4x 290 48 (by omega)).trans ((f3x 290 48 (by omega)).trans ((f2x 290 48 (by omega)).trans (g1x))))
  · exact (f5x 290 49 (by omega)).trans ((f4x 290 49 (by omega)).trans ((f3x 290 49 (by omega)).trans (g2x)))
  · exact (f5x 290 52 (by omega)).trans ((f4x 290 52 (by omega)).trans (g3x))
  · exact (f5x 290 53 (by omega)).trans (g4x)
end MU
