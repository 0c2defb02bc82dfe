/-! THE TAPE, the one side: cut, and read along its tokens -/
section RD
variable {X : xX} {h : xH} {sh : List (Nat × Nat)} {I : Nat → Nat → Int32} {L : Nat → Nat → Int64} {R : Nat → Nat → Option Nat} {B : Nat → Nat} {n : Nat}
def Tok (J : Nat → Nat → Int32) (B : Nat → Nat) (n E : Nat) : Prop := E ≤ 400 ∧ J 1 6 = nI (E + 1) ∧ tps B n E = n ∧ (∀ j, j < E → tps B n j < n) ∧ ∀ j, j ≤ E → J 3 j = nI (tknd B n (tps B n j)) ∧ J 4 j = nI (tps B n j) ∧ J 5 j = tvl B n (tps B n j)
def CutF (I J : Nat → Nat → Int32) : Prop := ∀ i k, i ≠ 3 → i ≠ 4 → i ≠ 5 → (i ≠ 1 ∨ (k ≠ 2 ∧ k ≠ 6 ∧ k ≠ 7)) → J i k = I i k
theorem cs_cut_loop (hT : TpAt sh R) (hB : TpB I B n) : ∀ (m i t : Nat) (J : Nat → Nat → Int32), n - i ≤ m → i ≤ n → t ≤ i → skp B n i = tps B n t → (∀ j, j < t → tps B n j < n ∧ J 3 j = nI (tknd B n (tps B n j)) ∧ J 4 j = nI (tps B n j) ∧ J 5 j = tvl B n (tps B n j)) → J 1 6 = nI t → J 1 7 = nI 0 → J 1 2 = 0 → CutF I J → Eg X xTc 7 110 17 [(0, .ref 1), (1, .int (nI i))] [] (sh, J, L, R) (fun r h' => r = none ∧ ∃ (J : Nat → Nat → Int32) (E : Nat), h' = (sh, J, L, R) ∧ Tok J B n E ∧ J 1 7 = nI 0 ∧ J 1 2 = 0 ∧ CutF I J) := by
  have hn := hB.1
  intro m
  induction m with
  | zero =>
    intro i t J hm hi ht he ha h6x h7x h2x hf
    have ei : i = n := by omega
    subst ei
    refine e_iload rfl rfl ?_
    refine e_aload rfl rfl ?_
    refine e_getIv rfl hT.1 ((hf 1 1 (by decide) (by decide) (by decide) (by decide)).trans hB.2.1) ?_
    refine e_cge_t rfl (Int32.le_refl _) ?_
    refine e_aload rfl rfl ?_
    refine e_ipush rfl ?_
    refine e_aload rfl rfl ?_
    refine e_getIv rfl hT.1 ((hf 1 1 (by decide) (by decide) (by decide) (by decide)).trans hB.2.1) ?_
    refine e_ipush rfl ?_
    refine Eg.c4 rfl (by decide) (by decide) rfl (Nat.le_of_ble_eq_true rfl) (xrcv_of rfl hT.1 rfl) ((cs_addToken hT h6x (by omega)).mono (by decide)) (fun r1x h1x hq => ?_)
    obtain ⟨rfl, K, rfl, hK⟩ := hq
    have et : tps B i t = i := by rw [← he]; exact skp_n (Or.inl (Nat.le_refl _))
    refine Eg.ret rfl (by decide) rfl ⟨rfl, K, t, rfl, ⟨by omega, hK.2.2.2.1, et, fun j hj => (ha j hj).1, fun j hj => ?_⟩, (hK.2.2.2.2 1 7 (by omega) (by omega)).trans h7x, (hK.2.2.2.2 1 2 (by omega) (by omega)).trans h2x, fun a k q1x q2x q3x q4x => (hK.2.2.2.2 a k (by omega) (by omega)).trans (hf a k q1x q2x q3x q4x)⟩
    by_cases e : j = t
    · subst e; rw [et]
      refine ⟨hK.1.trans ?_, hK.2.1, hK.2.2.1.trans ?_⟩
      · unfold tknd; rw [if_pos (Nat.le_refl _)]; rfl
      · unfold tvl; rw [if_pos (Nat.le_refl _)]
    · obtain ⟨q1x, q2x, q3x, q4x⟩ := ha j (by omega)
      exact ⟨(hK.2.2.2.2 3 j (by omega) (by omega)).trans q2x, (hK.2.2.2.2 4 j (by omega) (by omega)).trans q3x, (hK.2.2.2.2 5 j (by omega) (by omega)).trans q4x⟩
  | succ m ih =>
    intro i t J hm hi ht he ha h6x h7x h2x hf
    by_cases ei : i = n
    · subst ei
      refine e_iload rfl rfl ?_
      refine e_aload rfl rfl ?_
      refine e_getIv rfl hT.1 ((hf 1 1 (by decide) (by decide) (by decide) (by decide)).trans hB.2.1) ?_
      refine e_cge_t rfl (Int32.le_refl _) ?_
      refine e_aload rfl rfl ?_
      refine e_ipush rfl ?_
      refine e_aload rfl rfl ?_
      refine e_getIv rfl hT.1 ((hf 1 1 (by decide) (by decide) (by decide) (by decide)).trans hB.2.1) ?_
      refine e_ipush rfl ?_
      refine Eg.c4 rfl (by decide) (by decide) rfl (Nat.le_of_ble_eq_true rfl) (xrcv_of rfl hT.1 rfl) ((cs_addToken hT h6x (by omega)).mono (by decide)) (fun r1x h1x hq => ?_)
      obtain ⟨rfl, K, rfl, hK⟩ := hq
      have et : tps B i t = i := by rw [← he]; exact skp_n (Or.inl (Nat.le_refl _))
      refine Eg.ret rfl (by decide) rfl ⟨rfl, K, t, rfl, ⟨by omega, hK.2.2.2.1, et, fun j hj => (ha j hj).1, fun j hj => ?_⟩, (hK.2.2.2.2 1 7 (by omega) (by omega)).trans h7x, (hK.2.2.2.2 1 2 (by omega) (by omega)).trans h2x, fun a k q1x q2x q3x q4x => (hK.2.2.2.2 a k (by omega) (by omega)).trans (hf a k q1x q2x q3x q4x)⟩
      by_cases e : j = t
      · subst e; rw [et]
        refine ⟨hK.1.trans ?_, hK.2.1, hK.2.2.1.trans ?_⟩
        · unfold tknd; rw [if_pos (Nat.le_refl _)]; rfl
        · unfold tvl; rw [if_pos (Nat.le_refl _)]
      · obtain ⟨q1x, q2x, q3x, q4x⟩ := ha j (by omega)
        exact ⟨(hK.2.2.2.2 3 j (by omega) (by omega)).trans q2x, (hK.2.2.2.2 4 j (by omega) (by omega)).trans q3x, (hK.2.2.2.2 5 j (by omega) (by omega)).trans q4x⟩
    · have hin : i < n := by omega
      have jb : J 2 i = nI (B i) := (hf 2 i (by decide) (by decide) (by decide) (Or.inl (by decide))).trans (hB.2.2 i hin).1
      have hc := (hB.2.2 i hin).2
      by_cases e32x : B i = 32
      · refine e_iload rfl rfl ?_
        refine e_aload rfl rfl ?_
        refine e_getIv rfl hT.1 ((hf 1 1 (by decide) (by decide) (by decide) (by decide)).trans hB.2.1) ?_
        refine e_cge_f rfl (nI_ge hin (by omega)) ?_
        refine e_aload rfl rfl ?_
        refine e_getR rfl hT.1 hT.2.2.2.2.2.1 ?_
        refine e_iload rfl rfl ?_
        refine e_ialv (t := i) (n := 400) rfl hT.2.1 rfl (by omega) (by decide) jb ?_
        refine e_ipush rfl ?_
        refine e_ceq_t rfl (by rw [e32x]; rfl) ?_
        refine e_iinc rfl rfl ?_
        refine e_goto rfl ?_
        refine Eg.pk [0, 1] [1, 0] rfl (by decide) ?_
        rw [nI_1]
        exact ih (i + 1) t J (by omega) (by omega) (by omega) ((skp_b hin e32x).symm.trans he) ha h6x h7x h2x hf
      · have hte := tend_le (B := B) hin
        have et : i = tps B n t := by rw [← he]; exact (skp_n (Or.inr e32x)).symm
        refine e_iload rfl rfl ?_
        refine e_aload rfl rfl ?_
        refine e_getIv rfl hT.1 ((hf 1 1 (by decide) (by decide) (by decide) (by decide)).trans hB.2.1) ?_
        refine e_cge_f rfl (nI_ge hin (by omega)) ?_
        refine e_aload rfl rfl ?_
        refine e_getR rfl hT.1 hT.2.2.2.2.2.1 ?_
        refine e_iload rfl rfl ?_
        refine e_ialv (t := i) (n := 400) rfl hT.2.1 rfl (by omega) (by decide) jb ?_
        refine e_ipush rfl ?_
        refine e_ceq_f rfl (fun q => e32x ((nI_eq (b := 32) (by omega) (by decide)).mp q)) ?_
        refine e_iload rfl rfl ?_
        refine e_aload rfl rfl ?_
        refine e_iload rfl rfl ?_
        refine Eg.c2 rfl (by decide) (by decide) rfl (Nat.le_of_ble_eq_true rfl) (xrcv_of rfl hT.1 rfl) ((cs_cutToken hT (hB.fr (hf 1 1 (by decide) (by decide) (by decide) (by decide)) (fun k => hf 2 k (by decide) (by decide) (by decide) (Or.inl (by decide)))) h6x (by omega) hin).mono (by decide)) (fun r1x h1x hq => ?_)
        obtain ⟨rfl, K, rfl, hK⟩ := hq
        refine e_iadd rfl ?_
        rw [show (nI i) + (nI (tend B n i - i - 1)) = nI (tend B n i - 1) from (by rw [nI_add, show i + (tend B n i - i - 1) = tend B n i - 1 by omega])]
        refine e_istore rfl ?_
        refine e_iinc rfl rfl ?_
        refine e_goto rfl ?_
        refine Eg.pk [0, 1] [1, 0] rfl (by decide) ?_
        rw [nI_1, show tend B n i - 1 + 1 = tend B n i by omega]
        refine ih (tend B n i) (t + 1) K (by omega) hte.2 (by omega) ?_ (fun j hj => ?_) hK.2.2.2.1 ((hK.2.2.2.2 1 7 (by omega) (by omega)).trans h7x) ((hK.2.2.2.2 1 2 (by omega) (by omega)).trans h2x) (fun a k q1x q2x q3x q4x => (hK.2.2.2.2 a k (by omega) (by omega)).trans (hf a k q1x q2x q3x q4x))
        · rw [tps, ← et]; unfold nxt; rw [if_pos hin]
        · by_cases e : j = t
          · subst e; rw [← et]; exact ⟨hin, hK.1, hK.2.1, hK.2.2.1⟩
          · obtain ⟨q1x, q2x, q3x, q4x⟩ := ha j (by omega)
            exact ⟨q1x, (hK.2.2.2.2 3 j (by omega) (by omega)).trans q2x, (hK.2.2.2.2 4 j (by omega) (by omega)).trans q3x, (hK.2.2.2.2 5 j (by omega) (by omega)).trans q4x⟩
theorem cs_cut (hT : TpAt sh R) (hB : TpB I B n) : Ec X 8 110 [.ref 1] (sh, I, L, R) (fun r h' => r = none ∧ ∃ (J : Nat → Nat → Int32) (E : Nat), h' = (sh, J, L, R) ∧ Tok J B n E ∧ J 1 7 = nI 0 ∧ J 1 2 = 0 ∧ CutF I J) := by
  refine Ec.of (Nat.le_of_ble_eq_true rfl) ?_
  refine e_aload rfl rfl ?_
  refine e_ipush rfl ?_
  refine e_putIJ rfl hT.1 (fun J1x g1x f1x => ?_)
  refine e_aload rfl rfl ?_
  refine e_ipush rfl ?_
  refine e_putIJ rfl hT.1 (fun J2x g2x f2x => ?_)
  refine e_aload rfl rfl ?_
  refine e_ipush rfl ?_
  refine e_putIJ rfl hT.1 (fun J3x g3x f3x => ?_)
  refine e_ipush rfl ?_
  refine e_istore rfl ?_
  refine Eg.pk [0, 1] [1, 0] rfl (by decide) ?_
  have hf : CutF I J3x := fun a k q1x q2x q3x q4x => (f3x a k (by omega)).trans ((f2x a k (by omega)).trans (f1x a k (by omega)))
  exact cs_cut_loop hT hB n 0 0 J3x (by omega) (Nat.zero_le _) (Nat.zero_le _) rfl (fun j hj => absurd hj (by omega)) ((f3x 1 6 (by decide)).trans ((f2x 1 6 (by decide)).trans g1x)) ((f3x 1 7 (by decide)).trans g2x) g3x hf
/-- the mark stands at the place p, the first fault is f -/
def Rd (J : Nat → Nat → Int32) (B : Nat → Nat) (n E p : Nat) (f : Int32) : Prop := TpB J B n ∧ Tok J B n E ∧ J 1 2 = f ∧ ∃ m, m ≤ E ∧ J 1 7 = nI m ∧ tps B n m = p
def RdF (I J : Nat → Nat → Int32) : Prop := ∀ i k, (i ≠ 1 ∨ (k ≠ 2 ∧ k ≠ 7)) → J i k = I i k
theorem RdF.rf : RdF I I := fun _ _ _ => rfl
theorem RdF.tr {J K : Nat → Nat → Int32} (h : RdF I J) (g : RdF J K) : RdF I K := fun i k q => (g i k q).trans (h i k q)
theorem Tok.fr {J : Nat → Nat → Int32} {E : Nat} (h : Tok I B n E) (e6x : J 1 6 = I 1 6) (e : ∀ i k, i = 3 ∨ i = 4 ∨ i = 5 → J i k = I i k) : Tok J B n E := by
  obtain ⟨h1x, h2x, h3x, h4x, h5x⟩ := h
  refine ⟨h1x, e6x.trans h2x, h3x, h4x, fun j hj => ?_⟩
  rw [e 3 j (by omega), e 4 j (by omega), e 5 j (by omega)]; exact h5x j hj
theorem Rd.fr {J : Nat → Nat → Int32} {E p p' : Nat} {f f' : Int32} (h : Rd I B n E p f) (fr : RdF I J) (h2x : J 1 2 = f') (h7x : ∃ m, m ≤ E ∧ J 1 7 = nI m ∧ tps B n m = p') : Rd J B n E p' f' :=
  ⟨h.1.fr (fr 1 1 (by decide)) (fun k => fr 2 k (by omega)), h.2.1.fr (fr 1 6 (by decide)) (fun i k hi => fr i k (by omega)), h2x, h7x⟩
theorem Rd.any {J : Nat → Nat → Int32} {E p : Nat} {f : Int32} (h : Rd I B n E p f) (e : ∀ i k, i ≤ 5 → J i k = I i k) : Rd J B n E p f :=
  ⟨h.1.fr (e 1 1 (by decide)) (fun k => e 2 k (by decide)), h.2.1.fr (e 1 6 (by decide)) (fun i k hi => e i k (by omega)), (e 1 2 (by decide)).trans h.2.2.1, by
    obtain ⟨m, a, b, c⟩ := h.2.2.2
    exact ⟨m, a, (e 1 7 (by decide)).trans b, c⟩⟩
theorem Rd.tok {E p : Nat} {f : Int32} (h : Rd I B n E p f) : tok B n p := by
  obtain ⟨m, a, b, c⟩ := h.2.2.2
  rw [← c]; exact tps_tok m
theorem Rd.le {E p : Nat} {f : Int32} (h : Rd I B n E p f) : p ≤ n := h.tok.1
def fl (f : Int32) (p k : Nat) : Int32 := if f = 0 then nI (1 + 8 * p + k) else f
def wdH (B : Nat → Nat) (n p : Nat) : Int32 := if tknd B n p = 1 then tvl B n p else -1
def sgH (B : Nat → Nat) (n p : Nat) : Int32 := if tknd B n p = 3 then tvl B n p else -1
def tkB (B : Nat → Nat) (n p : Nat) (lo hi : Int32) : Bool := decide (tknd B n p = 2 ∧ ¬ (tvl B n p < lo ∨ hi < tvl B n p))
def tkV (B : Nat → Nat) (n p : Nat) (lo hi : Int32) : Int32 := if tkB B n p lo hi then tvl B n p else lo
def tkF (B : Nat → Nat) (n p : Nat) (f lo hi : Int32) : Int32 := if tkB B n p lo hi then f else if tknd B n p = 2 then fl f p 1 else fl f p 0
def tkP (B : Nat → Nat) (n p : Nat) (f lo hi : Int32) : Nat := if tkB B n p lo hi = true ∧ f = 0 then nxt B n p else p
theorem tknd_bd {p : Nat} : tknd B n p ≤ 3 := by
  unfold tknd; split
  · decide
  · split
    · decide
    · split <;> decide
theorem cs_step (hT : TpAt sh R) {E p : Nat} {f : Int32} (hr : Rd I B n E p f) : Ec X 1 121 [.ref 1] (sh, I, L, R) (fun r h' => r = none ∧ ∃ J : Nat → Nat → Int32, h' = (sh, J, L, R) ∧ Rd J B n E (nxt B n p) (f) ∧ RdF I J) := by
  obtain ⟨hB, hK, hf, m, hm, h7x, ep⟩ := id hr
  obtain ⟨k3x, k4x, k5x⟩ := hK.2.2.2.2 m hm
  rw [ep] at k3x k4x k5x
  have hE := hK.1
  have hn := hB.1
  have hpn := hr.le
  have hkb := tknd_bd (B := B) (n := n) (p := p)
  refine Ec.of (Nat.le_of_ble_eq_true rfl) ?_
  refine e_aload rfl rfl ?_
  refine e_getIv rfl hT.1 h7x ?_
  refine e_aload rfl rfl ?_
  refine e_getIv rfl hT.1 hK.2.1 ?_
  refine e_ipush rfl ?_
  refine e_isub rfl ?_
  rw [show (nI (E + 1)) - 1 = nI E from nI_sub (b := 1) (by omega)]
  refine e_cge_b rfl (fun b10x => ?_) (fun b10x => ?_)
  · have em : m = E := by have := (nI_lei (by omega) (by omega)).mp b10x; omega
    have epn : nxt B n p = p := by unfold nxt; rw [if_neg (by rw [← ep, em, hK.2.2.1]; omega)]
    exact Eg.ret rfl (by decide) rfl ⟨rfl, I, rfl, by rw [epn]; exact hr, RdF.rf⟩
  · refine e_aload rfl rfl ?_
    refine e_dupr rfl ?_
    refine e_getIv rfl hT.1 h7x ?_
    refine e_ipush rfl ?_
    refine e_iadd rfl ?_
    rw [show (nI m) + 1 = nI (m + 1) from nI_1 m]
    refine e_putIJ rfl hT.1 (fun J1x g1x f1x => ?_)
    have em := nle (by omega) (by omega) b10x
    have fr : RdF I J1x := fun i k q => f1x i k (by omega)
    exact Eg.ret rfl (by decide) rfl ⟨rfl, J1x, rfl, hr.fr fr ((f1x 1 2 (by decide)).trans hf) ⟨m + 1, by omega, g1x, by rw [tps, ep]⟩, fr⟩
theorem cs_fail (hT : TpAt sh R) {E p : Nat} {f : Int32} (hr : Rd I B n E p f) {k : Nat} : Ec X 1 120 [.ref 1, .int (nI k)] (sh, I, L, R) (fun r h' => r = none ∧ ∃ J : Nat → Nat → Int32, h' = (sh, J, L, R) ∧ Rd J B n E (p) (fl f p k) ∧ RdF I J) := by
  obtain ⟨hB, hK, hf, m, hm, h7x, ep⟩ := id hr
  obtain ⟨k3x, k4x, k5x⟩ := hK.2.2.2.2 m hm
  rw [ep] at k3x k4x k5x
  have hE := hK.1
  have hn := hB.1
  have hpn := hr.le
  have hkb := tknd_bd (B := B) (n := n) (p := p)
  refine Ec.of (Nat.le_of_ble_eq_true rfl) ?_
  refine e_aload rfl rfl ?_
  refine e_getIv rfl hT.1 hf ?_
  refine e_ifne_b rfl (fun b4x => ?_) (fun b4x => ?_)
  · exact Eg.ret rfl (by decide) rfl ⟨rfl, I, rfl, by unfold fl; rw [if_neg b4x]; exact hr, RdF.rf⟩
  · refine e_aload rfl rfl ?_
    refine e_ipush rfl ?_
    refine e_ipush rfl ?_
    refine e_aload rfl rfl ?_
    refine e_getR rfl hT.1 hT.2.2.2.2.2.2.2.1 ?_
    refine e_aload rfl rfl ?_
    refine e_getIv rfl hT.1 h7x ?_
    refine e_ialv (t := m) (n := 401) rfl hT.2.2.2.1 rfl (by omega) (by decide) k4x ?_
    refine e_imul rfl ?_
    rw [show 8 * (nI p) = nI (8 * p) from nI_times 8 p]
    refine e_iadd rfl ?_
    rw [show 1 + (nI (8 * p)) = nI (1 + 8 * p) from nI_add 1 _]
    refine e_iload rfl rfl ?_
    refine e_iadd rfl ?_
    rw [show (nI (1 + 8 * p)) + (nI k) = nI (1 + 8 * p + k) from nI_add _ k]
    refine e_putIJ rfl hT.1 (fun J1x g1x f1x => ?_)
    have fr : RdF I J1x := fun i k q => f1x i k (by omega)
    exact Eg.ret rfl (by decide) rfl ⟨rfl, J1x, rfl, hr.fr fr (by unfold fl; rw [if_pos b4x]; exact g1x) ⟨m, hm, (f1x 1 7 (by decide)).trans h7x, ep⟩, fr⟩
theorem cs_atNumber (hT : TpAt sh R) {E p : Nat} {f : Int32} (hr : Rd I B n E p f) : Ec X 1 122 [.ref 1] (sh, I, L, R) (fun r h' => r = some (.int (yn (tknd B n p = 2))) ∧ h' = (sh, I, L, R)) := by
  obtain ⟨hB, hK, hf, m, hm, h7x, ep⟩ := id hr
  obtain ⟨k3x, k4x, k5x⟩ := hK.2.2.2.2 m hm
  rw [ep] at k3x k4x k5x
  have hE := hK.1
  have hn := hB.1
  have hpn := hr.le
  have hkb := tknd_bd (B := B) (n := n) (p := p)
  refine Ec.of (Nat.le_of_ble_eq_true rfl) ?_
  refine e_aload rfl rfl ?_
  refine e_getR rfl hT.1 hT.2.2.2.2.2.2.1 ?_
  refine e_aload rfl rfl ?_
  refine e_getIv rfl hT.1 h7x ?_
  refine e_ialv (t := m) (n := 401) rfl hT.2.2.1 rfl (by omega) (by decide) k3x ?_
  refine e_ipush rfl ?_
  refine e_cne_b rfl (fun b10x => ?_) (fun b10x => ?_)
  · refine e_ipush rfl ?_
    exact Eg.ret rfl (by decide) rfl ⟨congrArg (fun z => some (Value.int z)) (yn_f (fun q => b10x (by rw [q]; rfl))).symm, rfl⟩
  · refine e_ipush rfl ?_
    refine e_goto rfl ?_
    exact Eg.ret rfl (by decide) rfl ⟨congrArg (fun z => some (Value.int z)) (yn_t ((nI_eq (b := 2) (by omega) (by decide)).mp b10x)).symm, rfl⟩
theorem cs_numberHere (hT : TpAt sh R) {E p : Nat} {f : Int32} (hr : Rd I B n E p f) : Ec X 1 123 [.ref 1] (sh, I, L, R) (fun r h' => r = some (.int (tvl B n p)) ∧ h' = (sh, I, L, R)) := by
  obtain ⟨hB, hK, hf, m, hm, h7x, ep⟩ := id hr
  obtain ⟨k3x, k4x, k5x⟩ := hK.2.2.2.2 m hm
  rw [ep] at k3x k4x k5x
  have hE := hK.1
  have hn := hB.1
  have hpn := hr.le
  have hkb := tknd_bd (B := B) (n := n) (p := p)
  refine Ec.of (Nat.le_of_ble_eq_true rfl) ?_
  refine e_aload rfl rfl ?_
  refine e_getR rfl hT.1 hT.2.2.2.2.2.2.2.2 ?_
  refine e_aload rfl rfl ?_
  refine e_getIv rfl hT.1 h7x ?_
  refine e_ialv (t := m) (n := 401) rfl hT.2.2.2.2.1 rfl (by omega) (by decide) k5x ?_
  exact Eg.ret rfl (by decide) rfl ⟨rfl, rfl⟩
theorem cs_wordHere (hT : TpAt sh R) {E p : Nat} {f : Int32} (hr : Rd I B n E p f) : Ec X 1 124 [.ref 1] (sh, I, L, R) (fun r h' => r = some (.int (wdH B n p)) ∧ h' = (sh, I, L, R)) := by
  obtain ⟨hB, hK, hf, m, hm, h7x, ep⟩ := id hr
  obtain ⟨k3x, k4x, k5x⟩ := hK.2.2.2.2 m hm
  rw [ep] at k3x k4x k5x
  have hE := hK.1
  have hn := hB.1
  have hpn := hr.le
  have hkb := tknd_bd (B := B) (n := n) (p := p)
  refine Ec.of (Nat.le_of_ble_eq_true rfl) ?_
  refine e_aload rfl rfl ?_
  refine e_getR rfl hT.1 hT.2.2.2.2.2.2.1 ?_
  refine e_aload rfl rfl ?_
  refine e_getIv rfl hT.1 h7x ?_
  refine e_ialv (t := m) (n := 401) rfl hT.2.2.1 rfl (by omega) (by decide) k3x ?_
  refine e_ipush rfl ?_
  refine e_cne_b rfl (fun b10x => ?_) (fun b10x => ?_)
  · refine e_ipush rfl ?_
    exact Eg.ret rfl (by decide) rfl ⟨congrArg (fun z => some (Value.int z)) (if_neg (fun q => b10x (by rw [q]; rfl))).symm, rfl⟩
  · refine e_aload rfl rfl ?_
    refine e_getR rfl hT.1 hT.2.2.2.2.2.2.2.2 ?_
    refine e_aload rfl rfl ?_
    refine e_getIv rfl hT.1 h7x ?_
    refine e_ialv (t := m) (n := 401) rfl hT.2.2.2.2.1 rfl (by omega) (by decide) k5x ?_
    refine e_goto rfl ?_
    exact Eg.ret rfl (by decide) rfl ⟨congrArg (fun z => some (Value.int z)) (if_pos ((nI_eq (b := 1) (by omega) (by decide)).mp b10x)).symm, rfl⟩
theorem cs_signHere (hT : TpAt sh R) {E p : Nat} {f : Int32} (hr : Rd I B n E p f) : Ec X 1 125 [.ref 1] (sh, I, L, R) (fun r h' => r = some (.int (sgH B n p)) ∧ h' = (sh, I, L, R)) := by
  obtain ⟨hB, hK, hf, m, hm, h7x, ep⟩ := id hr
  obtain ⟨k3x, k4x, k5x⟩ := hK.2.2.2.2 m hm
  rw [ep] at k3x k4x k5x
  have hE := hK.1
  have hn := hB.1
  have hpn := hr.le
  have hkb := tknd_bd (B := B) (n := n) (p := p)
  refine Ec.of (Nat.le_of_ble_eq_true rfl) ?_
  refine e_aload rfl rfl ?_
  refine e_getR rfl hT.1 hT.2.2.2.2.2.2.1 ?_
  refine e_aload rfl rfl ?_
  refine e_getIv rfl hT.1 h7x ?_
  refine e_ialv (t := m) (n := 401) rfl hT.2.2.1 rfl (by omega) (by decide) k3x ?_
  refine e_ipush rfl ?_
  refine e_cne_b rfl (fun b10x => ?_) (fun b10x => ?_)
  · refine e_ipush rfl ?_
    exact Eg.ret rfl (by decide) rfl ⟨congrArg (fun z => some (Value.int z)) (if_neg (fun q => b10x (by rw [q]; rfl))).symm, rfl⟩
  · refine e_aload rfl rfl ?_
    refine e_getR rfl hT.1 hT.2.2.2.2.2.2.2.2 ?_
    refine e_aload rfl rfl ?_
    refine e_getIv rfl hT.1 h7x ?_
    refine e_ialv (t := m) (n := 401) rfl hT.2.2.2.2.1 rfl (by omega) (by decide) k5x ?_
    refine e_goto rfl ?_
    exact Eg.ret rfl (by decide) rfl ⟨congrArg (fun z => some (Value.int z)) (if_pos ((nI_eq (b := 3) (by omega) (by decide)).mp b10x)).symm, rfl⟩
theorem cs_placeHere (hT : TpAt sh R) {E p : Nat} {f : Int32} (hr : Rd I B n E p f) : Ec X 1 126 [.ref 1] (sh, I, L, R) (fun r h' => r = some (.int (nI p)) ∧ h' = (sh, I, L, R)) := by
  obtain ⟨hB, hK, hf, m, hm, h7x, ep⟩ := id hr
  obtain ⟨k3x, k4x, k5x⟩ := hK.2.2.2.2 m hm
  rw [ep] at k3x k4x k5x
  have hE := hK.1
  have hn := hB.1
  have hpn := hr.le
  have hkb := tknd_bd (B := B) (n := n) (p := p)
  refine Ec.of (Nat.le_of_ble_eq_true rfl) ?_
  refine e_aload rfl rfl ?_
  refine e_getR rfl hT.1 hT.2.2.2.2.2.2.2.1 ?_
  refine e_aload rfl rfl ?_
  refine e_getIv rfl hT.1 h7x ?_
  refine e_ialv (t := m) (n := 401) rfl hT.2.2.2.1 rfl (by omega) (by decide) k4x ?_
  exact Eg.ret rfl (by decide) rfl ⟨rfl, rfl⟩
theorem cs_digitsHere (hT : TpAt sh R) {E p : Nat} {f : Int32} (hr : Rd I B n E p f) : Ec X 3 127 [.ref 1] (sh, I, L, R) (fun r h' => r = some (.int (if tknd B n p = 2 then nI (dend B n p - p) else 0)) ∧ h' = (sh, I, L, R)) := by
  obtain ⟨hB, hK, hf, m, hm, h7x, ep⟩ := id hr
  obtain ⟨k3x, k4x, k5x⟩ := hK.2.2.2.2 m hm
  rw [ep] at k3x k4x k5x
  have hE := hK.1
  have hn := hB.1
  have hpn := hr.le
  have hkb := tknd_bd (B := B) (n := n) (p := p)
  refine Ec.of (Nat.le_of_ble_eq_true rfl) ?_
  refine e_aload rfl rfl ?_
  refine Eg.p1 rfl (by decide) (by decide) rfl (Nat.le_of_ble_eq_true rfl) (xrcv_of rfl hT.1 rfl) ((cs_atNumber hT hr).mono (by decide)) ?_
  refine e_ifeq_b rfl (fun b4x => ?_) (fun b4x => ?_)
  · replace b4x := yn_0.mp b4x
    refine e_ipush rfl ?_
    exact Eg.ret rfl (by decide) rfl ⟨congrArg (fun z => some (Value.int z)) (show (0 : Int32) = _ from (if_neg b4x).symm), rfl⟩
  · replace b4x := yn_n0.mp b4x
    refine e_aload rfl rfl ?_
    refine e_aload rfl rfl ?_
    refine e_getR rfl hT.1 hT.2.2.2.2.2.2.2.1 ?_
    refine e_aload rfl rfl ?_
    refine e_getIv rfl hT.1 h7x ?_
    refine e_ialv (t := m) (n := 401) rfl hT.2.2.2.1 rfl (by omega) (by decide) k4x ?_
    refine Eg.p2 rfl (by decide) (by decide) rfl (Nat.le_of_ble_eq_true rfl) (xrcv_of rfl hT.1 rfl) ((cs_digitsEnd hT hB (p := p) (by omega)).mono (by decide)) ?_
    refine e_aload rfl rfl ?_
    refine e_getR rfl hT.1 hT.2.2.2.2.2.2.2.1 ?_
    refine e_aload rfl rfl ?_
    refine e_getIv rfl hT.1 h7x ?_
    refine e_ialv (t := m) (n := 401) rfl hT.2.2.2.1 rfl (by omega) (by decide) k4x ?_
    refine e_isub rfl ?_
    rw [show (nI (dend B n p)) - (nI p) = nI (dend B n p - p) from nI_sub dend_le.1]
    refine e_goto rfl ?_
    exact Eg.ret rfl (by decide) rfl ⟨congrArg (fun z => some (Value.int z)) (show nI (dend B n p - p) = _ from (if_pos b4x).symm), rfl⟩
theorem cs_takeNumber (hT : TpAt sh R) {E p : Nat} {f : Int32} (hr : Rd I B n E p f) {lo hi : Int32} : Ec X 2 128 [.ref 1, .int lo, .int hi] (sh, I, L, R) (fun r h' => r = some (.int (tkV B n p lo hi)) ∧ ∃ J : Nat → Nat → Int32, h' = (sh, J, L, R) ∧ Rd J B n E (tkP B n p f lo hi) (tkF B n p f lo hi) ∧ RdF I J) := by
  obtain ⟨hB, hK, hf, m, hm, h7x, ep⟩ := id hr
  obtain ⟨k3x, k4x, k5x⟩ := hK.2.2.2.2 m hm
  rw [ep] at k3x k4x k5x
  have hE := hK.1
  have hn := hB.1
  have hpn := hr.le
  have hkb := tknd_bd (B := B) (n := n) (p := p)
  refine Ec.of (Nat.le_of_ble_eq_true rfl) ?_
  refine e_aload rfl rfl ?_
  refine Eg.p1 rfl (by decide) (by decide) rfl (Nat.le_of_ble_eq_true rfl) (xrcv_of rfl hT.1 rfl) ((cs_atNumber hT hr).mono (by decide)) ?_
  refine e_ifne_b rfl (fun b4x => ?_) (fun b4x => ?_)
  · replace b4x := yn_n0.mp b4x
    refine e_aload rfl rfl ?_
    refine e_getR rfl hT.1 hT.2.2.2.2.2.2.2.2 ?_
    refine e_aload rfl rfl ?_
    refine e_getIv rfl hT.1 h7x ?_
    refine e_ialv (t := m) (n := 401) rfl hT.2.2.2.2.1 rfl (by omega) (by decide) k5x ?_
    refine e_istore rfl ?_
    refine e_iload rfl rfl ?_
    refine e_iload rfl rfl ?_
    refine e_clt_b rfl (fun b26x => ?_) (fun b26x => ?_)
    · refine e_aload rfl rfl ?_
      refine e_ipush rfl ?_
      refine Eg.c2 rfl (by decide) (by decide) rfl (Nat.le_of_ble_eq_true rfl) (xrcv_of rfl hT.1 rfl) ((cs_fail hT hr (k := 1)).mono (by decide)) (fun r1x h1x hq => ?_)
      obtain ⟨rfl, J, rfl, hj, fj⟩ := hq
      refine e_iload rfl rfl ?_
      have nb : ¬ tkB B n p lo hi = true := fun q => (of_decide_eq_true q).2 (Or.inl b26x)
      exact Eg.ret rfl (by decide) rfl ⟨congrArg (fun z => some (Value.int z)) (if_neg nb).symm, J, rfl, by unfold tkP tkF; rw [if_neg (fun q => nb q.1), if_neg nb, if_pos b4x]; exact hj, fj⟩
    · refine e_iload rfl rfl ?_
      refine e_iload rfl rfl ?_
      refine e_cle_b rfl (fun b31x => ?_) (fun b31x => ?_)
      · refine e_aload rfl rfl ?_
        refine e_getIv rfl hT.1 hf ?_
        refine e_ifne_b rfl (fun b45x => ?_) (fun b45x => ?_)
        · refine e_iload rfl rfl ?_
          have nb : tkB B n p lo hi = true := decide_eq_true ⟨b4x, fun q => q.elim b26x (fun q => Int32.not_lt.mpr b31x q)⟩
          exact Eg.ret rfl (by decide) rfl ⟨congrArg (fun z => some (Value.int z)) (if_pos nb).symm, I, rfl, by unfold tkP tkF; rw [if_neg (fun q => b45x q.2), if_pos nb]; exact hr, RdF.rf⟩
        · refine e_aload rfl rfl ?_
          refine Eg.c1 rfl (by decide) (by decide) rfl (Nat.le_of_ble_eq_true rfl) (xrcv_of rfl hT.1 rfl) ((cs_step hT hr).mono (by decide)) (fun r1x h1x hq => ?_)
          obtain ⟨rfl, J, rfl, hj, fj⟩ := hq
          refine e_iload rfl rfl ?_
          have nb : tkB B n p lo hi = true := decide_eq_true ⟨b4x, fun q => q.elim b26x (fun q => Int32.not_lt.mpr b31x q)⟩
          exact Eg.ret rfl (by decide) rfl ⟨congrArg (fun z => some (Value.int z)) (if_pos nb).symm, J, rfl, by unfold tkP tkF; rw [if_pos ⟨nb, b45x⟩, if_pos nb]; exact hj, fj⟩
      · refine e_aload rfl rfl ?_
        refine e_ipush rfl ?_
        refine Eg.c2 rfl (by decide) (by decide) rfl (Nat.le_of_ble_eq_true rfl) (xrcv_of rfl hT.1 rfl) ((cs_fail hT hr (k := 1)).mono (by decide)) (fun r1x h1x hq => ?_)
        obtain ⟨rfl, J, rfl, hj, fj⟩ := hq
        refine e_iload rfl rfl ?_
        have nb : ¬ tkB B n p lo hi = true := fun q => (of_decide_eq_true q).2 (Or.inr (Int32.not_le.mp b31x))
        exact Eg.ret rfl (by decide) rfl ⟨congrArg (fun z => some (Value.int z)) (if_neg nb).symm, J, rfl, by unfold tkP tkF; rw [if_neg (fun q => nb q.1), if_neg nb, if_pos b4x]; exact hj, fj⟩
  · replace b4x := yn_0.mp b4x
    refine e_aload rfl rfl ?_
    refine e_ipush rfl ?_
    refine Eg.c2 rfl (by decide) (by decide) rfl (Nat.le_of_ble_eq_true rfl) (xrcv_of rfl hT.1 rfl) ((cs_fail hT hr (k := 0)).mono (by decide)) (fun r1x h1x hq => ?_)
    obtain ⟨rfl, J, rfl, hj, fj⟩ := hq
    refine e_iload rfl rfl ?_
    have nb : ¬ tkB B n p lo hi = true := fun q => b4x (of_decide_eq_true q).1
    exact Eg.ret rfl (by decide) rfl ⟨congrArg (fun z => some (Value.int z)) (if_neg nb).symm, J, rfl, by unfold tkP tkF; rw [if_neg (fun q => nb q.1), if_neg nb, if_neg b4x]; exact hj, fj⟩
theorem cs_takeSign (hT : TpAt sh R) {E p : Nat} {f : Int32} (hr : Rd I B n E p f) {c : Int32} : Ec X 2 129 [.ref 1, .int c] (sh, I, L, R) (fun r h' => r = none ∧ ∃ J : Nat → Nat → Int32, h' = (sh, J, L, R) ∧ Rd J B n E (if sgH B n p = c then nxt B n p else p) (if sgH B n p = c then f else fl f p 0) ∧ RdF I J) := by
  obtain ⟨hB, hK, hf, m, hm, h7x, ep⟩ := id hr
  obtain ⟨k3x, k4x, k5x⟩ := hK.2.2.2.2 m hm
  rw [ep] at k3x k4x k5x
  have hE := hK.1
  have hn := hB.1
  have hpn := hr.le
  have hkb := tknd_bd (B := B) (n := n) (p := p)
  refine Ec.of (Nat.le_of_ble_eq_true rfl) ?_
  refine e_aload rfl rfl ?_
  refine Eg.p1 rfl (by decide) (by decide) rfl (Nat.le_of_ble_eq_true rfl) (xrcv_of rfl hT.1 rfl) ((cs_signHere hT hr).mono (by decide)) ?_
  refine e_iload rfl rfl ?_
  refine e_cne_b rfl (fun b5x => ?_) (fun b5x => ?_)
  · refine e_aload rfl rfl ?_
    refine e_ipush rfl ?_
    refine Eg.c2 rfl (by decide) (by decide) rfl (Nat.le_of_ble_eq_true rfl) (xrcv_of rfl hT.1 rfl) ((cs_fail hT hr (k := 0)).mono (by decide)) (fun r1x h1x hq => ?_)
    obtain ⟨rfl, J, rfl, hj, fj⟩ := hq
    exact Eg.ret rfl (by decide) rfl ⟨rfl, J, rfl, by rw [if_neg b5x, if_neg b5x]; exact hj, fj⟩
  · refine e_aload rfl rfl ?_
    refine Eg.c1 rfl (by decide) (by decide) rfl (Nat.le_of_ble_eq_true rfl) (xrcv_of rfl hT.1 rfl) ((cs_step hT hr).mono (by decide)) (fun r1x h1x hq => ?_)
    obtain ⟨rfl, J, rfl, hj, fj⟩ := hq
    refine e_goto rfl ?_
    exact Eg.ret rfl (by decide) rfl ⟨rfl, J, rfl, by rw [if_pos b5x, if_pos b5x]; exact hj, fj⟩
/-- behind a clause: whether it goes on, where, the fault -/
def goB (B : Nat → Nat) (n p : Nat) (f : Int32) : Bool := decide (f = 0 ∧ ¬ tknd B n p = 0 ∧ sgH B n p = 59)
def goF (B : Nat → Nat) (n p : Nat) (f : Int32) : Int32 := if f = 0 ∧ ¬ tknd B n p = 0 ∧ ¬ sgH B n p = 59 then fl 0 p 0 else f
def goP (B : Nat → Nat) (n p : Nat) (f : Int32) : Nat := if goB B n p f then nxt B n p else p
theorem fl_ne {p k : Nat} (h : 1 + 8 * p + k < 2 ^ 31) : ¬ fl 0 p k = 0 := by
  unfold fl; rw [if_pos rfl]; exact nI_ne0 (by omega) h
theorem cs_goesOn (hT : TpAt sh R) {E p : Nat} {f : Int32} (hr : Rd I B n E p f) : Ec X 3 130 [.ref 1] (sh, I, L, R) (fun r h' => r = some (.int (yn (goB B n p f = true))) ∧ ∃ J : Nat → Nat → Int32, h' = (sh, J, L, R) ∧ Rd J B n E (goP B n p f) (goF B n p f) ∧ RdF I J) := by
  obtain ⟨hB, hK, hf, m, hm, h7x, ep⟩ := id hr
  obtain ⟨k3x, k4x, k5x⟩ := hK.2.2.2.2 m hm
  rw [ep] at k3x k4x k5x
  have hE := hK.1
  have hn := hB.1
  have hpn := hr.le
  have hkb := tknd_bd (B := B) (n := n) (p := p)
  refine Ec.of (Nat.le_of_ble_eq_true rfl) ?_
  refine e_aload rfl rfl ?_
  refine e_getIv rfl hT.1 hf ?_
  refine e_ifne_b rfl (fun b4x => ?_) (fun b4x => ?_)
  · refine e_ipush rfl ?_
    have nb : ¬ goB B n p f = true := fun q => b4x (of_decide_eq_true q).1
    exact Eg.ret rfl (by decide) rfl ⟨congrArg (fun z => some (Value.int z)) (yn_f nb).symm, I, rfl, by unfold goP goF; rw [if_neg nb, if_neg (fun q => b4x q.1)]; exact hr, RdF.rf⟩
  · refine e_aload rfl rfl ?_
    refine e_getR rfl hT.1 hT.2.2.2.2.2.2.1 ?_
    refine e_aload rfl rfl ?_
    refine e_getIv rfl hT.1 h7x ?_
    refine e_ialv (t := m) (n := 401) rfl hT.2.2.1 rfl (by omega) (by decide) k3x ?_
    refine e_ifne_b rfl (fun b16x => ?_) (fun b16x => ?_)
    · have k0x : ¬ tknd B n p = 0 := fun q => b16x (by rw [q]; rfl)
      subst b4x
      refine e_aload rfl rfl ?_
      refine e_ipush rfl ?_
      refine Eg.c2 rfl (by decide) (by decide) rfl (Nat.le_of_ble_eq_true rfl) (xrcv_of rfl hT.1 rfl) ((cs_takeSign hT hr (c := 59)).mono (by decide)) (fun r1x h1x hq => ?_)
      obtain ⟨rfl, J, rfl, hj, fj⟩ := hq
      refine e_aload rfl rfl ?_
      refine e_getIv rfl hT.1 hj.2.2.1 ?_
      refine e_ifne_b rfl (fun b31x => ?_) (fun b31x => ?_)
      · have nb : ¬ goB B n p 0 = true := fun q => b31x (by rw [if_pos (of_decide_eq_true q).2.2])
        have ns : ¬ sgH B n p = 59 := fun q => b31x (if_pos q)
        refine e_ipush rfl ?_
        exact Eg.ret rfl (by decide) rfl ⟨congrArg (fun z => some (Value.int z)) (yn_f nb).symm, J, rfl, by unfold goP goF; rw [if_neg nb, if_pos ⟨rfl, k0x, ns⟩]; rw [if_neg ns, if_neg ns] at hj; exact hj, fj⟩
      · have ns : sgH B n p = 59 := Decidable.byContradiction (fun q => fl_ne (p := p) (k := 0) (by omega) (by rw [if_neg q] at b31x; exact b31x))
        have nb : goB B n p 0 = true := decide_eq_true ⟨rfl, k0x, ns⟩
        refine e_ipush rfl ?_
        refine e_goto rfl ?_
        exact Eg.ret rfl (by decide) rfl ⟨congrArg (fun z => some (Value.int z)) (yn_t nb).symm, J, rfl, by unfold goP goF; rw [if_pos nb, if_neg (fun q => q.2.2 ns)]; rw [if_pos ns, if_pos ns] at hj; exact hj, fj⟩
    · have k0x : tknd B n p = 0 := (nI_eq (b := 0) (by omega) (by decide)).mp b16x
      refine e_ipush rfl ?_
      have nb : ¬ goB B n p f = true := fun q => (of_decide_eq_true q).2.1 k0x
      exact Eg.ret rfl (by decide) rfl ⟨congrArg (fun z => some (Value.int z)) (yn_f nb).symm, I, rfl, by unfold goP goF; rw [if_neg nb, if_neg (fun q => q.2.1 k0x)]; exact hr, RdF.rf⟩
end RD
