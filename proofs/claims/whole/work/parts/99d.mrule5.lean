/-! A RULE read, the other side: the stack of what pends -/
section MU5x
variable {X : xX} {h : xH} {sh : List (Nat × Nat)} {I : Nat → Nat → Int32} {L : Nat → Nat → Int64} {R : Nat → Nat → Option Nat} {B : Nat → Nat} {n ri p : Nat} {st : rS}
variable {S : List Nat} {d x : Nat}
def Stk (I : Nat → Nat → Int32) : List Nat → Prop
  | [] => True
  | x :: r => I 344 r.length = nI x ∧ Stk I r
theorem Stk.fr {J : Nat → Nat → Int32} : ∀ (S : List Nat), Stk I S → (∀ k, k < S.length → J 344 k = I 344 k) → Stk J S := by
  intro S
  induction S with
  | nil => intro _ _; trivial
  | cons x r ih =>
    intro h e
    exact ⟨(e _ (by simp)).trans h.1, ih h.2 (fun k hk => e k (by simp; omega))⟩
/-- what is on top -/
def tpS : List Nat → Int32
  | [] => -1
  | x :: _ => nI x
def adN : Nat → Nat → rS → rS
  | 0, _, st => st
  | k + 1, x, st => adN k x (adE x st)
theorem adN_s : ∀ (k : Nat) (st : rS), adN (k + 1) x st = adE x (adN k x st) := by
  intro k
  induction k with
  | zero => intro st; rfl
  | succ k ih => intro st; rw [adN, ih]; rfl
/-- the state of a test: the stack S, d of them deep -/
def Cf0x (I : Nat → Nat → Int32) (B : Nat → Nat) (n ri p : Nat) (st : rS) (S : List Nat) (d : Nat) : Prop := Mst I B n ri p st ∧ I 290 55 = nI S.length ∧ I 290 53 = nI d ∧ Stk I S ∧ d ≤ 10 ∧ S.length ≤ 400
def MqT (I J : Nat → Nat → Int32) (ri : Nat) : Prop := ∀ i k, (i ≠ 290 ∨ (k ≠ 48 ∧ k ≠ 49 ∧ k ≠ 52 ∧ k ≠ 53 ∧ k ≠ 54 ∧ k ≠ 55)) → ((i ≠ 338 ∧ i ≠ 339) ∨ k < 300 * ri ∨ 300 * ri + 300 ≤ k) → i ≠ 344 → J i k = I i k
theorem MqT.rf : MqT I I ri := fun _ _ _ _ _ => rfl
theorem MqT.tr {J K : Nat → Nat → Int32} (h : MqT I J ri) (g : MqT J K ri) : MqT I K ri := fun i k a b c => (g i k a b c).trans (h i k a b c)
theorem MqT.of {J : Nat → Nat → Int32} (h : MqF I J ri) : MqT I J ri := fun i k a b _ => h i k (by omega) b
theorem Cf0x.q {J : Nat → Nat → Int32} {p' : Nat} {st' : rS} (h : Cf0x I B n ri p st S d) (f : MqF I J ri) (hj : Mst J B n ri p' st') : Cf0x J B n ri p' st' S d :=
  ⟨hj, (f 290 55 (by omega) (by omega)).trans h.2.1, (f 290 53 (by omega) (by omega)).trans h.2.2.1, h.2.2.2.1.fr S (fun k _ => f 344 k (by omega) (by omega)), h.2.2.2.2⟩
theorem Mst.fr {J : Nat → Nat → Int32} (h : Mst I B n ri p st) (f : ∀ i k, (i = 290 ∧ k ≠ 53 ∧ k ≠ 55) ∨ i = 337 ∨ i = 338 ∨ i = 339 → J i k = I i k) : Mst J B n ri p st := by
  obtain ⟨h1x, h2x, h3x, h4x, h5x, h6x, h7x, ⟨h8x, h9x, h10x⟩, h11x⟩ := h
  refine ⟨h1x.any (fun k hk => f _ _ (by omega)) (fun k => f _ _ (by omega)), h2x, h3x, (f _ _ (by omega)).trans h4x, h5x, (f _ _ (by omega)).trans h6x, h7x, ⟨(f _ _ (by omega)).trans h8x, h9x, (f _ _ (by omega)).trans h10x⟩, fun k e q => ?_⟩
  rw [f 338 _ (by omega), f 339 _ (by omega)]; exact h11x k e q
theorem Msw.fr {J : Nat → Nat → Int32} {F : Int32} (h : Msw I B n ri F) (f : ∀ i k, (i = 290 ∧ k ≠ 53 ∧ k ≠ 55) ∨ i = 337 ∨ i = 338 ∨ i = 339 → J i k = I i k) : Msw J B n ri F := by
  obtain ⟨h0x, ⟨p, hp, hm⟩, h8x, h9x, h10x⟩ := h
  exact ⟨h0x, ⟨p, hp, hm.any (fun k hk => f _ _ (by omega)) (fun k => f _ _ (by omega))⟩, (f _ _ (by omega)).trans h8x, h9x, (f _ _ (by omega)).trans h10x⟩
theorem ms_top (hM : MW sh R) (h55x : I 290 55 = nI S.length) (hS : Stk I S) (hl : S.length ≤ 400) : Ec X 1 208 [.ref 290] (sh, I, L, R) (fun r h' => r = some (.int (tpS S)) ∧ h' = (sh, I, L, R)) := by
  refine Ec.of (Nat.le_of_ble_eq_true rfl) ?_
  cases S with
  | nil =>
    refine e_aload rfl rfl ?_
    refine e_getIv rfl hM.1 h55x ?_
    refine e_ifne_f rfl rfl ?_
    refine e_ipush rfl ?_
    refine e_goto rfl ?_
    exact Eg.ret rfl (by decide) rfl ⟨rfl, rfl⟩
  | cons x r =>
    have hl2x : r.length + 1 ≤ 400 := hl
    have h55' : I 290 55 = nI (r.length + 1) := h55x
    refine e_aload rfl rfl ?_
    refine e_getIv rfl hM.1 h55' ?_
    refine e_ifne_t rfl (nI_ne0 (by omega) (by omega)) ?_
    refine e_aload rfl rfl ?_
    refine e_getR rfl hM.1 (show R 290 65 = some 344 from (hM.2 53 _ rfl).2) ?_
    refine e_aload rfl rfl ?_
    refine e_getIv rfl hM.1 h55' ?_
    refine e_ipush rfl ?_
    refine e_isub rfl ?_
    rw [show (nI (r.length + 1)) - 1 = nI r.length from (show nI (r.length + 1) - nI 1 = _ from nI_sub (by omega))]
    refine e_ialv (t := r.length) (n := 402) rfl (show sh[344]? = some (20, 402) from (hM.2 53 _ rfl).1) rfl (by omega) (by decide) hS.1 ?_
    exact Eg.ret rfl (by decide) rfl ⟨rfl, rfl⟩
theorem ms_opens (hM : MW sh R) (hr : Cf0x I B n ri p st S d) (hx : x = 9 ∨ x = 10 ∨ x = 11 ∨ x = 12) (hl : S.length < 400) : Ec X 2 209 [.ref 290, .int (nI x)] (sh, I, L, R) (fun r h' => r = none ∧ ∃ J : Nat → Nat → Int32, h' = (sh, J, L, R) ∧ MqT I J ri ∧ J 290 48 = I 290 48 ∧ (((x = 9 ∨ x = 12) ∧ d = 10 ∧ Msw J B n ri (fl 0 p 2)) ∨ ((x = 9 ∨ x = 12) ∧ d < 10 ∧ Cf0x J B n ri p st (x :: S) (d + 1)) ∨ ((x = 10 ∨ x = 11) ∧ Cf0x J B n ri p st (x :: S) d))) := by
  obtain ⟨hm, h55x, h53x, hS, hd, hl4x⟩ := id hr
  have hle := hm.le
  have hpn := hm.2.1
  refine Ec.of (Nat.le_of_ble_eq_true rfl) ?_
  refine e_iload rfl rfl ?_
  refine e_ipush rfl ?_
  refine e_ceq_b rfl (fun b3x => ?_) (fun b3x => ?_)
  · refine e_aload rfl rfl ?_
    refine e_getIv rfl hM.1 h53x ?_
    refine e_ipush rfl ?_
    refine e_cne_b rfl (fun b18x => ?_) (fun b18x => ?_)
    · refine e_aload rfl rfl ?_
      refine e_dupr rfl ?_
      refine e_getIv rfl hM.1 h53x ?_
      refine e_ipush rfl ?_
      refine e_iadd rfl ?_
      rw [show (nI d) + 1 = nI (d + 1) from nI_1 _]
      refine e_putIJ rfl hM.1 (fun J21x g21x f21x => ?_)
      refine e_aload rfl rfl ?_
      refine e_getR rfl hM.1 (show R 290 65 = some 344 from (hM.2 53 _ rfl).2) ?_
      refine e_aload rfl rfl ?_
      refine e_getIv rfl hM.1 ((f21x 290 55 (by omega)).trans h55x) ?_
      refine e_iload rfl rfl ?_
      refine e_iasJ (t := S.length) (n := 402) rfl (show sh[344]? = some (20, 402) from (hM.2 53 _ rfl).1) rfl (by omega) (by decide) (fun J22x g22x f22x => ?_)
      refine e_aload rfl rfl ?_
      refine e_dupr rfl ?_
      refine e_getIv rfl hM.1 ((f22x 290 55 (by omega)).trans ((f21x 290 55 (by omega)).trans h55x)) ?_
      refine e_ipush rfl ?_
      refine e_iadd rfl ?_
      rw [show (nI S.length) + 1 = nI (S.length + 1) from nI_1 _]
      refine e_putIJ rfl hM.1 (fun J23x g23x f23x => ?_)
      have fr : ∀ i k, (i ≠ 290 ∨ k ≠ 55) → (i ≠ 290 ∨ k ≠ 53) → (i ≠ 344 ∨ k ≠ S.length) → J23x i k = I i k := fun i k a a2x a3x => (f23x i k (by omega)).trans ((f22x i k (by omega)).trans (f21x i k (by omega)))
      have x912x : x = 9 ∨ x = 12 := Or.inl ((nI_eq (b := 9) (by omega) (by decide)).mp b3x)
      have e10x : ¬ d = 10 := fun e => b18x (by rw [e]; rfl)
      exact Eg.ret rfl (by decide) rfl ⟨rfl, J23x, rfl, fun i k a b c => fr i k (by omega) (by omega) (by omega), fr 290 48 (by omega) (by omega) (by omega), Or.inr (Or.inl ⟨x912x, by omega, hm.fr (fun i k q => fr i k (by omega) (by omega) (by omega)), g23x, (f23x 290 53 (by omega)).trans ((f22x 290 53 (by omega)).trans g21x), ⟨(f23x 344 _ (by omega)).trans g22x, hS.fr S (fun k hk => fr 344 k (by omega) (by omega) (by omega))⟩, by omega, by simp; omega⟩)⟩
    · refine e_aload rfl rfl ?_
      refine e_ipush rfl ?_
      refine e_aload rfl rfl ?_
      refine e_getIv rfl hM.1 hm.1.2.1 ?_
      refine Eg.c3 rfl (by decide) (by decide) rfl (Nat.le_of_ble_eq_true rfl) (xrcv_of rfl hM.1 rfl) ((ms_fails hM hm.1 (k := 2) (q := p)).mono (by decide)) (fun r1x h1x hq => ?_)
      obtain ⟨rfl, K, rfl, b1x, b2x⟩ := hq
      refine e_aload rfl rfl ?_
      refine e_dupr rfl ?_
      refine e_getIv rfl hM.1 ((b2x 290 53 (by decide)).trans h53x) ?_
      refine e_ipush rfl ?_
      refine e_iadd rfl ?_
      rw [show (nI d) + 1 = nI (d + 1) from nI_1 _]
      refine e_putIJ rfl hM.1 (fun J24x g24x f24x => ?_)
      refine e_aload rfl rfl ?_
      refine e_getR rfl hM.1 (show R 290 65 = some 344 from (hM.2 53 _ rfl).2) ?_
      refine e_aload rfl rfl ?_
      refine e_getIv rfl hM.1 ((f24x 290 55 (by omega)).trans ((b2x 290 55 (by decide)).trans h55x)) ?_
      refine e_iload rfl rfl ?_
      refine e_iasJ (t := S.length) (n := 402) rfl (show sh[344]? = some (20, 402) from (hM.2 53 _ rfl).1) rfl (by omega) (by decide) (fun J25x g25x f25x => ?_)
      refine e_aload rfl rfl ?_
      refine e_dupr rfl ?_
      refine e_getIv rfl hM.1 ((f25x 290 55 (by omega)).trans ((f24x 290 55 (by omega)).trans ((b2x 290 55 (by decide)).trans h55x))) ?_
      refine e_ipush rfl ?_
      refine e_iadd rfl ?_
      rw [show (nI S.length) + 1 = nI (S.length + 1) from nI_1 _]
      refine e_putIJ rfl hM.1 (fun J26x g26x f26x => ?_)
      have fr : ∀ i k, (i ≠ 290 ∨ k ≠ 55) → (i ≠ 290 ∨ k ≠ 53) → (i ≠ 344 ∨ k ≠ S.length) → J26x i k = K i k := fun i k a a2x a3x => (f26x i k (by omega)).trans ((f25x i k (by omega)).trans (f24x i k (by omega)))
      have x912x : x = 9 ∨ x = 12 := Or.inl ((nI_eq (b := 9) (by omega) (by decide)).mp b3x)
      have e10x := (nI_eq (b := 10) (by omega) (by decide)).mp b18x
      exact Eg.ret rfl (by decide) rfl ⟨rfl, J26x, rfl, (MqT.of (MqF.of b2x)).tr (fun i k a b c => fr i k (by omega) (by omega) (by omega)), (fr 290 48 (by omega) (by omega) (by omega)).trans (b1x.2.1.trans hm.1.2.1.symm), Or.inl ⟨x912x, e10x, (hm.wk (fl_ne (by omega)) b1x hpn (MqF.of b2x)).fr (fun i k q => fr i k (by omega) (by omega) (by omega))⟩⟩
  · refine e_iload rfl rfl ?_
    refine e_ipush rfl ?_
    refine e_cne_b rfl (fun b9x => ?_) (fun b9x => ?_)
    · refine e_aload rfl rfl ?_
      refine e_getR rfl hM.1 (show R 290 65 = some 344 from (hM.2 53 _ rfl).2) ?_
      refine e_aload rfl rfl ?_
      refine e_getIv rfl hM.1 h55x ?_
      refine e_iload rfl rfl ?_
      refine e_iasJ (t := S.length) (n := 402) rfl (show sh[344]? = some (20, 402) from (hM.2 53 _ rfl).1) rfl (by omega) (by decide) (fun J27x g27x f27x => ?_)
      refine e_aload rfl rfl ?_
      refine e_dupr rfl ?_
      refine e_getIv rfl hM.1 ((f27x 290 55 (by omega)).trans h55x) ?_
      refine e_ipush rfl ?_
      refine e_iadd rfl ?_
      rw [show (nI S.length) + 1 = nI (S.length + 1) from nI_1 _]
      refine e_putIJ rfl hM.1 (fun J28x g28x f28x => ?_)
      have fr : ∀ i k, (i ≠ 290 ∨ k ≠ 55) → (i ≠ 344 ∨ k ≠ S.length) → J28x i k = I i k := fun i k a a3x => (f28x i k (by omega)).trans (f27x i k (by omega))
      have x101x : x = 10 ∨ x = 11 := by
        rcases hx with e | e | e | e
        · exact absurd (by rw [e]; rfl) b3x
        · exact Or.inl e
        · exact Or.inr e
        · exact absurd (by rw [e]; rfl) b9x
      exact Eg.ret rfl (by decide) rfl ⟨rfl, J28x, rfl, fun i k a b c => fr i k (by omega) (by omega), fr 290 48 (by omega) (by omega), Or.inr (Or.inr ⟨x101x, hm.fr (fun i k q => fr i k (by omega) (by omega)), g28x, (fr 290 53 (by omega) (by omega)).trans h53x, ⟨(f28x 344 _ (by omega)).trans g27x, hS.fr S (fun k hk => fr 344 k (by omega) (by omega))⟩, hd, by simp; omega⟩)⟩
    · refine e_aload rfl rfl ?_
      refine e_getIv rfl hM.1 h53x ?_
      refine e_ipush rfl ?_
      refine e_cne_b rfl (fun b18x => ?_) (fun b18x => ?_)
      · refine e_aload rfl rfl ?_
        refine e_dupr rfl ?_
        refine e_getIv rfl hM.1 h53x ?_
        refine e_ipush rfl ?_
        refine e_iadd rfl ?_
        rw [show (nI d) + 1 = nI (d + 1) from nI_1 _]
        refine e_putIJ rfl hM.1 (fun J29x g29x f29x => ?_)
        refine e_aload rfl rfl ?_
        refine e_getR rfl hM.1 (show R 290 65 = some 344 from (hM.2 53 _ rfl).2) ?_
        refine e_aload rfl rfl ?_
        refine e_getIv rfl hM.1 ((f29x 290 55 (by omega)).trans h55x) ?_
        refine e_iload rfl rfl ?_
        refine e_iasJ (t := S.length) (n := 402) rfl (show sh[344]? = some (20, 402) from (hM.2 53 _ rfl).1) rfl (by omega) (by decide) (fun J30x g30x f30x => ?_)
        refine e_aload rfl rfl ?_
        refine e_dupr rfl ?_
        refine e_getIv rfl hM.1 ((f30x 290 55 (by omega)).trans ((f29x 290 55 (by omega)).trans h55x)) ?_
        refine e_ipush rfl ?_
        refine e_iadd rfl ?_
        rw [show (nI S.length) + 1 = nI (S.length + 1) from nI_1 _]
        refine e_putIJ rfl hM.1 (fun J31x g31x f31x => ?_)
        have fr : ∀ i k, (i ≠ 290 ∨ k ≠ 55) → (i ≠ 290 ∨ k ≠ 53) → (i ≠ 344 ∨ k ≠ S.length) → J31x i k = I i k := fun i k a a2x a3x => (f31x i k (by omega)).trans ((f30x i k (by omega)).trans (f29x i k (by omega)))
        have x912x : x = 9 ∨ x = 12 := Or.inr ((nI_eq (b := 12) (by omega) (by decide)).mp b9x)
        have e10x : ¬ d = 10 := fun e => b18x (by rw [e]; rfl)
        exact Eg.ret rfl (by decide) rfl ⟨rfl, J31x, rfl, fun i k a b c => fr i k (by omega) (by omega) (by omega), fr 290 48 (by omega) (by omega) (by omega), Or.inr (Or.inl ⟨x912x, by omega, hm.fr (fun i k q => fr i k (by omega) (by omega) (by omega)), g31x, (f31x 290 53 (by omega)).trans ((f30x 290 53 (by omega)).trans g29x), ⟨(f31x 344 _ (by omega)).trans g30x, hS.fr S (fun k hk => fr 344 k (by omega) (by omega) (by omega))⟩, by omega, by simp; omega⟩)⟩
      · refine e_aload rfl rfl ?_
        refine e_ipush rfl ?_
        refine e_aload rfl rfl ?_
        refine e_getIv rfl hM.1 hm.1.2.1 ?_
        refine Eg.c3 rfl (by decide) (by decide) rfl (Nat.le_of_ble_eq_true rfl) (xrcv_of rfl hM.1 rfl) ((ms_fails hM hm.1 (k := 2) (q := p)).mono (by decide)) (fun r1x h1x hq => ?_)
        obtain ⟨rfl, K, rfl, b1x, b2x⟩ := hq
        refine e_aload rfl rfl ?_
        refine e_dupr rfl ?_
        refine e_getIv rfl hM.1 ((b2x 290 53 (by decide)).trans h53x) ?_
        refine e_ipush rfl ?_
        refine e_iadd rfl ?_
        rw [show (nI d) + 1 = nI (d + 1) from nI_1 _]
        refine e_putIJ rfl hM.1 (fun J32x g32x f32x => ?_)
        refine e_aload rfl rfl ?_
        refine e_getR rfl hM.1 (show R 290 65 = some 344 from (hM.2 53 _ rfl).2) ?_
        refine e_aload rfl rfl ?_
        refine e_getIv rfl hM.1 ((f32x 290 55 (by omega)).trans ((b2x 290 55 (by decide)).trans h55x)) ?_
        refine e_iload rfl rfl ?_
        refine e_iasJ (t := S.length) (n := 402) rfl (show sh[344]? = some (20, 402) from (hM.2 53 _ rfl).1) rfl (by omega) (by decide) (fun J33x g33x f33x => ?_)
        refine e_aload rfl rfl ?_
        refine e_dupr rfl ?_
        refine e_getIv rfl hM.1 ((f33x 290 55 (by omega)).trans ((f32x 290 55 (by omega)).trans ((b2x 290 55 (by decide)).trans h55x))) ?_
        refine e_ipush rfl ?_
        refine e_iadd rfl ?_
        rw [show (nI S.length) + 1 = nI (S.length + 1) from nI_1 _]
        refine e_putIJ rfl hM.1 (fun J34x g34x f34x => ?_)
        have fr : ∀ i k, (i ≠ 290 ∨ k ≠ 55) → (i ≠ 290 ∨ k ≠ 53) → (i ≠ 344 ∨ k ≠ S.length) → J34x i k = K i k := fun i k a a2x a3x => (f34x i k (by omega)).trans ((f33x i k (by omega)).trans (f32x i k (by omega)))
        have x912x : x = 9 ∨ x = 12 := Or.inr ((nI_eq (b := 12) (by omega) (by decide)).mp b9x)
        have e10x := (nI_eq (b := 10) (by omega) (by decide)).mp b18x
        exact Eg.ret rfl (by decide) rfl ⟨rfl, J34x, rfl, (MqT.of (MqF.of b2x)).tr (fun i k a b c => fr i k (by omega) (by omega) (by omega)), (fr 290 48 (by omega) (by omega) (by omega)).trans (b1x.2.1.trans hm.1.2.1.symm), Or.inl ⟨x912x, e10x, (hm.wk (fl_ne (by omega)) b1x hpn (MqF.of b2x)).fr (fun i k q => fr i k (by omega) (by omega) (by omega))⟩⟩
theorem ms_answers (hM : MW sh R) (hx : x = 9 ∨ x = 10 ∨ x = 11) : ∀ (k d : Nat) (st : rS) (I : Nat → Nat → Int32), Cf0x I B n ri p st (List.replicate k x ++ S) d → ¬ tpS S = nI x → 2 * (st.2.2.length + k) ≤ 2 * st.2.1 + st.1 → (x = 9 → k ≤ d) → Eg X xTc 1 210 0 [(0, .ref 290), (1, .int (nI x))] [] (sh, I, L, R) (fun r h' => r = none ∧ ∃ J : Nat → Nat → Int32, h' = (sh, J, L, R) ∧ MqT I J ri ∧ Cf0x J B n ri p (adN k x st) S (if x = 9 then d - k else d)) := by
  intro k
  induction k with
  | zero =>
    intro d st I hr ht hb hk
    obtain ⟨hm, h55x, h53x, hS, hd, hl4x⟩ := id hr
    have e : (if x = 9 then d - 0 else d) = d := by split <;> rfl
    refine e_aload rfl rfl ?_
    refine Eg.p1 rfl (by decide) (by decide) rfl (Nat.le_of_ble_eq_true rfl) (xrcv_of rfl hM.1 rfl) ((ms_top hM h55x hS hl4x).mono (by decide)) ?_
    refine e_iload rfl rfl ?_
    refine e_cne_t rfl ht ?_
    exact Eg.ret rfl (by decide) rfl ⟨rfl, I, rfl, MqT.rf, by rw [e]; exact hr⟩
  | succ k ih =>
    intro d st I hr ht hb hk
    obtain ⟨hm, h55x, h53x, hS, hd, hl4x⟩ := id hr
    have hlen : (List.replicate (k + 1) x ++ S).length = (List.replicate k x ++ S).length + 1 := by simp; omega
    have hl5x : (List.replicate k x ++ S).length + 1 ≤ 400 := by rw [← hlen]; exact hl4x
    refine e_aload rfl rfl ?_
    refine Eg.p1 rfl (by decide) (by decide) rfl (Nat.le_of_ble_eq_true rfl) (xrcv_of rfl hM.1 rfl) ((ms_top hM h55x hS hl4x).mono (by decide)) ?_
    refine e_iload rfl rfl ?_
    refine e_cne_f rfl rfl ?_
    refine e_aload rfl rfl ?_
    refine e_getIv rfl hM.1 hm.1.2.2 ?_
    refine e_ifne_f rfl rfl ?_
    refine e_aload rfl rfl ?_
    refine e_iload rfl rfl ?_
    refine e_ipush rfl ?_
    refine Eg.c3 rfl (by decide) (by decide) rfl (Nat.le_of_ble_eq_true rfl) (xrcv_of rfl hM.1 rfl) ((ms_entry hM hm (e := (x, 0)) (by omega)).mono (by decide)) (fun r1x h1x hq => ?_)
    obtain ⟨rfl, K, rfl, c1x, k1x⟩ := hq
    have e55x : K 290 55 = nI ((List.replicate k x ++ S).length + 1) := (k1x 290 55 (by omega) (by omega)).trans (by rw [h55x, hlen])
    have e53x : K 290 53 = nI d := (k1x 290 53 (by omega) (by omega)).trans h53x
    refine e_aload rfl rfl ?_
    refine e_dupr rfl ?_
    refine e_getIv rfl hM.1 e55x ?_
    refine e_ipush rfl ?_
    refine e_isub rfl ?_
    rw [show (nI ((List.replicate k x ++ S).length + 1)) - 1 = nI (List.replicate k x ++ S).length from (show nI ((List.replicate k x ++ S).length + 1) - nI 1 = _ from nI_sub (by omega))]
    refine e_putIJ rfl hM.1 (fun J21x g21x f21x => ?_)
    refine e_aload rfl rfl ?_
    refine e_dupr rfl ?_
    refine e_getIv rfl hM.1 ((f21x 290 53 (by omega)).trans e53x) ?_
    refine e_iload rfl rfl ?_
    refine e_ipush rfl ?_
    refine e_cne_b rfl (fun b39x => ?_) (fun b39x => ?_)
    · refine e_ipush rfl ?_
      refine e_isub rfl ?_
      rw [show (nI d) - 0 = nI d from (show nI d - nI 0 = _ from nI_sub (Nat.zero_le _))]
      refine e_putIJ rfl hM.1 (fun J22x g22x f22x => ?_)
      refine e_goto rfl ?_
      refine Eg.pk [0, 1] [0, 1] rfl (by decide) ?_
      have fr : ∀ i k, (i ≠ 290 ∨ (k ≠ 55 ∧ k ≠ 53)) → J22x i k = K i k := fun i k a => (f22x i k (by omega)).trans (f21x i k (by omega))
      have x9x : ¬ x = 9 := fun e => b39x (by rw [e]; rfl)
      have cf : Cf0x J22x B n ri p (adE x st) (List.replicate k x ++ S) d := ⟨c1x.fr (fun i k q => fr i k (by omega)), (f22x 290 55 (by omega)).trans g21x, g22x, hS.2.fr _ (fun k _ => (fr 344 k (by omega)).trans (k1x 344 k (by omega) (by omega))), by omega, by omega⟩
      refine (ih d (adE x st) J22x cf ht (bdA (by omega)) (fun e => by exact absurd e x9x)).imp ?_
      rintro r h' ⟨rfl, T, rfl, t1x, t2x⟩
      have ed : (if x = 9 then d - k else d) = (if x = 9 then d - (k + 1) else d) := by rw [if_neg x9x, if_neg x9x]
      exact ⟨rfl, T, rfl, ((MqT.of k1x).tr (fun i k a b c => fr i k (by omega))).tr t1x, by rw [← ed]; exact t2x⟩
    · refine e_ipush rfl ?_
      refine e_goto rfl ?_
      refine e_isub rfl ?_
      rw [show (nI d) - 1 = nI (d - 1) from (show nI d - nI 1 = _ from nI_sub (by have := hk ((nI_eq (b := 9) (by omega) (by decide)).mp b39x); omega))]
      refine e_putIJ rfl hM.1 (fun J23x g23x f23x => ?_)
      refine e_goto rfl ?_
      refine Eg.pk [0, 1] [0, 1] rfl (by decide) ?_
      have fr : ∀ i k, (i ≠ 290 ∨ (k ≠ 55 ∧ k ≠ 53)) → J23x i k = K i k := fun i k a => (f23x i k (by omega)).trans (f21x i k (by omega))
      have x9x : x = 9 := (nI_eq (b := 9) (by omega) (by decide)).mp b39x
      have hkd := hk x9x
      have cf : Cf0x J23x B n ri p (adE x st) (List.replicate k x ++ S) (d - 1) := ⟨c1x.fr (fun i k q => fr i k (by omega)), (f23x 290 55 (by omega)).trans g21x, g23x, hS.2.fr _ (fun k _ => (fr 344 k (by omega)).trans (k1x 344 k (by omega) (by omega))), by omega, by omega⟩
      refine (ih (d - 1) (adE x st) J23x cf ht (bdA (by omega)) (fun e => by have := hk e; omega)).imp ?_
      rintro r h' ⟨rfl, T, rfl, t1x, t2x⟩
      have ed : (if x = 9 then (d - 1) - k else (d - 1)) = (if x = 9 then d - (k + 1) else d) := by rw [if_pos x9x, if_pos x9x]; omega
      exact ⟨rfl, T, rfl, ((MqT.of k1x).tr (fun i k a b c => fr i k (by omega))).tr t1x, by rw [← ed]; exact t2x⟩
end MU5x
