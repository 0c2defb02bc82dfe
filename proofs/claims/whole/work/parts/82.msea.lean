/-! A SEA read, the other side: its clauses -/
section MS1x
variable {X : xX} {h : xH} {sh : List (Nat × Nat)} {I : Nat → Nat → Int32} {L : Nat → Nat → Int64} {R : Nat → Nat → Option Nat} {B : Nat → Nat} {n : Nat} {u : Nat → Nat → Int32} {s : Nat}
/-- the other side's new arrays -/
def nV (I : Nat → Nat → Int32) (u : Nat → Nat → Int32) : Prop := (∀ f k, 1 ≤ f → f ≤ 13 → I (321 + f) k = u f k) ∧ (∀ k, I 335 k = u 15 k) ∧ ∀ k, I 336 k = u 16 k
theorem nV.fr {J : Nat → Nat → Int32} (h : nV I u) (e : ∀ i k, 322 ≤ i → i ≤ 336 → J i k = I i k) : nV J u :=
  ⟨fun f k h1x h2x => (e _ _ (by omega) (by omega)).trans (h.1 f k h1x h2x), fun k => (e _ _ (by omega) (by omega)).trans (h.2.1 k), fun k => (e _ _ (by omega) (by omega)).trans (h.2.2 k)⟩
theorem nV.up {J : Nat → Nat → Int32} {c f i : Nat} {x : Int32} (h : nV I u) (hf : (1 ≤ f ∧ f ≤ 13 ∧ c = 321 + f) ∨ (f = 15 ∧ c = 335) ∨ (f = 16 ∧ c = 336)) (gg : J c i = x) (ff : ∀ p t, p ≠ c ∨ t ≠ i → J p t = I p t) : nV J (xu u f i x) := by
  refine ⟨fun a k h1x h2x => ?_, fun k => ?_, fun k => ?_⟩
  · by_cases e : a = f ∧ k = i
    · obtain ⟨rfl, rfl⟩ := e
      rw [xu_at, show 321 + a = c by omega]; exact gg
    · rw [xu_o (by omega), ff _ _ (by omega)]; exact h.1 a k h1x h2x
  · by_cases e : 15 = f ∧ k = i
    · obtain ⟨rfl, rfl⟩ := e
      rw [xu_at, show 335 = c by omega]; exact gg
    · rw [xu_o (by omega), ff _ _ (by omega)]; exact h.2.1 k
  · by_cases e : 16 = f ∧ k = i
    · obtain ⟨rfl, rfl⟩ := e
      rw [xu_at, show 336 = c by omega]; exact gg
    · rw [xu_o (by omega), ff _ _ (by omega)]; exact h.2.2 k
def NF (I J : Nat → Nat → Int32) : Prop := ∀ i k, (i ≠ 290 ∨ (k ≠ 48 ∧ k ≠ 49 ∧ k ≠ 57)) → (i < 322 ∨ 336 < i) → J i k = I i k
theorem NF.rf : NF I I := fun _ _ _ _ => rfl
theorem NF.tr {J K : Nat → Nat → Int32} (h : NF I J) (g : NF J K) : NF I K := fun i k q1x q2x => (g i k q1x q2x).trans (h i k q1x q2x)
theorem NF.of {J : Nat → Nat → Int32} (h : MF I J) : NF I J := fun i k q _ => h i k (by omega)
theorem Mr.nf {J : Nat → Nat → Int32} {p : Nat} {f : Int32} (h : Mr I B n p f) (e : ∀ i k, i < 322 ∨ 336 < i → J i k = I i k) : Mr J B n p f := h.any (fun k _ => e 290 k (by omega)) (fun k => e 337 k (by omega))
/-- a number, where it is known where it should stand -/
theorem ms_amt (hM : MW sh R) {p P : Nat} {f : Int32} (hr : Mr I B n p f) (hpn : p ≤ n) (hP : f = 0 → skp B n p = P) {a b : Nat} (hab : a ≤ b) (hb : b ≤ 99999) {F : Int32} {Q : Nat} (eF : kF B n P f a b = F) (eQ : kP B n P f a b = Q) : Ec X 4 213 [.ref 290, .int (nI a), .int (nI b)] (sh, I, L, R) (fun r h' => ∃ (x : Int32) (q : Nat) (J : Nat → Nat → Int32), r = some (.int x) ∧ h' = (sh, J, L, R) ∧ Mr J B n q F ∧ MF I J ∧ q ≤ n ∧ (F = 0 → x = nI (tn B n P) ∧ skp B n q = Q)) := by
  have hn := hr.1.1
  have hs := (skp_le (B := B) (n := n) (p := p)).2 hpn
  refine (ms_amount hM hr hpn (lo := nI a) (hi := nI b) (nI_pos (by omega)) (fun q => absurd ((nI_lti (a := 99999) (by decide) (by omega)).mp q) (by omega))).imp ?_
  rintro r h' ⟨x, q, J, rfl, rfl, a1x, a2x, a3x, a4x⟩
  by_cases hf : f = 0
  · have e := hP hf
    rw [e] at a1x a4x
    have eF' : tkF B n P f (nI a) (nI b) = F := eF
    rw [eF'] at a1x a4x
    refine ⟨x, q, J, rfl, rfl, a1x, a2x, a3x, fun h0x => ?_⟩
    obtain ⟨b1x, b2x, b3x, b4x⟩ := a4x h0x
    have t := tk_get (B := B) (n := n) (q := P) (f := f) (a := a) (b := b) (by omega) hn hab (by omega) (eF.trans h0x)
    exact ⟨b1x.trans t.1, b2x.trans eQ⟩
  · rw [tkF_n hf] at a1x a4x
    rw [kF_n hf] at eF
    rw [eF] at a1x
    exact ⟨x, q, J, rfl, rfl, a1x, a2x, a3x, fun h0x => absurd (eF.trans h0x) hf⟩
theorem ms_cellRead (hM : MW sh R) {p P : Nat} {f : Int32} (hr : Mr I B n p f) (hpn : p ≤ n) (hP : f = 0 → skp B n p = P) {c : Nat} (h0x : I 322 0 = nI c) (hc1x : 1 ≤ c) (hc : c ≤ 12) {F : Int32} {Q : Nat} (eF : kF B n P f 0 (c - 1) = F) (eQ : kP B n P f 0 (c - 1) = Q) : Ec X 5 216 [.ref 290] (sh, I, L, R) (fun r h' => ∃ (x : Int32) (q : Nat) (J : Nat → Nat → Int32), r = some (.int x) ∧ h' = (sh, J, L, R) ∧ Mr J B n q F ∧ MF I J ∧ q ≤ n ∧ (F = 0 → x = nI (tn B n P) ∧ skp B n q = Q)) := by
  refine Ec.of (Nat.le_of_ble_eq_true rfl) ?_
  refine e_aload rfl rfl ?_
  refine e_ipush rfl ?_
  refine e_aload rfl rfl ?_
  refine e_getR rfl hM.1 (show R 290 32 = some 322 from (hM.2 31 _ rfl).2) ?_
  refine e_ipush rfl ?_
  refine e_ialv (t := 0) (n := 7) rfl (show sh[322]? = some (20, 7) from (hM.2 31 _ rfl).1) rfl (by decide) (by decide) h0x ?_
  refine e_ipush rfl ?_
  refine e_isub rfl ?_
  rw [show (nI c) - 1 = nI (c - 1) from nI_sub (b := 1) hc1x]
  refine Eg.c3 rfl (by decide) (by decide) rfl (Nat.le_of_ble_eq_true rfl) (xrcv_of rfl hM.1 rfl) ((ms_amt hM hr hpn hP (a := 0) (b := c - 1) (by omega) (by omega) eF eQ).mono (by decide)) (fun r1x h1x hq => ?_)
  obtain ⟨x, q, J, rfl, rfl, a1x, a2x, a3x, a4x⟩ := hq
  exact Eg.ret rfl (by decide) rfl ⟨x, q, J, rfl, rfl, a1x, a2x, a3x, a4x⟩
theorem ms_seaPart (hM : MW sh R) {p q : Nat} (hr : Mr I B n p 0) (hpn : p ≤ n) (hq : skp B n p = q) (v0x : nV I u) (hw : WfU u) {w : Nat} (hw7x : w < 7) {st : Bool} (hfl : ¬ sFull u st w = true) (h2x : w ≠ 0 → 2 ≤ cn u 0) (htr : w = 1 → Ec X 5 215 [.ref 290] (sh, I, L, R) (fun r h' => r = none ∧ ∃ (J : Nat → Nat → Int32) (p' : Nat), h' = (sh, J, L, R) ∧ Mr J B n p' (sPF B n u 1 q) ∧ p' ≤ n ∧ ((sPF B n u 1 q) = 0 → skp B n p' = sPP B n u 1 q ∧ nV J (sPU B n u 1 q)) ∧ NF I J ∧ J 290 57 = I 290 57)) : Ec X 6 217 [.ref 290, .int (nI w)] (sh, I, L, R) (fun r h' => r = none ∧ ∃ (J : Nat → Nat → Int32) (p' : Nat), h' = (sh, J, L, R) ∧ Mr J B n p' (sPF B n u w q) ∧ p' ≤ n ∧ ((sPF B n u w q) = 0 → skp B n p' = sPP B n u w q ∧ nV J (sPU B n u w q)) ∧ NF I J ∧ J 290 57 = if w = 6 then 1 else I 290 57) := by
  have hn := hr.1.1
  have hb := hw.1.2
  have hqn : q ≤ n := by rw [← hq]; exact (skp_le (B := B) (n := n) (p := p)).2 hpn
  have nf := sFull_n hfl
  have n0x : NF I I := NF.rf
  refine Ec.of (Nat.le_of_ble_eq_true rfl) ?_
  refine e_iload rfl rfl ?_
  have cases7 : w = 0 ∨ w = 1 ∨ w = 2 ∨ w = 3 ∨ w = 4 ∨ w = 5 ∨ w = 6 := by omega
  rcases cases7 with rfl | rfl | rfl | rfl | rfl | rfl | rfl
  · refine e_tsw rfl (by decide) rfl ?_
    have h57x : I 290 57 = I 290 57 := rfl
    obtain ⟨F1x, eF1x⟩ : ∃ x, kF B n q 0 2 12 = x := ⟨_, rfl⟩
    obtain ⟨P1x, eP1x⟩ : ∃ x, kP B n q 0 2 12 = x := ⟨_, rfl⟩
    refine e_aload rfl rfl ?_
    refine e_getR rfl hM.1 (show R 290 32 = some 322 from (hM.2 31 _ rfl).2) ?_
    refine e_ipush rfl ?_
    refine e_aload rfl rfl ?_
    refine e_ipush rfl ?_
    refine e_ipush rfl ?_
    refine Eg.c3 rfl (by decide) (by decide) rfl (Nat.le_of_ble_eq_true rfl) (xrcv_of rfl hM.1 rfl) ((ms_amt hM hr hpn (fun _ => hq) (a := 2) (b := 12) (by omega) (by omega) eF1x eP1x).mono (by decide)) (fun r1x h1x hq => ?_)
    obtain ⟨y1x, p1x, J1x, rfl, rfl, r1x, m1x, l1x, c1x⟩ := hq
    have v1x : nV J1x u := v0x.fr (fun i k q1x q2x => m1x i k (by omega))
    have n1x := n0x.tr (NF.of m1x)
    have r1x_ := r1x
    have h57x := (m1x 290 57 (by decide)).trans h57x
    refine e_iasJ (t := 0) (n := 7) rfl (show sh[322]? = some (20, 7) from (hM.2 31 _ rfl).1) rfl (by decide) (by decide) (fun J11x g11x f11x => ?_)
    have va11x : nV J11x (xu u 1 0 y1x) := v1x.up (c := 322) (by decide) g11x f11x
    have r1x_ : Mr J11x B n p1x F1x := Mr.nf r1x_ (fun i t hi => f11x i t (by omega))
    have nb11x : NF I J11x := n1x.tr (fun i t _ hi => f11x i t (by omega))
    have h57x := (f11x 290 57 (Or.inl (by decide))).trans h57x
    refine e_goto rfl ?_
    have eSF : sPF B n u 0 q = F1x := by rw [sPF_0]; simp only [eF1x, eP1x]
    have eSP : sPP B n u 0 q = P1x := by rw [sPP_0]; simp only [eF1x, eP1x]
    refine Eg.ret rfl (by decide) rfl ⟨rfl, J11x, p1x, rfl, by rw [eSF]; exact r1x_, l1x, fun e => ?_, nb11x, h57x⟩
    rw [eSF] at e
    have z1x := c1x e
    refine ⟨by rw [eSP]; exact z1x.2, ?_⟩
    have eSU : sPU B n u 0 q = xu u 1 0 (nI (tn B n q)) := by rw [sPU_0] <;> simp only [eF1x, eP1x]
    rw [eSU]; rw [z1x.1] at va11x; exact va11x
  · refine e_tsw rfl (by decide) rfl ?_
    refine e_aload rfl rfl ?_
    refine Eg.c1 rfl (by decide) (by decide) rfl (Nat.le_of_ble_eq_true rfl) (xrcv_of rfl hM.1 rfl) ((htr rfl).mono (by decide)) (fun r1x h1x hq => ?_)
    obtain ⟨rfl, J, p', rfl, a1x, a2x, a3x, a4x, a5x⟩ := hq
    refine e_goto rfl ?_
    exact Eg.ret rfl (by decide) rfl ⟨rfl, J, p', rfl, a1x, a2x, a3x, a4x, a5x⟩
  · refine e_tsw rfl (by decide) rfl ?_
    have h20x := h2x (by decide)
    have h57x : I 290 57 = I 290 57 := rfl
    obtain ⟨F1x, eF1x⟩ : ∃ x, kF B n q 0 0 (cn u 0 - 1) = x := ⟨_, rfl⟩
    obtain ⟨P1x, eP1x⟩ : ∃ x, kP B n q 0 0 (cn u 0 - 1) = x := ⟨_, rfl⟩
    obtain ⟨F2x, eF2x⟩ : ∃ x, kF B n P1x F1x 0 20 = x := ⟨_, rfl⟩
    obtain ⟨P2x, eP2x⟩ : ∃ x, kP B n P1x F1x 0 20 = x := ⟨_, rfl⟩
    refine e_aload rfl rfl ?_
    refine Eg.c1 rfl (by decide) (by decide) rfl (Nat.le_of_ble_eq_true rfl) (xrcv_of rfl hM.1 rfl) ((ms_cellRead hM hr hpn (fun _ => hq) (c := cn u 0) ((v0x.1 1 0 (by decide) (by decide)).trans (hw.1.1 0 (by decide))) (by omega) (by omega) eF1x eP1x).mono (by decide)) (fun r1x h1x hq => ?_)
    obtain ⟨y1x, p1x, J1x, rfl, rfl, r1x, m1x, l1x, c1x⟩ := hq
    have v1x : nV J1x u := v0x.fr (fun i k q1x q2x => m1x i k (by omega))
    have n1x := n0x.tr (NF.of m1x)
    have r1x_ := r1x
    have h57x := (m1x 290 57 (by decide)).trans h57x
    refine e_istore rfl ?_
    refine e_aload rfl rfl ?_
    refine e_ipush rfl ?_
    refine e_ipush rfl ?_
    refine Eg.c3 rfl (by decide) (by decide) rfl (Nat.le_of_ble_eq_true rfl) (xrcv_of rfl hM.1 rfl) ((ms_amt hM r1x_ l1x (fun e => (c1x e).2) (a := 0) (b := 20) (by omega) (by omega) eF2x eP2x).mono (by decide)) (fun r1x h1x hq => ?_)
    obtain ⟨y2x, p2x, J2x, rfl, rfl, r2x, m2x, l2x, c2x⟩ := hq
    have v2x : nV J2x u := v1x.fr (fun i k q1x q2x => m2x i k (by omega))
    have n2x := n1x.tr (NF.of m2x)
    have r2x_ := r2x
    have h57x := (m2x 290 57 (by decide)).trans h57x
    refine e_istore rfl ?_
    refine e_aload rfl rfl ?_
    refine e_getIv rfl hM.1 r2x_.2.2 ?_
    refine e_ifne_b rfl (fun b80x => ?_) (fun b80x => ?_)
    · have eSF : sPF B n u 2 q = F2x := by rw [sPF_2]; simp only [eF1x, eP1x, eF2x, eP2x]
      exact Eg.ret rfl (by decide) rfl ⟨rfl, J2x, p2x, rfl, by rw [eSF]; exact r2x_, l2x, fun e => absurd (eSF.symm.trans e) b80x, n2x, h57x⟩
    · have z2x := c2x b80x
      have g10x : F1x = 0 := kF_0 (eF2x.trans b80x)
      have z1x := c1x g10x
      have t1x := tk_get (B := B) hqn hn (by omega) (by omega) (eF1x.trans g10x)
      rw [z1x.1, z2x.1]
      refine e_aload rfl rfl ?_
      refine e_getR rfl hM.1 (show R 290 33 = some 323 from (hM.2 32 _ rfl).2) ?_
      refine e_iload rfl rfl ?_
      refine e_iload rfl rfl ?_
      refine e_iasJ (t := tn B n q) (n := 12) rfl (show sh[323]? = some (20, 12) from (hM.2 32 _ rfl).1) rfl (by omega) (by decide) (fun J11x g11x f11x => ?_)
      refine e_goto rfl ?_
      have eSF : sPF B n u 2 q = F2x := by rw [sPF_2]; simp only [eF1x, eP1x, eF2x, eP2x]
      have eSP : sPP B n u 2 q = P2x := by rw [sPP_2]; simp only [eF1x, eP1x, eF2x, eP2x]
      have eSU : sPU B n u 2 q = xu u 2 (tn B n q) (nI (tn B n P1x)) := by rw [sPU_2]; simp only [eP1x]
      exact Eg.ret rfl (by decide) rfl ⟨rfl, J11x, p2x, rfl, by rw [eSF]; exact Mr.nf r2x_ (fun i t hi => f11x i t (by omega)), l2x, fun e => ⟨by rw [eSP]; exact z2x.2, by rw [eSU]; exact v2x.up (c := 323) (by decide) g11x f11x⟩, n2x.tr (fun i t _ hi => f11x i t (by omega)), (f11x 290 57 (Or.inl (by decide))).trans h57x⟩
  · refine e_tsw rfl (by decide) rfl ?_
    have h20x := h2x (by decide)
    have hlt : cn u 2 < 4 := nf.2.1 rfl
    have h57x : I 290 57 = I 290 57 := rfl
    obtain ⟨F1x, eF1x⟩ : ∃ x, kF B n q 0 0 (cn u 0 - 1) = x := ⟨_, rfl⟩
    obtain ⟨P1x, eP1x⟩ : ∃ x, kP B n q 0 0 (cn u 0 - 1) = x := ⟨_, rfl⟩
    obtain ⟨F2x, eF2x⟩ : ∃ x, kF B n P1x F1x 0 60 = x := ⟨_, rfl⟩
    obtain ⟨P2x, eP2x⟩ : ∃ x, kP B n P1x F1x 0 60 = x := ⟨_, rfl⟩
    obtain ⟨F3x, eF3x⟩ : ∃ x, kF B n P2x F2x 1 99 = x := ⟨_, rfl⟩
    obtain ⟨P3x, eP3x⟩ : ∃ x, kP B n P2x F2x 1 99 = x := ⟨_, rfl⟩
    refine e_aload rfl rfl ?_
    refine e_getR rfl hM.1 (show R 290 32 = some 322 from (hM.2 31 _ rfl).2) ?_
    refine e_ipush rfl ?_
    refine e_ialv (t := 2) (n := 7) rfl (show sh[322]? = some (20, 7) from (hM.2 31 _ rfl).1) rfl (by decide) (by decide) ((v0x.1 1 2 (by decide) (by decide)).trans (hw.1.1 2 (by decide))) ?_
    refine e_istore rfl ?_
    refine e_aload rfl rfl ?_
    refine e_getR rfl hM.1 (show R 290 38 = some 328 from (hM.2 37 _ rfl).2) ?_
    refine e_iload rfl rfl ?_
    refine e_aload rfl rfl ?_
    refine Eg.c1 rfl (by decide) (by decide) rfl (Nat.le_of_ble_eq_true rfl) (xrcv_of rfl hM.1 rfl) ((ms_cellRead hM hr hpn (fun _ => hq) (c := cn u 0) ((v0x.1 1 0 (by decide) (by decide)).trans (hw.1.1 0 (by decide))) (by omega) (by omega) eF1x eP1x).mono (by decide)) (fun r1x h1x hq => ?_)
    obtain ⟨y1x, p1x, J1x, rfl, rfl, r1x, m1x, l1x, c1x⟩ := hq
    have v1x : nV J1x u := v0x.fr (fun i k q1x q2x => m1x i k (by omega))
    have n1x := n0x.tr (NF.of m1x)
    have r1x_ := r1x
    have h57x := (m1x 290 57 (by decide)).trans h57x
    refine e_iasJ (t := cn u 2) (n := 4) rfl (show sh[328]? = some (20, 4) from (hM.2 37 _ rfl).1) rfl (by omega) (by decide) (fun J11x g11x f11x => ?_)
    have va11x : nV J11x (xu u 7 (cn u 2) y1x) := v1x.up (c := 328) (by decide) g11x f11x
    have r1x_ : Mr J11x B n p1x F1x := Mr.nf r1x_ (fun i t hi => f11x i t (by omega))
    have nb11x : NF I J11x := n1x.tr (fun i t _ hi => f11x i t (by omega))
    have h57x := (f11x 290 57 (Or.inl (by decide))).trans h57x
    refine e_aload rfl rfl ?_
    refine e_getR rfl hM.1 (show R 290 39 = some 329 from (hM.2 38 _ rfl).2) ?_
    refine e_iload rfl rfl ?_
    refine e_aload rfl rfl ?_
    refine e_ipush rfl ?_
    refine e_ipush rfl ?_
    refine Eg.c3 rfl (by decide) (by decide) rfl (Nat.le_of_ble_eq_true rfl) (xrcv_of rfl hM.1 rfl) ((ms_amt hM r1x_ l1x (fun e => (c1x e).2) (a := 0) (b := 60) (by omega) (by omega) eF2x eP2x).mono (by decide)) (fun r1x h1x hq => ?_)
    obtain ⟨y2x, p2x, J2x, rfl, rfl, r2x, m2x, l2x, c2x⟩ := hq
    have v2x : nV J2x (xu u 7 (cn u 2) y1x) := va11x.fr (fun i k q1x q2x => m2x i k (by omega))
    have n2x := nb11x.tr (NF.of m2x)
    have r2x_ := r2x
    have h57x := (m2x 290 57 (by decide)).trans h57x
    refine e_iasJ (t := cn u 2) (n := 4) rfl (show sh[329]? = some (20, 4) from (hM.2 38 _ rfl).1) rfl (by omega) (by decide) (fun J12x g12x f12x => ?_)
    have va12x : nV J12x (xu (xu u 7 (cn u 2) y1x) 8 (cn u 2) y2x) := v2x.up (c := 329) (by decide) g12x f12x
    have r2x_ : Mr J12x B n p2x F2x := Mr.nf r2x_ (fun i t hi => f12x i t (by omega))
    have nb12x : NF I J12x := n2x.tr (fun i t _ hi => f12x i t (by omega))
    have h57x := (f12x 290 57 (Or.inl (by decide))).trans h57x
    refine e_aload rfl rfl ?_
    refine e_getR rfl hM.1 (show R 290 40 = some 330 from (hM.2 39 _ rfl).2) ?_
    refine e_iload rfl rfl ?_
    refine e_aload rfl rfl ?_
    refine e_ipush rfl ?_
    refine e_ipush rfl ?_
    refine Eg.c3 rfl (by decide) (by decide) rfl (Nat.le_of_ble_eq_true rfl) (xrcv_of rfl hM.1 rfl) ((ms_amt hM r2x_ l2x (fun e => (c2x e).2) (a := 1) (b := 99) (by omega) (by omega) eF3x eP3x).mono (by decide)) (fun r1x h1x hq => ?_)
    obtain ⟨y3x, p3x, J3x, rfl, rfl, r3x, m3x, l3x, c3x⟩ := hq
    have v3x : nV J3x (xu (xu u 7 (cn u 2) y1x) 8 (cn u 2) y2x) := va12x.fr (fun i k q1x q2x => m3x i k (by omega))
    have n3x := nb12x.tr (NF.of m3x)
    have r3x_ := r3x
    have h57x := (m3x 290 57 (by decide)).trans h57x
    refine e_iasJ (t := cn u 2) (n := 4) rfl (show sh[330]? = some (20, 4) from (hM.2 39 _ rfl).1) rfl (by omega) (by decide) (fun J13x g13x f13x => ?_)
    have va13x : nV J13x (xu (xu (xu u 7 (cn u 2) y1x) 8 (cn u 2) y2x) 9 (cn u 2) y3x) := v3x.up (c := 330) (by decide) g13x f13x
    have r3x_ : Mr J13x B n p3x F3x := Mr.nf r3x_ (fun i t hi => f13x i t (by omega))
    have nb13x : NF I J13x := n3x.tr (fun i t _ hi => f13x i t (by omega))
    have h57x := (f13x 290 57 (Or.inl (by decide))).trans h57x
    refine e_aload rfl rfl ?_
    refine e_getR rfl hM.1 (show R 290 32 = some 322 from (hM.2 31 _ rfl).2) ?_
    refine e_ipush rfl ?_
    refine e_dup2 rfl ?_
    refine e_ialv (t := 2) (n := 7) rfl (show sh[322]? = some (20, 7) from (hM.2 31 _ rfl).1) rfl (by decide) (by decide) ((va13x.1 1 2 (by decide) (by decide)).trans ((xu_o (Or.inl (by decide))).trans ((xu_o (Or.inl (by decide))).trans ((xu_o (Or.inl (by decide))).trans (hw.1.1 2 (by decide)))))) ?_
    refine e_ipush rfl ?_
    refine e_iadd rfl ?_
    rw [show (nI (cn u 2)) + 1 = nI (cn u 2 + 1) from nI_1 _]
    refine e_iasJ (t := 2) (n := 7) rfl (show sh[322]? = some (20, 7) from (hM.2 31 _ rfl).1) rfl (by decide) (by decide) (fun J14x g14x f14x => ?_)
    have va14x : nV J14x (xu (xu (xu (xu u 7 (cn u 2) y1x) 8 (cn u 2) y2x) 9 (cn u 2) y3x) 1 2 (nI (cn u 2 + 1))) := va13x.up (c := 322) (by decide) g14x f14x
    have r3x_ : Mr J14x B n p3x F3x := Mr.nf r3x_ (fun i t hi => f14x i t (by omega))
    have nb14x : NF I J14x := nb13x.tr (fun i t _ hi => f14x i t (by omega))
    have h57x := (f14x 290 57 (Or.inl (by decide))).trans h57x
    refine e_goto rfl ?_
    have eSF : sPF B n u 3 q = F3x := by rw [sPF_3]; simp only [eF1x, eP1x, eF2x, eP2x, eF3x, eP3x]
    have eSP : sPP B n u 3 q = P3x := by rw [sPP_3]; simp only [eF1x, eP1x, eF2x, eP2x, eF3x, eP3x]
    refine Eg.ret rfl (by decide) rfl ⟨rfl, J14x, p3x, rfl, by rw [eSF]; exact r3x_, l3x, fun e => ?_, nb14x, h57x⟩
    rw [eSF] at e
    have z3x := c3x e
    have g20x : F2x = 0 := kF_0 (eF3x.trans e)
    have z2x := c2x g20x
    have g10x : F1x = 0 := kF_0 (eF2x.trans g20x)
    have z1x := c1x g10x
    refine ⟨by rw [eSP]; exact z3x.2, ?_⟩
    have eSU : sPU B n u 3 q = telF u 2 7 8 9 (nI (tn B n q)) (nI (tn B n P1x)) (nI (tn B n P2x)) := by rw [sPU_3] <;> simp only [eF1x, eP1x, eF2x, eP2x, eF3x, eP3x]
    rw [eSU]; rw [z1x.1, z2x.1, z3x.1] at va14x; exact va14x
  · refine e_tsw rfl (by decide) rfl ?_
    have h20x := h2x (by decide)
    have hlt : cn u 3 < 4 := nf.2.2.1 rfl
    have h57x : I 290 57 = I 290 57 := rfl
    obtain ⟨F1x, eF1x⟩ : ∃ x, kF B n q 0 0 (cn u 0 - 1) = x := ⟨_, rfl⟩
    obtain ⟨P1x, eP1x⟩ : ∃ x, kP B n q 0 0 (cn u 0 - 1) = x := ⟨_, rfl⟩
    obtain ⟨F2x, eF2x⟩ : ∃ x, kF B n P1x F1x 0 60 = x := ⟨_, rfl⟩
    obtain ⟨P2x, eP2x⟩ : ∃ x, kP B n P1x F1x 0 60 = x := ⟨_, rfl⟩
    obtain ⟨F3x, eF3x⟩ : ∃ x, kF B n P2x F2x 1 99 = x := ⟨_, rfl⟩
    obtain ⟨P3x, eP3x⟩ : ∃ x, kP B n P2x F2x 1 99 = x := ⟨_, rfl⟩
    refine e_aload rfl rfl ?_
    refine e_getR rfl hM.1 (show R 290 32 = some 322 from (hM.2 31 _ rfl).2) ?_
    refine e_ipush rfl ?_
    refine e_ialv (t := 3) (n := 7) rfl (show sh[322]? = some (20, 7) from (hM.2 31 _ rfl).1) rfl (by decide) (by decide) ((v0x.1 1 3 (by decide) (by decide)).trans (hw.1.1 3 (by decide))) ?_
    refine e_istore rfl ?_
    refine e_aload rfl rfl ?_
    refine e_getR rfl hM.1 (show R 290 41 = some 331 from (hM.2 40 _ rfl).2) ?_
    refine e_iload rfl rfl ?_
    refine e_aload rfl rfl ?_
    refine Eg.c1 rfl (by decide) (by decide) rfl (Nat.le_of_ble_eq_true rfl) (xrcv_of rfl hM.1 rfl) ((ms_cellRead hM hr hpn (fun _ => hq) (c := cn u 0) ((v0x.1 1 0 (by decide) (by decide)).trans (hw.1.1 0 (by decide))) (by omega) (by omega) eF1x eP1x).mono (by decide)) (fun r1x h1x hq => ?_)
    obtain ⟨y1x, p1x, J1x, rfl, rfl, r1x, m1x, l1x, c1x⟩ := hq
    have v1x : nV J1x u := v0x.fr (fun i k q1x q2x => m1x i k (by omega))
    have n1x := n0x.tr (NF.of m1x)
    have r1x_ := r1x
    have h57x := (m1x 290 57 (by decide)).trans h57x
    refine e_iasJ (t := cn u 3) (n := 4) rfl (show sh[331]? = some (20, 4) from (hM.2 40 _ rfl).1) rfl (by omega) (by decide) (fun J11x g11x f11x => ?_)
    have va11x : nV J11x (xu u 10 (cn u 3) y1x) := v1x.up (c := 331) (by decide) g11x f11x
    have r1x_ : Mr J11x B n p1x F1x := Mr.nf r1x_ (fun i t hi => f11x i t (by omega))
    have nb11x : NF I J11x := n1x.tr (fun i t _ hi => f11x i t (by omega))
    have h57x := (f11x 290 57 (Or.inl (by decide))).trans h57x
    refine e_aload rfl rfl ?_
    refine e_getR rfl hM.1 (show R 290 42 = some 332 from (hM.2 41 _ rfl).2) ?_
    refine e_iload rfl rfl ?_
    refine e_aload rfl rfl ?_
    refine e_ipush rfl ?_
    refine e_ipush rfl ?_
    refine Eg.c3 rfl (by decide) (by decide) rfl (Nat.le_of_ble_eq_true rfl) (xrcv_of rfl hM.1 rfl) ((ms_amt hM r1x_ l1x (fun e => (c1x e).2) (a := 0) (b := 60) (by omega) (by omega) eF2x eP2x).mono (by decide)) (fun r1x h1x hq => ?_)
    obtain ⟨y2x, p2x, J2x, rfl, rfl, r2x, m2x, l2x, c2x⟩ := hq
    have v2x : nV J2x (xu u 10 (cn u 3) y1x) := va11x.fr (fun i k q1x q2x => m2x i k (by omega))
    have n2x := nb11x.tr (NF.of m2x)
    have r2x_ := r2x
    have h57x := (m2x 290 57 (by decide)).trans h57x
    refine e_iasJ (t := cn u 3) (n := 4) rfl (show sh[332]? = some (20, 4) from (hM.2 41 _ rfl).1) rfl (by omega) (by decide) (fun J12x g12x f12x => ?_)
    have va12x : nV J12x (xu (xu u 10 (cn u 3) y1x) 11 (cn u 3) y2x) := v2x.up (c := 332) (by decide) g12x f12x
    have r2x_ : Mr J12x B n p2x F2x := Mr.nf r2x_ (fun i t hi => f12x i t (by omega))
    have nb12x : NF I J12x := n2x.tr (fun i t _ hi => f12x i t (by omega))
    have h57x := (f12x 290 57 (Or.inl (by decide))).trans h57x
    refine e_aload rfl rfl ?_
    refine e_getR rfl hM.1 (show R 290 43 = some 333 from (hM.2 42 _ rfl).2) ?_
    refine e_iload rfl rfl ?_
    refine e_aload rfl rfl ?_
    refine e_ipush rfl ?_
    refine e_ipush rfl ?_
    refine Eg.c3 rfl (by decide) (by decide) rfl (Nat.le_of_ble_eq_true rfl) (xrcv_of rfl hM.1 rfl) ((ms_amt hM r2x_ l2x (fun e => (c2x e).2) (a := 1) (b := 99) (by omega) (by omega) eF3x eP3x).mono (by decide)) (fun r1x h1x hq => ?_)
    obtain ⟨y3x, p3x, J3x, rfl, rfl, r3x, m3x, l3x, c3x⟩ := hq
    have v3x : nV J3x (xu (xu u 10 (cn u 3) y1x) 11 (cn u 3) y2x) := va12x.fr (fun i k q1x q2x => m3x i k (by omega))
    have n3x := nb12x.tr (NF.of m3x)
    have r3x_ := r3x
    have h57x := (m3x 290 57 (by decide)).trans h57x
    refine e_iasJ (t := cn u 3) (n := 4) rfl (show sh[333]? = some (20, 4) from (hM.2 42 _ rfl).1) rfl (by omega) (by decide) (fun J13x g13x f13x => ?_)
    have va13x : nV J13x (xu (xu (xu u 10 (cn u 3) y1x) 11 (cn u 3) y2x) 12 (cn u 3) y3x) := v3x.up (c := 333) (by decide) g13x f13x
    have r3x_ : Mr J13x B n p3x F3x := Mr.nf r3x_ (fun i t hi => f13x i t (by omega))
    have nb13x : NF I J13x := n3x.tr (fun i t _ hi => f13x i t (by omega))
    have h57x := (f13x 290 57 (Or.inl (by decide))).trans h57x
    refine e_aload rfl rfl ?_
    refine e_getR rfl hM.1 (show R 290 32 = some 322 from (hM.2 31 _ rfl).2) ?_
    refine e_ipush rfl ?_
    refine e_dup2 rfl ?_
    refine e_ialv (t := 3) (n := 7) rfl (show sh[322]? = some (20, 7) from (hM.2 31 _ rfl).1) rfl (by decide) (by decide) ((va13x.1 1 3 (by decide) (by decide)).trans ((xu_o (Or.inl (by decide))).trans ((xu_o (Or.inl (by decide))).trans ((xu_o (Or.inl (by decide))).trans (hw.1.1 3 (by decide)))))) ?_
    refine e_ipush rfl ?_
    refine e_iadd rfl ?_
    rw [show (nI (cn u 3)) + 1 = nI (cn u 3 + 1) from nI_1 _]
    refine e_iasJ (t := 3) (n := 7) rfl (show sh[322]? = some (20, 7) from (hM.2 31 _ rfl).1) rfl (by decide) (by decide) (fun J14x g14x f14x => ?_)
    have va14x : nV J14x (xu (xu (xu (xu u 10 (cn u 3) y1x) 11 (cn u 3) y2x) 12 (cn u 3) y3x) 1 3 (nI (cn u 3 + 1))) := va13x.up (c := 322) (by decide) g14x f14x
    have r3x_ : Mr J14x B n p3x F3x := Mr.nf r3x_ (fun i t hi => f14x i t (by omega))
    have nb14x : NF I J14x := nb13x.tr (fun i t _ hi => f14x i t (by omega))
    have h57x := (f14x 290 57 (Or.inl (by decide))).trans h57x
    refine e_goto rfl ?_
    have eSF : sPF B n u 4 q = F3x := by rw [sPF_4]; simp only [eF1x, eP1x, eF2x, eP2x, eF3x, eP3x]
    have eSP : sPP B n u 4 q = P3x := by rw [sPP_4]; simp only [eF1x, eP1x, eF2x, eP2x, eF3x, eP3x]
    refine Eg.ret rfl (by decide) rfl ⟨rfl, J14x, p3x, rfl, by rw [eSF]; exact r3x_, l3x, fun e => ?_, nb14x, h57x⟩
    rw [eSF] at e
    have z3x := c3x e
    have g20x : F2x = 0 := kF_0 (eF3x.trans e)
    have z2x := c2x g20x
    have g10x : F1x = 0 := kF_0 (eF2x.trans g20x)
    have z1x := c1x g10x
    refine ⟨by rw [eSP]; exact z3x.2, ?_⟩
    have eSU : sPU B n u 4 q = telF u 3 10 11 12 (nI (tn B n q)) (nI (tn B n P1x)) (nI (tn B n P2x)) := by rw [sPU_4] <;> simp only [eF1x, eP1x, eF2x, eP2x, eF3x, eP3x]
    rw [eSU]; rw [z1x.1, z2x.1, z3x.1] at va14x; exact va14x
  · refine e_tsw rfl (by decide) rfl ?_
    have h20x := h2x (by decide)
    have hlt : cn u 4 < 4 := nf.2.2.2 rfl
    have h57x : I 290 57 = I 290 57 := rfl
    obtain ⟨F1x, eF1x⟩ : ∃ x, kF B n q 0 0 (cn u 0 - 1) = x := ⟨_, rfl⟩
    obtain ⟨P1x, eP1x⟩ : ∃ x, kP B n q 0 0 (cn u 0 - 1) = x := ⟨_, rfl⟩
    obtain ⟨F2x, eF2x⟩ : ∃ x, kF B n P1x F1x 1 30 = x := ⟨_, rfl⟩
    obtain ⟨P2x, eP2x⟩ : ∃ x, kP B n P1x F1x 1 30 = x := ⟨_, rfl⟩
    obtain ⟨F3x, eF3x⟩ : ∃ x, kF B n P2x F2x 0 20 = x := ⟨_, rfl⟩
    obtain ⟨P3x, eP3x⟩ : ∃ x, kP B n P2x F2x 0 20 = x := ⟨_, rfl⟩
    refine e_aload rfl rfl ?_
    refine e_getR rfl hM.1 (show R 290 32 = some 322 from (hM.2 31 _ rfl).2) ?_
    refine e_ipush rfl ?_
    refine e_ialv (t := 4) (n := 7) rfl (show sh[322]? = some (20, 7) from (hM.2 31 _ rfl).1) rfl (by decide) (by decide) ((v0x.1 1 4 (by decide) (by decide)).trans (hw.1.1 4 (by decide))) ?_
    refine e_istore rfl ?_
    refine e_aload rfl rfl ?_
    refine e_getR rfl hM.1 (show R 290 44 = some 334 from (hM.2 43 _ rfl).2) ?_
    refine e_iload rfl rfl ?_
    refine e_aload rfl rfl ?_
    refine Eg.c1 rfl (by decide) (by decide) rfl (Nat.le_of_ble_eq_true rfl) (xrcv_of rfl hM.1 rfl) ((ms_cellRead hM hr hpn (fun _ => hq) (c := cn u 0) ((v0x.1 1 0 (by decide) (by decide)).trans (hw.1.1 0 (by decide))) (by omega) (by omega) eF1x eP1x).mono (by decide)) (fun r1x h1x hq => ?_)
    obtain ⟨y1x, p1x, J1x, rfl, rfl, r1x, m1x, l1x, c1x⟩ := hq
    have v1x : nV J1x u := v0x.fr (fun i k q1x q2x => m1x i k (by omega))
    have n1x := n0x.tr (NF.of m1x)
    have r1x_ := r1x
    have h57x := (m1x 290 57 (by decide)).trans h57x
    refine e_iasJ (t := cn u 4) (n := 4) rfl (show sh[334]? = some (20, 4) from (hM.2 43 _ rfl).1) rfl (by omega) (by decide) (fun J11x g11x f11x => ?_)
    have va11x : nV J11x (xu u 13 (cn u 4) y1x) := v1x.up (c := 334) (by decide) g11x f11x
    have r1x_ : Mr J11x B n p1x F1x := Mr.nf r1x_ (fun i t hi => f11x i t (by omega))
    have nb11x : NF I J11x := n1x.tr (fun i t _ hi => f11x i t (by omega))
    have h57x := (f11x 290 57 (Or.inl (by decide))).trans h57x
    refine e_aload rfl rfl ?_
    refine e_getR rfl hM.1 (show R 290 45 = some 335 from (hM.2 44 _ rfl).2) ?_
    refine e_iload rfl rfl ?_
    refine e_aload rfl rfl ?_
    refine e_ipush rfl ?_
    refine e_ipush rfl ?_
    refine Eg.c3 rfl (by decide) (by decide) rfl (Nat.le_of_ble_eq_true rfl) (xrcv_of rfl hM.1 rfl) ((ms_amt hM r1x_ l1x (fun e => (c1x e).2) (a := 1) (b := 30) (by omega) (by omega) eF2x eP2x).mono (by decide)) (fun r1x h1x hq => ?_)
    obtain ⟨y2x, p2x, J2x, rfl, rfl, r2x, m2x, l2x, c2x⟩ := hq
    have v2x : nV J2x (xu u 13 (cn u 4) y1x) := va11x.fr (fun i k q1x q2x => m2x i k (by omega))
    have n2x := nb11x.tr (NF.of m2x)
    have r2x_ := r2x
    have h57x := (m2x 290 57 (by decide)).trans h57x
    refine e_iasJ (t := cn u 4) (n := 4) rfl (show sh[335]? = some (20, 4) from (hM.2 44 _ rfl).1) rfl (by omega) (by decide) (fun J12x g12x f12x => ?_)
    have va12x : nV J12x (xu (xu u 13 (cn u 4) y1x) 15 (cn u 4) y2x) := v2x.up (c := 335) (by decide) g12x f12x
    have r2x_ : Mr J12x B n p2x F2x := Mr.nf r2x_ (fun i t hi => f12x i t (by omega))
    have nb12x : NF I J12x := n2x.tr (fun i t _ hi => f12x i t (by omega))
    have h57x := (f12x 290 57 (Or.inl (by decide))).trans h57x
    refine e_aload rfl rfl ?_
    refine e_getR rfl hM.1 (show R 290 46 = some 336 from (hM.2 45 _ rfl).2) ?_
    refine e_iload rfl rfl ?_
    refine e_aload rfl rfl ?_
    refine e_ipush rfl ?_
    refine e_ipush rfl ?_
    refine Eg.c3 rfl (by decide) (by decide) rfl (Nat.le_of_ble_eq_true rfl) (xrcv_of rfl hM.1 rfl) ((ms_amt hM r2x_ l2x (fun e => (c2x e).2) (a := 0) (b := 20) (by omega) (by omega) eF3x eP3x).mono (by decide)) (fun r1x h1x hq => ?_)
    obtain ⟨y3x, p3x, J3x, rfl, rfl, r3x, m3x, l3x, c3x⟩ := hq
    have v3x : nV J3x (xu (xu u 13 (cn u 4) y1x) 15 (cn u 4) y2x) := va12x.fr (fun i k q1x q2x => m3x i k (by omega))
    have n3x := nb12x.tr (NF.of m3x)
    have r3x_ := r3x
    have h57x := (m3x 290 57 (by decide)).trans h57x
    refine e_iasJ (t := cn u 4) (n := 4) rfl (show sh[336]? = some (20, 4) from (hM.2 45 _ rfl).1) rfl (by omega) (by decide) (fun J13x g13x f13x => ?_)
    have va13x : nV J13x (xu (xu (xu u 13 (cn u 4) y1x) 15 (cn u 4) y2x) 16 (cn u 4) y3x) := v3x.up (c := 336) (by decide) g13x f13x
    have r3x_ : Mr J13x B n p3x F3x := Mr.nf r3x_ (fun i t hi => f13x i t (by omega))
    have nb13x : NF I J13x := n3x.tr (fun i t _ hi => f13x i t (by omega))
    have h57x := (f13x 290 57 (Or.inl (by decide))).trans h57x
    refine e_aload rfl rfl ?_
    refine e_getR rfl hM.1 (show R 290 32 = some 322 from (hM.2 31 _ rfl).2) ?_
    refine e_ipush rfl ?_
    refine e_dup2 rfl ?_
    refine e_ialv (t := 4) (n := 7) rfl (show sh[322]? = some (20, 7) from (hM.2 31 _ rfl).1) rfl (by decide) (by decide) ((va13x.1 1 4 (by decide) (by decide)).trans ((xu_o (Or.inl (by decide))).trans ((xu_o (Or.inl (by decide))).trans ((xu_o (Or.inl (by decide))).trans (hw.1.1 4 (by decide)))))) ?_
    refine e_ipush rfl ?_
    refine e_iadd rfl ?_
    rw [show (nI (cn u 4)) + 1 = nI (cn u 4 + 1) from nI_1 _]
    refine e_iasJ (t := 4) (n := 7) rfl (show sh[322]? = some (20, 7) from (hM.2 31 _ rfl).1) rfl (by decide) (by decide) (fun J14x g14x f14x => ?_)
    have va14x : nV J14x (xu (xu (xu (xu u 13 (cn u 4) y1x) 15 (cn u 4) y2x) 16 (cn u 4) y3x) 1 4 (nI (cn u 4 + 1))) := va13x.up (c := 322) (by decide) g14x f14x
    have r3x_ : Mr J14x B n p3x F3x := Mr.nf r3x_ (fun i t hi => f14x i t (by omega))
    have nb14x : NF I J14x := nb13x.tr (fun i t _ hi => f14x i t (by omega))
    have h57x := (f14x 290 57 (Or.inl (by decide))).trans h57x
    refine e_goto rfl ?_
    have eSF : sPF B n u 5 q = F3x := by rw [sPF_5]; simp only [eF1x, eP1x, eF2x, eP2x, eF3x, eP3x]
    have eSP : sPP B n u 5 q = P3x := by rw [sPP_5]; simp only [eF1x, eP1x, eF2x, eP2x, eF3x, eP3x]
    refine Eg.ret rfl (by decide) rfl ⟨rfl, J14x, p3x, rfl, by rw [eSF]; exact r3x_, l3x, fun e => ?_, nb14x, h57x⟩
    rw [eSF] at e
    have z3x := c3x e
    have g20x : F2x = 0 := kF_0 (eF3x.trans e)
    have z2x := c2x g20x
    have g10x : F1x = 0 := kF_0 (eF2x.trans g20x)
    have z1x := c1x g10x
    refine ⟨by rw [eSP]; exact z3x.2, ?_⟩
    have eSU : sPU B n u 5 q = telF u 4 13 15 16 (nI (tn B n q)) (nI (tn B n P1x)) (nI (tn B n P2x)) := by rw [sPU_5] <;> simp only [eF1x, eP1x, eF2x, eP2x, eF3x, eP3x]
    rw [eSU]; rw [z1x.1, z2x.1, z3x.1] at va14x; exact va14x
  · refine e_tswd rfl (by decide) ?_
    have h57x : I 290 57 = I 290 57 := rfl
    obtain ⟨F1x, eF1x⟩ : ∃ x, kF B n q 0 0 9 = x := ⟨_, rfl⟩
    obtain ⟨P1x, eP1x⟩ : ∃ x, kP B n q 0 0 9 = x := ⟨_, rfl⟩
    obtain ⟨F2x, eF2x⟩ : ∃ x, kF B n P1x F1x (max 1 (tn B n q)) 9 = x := ⟨_, rfl⟩
    obtain ⟨P2x, eP2x⟩ : ∃ x, kP B n P1x F1x (max 1 (tn B n q)) 9 = x := ⟨_, rfl⟩
    refine e_aload rfl rfl ?_
    refine e_getR rfl hM.1 (show R 290 32 = some 322 from (hM.2 31 _ rfl).2) ?_
    refine e_ipush rfl ?_
    refine e_aload rfl rfl ?_
    refine e_ipush rfl ?_
    refine e_ipush rfl ?_
    refine Eg.c3 rfl (by decide) (by decide) rfl (Nat.le_of_ble_eq_true rfl) (xrcv_of rfl hM.1 rfl) ((ms_amt hM hr hpn (fun _ => hq) (a := 0) (b := 9) (by omega) (by omega) eF1x eP1x).mono (by decide)) (fun r1x h1x hq => ?_)
    obtain ⟨y1x, p1x, J1x, rfl, rfl, r1x, m1x, l1x, c1x⟩ := hq
    have v1x : nV J1x u := v0x.fr (fun i k q1x q2x => m1x i k (by omega))
    have n1x := n0x.tr (NF.of m1x)
    have r1x_ := r1x
    have h57x := (m1x 290 57 (by decide)).trans h57x
    refine e_iasJ (t := 5) (n := 7) rfl (show sh[322]? = some (20, 7) from (hM.2 31 _ rfl).1) rfl (by decide) (by decide) (fun J11x g11x f11x => ?_)
    have va11x : nV J11x (xu u 1 5 y1x) := v1x.up (c := 322) (by decide) g11x f11x
    have r1x_ : Mr J11x B n p1x F1x := Mr.nf r1x_ (fun i t hi => f11x i t (by omega))
    have nb11x : NF I J11x := n1x.tr (fun i t _ hi => f11x i t (by omega))
    have h57x := (f11x 290 57 (Or.inl (by decide))).trans h57x
    refine e_aload rfl rfl ?_
    refine e_getR rfl hM.1 (show R 290 32 = some 322 from (hM.2 31 _ rfl).2) ?_
    refine e_ipush rfl ?_
    refine e_aload rfl rfl ?_
    refine e_aload rfl rfl ?_
    refine e_getR rfl hM.1 (show R 290 32 = some 322 from (hM.2 31 _ rfl).2) ?_
    refine e_ipush rfl ?_
    refine e_ialv (t := 5) (n := 7) rfl (show sh[322]? = some (20, 7) from (hM.2 31 _ rfl).1) rfl (by decide) (by decide) g11x ?_
    refine e_ipush rfl ?_
    refine e_cle_b rfl (fun b288x => ?_) (fun b288x => ?_)
    · refine e_ipush rfl ?_
      refine e_ipush rfl ?_
      refine Eg.c3 rfl (by decide) (by decide) rfl (Nat.le_of_ble_eq_true rfl) (xrcv_of rfl hM.1 rfl) ((ms_amount hM r1x_ l1x (lo := 1) (hi := 9) (by decide) (by decide)).mono (by decide)) (fun r1x h1x hq => ?_)
      obtain ⟨y2x, p2x, J2x, rfl, rfl, r2x, m2x, l2x, c2x⟩ := hq
      have rc : Mr J2x B n p2x F2x ∧ (F2x = 0 → y2x = nI (tn B n P1x) ∧ skp B n p2x = P2x) := by
        by_cases e : F1x = 0
        · have z1x := c1x e
          have t1x := tk_get (B := B) (a := 0) (b := 9) hqn hn (by decide) (by decide) (eF1x.trans e)
          have em : (1 : Int32) = nI (max 1 (tn B n q)) := by have := (nI_lei (b := 1) (by omega) (by decide)).mp (z1x.1 ▸ b288x); rw [show max 1 (tn B n q) = 1 by omega]; rfl
          rw [z1x.2, em, show (9 : Int32) = nI 9 from rfl] at r2x c2x
          have eF2' : tkF B n P1x F1x (nI (max 1 (tn B n q))) (nI 9) = F2x := eF2x
          rw [eF2'] at r2x c2x
          have hP1x : P1x ≤ n := by rw [← z1x.2]; exact (skp_le (B := B) (n := n) (p := p1x)).2 l1x
          refine ⟨r2x, fun h0x => ?_⟩
          have t2x := tk_get (B := B) (f := F1x) (a := max 1 (tn B n q)) (b := 9) hP1x hn (by omega) (by decide) (eF2x.trans h0x)
          exact ⟨(c2x h0x).1.trans t2x.1, (c2x h0x).2.1.trans eP2x⟩
        · rw [tkF_n e] at r2x c2x
          rw [kF_n e] at eF2x
          rw [← eF2x]; exact ⟨r2x, fun h0x => absurd h0x e⟩
      replace r2x := rc.1
      replace c2x := rc.2
      have v2x : nV J2x (xu u 1 5 y1x) := va11x.fr (fun i k q1x q2x => m2x i k (by omega))
      have n2x := nb11x.tr (NF.of m2x)
      have r2x_ := r2x
      have h57x := (m2x 290 57 (by decide)).trans h57x
      refine e_iasJ (t := 6) (n := 7) rfl (show sh[322]? = some (20, 7) from (hM.2 31 _ rfl).1) rfl (by decide) (by decide) (fun J12x g12x f12x => ?_)
      have va12x : nV J12x (xu (xu u 1 5 y1x) 1 6 y2x) := v2x.up (c := 322) (by decide) g12x f12x
      have r2x_ : Mr J12x B n p2x F2x := Mr.nf r2x_ (fun i t hi => f12x i t (by omega))
      have nb12x : NF I J12x := n2x.tr (fun i t _ hi => f12x i t (by omega))
      refine e_aload rfl rfl ?_
      refine e_ipush rfl ?_
      refine e_putZJ rfl hM.1 (by decide) (fun J13x g13x f13x => ?_)
      have eSF : sPF B n u 6 q = F2x := by rw [sPF_6]; simp only [eF1x, eP1x, eF2x, eP2x]
      have eSP : sPP B n u 6 q = P2x := by rw [sPP_6]; simp only [eF1x, eP1x, eF2x, eP2x]
      refine Eg.ret rfl (by decide) rfl ⟨rfl, J13x, p2x, rfl, ?_, l2x, fun e => ?_, nb12x.tr (fun i t q1x hi => f13x i t (by omega)), g13x⟩
      · rw [eSF]; exact r2x_.any (fun k hk => f13x 290 k (by omega)) (fun k => f13x 337 k (by omega))
      · rw [eSF] at e
        have z2x := c2x e
        have z1x := c1x (kF_0 (eF2x.trans e))
        have eSU : sPU B n u 6 q = fStm u (nI (tn B n q)) (nI (tn B n P1x)) := by rw [sPU_6]; simp only [eP1x]
        refine ⟨by rw [eSP]; exact z2x.2, ?_⟩
        rw [eSU]; rw [z1x.1, z2x.1] at va12x; exact nV.fr va12x (fun i k q1x q2x => f13x i k (by omega))
    · refine e_aload rfl rfl ?_
      refine e_getR rfl hM.1 (show R 290 32 = some 322 from (hM.2 31 _ rfl).2) ?_
      refine e_ipush rfl ?_
      refine e_ialv (t := 5) (n := 7) rfl (show sh[322]? = some (20, 7) from (hM.2 31 _ rfl).1) rfl (by decide) (by decide) g11x ?_
      refine e_goto rfl ?_
      refine e_ipush rfl ?_
      refine Eg.c3 rfl (by decide) (by decide) rfl (Nat.le_of_ble_eq_true rfl) (xrcv_of rfl hM.1 rfl) ((ms_amount hM r1x_ l1x (lo := y1x) (hi := 9) (fun q => b288x (Int32.le_trans (Int32.le_of_lt q) (by decide))) (by decide)).mono (by decide)) (fun r1x h1x hq => ?_)
      obtain ⟨y2x, p2x, J2x, rfl, rfl, r2x, m2x, l2x, c2x⟩ := hq
      have rc : Mr J2x B n p2x F2x ∧ (F2x = 0 → y2x = nI (tn B n P1x) ∧ skp B n p2x = P2x) := by
        by_cases e : F1x = 0
        · have z1x := c1x e
          have t1x := tk_get (B := B) (a := 0) (b := 9) hqn hn (by decide) (by decide) (eF1x.trans e)
          have em : y1x = nI (max 1 (tn B n q)) := by have := nle (b := 1) (by omega) (by decide) (z1x.1 ▸ b288x); rw [show max 1 (tn B n q) = tn B n q by omega]; exact z1x.1
          rw [z1x.2, em, show (9 : Int32) = nI 9 from rfl] at r2x c2x
          have eF2' : tkF B n P1x F1x (nI (max 1 (tn B n q))) (nI 9) = F2x := eF2x
          rw [eF2'] at r2x c2x
          have hP1x : P1x ≤ n := by rw [← z1x.2]; exact (skp_le (B := B) (n := n) (p := p1x)).2 l1x
          refine ⟨r2x, fun h0x => ?_⟩
          have t2x := tk_get (B := B) (f := F1x) (a := max 1 (tn B n q)) (b := 9) hP1x hn (by omega) (by decide) (eF2x.trans h0x)
          exact ⟨(c2x h0x).1.trans t2x.1, (c2x h0x).2.1.trans eP2x⟩
        · rw [tkF_n e] at r2x c2x
          rw [kF_n e] at eF2x
          rw [← eF2x]; exact ⟨r2x, fun h0x => absurd h0x e⟩
      replace r2x := rc.1
      replace c2x := rc.2
      have v2x : nV J2x (xu u 1 5 y1x) := va11x.fr (fun i k q1x q2x => m2x i k (by omega))
      have n2x := nb11x.tr (NF.of m2x)
      have r2x_ := r2x
      have h57x := (m2x 290 57 (by decide)).trans h57x
      refine e_iasJ (t := 6) (n := 7) rfl (show sh[322]? = some (20, 7) from (hM.2 31 _ rfl).1) rfl (by decide) (by decide) (fun J14x g14x f14x => ?_)
      have va14x : nV J14x (xu (xu u 1 5 y1x) 1 6 y2x) := v2x.up (c := 322) (by decide) g14x f14x
      have r2x_ : Mr J14x B n p2x F2x := Mr.nf r2x_ (fun i t hi => f14x i t (by omega))
      have nb14x : NF I J14x := n2x.tr (fun i t _ hi => f14x i t (by omega))
      refine e_aload rfl rfl ?_
      refine e_ipush rfl ?_
      refine e_putZJ rfl hM.1 (by decide) (fun J15x g15x f15x => ?_)
      have eSF : sPF B n u 6 q = F2x := by rw [sPF_6]; simp only [eF1x, eP1x, eF2x, eP2x]
      have eSP : sPP B n u 6 q = P2x := by rw [sPP_6]; simp only [eF1x, eP1x, eF2x, eP2x]
      refine Eg.ret rfl (by decide) rfl ⟨rfl, J15x, p2x, rfl, ?_, l2x, fun e => ?_, nb14x.tr (fun i t q1x hi => f15x i t (by omega)), g15x⟩
      · rw [eSF]; exact r2x_.any (fun k hk => f15x 290 k (by omega)) (fun k => f15x 337 k (by omega))
      · rw [eSF] at e
        have z2x := c2x e
        have z1x := c1x (kF_0 (eF2x.trans e))
        have eSU : sPU B n u 6 q = fStm u (nI (tn B n q)) (nI (tn B n P1x)) := by rw [sPU_6]; simp only [eP1x]
        refine ⟨by rw [eSP]; exact z2x.2, ?_⟩
        rw [eSU]; rw [z1x.1, z2x.1] at va14x; exact nV.fr va14x (fun i k q1x q2x => f15x i k (by omega))
end MS1x
