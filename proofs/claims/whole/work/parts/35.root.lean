/-! THE TWO ROOTS: the class's object and the reference's, made -/
theorem ct_reader {X : xX} {h0 : xH} {i j z : Nat} (hi : h0.1[i]? = some (8, z)) : Ec X 1 97 [.ref i, .ref j] h0 (fun r h => r = none ∧ h = xpR i 0 j h0) := by
  refine Ec.of (Nat.le_of_ble_eq_true rfl) ?_
  refine e_aload rfl rfl ?_
  refine e_oinit rfl (by decide) ?_
  refine e_aload rfl rfl ?_
  refine e_aload rfl rfl ?_
  refine e_pR rfl hi ?_
  exact Eg.ret rfl (by decide) rfl ⟨rfl, rfl⟩
theorem ct_rreader {X : xX} {h0 : xH} {i j z : Nat} (hi : h0.1[i]? = some (6, z)) : Ec X 1 70 [.ref i, .ref j] h0 (fun r h => r = none ∧ h = xpR i 0 j h0) := by
  refine Ec.of (Nat.le_of_ble_eq_true rfl) ?_
  refine e_aload rfl rfl ?_
  refine e_oinit rfl (by decide) ?_
  refine e_aload rfl rfl ?_
  refine e_aload rfl rfl ?_
  refine e_pR rfl hi ?_
  exact Eg.ret rfl (by decide) rfl ⟨rfl, rfl⟩
theorem ct_finder {X : xX} {h0 : xH} {i : Nat} : Ec X 1 12 [.ref i] h0 (fun r h => r = none ∧ h = h0) := by
  refine Ec.of (Nat.le_of_ble_eq_true rfl) ?_
  refine e_aload rfl rfl ?_
  refine e_oinit rfl (by decide) ?_
  exact Eg.ret rfl (by decide) rfl ⟨rfl, rfl⟩
def fs_crew : List (Nat × Nat × Nat) := [(0, 21, 64), (1, 21, 22), (2, 20, 4)]
def crew_init (i j : Nat) (h : xH) : xH := (fun h2 : xH => xpR i 3 h2.1.length (mom_new j h2)) (xadd i fs_crew h)
theorem ct_crew {X : xX} {h0 : xH} {i j z : Nat} (hi : h0.1[i]? = some (0, z)) : Ec X 2 1 [.ref i, .ref j] h0 (fun r h => r = none ∧ h = crew_init i j h0) := by
  refine Ec.of (Nat.le_of_ble_eq_true rfl) ?_
  refine e_aload rfl rfl ?_
  refine e_oinit rfl (by decide) ?_
  refine e_fa rfl rfl rfl rfl rfl (N := 64) (by decide +kernel) (by decide) hi ?_
  refine e_fa rfl rfl rfl rfl rfl (N := 22) (by decide +kernel) (by decide) (xone_at hi) ?_
  refine e_fa rfl rfl rfl rfl rfl (N := 4) (by decide +kernel) (by decide) (xone_at (xone_at hi)) ?_
  have hz := xone_at (s := 2) (t := 20) (n := 4) (j := i) (xone_at (s := 1) (t := 21) (n := 22) (j := i) (xone_at (s := 0) (t := 21) (n := 64) (j := i) hi))
  generalize hh2 : xone i 2 20 4 (xone i 1 21 22 (xone i 0 21 64 h0)) = h2 at hz ⊢
  refine e_aload rfl rfl ?_
  refine e_ob rfl ?_
  refine e_dupr rfl ?_
  refine e_aload rfl rfl ?_
  refine Eg.call [.ref h2.1.length, .ref j] [.ref h2.1.length, .ref i] rfl (by decide) (by decide) rfl rfl (Nat.le_of_ble_eq_true rfl) (xrcv_ofi (Or.inl rfl) rfl) (ct_mom (h0 := xob 3 12 h2) (i := h2.1.length) (j := j) (xob_at h2)) (fun r1 h1 hq => ?_)
  obtain ⟨rfl, rfl⟩ := hq
  refine e_pR rfl (mom_old hz) ?_
  exact Eg.ret rfl (by decide) rfl ⟨rfl, by rw [← hh2]; rfl⟩
/-- the class's heap, as its constructor makes it -/
def cr_0 : xH := xob 11 13 xh0
def cr_1 : xH := xpR 0 0 1 (xadd 1 fs_tape (xob 9 8 cr_0))
def cr_2 : xH := xpR 0 1 6 (xpR 6 0 1 (xob 8 3 cr_1))
def cr_3 : xH := xpR 0 2 7 (xpR 7 0 1 (xob 6 3 cr_2))
def cr_4 : xH := xone 0 3 24 6 cr_3
def cr_5 : xH := xpR 0 5 9 (xpI 9 19 1 (xpI 9 18 1 (xadd 9 fs_sea (xob 7 20 cr_4))))
def cr_6 : xH := xpR 0 6 22 (xpI 22 19 1 (xpI 22 18 1 (xadd 22 fs_sea (xob 7 20 cr_5))))
def cr_7 : xH := xpR 0 7 35 (world_init 35 9 (xob 10 12 cr_6))
def cr_8 : xH := xone 0 8 25 4 cr_7
def cr_9 : xH := xpR 0 9 237 (crew_init 237 9 (xob 0 9 cr_8))
def cr_10 : xH := xpR 0 10 250 (xadd 250 fs_pilot (xob 4 10 cr_9))
def cr_11 : xH := xpR 0 11 258 (xob 1 4 cr_10)
def cr_12 : xH := xone 0 12 20 4 cr_11
def rules_new : Nat → Nat → xH → xH
  | 0, _, h => h
  | n + 1, k, h => rules_new n (k + 1) (xpR 8 k h.1.length (rule_new h))
def cr_h : xH := rules_new 6 0 cr_12
theorem cr_len : cr_0.1.length = 1 ∧ cr_1.1.length = 6 ∧ cr_2.1.length = 7 ∧ cr_4.1.length = 9 ∧ cr_5.1.length = 22 ∧ cr_6.1.length = 35 ∧ cr_8.1.length = 237 ∧ cr_9.1.length = 250 ∧ cr_10.1.length = 258 ∧ cr_12.1.length = 260 ∧ cr_h.1.length = 290 := by decide +kernel
theorem cr_at : cr_1.1[0]? = some (11, 13) ∧ (xadd 1 fs_tape (xob 9 8 cr_0)).1[0]? = some (11, 13) ∧ (xpR 6 0 1 (xob 8 3 cr_1)).1[0]? = some (11, 13) ∧ (xpR 7 0 1 (xob 6 3 cr_2)).1[0]? = some (11, 13) ∧ cr_3.1[0]? = some (11, 13) ∧ (xpI 9 19 1 (xpI 9 18 1 (xadd 9 fs_sea (xob 7 20 cr_4)))).1[0]? = some (11, 13) ∧ (xpI 22 19 1 (xpI 22 18 1 (xadd 22 fs_sea (xob 7 20 cr_5)))).1[0]? = some (11, 13) ∧ (world_init 35 9 (xob 10 12 cr_6)).1[0]? = some (11, 13) ∧ cr_7.1[0]? = some (11, 13) ∧ (crew_init 237 9 (xob 0 9 cr_8)).1[0]? = some (11, 13) ∧ (xadd 250 fs_pilot (xob 4 10 cr_9)).1[0]? = some (11, 13) ∧ (xob 1 4 cr_10).1[0]? = some (11, 13) ∧ cr_11.1[0]? = some (11, 13) := by decide +kernel
theorem cr_rf : (xob 8 3 cr_1).2.2.2 0 0 = some 1 ∧ (xob 6 3 cr_2).2.2.2 0 0 = some 1 ∧ (xob 10 12 cr_6).2.2.2 0 5 = some 9 ∧ (xob 0 9 cr_8).2.2.2 0 5 = some 9 ∧ (xob 8 3 cr_1).1[0]? = some (11, 13) ∧ (xob 6 3 cr_2).1[0]? = some (11, 13) ∧ (xob 10 12 cr_6).1[0]? = some (11, 13) ∧ (xob 0 9 cr_8).1[0]? = some (11, 13) := by decide +kernel
section CV
variable {X : xX} {T : Nat → Nat → Option xI} {d k pc : Nat} {l : xL} {h : xH} {Q : Option Value → xH → Prop} {i : Nat}
theorem e_gR {a b g nx z j : Nat} {c : Int32} {q : Int64} {st : List Value} (hi : T k pc = some (50, a, b, g, c, q, nx)) (hs : h.1[i]? = some (b, z)) (hv : h.2.2.2 i a = some j) (kk : Eg X T d k nx l (.ref j :: st) h Q) : Eg X T d k pc l (.ref i :: st) h Q := Eg.step hi (by decide) (by simp only [xsem, hs, if_pos, hv, va_rf]) kk
theorem e_pI {a b g nx z : Nat} {c v : Int32} {q : Int64} {st : List Value} (hi : T k pc = some (51, a, b, g, c, q, nx)) (hs : h.1[i]? = some (b, z)) (kk : Eg X T d k nx l st (xpI i a v h) Q) : Eg X T d k pc l (.int v :: .ref i :: st) h Q := Eg.step hi (by decide) (by simp only [xsem, hs, if_pos]; rfl) kk
end CV
theorem rl_loop {X : xX} {d : Nat} {Q : Option Value → xH → Prop} : ∀ (n kk : Nat) (h : xH), kk + n = 6 → h.1[0]? = some (11, 13) → h.2.2.2 0 3 = some 8 → h.1[8]? = some (24, 6) → Q none (rules_new n kk h) → Eg X xTc (d + 1) 138 145 [(1, .int (nI kk)), (0, .ref 0)] [] h Q := by
  intro n
  induction n with
  | zero =>
    intro kk h hk hi hp hps hQ
    have e : kk = 6 := by omega
    subst e
    refine e_iload rfl rfl ?_
    refine e_ipush rfl ?_
    refine e_cge_t rfl (by decide) ?_
    exact Eg.ret rfl (by decide) rfl hQ
  | succ n ih =>
    intro kk h hk hi hp hps hQ
    obtain ⟨sh, I, L, R⟩ := h
    have h8 : 8 < sh.length := (List.getElem?_eq_some_iff.mp hps).1
    refine e_iload rfl rfl ?_
    refine e_ipush rfl ?_
    refine e_cge_f rfl (nI_ge (b := 6) (a := kk) (by omega) (by decide)) ?_
    refine e_aload rfl rfl ?_
    refine e_getR rfl hi hp ?_
    refine e_iload rfl rfl ?_
    refine e_ob rfl ?_
    refine e_dupr rfl ?_
    refine Eg.call [.ref sh.length] [.ref sh.length, .int (nI kk), .ref 8] rfl (by decide) (by decide) rfl rfl (Nat.le_of_ble_eq_true rfl) (xrcv_ofi (Or.inr rfl) rfl) ((ct_rule (h0 := xob 5 6 (sh, I, L, R)) (i := sh.length) (xob_at (sh, I, L, R))).mono (by omega)) (fun r1 h1 hq => ?_)
    obtain ⟨rfl, rfl⟩ := hq
    have hx : vp_in (nI kk) 6 := vp_in_nI (by omega) (by decide)
    have ec : (nI kk).toNatClampNeg = kk := nI_clamp (by omega)
    have hq8 : (rule_new (sh, I, L, R)).1[8]? = some (24, 6) := xadd_at (xob_old (h := (sh, I, L, R)) hps) _
    have hqn : (rule_new (sh, I, L, R)).1[sh.length]? = some (5, 6) := xadd_at (xob_at (sh, I, L, R)) _
    have hq0 : (rule_new (sh, I, L, R)).1[0]? = some (11, 13) := xadd_at (xob_old (h := (sh, I, L, R)) hi) _
    refine e_aast24 rfl hq8 hqn hx ?_
    rw [ec]
    refine e_iinc rfl rfl ?_
    refine e_goto rfl ?_
    have hold := xadd_old sh.length fs_rule (xob 5 6 (sh, I, L, R)) 0 (by show 0 < (sh ++ [(5, 6)]).length; simp)
    rw [show nI kk + 1 = nI (kk + 1) from nI_1 kk]
    refine ih (kk + 1) (xpR 8 kk sh.length (rule_new (sh, I, L, R))) (by omega) hq0 ?_ hq8 hQ
    show xu (xadd sh.length fs_rule (xob 5 6 (sh, I, L, R))).2.2.2 8 kk (some sh.length) 0 3 = some 8
    rw [xu_i (by decide), hold.2.2 (by omega)]
    show xz R sh.length none 0 3 = some 8
    rw [xz_ne (by omega)]
    exact hp
/-- the class's constructor -/
theorem ct_root {X : xX} : Ec X 3 138 [.ref 0] cr_0 (fun r h => r = none ∧ h = cr_h) := by
  refine Ec.of (Nat.le_of_ble_eq_true rfl) ?_
  refine e_aload rfl rfl ?_
  refine e_oinit rfl (by decide) ?_
  refine e_aload rfl rfl ?_
  refine e_ob rfl ?_
  rw [cr_len.1]
  refine e_dupr rfl ?_
  refine Eg.call [.ref 1] [.ref 1, .ref 0] rfl (by decide) (by decide) rfl rfl (Nat.le_of_ble_eq_true rfl) (xrcv_ofi (Or.inr rfl) rfl) ((ct_tape (h0 := xob 9 8 cr_0) (i := 1) (z := 8) rfl).mono (by omega)) (fun r1 h1 hq => ?_)
  obtain ⟨rfl, rfl⟩ := hq
  refine e_pR (i := 0) (j := 1) (z := 13) rfl cr_at.2.1 ?_
  change Eg X xTc 2 138 15 _ [] cr_1 _
  refine e_aload rfl rfl ?_
  refine e_ob rfl ?_
  rw [cr_len.2.1]
  refine e_dupr rfl ?_
  refine e_aload rfl rfl ?_
  refine e_gR (j := 1) (z := 13) rfl cr_rf.2.2.2.2.1 cr_rf.1 ?_
  refine Eg.call [.ref 6, .ref 1] [.ref 6, .ref 0] rfl (by decide) (by decide) rfl rfl (Nat.le_of_ble_eq_true rfl) (xrcv_ofi (Or.inl rfl) rfl) ((ct_reader (h0 := xob 8 3 cr_1) (i := 6) (j := 1) (z := 3) (by decide +kernel)).mono (by omega)) (fun r1 h1 hq => ?_)
  obtain ⟨rfl, rfl⟩ := hq
  refine e_pR (i := 0) (j := 6) (z := 13) rfl cr_at.2.2.1 ?_
  change Eg X xTc 2 138 30 _ [] cr_2 _
  refine e_aload rfl rfl ?_
  refine e_ob rfl ?_
  rw [cr_len.2.2.1]
  refine e_dupr rfl ?_
  refine e_aload rfl rfl ?_
  refine e_gR (j := 1) (z := 13) rfl cr_rf.2.2.2.2.2.1 cr_rf.2.1 ?_
  refine Eg.call [.ref 7, .ref 1] [.ref 7, .ref 0] rfl (by decide) (by decide) rfl rfl (Nat.le_of_ble_eq_true rfl) (xrcv_ofi (Or.inl rfl) rfl) ((ct_rreader (h0 := xob 6 3 cr_2) (i := 7) (j := 1) (z := 3) (by decide +kernel)).mono (by omega)) (fun r1 h1 hq => ?_)
  obtain ⟨rfl, rfl⟩ := hq
  refine e_pR (i := 0) (j := 7) (z := 13) rfl cr_at.2.2.2.1 ?_
  change Eg X xTc 2 138 45 _ [] cr_3 _
  refine e_fq rfl rfl rfl rfl rfl (N := 6) (by decide +kernel) (by decide) cr_at.2.2.2.2.1 ?_
  change Eg X xTc 2 138 54 _ [] cr_4 _
  refine e_aload rfl rfl ?_
  refine e_ob rfl ?_
  rw [cr_len.2.2.2.1]
  refine e_dupr rfl ?_
  refine Eg.call [.ref 9] [.ref 9, .ref 0] rfl (by decide) (by decide) rfl rfl (Nat.le_of_ble_eq_true rfl) (xrcv_ofi (Or.inr rfl) rfl) ((ct_sea (h0 := xob 7 20 cr_4) (i := 9) (z := 20) (by decide +kernel)).mono (by omega)) (fun r1 h1 hq => ?_)
  obtain ⟨rfl, rfl⟩ := hq
  refine e_pR (i := 0) (j := 9) (z := 13) rfl cr_at.2.2.2.2.2.1 ?_
  change Eg X xTc 2 138 65 _ [] cr_5 _
  refine e_aload rfl rfl ?_
  refine e_ob rfl ?_
  rw [cr_len.2.2.2.2.1]
  refine e_dupr rfl ?_
  refine Eg.call [.ref 22] [.ref 22, .ref 0] rfl (by decide) (by decide) rfl rfl (Nat.le_of_ble_eq_true rfl) (xrcv_ofi (Or.inr rfl) rfl) ((ct_sea (h0 := xob 7 20 cr_5) (i := 22) (z := 20) (by decide +kernel)).mono (by omega)) (fun r1 h1 hq => ?_)
  obtain ⟨rfl, rfl⟩ := hq
  refine e_pR (i := 0) (j := 22) (z := 13) rfl cr_at.2.2.2.2.2.2.1 ?_
  change Eg X xTc 2 138 76 _ [] cr_6 _
  refine e_aload rfl rfl ?_
  refine e_ob rfl ?_
  rw [cr_len.2.2.2.2.2.1]
  refine e_dupr rfl ?_
  refine e_aload rfl rfl ?_
  refine e_gR (j := 9) (z := 13) rfl cr_rf.2.2.2.2.2.2.1 cr_rf.2.2.1 ?_
  refine Eg.call [.ref 35, .ref 9] [.ref 35, .ref 0] rfl (by decide) (by decide) rfl rfl (Nat.le_of_ble_eq_true rfl) (xrcv_ofi (Or.inl rfl) rfl) ((ct_world (h0 := xob 10 12 cr_6) (i := 35) (j := 9) (by decide +kernel)).mono (by omega)) (fun r1 h1 hq => ?_)
  obtain ⟨rfl, rfl⟩ := hq
  refine e_pR (i := 0) (j := 35) (z := 13) rfl cr_at.2.2.2.2.2.2.2.1 ?_
  change Eg X xTc 2 138 91 _ [] cr_7 _
  refine e_fq rfl rfl rfl rfl rfl (N := 4) (by decide +kernel) (by decide) cr_at.2.2.2.2.2.2.2.2.1 ?_
  change Eg X xTc 2 138 99 _ [] cr_8 _
  refine e_aload rfl rfl ?_
  refine e_ob rfl ?_
  rw [cr_len.2.2.2.2.2.2.1]
  refine e_dupr rfl ?_
  refine e_aload rfl rfl ?_
  refine e_gR (j := 9) (z := 13) rfl cr_rf.2.2.2.2.2.2.2 cr_rf.2.2.2.1 ?_
  refine Eg.call [.ref 237, .ref 9] [.ref 237, .ref 0] rfl (by decide) (by decide) rfl rfl (Nat.le_of_ble_eq_true rfl) (xrcv_ofi (Or.inl rfl) rfl) ((ct_crew (h0 := xob 0 9 cr_8) (i := 237) (j := 9) (z := 9) (by decide +kernel)).mono (by omega)) (fun r1 h1 hq => ?_)
  obtain ⟨rfl, rfl⟩ := hq
  refine e_pR (i := 0) (j := 237) (z := 13) rfl cr_at.2.2.2.2.2.2.2.2.2.1 ?_
  change Eg X xTc 2 138 114 _ [] cr_9 _
  refine e_aload rfl rfl ?_
  refine e_ob rfl ?_
  rw [cr_len.2.2.2.2.2.2.2.1]
  refine e_dupr rfl ?_
  refine Eg.call [.ref 250] [.ref 250, .ref 0] rfl (by decide) (by decide) rfl rfl (Nat.le_of_ble_eq_true rfl) (xrcv_ofi (Or.inr rfl) rfl) ((ct_pilot (h0 := xob 4 10 cr_9) (i := 250) (z := 10) (by decide +kernel)).mono (by omega)) (fun r1 h1 hq => ?_)
  obtain ⟨rfl, rfl⟩ := hq
  refine e_pR (i := 0) (j := 250) (z := 13) rfl cr_at.2.2.2.2.2.2.2.2.2.2.1 ?_
  change Eg X xTc 2 138 125 _ [] cr_10 _
  refine e_aload rfl rfl ?_
  refine e_ob rfl ?_
  rw [cr_len.2.2.2.2.2.2.2.2.1]
  refine e_dupr rfl ?_
  refine Eg.call [.ref 258] [.ref 258, .ref 0] rfl (by decide) (by decide) rfl rfl (Nat.le_of_ble_eq_true rfl) (xrcv_ofi (Or.inr rfl) rfl) ((ct_finder (h0 := xob 1 4 cr_10) (i := 258)).mono (by omega)) (fun r1 h1 hq => ?_)
  obtain ⟨rfl, rfl⟩ := hq
  refine e_pR (i := 0) (j := 258) (z := 13) rfl cr_at.2.2.2.2.2.2.2.2.2.2.2.1 ?_
  change Eg X xTc 2 138 136 _ [] cr_11 _
  refine e_fa rfl rfl rfl rfl rfl (N := 4) (by decide +kernel) (by decide) cr_at.2.2.2.2.2.2.2.2.2.2.2.2 ?_
  change Eg X xTc 2 138 143 _ [] cr_12 _
  refine e_ipush rfl ?_
  refine e_istore rfl ?_
  exact rl_loop (d := 1) 6 0 cr_12 rfl (by decide +kernel) (by decide +kernel) (by decide +kernel) ⟨rfl, rfl⟩
