/-! CONSTRUCTORS of objects that hold objects -/
/-- a new object -/
def xob (c n : Nat) (h : xH) : xH := (h.1 ++ [(c, n)], xz h.2.1 h.1.length 0, xz h.2.2.1 h.1.length 0, xz h.2.2.2 h.1.length none)
def xpR (i s v : Nat) (h : xH) : xH := (h.1, h.2.1, h.2.2.1, xu h.2.2.2 i s (some v))
def xpI (i s : Nat) (v : Int32) (h : xH) : xH := (h.1, xu h.2.1 i s v, h.2.2.1, h.2.2.2)
theorem xob_at {c n : Nat} (h : xH) : (xob c n h).1[h.1.length]? = some (c, n) := by simp [xob]
theorem xob_old {c n i : Nat} {h : xH} {q : Nat × Nat} (hi : h.1[i]? = some q) : (xob c n h).1[i]? = some q := by
  show (h.1 ++ [(c, n)])[i]? = some q
  rw [List.getElem?_append_left (List.getElem?_eq_some_iff.mp hi).1]; exact hi
def sea_new (h : xH) : xH := xpI h.1.length 19 1 (xpI h.1.length 18 1 (xadd h.1.length fs_sea (xob 7 20 h)))
def fleet_new (h : xH) : xH := xadd h.1.length fs_fleet (xob 2 5 h)
def rule_new (h : xH) : xH := xadd h.1.length fs_rule (xob 5 6 h)
def tape_new (h : xH) : xH := xadd h.1.length fs_tape (xob 9 8 h)
def pilot_new (h : xH) : xH := xadd h.1.length fs_pilot (xob 4 10 h)
def mom_new (j : Nat) (h : xH) : xH := xpR h.1.length 0 j (xadd h.1.length fs_mom (xob 3 12 h))
theorem mom_old {j i : Nat} {h : xH} {q : Nat × Nat} (hi : h.1[i]? = some q) : (mom_new j h).1[i]? = some q := xadd_at (xob_old hi) _
theorem fleet_old {i : Nat} {h : xH} {q : Nat × Nat} (hi : h.1[i]? = some q) : (fleet_new h).1[i]? = some q := xadd_at (xob_old hi) _
theorem mom_at (j : Nat) (h : xH) : (mom_new j h).1[h.1.length]? = some (3, 12) := xadd_at (xob_at h) _
/-- the past of a world: its Moments from the k-th on -/
def past_new (p j : Nat) : Nat → Nat → xH → xH
  | 0, _, h => h
  | n + 1, k, h => past_new p j n (k + 1) (xpR p k h.1.length (mom_new j h))
def world_init (i j : Nat) (h : xH) : xH :=
  (fun h2 : xH => (fun h3 : xH => (fun h4 : xH => past_new h.1.length j 20 0 (xpR i 0 h3.1.length h4)) (mom_new j h3)) (xpR i 10 h2.1.length (fleet_new h2))) (xadd i [(4, 20, 10), (5, 20, 10), (7, 20, 10), (8, 20, 10), (9, 20, 10)] (xone i 1 26 20 h))
section CU
variable {X : xX} {T : Nat → Nat → Option xI} {d k pc : Nat} {l : xL} {h : xH} {Q : Option Value → xH → Prop} {i : Nat}
/-- load this, push a length, make an array of references, put it into a field -/
theorem e_fq {a1 b1 g1 p1 a2 b2 g2 p2 b3 g3 p3 g4 p4 t slot cls z N : Nat} {c1 c2 c3 c4 : Int32} {q1 q2 q3 q4 : Int64} (h1 : T k pc = some (1, a1, b1, g1, c1, q1, p1)) (h2 : T k p1 = some (6, a2, b2, g2, c2, q2, p2)) (h3 : T k p2 = some (66, t, b3, g3, c3, q3, p3)) (h4 : T k p3 = some (53, slot, cls, g4, c4, q4, p4)) (hl : xlk l a1 = some (.ref i)) (hN : c2 = nI N) (hN2 : N ≤ 600000) (hi : h.1[i]? = some (cls, z)) (kk : Eg X T d k p4 l [] (xone i slot t N h) Q) : Eg X T d k pc l [] h Q := by
  obtain ⟨sh, I, L, R⟩ := h
  refine e_aload h1 hl ?_
  refine e_ipush h2 ?_
  subst hN
  have e1 : (nI N).toNatClampNeg = N := nI_clamp (by omega)
  refine e_newq h3 (fun q => ?_) ?_
  · rcases q with q | q
    · exact nI_pos (by omega) q
    · rw [e1] at q; omega
  rw [e1]
  refine e_putR h4 (n := z) ?_ kk
  have hi : sh[i]? = some (cls, z) := hi
  rw [List.getElem?_append_left (List.getElem?_eq_some_iff.mp hi).1]
  exact hi
theorem e_ob {a b g nx : Nat} {c : Int32} {q : Int64} {st : List Value} (hi : T k pc = some (67, a, b, g, c, q, nx)) (kk : Eg X T d k nx l (.ref h.1.length :: st) (xob b a h) Q) : Eg X T d k pc l st h Q := Eg.step hi (by decide) rfl kk
theorem e_pR {a b g nx z j : Nat} {c : Int32} {q : Int64} {st : List Value} (hi : T k pc = some (53, a, b, g, c, q, nx)) (hs : h.1[i]? = some (b, z)) (kk : Eg X T d k nx l st (xpR i a j h) Q) : Eg X T d k pc l (.ref j :: .ref i :: st) h Q := Eg.step hi (by decide) (by simp only [xsem, hs, if_pos]; rfl) kk
end CU
/-- the past's loop -/
theorem wd_loop {X : xX} {d i j p : Nat} {Q : Option Value → xH → Prop} : ∀ (n kk : Nat) (h : xH), kk + n = 20 → h.1[i]? = some (10, 12) → h.2.2.2 i 1 = some p → h.1[p]? = some (26, 20) → i < h.1.length → Q none (past_new p j n kk h) → Eg X xTc (d + 1) 131 78 [(2, .int (nI kk)), (0, .ref i), (1, .ref j)] [] h Q := by
  intro n
  induction n with
  | zero =>
    intro kk h hk hi hp hps hil hQ
    have e : kk = 20 := by omega
    subst e
    refine e_iload rfl rfl ?_
    refine e_ipush rfl ?_
    refine e_cge_t rfl (by decide) ?_
    exact Eg.ret rfl (by decide) rfl hQ
  | succ n ih =>
    intro kk h hk hi hp hps hil hQ
    obtain ⟨sh, I, L, R⟩ := h
    refine e_iload rfl rfl ?_
    refine e_ipush rfl ?_
    refine e_cge_f rfl (nI_ge (b := 20) (a := kk) (by omega) (by decide)) ?_
    refine e_aload rfl rfl ?_
    refine e_getR rfl hi hp ?_
    refine e_iload rfl rfl ?_
    refine e_ob rfl ?_
    refine e_dupr rfl ?_
    refine e_aload rfl rfl ?_
    refine Eg.call [.ref sh.length, .ref j] [.ref sh.length, .int (nI kk), .ref p] rfl (by decide) (by decide) rfl rfl (Nat.le_of_ble_eq_true rfl) (xrcv_ofi (Or.inl rfl) rfl) ((ct_mom (h0 := xob 3 12 (sh, I, L, R)) (i := sh.length) (j := j) (xob_at (sh, I, L, R))).mono (by omega)) (fun r1 h1 hq => ?_)
    obtain ⟨rfl, rfl⟩ := hq
    have hx : vp_in (nI kk) 20 := vp_in_nI (by omega) (by decide)
    have ec : (nI kk).toNatClampNeg = kk := nI_clamp (by omega)
    refine e_aast26 rfl (mom_old (j := j) (h := (sh, I, L, R)) hps) (mom_at j (sh, I, L, R)) hx ?_
    rw [ec]
    refine e_iinc rfl rfl ?_
    refine e_goto rfl ?_
    have hold := xadd_old sh.length fs_mom (xob 3 12 (sh, I, L, R)) i (by show i < (sh ++ [(3, 12)]).length; have : i < sh.length := hil; simp; omega)
    have hil2 : i < sh.length := hil
    have hpl : p < sh.length := (List.getElem?_eq_some_iff.mp hps).1
    rw [show nI kk + 1 = nI (kk + 1) from nI_1 kk]
    refine ih (kk + 1) (xpR p kk sh.length (mom_new j (sh, I, L, R))) (by omega) (mom_old (j := j) hi) ?_ (mom_old (j := j) hps) ?_ hQ
    · show xu (xu (xadd sh.length fs_mom (xob 3 12 (sh, I, L, R))).2.2.2 sh.length 0 (some j)) p kk (some sh.length) i 1 = some p
      have hip : i ≠ p := xsh_ne hi hps (by decide)
      rw [xu_i hip, xu_i (by omega), hold.2.2 (by omega)]
      show xz R sh.length none i 1 = some p
      rw [xz_ne (by omega)]
      exact hp
    · show i < (xadd sh.length fs_mom (xob 3 12 (sh, I, L, R))).1.length
      rw [xadd_len]
      show i < (sh ++ [(3, 12)]).length + _
      simp; omega
theorem ct_world {X : xX} {h0 : xH} {i j : Nat} (hi : h0.1[i]? = some (10, 12)) : Ec X 2 131 [.ref i, .ref j] h0 (fun r h => r = none ∧ h = world_init i j h0) := by
  refine Ec.of (Nat.le_of_ble_eq_true rfl) ?_
  refine e_aload rfl rfl ?_
  refine e_oinit rfl (by decide) ?_
  have hi0 := hi
  refine e_fq rfl rfl rfl rfl rfl (N := 20) (by decide +kernel) (by decide) hi ?_
  replace hi := xone_at (s := 1) (t := 26) (n := 20) (j := i) hi
  refine e_fa rfl rfl rfl rfl rfl (N := 10) (by decide +kernel) (by decide) hi ?_
  replace hi := xone_at (s := 4) (t := 20) (n := 10) (j := i) hi
  refine e_fa rfl rfl rfl rfl rfl (N := 10) (by decide +kernel) (by decide) hi ?_
  replace hi := xone_at (s := 5) (t := 20) (n := 10) (j := i) hi
  refine e_fa rfl rfl rfl rfl rfl (N := 10) (by decide +kernel) (by decide) hi ?_
  replace hi := xone_at (s := 7) (t := 20) (n := 10) (j := i) hi
  refine e_fa rfl rfl rfl rfl rfl (N := 10) (by decide +kernel) (by decide) hi ?_
  replace hi := xone_at (s := 8) (t := 20) (n := 10) (j := i) hi
  refine e_fa rfl rfl rfl rfl rfl (N := 10) (by decide +kernel) (by decide) hi ?_
  replace hi := xone_at (s := 9) (t := 20) (n := 10) (j := i) hi
  have hz := hi
  replace hi := hi0
  clear hi0
  generalize hh2 : xone i 9 20 10 (xone i 8 20 10 (xone i 7 20 10 (xone i 5 20 10 (xone i 4 20 10 (xone i 1 26 20 h0))))) = h2 at hz ⊢
  have hil : i < h0.1.length := (List.getElem?_eq_some_iff.mp hi).1
  have e2 : h2 = xadd i [(4, 20, 10), (5, 20, 10), (7, 20, 10), (8, 20, 10), (9, 20, 10)] (xone i 1 26 20 h0) := hh2.symm
  have hr1 : h2.2.2.2 i 1 = some h0.1.length := by
    rw [e2, xadd_keep i _ _ 1 (by rw [xone_len]; omega) (by decide)]
    exact xu_at
  have hp1 : h2.1[h0.1.length]? = some (26, 20) := by
    rw [e2]
    exact xadd_at (by simp [xone]) i
  refine e_aload rfl rfl ?_
  refine e_ob rfl ?_
  refine e_dupr rfl ?_
  refine Eg.call [.ref h2.1.length] [.ref h2.1.length, .ref i] rfl (by decide) (by decide) rfl rfl (Nat.le_of_ble_eq_true rfl) (xrcv_ofi (Or.inr rfl) rfl) (ct_fleet (h0 := xob 2 5 h2) (i := h2.1.length) (xob_at h2)) (fun r1 h1 hq => ?_)
  obtain ⟨rfl, rfl⟩ := hq
  have hz2 : (fleet_new h2).1[i]? = some (10, 12) := fleet_old hz
  refine e_pR rfl hz2 ?_
  change Eg X xTc 1 131 64 _ [] (xpR i 10 h2.1.length (fleet_new h2)) _
  have hz3 : (xpR i 10 h2.1.length (fleet_new h2)).1[i]? = some (10, 12) := hz2
  have hp3 : (xpR i 10 h2.1.length (fleet_new h2)).1[h0.1.length]? = some (26, 20) := fleet_old hp1
  have hil2 : i < h2.1.length := (List.getElem?_eq_some_iff.mp hz).1
  have hr3 : (xpR i 10 h2.1.length (fleet_new h2)).2.2.2 i 1 = some h0.1.length := by
    show xu (xadd h2.1.length fs_fleet (xob 2 5 h2)).2.2.2 i 10 (some h2.1.length) i 1 = some h0.1.length
    rw [xu_k (by decide), (xadd_old h2.1.length fs_fleet (xob 2 5 h2) i (by show i < (h2.1 ++ [(2, 5)]).length; simp; omega)).2.2 (by omega)]
    show xz h2.2.2.2 h2.1.length none i 1 = _
    rw [xz_ne (by omega)]; exact hr1
  generalize hh3 : xpR i 10 h2.1.length (fleet_new h2) = h3 at hz3 hp3 hr3 ⊢
  have hil3 : i < h3.1.length := (List.getElem?_eq_some_iff.mp hz3).1
  refine e_aload rfl rfl ?_
  refine e_ob rfl ?_
  refine e_dupr rfl ?_
  refine e_aload rfl rfl ?_
  refine Eg.call [.ref h3.1.length, .ref j] [.ref h3.1.length, .ref i] rfl (by decide) (by decide) rfl rfl (Nat.le_of_ble_eq_true rfl) (xrcv_ofi (Or.inl rfl) rfl) (ct_mom (h0 := xob 3 12 h3) (i := h3.1.length) (j := j) (xob_at h3)) (fun r1 h1 hq => ?_)
  obtain ⟨rfl, rfl⟩ := hq
  have hz4 : (mom_new j h3).1[i]? = some (10, 12) := mom_old hz3
  refine e_pR rfl hz4 ?_
  refine e_ipush rfl ?_
  refine e_istore rfl ?_
  refine wd_loop (d := 0) (i := i) (j := j) (p := h0.1.length) 20 0 (xpR i 0 h3.1.length (mom_new j h3)) rfl hz4 ?_ (mom_old (j := j) hp3) ?_ ⟨rfl, ?_⟩
  · show xu (xu (xadd h3.1.length fs_mom (xob 3 12 h3)).2.2.2 h3.1.length 0 (some j)) i 0 (some h3.1.length) i 1 = _
    rw [xu_k (by decide), xu_i (by omega), (xadd_old h3.1.length fs_mom (xob 3 12 h3) i (by show i < (h3.1 ++ [(3, 12)]).length; simp; omega)).2.2 (by omega)]
    show xz h3.2.2.2 h3.1.length none i 1 = _
    rw [xz_ne (by omega)]; exact hr3
  · exact (List.getElem?_eq_some_iff.mp hz4).1
  · rw [← hh3, e2]; rfl
