/-! THE REFERENCE'S CONSTRUCTOR -/
def fs_mA : List (Nat × Nat × Nat) := [(2, 20, 12), (3, 20, 3), (4, 20, 3), (5, 20, 3), (6, 20, 60), (7, 20, 4), (8, 20, 4), (9, 20, 4), (10, 20, 4), (11, 20, 4), (12, 20, 4), (13, 20, 4), (14, 20, 4), (15, 20, 4), (16, 20, 4), (17, 20, 4), (18, 20, 4), (19, 20, 4), (20, 20, 8), (21, 20, 8), (22, 20, 8), (23, 20, 8), (24, 20, 10), (25, 20, 10), (26, 20, 10), (27, 20, 10), (28, 20, 10), (29, 20, 6), (30, 20, 6), (31, 20, 6), (32, 20, 7), (33, 20, 12), (34, 20, 3), (35, 20, 3), (36, 20, 3), (37, 20, 60), (38, 20, 4), (39, 20, 4), (40, 20, 4), (41, 20, 4), (42, 20, 4), (43, 20, 4), (44, 20, 4), (45, 20, 4), (46, 20, 4)]
def fs_mB : List (Nat × Nat × Nat) := [(58, 23, 400), (59, 20, 1800), (60, 20, 1800), (61, 20, 6), (62, 20, 72), (63, 20, 72), (64, 20, 72), (65, 20, 402), (66, 22, 72), (67, 21, 11), (68, 21, 300), (69, 20, 1020), (70, 20, 1), (74, 20, 372), (75, 20, 372), (76, 20, 12), (77, 20, 12), (78, 20, 12), (81, 20, 4), (82, 20, 6), (83, 20, 6), (84, 20, 7000), (85, 22, 4)]
/-- the reference's first array, with its numbers -/
def mo_sc (h : xH) : xH := (h.1 ++ [(20, 14)], xu (xu (xu (xu (xu (xu (xu (xu (xu (xu (xu (xu (xu (xu (xz h.2.1 h.1.length 0) h.1.length 0 0) h.1.length 1 0) h.1.length 2 0) h.1.length 3 0) h.1.length 4 0) h.1.length 5 0) h.1.length 6 1) h.1.length 7 0) h.1.length 8 0) h.1.length 9 0) h.1.length 10 0) h.1.length 11 0) h.1.length 12 0) h.1.length 13 0, xz h.2.2.1 h.1.length 0, xz h.2.2.2 h.1.length none)
def model_init (i : Nat) (h : xH) : xH := xadd i fs_mB (xpI i 56 11 (xadd i fs_mA (xpR i 1 h.1.length (mo_sc h))))
theorem ct_model {X : xX} {h0 : xH} {i : Nat} (hi : h0.1[i]? = some (12, 88)) : Ec X 1 181 [.ref i] h0 (fun r h => r = none ∧ h = model_init i h0) := by
  refine Ec.of (Nat.le_of_ble_eq_true rfl) ?_
  refine e_aload rfl rfl ?_
  refine e_oinit rfl (by decide) ?_
  obtain ⟨sh, I, L, R⟩ := h0
  have hi : sh[i]? = some (12, 88) := hi
  have hs : (sh ++ [(20, 14)])[sh.length]? = some (20, 14) := by simp
  have hi2 : (sh ++ [(20, 14)])[i]? = some (12, 88) := by rw [List.getElem?_append_left (List.getElem?_eq_some_iff.mp hi).1]; exact hi
  refine e_aload rfl rfl ?_
  refine e_ipush rfl ?_
  refine e_newa rfl (by decide) ?_
  rw [show (14 : Int32).toNatClampNeg = 14 from by decide +kernel]
  refine e_dupr rfl ?_
  refine e_ipush rfl ?_
  refine e_ipush rfl ?_
  refine e_iast rfl hs (by unfold vp_in; decide +kernel) ?_
  rw [show (0 : Int32).toNatClampNeg = 0 from by decide +kernel]
  refine e_dupr rfl ?_
  refine e_ipush rfl ?_
  refine e_ipush rfl ?_
  refine e_iast rfl hs (by unfold vp_in; decide +kernel) ?_
  rw [show (1 : Int32).toNatClampNeg = 1 from by decide +kernel]
  refine e_dupr rfl ?_
  refine e_ipush rfl ?_
  refine e_ipush rfl ?_
  refine e_iast rfl hs (by unfold vp_in; decide +kernel) ?_
  rw [show (2 : Int32).toNatClampNeg = 2 from by decide +kernel]
  refine e_dupr rfl ?_
  refine e_ipush rfl ?_
  refine e_ipush rfl ?_
  refine e_iast rfl hs (by unfold vp_in; decide +kernel) ?_
  rw [show (3 : Int32).toNatClampNeg = 3 from by decide +kernel]
  refine e_dupr rfl ?_
  refine e_ipush rfl ?_
  refine e_ipush rfl ?_
  refine e_iast rfl hs (by unfold vp_in; decide +kernel) ?_
  rw [show (4 : Int32).toNatClampNeg = 4 from by decide +kernel]
  refine e_dupr rfl ?_
  refine e_ipush rfl ?_
  refine e_ipush rfl ?_
  refine e_iast rfl hs (by unfold vp_in; decide +kernel) ?_
  rw [show (5 : Int32).toNatClampNeg = 5 from by decide +kernel]
  refine e_dupr rfl ?_
  refine e_ipush rfl ?_
  refine e_ipush rfl ?_
  refine e_iast rfl hs (by unfold vp_in; decide +kernel) ?_
  rw [show (6 : Int32).toNatClampNeg = 6 from by decide +kernel]
  refine e_dupr rfl ?_
  refine e_ipush rfl ?_
  refine e_ipush rfl ?_
  refine e_iast rfl hs (by unfold vp_in; decide +kernel) ?_
  rw [show (7 : Int32).toNatClampNeg = 7 from by decide +kernel]
  refine e_dupr rfl ?_
  refine e_ipush rfl ?_
  refine e_ipush rfl ?_
  refine e_iast rfl hs (by unfold vp_in; decide +kernel) ?_
  rw [show (8 : Int32).toNatClampNeg = 8 from by decide +kernel]
  refine e_dupr rfl ?_
  refine e_ipush rfl ?_
  refine e_ipush rfl ?_
  refine e_iast rfl hs (by unfold vp_in; decide +kernel) ?_
  rw [show (9 : Int32).toNatClampNeg = 9 from by decide +kernel]
  refine e_dupr rfl ?_
  refine e_ipush rfl ?_
  refine e_ipush rfl ?_
  refine e_iast rfl hs (by unfold vp_in; decide +kernel) ?_
  rw [show (10 : Int32).toNatClampNeg = 10 from by decide +kernel]
  refine e_dupr rfl ?_
  refine e_ipush rfl ?_
  refine e_ipush rfl ?_
  refine e_iast rfl hs (by unfold vp_in; decide +kernel) ?_
  rw [show (11 : Int32).toNatClampNeg = 11 from by decide +kernel]
  refine e_dupr rfl ?_
  refine e_ipush rfl ?_
  refine e_ipush rfl ?_
  refine e_iast rfl hs (by unfold vp_in; decide +kernel) ?_
  rw [show (12 : Int32).toNatClampNeg = 12 from by decide +kernel]
  refine e_dupr rfl ?_
  refine e_ipush rfl ?_
  refine e_ipush rfl ?_
  refine e_iast rfl hs (by unfold vp_in; decide +kernel) ?_
  rw [show (13 : Int32).toNatClampNeg = 13 from by decide +kernel]
  refine e_pR (h := mo_sc (sh, I, L, R)) (j := sh.length) (z := 88) rfl hi2 ?_
  have hz : (xpR i 1 sh.length (mo_sc (sh, I, L, R))).1[i]? = some (12, 88) := hi2
  generalize hh : xpR i 1 sh.length (mo_sc (sh, I, L, R)) = g at hz ⊢
  refine e_fa rfl rfl rfl rfl rfl (N := 12) (by decide +kernel) (by decide) hz ?_
  replace hz := xone_at (s := 2) (t := 20) (n := 12) (j := i) hz
  refine e_fa rfl rfl rfl rfl rfl (N := 3) (by decide +kernel) (by decide) hz ?_
  replace hz := xone_at (s := 3) (t := 20) (n := 3) (j := i) hz
  refine e_fa rfl rfl rfl rfl rfl (N := 3) (by decide +kernel) (by decide) hz ?_
  replace hz := xone_at (s := 4) (t := 20) (n := 3) (j := i) hz
  refine e_fa rfl rfl rfl rfl rfl (N := 3) (by decide +kernel) (by decide) hz ?_
  replace hz := xone_at (s := 5) (t := 20) (n := 3) (j := i) hz
  refine e_fa rfl rfl rfl rfl rfl (N := 60) (by decide +kernel) (by decide) hz ?_
  replace hz := xone_at (s := 6) (t := 20) (n := 60) (j := i) hz
  refine e_fa rfl rfl rfl rfl rfl (N := 4) (by decide +kernel) (by decide) hz ?_
  replace hz := xone_at (s := 7) (t := 20) (n := 4) (j := i) hz
  refine e_fa rfl rfl rfl rfl rfl (N := 4) (by decide +kernel) (by decide) hz ?_
  replace hz := xone_at (s := 8) (t := 20) (n := 4) (j := i) hz
  refine e_fa rfl rfl rfl rfl rfl (N := 4) (by decide +kernel) (by decide) hz ?_
  replace hz := xone_at (s := 9) (t := 20) (n := 4) (j := i) hz
  refine e_fa rfl rfl rfl rfl rfl (N := 4) (by decide +kernel) (by decide) hz ?_
  replace hz := xone_at (s := 10) (t := 20) (n := 4) (j := i) hz
  refine e_fa rfl rfl rfl rfl rfl (N := 4) (by decide +kernel) (by decide) hz ?_
  replace hz := xone_at (s := 11) (t := 20) (n := 4) (j := i) hz
  refine e_fa rfl rfl rfl rfl rfl (N := 4) (by decide +kernel) (by decide) hz ?_
  replace hz := xone_at (s := 12) (t := 20) (n := 4) (j := i) hz
  refine e_fa rfl rfl rfl rfl rfl (N := 4) (by decide +kernel) (by decide) hz ?_
  replace hz := xone_at (s := 13) (t := 20) (n := 4) (j := i) hz
  refine e_fa rfl rfl rfl rfl rfl (N := 4) (by decide +kernel) (by decide) hz ?_
  replace hz := xone_at (s := 14) (t := 20) (n := 4) (j := i) hz
  refine e_fa rfl rfl rfl rfl rfl (N := 4) (by decide +kernel) (by decide) hz ?_
  replace hz := xone_at (s := 15) (t := 20) (n := 4) (j := i) hz
  refine e_fa rfl rfl rfl rfl rfl (N := 4) (by decide +kernel) (by decide) hz ?_
  replace hz := xone_at (s := 16) (t := 20) (n := 4) (j := i) hz
  refine e_fa rfl rfl rfl rfl rfl (N := 4) (by decide +kernel) (by decide) hz ?_
  replace hz := xone_at (s := 17) (t := 20) (n := 4) (j := i) hz
  refine e_fa rfl rfl rfl rfl rfl (N := 4) (by decide +kernel) (by decide) hz ?_
  replace hz := xone_at (s := 18) (t := 20) (n := 4) (j := i) hz
  refine e_fa rfl rfl rfl rfl rfl (N := 4) (by decide +kernel) (by decide) hz ?_
  replace hz := xone_at (s := 19) (t := 20) (n := 4) (j := i) hz
  refine e_fa rfl rfl rfl rfl rfl (N := 8) (by decide +kernel) (by decide) hz ?_
  replace hz := xone_at (s := 20) (t := 20) (n := 8) (j := i) hz
  refine e_fa rfl rfl rfl rfl rfl (N := 8) (by decide +kernel) (by decide) hz ?_
  replace hz := xone_at (s := 21) (t := 20) (n := 8) (j := i) hz
  refine e_fa rfl rfl rfl rfl rfl (N := 8) (by decide +kernel) (by decide) hz ?_
  replace hz := xone_at (s := 22) (t := 20) (n := 8) (j := i) hz
  refine e_fa rfl rfl rfl rfl rfl (N := 8) (by decide +kernel) (by decide) hz ?_
  replace hz := xone_at (s := 23) (t := 20) (n := 8) (j := i) hz
  refine e_fa rfl rfl rfl rfl rfl (N := 10) (by decide +kernel) (by decide) hz ?_
  replace hz := xone_at (s := 24) (t := 20) (n := 10) (j := i) hz
  refine e_fa rfl rfl rfl rfl rfl (N := 10) (by decide +kernel) (by decide) hz ?_
  replace hz := xone_at (s := 25) (t := 20) (n := 10) (j := i) hz
  refine e_fa rfl rfl rfl rfl rfl (N := 10) (by decide +kernel) (by decide) hz ?_
  replace hz := xone_at (s := 26) (t := 20) (n := 10) (j := i) hz
  refine e_fa rfl rfl rfl rfl rfl (N := 10) (by decide +kernel) (by decide) hz ?_
  replace hz := xone_at (s := 27) (t := 20) (n := 10) (j := i) hz
  refine e_fa rfl rfl rfl rfl rfl (N := 10) (by decide +kernel) (by decide) hz ?_
  replace hz := xone_at (s := 28) (t := 20) (n := 10) (j := i) hz
  refine e_fa rfl rfl rfl rfl rfl (N := 6) (by decide +kernel) (by decide) hz ?_
  replace hz := xone_at (s := 29) (t := 20) (n := 6) (j := i) hz
  refine e_fa rfl rfl rfl rfl rfl (N := 6) (by decide +kernel) (by decide) hz ?_
  replace hz := xone_at (s := 30) (t := 20) (n := 6) (j := i) hz
  refine e_fa rfl rfl rfl rfl rfl (N := 6) (by decide +kernel) (by decide) hz ?_
  replace hz := xone_at (s := 31) (t := 20) (n := 6) (j := i) hz
  refine e_fa rfl rfl rfl rfl rfl (N := 7) (by decide +kernel) (by decide) hz ?_
  replace hz := xone_at (s := 32) (t := 20) (n := 7) (j := i) hz
  refine e_fa rfl rfl rfl rfl rfl (N := 12) (by decide +kernel) (by decide) hz ?_
  replace hz := xone_at (s := 33) (t := 20) (n := 12) (j := i) hz
  refine e_fa rfl rfl rfl rfl rfl (N := 3) (by decide +kernel) (by decide) hz ?_
  replace hz := xone_at (s := 34) (t := 20) (n := 3) (j := i) hz
  refine e_fa rfl rfl rfl rfl rfl (N := 3) (by decide +kernel) (by decide) hz ?_
  replace hz := xone_at (s := 35) (t := 20) (n := 3) (j := i) hz
  refine e_fa rfl rfl rfl rfl rfl (N := 3) (by decide +kernel) (by decide) hz ?_
  replace hz := xone_at (s := 36) (t := 20) (n := 3) (j := i) hz
  refine e_fa rfl rfl rfl rfl rfl (N := 60) (by decide +kernel) (by decide) hz ?_
  replace hz := xone_at (s := 37) (t := 20) (n := 60) (j := i) hz
  refine e_fa rfl rfl rfl rfl rfl (N := 4) (by decide +kernel) (by decide) hz ?_
  replace hz := xone_at (s := 38) (t := 20) (n := 4) (j := i) hz
  refine e_fa rfl rfl rfl rfl rfl (N := 4) (by decide +kernel) (by decide) hz ?_
  replace hz := xone_at (s := 39) (t := 20) (n := 4) (j := i) hz
  refine e_fa rfl rfl rfl rfl rfl (N := 4) (by decide +kernel) (by decide) hz ?_
  replace hz := xone_at (s := 40) (t := 20) (n := 4) (j := i) hz
  refine e_fa rfl rfl rfl rfl rfl (N := 4) (by decide +kernel) (by decide) hz ?_
  replace hz := xone_at (s := 41) (t := 20) (n := 4) (j := i) hz
  refine e_fa rfl rfl rfl rfl rfl (N := 4) (by decide +kernel) (by decide) hz ?_
  replace hz := xone_at (s := 42) (t := 20) (n := 4) (j := i) hz
  refine e_fa rfl rfl rfl rfl rfl (N := 4) (by decide +kernel) (by decide) hz ?_
  replace hz := xone_at (s := 43) (t := 20) (n := 4) (j := i) hz
  refine e_fa rfl rfl rfl rfl rfl (N := 4) (by decide +kernel) (by decide) hz ?_
  replace hz := xone_at (s := 44) (t := 20) (n := 4) (j := i) hz
  refine e_fa rfl rfl rfl rfl rfl (N := 4) (by decide +kernel) (by decide) hz ?_
  replace hz := xone_at (s := 45) (t := 20) (n := 4) (j := i) hz
  refine e_fa rfl rfl rfl rfl rfl (N := 4) (by decide +kernel) (by decide) hz ?_
  replace hz := xone_at (s := 46) (t := 20) (n := 4) (j := i) hz
  refine e_aload rfl rfl ?_
  refine e_ipush rfl ?_
  refine e_pI (z := 88) rfl hz ?_
  change Eg X xTc 0 181 414 _ [] (xpI i 56 11 (xadd i fs_mA g)) _
  replace hz : (xpI i 56 11 (xadd i fs_mA g)).1[i]? = some (12, 88) := hz
  generalize hh2 : xpI i 56 11 (xadd i fs_mA g) = g2 at hz ⊢
  refine e_fa rfl rfl rfl rfl rfl (N := 400) (by decide +kernel) (by decide) hz ?_
  replace hz := xone_at (s := 58) (t := 23) (n := 400) (j := i) hz
  refine e_fa rfl rfl rfl rfl rfl (N := 1800) (by decide +kernel) (by decide) hz ?_
  replace hz := xone_at (s := 59) (t := 20) (n := 1800) (j := i) hz
  refine e_fa rfl rfl rfl rfl rfl (N := 1800) (by decide +kernel) (by decide) hz ?_
  replace hz := xone_at (s := 60) (t := 20) (n := 1800) (j := i) hz
  refine e_fa rfl rfl rfl rfl rfl (N := 6) (by decide +kernel) (by decide) hz ?_
  replace hz := xone_at (s := 61) (t := 20) (n := 6) (j := i) hz
  refine e_fa rfl rfl rfl rfl rfl (N := 72) (by decide +kernel) (by decide) hz ?_
  replace hz := xone_at (s := 62) (t := 20) (n := 72) (j := i) hz
  refine e_fa rfl rfl rfl rfl rfl (N := 72) (by decide +kernel) (by decide) hz ?_
  replace hz := xone_at (s := 63) (t := 20) (n := 72) (j := i) hz
  refine e_fa rfl rfl rfl rfl rfl (N := 72) (by decide +kernel) (by decide) hz ?_
  replace hz := xone_at (s := 64) (t := 20) (n := 72) (j := i) hz
  refine e_fa rfl rfl rfl rfl rfl (N := 402) (by decide +kernel) (by decide) hz ?_
  replace hz := xone_at (s := 65) (t := 20) (n := 402) (j := i) hz
  refine e_fa rfl rfl rfl rfl rfl (N := 72) (by decide +kernel) (by decide) hz ?_
  replace hz := xone_at (s := 66) (t := 22) (n := 72) (j := i) hz
  refine e_fa rfl rfl rfl rfl rfl (N := 11) (by decide +kernel) (by decide) hz ?_
  replace hz := xone_at (s := 67) (t := 21) (n := 11) (j := i) hz
  refine e_fa rfl rfl rfl rfl rfl (N := 300) (by decide +kernel) (by decide) hz ?_
  replace hz := xone_at (s := 68) (t := 21) (n := 300) (j := i) hz
  refine e_fa rfl rfl rfl rfl rfl (N := 1020) (by decide +kernel) (by decide) hz ?_
  replace hz := xone_at (s := 69) (t := 20) (n := 1020) (j := i) hz
  refine e_fa rfl rfl rfl rfl rfl (N := 1) (by decide +kernel) (by decide) hz ?_
  replace hz := xone_at (s := 70) (t := 20) (n := 1) (j := i) hz
  refine e_fa rfl rfl rfl rfl rfl (N := 372) (by decide +kernel) (by decide) hz ?_
  replace hz := xone_at (s := 74) (t := 20) (n := 372) (j := i) hz
  refine e_fa rfl rfl rfl rfl rfl (N := 372) (by decide +kernel) (by decide) hz ?_
  replace hz := xone_at (s := 75) (t := 20) (n := 372) (j := i) hz
  refine e_fa rfl rfl rfl rfl rfl (N := 12) (by decide +kernel) (by decide) hz ?_
  replace hz := xone_at (s := 76) (t := 20) (n := 12) (j := i) hz
  refine e_fa rfl rfl rfl rfl rfl (N := 12) (by decide +kernel) (by decide) hz ?_
  replace hz := xone_at (s := 77) (t := 20) (n := 12) (j := i) hz
  refine e_fa rfl rfl rfl rfl rfl (N := 12) (by decide +kernel) (by decide) hz ?_
  replace hz := xone_at (s := 78) (t := 20) (n := 12) (j := i) hz
  refine e_fa rfl rfl rfl rfl rfl (N := 4) (by decide +kernel) (by decide) hz ?_
  replace hz := xone_at (s := 81) (t := 20) (n := 4) (j := i) hz
  refine e_fa rfl rfl rfl rfl rfl (N := 6) (by decide +kernel) (by decide) hz ?_
  replace hz := xone_at (s := 82) (t := 20) (n := 6) (j := i) hz
  refine e_fa rfl rfl rfl rfl rfl (N := 6) (by decide +kernel) (by decide) hz ?_
  replace hz := xone_at (s := 83) (t := 20) (n := 6) (j := i) hz
  refine e_fa rfl rfl rfl rfl rfl (N := 7000) (by decide +kernel) (by decide) hz ?_
  replace hz := xone_at (s := 84) (t := 20) (n := 7000) (j := i) hz
  refine e_fa rfl rfl rfl rfl rfl (N := 4) (by decide +kernel) (by decide) hz ?_
  replace hz := xone_at (s := 85) (t := 22) (n := 4) (j := i) hz
  exact Eg.ret rfl (by decide) rfl ⟨rfl, by rw [show model_init i (sh, I, L, R) = xadd i fs_mB (xpI i 56 11 (xadd i fs_mA (xpR i 1 sh.length (mo_sc (sh, I, L, R))))) from rfl, hh, hh2]; rfl⟩
/-- the heap behind both constructors -/
def cr_m : xH := model_init 290 (xob 12 88 cr_h)
theorem cr_m_len : cr_m.1.length = 360 ∧ xsum cr_m.1 = 21269 := by decide +kernel
