/-! WHAT WAS, on the other side -/
section PA
variable {X : xX} {h : xH} {sh : List (Nat × Nat)} {I : Nat → Nat → Int32} {L : Nat → Nat → Int64} {R : Nat → Nat → Option Nat} {v : Nat → Nat → Int32} {w s m : Nat}
/-- the slots of a moment in the row of what was: field, place -/
def sf (j : Nat) : Nat := if j < 3 then 1 else if j < 35 then 20 + (j - 3) % 4 else if (j - 35) % 4 = 0 then 13 else if (j - 35) % 4 = 1 then 14 else if (j - 35) % 4 = 2 then 17 else 18
def si (j : Nat) : Nat := if j < 3 then 7 + j else if j < 35 then (j - 3) / 4 else (j - 35) / 4
def slc (v : Nat → Nat → Int32) (j : Nat) : Int32 := v (sf j) (si j)
def lodV (v : Nat → Nat → Int32) (P : Nat → Int32) (k : Nat) : Nat → Nat → Nat → Int32 := itN (fun j V => xu V (sf j) (si j) (P (51 * k + j))) v
/-- the view of the k-th moment of what was -/
def pvw (P : Nat → Int32) (v : Nat → Nat → Int32) (k : Nat) : Nat → Nat → Int32 := lodV v P k 51
def stP (v : Nat → Nat → Int32) (P : Nat → Int32) (k n x : Nat) : Int32 := if 51 * k ≤ x ∧ x < 51 * k + n then slc v (x - 51 * k) else P x
theorem sf_d {j r : Nat} (hj : j < 8) (hr : r < 4) : sf (3 + 4 * j + r) = 20 + r ∧ si (3 + 4 * j + r) = j := by
  unfold sf si
  rw [if_neg (by omega), if_pos (by omega), if_neg (by omega), if_pos (by omega)]
  omega
theorem si_s {j r : Nat} (hj : j < 4) (hr : r < 4) : si (35 + 4 * j + r) = j := by
  unfold si
  rw [if_neg (by omega), if_neg (by omega)]
  omega
theorem sf_s {j : Nat} (hj : j < 4) : sf (35 + 4 * j + 0) = 13 ∧ sf (35 + 4 * j + 1) = 14 ∧ sf (35 + 4 * j + 2) = 17 ∧ sf (35 + 4 * j + 3) = 18 := by
  unfold sf
  refine ⟨?_, ?_, ?_, ?_⟩
  · rw [if_neg (by omega), if_neg (by omega), if_pos (by omega)]
  · rw [if_neg (by omega), if_neg (by omega), if_neg (by omega), if_pos (by omega)]
  · rw [if_neg (by omega), if_neg (by omega), if_neg (by omega), if_neg (by omega), if_pos (by omega)]
  · rw [if_neg (by omega), if_neg (by omega), if_neg (by omega), if_neg (by omega), if_neg (by omega)]
/-- all but the row of what was and its mark -/
def MSf (I J : Nat → Nat → Int32) : Prop := (∀ i x, i < 290 ∨ 321 < i ∨ i = 309 → i ≠ 348 → J i x = I i x) ∧ ∀ x, x ≠ 72 → x ≠ 73 → J 290 x = I 290 x
def MS (I J : Nat → Nat → Int32) (V : Nat → Nat → Int32) (P : Nat → Int32) (b : Nat) (tb : Int32) : Prop := mV J V ∧ (∀ x, J 348 x = P x) ∧ J 290 72 = nI b ∧ J 290 73 = tb ∧ MSf I J
theorem mV.up {J V : Nat → Nat → Int32} {f i : Nat} {x : Int32} (h : mV I V) (hf : 1 ≤ f ∧ f < 32 ∧ f ≠ 19) (gg : J (290 + f) i = x) (ff : ∀ p t, p ≠ 290 + f ∨ t ≠ i → J p t = I p t) : mV J (xu V f i x) := by
  intro f' k hf'
  by_cases e : f' = f ∧ k = i
  · obtain ⟨rfl, rfl⟩ := e
    rw [gg, xu_at]
  · rw [ff _ _ (by omega), xu_o (by omega)]; exact h f' k hf'
theorem mV.fr {J V : Nat → Nat → Int32} (h : mV I V) (ff : ∀ i x, 291 ≤ i → i ≤ 321 → i ≠ 309 → J i x = I i x) : mV J V := by
  intro f k hf
  rw [ff _ _ (by omega) (by omega) (by omega)]; exact h f k hf
theorem xu_same {V : Nat → Nat → Int32} {f i : Nat} : xu V f i (V f i) = V := by
  funext a b
  by_cases e : a = f ∧ b = i
  · obtain ⟨rfl, rfl⟩ := e; exact xu_at
  · have h : a ≠ f ∨ b ≠ i := by omega
    exact xu_o h
theorem MS.st {J J1 J2 J3 : Nat → Nat → Int32} {P : Nat → Int32} {k n f i : Nat} {tb x : Int32} (h : MS I J v (stP v P k n) (51 * k + n) tb) (g1 : J1 348 (51 * k + n) = x) (f1 : ∀ p t, p ≠ 348 ∨ t ≠ 51 * k + n → J1 p t = J p t) (g2 : J2 290 72 = nI (51 * k + n + 1)) (f2 : ∀ p t, p ≠ 290 ∨ t ≠ 72 → J2 p t = J1 p t) (hf : 1 ≤ f ∧ f < 32 ∧ f ≠ 19) (g3 : J3 (290 + f) i = x) (f3 : ∀ p t, p ≠ 290 + f ∨ t ≠ i → J3 p t = J2 p t) (hx : x = v f i) (e1 : sf n = f) (e2 : si n = i) : MS I J3 v (stP v P k (n + 1)) (51 * k + (n + 1)) tb := by
  obtain ⟨a1, a2, a3, a4, a5, a6⟩ := h
  refine ⟨?_, fun y => ?_, ?_, ?_, fun p y hp hp2 => ?_, fun y h1 h2 => ?_⟩
  · have hv2 : mV J2 v := a1.fr (fun p y q1 q2 q3 => (f2 p y (by omega)).trans (f1 p y (by omega)))
    have := hv2.up hf g3 f3
    rw [hx, xu_same] at this
    exact this
  · rw [f3 _ _ (by omega), f2 _ _ (by omega)]
    by_cases e : y = 51 * k + n
    · subst e
      rw [g1, hx]
      unfold stP
      rw [if_pos (by omega), show 51 * k + n - 51 * k = n by omega]
      unfold slc
      rw [e1, e2]
    · rw [f1 _ _ (by omega), a2]
      unfold stP
      by_cases hc : 51 * k ≤ y ∧ y < 51 * k + n
      · rw [if_pos hc, if_pos (by omega)]
      · rw [if_neg hc, if_neg (by omega)]
  · rw [f3 _ _ (by omega)]; exact g2
  · rw [f3 _ _ (by omega), f2 _ _ (by omega), f1 _ _ (by omega)]; exact a4
  · rw [f3 _ _ (by omega), f2 _ _ (by omega), f1 _ _ (by omega)]; exact a5 p y hp hp2
  · rw [f3 _ _ (by omega), f2 _ _ (by omega), f1 _ _ (by omega)]; exact a6 y h1 h2
theorem MS.ld {J J2 J3 : Nat → Nat → Int32} {P : Nat → Int32} {k n f i : Nat} {tb x : Int32} (h : MS I J (lodV v P k n) P (51 * k + n) tb) (g2 : J2 290 72 = nI (51 * k + n + 1)) (f2 : ∀ p t, p ≠ 290 ∨ t ≠ 72 → J2 p t = J p t) (hf : 1 ≤ f ∧ f < 32 ∧ f ≠ 19) (g3 : J3 (290 + f) i = x) (f3 : ∀ p t, p ≠ 290 + f ∨ t ≠ i → J3 p t = J2 p t) (hx : x = P (51 * k + n)) (e1 : sf n = f) (e2 : si n = i) : MS I J3 (lodV v P k (n + 1)) P (51 * k + (n + 1)) tb := by
  obtain ⟨a1, a2, a3, a4, a5, a6⟩ := h
  refine ⟨?_, fun y => ?_, ?_, ?_, fun p y hp hp2 => ?_, fun y h1 h2 => ?_⟩
  · have hv2 : mV J2 (lodV v P k n) := a1.fr (fun p y q1 q2 q3 => f2 p y (by omega))
    have := hv2.up hf g3 f3
    rw [hx, ← e1, ← e2] at this
    exact this
  · rw [f3 _ _ (by omega), f2 _ _ (by omega)]; exact a2 y
  · rw [f3 _ _ (by omega)]; exact g2
  · rw [f3 _ _ (by omega), f2 _ _ (by omega)]; exact a4
  · rw [f3 _ _ (by omega), f2 _ _ (by omega)]; exact a5 p y hp hp2
  · rw [f3 _ _ (by omega), f2 _ _ (by omega)]; exact a6 y h1 h2
theorem ms_movS (hM : MW sh R) {b : Nat} {x : Int32} (h72 : I 290 72 = nI b) (h73 : I 290 73 = 0) (hb : b < 1020) : Ec X 1 248 [.ref 290, .int x] (sh, I, L, R) (fun r h' => r = some (.int x) ∧ ∃ J1 J2 : Nat → Nat → Int32, (J1 348 b = x ∧ ∀ p t, p ≠ 348 ∨ t ≠ b → J1 p t = I p t) ∧ (J2 290 72 = nI (b + 1) ∧ ∀ p t, p ≠ 290 ∨ t ≠ 72 → J2 p t = J1 p t) ∧ h' = (sh, J2, L, R)) := by
  refine Ec.of (Nat.le_of_ble_eq_true rfl) ?_
  refine e_aload rfl rfl ?_
  refine e_getIv rfl hM.1 h73 ?_
  refine e_ifeq_t rfl rfl ?_
  refine e_aload rfl rfl ?_
  refine e_getR rfl hM.1 (show R 290 69 = some 348 from (hM.2 57 _ rfl).2) ?_
  refine e_aload rfl rfl ?_
  refine e_getIv rfl hM.1 h72 ?_
  refine e_iload rfl rfl ?_
  refine e_iasJ (t := b) (n := 1020) rfl (show sh[348]? = some (20, 1020) from (hM.2 57 _ rfl).1) rfl (by omega) (by decide) (fun J1 g1 f1 => ?_)
  refine e_aload rfl rfl ?_
  refine e_dupr rfl ?_
  refine e_getIv rfl hM.1 ((f1 290 72 (Or.inl (by omega))).trans h72) ?_
  refine e_ipush rfl ?_
  refine e_iadd rfl ?_
  rw [show (nI b) + 1 = nI (b + 1) from nI_1 b]
  refine e_putIJ rfl hM.1 (fun J2 g2 f2 => ?_)
  refine e_iload rfl rfl ?_
  exact Eg.ret rfl (by decide) rfl ⟨rfl, J1, J2, ⟨g1, f1⟩, ⟨g2, f2⟩, rfl⟩
theorem ms_movL (hM : MW sh R) {b : Nat} {x : Int32} (h72 : I 290 72 = nI b) (h73 : I 290 73 = 1) (hb : b < 1020) : Ec X 1 248 [.ref 290, .int x] (sh, I, L, R) (fun r h' => r = some (.int (I 348 b)) ∧ ∃ J2 : Nat → Nat → Int32, (J2 290 72 = nI (b + 1) ∧ ∀ p t, p ≠ 290 ∨ t ≠ 72 → J2 p t = I p t) ∧ h' = (sh, J2, L, R)) := by
  refine Ec.of (Nat.le_of_ble_eq_true rfl) ?_
  refine e_aload rfl rfl ?_
  refine e_getIv rfl hM.1 h73 ?_
  refine e_ifeq_f rfl (by decide) ?_
  refine e_aload rfl rfl ?_
  refine e_getR rfl hM.1 (show R 290 69 = some 348 from (hM.2 57 _ rfl).2) ?_
  refine e_aload rfl rfl ?_
  refine e_getIv rfl hM.1 h72 ?_
  refine e_ialn (t := b) (n := 1020) rfl (show sh[348]? = some (20, 1020) from (hM.2 57 _ rfl).1) rfl (by omega) (by decide) ?_
  refine e_istore rfl ?_
  refine e_aload rfl rfl ?_
  refine e_dupr rfl ?_
  refine e_getIv rfl hM.1 h72 ?_
  refine e_ipush rfl ?_
  refine e_iadd rfl ?_
  rw [show (nI b) + 1 = nI (b + 1) from nI_1 b]
  refine e_putIJ rfl hM.1 (fun J1 g1 f1 => ?_)
  refine e_iload rfl rfl ?_
  exact Eg.ret rfl (by decide) rfl ⟨rfl, J1, ⟨g1, f1⟩, rfl⟩
theorem ms_storeAll (hM : MW sh R) {P : Nat → Int32} {k : Nat} (hv : mV I v) (hP : ∀ x, I 348 x = P x) (hk : k < 20) : Ec X 2 249 [.ref 290, .int (nI k), .int 0] (sh, I, L, R) (fun r h' => r = none ∧ ∃ J : Nat → Nat → Int32, h' = (sh, J, L, R) ∧ MS I J v (stP v P k 51) (51 * k + 51) 0) := by
  refine Ec.of (Nat.le_of_ble_eq_true rfl) ?_
  refine e_aload rfl rfl ?_
  refine e_ipush rfl ?_
  refine e_iload rfl rfl ?_
  refine e_imul rfl ?_
  rw [show 51 * (nI k) = nI (51 * k) from (show (51 : Int32) * nI k = _ from nI_times 51 k)]
  refine e_putIJ rfl hM.1 (fun J1 g1 f1 => ?_)
  refine e_aload rfl rfl ?_
  refine e_iload rfl rfl ?_
  refine e_putZJ rfl hM.1 (by decide) (fun J2 g2 f2 => ?_)
  have hMS : MS I J2 v (stP v P k 0) (51 * k + 0) 0 := ⟨hv.fr (fun i x h1 h2 h3 => (f2 i x (by omega)).trans (f1 i x (by omega))), fun x => (f2 348 x (by omega)).trans ((f1 348 x (by omega)).trans ((hP x).trans (show _ = (stP v P k 0) x from (if_neg (by omega)).symm))), (f2 290 72 (by omega)).trans g1, g2, fun i x h1 h2 => (f2 i x (by omega)).trans (f1 i x (by omega)), fun x h1 h2 => (f2 290 x (by omega)).trans (f1 290 x (by omega))⟩
  refine e_aload rfl rfl ?_
  refine e_getR rfl hM.1 (show R 290 1 = some 291 from (hM.2 0 _ rfl).2) ?_
  refine e_ipush rfl ?_
  refine e_aload rfl rfl ?_
  refine e_aload rfl rfl ?_
  refine e_getR rfl hM.1 (show R 290 1 = some 291 from (hM.2 0 _ rfl).2) ?_
  refine e_ipush rfl ?_
  refine e_ialv (t := 7) (n := 14) rfl (show sh[291]? = some (20, 14) from (hM.2 0 _ rfl).1) rfl (by decide) (by decide) (hMS.1 1 7 (by decide)) ?_
  refine Eg.c2 rfl (by decide) (by decide) rfl (Nat.le_of_ble_eq_true rfl) (xrcv_of rfl hM.1 rfl) ((ms_movS hM (b := 51 * k + 0) hMS.2.2.1 hMS.2.2.2.1 (by omega)).mono (by decide)) (fun r1 h1 hq => ?_)
  obtain ⟨rfl, J3, J4, ⟨g3, f3⟩, ⟨g4, f4⟩, rfl⟩ := hq
  refine e_iasJ (t := 7) (n := 14) rfl (show sh[291]? = some (20, 14) from (hM.2 0 _ rfl).1) rfl (by decide) (by decide) (fun J5 g5 f5 => ?_)
  replace hMS := hMS.st (f := 1) (i := 7) g3 f3 g4 f4 (by decide) g5 f5 rfl rfl rfl
  refine e_aload rfl rfl ?_
  refine e_getR rfl hM.1 (show R 290 1 = some 291 from (hM.2 0 _ rfl).2) ?_
  refine e_ipush rfl ?_
  refine e_aload rfl rfl ?_
  refine e_aload rfl rfl ?_
  refine e_getR rfl hM.1 (show R 290 1 = some 291 from (hM.2 0 _ rfl).2) ?_
  refine e_ipush rfl ?_
  refine e_ialv (t := 8) (n := 14) rfl (show sh[291]? = some (20, 14) from (hM.2 0 _ rfl).1) rfl (by decide) (by decide) (hMS.1 1 8 (by decide)) ?_
  refine Eg.c2 rfl (by decide) (by decide) rfl (Nat.le_of_ble_eq_true rfl) (xrcv_of rfl hM.1 rfl) ((ms_movS hM (b := 51 * k + 1) hMS.2.2.1 hMS.2.2.2.1 (by omega)).mono (by decide)) (fun r1 h1 hq => ?_)
  obtain ⟨rfl, J6, J7, ⟨g6, f6⟩, ⟨g7, f7⟩, rfl⟩ := hq
  refine e_iasJ (t := 8) (n := 14) rfl (show sh[291]? = some (20, 14) from (hM.2 0 _ rfl).1) rfl (by decide) (by decide) (fun J8 g8 f8 => ?_)
  replace hMS := hMS.st (f := 1) (i := 8) g6 f6 g7 f7 (by decide) g8 f8 rfl rfl rfl
  refine e_aload rfl rfl ?_
  refine e_getR rfl hM.1 (show R 290 1 = some 291 from (hM.2 0 _ rfl).2) ?_
  refine e_ipush rfl ?_
  refine e_aload rfl rfl ?_
  refine e_aload rfl rfl ?_
  refine e_getR rfl hM.1 (show R 290 1 = some 291 from (hM.2 0 _ rfl).2) ?_
  refine e_ipush rfl ?_
  refine e_ialv (t := 9) (n := 14) rfl (show sh[291]? = some (20, 14) from (hM.2 0 _ rfl).1) rfl (by decide) (by decide) (hMS.1 1 9 (by decide)) ?_
  refine Eg.c2 rfl (by decide) (by decide) rfl (Nat.le_of_ble_eq_true rfl) (xrcv_of rfl hM.1 rfl) ((ms_movS hM (b := 51 * k + 2) hMS.2.2.1 hMS.2.2.2.1 (by omega)).mono (by decide)) (fun r1 h1 hq => ?_)
  obtain ⟨rfl, J9, J10, ⟨g9, f9⟩, ⟨g10, f10⟩, rfl⟩ := hq
  refine e_iasJ (t := 9) (n := 14) rfl (show sh[291]? = some (20, 14) from (hM.2 0 _ rfl).1) rfl (by decide) (by decide) (fun J11 g11 f11 => ?_)
  replace hMS := hMS.st (f := 1) (i := 9) g9 f9 g10 f10 (by decide) g11 f11 rfl rfl rfl
  refine e_ipush rfl ?_
  refine e_istore rfl ?_
  refine Eg.pk [0, 1, 2, 3] [3, 0, 1, 2] rfl (by decide) ?_
  refine up_ind (p := fun j => ∀ J : Nat → Nat → Int32, MS I J v (stP v P k (3 + 4 * j)) (51 * k + (3 + 4 * j)) 0 → Eg X xTc 1 249 69 [(0, .ref 290), (1, .int (nI k)), (2, .int 0), (3, .int (nI j))] [] (sh, J, L, R) (fun r h' => r = none ∧ ∃ J : Nat → Nat → Int32, h' = (sh, J, L, R) ∧ MS I J v (stP v P k 51) (51 * k + 51) 0)) (n := 8) (j := 0) (fun j hj ih => ?_) ?_ (Nat.zero_le _) J11 hMS
  · clear hMS
    intro J hMS
    refine e_iload rfl rfl ?_
    refine e_ipush rfl ?_
    refine e_cge_f rfl (nI_ge (b := 8) hj (by decide)) ?_
    refine e_aload rfl rfl ?_
    refine e_getR rfl hM.1 (show R 290 20 = some 310 from (hM.2 19 _ rfl).2) ?_
    refine e_iload rfl rfl ?_
    refine e_aload rfl rfl ?_
    refine e_aload rfl rfl ?_
    refine e_getR rfl hM.1 (show R 290 20 = some 310 from (hM.2 19 _ rfl).2) ?_
    refine e_iload rfl rfl ?_
    refine e_ialv (t := j) (n := 8) rfl (show sh[310]? = some (20, 8) from (hM.2 19 _ rfl).1) rfl (by omega) (by decide) (hMS.1 20 j (by decide)) ?_
    refine Eg.c2 rfl (by decide) (by decide) rfl (Nat.le_of_ble_eq_true rfl) (xrcv_of rfl hM.1 rfl) ((ms_movS hM (b := 51 * k + (3 + 4 * j + 0)) hMS.2.2.1 hMS.2.2.2.1 (by omega)).mono (by decide)) (fun r1 h1 hq => ?_)
    obtain ⟨rfl, J12, J13, ⟨g12, f12⟩, ⟨g13, f13⟩, rfl⟩ := hq
    refine e_iasJ (t := j) (n := 8) rfl (show sh[310]? = some (20, 8) from (hM.2 19 _ rfl).1) rfl (by omega) (by decide) (fun J14 g14 f14 => ?_)
    replace hMS := hMS.st (f := 20) (i := j) g12 f12 g13 f13 (by decide) g14 f14 rfl (sf_d (r := 0) hj (by decide)).1 (sf_d (r := 0) hj (by decide)).2
    refine e_aload rfl rfl ?_
    refine e_getR rfl hM.1 (show R 290 21 = some 311 from (hM.2 20 _ rfl).2) ?_
    refine e_iload rfl rfl ?_
    refine e_aload rfl rfl ?_
    refine e_aload rfl rfl ?_
    refine e_getR rfl hM.1 (show R 290 21 = some 311 from (hM.2 20 _ rfl).2) ?_
    refine e_iload rfl rfl ?_
    refine e_ialv (t := j) (n := 8) rfl (show sh[311]? = some (20, 8) from (hM.2 20 _ rfl).1) rfl (by omega) (by decide) (hMS.1 21 j (by decide)) ?_
    refine Eg.c2 rfl (by decide) (by decide) rfl (Nat.le_of_ble_eq_true rfl) (xrcv_of rfl hM.1 rfl) ((ms_movS hM (b := 51 * k + (3 + 4 * j + 1)) hMS.2.2.1 hMS.2.2.2.1 (by omega)).mono (by decide)) (fun r1 h1 hq => ?_)
    obtain ⟨rfl, J15, J16, ⟨g15, f15⟩, ⟨g16, f16⟩, rfl⟩ := hq
    refine e_iasJ (t := j) (n := 8) rfl (show sh[311]? = some (20, 8) from (hM.2 20 _ rfl).1) rfl (by omega) (by decide) (fun J17 g17 f17 => ?_)
    replace hMS := hMS.st (f := 21) (i := j) g15 f15 g16 f16 (by decide) g17 f17 rfl (sf_d (r := 1) hj (by decide)).1 (sf_d (r := 1) hj (by decide)).2
    refine e_aload rfl rfl ?_
    refine e_getR rfl hM.1 (show R 290 22 = some 312 from (hM.2 21 _ rfl).2) ?_
    refine e_iload rfl rfl ?_
    refine e_aload rfl rfl ?_
    refine e_aload rfl rfl ?_
    refine e_getR rfl hM.1 (show R 290 22 = some 312 from (hM.2 21 _ rfl).2) ?_
    refine e_iload rfl rfl ?_
    refine e_ialv (t := j) (n := 8) rfl (show sh[312]? = some (20, 8) from (hM.2 21 _ rfl).1) rfl (by omega) (by decide) (hMS.1 22 j (by decide)) ?_
    refine Eg.c2 rfl (by decide) (by decide) rfl (Nat.le_of_ble_eq_true rfl) (xrcv_of rfl hM.1 rfl) ((ms_movS hM (b := 51 * k + (3 + 4 * j + 2)) hMS.2.2.1 hMS.2.2.2.1 (by omega)).mono (by decide)) (fun r1 h1 hq => ?_)
    obtain ⟨rfl, J18, J19, ⟨g18, f18⟩, ⟨g19, f19⟩, rfl⟩ := hq
    refine e_iasJ (t := j) (n := 8) rfl (show sh[312]? = some (20, 8) from (hM.2 21 _ rfl).1) rfl (by omega) (by decide) (fun J20 g20 f20 => ?_)
    replace hMS := hMS.st (f := 22) (i := j) g18 f18 g19 f19 (by decide) g20 f20 rfl (sf_d (r := 2) hj (by decide)).1 (sf_d (r := 2) hj (by decide)).2
    refine e_aload rfl rfl ?_
    refine e_getR rfl hM.1 (show R 290 23 = some 313 from (hM.2 22 _ rfl).2) ?_
    refine e_iload rfl rfl ?_
    refine e_aload rfl rfl ?_
    refine e_aload rfl rfl ?_
    refine e_getR rfl hM.1 (show R 290 23 = some 313 from (hM.2 22 _ rfl).2) ?_
    refine e_iload rfl rfl ?_
    refine e_ialv (t := j) (n := 8) rfl (show sh[313]? = some (20, 8) from (hM.2 22 _ rfl).1) rfl (by omega) (by decide) (hMS.1 23 j (by decide)) ?_
    refine Eg.c2 rfl (by decide) (by decide) rfl (Nat.le_of_ble_eq_true rfl) (xrcv_of rfl hM.1 rfl) ((ms_movS hM (b := 51 * k + (3 + 4 * j + 3)) hMS.2.2.1 hMS.2.2.2.1 (by omega)).mono (by decide)) (fun r1 h1 hq => ?_)
    obtain ⟨rfl, J21, J22, ⟨g21, f21⟩, ⟨g22, f22⟩, rfl⟩ := hq
    refine e_iasJ (t := j) (n := 8) rfl (show sh[313]? = some (20, 8) from (hM.2 22 _ rfl).1) rfl (by omega) (by decide) (fun J23 g23 f23 => ?_)
    replace hMS := hMS.st (f := 23) (i := j) g21 f21 g22 f22 (by decide) g23 f23 rfl (sf_d (r := 3) hj (by decide)).1 (sf_d (r := 3) hj (by decide)).2
    refine e_iinc rfl rfl ?_
    refine e_goto rfl ?_
    refine Eg.pk [0, 1, 2, 3] [3, 0, 1, 2] rfl (by decide) ?_
    rw [nI_1]
    exact ih J23 hMS
  · clear hMS
    intro J hMS
    refine e_iload rfl rfl ?_
    refine e_ipush rfl ?_
    refine e_cge_t rfl (by decide) ?_
    refine e_ipush rfl ?_
    refine e_istore rfl ?_
    refine Eg.pk [0, 1, 2, 3] [3, 0, 1, 2] rfl (by decide) ?_
    refine up_ind (p := fun j => ∀ J : Nat → Nat → Int32, MS I J v (stP v P k (35 + 4 * j)) (51 * k + (35 + 4 * j)) 0 → Eg X xTc 1 249 147 [(0, .ref 290), (1, .int (nI k)), (2, .int 0), (3, .int (nI j))] [] (sh, J, L, R) (fun r h' => r = none ∧ ∃ J : Nat → Nat → Int32, h' = (sh, J, L, R) ∧ MS I J v (stP v P k 51) (51 * k + 51) 0)) (n := 4) (j := 0) (fun j hj ih => ?_) ?_ (Nat.zero_le _) J hMS
    · clear hMS
      intro J hMS
      refine e_iload rfl rfl ?_
      refine e_ipush rfl ?_
      refine e_cge_f rfl (nI_ge (b := 4) hj (by decide)) ?_
      refine e_aload rfl rfl ?_
      refine e_getR rfl hM.1 (show R 290 13 = some 303 from (hM.2 12 _ rfl).2) ?_
      refine e_iload rfl rfl ?_
      refine e_aload rfl rfl ?_
      refine e_aload rfl rfl ?_
      refine e_getR rfl hM.1 (show R 290 13 = some 303 from (hM.2 12 _ rfl).2) ?_
      refine e_iload rfl rfl ?_
      refine e_ialv (t := j) (n := 4) rfl (show sh[303]? = some (20, 4) from (hM.2 12 _ rfl).1) rfl (by omega) (by decide) (hMS.1 13 j (by decide)) ?_
      refine Eg.c2 rfl (by decide) (by decide) rfl (Nat.le_of_ble_eq_true rfl) (xrcv_of rfl hM.1 rfl) ((ms_movS hM (b := 51 * k + (35 + 4 * j + 0)) hMS.2.2.1 hMS.2.2.2.1 (by omega)).mono (by decide)) (fun r1 h1 hq => ?_)
      obtain ⟨rfl, J24, J25, ⟨g24, f24⟩, ⟨g25, f25⟩, rfl⟩ := hq
      refine e_iasJ (t := j) (n := 4) rfl (show sh[303]? = some (20, 4) from (hM.2 12 _ rfl).1) rfl (by omega) (by decide) (fun J26 g26 f26 => ?_)
      replace hMS := hMS.st (f := 13) (i := j) g24 f24 g25 f25 (by decide) g26 f26 rfl (sf_s hj).1 (si_s (r := 0) hj (by decide))
      refine e_aload rfl rfl ?_
      refine e_getR rfl hM.1 (show R 290 14 = some 304 from (hM.2 13 _ rfl).2) ?_
      refine e_iload rfl rfl ?_
      refine e_aload rfl rfl ?_
      refine e_aload rfl rfl ?_
      refine e_getR rfl hM.1 (show R 290 14 = some 304 from (hM.2 13 _ rfl).2) ?_
      refine e_iload rfl rfl ?_
      refine e_ialv (t := j) (n := 4) rfl (show sh[304]? = some (20, 4) from (hM.2 13 _ rfl).1) rfl (by omega) (by decide) (hMS.1 14 j (by decide)) ?_
      refine Eg.c2 rfl (by decide) (by decide) rfl (Nat.le_of_ble_eq_true rfl) (xrcv_of rfl hM.1 rfl) ((ms_movS hM (b := 51 * k + (35 + 4 * j + 1)) hMS.2.2.1 hMS.2.2.2.1 (by omega)).mono (by decide)) (fun r1 h1 hq => ?_)
      obtain ⟨rfl, J27, J28, ⟨g27, f27⟩, ⟨g28, f28⟩, rfl⟩ := hq
      refine e_iasJ (t := j) (n := 4) rfl (show sh[304]? = some (20, 4) from (hM.2 13 _ rfl).1) rfl (by omega) (by decide) (fun J29 g29 f29 => ?_)
      replace hMS := hMS.st (f := 14) (i := j) g27 f27 g28 f28 (by decide) g29 f29 rfl (sf_s hj).2.1 (si_s (r := 1) hj (by decide))
      refine e_aload rfl rfl ?_
      refine e_getR rfl hM.1 (show R 290 17 = some 307 from (hM.2 16 _ rfl).2) ?_
      refine e_iload rfl rfl ?_
      refine e_aload rfl rfl ?_
      refine e_aload rfl rfl ?_
      refine e_getR rfl hM.1 (show R 290 17 = some 307 from (hM.2 16 _ rfl).2) ?_
      refine e_iload rfl rfl ?_
      refine e_ialv (t := j) (n := 4) rfl (show sh[307]? = some (20, 4) from (hM.2 16 _ rfl).1) rfl (by omega) (by decide) (hMS.1 17 j (by decide)) ?_
      refine Eg.c2 rfl (by decide) (by decide) rfl (Nat.le_of_ble_eq_true rfl) (xrcv_of rfl hM.1 rfl) ((ms_movS hM (b := 51 * k + (35 + 4 * j + 2)) hMS.2.2.1 hMS.2.2.2.1 (by omega)).mono (by decide)) (fun r1 h1 hq => ?_)
      obtain ⟨rfl, J30, J31, ⟨g30, f30⟩, ⟨g31, f31⟩, rfl⟩ := hq
      refine e_iasJ (t := j) (n := 4) rfl (show sh[307]? = some (20, 4) from (hM.2 16 _ rfl).1) rfl (by omega) (by decide) (fun J32 g32 f32 => ?_)
      replace hMS := hMS.st (f := 17) (i := j) g30 f30 g31 f31 (by decide) g32 f32 rfl (sf_s hj).2.2.1 (si_s (r := 2) hj (by decide))
      refine e_aload rfl rfl ?_
      refine e_getR rfl hM.1 (show R 290 18 = some 308 from (hM.2 17 _ rfl).2) ?_
      refine e_iload rfl rfl ?_
      refine e_aload rfl rfl ?_
      refine e_aload rfl rfl ?_
      refine e_getR rfl hM.1 (show R 290 18 = some 308 from (hM.2 17 _ rfl).2) ?_
      refine e_iload rfl rfl ?_
      refine e_ialv (t := j) (n := 4) rfl (show sh[308]? = some (20, 4) from (hM.2 17 _ rfl).1) rfl (by omega) (by decide) (hMS.1 18 j (by decide)) ?_
      refine Eg.c2 rfl (by decide) (by decide) rfl (Nat.le_of_ble_eq_true rfl) (xrcv_of rfl hM.1 rfl) ((ms_movS hM (b := 51 * k + (35 + 4 * j + 3)) hMS.2.2.1 hMS.2.2.2.1 (by omega)).mono (by decide)) (fun r1 h1 hq => ?_)
      obtain ⟨rfl, J33, J34, ⟨g33, f33⟩, ⟨g34, f34⟩, rfl⟩ := hq
      refine e_iasJ (t := j) (n := 4) rfl (show sh[308]? = some (20, 4) from (hM.2 17 _ rfl).1) rfl (by omega) (by decide) (fun J35 g35 f35 => ?_)
      replace hMS := hMS.st (f := 18) (i := j) g33 f33 g34 f34 (by decide) g35 f35 rfl (sf_s hj).2.2.2 (si_s (r := 3) hj (by decide))
      refine e_iinc rfl rfl ?_
      refine e_goto rfl ?_
      refine Eg.pk [0, 1, 2, 3] [3, 0, 1, 2] rfl (by decide) ?_
      rw [nI_1]
      exact ih J35 hMS
    · clear hMS
      intro J hMS
      refine e_iload rfl rfl ?_
      refine e_ipush rfl ?_
      refine e_cge_t rfl (by decide) ?_
      exact Eg.ret rfl (by decide) rfl ⟨rfl, J, rfl, hMS⟩
theorem ms_loadAll (hM : MW sh R) {P : Nat → Int32} {k : Nat} (hv : mV I v) (hP : ∀ x, I 348 x = P x) (hk : k < 20) : Ec X 2 249 [.ref 290, .int (nI k), .int 1] (sh, I, L, R) (fun r h' => r = none ∧ ∃ J : Nat → Nat → Int32, h' = (sh, J, L, R) ∧ MS I J (lodV v P k 51) P (51 * k + 51) 1) := by
  refine Ec.of (Nat.le_of_ble_eq_true rfl) ?_
  refine e_aload rfl rfl ?_
  refine e_ipush rfl ?_
  refine e_iload rfl rfl ?_
  refine e_imul rfl ?_
  rw [show 51 * (nI k) = nI (51 * k) from (show (51 : Int32) * nI k = _ from nI_times 51 k)]
  refine e_putIJ rfl hM.1 (fun J1 g1 f1 => ?_)
  refine e_aload rfl rfl ?_
  refine e_iload rfl rfl ?_
  refine e_putZJ rfl hM.1 (by decide) (fun J2 g2 f2 => ?_)
  have hMS : MS I J2 (lodV v P k 0) P (51 * k + 0) 1 := ⟨hv.fr (fun i x h1 h2 h3 => (f2 i x (by omega)).trans (f1 i x (by omega))), fun x => (f2 348 x (by omega)).trans ((f1 348 x (by omega)).trans ((hP x).trans (show _ = P x from rfl))), (f2 290 72 (by omega)).trans g1, g2, fun i x h1 h2 => (f2 i x (by omega)).trans (f1 i x (by omega)), fun x h1 h2 => (f2 290 x (by omega)).trans (f1 290 x (by omega))⟩
  refine e_aload rfl rfl ?_
  refine e_getR rfl hM.1 (show R 290 1 = some 291 from (hM.2 0 _ rfl).2) ?_
  refine e_ipush rfl ?_
  refine e_aload rfl rfl ?_
  refine e_aload rfl rfl ?_
  refine e_getR rfl hM.1 (show R 290 1 = some 291 from (hM.2 0 _ rfl).2) ?_
  refine e_ipush rfl ?_
  refine e_ialv (t := 7) (n := 14) rfl (show sh[291]? = some (20, 14) from (hM.2 0 _ rfl).1) rfl (by decide) (by decide) (hMS.1 1 7 (by decide)) ?_
  refine Eg.c2 rfl (by decide) (by decide) rfl (Nat.le_of_ble_eq_true rfl) (xrcv_of rfl hM.1 rfl) ((ms_movL hM (b := 51 * k + 0) hMS.2.2.1 hMS.2.2.2.1 (by omega)).mono (by decide)) (fun r1 h1 hq => ?_)
  obtain ⟨rfl, J3, ⟨g3, f3⟩, rfl⟩ := hq
  rw [show J2 348 (51 * k + 0) = P (51 * k + 0) from hMS.2.1 _]
  refine e_iasJ (t := 7) (n := 14) rfl (show sh[291]? = some (20, 14) from (hM.2 0 _ rfl).1) rfl (by decide) (by decide) (fun J4 g4 f4 => ?_)
  replace hMS := hMS.ld (f := 1) (i := 7) g3 f3 (by decide) g4 f4 rfl rfl rfl
  refine e_aload rfl rfl ?_
  refine e_getR rfl hM.1 (show R 290 1 = some 291 from (hM.2 0 _ rfl).2) ?_
  refine e_ipush rfl ?_
  refine e_aload rfl rfl ?_
  refine e_aload rfl rfl ?_
  refine e_getR rfl hM.1 (show R 290 1 = some 291 from (hM.2 0 _ rfl).2) ?_
  refine e_ipush rfl ?_
  refine e_ialv (t := 8) (n := 14) rfl (show sh[291]? = some (20, 14) from (hM.2 0 _ rfl).1) rfl (by decide) (by decide) (hMS.1 1 8 (by decide)) ?_
  refine Eg.c2 rfl (by decide) (by decide) rfl (Nat.le_of_ble_eq_true rfl) (xrcv_of rfl hM.1 rfl) ((ms_movL hM (b := 51 * k + 1) hMS.2.2.1 hMS.2.2.2.1 (by omega)).mono (by decide)) (fun r1 h1 hq => ?_)
  obtain ⟨rfl, J5, ⟨g5, f5⟩, rfl⟩ := hq
  rw [show J4 348 (51 * k + 1) = P (51 * k + 1) from hMS.2.1 _]
  refine e_iasJ (t := 8) (n := 14) rfl (show sh[291]? = some (20, 14) from (hM.2 0 _ rfl).1) rfl (by decide) (by decide) (fun J6 g6 f6 => ?_)
  replace hMS := hMS.ld (f := 1) (i := 8) g5 f5 (by decide) g6 f6 rfl rfl rfl
  refine e_aload rfl rfl ?_
  refine e_getR rfl hM.1 (show R 290 1 = some 291 from (hM.2 0 _ rfl).2) ?_
  refine e_ipush rfl ?_
  refine e_aload rfl rfl ?_
  refine e_aload rfl rfl ?_
  refine e_getR rfl hM.1 (show R 290 1 = some 291 from (hM.2 0 _ rfl).2) ?_
  refine e_ipush rfl ?_
  refine e_ialv (t := 9) (n := 14) rfl (show sh[291]? = some (20, 14) from (hM.2 0 _ rfl).1) rfl (by decide) (by decide) (hMS.1 1 9 (by decide)) ?_
  refine Eg.c2 rfl (by decide) (by decide) rfl (Nat.le_of_ble_eq_true rfl) (xrcv_of rfl hM.1 rfl) ((ms_movL hM (b := 51 * k + 2) hMS.2.2.1 hMS.2.2.2.1 (by omega)).mono (by decide)) (fun r1 h1 hq => ?_)
  obtain ⟨rfl, J7, ⟨g7, f7⟩, rfl⟩ := hq
  rw [show J6 348 (51 * k + 2) = P (51 * k + 2) from hMS.2.1 _]
  refine e_iasJ (t := 9) (n := 14) rfl (show sh[291]? = some (20, 14) from (hM.2 0 _ rfl).1) rfl (by decide) (by decide) (fun J8 g8 f8 => ?_)
  replace hMS := hMS.ld (f := 1) (i := 9) g7 f7 (by decide) g8 f8 rfl rfl rfl
  refine e_ipush rfl ?_
  refine e_istore rfl ?_
  refine Eg.pk [0, 1, 2, 3] [3, 0, 1, 2] rfl (by decide) ?_
  refine up_ind (p := fun j => ∀ J : Nat → Nat → Int32, MS I J (lodV v P k (3 + 4 * j)) P (51 * k + (3 + 4 * j)) 1 → Eg X xTc 1 249 69 [(0, .ref 290), (1, .int (nI k)), (2, .int 1), (3, .int (nI j))] [] (sh, J, L, R) (fun r h' => r = none ∧ ∃ J : Nat → Nat → Int32, h' = (sh, J, L, R) ∧ MS I J (lodV v P k 51) P (51 * k + 51) 1)) (n := 8) (j := 0) (fun j hj ih => ?_) ?_ (Nat.zero_le _) J8 hMS
  · clear hMS
    intro J hMS
    refine e_iload rfl rfl ?_
    refine e_ipush rfl ?_
    refine e_cge_f rfl (nI_ge (b := 8) hj (by decide)) ?_
    refine e_aload rfl rfl ?_
    refine e_getR rfl hM.1 (show R 290 20 = some 310 from (hM.2 19 _ rfl).2) ?_
    refine e_iload rfl rfl ?_
    refine e_aload rfl rfl ?_
    refine e_aload rfl rfl ?_
    refine e_getR rfl hM.1 (show R 290 20 = some 310 from (hM.2 19 _ rfl).2) ?_
    refine e_iload rfl rfl ?_
    refine e_ialv (t := j) (n := 8) rfl (show sh[310]? = some (20, 8) from (hM.2 19 _ rfl).1) rfl (by omega) (by decide) (hMS.1 20 j (by decide)) ?_
    refine Eg.c2 rfl (by decide) (by decide) rfl (Nat.le_of_ble_eq_true rfl) (xrcv_of rfl hM.1 rfl) ((ms_movL hM (b := 51 * k + (3 + 4 * j + 0)) hMS.2.2.1 hMS.2.2.2.1 (by omega)).mono (by decide)) (fun r1 h1 hq => ?_)
    obtain ⟨rfl, J9, ⟨g9, f9⟩, rfl⟩ := hq
    rw [show J 348 (51 * k + (3 + 4 * j + 0)) = P (51 * k + (3 + 4 * j + 0)) from hMS.2.1 _]
    refine e_iasJ (t := j) (n := 8) rfl (show sh[310]? = some (20, 8) from (hM.2 19 _ rfl).1) rfl (by omega) (by decide) (fun J10 g10 f10 => ?_)
    replace hMS := hMS.ld (f := 20) (i := j) g9 f9 (by decide) g10 f10 rfl (sf_d (r := 0) hj (by decide)).1 (sf_d (r := 0) hj (by decide)).2
    refine e_aload rfl rfl ?_
    refine e_getR rfl hM.1 (show R 290 21 = some 311 from (hM.2 20 _ rfl).2) ?_
    refine e_iload rfl rfl ?_
    refine e_aload rfl rfl ?_
    refine e_aload rfl rfl ?_
    refine e_getR rfl hM.1 (show R 290 21 = some 311 from (hM.2 20 _ rfl).2) ?_
    refine e_iload rfl rfl ?_
    refine e_ialv (t := j) (n := 8) rfl (show sh[311]? = some (20, 8) from (hM.2 20 _ rfl).1) rfl (by omega) (by decide) (hMS.1 21 j (by decide)) ?_
    refine Eg.c2 rfl (by decide) (by decide) rfl (Nat.le_of_ble_eq_true rfl) (xrcv_of rfl hM.1 rfl) ((ms_movL hM (b := 51 * k + (3 + 4 * j + 1)) hMS.2.2.1 hMS.2.2.2.1 (by omega)).mono (by decide)) (fun r1 h1 hq => ?_)
    obtain ⟨rfl, J11, ⟨g11, f11⟩, rfl⟩ := hq
    rw [show J10 348 (51 * k + (3 + 4 * j + 1)) = P (51 * k + (3 + 4 * j + 1)) from hMS.2.1 _]
    refine e_iasJ (t := j) (n := 8) rfl (show sh[311]? = some (20, 8) from (hM.2 20 _ rfl).1) rfl (by omega) (by decide) (fun J12 g12 f12 => ?_)
    replace hMS := hMS.ld (f := 21) (i := j) g11 f11 (by decide) g12 f12 rfl (sf_d (r := 1) hj (by decide)).1 (sf_d (r := 1) hj (by decide)).2
    refine e_aload rfl rfl ?_
    refine e_getR rfl hM.1 (show R 290 22 = some 312 from (hM.2 21 _ rfl).2) ?_
    refine e_iload rfl rfl ?_
    refine e_aload rfl rfl ?_
    refine e_aload rfl rfl ?_
    refine e_getR rfl hM.1 (show R 290 22 = some 312 from (hM.2 21 _ rfl).2) ?_
    refine e_iload rfl rfl ?_
    refine e_ialv (t := j) (n := 8) rfl (show sh[312]? = some (20, 8) from (hM.2 21 _ rfl).1) rfl (by omega) (by decide) (hMS.1 22 j (by decide)) ?_
    refine Eg.c2 rfl (by decide) (by decide) rfl (Nat.le_of_ble_eq_true rfl) (xrcv_of rfl hM.1 rfl) ((ms_movL hM (b := 51 * k + (3 + 4 * j + 2)) hMS.2.2.1 hMS.2.2.2.1 (by omega)).mono (by decide)) (fun r1 h1 hq => ?_)
    obtain ⟨rfl, J13, ⟨g13, f13⟩, rfl⟩ := hq
    rw [show J12 348 (51 * k + (3 + 4 * j + 2)) = P (51 * k + (3 + 4 * j + 2)) from hMS.2.1 _]
    refine e_iasJ (t := j) (n := 8) rfl (show sh[312]? = some (20, 8) from (hM.2 21 _ rfl).1) rfl (by omega) (by decide) (fun J14 g14 f14 => ?_)
    replace hMS := hMS.ld (f := 22) (i := j) g13 f13 (by decide) g14 f14 rfl (sf_d (r := 2) hj (by decide)).1 (sf_d (r := 2) hj (by decide)).2
    refine e_aload rfl rfl ?_
    refine e_getR rfl hM.1 (show R 290 23 = some 313 from (hM.2 22 _ rfl).2) ?_
    refine e_iload rfl rfl ?_
    refine e_aload rfl rfl ?_
    refine e_aload rfl rfl ?_
    refine e_getR rfl hM.1 (show R 290 23 = some 313 from (hM.2 22 _ rfl).2) ?_
    refine e_iload rfl rfl ?_
    refine e_ialv (t := j) (n := 8) rfl (show sh[313]? = some (20, 8) from (hM.2 22 _ rfl).1) rfl (by omega) (by decide) (hMS.1 23 j (by decide)) ?_
    refine Eg.c2 rfl (by decide) (by decide) rfl (Nat.le_of_ble_eq_true rfl) (xrcv_of rfl hM.1 rfl) ((ms_movL hM (b := 51 * k + (3 + 4 * j + 3)) hMS.2.2.1 hMS.2.2.2.1 (by omega)).mono (by decide)) (fun r1 h1 hq => ?_)
    obtain ⟨rfl, J15, ⟨g15, f15⟩, rfl⟩ := hq
    rw [show J14 348 (51 * k + (3 + 4 * j + 3)) = P (51 * k + (3 + 4 * j + 3)) from hMS.2.1 _]
    refine e_iasJ (t := j) (n := 8) rfl (show sh[313]? = some (20, 8) from (hM.2 22 _ rfl).1) rfl (by omega) (by decide) (fun J16 g16 f16 => ?_)
    replace hMS := hMS.ld (f := 23) (i := j) g15 f15 (by decide) g16 f16 rfl (sf_d (r := 3) hj (by decide)).1 (sf_d (r := 3) hj (by decide)).2
    refine e_iinc rfl rfl ?_
    refine e_goto rfl ?_
    refine Eg.pk [0, 1, 2, 3] [3, 0, 1, 2] rfl (by decide) ?_
    rw [nI_1]
    exact ih J16 hMS
  · clear hMS
    intro J hMS
    refine e_iload rfl rfl ?_
    refine e_ipush rfl ?_
    refine e_cge_t rfl (by decide) ?_
    refine e_ipush rfl ?_
    refine e_istore rfl ?_
    refine Eg.pk [0, 1, 2, 3] [3, 0, 1, 2] rfl (by decide) ?_
    refine up_ind (p := fun j => ∀ J : Nat → Nat → Int32, MS I J (lodV v P k (35 + 4 * j)) P (51 * k + (35 + 4 * j)) 1 → Eg X xTc 1 249 147 [(0, .ref 290), (1, .int (nI k)), (2, .int 1), (3, .int (nI j))] [] (sh, J, L, R) (fun r h' => r = none ∧ ∃ J : Nat → Nat → Int32, h' = (sh, J, L, R) ∧ MS I J (lodV v P k 51) P (51 * k + 51) 1)) (n := 4) (j := 0) (fun j hj ih => ?_) ?_ (Nat.zero_le _) J hMS
    · clear hMS
      intro J hMS
      refine e_iload rfl rfl ?_
      refine e_ipush rfl ?_
      refine e_cge_f rfl (nI_ge (b := 4) hj (by decide)) ?_
      refine e_aload rfl rfl ?_
      refine e_getR rfl hM.1 (show R 290 13 = some 303 from (hM.2 12 _ rfl).2) ?_
      refine e_iload rfl rfl ?_
      refine e_aload rfl rfl ?_
      refine e_aload rfl rfl ?_
      refine e_getR rfl hM.1 (show R 290 13 = some 303 from (hM.2 12 _ rfl).2) ?_
      refine e_iload rfl rfl ?_
      refine e_ialv (t := j) (n := 4) rfl (show sh[303]? = some (20, 4) from (hM.2 12 _ rfl).1) rfl (by omega) (by decide) (hMS.1 13 j (by decide)) ?_
      refine Eg.c2 rfl (by decide) (by decide) rfl (Nat.le_of_ble_eq_true rfl) (xrcv_of rfl hM.1 rfl) ((ms_movL hM (b := 51 * k + (35 + 4 * j + 0)) hMS.2.2.1 hMS.2.2.2.1 (by omega)).mono (by decide)) (fun r1 h1 hq => ?_)
      obtain ⟨rfl, J17, ⟨g17, f17⟩, rfl⟩ := hq
      rw [show J 348 (51 * k + (35 + 4 * j + 0)) = P (51 * k + (35 + 4 * j + 0)) from hMS.2.1 _]
      refine e_iasJ (t := j) (n := 4) rfl (show sh[303]? = some (20, 4) from (hM.2 12 _ rfl).1) rfl (by omega) (by decide) (fun J18 g18 f18 => ?_)
      replace hMS := hMS.ld (f := 13) (i := j) g17 f17 (by decide) g18 f18 rfl (sf_s hj).1 (si_s (r := 0) hj (by decide))
      refine e_aload rfl rfl ?_
      refine e_getR rfl hM.1 (show R 290 14 = some 304 from (hM.2 13 _ rfl).2) ?_
      refine e_iload rfl rfl ?_
      refine e_aload rfl rfl ?_
      refine e_aload rfl rfl ?_
      refine e_getR rfl hM.1 (show R 290 14 = some 304 from (hM.2 13 _ rfl).2) ?_
      refine e_iload rfl rfl ?_
      refine e_ialv (t := j) (n := 4) rfl (show sh[304]? = some (20, 4) from (hM.2 13 _ rfl).1) rfl (by omega) (by decide) (hMS.1 14 j (by decide)) ?_
      refine Eg.c2 rfl (by decide) (by decide) rfl (Nat.le_of_ble_eq_true rfl) (xrcv_of rfl hM.1 rfl) ((ms_movL hM (b := 51 * k + (35 + 4 * j + 1)) hMS.2.2.1 hMS.2.2.2.1 (by omega)).mono (by decide)) (fun r1 h1 hq => ?_)
      obtain ⟨rfl, J19, ⟨g19, f19⟩, rfl⟩ := hq
      rw [show J18 348 (51 * k + (35 + 4 * j + 1)) = P (51 * k + (35 + 4 * j + 1)) from hMS.2.1 _]
      refine e_iasJ (t := j) (n := 4) rfl (show sh[304]? = some (20, 4) from (hM.2 13 _ rfl).1) rfl (by omega) (by decide) (fun J20 g20 f20 => ?_)
      replace hMS := hMS.ld (f := 14) (i := j) g19 f19 (by decide) g20 f20 rfl (sf_s hj).2.1 (si_s (r := 1) hj (by decide))
      refine e_aload rfl rfl ?_
      refine e_getR rfl hM.1 (show R 290 17 = some 307 from (hM.2 16 _ rfl).2) ?_
      refine e_iload rfl rfl ?_
      refine e_aload rfl rfl ?_
      refine e_aload rfl rfl ?_
      refine e_getR rfl hM.1 (show R 290 17 = some 307 from (hM.2 16 _ rfl).2) ?_
      refine e_iload rfl rfl ?_
      refine e_ialv (t := j) (n := 4) rfl (show sh[307]? = some (20, 4) from (hM.2 16 _ rfl).1) rfl (by omega) (by decide) (hMS.1 17 j (by decide)) ?_
      refine Eg.c2 rfl (by decide) (by decide) rfl (Nat.le_of_ble_eq_true rfl) (xrcv_of rfl hM.1 rfl) ((ms_movL hM (b := 51 * k + (35 + 4 * j + 2)) hMS.2.2.1 hMS.2.2.2.1 (by omega)).mono (by decide)) (fun r1 h1 hq => ?_)
      obtain ⟨rfl, J21, ⟨g21, f21⟩, rfl⟩ := hq
      rw [show J20 348 (51 * k + (35 + 4 * j + 2)) = P (51 * k + (35 + 4 * j + 2)) from hMS.2.1 _]
      refine e_iasJ (t := j) (n := 4) rfl (show sh[307]? = some (20, 4) from (hM.2 16 _ rfl).1) rfl (by omega) (by decide) (fun J22 g22 f22 => ?_)
      replace hMS := hMS.ld (f := 17) (i := j) g21 f21 (by decide) g22 f22 rfl (sf_s hj).2.2.1 (si_s (r := 2) hj (by decide))
      refine e_aload rfl rfl ?_
      refine e_getR rfl hM.1 (show R 290 18 = some 308 from (hM.2 17 _ rfl).2) ?_
      refine e_iload rfl rfl ?_
      refine e_aload rfl rfl ?_
      refine e_aload rfl rfl ?_
      refine e_getR rfl hM.1 (show R 290 18 = some 308 from (hM.2 17 _ rfl).2) ?_
      refine e_iload rfl rfl ?_
      refine e_ialv (t := j) (n := 4) rfl (show sh[308]? = some (20, 4) from (hM.2 17 _ rfl).1) rfl (by omega) (by decide) (hMS.1 18 j (by decide)) ?_
      refine Eg.c2 rfl (by decide) (by decide) rfl (Nat.le_of_ble_eq_true rfl) (xrcv_of rfl hM.1 rfl) ((ms_movL hM (b := 51 * k + (35 + 4 * j + 3)) hMS.2.2.1 hMS.2.2.2.1 (by omega)).mono (by decide)) (fun r1 h1 hq => ?_)
      obtain ⟨rfl, J23, ⟨g23, f23⟩, rfl⟩ := hq
      rw [show J22 348 (51 * k + (35 + 4 * j + 3)) = P (51 * k + (35 + 4 * j + 3)) from hMS.2.1 _]
      refine e_iasJ (t := j) (n := 4) rfl (show sh[308]? = some (20, 4) from (hM.2 17 _ rfl).1) rfl (by omega) (by decide) (fun J24 g24 f24 => ?_)
      replace hMS := hMS.ld (f := 18) (i := j) g23 f23 (by decide) g24 f24 rfl (sf_s hj).2.2.2 (si_s (r := 3) hj (by decide))
      refine e_iinc rfl rfl ?_
      refine e_goto rfl ?_
      refine Eg.pk [0, 1, 2, 3] [3, 0, 1, 2] rfl (by decide) ?_
      rw [nI_1]
      exact ih J24 hMS
    · clear hMS
      intro J hMS
      refine e_iload rfl rfl ?_
      refine e_ipush rfl ?_
      refine e_cge_t rfl (by decide) ?_
      exact Eg.ret rfl (by decide) rfl ⟨rfl, J, rfl, hMS⟩
end PA
