/-! drawn, the one side -/
section DC
variable {X : xX} {h : xH} {sh : List (Nat × Nat)} {I : Nat → Nat → Int32} {L : Nat → Nat → Int64} {R : Nat → Nat → Option Nat} {B : Nat → Nat} {n ri p : Nat} {st : rS}
variable {m s w ru rc : Nat} {v V : Nat → Nat → Int32} {cd : List (Nat × Nat)} {cl : List (Nat × Nat × Nat)} {cds : Nat → List (Nat × Nat)} {cls : Nat → List (Nat × Nat × Nat)} {R' : Nat → Nat → Option Nat}
theorem lN_lti {a b : Nat} (ha : a < 2 ^ 63) (hb : b < 2 ^ 63) : lN a < lN b ↔ a < b := by
  rw [Int64.lt_iff_toInt_lt, lN_int ha, lN_int hb]; omega
theorem CrAt.frR (h : CrAt sh R) (e : ∀ k, R' 237 k = R 237 k) (e2x : ∀ k, k ≠ 0 → R' 241 k = R 241 k) : CrAt sh R' := by
  obtain ⟨a1x, a2x, a3x, a4x, a5x, a6x, a7x, a8x, a9x⟩ := h
  exact ⟨a1x, a2x, a3x, a4x, (e 0).trans a5x, (e 1).trans a6x, (e 2).trans a7x, (e 3).trans a8x, a9x.frR e2x⟩
theorem max1 {b : Nat} (h : 1 ≤ b) (hb : b < 2 ^ 31) : (if (1 : Int32) < nI b then nI b else 1) = nI b := by
  split
  · rfl
  · rename_i q
    have : ¬ 1 < b := fun r => q ((nI_lti (a := 1) (by decide) hb).mpr r)
    rw [show b = 1 by omega]; rfl
theorem paid_13 {a : Int32} : paidN (xu v 1 13 a) = paidN v := by
  unfold paidN; rw [cn13x (by decide)]
  congr 1
def drS (nx : Nat → Nat) (v : Nat → Nat → Int32) (cd : List (Nat × Nat)) (cl : List (Nat × Nat × Nat)) (n : Nat) (z : Nat × Int32 × Int32 × Int32) : Nat × Int32 × Int32 × Int32 := (dxV (dwN nx (xu v 1 13 (nI z.1)) cd cl n).1, z.2.1 + dryN (dwN nx (xu v 1 13 (nI z.1)) cd cl n).1, z.2.2.1 + (paidN (dwN nx (xu v 1 13 (nI z.1)) cd cl n).1 - paidN v), z.2.2.2 + nI (dwN nx (xu v 1 13 (nI z.1)) cd cl n).2)
def drT (nx : Nat → Nat) (v : Nat → Nat → Int32) (cd : List (Nat × Nat)) (cl : List (Nat × Nat × Nat)) (n x : Nat) : Nat → Nat × Int32 × Int32 × Int32 := itN (fun _ z => drS nx v cd cl n z) (x, 0, 0, 0)
theorem dwN_i {nx : Nat → Nat} (hnx : ∀ x, nx x < 2 ^ 31) (hw : Wf v) {x n : Nat} (hx : x < 2 ^ 31) (hn : cn v 7 + n ≤ 20000) : dwI (xu v 1 13 (nI x)) n (dwN nx (xu v 1 13 (nI x)) cd cl n) := dwN_ok hnx hw.x13 (by rw [dxV_xu hx, xu_at]) (by rw [dxV_xu hx]; exact hx) n (by rw [cn13x (by decide)]; exact hn)
theorem drT_lt {nx : Nat → Nat} (hnx : ∀ x, nx x < 2 ^ 31) (hw : Wf v) {x n k : Nat} (hx : x < 2 ^ 31) (hn : cn v 7 + n ≤ 20000) : (drT nx v cd cl n x k).1 < 2 ^ 31 := by
  induction k with
  | zero => exact hx
  | succ k ih =>
    show (drS nx v cd cl n (drT nx v cd cl n x k)).1 < 2 ^ 31
    exact (dwN_i (cd := cd) (cl := cl) hnx hw ih hn).2.2.2.1
/-- what stays along the days, seen from the state before the draws -/
theorem dwI_sea {n : Nat} {z : (Nat → Nat → Int32) × Nat} {x : Nat} (h : dwI (xu v 1 13 (nI x)) n z) (hV : SeaV I s v) : SeaV I s z.1 := (hV.x13 (a := z.1 1 13)).ex (fun f i q => (h.2.1 f i q).trans (by by_cases e : f = 1 ∧ i = 13; obtain ⟨rfl, rfl⟩ := e; rw [xu_at, xu_at]; rw [xu_o (by omega), xu_o (by omega), xu_o (by omega)]))
theorem dwI_c {n : Nat} {z : (Nat → Nat → Int32) × Nat} {x j : Nat} (h : dwI (xu v 1 13 (nI x)) n z) (hj : j < 7) : cn z.1 j = cn v j := by
  rw [h.2.1.c (Or.inl hj), cn13x (by omega), cn13x (by omega)]

theorem cs_drawDays (hC : CrAt sh R) (r241x : R 241 0 = some s) (hU : RuAt sh R ru) (hru : RuV I ru cd cl) (hok : ruOK cd cl) (hS : SeaAt sh R s) (hV : SeaV I s v) (hw : Wf v) (hM : MomAt sh R m) (hms : R m 0 = some s) (hW : MomV I m v) (hW2x : MomV I 241 v) (hm : m + 8 < 237) (hs : s + 12 < 237 ∨ 249 < s) (hru2 : 249 < ru) {x n : Nat} (hx : x < 2 ^ 31) (hL : L 237 5 = lN x) {a b c : Int32} (h6x : I 237 6 = a) (h7x : I 237 7 = b) (h8x : I 237 8 = c) (hn : cn v 7 + n ≤ 20000) : Eg X xTc 6 10 8 [(0, .ref 237), (1, .ref m), (2, .ref ru), (3, .int (nI n))] [] (sh, I, L, R) (fun r h' => r = none ∧ ∃ (J : Nat → Nat → Int32) (M : Nat → Nat → Int64), h' = (sh, J, M, R) ∧ J 237 6 = a + dryN (dwN nxD (xu v 1 13 (nI x)) cd cl n).1 ∧ J 237 7 = b + (paidN (dwN nxD (xu v 1 13 (nI x)) cd cl n).1 - paidN v) ∧ J 237 8 = c + nI (dwN nxD (xu v 1 13 (nI x)) cd cl n).2 ∧ M 237 5 = lN (dxV (dwN nxD (xu v 1 13 (nI x)) cd cl n).1) ∧ (∀ i t, i < 241 ∨ 249 < i → i ≠ 240 → (i ≠ 237 ∨ (t ≠ 4 ∧ t ≠ 6 ∧ t ≠ 7 ∧ t ≠ 8)) → J i t = I i t) ∧ ∀ p q, p ≠ 238 → p ≠ 239 → (p ≠ 237 ∨ q ≠ 5) → M p q = L p q) := by
  have hM2x := hC.2.2.2.2.2.2.2.2
  have r3x := hC.2.2.2.2.2.2.2.1
  have c51x : 1 ≤ cn v 6 ∧ cn v 6 < 2 ^ 31 ∧ cn v 5 < 2 ^ 31 := by have := hw.1.2; refine ⟨?_, ?_, ?_⟩ <;> omega
  refine e_ipush rfl ?_
  refine e_istore rfl ?_
  refine Eg.pk [0, 1, 2, 3, 4] [4, 0, 1, 2, 3] rfl (by decide) ?_
  refine up_ind (p := fun j => ∀ (J : Nat → Nat → Int32) (M : Nat → Nat → Int64), MomV J 241 (dwN nxD (xu v 1 13 (nI x)) cd cl j).1 → J 237 8 = c + nI (dwN nxD (xu v 1 13 (nI x)) cd cl j).2 → M 237 5 = lN (dxV (dwN nxD (xu v 1 13 (nI x)) cd cl j).1) → (∀ i t, i < 241 ∨ 249 < i → i ≠ 240 → (i ≠ 237 ∨ (t ≠ 4 ∧ t ≠ 8)) → J i t = I i t) → (∀ p q, p ≠ 238 → p ≠ 239 → (p ≠ 237 ∨ q ≠ 5) → M p q = L p q) → Eg X xTc 6 10 11 [(0, .ref 237), (1, .ref m), (2, .ref ru), (3, .int (nI n)), (4, .int (nI j))] [] (sh, J, M, R) (fun r h' => r = none ∧ ∃ (J : Nat → Nat → Int32) (M : Nat → Nat → Int64), h' = (sh, J, M, R) ∧ J 237 6 = a + dryN (dwN nxD (xu v 1 13 (nI x)) cd cl n).1 ∧ J 237 7 = b + (paidN (dwN nxD (xu v 1 13 (nI x)) cd cl n).1 - paidN v) ∧ J 237 8 = c + nI (dwN nxD (xu v 1 13 (nI x)) cd cl n).2 ∧ M 237 5 = lN (dxV (dwN nxD (xu v 1 13 (nI x)) cd cl n).1) ∧ (∀ i t, i < 241 ∨ 249 < i → i ≠ 240 → (i ≠ 237 ∨ (t ≠ 4 ∧ t ≠ 6 ∧ t ≠ 7 ∧ t ≠ 8)) → J i t = I i t) ∧ ∀ p q, p ≠ 238 → p ≠ 239 → (p ≠ 237 ∨ q ≠ 5) → M p q = L p q)) (n := n) (j := 0) (fun j hj ih J M z1x z2x z3x z4x z5x => ?_) (fun J M z1x z2x z3x z4x z5x => ?_) (Nat.zero_le _) I L hW2x.x13 (h8x.trans (Int32.add_zero _).symm) (by rw [hL]; exact congrArg lN (dxV_xu hx).symm) (fun _ _ _ _ _ => rfl) (fun _ _ _ _ _ => rfl)
  · have di := dwN_i (nx := nxD) (cd := cd) (cl := cl) (fun _ => nxD_lt) hw hx (n := j) (by omega)
    rw [dwN_s] at ih
    generalize (dwN nxD (xu v 1 13 (nI x)) cd cl j) = z at z1x z2x z3x di ih
    have hVJ : SeaV J s z.1 := dwI_sea di (hV.fr (fun i k q1x q2x => z4x i k (by omega) (by omega) (by omega)))
    have ruJ : RuV J ru cd cl := hru.fr (fun i k q1x q2x => z4x i k (by omega) (by omega) (by omega))
    have e5x := dwI_c di (j := 5) (by decide)
    have e6x := dwI_c di (j := 6) (by decide)
    have hy := nxD_lt (x := dxV z.1)
    have hmod : nxD (dxV z.1) / 65536 % cn v 6 < 2 ^ 31 := Nat.lt_trans (Nat.mod_lt _ (by omega)) c51x.2.1
    rw [dwD_y rfl, e5x, e6x] at ih
    have st := dwS_st (cd := cd) (cl := cl) hy di (by rw [cn13x (by decide)]; omega)
    refine e_iload rfl rfl ?_
    refine e_iload rfl rfl ?_
    refine e_cge_f rfl (nI_ge hj (by omega)) ?_
    refine e_aload rfl rfl ?_
    refine e_aload rfl rfl ?_
    refine e_getR rfl hC.1 r3x ?_
    refine e_aload rfl rfl ?_
    refine Eg.c3 rfl (by decide) (by decide) rfl (Nat.le_of_ble_eq_true rfl) (xrcv_of rfl hC.1 rfl) ((cs_crewDay hC hU ruJ hok hS hVJ di.1 hM2x r241x z1x (Or.inr (by omega)) (by omega) (by omega) (by omega) (by omega)).mono (by decide)) (fun r1x h1x hq => ?_)
    obtain ⟨rfl, J2x, M2x, rfl, y1x, y2x, y3x⟩ := hq
    have m5x : M2x 237 5 = lN (dxV z.1) := (y3x 237 5 (by decide) (by decide)).trans z3x
    have s18x : J2x s 18 = nI (cn v 6) := (y2x s 18 (by omega) (by omega) (by omega)).trans (e6x ▸ hVJ.2.2.1)
    have s17x : J2x s 17 = nI (cn v 5) := (y2x s 17 (by omega) (by omega) (by omega)).trans (e5x ▸ hVJ.2.1)
    refine e_aload rfl rfl ?_
    refine Eg.c1 rfl (by decide) (by decide) rfl (Nat.le_of_ble_eq_true rfl) (xrcv_of rfl hC.1 rfl) ((cs_nextDraw hC.1 di.2.2.2.1 m5x).mono (by decide)) (fun r1x h1x hq => ?_)
    obtain ⟨rfl, M3x, rfl, y4x, y5x⟩ := hq
    refine e_ipush rfl ?_
    refine e_aload rfl rfl ?_
    refine e_getR rfl hM.1 hms ?_
    refine e_getIv rfl hS.1 s18x ?_
    refine e_max rfl (Nat.le_of_ble_eq_true rfl) ?_
    rw [show (if 1 < nI (cn v 6) then nI (cn v 6) else 1) = nI (cn v 6) from max1 c51x.1 c51x.2.1]
    refine e_i2l rfl ?_
    rw [nI_l (n := cn v 6) (by omega)]
    refine e_lrem rfl (lN_ne0 (by omega) (by omega)) ?_
    rw [show (lN (nxD (dxV z.1) / 65536)) - (lN (nxD (dxV z.1) / 65536)) / (lN (cn v 6)) * (lN (cn v 6)) = lN (nxD (dxV z.1) / 65536 % cn v 6) from lN_mod (by omega) (by omega)]
    refine e_aload rfl rfl ?_
    refine e_getR rfl hM.1 hms ?_
    refine e_getIv rfl hS.1 s17x ?_
    refine e_i2l rfl ?_
    rw [nI_l (n := cn v 5) (by omega)]
    refine e_lcmp rfl ?_
    refine e_ifge_b rfl (fun b52x => ?_) (fun b52x => ?_)
    · refine e_iinc rfl rfl ?_
      refine e_goto rfl ?_
      refine Eg.pk [0, 1, 2, 3, 4] [4, 0, 1, 2, 3] rfl (by decide) ?_
      rw [nI_1]
      rw [if_neg (fun q => lg_ge0.mp b52x ((lN_lti (by omega) (by omega)).mpr q))] at ih
      refine ih J2x M3x y1x.x13 ((y2x 237 8 (by omega) (by omega) (by omega)).trans z2x) ?_ (fun i t q1x q2x q3x => (y2x i t q1x q2x (by omega)).trans (z4x i t q1x q2x q3x)) (fun p q r1x r2x r3x => (y5x p q r3x).trans ((y3x p q r1x r2x).trans (z5x p q r1x r2x r3x)))
      exact y4x.trans (congrArg lN (dxV_xu hy).symm)
    · have hV3x : SeaV J2x s (xu (rday z.1 cd cl) 1 13 (nI (nxD (dxV z.1)))) := (dwI_sea st.2 hV).fr (fun i k q1x q2x => (y2x i k (by omega) (by omega) (by omega)).trans (z4x i k (by omega) (by omega) (by omega)))
      refine e_aload rfl rfl ?_
      refine e_getR rfl hC.1 r3x ?_
      refine Eg.c1 rfl (by decide) (by decide) rfl (Nat.le_of_ble_eq_true rfl) (xrcv_of rfl hM2x.1 rfl) ((cs_storm hM2x r241x hS hV3x st.2.1 (y1x.x13 (a := nI (nxD (dxV z.1)))) (by omega)).mono (by decide)) (fun r1x h1x hq => ?_)
      obtain ⟨rfl, J3x, rfl, y6x, y7x⟩ := hq
      have i8x : J3x 237 8 = c + nI z.2 := (y7x 237 8 (by omega)).trans ((y2x 237 8 (by omega) (by omega) (by omega)).trans z2x)
      refine e_aload rfl rfl ?_
      refine e_dupr rfl ?_
      refine e_getIv rfl hC.1 i8x ?_
      refine e_ipush rfl ?_
      refine e_iadd rfl ?_
      refine e_putIJ rfl hC.1 (fun J1x g1x f1x => ?_)
      refine e_iinc rfl rfl ?_
      refine e_goto rfl ?_
      refine Eg.pk [0, 1, 2, 3, 4] [4, 0, 1, 2, 3] rfl (by decide) ?_
      rw [nI_1]
      rw [if_pos (Decidable.byContradiction (fun q => b52x (lg_ge0.mpr (fun r => q ((lN_lti (by omega) (by omega)).mp r)))))] at ih
      refine ih J1x M3x (y6x.fr (fun i k q1x q2x => f1x i k (by omega))) (g1x.trans ?_) ?_ (fun i t q1x q2x q3x => (f1x i t (by omega)).trans ((y7x i t (by omega)).trans ((y2x i t q1x q2x (by omega)).trans (z4x i t q1x q2x q3x)))) (fun p q r1x r2x r3x => (y5x p q r3x).trans ((y3x p q r1x r2x).trans (z5x p q r1x r2x r3x)))
      · show c + nI z.2 + 1 = c + nI (z.2 + 1); rw [← nI_1 z.2, Int32.add_assoc]
      · refine y4x.trans (congrArg lN ?_)
        show _ = (stmF (xu (rday z.1 cd cl) 1 13 (nI (nxD (dxV z.1)))) 1 13).toNatClampNeg; rw [stmF_o (Or.inl (by decide)), xu_at, nI_clamp hy]
  · have di := dwN_i (nx := nxD) (cd := cd) (cl := cl) (fun _ => nxD_lt) hw hx (n := n) (by omega)
    generalize (dwN nxD (xu v 1 13 (nI x)) cd cl n) = z at z1x z2x z3x di ⊢
    have hVJ : SeaV J s z.1 := dwI_sea di (hV.fr (fun i k q1x q2x => z4x i k (by omega) (by omega) (by omega)))
    have hVv : SeaV J s v := hV.fr (fun i k q1x q2x => z4x i k (by omega) (by omega) (by omega))
    have hWv : MomV J m v := hW.fr (fun i k q1x q2x => z4x i k (by omega) (by omega) (by omega))
    have i6x : J 237 6 = a := (z4x 237 6 (by omega) (by omega) (by omega)).trans h6x
    have i7x : J 237 7 = b := (z4x 237 7 (by omega) (by omega) (by omega)).trans h7x
    refine e_iload rfl rfl ?_
    refine e_iload rfl rfl ?_
    refine e_cge_t rfl (Int32.le_refl _) ?_
    refine e_aload rfl rfl ?_
    refine e_dupr rfl ?_
    refine e_getIv rfl hC.1 i6x ?_
    refine e_aload rfl rfl ?_
    refine e_getR rfl hC.1 r3x ?_
    refine Eg.p1 rfl (by decide) (by decide) rfl (Nat.le_of_ble_eq_true rfl) (xrcv_of rfl hM2x.1 rfl) ((cs_dryShips hS hVJ di.1 hM2x r241x z1x).mono (by decide)) ?_
    refine e_iadd rfl ?_
    refine e_putIJ rfl hC.1 (fun J1x g1x f1x => ?_)
    refine e_aload rfl rfl ?_
    refine e_dupr rfl ?_
    refine e_getIv rfl hC.1 ((f1x 237 7 (Or.inr (by decide))).trans i7x) ?_
    refine e_aload rfl rfl ?_
    refine e_getR rfl hC.1 r3x ?_
    refine Eg.p1 rfl (by decide) (by decide) rfl (Nat.le_of_ble_eq_true rfl) (xrcv_of rfl hM2x.1 rfl) ((cs_coinsPaid hS (hVJ.fr (fun i k q1x q2x => f1x i k (by omega))) di.1 hM2x r241x (z1x.fr (fun i k q1x q2x => f1x i k (by omega)))).mono (by decide)) ?_
    refine e_aload rfl rfl ?_
    refine Eg.p1 rfl (by decide) (by decide) rfl (Nat.le_of_ble_eq_true rfl) (xrcv_of rfl hM.1 rfl) ((cs_coinsPaid hS (hVv.fr (fun i k q1x q2x => f1x i k (by omega))) hw hM hms (hWv.fr (fun i k q1x q2x => f1x i k (by omega)))).mono (by decide)) ?_
    refine e_isub rfl ?_
    refine e_iadd rfl ?_
    refine e_putIJ rfl hC.1 (fun J2x g2x f2x => ?_)
    exact Eg.ret rfl (by decide) rfl ⟨rfl, J2x, M, rfl, (f2x 237 6 (by decide)).trans g1x, g2x, (f2x 237 8 (by decide)).trans ((f1x 237 8 (by decide)).trans z2x), z3x, fun i t q1x q2x q3x => (f2x i t (by omega)).trans ((f1x i t (by omega)).trans (z4x i t q1x q2x (by omega))), z5x⟩
theorem cs_drawOnce (hC : CrAt sh R) (hU : RuAt sh R ru) (hru : RuV I ru cd cl) (hok : ruOK cd cl) (hS : SeaAt sh R s) (hV : SeaV I s v) (hw : Wf v) (hM : MomAt sh R m) (hms : R m 0 = some s) (hW : MomV I m v) (hm : m + 8 < 237) (hs : s + 12 < 237 ∨ 249 < s) (hru2 : 249 < ru) {x n : Nat} (hx : x < 2 ^ 31) (hL : L 237 5 = lN x) {a b c : Int32} (h6x : I 237 6 = a) (h7x : I 237 7 = b) (h8x : I 237 8 = c) (hn : cn v 7 + n ≤ 20000) : Ec X 7 10 [.ref 237, .ref m, .ref ru, .int (nI n)] (sh, I, L, R) (fun r h' => r = none ∧ ∃ (J : Nat → Nat → Int32) (M : Nat → Nat → Int64), h' = (sh, J, M, xu R 241 0 (some s)) ∧ J 237 6 = a + dryN (dwN nxD (xu v 1 13 (nI x)) cd cl n).1 ∧ J 237 7 = b + (paidN (dwN nxD (xu v 1 13 (nI x)) cd cl n).1 - paidN v) ∧ J 237 8 = c + nI (dwN nxD (xu v 1 13 (nI x)) cd cl n).2 ∧ M 237 5 = lN (dxV (dwN nxD (xu v 1 13 (nI x)) cd cl n).1) ∧ (∀ i t, i < 241 ∨ 249 < i → i ≠ 240 → (i ≠ 237 ∨ (t ≠ 4 ∧ t ≠ 6 ∧ t ≠ 7 ∧ t ≠ 8)) → J i t = I i t) ∧ ∀ p q, p ≠ 238 → p ≠ 239 → (p ≠ 237 ∨ q ≠ 5) → M p q = L p q) := by
  have hM2x := hC.2.2.2.2.2.2.2.2
  have r3x := hC.2.2.2.2.2.2.2.1
  have h44x := hw.1.2.2.2.2.2.1
  have h98x := hw.1.2.2.2.2.2.2.2.2.2.2.1
  refine Ec.of (Nat.le_of_ble_eq_true rfl) ?_
  refine e_aload rfl rfl ?_
  refine e_getR rfl hC.1 r3x ?_
  refine e_aload rfl rfl ?_
  refine Eg.c2 rfl (by decide) (by decide) rfl (Nat.le_of_ble_eq_true rfl) (xrcv_of rfl hM2x.1 rfl) ((cs_copyFrom hM2x hM hms (Or.inr (by omega))).mono (by decide)) (fun r1x h1x hq => ?_)
  obtain ⟨rfl, J, rfl, cp⟩ := hq
  have fr : ∀ i k, i < 241 ∨ 249 < i → J i k = I i k := fun i k q => cp.2.2.2 i k (by omega)
  have hms' : xu R 241 0 (some s) m 0 = some s := (xu_o (Or.inl (by omega))).trans hms
  refine (cs_drawDays (CrAt.frR hC (fun k => xu_o (Or.inl (by decide))) (fun k q => xu_o (Or.inr q))) xu_at (hU.frR (fun k => xu_o (Or.inl (by omega)))) (hru.fr (fun i k q1x q2x => fr i k (by omega))) hok hS.put (hV.fr (fun i k q1x q2x => fr i k (by omega))) hw hM.put hms' (hW.fr (fun i k q1x q2x => fr i k (by omega))) (hW.cp cp h44x h98x) hm hs hru2 hx hL ((fr 237 6 (by omega)).trans h6x) ((fr 237 7 (by omega)).trans h7x) ((fr 237 8 (by omega)).trans h8x) hn).imp ?_
  rintro r h' ⟨rfl, J', M', rfl, a1x, a2x, a3x, a4x, a5x, a6x⟩
  exact ⟨rfl, J', M', rfl, a1x, a2x, a3x, a4x, fun i t q1x q2x q3x => (a5x i t q1x q2x q3x).trans (fr i t q1x), a6x⟩
theorem cs_startDraws (h237x : sh[237]? = some (0, 9)) {x : Nat} : Ec X 1 9 [.ref 237, .int (nI x)] (sh, I, L, R) (fun r h' => r = none ∧ ∃ (J : Nat → Nat → Int32) (M : Nat → Nat → Int64), h' = (sh, J, M, R) ∧ J 237 6 = 0 ∧ J 237 7 = 0 ∧ J 237 8 = 0 ∧ M 237 5 = (nI x).toInt64 ∧ (∀ i t, i ≠ 237 ∨ (t ≠ 6 ∧ t ≠ 7 ∧ t ≠ 8) → J i t = I i t) ∧ ∀ p q, p ≠ 237 ∨ q ≠ 5 → M p q = L p q) := by
  refine Ec.of (Nat.le_of_ble_eq_true rfl) ?_
  refine e_aload rfl rfl ?_
  refine e_iload rfl rfl ?_
  refine e_i2l rfl ?_
  refine e_putL rfl h237x ?_
  refine e_aload rfl rfl ?_
  refine e_ipush rfl ?_
  refine e_putIJ rfl h237x (fun J1x g1x f1x => ?_)
  refine e_aload rfl rfl ?_
  refine e_ipush rfl ?_
  refine e_putIJ rfl h237x (fun J2x g2x f2x => ?_)
  refine e_aload rfl rfl ?_
  refine e_ipush rfl ?_
  refine e_putIJ rfl h237x (fun J3x g3x f3x => ?_)
  exact Eg.ret rfl (by decide) rfl ⟨rfl, J3x, _, rfl, (f3x 237 6 (by decide)).trans ((f2x 237 6 (by decide)).trans g1x), (f3x 237 7 (by decide)).trans g2x, g3x, xu_at, fun i t q => (f3x i t (by omega)).trans ((f2x i t (by omega)).trans (f1x i t (by omega))), fun p q r => xu_o r⟩
end DC
