/-! A SEA read: what its clauses say; the one side -/
section CT2x
variable {X : xX} {h : xH} {sh : List (Nat × Nat)} {I : Nat → Nat → Int32} {L : Nat → Nat → Int64} {R : Nat → Nat → Option Nat} {B : Nat → Nat} {n : Nat} {u : Nat → Nat → Int32} {s : Nat}
/-- the numbers of a clause of the kind w, from q on: the fault -/
def sPF (B : Nat → Nat) (n : Nat) (u : Nat → Nat → Int32) (w q : Nat) : Int32 := if w = 0 then (kF B n q 0 2 12) else if w = 1 then rwF B n (kP B n (kP B n q 0 0 9) (kF B n q 0 0 9) 0 29) (kF B n (kP B n q 0 0 9) (kF B n q 0 0 9) 0 29) else if w = 2 then (kF B n (kP B n q 0 0 (cn u 0 - 1)) (kF B n q 0 0 (cn u 0 - 1)) 0 20) else if w = 3 then (kF B n (kP B n (kP B n q 0 0 (cn u 0 - 1)) (kF B n q 0 0 (cn u 0 - 1)) 0 60) (kF B n (kP B n q 0 0 (cn u 0 - 1)) (kF B n q 0 0 (cn u 0 - 1)) 0 60) 1 99) else if w = 4 then (kF B n (kP B n (kP B n q 0 0 (cn u 0 - 1)) (kF B n q 0 0 (cn u 0 - 1)) 0 60) (kF B n (kP B n q 0 0 (cn u 0 - 1)) (kF B n q 0 0 (cn u 0 - 1)) 0 60) 1 99) else if w = 5 then (kF B n (kP B n (kP B n q 0 0 (cn u 0 - 1)) (kF B n q 0 0 (cn u 0 - 1)) 1 30) (kF B n (kP B n q 0 0 (cn u 0 - 1)) (kF B n q 0 0 (cn u 0 - 1)) 1 30) 0 20) else (kF B n (kP B n q 0 0 9) (kF B n q 0 0 9) (max 1 (tn B n q)) 9)
/-- the place behind them, if they are right -/
def sPP (B : Nat → Nat) (n : Nat) (u : Nat → Nat → Int32) (w q : Nat) : Nat := if w = 0 then (kP B n q 0 2 12) else if w = 1 then nxt B n (kP B n (kP B n q 0 0 9) (kF B n q 0 0 9) 0 29) else if w = 2 then (kP B n (kP B n q 0 0 (cn u 0 - 1)) (kF B n q 0 0 (cn u 0 - 1)) 0 20) else if w = 3 then (kP B n (kP B n (kP B n q 0 0 (cn u 0 - 1)) (kF B n q 0 0 (cn u 0 - 1)) 0 60) (kF B n (kP B n q 0 0 (cn u 0 - 1)) (kF B n q 0 0 (cn u 0 - 1)) 0 60) 1 99) else if w = 4 then (kP B n (kP B n (kP B n q 0 0 (cn u 0 - 1)) (kF B n q 0 0 (cn u 0 - 1)) 0 60) (kF B n (kP B n q 0 0 (cn u 0 - 1)) (kF B n q 0 0 (cn u 0 - 1)) 0 60) 1 99) else if w = 5 then (kP B n (kP B n (kP B n q 0 0 (cn u 0 - 1)) (kF B n q 0 0 (cn u 0 - 1)) 1 30) (kF B n (kP B n q 0 0 (cn u 0 - 1)) (kF B n q 0 0 (cn u 0 - 1)) 1 30) 0 20) else (kP B n (kP B n q 0 0 9) (kF B n q 0 0 9) (max 1 (tn B n q)) 9)
/-- what is read then -/
def sPU (B : Nat → Nat) (n : Nat) (u : Nat → Nat → Int32) (w q : Nat) : Nat → Nat → Int32 := if w = 0 then xu u 1 0 (nI (tn B n q)) else if w = 1 then fTrn u (nI (tn B n q)) (nI (tn B n (kP B n q 0 0 9))) (rwN B n (kP B n (kP B n q 0 0 9) (kF B n q 0 0 9) 0 29)) (fun i => nI (B ((kP B n (kP B n q 0 0 9) (kF B n q 0 0 9) 0 29) + i) - 48)) else if w = 2 then xu u 2 (tn B n q) (nI (tn B n (kP B n q 0 0 (cn u 0 - 1)))) else if w = 3 then telF u 2 7 8 9 (nI (tn B n q)) (nI (tn B n (kP B n q 0 0 (cn u 0 - 1)))) (nI (tn B n (kP B n (kP B n q 0 0 (cn u 0 - 1)) (kF B n q 0 0 (cn u 0 - 1)) 0 60))) else if w = 4 then telF u 3 10 11 12 (nI (tn B n q)) (nI (tn B n (kP B n q 0 0 (cn u 0 - 1)))) (nI (tn B n (kP B n (kP B n q 0 0 (cn u 0 - 1)) (kF B n q 0 0 (cn u 0 - 1)) 0 60))) else if w = 5 then telF u 4 13 15 16 (nI (tn B n q)) (nI (tn B n (kP B n q 0 0 (cn u 0 - 1)))) (nI (tn B n (kP B n (kP B n q 0 0 (cn u 0 - 1)) (kF B n q 0 0 (cn u 0 - 1)) 1 30))) else fStm u (nI (tn B n q)) (nI (tn B n (kP B n q 0 0 9)))
/-- whether a kind is full -/
def sFull (u : Nat → Nat → Int32) (st : Bool) (w : Nat) : Bool := decide (w = 1 ∧ 3 ≤ cn u 1 ∨ w = 3 ∧ 4 ≤ cn u 2 ∨ w = 4 ∧ 4 ≤ cn u 3 ∨ w = 5 ∧ 4 ≤ cn u 4 ∨ w = 6 ∧ st = true)
theorem sFull_iff {st : Bool} {w : Nat} : sFull u st w = true ↔ (w = 1 ∧ 3 ≤ cn u 1 ∨ w = 3 ∧ 4 ≤ cn u 2 ∨ w = 4 ∧ 4 ≤ cn u 3 ∨ w = 5 ∧ 4 ≤ cn u 4 ∨ w = 6 ∧ st = true) := decide_eq_true_iff
/-- which kind of clause begins at p: 7 for none -/
def sKd (B : Nat → Nat) (n p : Nat) : Nat := if wdH B n p < 0 ∨ 6 < wdH B n p then 7 else (wdH B n p).toNatClampNeg
theorem sKd_7 {p : Nat} : sKd B n p = 7 ↔ (wdH B n p < 0 ∨ 6 < wdH B n p) := by
  unfold sKd
  by_cases h : wdH B n p < 0 ∨ 6 < wdH B n p
  · rw [if_pos h]; exact ⟨fun _ => h, fun _ => rfl⟩
  · rw [if_neg h]
    obtain ⟨j, hj, e⟩ := nI_of2 (x := wdH B n p) (M := 6) (n := 6) (by decide) (fun q => h (Or.inl q)) (Int32.not_lt.mp (fun q => h (Or.inr q)))
    rw [e, nI_clamp (by omega)]
    refine ⟨fun q => by omega, fun q => absurd (e ▸ q) h⟩
theorem sKd_get {p : Nat} (h : ¬ (wdH B n p < 0 ∨ 6 < wdH B n p)) : wdH B n p = nI (sKd B n p) ∧ sKd B n p < 7 := by
  unfold sKd
  rw [if_neg h]
  obtain ⟨j, hj, e⟩ := nI_of2 (x := wdH B n p) (M := 6) (n := 6) (by decide) (fun q => h (Or.inl q)) (Int32.not_lt.mp (fun q => h (Or.inr q)))
  rw [e, nI_clamp (by omega)]; exact ⟨rfl, by omega⟩
/-- a clause at p, the i-th: is it refused at once? -/
def sBad (u : Nat → Nat → Int32) (st : Bool) (i w : Nat) : Bool := decide (40 ≤ i ∨ ¬ (i = 0 ↔ w = 0) ∨ sFull u st w = true)
def sCF (B : Nat → Nat) (n i p : Nat) (u : Nat → Nat → Int32) (st : Bool) : Int32 := if sKd B n p = 7 then fl 0 p 0 else if sBad u st i (sKd B n p) then fl 0 p 4 else sPF B n u (sKd B n p) (nxt B n p)
/-- the clauses from the i-th on: the first fault, and what is read without one -/
def sRd (B : Nat → Nat) (n : Nat) : Nat → Nat → Nat → (Nat → Nat → Int32) → Bool → Int32 × (Nat → Nat → Int32)
  | 0, _, _, u, _ => (0, u)
  | k + 1, i, p, u, st =>
    if ¬ sCF B n i p u st = 0 then (sCF B n i p u st, u)
    else if ¬ goF B n (sPP B n u (sKd B n p) (nxt B n p)) 0 = 0 then (goF B n (sPP B n u (sKd B n p) (nxt B n p)) 0, u)
    else if goB B n (sPP B n u (sKd B n p) (nxt B n p)) 0 = true then sRd B n k (i + 1) (nxt B n (sPP B n u (sKd B n p) (nxt B n p))) (sPU B n u (sKd B n p) (nxt B n p)) (st || sKd B n p == 6)
    else (0, sPU B n u (sKd B n p) (nxt B n p))
theorem sPF_0 {q : Nat} : sPF B n u 0 q = (kF B n q 0 2 12) := by unfold sPF; rw [if_pos rfl]
theorem sPF_1 {q : Nat} : sPF B n u 1 q = rwF B n (kP B n (kP B n q 0 0 9) (kF B n q 0 0 9) 0 29) (kF B n (kP B n q 0 0 9) (kF B n q 0 0 9) 0 29) := by unfold sPF; rw [if_neg (by decide), if_pos rfl]
theorem sPF_2 {q : Nat} : sPF B n u 2 q = (kF B n (kP B n q 0 0 (cn u 0 - 1)) (kF B n q 0 0 (cn u 0 - 1)) 0 20) := by unfold sPF; rw [if_neg (by decide), if_neg (by decide), if_pos rfl]
theorem sPF_3 {q : Nat} : sPF B n u 3 q = (kF B n (kP B n (kP B n q 0 0 (cn u 0 - 1)) (kF B n q 0 0 (cn u 0 - 1)) 0 60) (kF B n (kP B n q 0 0 (cn u 0 - 1)) (kF B n q 0 0 (cn u 0 - 1)) 0 60) 1 99) := by unfold sPF; rw [if_neg (by decide), if_neg (by decide), if_neg (by decide), if_pos rfl]
theorem sPF_4 {q : Nat} : sPF B n u 4 q = (kF B n (kP B n (kP B n q 0 0 (cn u 0 - 1)) (kF B n q 0 0 (cn u 0 - 1)) 0 60) (kF B n (kP B n q 0 0 (cn u 0 - 1)) (kF B n q 0 0 (cn u 0 - 1)) 0 60) 1 99) := by unfold sPF; rw [if_neg (by decide), if_neg (by decide), if_neg (by decide), if_neg (by decide), if_pos rfl]
theorem sPF_5 {q : Nat} : sPF B n u 5 q = (kF B n (kP B n (kP B n q 0 0 (cn u 0 - 1)) (kF B n q 0 0 (cn u 0 - 1)) 1 30) (kF B n (kP B n q 0 0 (cn u 0 - 1)) (kF B n q 0 0 (cn u 0 - 1)) 1 30) 0 20) := by unfold sPF; rw [if_neg (by decide), if_neg (by decide), if_neg (by decide), if_neg (by decide), if_neg (by decide), if_pos rfl]
theorem sPF_6 {q : Nat} : sPF B n u 6 q = (kF B n (kP B n q 0 0 9) (kF B n q 0 0 9) (max 1 (tn B n q)) 9) := by unfold sPF; rw [if_neg (by decide), if_neg (by decide), if_neg (by decide), if_neg (by decide), if_neg (by decide), if_neg (by decide)]
theorem sPP_0 {q : Nat} : sPP B n u 0 q = (kP B n q 0 2 12) := by unfold sPP; rw [if_pos rfl]
theorem sPP_1 {q : Nat} : sPP B n u 1 q = nxt B n (kP B n (kP B n q 0 0 9) (kF B n q 0 0 9) 0 29) := by unfold sPP; rw [if_neg (by decide), if_pos rfl]
theorem sPP_2 {q : Nat} : sPP B n u 2 q = (kP B n (kP B n q 0 0 (cn u 0 - 1)) (kF B n q 0 0 (cn u 0 - 1)) 0 20) := by unfold sPP; rw [if_neg (by decide), if_neg (by decide), if_pos rfl]
theorem sPP_3 {q : Nat} : sPP B n u 3 q = (kP B n (kP B n (kP B n q 0 0 (cn u 0 - 1)) (kF B n q 0 0 (cn u 0 - 1)) 0 60) (kF B n (kP B n q 0 0 (cn u 0 - 1)) (kF B n q 0 0 (cn u 0 - 1)) 0 60) 1 99) := by unfold sPP; rw [if_neg (by decide), if_neg (by decide), if_neg (by decide), if_pos rfl]
theorem sPP_4 {q : Nat} : sPP B n u 4 q = (kP B n (kP B n (kP B n q 0 0 (cn u 0 - 1)) (kF B n q 0 0 (cn u 0 - 1)) 0 60) (kF B n (kP B n q 0 0 (cn u 0 - 1)) (kF B n q 0 0 (cn u 0 - 1)) 0 60) 1 99) := by unfold sPP; rw [if_neg (by decide), if_neg (by decide), if_neg (by decide), if_neg (by decide), if_pos rfl]
theorem sPP_5 {q : Nat} : sPP B n u 5 q = (kP B n (kP B n (kP B n q 0 0 (cn u 0 - 1)) (kF B n q 0 0 (cn u 0 - 1)) 1 30) (kF B n (kP B n q 0 0 (cn u 0 - 1)) (kF B n q 0 0 (cn u 0 - 1)) 1 30) 0 20) := by unfold sPP; rw [if_neg (by decide), if_neg (by decide), if_neg (by decide), if_neg (by decide), if_neg (by decide), if_pos rfl]
theorem sPP_6 {q : Nat} : sPP B n u 6 q = (kP B n (kP B n q 0 0 9) (kF B n q 0 0 9) (max 1 (tn B n q)) 9) := by unfold sPP; rw [if_neg (by decide), if_neg (by decide), if_neg (by decide), if_neg (by decide), if_neg (by decide), if_neg (by decide)]
theorem sPU_0 {q : Nat} : sPU B n u 0 q = xu u 1 0 (nI (tn B n q)) := by unfold sPU; rw [if_pos rfl]
theorem sPU_1 {q : Nat} : sPU B n u 1 q = fTrn u (nI (tn B n q)) (nI (tn B n (kP B n q 0 0 9))) (rwN B n (kP B n (kP B n q 0 0 9) (kF B n q 0 0 9) 0 29)) (fun i => nI (B ((kP B n (kP B n q 0 0 9) (kF B n q 0 0 9) 0 29) + i) - 48)) := by unfold sPU; rw [if_neg (by decide), if_pos rfl]
theorem sPU_2 {q : Nat} : sPU B n u 2 q = xu u 2 (tn B n q) (nI (tn B n (kP B n q 0 0 (cn u 0 - 1)))) := by unfold sPU; rw [if_neg (by decide), if_neg (by decide), if_pos rfl]
theorem sPU_3 {q : Nat} : sPU B n u 3 q = telF u 2 7 8 9 (nI (tn B n q)) (nI (tn B n (kP B n q 0 0 (cn u 0 - 1)))) (nI (tn B n (kP B n (kP B n q 0 0 (cn u 0 - 1)) (kF B n q 0 0 (cn u 0 - 1)) 0 60))) := by unfold sPU; rw [if_neg (by decide), if_neg (by decide), if_neg (by decide), if_pos rfl]
theorem sPU_4 {q : Nat} : sPU B n u 4 q = telF u 3 10 11 12 (nI (tn B n q)) (nI (tn B n (kP B n q 0 0 (cn u 0 - 1)))) (nI (tn B n (kP B n (kP B n q 0 0 (cn u 0 - 1)) (kF B n q 0 0 (cn u 0 - 1)) 0 60))) := by unfold sPU; rw [if_neg (by decide), if_neg (by decide), if_neg (by decide), if_neg (by decide), if_pos rfl]
theorem sPU_5 {q : Nat} : sPU B n u 5 q = telF u 4 13 15 16 (nI (tn B n q)) (nI (tn B n (kP B n q 0 0 (cn u 0 - 1)))) (nI (tn B n (kP B n (kP B n q 0 0 (cn u 0 - 1)) (kF B n q 0 0 (cn u 0 - 1)) 1 30))) := by unfold sPU; rw [if_neg (by decide), if_neg (by decide), if_neg (by decide), if_neg (by decide), if_neg (by decide), if_pos rfl]
theorem sPU_6 {q : Nat} : sPU B n u 6 q = fStm u (nI (tn B n q)) (nI (tn B n (kP B n q 0 0 9))) := by unfold sPU; rw [if_neg (by decide), if_neg (by decide), if_neg (by decide), if_neg (by decide), if_neg (by decide), if_neg (by decide)]
theorem sFull_n {st : Bool} {w : Nat} (h : ¬ sFull u st w = true) : (w = 1 → cn u 1 < 3) ∧ (w = 3 → cn u 2 < 4) ∧ (w = 4 → cn u 3 < 4) ∧ (w = 5 → cn u 4 < 4) := by
  have nf := fun x => h (sFull_iff.mpr x)
  refine ⟨fun e => Nat.lt_of_not_le (fun q => nf (Or.inl ⟨e, q⟩)), fun e => Nat.lt_of_not_le (fun q => nf (Or.inr (Or.inl ⟨e, q⟩))), fun e => Nat.lt_of_not_le (fun q => nf (Or.inr (Or.inr (Or.inl ⟨e, q⟩)))), fun e => Nat.lt_of_not_le (fun q => nf (Or.inr (Or.inr (Or.inr (Or.inl ⟨e, q⟩)))))⟩
theorem cs_readNumbers (hT : TpAt sh R) (hA : SRAt sh R s) (hS : SeaAt sh R s) {E q : Nat} (hr : Rd I B n E q 0) (hV : SeaS I s u) (hw : WfU u) {w : Nat} (hw7x : w < 7) {st : Bool} (hfl : ¬ sFull u st w = true) (h2x : w ≠ 0 → 2 ≤ cn u 0) : Ec X 5 101 [.ref 6, .int (nI w)] (sh, I, L, R) (fun r h' => r = none ∧ ∃ (J : Nat → Nat → Int32) (p' : Nat), h' = (sh, J, L, R) ∧ Rd J B n E p' (sPF B n u w q) ∧ (sPF B n u w q = 0 → p' = sPP B n u w q ∧ SeaS J s (sPU B n u w q)) ∧ SG I J s ∧ J 6 2 = if w = 6 then 1 else I 6 2) := by
  have hn := hr.1.1
  have hq := hr.le
  have hb := hw.1.2
  have h9x := hA.2.2.2
  have c0x : I s 0 = nI (cn u 0) := hV.1.1 0 (by decide)
  have nf := sFull_n hfl
  refine Ec.of (Nat.le_of_ble_eq_true rfl) ?_
  refine e_iload rfl rfl ?_
  have cases7 : w = 0 ∨ w = 1 ∨ w = 2 ∨ w = 3 ∨ w = 4 ∨ w = 5 ∨ w = 6 := by omega
  rcases cases7 with rfl | rfl | rfl | rfl | rfl | rfl | rfl
  · refine e_tsw rfl (by decide) rfl ?_
    refine e_aload rfl rfl ?_
    refine e_getR rfl hA.1 hA.2.2.1 ?_
    refine e_aload rfl rfl ?_
    refine e_getR rfl hA.1 hA.2.1 ?_
    refine e_ipush rfl ?_
    refine e_ipush rfl ?_
    refine Eg.c3 rfl (by decide) (by decide) rfl (Nat.le_of_ble_eq_true rfl) (xrcv_of rfl hT.1 rfl) ((cs_takeNumber hT hr (lo := 2) (hi := 12)).mono (by decide)) (fun r1x h1x hq => ?_)
    obtain ⟨rfl, J, rfl, a1x, a2x⟩ := hq
    refine e_putIJ rfl hS.1 (fun J11x g11x f11x => ?_)
    refine e_goto rfl ?_
    rw [sPF_0, sPP_0, sPU_0]
    refine Eg.ret rfl (by decide) rfl ⟨rfl, J11x, _, rfl, Rd.any a1x (fun i k hi => f11x i k (by omega)), fun e => ⟨rfl, ?_⟩, fun i k q1x q2x q3x => (f11x i k (by omega)).trans (a2x i k q1x), (f11x 6 2 (by omega)).trans (a2x 6 2 (by decide))⟩
    have t1x := tk_get (B := B) (a := 2) (b := 12) hq hn (by decide) (by decide) e
    exact (hV.fr (fun i k q1x q2x => a2x i k (by omega))).sea (by omega) (g11x.trans t1x.1) (fun p r hp => f11x p r hp)
  · refine e_tsw rfl (by decide) rfl ?_
    refine e_aload rfl rfl ?_
    refine Eg.c1 rfl (by decide) (by decide) rfl (Nat.le_of_ble_eq_true rfl) (xrcv_of rfl hA.1 rfl) ((cs_readTrain hT hA hS hr hV hw (nf.1 rfl) rfl rfl rfl rfl).mono (by decide)) (fun r1x h1x hq => ?_)
    obtain ⟨rfl, J, rfl, a1x, a2x, a3x⟩ := hq
    refine e_goto rfl ?_
    rw [sPF_1, sPP_1, sPU_1]
    exact Eg.ret rfl (by decide) rfl ⟨rfl, J, _, rfl, a1x, fun e => ⟨if_pos e, a2x e⟩, a3x.sg, a3x 6 2 (by decide) (by omega)⟩
  · refine e_tsw rfl (by decide) rfl ?_
    refine e_aload rfl rfl ?_
    refine Eg.c1 rfl (by decide) (by decide) rfl (Nat.le_of_ble_eq_true rfl) (xrcv_of rfl hA.1 rfl) ((cs_readGround hT hA hS hr hV hw (h2x (by decide)) rfl rfl rfl rfl).mono (by decide)) (fun r1x h1x hq => ?_)
    obtain ⟨rfl, J, rfl, a1x, a2x, a3x⟩ := hq
    refine e_goto rfl ?_
    rw [sPF_2, sPP_2, sPU_2]
    exact Eg.ret rfl (by decide) rfl ⟨rfl, J, _, rfl, a1x, fun e => ⟨rfl, a2x e⟩, a3x.sg, a3x 6 2 (by decide) (by omega)⟩
  · refine e_tsw rfl (by decide) rfl ?_
    refine e_aload rfl rfl ?_
    refine e_aload rfl rfl ?_
    refine e_getR rfl hA.1 hA.2.2.1 ?_
    refine e_getIv rfl hS.1 (hV.1.1 2 (by decide)) ?_
    refine Eg.c2 rfl (by decide) (by decide) rfl (Nat.le_of_ble_eq_true rfl) (xrcv_of rfl hA.1 rfl) ((cs_readWell hT hA hS hr hV hw (h2x (by decide)) (nf.2.1 rfl) rfl rfl rfl rfl rfl rfl).mono (by decide)) (fun r1x h1x hq => ?_)
    obtain ⟨rfl, J, rfl, a1x, a2x, a3x⟩ := hq
    refine e_goto rfl ?_
    rw [sPF_3, sPP_3, sPU_3]
    exact Eg.ret rfl (by decide) rfl ⟨rfl, J, _, rfl, a1x, fun e => ⟨rfl, a2x e⟩, a3x.sg, a3x 6 2 (by decide) (by omega)⟩
  · refine e_tsw rfl (by decide) rfl ?_
    refine e_aload rfl rfl ?_
    refine e_ipush rfl ?_
    refine e_aload rfl rfl ?_
    refine e_getR rfl hA.1 hA.2.2.1 ?_
    refine e_getIv rfl hS.1 (hV.1.1 3 (by decide)) ?_
    refine e_iadd rfl ?_
    rw [show 4 + (nI (cn u 3)) = nI (4 + cn u 3) from nI_add 4 _]
    refine Eg.c2 rfl (by decide) (by decide) rfl (Nat.le_of_ble_eq_true rfl) (xrcv_of rfl hA.1 rfl) ((cs_readTown hT hA hS hr hV hw (h2x (by decide)) (nf.2.2.1 rfl) rfl rfl rfl rfl rfl rfl).mono (by decide)) (fun r1x h1x hq => ?_)
    obtain ⟨rfl, J, rfl, a1x, a2x, a3x⟩ := hq
    refine e_goto rfl ?_
    rw [sPF_4, sPP_4, sPU_4]
    exact Eg.ret rfl (by decide) rfl ⟨rfl, J, _, rfl, a1x, fun e => ⟨rfl, a2x e⟩, a3x.sg, a3x 6 2 (by decide) (by omega)⟩
  · refine e_tsw rfl (by decide) rfl ?_
    refine e_aload rfl rfl ?_
    refine Eg.c1 rfl (by decide) (by decide) rfl (Nat.le_of_ble_eq_true rfl) (xrcv_of rfl hA.1 rfl) ((cs_readShip hT hA hS hr hV hw (h2x (by decide)) (nf.2.2.2 rfl) rfl rfl rfl rfl rfl rfl).mono (by decide)) (fun r1x h1x hq => ?_)
    obtain ⟨rfl, J, rfl, a1x, a2x, a3x⟩ := hq
    refine e_goto rfl ?_
    rw [sPF_5, sPP_5, sPU_5]
    exact Eg.ret rfl (by decide) rfl ⟨rfl, J, _, rfl, a1x, fun e => ⟨rfl, a2x e⟩, a3x.sg, a3x 6 2 (by decide) (by omega)⟩
  · refine e_tswd rfl (by decide) ?_
    refine e_aload rfl rfl ?_
    refine Eg.c1 rfl (by decide) (by decide) rfl (Nat.le_of_ble_eq_true rfl) (xrcv_of rfl hA.1 rfl) ((cs_readStorm hT hA hS hr hV hw rfl rfl rfl rfl).mono (by decide)) (fun r1x h1x hq => ?_)
    obtain ⟨rfl, J, rfl, a1x, a2x, a3x⟩ := hq
    rw [sPF_6, sPP_6, sPU_6]
    exact Eg.ret rfl (by decide) rfl ⟨rfl, J, _, rfl, a1x, fun e => ⟨rfl, a2x e⟩, a3x.1, a3x.2⟩
end CT2x
