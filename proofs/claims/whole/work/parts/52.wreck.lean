/-! wrecks -/
section QY
variable {X : xX} {h : xH} {sh : List (Nat × Nat)} {I : Nat → Nat → Int32} {L : Nat → Nat → Int64} {R : Nat → Nat → Option Nat} {v : Nat → Nat → Int32} {w s m : Nat}
/-- what a world keeps beside its moments -/
def WorldAt (sh : List (Nat × Nat)) (R : Nat → Nat → Option Nat) (w : Nat) : Prop := sh[w]? = some (10, 12) ∧ R w 0 = some (w + 12) ∧ (sh[w + 1]? = some (26, 20) ∧ R w 1 = some (w + 1)) ∧ (sh[w + 2]? = some (20, 10) ∧ R w 4 = some (w + 2)) ∧ (sh[w + 3]? = some (20, 10) ∧ R w 5 = some (w + 3)) ∧ (sh[w + 4]? = some (20, 10) ∧ R w 7 = some (w + 4)) ∧ (sh[w + 5]? = some (20, 10) ∧ R w 8 = some (w + 5)) ∧ (sh[w + 6]? = some (20, 10) ∧ R w 9 = some (w + 6)) ∧ (sh[w + 7]? = some (2, 5) ∧ R w 10 = some (w + 7)) ∧ (sh[w + 8]? = some (20, 6) ∧ R (w + 7) 1 = some (w + 8)) ∧ (sh[w + 9]? = some (20, 6) ∧ R (w + 7) 2 = some (w + 9)) ∧ (sh[w + 10]? = some (20, 6) ∧ R (w + 7) 3 = some (w + 10)) ∧ (sh[w + 11]? = some (20, 64) ∧ R (w + 7) 4 = some (w + 11))
def WorV (I : Nat → Nat → Int32) (w : Nat) (v : Nat → Nat → Int32) : Prop := I w 3 = nI (cn v 10) ∧ (∀ k, k < cn v 10 → I (w + 2) k = v 24 k ∧ I (w + 3) k = v 25 k) ∧ I w 6 = nI (cn v 11) ∧ (∀ k, k < cn v 11 → I (w + 4) k = v 26 k ∧ I (w + 5) k = v 27 k ∧ I (w + 6) k = v 28 k) ∧ I (w + 7) 0 = nI (cn v 12) ∧ (∀ k, k < cn v 12 → I (w + 8) k = v 29 k ∧ I (w + 9) k = v 30 k ∧ I (w + 10) k = v 31 k) ∧ I w 11 = v 1 13
/-- what was told is in order -/
def WfL (v : Nat → Nat → Int32) : Prop := (∀ k, k < cn v 10 → (∃ d, v 24 k = nI d ∧ d ≤ 9999) ∧ (v 25 k = 0 ∨ v 25 k = 1)) ∧ (∀ k, k < cn v 11 → ∃ c d h, v 26 k = nI c ∧ c < cn v 0 ∧ v 27 k = nI d ∧ d ≤ 9999 ∧ v 28 k = nI h ∧ h ≤ 99) ∧ (∀ k, k < cn v 12 → ∃ a b c, v 29 k = nI a ∧ 1 ≤ a ∧ a ≤ 99 ∧ v 30 k = nI b ∧ b ≤ 99 ∧ v 31 k = nI c ∧ c ≤ 99)
/-- height at a sight -/
def uF (v : Nat → Nat → Int32) (c k : Nat) : Int32 := lvF v (cn v 8) c (v 24 k)
def lsM (v : Nat → Nat → Int32) (c : Nat) : Nat → Int32 := itN (fun i z => if v 25 i = 0 then z else if z < uF v c i then uF v c i else z) 0
def moM (v : Nat → Nat → Int32) (c : Nat) : Nat → Int32 := itN (fun i z => if v 25 i = 0 then (if uF v c i - 1 < z then uF v c i - 1 else z) else z) 60
def soA (v : Nat → Nat → Int32) (c M n : Nat) : Bool := decide (∀ k, k < n → (uF v c k ≤ nI M ↔ v 25 k = 1))
theorem soA_iff {c M n : Nat} : soA v c M n = true ↔ ∀ k, k < n → (uF v c k ≤ nI M ↔ v 25 k = 1) := decide_eq_true_iff
theorem pos0_nn {x : Int32} : ¬ pos0 x < 0 := by
  unfold pos0
  by_cases h : 0 < x
  · rw [if_pos h]; exact Int32.not_lt.mpr (Int32.le_of_lt h)
  · rw [if_neg h]; decide
theorem le_m1 {x y : Int32} (h : ¬ x < 0) : y ≤ x - 1 ↔ ¬ x ≤ y := by
  obtain ⟨n, hn, e⟩ := nI_of h
  subst e
  have e1 : (1 : Int32).toInt = 1 := by decide
  rw [Int32.le_iff_toInt_le, Int32.le_iff_toInt_le, Int32.toInt_sub, nI_toInt hn, e1, Int.bmod_eq_of_le (by omega) (by omega)]
  omega
theorem so_iff {c M n : Nat} (hL : WfL v) (hM : M ≤ 60) (hn : n ≤ cn v 10) : (lsM v c n ≤ nI M ∧ nI M ≤ moM v c n) ↔ soA v c M n = true := by
  induction n with
  | zero =>
    rw [soA_iff]
    refine ⟨fun _ k hk => absurd hk (by omega), fun _ => ⟨?_, ?_⟩⟩
    · exact nI_le (a := 0) (by omega) (by omega)
    · exact nI_le (b := 60) hM (by omega)
  | succ n ih =>
    have ih := ih (by omega)
    have hv := (hL.1 n (by omega)).2
    have hu : ¬ uF v c n < 0 := pos0_nn
    have hs : soA v c M (n + 1) = true ↔ soA v c M n = true ∧ (uF v c n ≤ nI M ↔ v 25 n = 1) := by
      rw [soA_iff, soA_iff]
      exact ⟨fun q => ⟨fun k hk => q k (by omega), q n (by omega)⟩, fun q => lt_snoc q.1 q.2⟩
    rw [hs, ← ih]
    show ((if v 25 n = 0 then lsM v c n else if lsM v c n < uF v c n then uF v c n else lsM v c n) ≤ nI M ∧ nI M ≤ (if v 25 n = 0 then (if uF v c n - 1 < moM v c n then uF v c n - 1 else moM v c n) else moM v c n)) ↔ _
    have hm := le_m1 (y := nI M) hu
    rcases hv with h | h
    · rw [if_pos h, if_pos h, h]
      have h01 : ¬ (0 : Int32) = 1 := by decide
      by_cases hc : uF v c n - 1 < moM v c n
      · rw [if_pos hc]; grind
      · rw [if_neg hc]; grind
    · have h10 : ¬ v 25 n = 0 := by rw [h]; decide
      rw [if_neg h10, if_neg h10, h]
      by_cases hc : lsM v c n < uF v c n
      · rw [if_pos hc]; grind
      · rw [if_neg hc]; grind
/-- the cells in which it can lie -/
def wrN (v : Nat → Nat → Int32) (M : Nat) : Nat → Nat := itN (fun c z => if soA v c M (cn v 10) then z ||| 1 <<< c else z) 0
theorem wrN_lt {M n : Nat} (hn : n ≤ 12) : wrN v M n < 4096 := by
  induction n with
  | zero => exact (by decide : (0 : Nat) < 4096)
  | succ n ih =>
    have ih := ih (by omega)
    show (if soA v n M (cn v 10) then wrN v M n ||| 1 <<< n else wrN v M n) < 4096
    split
    · refine Nat.or_lt_two_pow (n := 12) ih ?_
      rw [Nat.shiftLeft_eq, Nat.one_mul]
      exact Nat.pow_lt_pow_right (by decide) (by omega)
    · exact ih
theorem cs_undug (hS : SeaAt sh R s) (hV : SeaV I s v) (hw : Wf v) (hM : MomAt sh R m) (hms : R m 0 = some s) (hW : MomV I m v) {c : Nat} {d : Int32} (hc : c < 12) : Ec X 4 23 [.ref m, .int (nI c), .int d] (sh, I, L, R) (fun r h' => r = some (.int (lvF v (cn v 8) c d)) ∧ h' = (sh, I, L, R)) := by
  have hb := hw.1.2
  refine Ec.of (Nat.le_of_ble_eq_true rfl) ?_
  refine e_aload rfl rfl ?_
  refine e_getR rfl hM.1 hms ?_
  refine e_aload rfl rfl ?_
  refine e_getIv rfl hM.1 hW.2.1 ?_
  refine e_iload rfl rfl ?_
  refine e_iload rfl rfl ?_
  refine Eg.p4 rfl (by decide) (by decide) rfl (Nat.le_of_ble_eq_true rfl) (xrcv_of rfl hS.1 rfl) ((cs_levelBy hS hV hw (F := cn v 8) (c := c) (by omega) (by omega)).mono (by decide)) ?_
  exact Eg.ret rfl (by decide) rfl ⟨rfl, rfl⟩
theorem cs_leastMast (hS : SeaAt sh R s) (hV : SeaV I s v) (hU : SeaW I s v) (hw : Wf v) (hM : MomAt sh R m) (hms : R m 0 = some s) (hW : MomV I m v) (rm : R w 0 = some m) (hWA : WorldAt sh R w) (hWV : WorV I w v) (hL : WfL v) {f c : Nat} (hc : c < 12) : Ec X 5 21 [.ref f, .ref w, .int (nI c)] (sh, I, L, R) (fun r h' => r = some (.int (lsM v c (cn v 10))) ∧ h' = (sh, I, L, R)) := by
  have hb := hw.1.2
  refine Ec.of (Nat.le_of_ble_eq_true rfl) ?_
  refine e_ipush rfl ?_
  refine e_istore rfl ?_
  refine e_ipush rfl ?_
  refine e_istore rfl ?_
  refine Eg.pk [0, 1, 2, 3, 4] [4, 3, 0, 1, 2] rfl (by decide) ?_
  refine up_ind (p := fun j => Eg X xTc _ 21 5 [(0, .ref f), (1, .ref w), (2, .int (nI c)), (3, .int (lsM v c j)), (4, .int (nI j))] [] (sh, I, L, R) _) (n := cn v 10) (j := 0) (fun j hj ih => ?_) ?_ (Nat.zero_le _)
  · refine e_iload rfl rfl ?_
    refine e_aload rfl rfl ?_
    refine e_getIv rfl hWA.1 hWV.1 ?_
    refine e_cge_f rfl (nI_ge hj (by omega)) ?_
    refine e_aload rfl rfl ?_
    refine e_getR rfl hWA.1 hWA.2.2.2.2.1.2 ?_
    refine e_iload rfl rfl ?_
    refine e_ialv (t := j) (n := 10) rfl hWA.2.2.2.2.1.1 rfl (by omega) (by decide) (hWV.2.1 j (by omega)).2 ?_
    refine e_ifeq_b rfl (fun b21 => ?_) (fun b21 => ?_)
    · refine e_iinc rfl rfl ?_
      refine e_goto rfl ?_
      refine Eg.pk [0, 1, 2, 3, 4] [4, 0, 1, 2, 3] rfl (by decide) ?_
      have e : lsM v c (j + 1) = _ := if_pos b21
      rw [nI_1]
      rw [e] at ih
      exact ih
    · refine e_iload rfl rfl ?_
      refine e_aload rfl rfl ?_
      refine e_getR rfl hWA.1 rm ?_
      refine e_iload rfl rfl ?_
      refine e_aload rfl rfl ?_
      refine e_getR rfl hWA.1 hWA.2.2.2.1.2 ?_
      refine e_iload rfl rfl ?_
      refine e_ialv (t := j) (n := 10) rfl hWA.2.2.2.1.1 rfl (by omega) (by decide) (hWV.2.1 j (by omega)).1 ?_
      refine Eg.p3 rfl (by decide) (by decide) rfl (Nat.le_of_ble_eq_true rfl) (xrcv_ofs (Or.inl rfl)) ((cs_undug hS hV hw hM hms hW (c := c) (by omega)).mono (by decide)) ?_
      refine e_max rfl (Nat.le_of_ble_eq_true rfl) ?_
      refine e_istore rfl ?_
      refine e_iinc rfl rfl ?_
      refine e_goto rfl ?_
      refine Eg.pk [0, 1, 2, 3, 4] [4, 3, 0, 1, 2] rfl (by decide) ?_
      have e : lsM v c (j + 1) = _ := if_neg b21
      rw [nI_1]
      rw [e] at ih
      exact ih
  · refine e_iload rfl rfl ?_
    refine e_aload rfl rfl ?_
    refine e_getIv rfl hWA.1 hWV.1 ?_
    refine e_cge_t rfl (Int32.le_refl _) ?_
    refine e_iload rfl rfl ?_
    exact Eg.ret rfl (by decide) rfl ⟨rfl, rfl⟩
theorem cs_mostMast (hS : SeaAt sh R s) (hV : SeaV I s v) (hU : SeaW I s v) (hw : Wf v) (hM : MomAt sh R m) (hms : R m 0 = some s) (hW : MomV I m v) (rm : R w 0 = some m) (hWA : WorldAt sh R w) (hWV : WorV I w v) (hL : WfL v) {f c : Nat} (hc : c < 12) : Ec X 5 22 [.ref f, .ref w, .int (nI c)] (sh, I, L, R) (fun r h' => r = some (.int (moM v c (cn v 10))) ∧ h' = (sh, I, L, R)) := by
  have hb := hw.1.2
  refine Ec.of (Nat.le_of_ble_eq_true rfl) ?_
  refine e_ipush rfl ?_
  refine e_istore rfl ?_
  refine e_ipush rfl ?_
  refine e_istore rfl ?_
  refine Eg.pk [0, 1, 2, 3, 4] [4, 3, 0, 1, 2] rfl (by decide) ?_
  refine up_ind (p := fun j => Eg X xTc _ 22 6 [(0, .ref f), (1, .ref w), (2, .int (nI c)), (3, .int (moM v c j)), (4, .int (nI j))] [] (sh, I, L, R) _) (n := cn v 10) (j := 0) (fun j hj ih => ?_) ?_ (Nat.zero_le _)
  · refine e_iload rfl rfl ?_
    refine e_aload rfl rfl ?_
    refine e_getIv rfl hWA.1 hWV.1 ?_
    refine e_cge_f rfl (nI_ge hj (by omega)) ?_
    refine e_aload rfl rfl ?_
    refine e_getR rfl hWA.1 hWA.2.2.2.2.1.2 ?_
    refine e_iload rfl rfl ?_
    refine e_ialv (t := j) (n := 10) rfl hWA.2.2.2.2.1.1 rfl (by omega) (by decide) (hWV.2.1 j (by omega)).2 ?_
    refine e_ifne_b rfl (fun b22 => ?_) (fun b22 => ?_)
    · refine e_iinc rfl rfl ?_
      refine e_goto rfl ?_
      refine Eg.pk [0, 1, 2, 3, 4] [4, 0, 1, 2, 3] rfl (by decide) ?_
      have e : moM v c (j + 1) = _ := if_neg b22
      rw [nI_1]
      rw [e] at ih
      exact ih
    · refine e_iload rfl rfl ?_
      refine e_aload rfl rfl ?_
      refine e_getR rfl hWA.1 rm ?_
      refine e_iload rfl rfl ?_
      refine e_aload rfl rfl ?_
      refine e_getR rfl hWA.1 hWA.2.2.2.1.2 ?_
      refine e_iload rfl rfl ?_
      refine e_ialv (t := j) (n := 10) rfl hWA.2.2.2.1.1 rfl (by omega) (by decide) (hWV.2.1 j (by omega)).1 ?_
      refine Eg.p3 rfl (by decide) (by decide) rfl (Nat.le_of_ble_eq_true rfl) (xrcv_ofs (Or.inl rfl)) ((cs_undug hS hV hw hM hms hW (c := c) (by omega)).mono (by decide)) ?_
      refine e_ipush rfl ?_
      refine e_isub rfl ?_
      refine e_min rfl (Nat.le_of_ble_eq_true rfl) ?_
      refine e_istore rfl ?_
      refine e_iinc rfl rfl ?_
      refine e_goto rfl ?_
      refine Eg.pk [0, 1, 2, 3, 4] [4, 3, 0, 1, 2] rfl (by decide) ?_
      have e : moM v c (j + 1) = _ := if_pos b22
      rw [nI_1]
      rw [e] at ih
      exact ih
  · refine e_iload rfl rfl ?_
    refine e_aload rfl rfl ?_
    refine e_getIv rfl hWA.1 hWV.1 ?_
    refine e_cge_t rfl (Int32.le_refl _) ?_
    refine e_iload rfl rfl ?_
    exact Eg.ret rfl (by decide) rfl ⟨rfl, rfl⟩
theorem cs_cellsOfWreck (hS : SeaAt sh R s) (hV : SeaV I s v) (hU : SeaW I s v) (hw : Wf v) (hM : MomAt sh R m) (hms : R m 0 = some s) (hW : MomV I m v) (rm : R w 0 = some m) (hWA : WorldAt sh R w) (hWV : WorV I w v) (hL : WfL v) {f M : Nat} (hM60 : M ≤ 60) (hf : sh[f]? = some (1, 4)) : Ec X 6 24 [.ref f, .ref w, .int (nI M)] (sh, I, L, R) (fun r h' => r = some (.int (nI (wrN v M (cn v 0)))) ∧ h' = (sh, I, L, R)) := by
  have hb := hw.1.2
  refine Ec.of (Nat.le_of_ble_eq_true rfl) ?_
  refine e_ipush rfl ?_
  refine e_istore rfl ?_
  refine e_ipush rfl ?_
  refine e_istore rfl ?_
  refine Eg.pk [0, 1, 2, 3, 4] [4, 3, 0, 1, 2] rfl (by decide) ?_
  refine up_ind (p := fun j => Eg X xTc _ 24 5 [(0, .ref f), (1, .ref w), (2, .int (nI M)), (3, .int (nI (wrN v M j))), (4, .int (nI j))] [] (sh, I, L, R) _) (n := cn v 0) (j := 0) (fun j hj ih => ?_) ?_ (Nat.zero_le _)
  · refine e_iload rfl rfl ?_
    refine e_aload rfl rfl ?_
    refine e_getR rfl hWA.1 rm ?_
    refine e_getR rfl hM.1 hms ?_
    refine e_getIv rfl hS.1 (hV.1 0 (by decide)) ?_
    refine e_cge_f rfl (nI_ge hj (by omega)) ?_
    refine e_aload rfl rfl ?_
    refine e_aload rfl rfl ?_
    refine e_iload rfl rfl ?_
    refine Eg.p3 rfl (by decide) (by decide) rfl (Nat.le_of_ble_eq_true rfl) (xrcv_of rfl hf rfl) ((cs_leastMast hS hV hU hw hM hms hW rm hWA hWV hL (c := j) (by omega)).mono (by decide)) ?_
    refine e_iload rfl rfl ?_
    refine e_cgt_b rfl (fun b28 => ?_) (fun b28 => ?_)
    · refine e_iinc rfl rfl ?_
      refine e_goto rfl ?_
      refine Eg.pk [0, 1, 2, 3, 4] [4, 0, 1, 2, 3] rfl (by decide) ?_
      have e : wrN v M (j + 1) = wrN v M j := if_neg (fun q => Int32.not_lt.mpr ((so_iff hL hM60 (Nat.le_refl _)).mpr q).1 b28)
      rw [nI_1, ← e]
      exact ih
    · refine e_iload rfl rfl ?_
      refine e_aload rfl rfl ?_
      refine e_aload rfl rfl ?_
      refine e_iload rfl rfl ?_
      refine Eg.p3 rfl (by decide) (by decide) rfl (Nat.le_of_ble_eq_true rfl) (xrcv_of rfl hf rfl) ((cs_mostMast hS hV hU hw hM hms hW rm hWA hWV hL (c := j) (by omega)).mono (by decide)) ?_
      refine e_cgt_b rfl (fun b39 => ?_) (fun b39 => ?_)
      · refine e_iinc rfl rfl ?_
        refine e_goto rfl ?_
        refine Eg.pk [0, 1, 2, 3, 4] [4, 0, 1, 2, 3] rfl (by decide) ?_
        have e : wrN v M (j + 1) = wrN v M j := if_neg (fun q => Int32.not_lt.mpr ((so_iff hL hM60 (Nat.le_refl _)).mpr q).2 b39)
        rw [nI_1, ← e]
        exact ih
      · refine e_iload rfl rfl ?_
        refine e_ipush rfl ?_
        refine e_iload rfl rfl ?_
        refine e_ishl rfl ?_
        rw [show 1 <<< ((nI j) &&& 31) = nI (1 <<< j) from (show nI 1 <<< (nI j &&& 31) = _ from nI_shl (by omega))]
        refine e_ior rfl ?_
        refine e_istore rfl ?_
        refine e_iinc rfl rfl ?_
        refine e_goto rfl ?_
        refine Eg.pk [0, 1, 2, 3, 4] [4, 3, 0, 1, 2] rfl (by decide) ?_
        have e : wrN v M (j + 1) = wrN v M j ||| 1 <<< j := if_pos ((so_iff hL hM60 (Nat.le_refl _)).mp ⟨Int32.not_lt.mp b28, Int32.not_lt.mp b39⟩)
        rw [nI_or, nI_1, ← e]
        exact ih
  · refine e_iload rfl rfl ?_
    refine e_aload rfl rfl ?_
    refine e_getR rfl hWA.1 rm ?_
    refine e_getR rfl hM.1 hms ?_
    refine e_getIv rfl hS.1 (hV.1 0 (by decide)) ?_
    refine e_cge_t rfl (Int32.le_refl _) ?_
    refine e_iload rfl rfl ?_
    exact Eg.ret rfl (by decide) rfl ⟨rfl, rfl⟩
def shA (v : Nat → Nat → Int32) (B M : Nat) (d : Int32) (n : Nat) : Bool := decide (∀ c, c < n → B.testBit c = true → lvF v (cn v 8) c d ≤ nI M)
theorem shA_iff {B M n : Nat} {d : Int32} : shA v B M d n = true ↔ ∀ c, c < n → B.testBit c = true → lvF v (cn v 8) c d ≤ nI M := decide_eq_true_iff
theorem cs_showsIn (hS : SeaAt sh R s) (hV : SeaV I s v) (hw : Wf v) (hM : MomAt sh R m) (hms : R m 0 = some s) (hW : MomV I m v) {B M : Nat} {d : Int32} (hB : B < 4096) : Ec X 5 26 [.ref m, .int (nI B), .int (nI M), .int d] (sh, I, L, R) (fun r h' => r = some (.int (yn (shA v B M d (cn v 0) = true))) ∧ h' = (sh, I, L, R)) := by
  have hb := hw.1.2
  refine Ec.of (Nat.le_of_ble_eq_true rfl) ?_
  refine e_ipush rfl ?_
  refine e_istore rfl ?_
  refine Eg.pk [0, 1, 2, 3, 4] [4, 0, 1, 2, 3] rfl (by decide) ?_
  refine up_ind (p := fun j => (∀ c, c < j → B.testBit c = true → lvF v (cn v 8) c d ≤ nI M) → Eg X xTc _ 26 3 [(0, .ref m), (1, .int (nI B)), (2, .int (nI M)), (3, .int d), (4, .int (nI j))] [] (sh, I, L, R) _) (n := cn v 0) (j := 0) (fun j hj ih => ?_) ?_ (Nat.zero_le _) (fun i hi => absurd hi (by omega))
  · intro hno
    refine e_iload rfl rfl ?_
    refine e_aload rfl rfl ?_
    refine e_getR rfl hM.1 hms ?_
    refine e_getIv rfl hS.1 (hV.1 0 (by decide)) ?_
    refine e_cge_f rfl (nI_ge hj (by omega)) ?_
    refine e_iload rfl rfl ?_
    refine e_iload rfl rfl ?_
    refine e_ishr rfl ?_
    refine e_ipush rfl ?_
    refine e_iand rfl ?_
    rw [show ((nI B) >>> ((nI j) &&& 31)) &&& 1 = yn (B.testBit j = true) from nI_bit (by omega) (by omega)]
    refine e_ifeq_b rfl (fun b21 => ?_) (fun b21 => ?_)
    · replace b21 := yn_0.mp b21
      refine e_iinc rfl rfl ?_
      refine e_goto rfl ?_
      refine Eg.pk [0, 1, 2, 3, 4] [4, 0, 1, 2, 3] rfl (by decide) ?_
      rw [nI_1]
      exact ih (lt_snoc hno (fun q => absurd q b21))
    · replace b21 := yn_n0.mp b21
      refine e_aload rfl rfl ?_
      refine e_iload rfl rfl ?_
      refine e_iload rfl rfl ?_
      refine Eg.p3 rfl (by decide) (by decide) rfl (Nat.le_of_ble_eq_true rfl) (xrcv_ofs (Or.inl rfl)) ((cs_undug hS hV hw hM hms hW (c := j) (by omega)).mono (by decide)) ?_
      refine e_iload rfl rfl ?_
      refine e_cle_b rfl (fun b32 => ?_) (fun b32 => ?_)
      · refine e_iinc rfl rfl ?_
        refine e_goto rfl ?_
        refine Eg.pk [0, 1, 2, 3, 4] [4, 0, 1, 2, 3] rfl (by decide) ?_
        rw [nI_1]
        exact ih (lt_snoc hno (fun _ => b32))
      · refine e_ipush rfl ?_
        exact Eg.ret rfl (by decide) rfl ⟨congrArg (fun z => some (Value.int z)) (yn_f (fun q => b32 (shA_iff.mp q j hj b21))).symm, rfl⟩
  · intro hno
    refine e_iload rfl rfl ?_
    refine e_aload rfl rfl ?_
    refine e_getR rfl hM.1 hms ?_
    refine e_getIv rfl hS.1 (hV.1 0 (by decide)) ?_
    refine e_cge_t rfl (Int32.le_refl _) ?_
    refine e_ipush rfl ?_
    exact Eg.ret rfl (by decide) rfl ⟨congrArg (fun z => some (Value.int z)) (yn_t (shA_iff.mpr hno)).symm, rfl⟩
theorem cs_firstShown (hS : SeaAt sh R s) (hV : SeaV I s v) (hU : SeaW I s v) (hw : Wf v) (hM : MomAt sh R m) (hms : R m 0 = some s) (hW : MomV I m v) (rm : R w 0 = some m) (hWA : WorldAt sh R w) (hWV : WorV I w v) (hL : WfL v) {f M : Nat} {d : Int32} (hM60 : M ≤ 60) (hf : sh[f]? = some (1, 4)) : Ec X 7 25 [.ref f, .ref w, .int (nI M), .int d] (sh, I, L, R) (fun r h' => r = some (.int (fst (fun d => shA v (wrN v M (cn v 0)) M d (cn v 0)) d (if wrN v M (cn v 0) = 0 then 0 else rndN v))) ∧ h' = (sh, I, L, R)) := by
  have hb := hw.1.2
  have hr := rnd_le hw
  have hwr : wrN v M (cn v 0) < 4096 := wrN_lt (by omega)
  refine Ec.of (Nat.le_of_ble_eq_true rfl) ?_
  refine e_aload rfl rfl ?_
  refine e_aload rfl rfl ?_
  refine e_iload rfl rfl ?_
  refine Eg.p3 rfl (by decide) (by decide) rfl (Nat.le_of_ble_eq_true rfl) (xrcv_of rfl hf rfl) ((cs_cellsOfWreck hS hV hU hw hM hms hW rm hWA hWV hL (M := M) (by omega) hf).mono (by decide)) ?_
  refine e_istore rfl ?_
  refine e_iload rfl rfl ?_
  refine e_ifne_b rfl (fun b10 => ?_) (fun b10 => ?_)
  · have b10 : ¬ wrN v M (cn v 0) = 0 := fun q => b10 (by rw [q]; rfl)
    refine e_ipush rfl ?_
    refine e_istore rfl ?_
    refine Eg.pk [0, 1, 2, 3, 4, 5] [5, 4, 0, 1, 2, 3] rfl (by decide) ?_
    refine up_ind (p := fun j => (∀ i, i < j → (fun d => shA v (wrN v M (cn v 0)) M d (cn v 0)) (d + nI i) = false) → Eg X xTc _ 25 19 [(0, .ref f), (1, .ref w), (2, .int (nI M)), (3, .int d), (4, .int (nI (wrN v M (cn v 0)))), (5, .int (nI j))] [] (sh, I, L, R) _) (n := rndN v) (j := 0) (fun j hj ih => ?_) ?_ (Nat.zero_le _) (fun i hi => absurd hi (by omega))
    · intro hno
      refine e_iload rfl rfl ?_
      refine e_aload rfl rfl ?_
      refine e_getR rfl hWA.1 rm ?_
      refine e_getR rfl hM.1 hms ?_
      refine e_getIv rfl hS.1 hU.1 ?_
      refine e_cge_f rfl (nI_ge hj (by omega)) ?_
      refine e_aload rfl rfl ?_
      refine e_getR rfl hWA.1 rm ?_
      refine e_iload rfl rfl ?_
      refine e_iload rfl rfl ?_
      refine e_iload rfl rfl ?_
      refine e_iload rfl rfl ?_
      refine e_iadd rfl ?_
      refine Eg.p4 rfl (by decide) (by decide) rfl (Nat.le_of_ble_eq_true rfl) (xrcv_ofs (Or.inl rfl)) ((cs_showsIn hS hV hw hM hms hW (B := wrN v M (cn v 0)) (M := M) (by omega)).mono (by decide)) ?_
      refine e_ifeq_b rfl (fun b48 => ?_) (fun b48 => ?_)
      · replace b48 := yn_0.mp b48
        refine e_iinc rfl rfl ?_
        refine e_goto rfl ?_
        refine Eg.pk [0, 1, 2, 3, 4, 5] [5, 0, 1, 2, 3, 4] rfl (by decide) ?_
        rw [nI_1]
        exact ih (lt_snoc hno (Bool.eq_false_iff.mpr b48))
      · replace b48 := yn_n0.mp b48
        refine e_iload rfl rfl ?_
        refine e_iload rfl rfl ?_
        refine e_iadd rfl ?_
        exact Eg.ret rfl (by decide) rfl ⟨congrArg (fun z => some (Value.int z)) (by rw [if_neg b10]; exact (fst_at (p := fun d => shA v (wrN v M (cn v 0)) M d (cn v 0)) hj hno b48).symm), rfl⟩
    · intro hno
      refine e_iload rfl rfl ?_
      refine e_aload rfl rfl ?_
      refine e_getR rfl hWA.1 rm ?_
      refine e_getR rfl hM.1 hms ?_
      refine e_getIv rfl hS.1 hU.1 ?_
      refine e_cge_t rfl (Int32.le_refl _) ?_
      refine e_ipush rfl ?_
      exact Eg.ret rfl (by decide) rfl ⟨congrArg (fun z => some (Value.int z)) (by rw [if_neg b10]; exact (fst_no hno).symm), rfl⟩
  · have b10 : wrN v M (cn v 0) = 0 := (nI_le0 (by omega)).mp (by rw [b10]; exact Int32.le_refl _)
    refine e_ipush rfl ?_
    exact Eg.ret rfl (by decide) rfl ⟨congrArg (fun z => some (Value.int z)) (by rw [if_pos b10]; rfl), rfl⟩
def aWreck (v : Nat → Nat → Int32) (x : Int32) : Int32 := if ¬ cn v 0 = 0 ∧ ¬ (x < 0 ∨ 60 < x) then nI (wrN v x.toNatClampNeg (cn v 0)) else -1
def aMasts (v : Nat → Nat → Int32) (x : Int32) : Int32 := if ¬ (x < 0 ∨ nI (cn v 0) ≤ x) then nI (cntN (fun M => soA v x.toNatClampNeg M (cn v 10)) 61) else -1
def aShows (v : Nat → Nat → Int32) (x d : Int32) : Int32 := if ¬ cn v 0 = 0 ∧ ¬ (x < 0 ∨ 60 < x) ∧ ¬ (d < 0 ∨ 9999 < d) then fst (fun d => shA v (wrN v x.toNatClampNeg (cn v 0)) x.toNatClampNeg d (cn v 0)) d (if wrN v x.toNatClampNeg (cn v 0) = 0 then 0 else rndN v) else -1
theorem n60_get {x : Int32} (h : ¬ (x < 0 ∨ 60 < x)) : ∃ t, t ≤ 60 ∧ x = nI t := nI_of2 (x := x) (M := 60) (n := 60) (by decide) (fun q => h (Or.inl q)) (Int32.not_lt.mp (fun q => h (Or.inr q)))
/-- numbers between two bounds -/
theorem cnt_bet {a b : Int} (h0 : 0 ≤ a) {n : Nat} : (cntN (fun M => decide (a ≤ (M : Int) ∧ (M : Int) ≤ b)) n : Int) = max 0 (min (n : Int) (b + 1) - a) := by
  induction n with
  | zero => show (0 : Int) = _; omega
  | succ n ih =>
    by_cases hc : a ≤ (n : Int) ∧ (n : Int) ≤ b
    · rw [cntN_t (q := fun M => decide (a ≤ (M : Int) ∧ (M : Int) ≤ b)) (decide_eq_true hc)]; omega
    · rw [cntN_f (q := fun M => decide (a ≤ (M : Int) ∧ (M : Int) ≤ b)) (decide_eq_false hc)]; omega
theorem lsM_nn {c n : Nat} : 0 ≤ (lsM v c n).toInt := by
  induction n with
  | zero => exact (by decide : (0 : Int) ≤ (0 : Int32).toInt)
  | succ n ih =>
    have hu : ¬ uF v c n < 0 := pos0_nn
    have hu2 : 0 ≤ (uF v c n).toInt := by
      rw [Int32.lt_iff_toInt_lt] at hu
      have z : (0 : Int32).toInt = 0 := by decide
      omega
    show 0 ≤ (if v 25 n = 0 then lsM v c n else if lsM v c n < uF v c n then uF v c n else lsM v c n).toInt
    split
    · exact ih
    · split
      · exact hu2
      · exact ih
theorem moM_bd {c n : Nat} : -1 ≤ (moM v c n).toInt ∧ (moM v c n).toInt ≤ 60 := by
  induction n with
  | zero => exact (by decide : -1 ≤ (60 : Int32).toInt ∧ (60 : Int32).toInt ≤ 60)
  | succ n ih =>
    have hu : ¬ uF v c n < 0 := pos0_nn
    obtain ⟨t, ht, e⟩ := nI_of hu
    have hu2 : (uF v c n - 1).toInt = (t : Int) - 1 := by
      rw [e, Int32.toInt_sub, nI_toInt ht, show (1 : Int32).toInt = 1 by decide, Int.bmod_eq_of_le (by omega) (by omega)]
    show -1 ≤ (if v 25 n = 0 then (if uF v c n - 1 < moM v c n then uF v c n - 1 else moM v c n) else moM v c n).toInt ∧ (if v 25 n = 0 then (if uF v c n - 1 < moM v c n then uF v c n - 1 else moM v c n) else moM v c n).toInt ≤ 60
    split
    · split
      · rename_i h1 h2
        rw [Int32.lt_iff_toInt_lt, hu2] at h2
        rw [hu2]; omega
      · exact ih
    · exact ih
theorem masts_eq {c : Nat} (hL : WfL v) : (if 0 < moM v c (cn v 10) - lsM v c (cn v 10) + 1 then moM v c (cn v 10) - lsM v c (cn v 10) + 1 else 0) = nI (cntN (fun M => soA v c M (cn v 10)) 61) := by
  have h1 := lsM_nn (v := v) (c := c) (n := cn v 10)
  have h2 := moM_bd (v := v) (c := c) (n := cn v 10)
  have h3 := (lsM v c (cn v 10)).toInt_lt
  have e : cntN (fun M => soA v c M (cn v 10)) 61 = cntN (fun M => decide ((lsM v c (cn v 10)).toInt ≤ (M : Int) ∧ (M : Int) ≤ (moM v c (cn v 10)).toInt)) 61 := by
    unfold cntN
    refine itN_ext (fun M z hM => ?_)
    have := so_iff (c := c) (M := M) hL (by omega) (Nat.le_refl _)
    rw [Int32.le_iff_toInt_le, Int32.le_iff_toInt_le, nI_toInt (by omega)] at this
    show (if soA v c M (cn v 10) = true then z + 1 else z) = (if decide ((lsM v c (cn v 10)).toInt ≤ (M : Int) ∧ (M : Int) ≤ (moM v c (cn v 10)).toInt) = true then z + 1 else z)
    rw [show soA v c M (cn v 10) = decide ((lsM v c (cn v 10)).toInt ≤ (M : Int) ∧ (M : Int) ≤ (moM v c (cn v 10)).toInt) from by rw [Bool.eq_iff_iff, ← this, decide_eq_true_iff]]
  have e2 := cnt_bet (a := (lsM v c (cn v 10)).toInt) (b := (moM v c (cn v 10)).toInt) h1 (n := 61)
  rw [← e] at e2
  have e3 : (moM v c (cn v 10) - lsM v c (cn v 10) + 1).toInt = (moM v c (cn v 10)).toInt - (lsM v c (cn v 10)).toInt + 1 := by
    rw [Int32.toInt_add, Int32.toInt_sub, show (1 : Int32).toInt = 1 by decide, Int.bmod_eq_of_le (n := (moM v c (cn v 10)).toInt - (lsM v c (cn v 10)).toInt) (by omega) (by omega), Int.bmod_eq_of_le (by omega) (by omega)]
  have hc := cntN_le (q := fun M => soA v c M (cn v 10)) (n := 61)
  apply Int32.toInt_inj.mp
  rw [nI_toInt (by omega)]
  by_cases hp : 0 < moM v c (cn v 10) - lsM v c (cn v 10) + 1
  · rw [if_pos hp, e3]
    rw [Int32.lt_iff_toInt_lt, e3, show (0 : Int32).toInt = 0 by decide] at hp
    omega
  · rw [if_neg hp]
    rw [Int32.lt_iff_toInt_lt, e3, show (0 : Int32).toInt = 0 by decide] at hp
    rw [show (0 : Int32).toInt = 0 by decide]
    omega
theorem cf_wreck (hq : CQ sh I R w m s v) (hWA : WorldAt sh R w) (hWV : WorV I w v) (hL : WfL v) {f : Nat} (r11 : R 0 11 = some f) (hf : sh[f]? = some (1, 4)) {x : Int32} : Ec X 7 160 [.ref 0, .int x] (sh, I, L, R) (fun r h' => r = some (.int (aWreck v x)) ∧ h' = (sh, I, L, R)) := by
  obtain ⟨h0, r7, hWd, rm, hM, hms, hS, hV, hU, hw, hW⟩ := hq
  have hb := hw.1.2
  refine Ec.of (Nat.le_of_ble_eq_true rfl) ?_
  refine e_aload rfl rfl ?_
  refine e_getR rfl h0 r7 ?_
  refine e_getR rfl hWA.1 rm ?_
  refine e_getR rfl hM.1 hms ?_
  refine Eg.p1 rfl (by decide) (by decide) rfl (Nat.le_of_ble_eq_true rfl) (xrcv_of rfl hS.1 rfl) ((cs_isThereV hS hV hw).mono (by decide)) ?_
  refine e_ifeq_b rfl (fun b13 => ?_) (fun b13 => ?_)
  · replace b13 := yn_0.mp b13
    refine e_ipush rfl ?_
    exact Eg.ret rfl (by decide) rfl ⟨congrArg (fun z => some (Value.int z)) (show ((-1) : Int32) = aWreck v x from by unfold aWreck; rw [if_neg (by grind)]), rfl⟩
  · replace b13 := yn_n0.mp b13
    refine e_iload rfl rfl ?_
    refine e_ipush rfl ?_
    refine e_ipush rfl ?_
    refine Eg.p3 rfl (by decide) (by decide) rfl (Nat.le_of_ble_eq_true rfl) (xrcv_ofs (Or.inl rfl)) (cs_withinY.mono (by decide)) ?_
    refine e_ifne_b rfl (fun b23 => ?_) (fun b23 => ?_)
    · replace b23 := yn_n0.mp b23
      obtain ⟨t, ht, et⟩ := n60_get b23
      subst et
      refine e_aload rfl rfl ?_
      refine e_getR rfl h0 r11 ?_
      refine e_aload rfl rfl ?_
      refine e_getR rfl h0 r7 ?_
      refine e_iload rfl rfl ?_
      refine Eg.p3 rfl (by decide) (by decide) rfl (Nat.le_of_ble_eq_true rfl) (xrcv_of rfl hf rfl) ((cs_cellsOfWreck hS hV hU hw hM hms hW rm hWA hWV hL (M := t) (by omega) hf).mono (by decide)) ?_
      exact Eg.ret rfl (by decide) rfl ⟨congrArg (fun z => some (Value.int z)) (show (nI (wrN v t (cn v 0)) : Int32) = aWreck v (nI t) from by unfold aWreck; rw [if_pos ⟨b13, b23⟩, nI_clamp (by omega)]), rfl⟩
    · replace b23 := yn_0.mp b23
      refine e_ipush rfl ?_
      exact Eg.ret rfl (by decide) rfl ⟨congrArg (fun z => some (Value.int z)) (show ((-1) : Int32) = aWreck v x from by unfold aWreck; rw [if_neg (by grind)]), rfl⟩
theorem cf_masts (hq : CQ sh I R w m s v) (hWA : WorldAt sh R w) (hWV : WorV I w v) (hL : WfL v) {f : Nat} (r11 : R 0 11 = some f) (hf : sh[f]? = some (1, 4)) {x : Int32} : Ec X 6 161 [.ref 0, .int x] (sh, I, L, R) (fun r h' => r = some (.int (aMasts v x)) ∧ h' = (sh, I, L, R)) := by
  obtain ⟨h0, r7, hWd, rm, hM, hms, hS, hV, hU, hw, hW⟩ := hq
  have hb := hw.1.2
  refine Ec.of (Nat.le_of_ble_eq_true rfl) ?_
  refine e_aload rfl rfl ?_
  refine e_getR rfl h0 r7 ?_
  refine e_getR rfl hWA.1 rm ?_
  refine e_getR rfl hM.1 hms ?_
  refine e_iload rfl rfl ?_
  refine Eg.p2 rfl (by decide) (by decide) rfl (Nat.le_of_ble_eq_true rfl) (xrcv_of rfl hS.1 rfl) ((cs_hasCellV hS hV).mono (by decide)) ?_
  refine e_ifne_b rfl (fun b14 => ?_) (fun b14 => ?_)
  · replace b14 := yn_n0.mp b14
    obtain ⟨t, ht, et⟩ := nI_get b14 (by omega)
    subst et
    refine e_ipush rfl ?_
    refine e_aload rfl rfl ?_
    refine e_getR rfl h0 r11 ?_
    refine e_aload rfl rfl ?_
    refine e_getR rfl h0 r7 ?_
    refine e_iload rfl rfl ?_
    refine Eg.p3 rfl (by decide) (by decide) rfl (Nat.le_of_ble_eq_true rfl) (xrcv_of rfl hf rfl) ((cs_mostMast hS hV hU hw hM hms hW rm hWA hWV hL (c := t) (by omega)).mono (by decide)) ?_
    refine e_aload rfl rfl ?_
    refine e_getR rfl h0 r11 ?_
    refine e_aload rfl rfl ?_
    refine e_getR rfl h0 r7 ?_
    refine e_iload rfl rfl ?_
    refine Eg.p3 rfl (by decide) (by decide) rfl (Nat.le_of_ble_eq_true rfl) (xrcv_of rfl hf rfl) ((cs_leastMast hS hV hU hw hM hms hW rm hWA hWV hL (c := t) (by omega)).mono (by decide)) ?_
    refine e_isub rfl ?_
    refine e_ipush rfl ?_
    refine e_iadd rfl ?_
    refine e_max rfl (Nat.le_of_ble_eq_true rfl) ?_
    exact Eg.ret rfl (by decide) rfl ⟨congrArg (fun z => some (Value.int z)) (show (if 0 < ((moM v t (cn v 10)) - (lsM v t (cn v 10))) + 1 then ((moM v t (cn v 10)) - (lsM v t (cn v 10))) + 1 else 0 : Int32) = aMasts v (nI t) from by unfold aMasts; rw [if_pos (c := ¬ (nI t < 0 ∨ nI (cn v 0) ≤ nI t)) b14, nI_clamp (by omega)]; exact masts_eq hL), rfl⟩
  · replace b14 := yn_0.mp b14
    refine e_ipush rfl ?_
    exact Eg.ret rfl (by decide) rfl ⟨congrArg (fun z => some (Value.int z)) (show ((-1) : Int32) = aMasts v x from by unfold aMasts; rw [if_neg b14]), rfl⟩
theorem cf_shows (hq : CQ sh I R w m s v) (hWA : WorldAt sh R w) (hWV : WorV I w v) (hL : WfL v) {f : Nat} (r11 : R 0 11 = some f) (hf : sh[f]? = some (1, 4)) {x d : Int32} : Ec X 8 162 [.ref 0, .int x, .int d] (sh, I, L, R) (fun r h' => r = some (.int (aShows v x d)) ∧ h' = (sh, I, L, R)) := by
  obtain ⟨h0, r7, hWd, rm, hM, hms, hS, hV, hU, hw, hW⟩ := hq
  have hb := hw.1.2
  refine Ec.of (Nat.le_of_ble_eq_true rfl) ?_
  refine e_aload rfl rfl ?_
  refine e_getR rfl h0 r7 ?_
  refine e_getR rfl hWA.1 rm ?_
  refine e_getR rfl hM.1 hms ?_
  refine Eg.p1 rfl (by decide) (by decide) rfl (Nat.le_of_ble_eq_true rfl) (xrcv_of rfl hS.1 rfl) ((cs_isThereV hS hV hw).mono (by decide)) ?_
  refine e_ifeq_b rfl (fun b13 => ?_) (fun b13 => ?_)
  · replace b13 := yn_0.mp b13
    refine e_ipush rfl ?_
    exact Eg.ret rfl (by decide) rfl ⟨congrArg (fun z => some (Value.int z)) (show ((-1) : Int32) = aShows v x d from by unfold aShows; rw [if_neg (by grind)]), rfl⟩
  · replace b13 := yn_n0.mp b13
    refine e_iload rfl rfl ?_
    refine e_ipush rfl ?_
    refine e_ipush rfl ?_
    refine Eg.p3 rfl (by decide) (by decide) rfl (Nat.le_of_ble_eq_true rfl) (xrcv_ofs (Or.inl rfl)) (cs_withinY.mono (by decide)) ?_
    refine e_ifeq_b rfl (fun b23 => ?_) (fun b23 => ?_)
    · replace b23 := yn_0.mp b23
      refine e_ipush rfl ?_
      exact Eg.ret rfl (by decide) rfl ⟨congrArg (fun z => some (Value.int z)) (show ((-1) : Int32) = aShows v x d from by unfold aShows; rw [if_neg (by grind)]), rfl⟩
    · replace b23 := yn_n0.mp b23
      refine e_iload rfl rfl ?_
      refine Eg.p1 rfl (by decide) (by decide) rfl (Nat.le_of_ble_eq_true rfl) (xrcv_ofs (Or.inl rfl)) (cs_isDayY.mono (by decide)) ?_
      refine e_ifne_b rfl (fun b30 => ?_) (fun b30 => ?_)
      · replace b30 := yn_n0.mp b30
        obtain ⟨t, ht, et⟩ := n60_get b23
        subst et
        refine e_aload rfl rfl ?_
        refine e_getR rfl h0 r11 ?_
        refine e_aload rfl rfl ?_
        refine e_getR rfl h0 r7 ?_
        refine e_iload rfl rfl ?_
        refine e_iload rfl rfl ?_
        refine Eg.p4 rfl (by decide) (by decide) rfl (Nat.le_of_ble_eq_true rfl) (xrcv_of rfl hf rfl) ((cs_firstShown hS hV hU hw hM hms hW rm hWA hWV hL (M := t) (by omega) hf).mono (by decide)) ?_
        exact Eg.ret rfl (by decide) rfl ⟨congrArg (fun z => some (Value.int z)) (show (fst (fun d => shA v (wrN v t (cn v 0)) t d (cn v 0)) d (if wrN v t (cn v 0) = 0 then 0 else rndN v) : Int32) = aShows v (nI t) d from by unfold aShows; rw [if_pos (c := ¬ cn v 0 = 0 ∧ ¬ (nI t < 0 ∨ 60 < nI t) ∧ ¬ (d < 0 ∨ 9999 < d)) ⟨b13, b23, b30⟩, nI_clamp (by omega)]), rfl⟩
      · replace b30 := yn_0.mp b30
        refine e_ipush rfl ?_
        exact Eg.ret rfl (by decide) rfl ⟨congrArg (fun z => some (Value.int z)) (show ((-1) : Int32) = aShows v x d from by unfold aShows; rw [if_neg (by grind)]), rfl⟩
theorem ms_areSightsSo (hM : MW sh R) (hv : mV I v) (hw : Wf v) (hL : WfL v) {c M : Nat} (hc : c < 12) : Ec X 4 286 [.ref 290, .int (nI c), .int (nI M)] (sh, I, L, R) (fun r h' => r = some (.int (yn (soA v c M (cn v 10) = true))) ∧ h' = (sh, I, L, R)) := by
  have hb := hw.1.2
  refine Ec.of (Nat.le_of_ble_eq_true rfl) ?_
  refine e_ipush rfl ?_
  refine e_istv (y := yn (soA v c M 0 = true)) rfl (yn_t (soA_iff.mpr (fun i hi => absurd hi (by omega)))).symm ?_
  refine e_ipush rfl ?_
  refine e_istore rfl ?_
  refine Eg.pk [0, 1, 2, 3, 4] [4, 3, 0, 1, 2] rfl (by decide) ?_
  refine up_ind (p := fun j => Eg X xTc _ 286 5 [(0, .ref 290), (1, .int (nI c)), (2, .int (nI M)), (3, .int (yn (soA v c M j = true))), (4, .int (nI j))] [] (sh, I, L, R) _) (n := cn v 10) (j := 0) (fun j hj ih => ?_) ?_ (Nat.zero_le _)
  · refine e_iload rfl rfl ?_
    refine e_aload rfl rfl ?_
    refine e_getR rfl hM.1 (hM.2 0 _ rfl).2 ?_
    refine e_ipush rfl ?_
    refine e_ialv (t := 10) (n := 14) rfl (hM.2 0 _ rfl).1 rfl (by decide) (by decide) (hv.n hw (j := 10) (by decide)) ?_
    refine e_cge_f rfl (nI_ge hj (by omega)) ?_
    refine e_iload rfl rfl ?_
    refine e_ifeq_b rfl (fun b18 => ?_) (fun b18 => ?_)
    · replace b18 := yn_0.mp b18
      refine e_ipush rfl ?_
      refine e_istore rfl ?_
      refine e_iinc rfl rfl ?_
      refine e_goto rfl ?_
      refine Eg.pk [0, 1, 2, 3, 4] [4, 3, 0, 1, 2] rfl (by decide) ?_
      rw [nI_1, show (0 : Int32) = yn (soA v c M (j + 1) = true) from (yn_f (fun q => b18 (soA_iff.mpr (fun i hi => soA_iff.mp q i (by omega))))).symm]
      exact ih
    · replace b18 := yn_n0.mp b18
      refine e_aload rfl rfl ?_
      refine e_iload rfl rfl ?_
      refine e_aload rfl rfl ?_
      refine e_getR rfl hM.1 (hM.2 23 _ rfl).2 ?_
      refine e_iload rfl rfl ?_
      refine e_ialv (t := j) (n := 10) rfl (hM.2 23 _ rfl).1 rfl (by omega) (by decide) (hv 24 j (by decide)) ?_
      refine e_ipush rfl ?_
      refine e_ipush rfl ?_
      refine Eg.p5 rfl (by decide) (by decide) rfl (Nat.le_of_ble_eq_true rfl) (xrcv_of rfl hM.1 rfl) ((ms_heightOf0 hM hv hw (c := c) (M := 0) (by omega) (by omega)).mono (by decide)) ?_
      rw [Nat.or_zero]
      refine e_iload rfl rfl ?_
      refine e_cgt_b rfl (fun b36 => ?_) (fun b36 => ?_)
      · refine e_ipush rfl ?_
        refine e_aload rfl rfl ?_
        refine e_getR rfl hM.1 (hM.2 24 _ rfl).2 ?_
        refine e_iload rfl rfl ?_
        refine e_ialv (t := j) (n := 10) rfl (hM.2 24 _ rfl).1 rfl (by omega) (by decide) (hv 25 j (by decide)) ?_
        refine e_ipush rfl ?_
        refine e_cne_b rfl (fun b52 => ?_) (fun b52 => ?_)
        · refine e_ipush rfl ?_
          refine e_cne_f rfl rfl ?_
          refine e_ipush rfl ?_
          refine e_goto rfl ?_
          refine e_istore rfl ?_
          refine e_iinc rfl rfl ?_
          refine e_goto rfl ?_
          refine Eg.pk [0, 1, 2, 3, 4] [4, 3, 0, 1, 2] rfl (by decide) ?_
          rw [nI_1, show (1 : Int32) = yn (soA v c M (j + 1) = true) from (yn_t (soA_iff.mpr (lt_snoc (soA_iff.mp b18) ⟨fun q => absurd q (show ¬ uF v c j ≤ nI M from Int32.not_le.mpr b36), fun q => absurd q b52⟩))).symm]
          exact ih
        · refine e_ipush rfl ?_
          refine e_goto rfl ?_
          refine e_cne_t rfl (by decide) ?_
          refine e_ipush rfl ?_
          refine e_istore rfl ?_
          refine e_iinc rfl rfl ?_
          refine e_goto rfl ?_
          refine Eg.pk [0, 1, 2, 3, 4] [4, 3, 0, 1, 2] rfl (by decide) ?_
          rw [nI_1, show (0 : Int32) = yn (soA v c M (j + 1) = true) from (yn_f (fun q => (show ¬ uF v c j ≤ nI M from Int32.not_le.mpr b36) ((soA_iff.mp q j (by omega)).mpr b52))).symm]
          exact ih
      · refine e_ipush rfl ?_
        refine e_goto rfl ?_
        refine e_aload rfl rfl ?_
        refine e_getR rfl hM.1 (hM.2 24 _ rfl).2 ?_
        refine e_iload rfl rfl ?_
        refine e_ialv (t := j) (n := 10) rfl (hM.2 24 _ rfl).1 rfl (by omega) (by decide) (hv 25 j (by decide)) ?_
        refine e_ipush rfl ?_
        refine e_cne_b rfl (fun b52 => ?_) (fun b52 => ?_)
        · refine e_ipush rfl ?_
          refine e_cne_t rfl (by decide) ?_
          refine e_ipush rfl ?_
          refine e_istore rfl ?_
          refine e_iinc rfl rfl ?_
          refine e_goto rfl ?_
          refine Eg.pk [0, 1, 2, 3, 4] [4, 3, 0, 1, 2] rfl (by decide) ?_
          rw [nI_1, show (0 : Int32) = yn (soA v c M (j + 1) = true) from (yn_f (fun q => b52 ((soA_iff.mp q j (by omega)).mp (show uF v c j ≤ nI M from Int32.not_lt.mp b36)))).symm]
          exact ih
        · refine e_ipush rfl ?_
          refine e_goto rfl ?_
          refine e_cne_f rfl rfl ?_
          refine e_ipush rfl ?_
          refine e_goto rfl ?_
          refine e_istore rfl ?_
          refine e_iinc rfl rfl ?_
          refine e_goto rfl ?_
          refine Eg.pk [0, 1, 2, 3, 4] [4, 3, 0, 1, 2] rfl (by decide) ?_
          rw [nI_1, show (1 : Int32) = yn (soA v c M (j + 1) = true) from (yn_t (soA_iff.mpr (lt_snoc (soA_iff.mp b18) ⟨fun _ => b52, fun _ => (show uF v c j ≤ nI M from Int32.not_lt.mp b36)⟩))).symm]
          exact ih
  · refine e_iload rfl rfl ?_
    refine e_aload rfl rfl ?_
    refine e_getR rfl hM.1 (hM.2 0 _ rfl).2 ?_
    refine e_ipush rfl ?_
    refine e_ialv (t := 10) (n := 14) rfl (hM.2 0 _ rfl).1 rfl (by decide) (by decide) (hv.n hw (j := 10) (by decide)) ?_
    refine e_cge_t rfl (Int32.le_refl _) ?_
    refine e_iload rfl rfl ?_
    exact Eg.retZ rfl yn_01 ⟨rfl, rfl⟩
theorem ms_wreckCells (hM : MW sh R) (hv : mV I v) (hw : Wf v) (hL : WfL v) {M : Nat} : Ec X 5 287 [.ref 290, .int (nI M)] (sh, I, L, R) (fun r h' => r = some (.int (nI (wrN v M (cn v 0)))) ∧ h' = (sh, I, L, R)) := by
  have hb := hw.1.2
  refine Ec.of (Nat.le_of_ble_eq_true rfl) ?_
  refine e_ipush rfl ?_
  refine e_istore rfl ?_
  refine e_ipush rfl ?_
  refine e_istore rfl ?_
  refine Eg.pk [0, 1, 2, 3] [3, 2, 0, 1] rfl (by decide) ?_
  refine up_ind (p := fun j => Eg X xTc _ 287 4 [(0, .ref 290), (1, .int (nI M)), (2, .int (nI (wrN v M j))), (3, .int (nI j))] [] (sh, I, L, R) _) (n := cn v 0) (j := 0) (fun j hj ih => ?_) ?_ (Nat.zero_le _)
  · refine e_iload rfl rfl ?_
    refine e_aload rfl rfl ?_
    refine e_getR rfl hM.1 (hM.2 0 _ rfl).2 ?_
    refine e_ipush rfl ?_
    refine e_ialv (t := 0) (n := 14) rfl (hM.2 0 _ rfl).1 rfl (by decide) (by decide) (hv.n hw (j := 0) (by decide)) ?_
    refine e_cge_f rfl (nI_ge hj (by omega)) ?_
    refine e_iload rfl rfl ?_
    refine e_aload rfl rfl ?_
    refine e_iload rfl rfl ?_
    refine e_iload rfl rfl ?_
    refine Eg.p3 rfl (by decide) (by decide) rfl (Nat.le_of_ble_eq_true rfl) (xrcv_of rfl hM.1 rfl) ((ms_areSightsSo hM hv hw hL (c := j) (M := M) (by omega)).mono (by decide)) ?_
    refine e_ifeq_b rfl (fun b21 => ?_) (fun b21 => ?_)
    · replace b21 := yn_0.mp b21
      refine e_ipush rfl ?_
      refine e_ior rfl ?_
      refine e_istore rfl ?_
      refine e_iinc rfl rfl ?_
      refine e_goto rfl ?_
      refine Eg.pk [0, 1, 2, 3] [3, 2, 0, 1] rfl (by decide) ?_
      have e : wrN v M (j + 1) = wrN v M j := if_neg b21
      rw [show nI (wrN v M j) ||| 0 = nI (wrN v M j) by show nI _ ||| nI 0 = _; rw [nI_or, Nat.or_zero], nI_1, ← e]
      exact ih
    · replace b21 := yn_n0.mp b21
      refine e_ipush rfl ?_
      refine e_iload rfl rfl ?_
      refine e_ishl rfl ?_
      rw [show 1 <<< ((nI j) &&& 31) = nI (1 <<< j) from (show nI 1 <<< (nI j &&& 31) = _ from nI_shl (by omega))]
      refine e_goto rfl ?_
      refine e_ior rfl ?_
      refine e_istore rfl ?_
      refine e_iinc rfl rfl ?_
      refine e_goto rfl ?_
      refine Eg.pk [0, 1, 2, 3] [3, 2, 0, 1] rfl (by decide) ?_
      have e : wrN v M (j + 1) = wrN v M j ||| 1 <<< j := if_pos b21
      rw [nI_or, nI_1, ← e]
      exact ih
  · refine e_iload rfl rfl ?_
    refine e_aload rfl rfl ?_
    refine e_getR rfl hM.1 (hM.2 0 _ rfl).2 ?_
    refine e_ipush rfl ?_
    refine e_ialv (t := 0) (n := 14) rfl (hM.2 0 _ rfl).1 rfl (by decide) (by decide) (hv.n hw (j := 0) (by decide)) ?_
    refine e_cge_t rfl (Int32.le_refl _) ?_
    refine e_iload rfl rfl ?_
    exact Eg.ret rfl (by decide) rfl ⟨rfl, rfl⟩
theorem md_wreck (hM : MW sh R) (hv : mV I v) (hw : Wf v) (hL : WfL v) {x : Int32} : Ec X 6 288 [.ref 290, .int x] (sh, I, L, R) (fun r h' => r = some (.int (aWreck v x)) ∧ h' = (sh, I, L, R)) := by
  have hb := hw.1.2
  refine Ec.of (Nat.le_of_ble_eq_true rfl) ?_
  refine e_aload rfl rfl ?_
  refine Eg.p1 rfl (by decide) (by decide) rfl (Nat.le_of_ble_eq_true rfl) (xrcv_of rfl hM.1 rfl) ((ms_isSeaV hM hv hw).mono (by decide)) ?_
  refine e_ifeq_b rfl (fun b4 => ?_) (fun b4 => ?_)
  · replace b4 := yn_0.mp b4
    refine e_ipush rfl ?_
    exact Eg.ret rfl (by decide) rfl ⟨congrArg (fun z => some (Value.int z)) (show ((-1) : Int32) = aWreck v x from by unfold aWreck; rw [if_neg (by grind)]), rfl⟩
  · replace b4 := yn_n0.mp b4
    refine e_iload rfl rfl ?_
    refine e_i2l rfl ?_
    refine e_lpush rfl ?_
    refine e_lpush rfl ?_
    refine Eg.p3 rfl (by decide) (by decide) rfl (Nat.le_of_ble_eq_true rfl) (xrcv_ofs (Or.inl rfl)) ((ms_inv (x := x) (y := 0) (z := 60) rfl (by decide) (by decide)).mono (by decide)) ?_
    refine e_ifeq_b rfl (fun b16 => ?_) (fun b16 => ?_)
    · replace b16 := yn_0.mp b16
      refine e_ipush rfl ?_
      exact Eg.ret rfl (by decide) rfl ⟨congrArg (fun z => some (Value.int z)) (show ((-1) : Int32) = aWreck v x from by unfold aWreck; rw [if_neg (by grind)]), rfl⟩
    · replace b16 := yn_n0.mp b16
      obtain ⟨t, ht, et⟩ := n60_get b16
      subst et
      refine e_aload rfl rfl ?_
      refine e_iload rfl rfl ?_
      refine Eg.p2 rfl (by decide) (by decide) rfl (Nat.le_of_ble_eq_true rfl) (xrcv_of rfl hM.1 rfl) ((ms_wreckCells hM hv hw hL (M := t)).mono (by decide)) ?_
      refine e_goto rfl ?_
      exact Eg.ret rfl (by decide) rfl ⟨congrArg (fun z => some (Value.int z)) (show (nI (wrN v t (cn v 0)) : Int32) = aWreck v (nI t) from by unfold aWreck; rw [if_pos ⟨b4, b16⟩, nI_clamp (by omega)]), rfl⟩
theorem md_masts (hM : MW sh R) (hv : mV I v) (hw : Wf v) (hL : WfL v) {x : Int32} : Ec X 5 289 [.ref 290, .int x] (sh, I, L, R) (fun r h' => r = some (.int (aMasts v x)) ∧ h' = (sh, I, L, R)) := by
  have hb := hw.1.2
  refine Ec.of (Nat.le_of_ble_eq_true rfl) ?_
  refine e_aload rfl rfl ?_
  refine e_iload rfl rfl ?_
  refine Eg.p2 rfl (by decide) (by decide) rfl (Nat.le_of_ble_eq_true rfl) (xrcv_of rfl hM.1 rfl) ((ms_isCell hM hv hw).mono (by decide)) ?_
  refine e_ifne_b rfl (fun b5 => ?_) (fun b5 => ?_)
  · replace b5 := yn_n0.mp b5
    obtain ⟨t, ht, et⟩ := nI_get b5 (by omega)
    subst et
    refine e_ipush rfl ?_
    refine e_istore rfl ?_
    refine e_ipush rfl ?_
    refine e_istore rfl ?_
    refine Eg.pk [0, 1, 2, 3] [3, 2, 0, 1] rfl (by decide) ?_
    refine up_ind (p := fun j => Eg X xTc _ 289 14 [(0, .ref 290), (1, .int (nI t)), (2, .int (nI (cntN (fun M => soA v t M (cn v 10)) j))), (3, .int (nI j))] [] (sh, I, L, R) _) (n := 61) (j := 0) (fun j hj ih => ?_) ?_ (Nat.zero_le _)
    · refine e_iload rfl rfl ?_
      refine e_ipush rfl ?_
      refine e_cgt_f rfl (nI_nlt (a := 60) (by omega) (by decide)) ?_
      refine e_iload rfl rfl ?_
      refine e_aload rfl rfl ?_
      refine e_iload rfl rfl ?_
      refine e_iload rfl rfl ?_
      refine Eg.p3 rfl (by decide) (by decide) rfl (Nat.le_of_ble_eq_true rfl) (xrcv_of rfl hM.1 rfl) ((ms_areSightsSo hM hv hw hL (c := t) (M := j) (by omega)).mono (by decide)) ?_
      refine e_ifeq_b rfl (fun b27 => ?_) (fun b27 => ?_)
      · replace b27 := yn_0.mp b27
        refine e_ipush rfl ?_
        refine e_iadd rfl ?_
        refine e_istore rfl ?_
        refine e_iinc rfl rfl ?_
        refine e_goto rfl ?_
        refine Eg.pk [0, 1, 2, 3] [3, 2, 0, 1] rfl (by decide) ?_
        rw [Int32.add_zero, nI_1, ← cntN_f (q := (fun M => soA v t M (cn v 10))) (Bool.eq_false_iff.mpr b27)]
        exact ih
      · replace b27 := yn_n0.mp b27
        refine e_ipush rfl ?_
        refine e_goto rfl ?_
        refine e_iadd rfl ?_
        refine e_istore rfl ?_
        refine e_iinc rfl rfl ?_
        refine e_goto rfl ?_
        refine Eg.pk [0, 1, 2, 3] [3, 2, 0, 1] rfl (by decide) ?_
        rw [nI_1, nI_1, ← cntN_t (q := (fun M => soA v t M (cn v 10))) b27]
        exact ih
    · refine e_iload rfl rfl ?_
      refine e_ipush rfl ?_
      refine e_cgt_t rfl (by decide) ?_
      refine e_iload rfl rfl ?_
      exact Eg.ret rfl (by decide) rfl ⟨congrArg (fun z => some (Value.int z)) (show (nI (cntN (fun M => soA v t M (cn v 10)) 61) : Int32) = aMasts v (nI t) from by unfold aMasts; rw [if_pos b5, nI_clamp (by omega)]), rfl⟩
  · replace b5 := yn_0.mp b5
    refine e_ipush rfl ?_
    exact Eg.ret rfl (by decide) rfl ⟨congrArg (fun z => some (Value.int z)) (show ((-1) : Int32) = aMasts v x from by unfold aMasts; rw [if_neg b5]), rfl⟩
theorem ms_showsIn (hM : MW sh R) (hv : mV I v) (hw : Wf v) {B M : Nat} {d : Int32} (hB : B < 4096) : Ec X 4 290 [.ref 290, .int (nI B), .int (nI M), .int d] (sh, I, L, R) (fun r h' => r = some (.int (yn (shA v B M d (cn v 0) = true))) ∧ h' = (sh, I, L, R)) := by
  have hb := hw.1.2
  refine Ec.of (Nat.le_of_ble_eq_true rfl) ?_
  refine e_ipush rfl ?_
  refine e_istv (y := yn (shA v B M d 0 = true)) rfl (yn_t (shA_iff.mpr (fun i hi => absurd hi (by omega)))).symm ?_
  refine e_ipush rfl ?_
  refine e_istore rfl ?_
  refine Eg.pk [0, 1, 2, 3, 4, 5] [5, 4, 0, 1, 2, 3] rfl (by decide) ?_
  refine up_ind (p := fun j => Eg X xTc _ 290 6 [(0, .ref 290), (1, .int (nI B)), (2, .int (nI M)), (3, .int d), (4, .int (yn (shA v B M d j = true))), (5, .int (nI j))] [] (sh, I, L, R) _) (n := cn v 0) (j := 0) (fun j hj ih => ?_) ?_ (Nat.zero_le _)
  · refine e_iload rfl rfl ?_
    refine e_aload rfl rfl ?_
    refine e_getR rfl hM.1 (hM.2 0 _ rfl).2 ?_
    refine e_ipush rfl ?_
    refine e_ialv (t := 0) (n := 14) rfl (hM.2 0 _ rfl).1 rfl (by decide) (by decide) (hv.n hw (j := 0) (by decide)) ?_
    refine e_cge_f rfl (nI_ge hj (by omega)) ?_
    refine e_iload rfl rfl ?_
    refine e_ifeq_b rfl (fun b19 => ?_) (fun b19 => ?_)
    · replace b19 := yn_0.mp b19
      refine e_ipush rfl ?_
      refine e_istore rfl ?_
      refine e_iinc rfl rfl ?_
      refine e_goto rfl ?_
      refine Eg.pk [0, 1, 2, 3, 4, 5] [5, 4, 0, 1, 2, 3] rfl (by decide) ?_
      rw [nI_1, show (0 : Int32) = yn (shA v B M d (j + 1) = true) from (yn_f (fun q => b19 (shA_iff.mpr (fun i hi => shA_iff.mp q i (by omega))))).symm]
      exact ih
    · replace b19 := yn_n0.mp b19
      refine e_iload rfl rfl ?_
      refine e_iload rfl rfl ?_
      refine e_ishr rfl ?_
      refine e_ipush rfl ?_
      refine e_iand rfl ?_
      rw [show ((nI B) >>> ((nI j) &&& 31)) &&& 1 = yn (B.testBit j = true) from nI_bit (by omega) (by omega)]
      refine e_ifeq_b rfl (fun b28 => ?_) (fun b28 => ?_)
      · replace b28 := yn_0.mp b28
        refine e_ipush rfl ?_
        refine e_goto rfl ?_
        refine e_istore rfl ?_
        refine e_iinc rfl rfl ?_
        refine e_goto rfl ?_
        refine Eg.pk [0, 1, 2, 3, 4, 5] [5, 4, 0, 1, 2, 3] rfl (by decide) ?_
        rw [nI_1, show (1 : Int32) = yn (shA v B M d (j + 1) = true) from (yn_t (shA_iff.mpr (lt_snoc (shA_iff.mp b19) (fun q => absurd q b28)))).symm]
        exact ih
      · replace b28 := yn_n0.mp b28
        refine e_aload rfl rfl ?_
        refine e_iload rfl rfl ?_
        refine e_iload rfl rfl ?_
        refine e_ipush rfl ?_
        refine e_ipush rfl ?_
        refine Eg.p5 rfl (by decide) (by decide) rfl (Nat.le_of_ble_eq_true rfl) (xrcv_of rfl hM.1 rfl) ((ms_heightOf0 hM hv hw (c := j) (M := 0) (by omega) (by omega)).mono (by decide)) ?_
        rw [Nat.or_zero]
        refine e_iload rfl rfl ?_
        refine e_cgt_b rfl (fun b41 => ?_) (fun b41 => ?_)
        · refine e_ipush rfl ?_
          refine e_istore rfl ?_
          refine e_iinc rfl rfl ?_
          refine e_goto rfl ?_
          refine Eg.pk [0, 1, 2, 3, 4, 5] [5, 4, 0, 1, 2, 3] rfl (by decide) ?_
          rw [nI_1, show (0 : Int32) = yn (shA v B M d (j + 1) = true) from (yn_f (fun q => Int32.not_lt.mpr (shA_iff.mp q j (by omega) b28) b41)).symm]
          exact ih
        · refine e_ipush rfl ?_
          refine e_goto rfl ?_
          refine e_istore rfl ?_
          refine e_iinc rfl rfl ?_
          refine e_goto rfl ?_
          refine Eg.pk [0, 1, 2, 3, 4, 5] [5, 4, 0, 1, 2, 3] rfl (by decide) ?_
          rw [nI_1, show (1 : Int32) = yn (shA v B M d (j + 1) = true) from (yn_t (shA_iff.mpr (lt_snoc (shA_iff.mp b19) (fun _ => Int32.not_lt.mp b41)))).symm]
          exact ih
  · refine e_iload rfl rfl ?_
    refine e_aload rfl rfl ?_
    refine e_getR rfl hM.1 (hM.2 0 _ rfl).2 ?_
    refine e_ipush rfl ?_
    refine e_ialv (t := 0) (n := 14) rfl (hM.2 0 _ rfl).1 rfl (by decide) (by decide) (hv.n hw (j := 0) (by decide)) ?_
    refine e_cge_t rfl (Int32.le_refl _) ?_
    refine e_iload rfl rfl ?_
    exact Eg.retZ rfl yn_01 ⟨rfl, rfl⟩
theorem md_shows_loop (hM : MW sh R) (hv : mV I v) (hw : Wf v) {B M e n : Nat} (hn : n ≤ 8000) (he : e ≤ 9999) (hB : B < 4096) : Eg X xTc 5 291 51 [(0, .ref 290), (1, .int (nI M)), (2, .int (nI e)), (3, .int (nI B)), (4, .int (nI n)), (5, .int (nI e + nI 0))] [] (sh, I, L, R) (fun r h' => r = some (.int (fst (fun d => shA v B M d (cn v 0)) (nI e) n)) ∧ h' = (sh, I, L, R)) := by
  have hb := hw.1.2
  refine Eg.pk [0, 1, 2, 3, 4, 5] [0, 1, 2, 3, 4, 5] rfl (by decide) ?_
  refine up_ind (p := fun j => (∀ i, i < j → (fun d => shA v B M d (cn v 0)) (nI e + nI i) = false) → Eg X xTc _ 291 51 [(0, .ref 290), (1, .int (nI M)), (2, .int (nI e)), (3, .int (nI B)), (4, .int (nI n)), (5, .int (nI e + nI j))] [] (sh, I, L, R) _) (n := n) (j := 0) (fun j hj ih => ?_) ?_ (Nat.zero_le _) (fun i hi => absurd hi (by omega))
  · intro hno
    refine e_iload rfl rfl ?_
    refine e_iload rfl rfl ?_
    refine e_iload rfl rfl ?_
    refine e_iadd rfl ?_
    refine e_cge_f rfl (by rw [nI_add, nI_add]; exact nI_ge (by omega) (by omega)) ?_
    refine e_aload rfl rfl ?_
    refine e_iload rfl rfl ?_
    refine e_iload rfl rfl ?_
    refine e_iload rfl rfl ?_
    refine Eg.p4 rfl (by decide) (by decide) rfl (Nat.le_of_ble_eq_true rfl) (xrcv_of rfl hM.1 rfl) ((ms_showsIn hM hv hw (B := B) (M := M) (by omega)).mono (by decide)) ?_
    refine e_ifeq_b rfl (fun b68 => ?_) (fun b68 => ?_)
    · replace b68 := yn_0.mp b68
      refine e_iinc rfl rfl ?_
      refine e_goto rfl ?_
      refine Eg.pk [0, 1, 2, 3, 4, 5] [5, 0, 1, 2, 3, 4] rfl (by decide) ?_
      rw [Int32.add_assoc, nI_1]
      exact ih (lt_snoc hno (Bool.eq_false_iff.mpr b68))
    · replace b68 := yn_n0.mp b68
      refine e_iload rfl rfl ?_
      exact Eg.ret rfl (by decide) rfl ⟨congrArg (fun z => some (Value.int z)) (fst_at (p := (fun d => shA v B M d (cn v 0))) hj hno b68).symm, rfl⟩
  · intro hno
    refine e_iload rfl rfl ?_
    refine e_iload rfl rfl ?_
    refine e_iload rfl rfl ?_
    refine e_iadd rfl ?_
    refine e_cge_t rfl (Int32.le_refl _) ?_
    refine e_ipush rfl ?_
    exact Eg.ret rfl (by decide) rfl ⟨congrArg (fun z => some (Value.int z)) (fst_no hno).symm, rfl⟩
theorem md_shows (hM : MW sh R) (hv : mV I v) (hw : Wf v) (hL : WfL v) {x d : Int32} : Ec X 6 291 [.ref 290, .int x, .int d] (sh, I, L, R) (fun r h' => r = some (.int (aShows v x d)) ∧ h' = (sh, I, L, R)) := by
  have hb := hw.1.2
  have hr := rnd_le hw
  refine Ec.of (Nat.le_of_ble_eq_true rfl) ?_
  refine e_aload rfl rfl ?_
  refine Eg.p1 rfl (by decide) (by decide) rfl (Nat.le_of_ble_eq_true rfl) (xrcv_of rfl hM.1 rfl) ((ms_isSeaV hM hv hw).mono (by decide)) ?_
  refine e_ifeq_b rfl (fun b4 => ?_) (fun b4 => ?_)
  · replace b4 := yn_0.mp b4
    refine e_ipush rfl ?_
    exact Eg.ret rfl (by decide) rfl ⟨congrArg (fun z => some (Value.int z)) (show ((-1) : Int32) = aShows v x d from by unfold aShows; rw [if_neg (by grind)]), rfl⟩
  · replace b4 := yn_n0.mp b4
    refine e_iload rfl rfl ?_
    refine e_i2l rfl ?_
    refine e_lpush rfl ?_
    refine e_lpush rfl ?_
    refine Eg.p3 rfl (by decide) (by decide) rfl (Nat.le_of_ble_eq_true rfl) (xrcv_ofs (Or.inl rfl)) ((ms_inv (x := x) (y := 0) (z := 60) rfl (by decide) (by decide)).mono (by decide)) ?_
    refine e_ifeq_b rfl (fun b16 => ?_) (fun b16 => ?_)
    · replace b16 := yn_0.mp b16
      refine e_ipush rfl ?_
      exact Eg.ret rfl (by decide) rfl ⟨congrArg (fun z => some (Value.int z)) (show ((-1) : Int32) = aShows v x d from by unfold aShows; rw [if_neg (by grind)]), rfl⟩
    · replace b16 := yn_n0.mp b16
      refine e_iload rfl rfl ?_
      refine Eg.p1 rfl (by decide) (by decide) rfl (Nat.le_of_ble_eq_true rfl) (xrcv_ofs (Or.inl rfl)) (ms_isDay.mono (by decide)) ?_
      refine e_ifne_b rfl (fun b23 => ?_) (fun b23 => ?_)
      · replace b23 := yn_n0.mp b23
        obtain ⟨t, ht, et⟩ := n60_get b16
        subst et
        obtain ⟨e, he, ed⟩ := day_get b23
        subst ed
        have hwr : wrN v t (cn v 0) < 4096 := wrN_lt (by omega)
        refine e_aload rfl rfl ?_
        refine e_iload rfl rfl ?_
        refine Eg.p2 rfl (by decide) (by decide) rfl (Nat.le_of_ble_eq_true rfl) (xrcv_of rfl hM.1 rfl) ((ms_wreckCells hM hv hw hL (M := t)).mono (by decide)) ?_
        refine e_istore rfl ?_
        refine e_iload rfl rfl ?_
        refine e_ifne_b rfl (fun b35 => ?_) (fun b35 => ?_)
        · have b35 : ¬ wrN v t (cn v 0) = 0 := fun q => b35 (by rw [q]; rfl)
          refine e_aload rfl rfl ?_
          refine Eg.p1 rfl (by decide) (by decide) rfl (Nat.le_of_ble_eq_true rfl) (xrcv_of rfl hM.1 rfl) ((ms_roundOf hM hv hw).mono (by decide)) ?_
          refine e_istore rfl ?_
          refine e_iload rfl rfl ?_
          refine e_istv (y := nI e + nI 0) rfl (Int32.add_zero _).symm ?_
          refine Eg.pk [0, 1, 2, 3, 4, 5] [5, 4, 3, 0, 1, 2] rfl (by decide) ?_
          refine (md_shows_loop hM hv hw (B := wrN v t (cn v 0)) (M := t) (n := rndN v) (by omega) he (by omega)).imp (fun r h' q => ⟨q.1.trans ?_, q.2⟩)
          unfold aShows; rw [if_pos ⟨b4, b16, b23⟩, nI_clamp (by omega), if_neg b35]
        · have b35 : wrN v t (cn v 0) = 0 := (nI_le0 (by omega)).mp (by rw [b35]; exact Int32.le_refl _)
          refine e_ipush rfl ?_
          refine e_goto rfl ?_
          refine e_istore rfl ?_
          refine e_iload rfl rfl ?_
          refine e_istv (y := nI e + nI 0) rfl (Int32.add_zero _).symm ?_
          refine Eg.pk [0, 1, 2, 3, 4, 5] [5, 4, 3, 0, 1, 2] rfl (by decide) ?_
          refine (md_shows_loop hM hv hw (B := wrN v t (cn v 0)) (M := t) (n := 0) (by omega) he (by omega)).imp (fun r h' q => ⟨q.1.trans ?_, q.2⟩)
          unfold aShows; rw [if_pos ⟨b4, b16, b23⟩, nI_clamp (by omega), if_pos b35]
      · replace b23 := yn_0.mp b23
        refine e_ipush rfl ?_
        exact Eg.ret rfl (by decide) rfl ⟨congrArg (fun z => some (Value.int z)) (show ((-1) : Int32) = aShows v x d from by unfold aShows; rw [if_neg (by grind)]), rfl⟩
end QY
