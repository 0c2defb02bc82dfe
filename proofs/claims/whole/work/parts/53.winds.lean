/-! frames; winds -/
section QZ
variable {X : xX} {h : xH} {sh : List (Nat × Nat)} {I : Nat → Nat → Int32} {L : Nat → Nat → Int64} {R : Nat → Nat → Option Nat} {v : Nat → Nat → Int32} {w s m : Nat}
theorem SeaV.fr {I' : Nat → Nat → Int32} (h : SeaV I s v) (e : ∀ i k, s ≤ i → i ≤ s + 12 → I' i k = I i k) : SeaV I' s v := by
  unfold SeaV at h ⊢
  obtain ⟨h1, h2, h3, h4, h5, h6, h7, h8⟩ := h
  refine ⟨fun j hj => ?_, ?_, ?_, fun c hc => ?_, fun t ht => ?_, fun k hk => ?_, fun k hk => ?_, fun k hk => ?_⟩
  · rw [e _ _ (by omega) (by omega)]; exact h1 j hj
  · rw [e _ _ (by omega) (by omega)]; exact h2
  · rw [e _ _ (by omega) (by omega)]; exact h3
  · rw [e _ _ (by omega) (by omega)]; exact h4 c hc
  · obtain ⟨a, b, c, d⟩ := h5 t ht
    refine ⟨?_, ?_, ?_, fun k hk hk2 => ?_⟩ <;> rw [e _ _ (by omega) (by omega)]
    · exact a
    · exact b
    · exact c
    · exact d k hk hk2
  · obtain ⟨a, b, c⟩ := h6 k hk
    refine ⟨?_, ?_, ?_⟩ <;> rw [e _ _ (by omega) (by omega)] <;> assumption
  · obtain ⟨a, b, c⟩ := h7 k hk
    refine ⟨?_, ?_, ?_⟩ <;> rw [e _ _ (by omega) (by omega)] <;> assumption
  · obtain ⟨a, b⟩ := h8 k hk
    refine ⟨?_, ?_⟩ <;> rw [e _ _ (by omega) (by omega)] <;> assumption
theorem SeaW.fr {I' : Nat → Nat → Int32} (h : SeaW I s v) (e : ∀ i k, s ≤ i → i ≤ s + 12 → I' i k = I i k) : SeaW I' s v := by
  refine ⟨?_, fun t ht => ?_⟩ <;> rw [e _ _ (by omega) (by omega)]
  · exact h.1
  · exact h.2 t ht
theorem MomV.fr {I' : Nat → Nat → Int32} (h : MomV I m v) (e : ∀ i k, m ≤ i → i ≤ m + 8 → I' i k = I i k) : MomV I' m v := by
  unfold MomV at h ⊢
  obtain ⟨h1, h2, h3, h4, h5⟩ := h
  refine ⟨?_, ?_, fun k hk => ?_, ?_, fun k hk hl => ?_⟩
  · rw [e _ _ (by omega) (by omega)]; exact h1
  · rw [e _ _ (by omega) (by omega)]; exact h2
  · obtain ⟨a, b, c, d⟩ := h3 k hk
    refine ⟨?_, ?_, ?_, ?_⟩ <;> rw [e _ _ (by omega) (by omega)] <;> assumption
  · rw [e _ _ (by omega) (by omega)]; exact h4
  · obtain ⟨a, b, c, d⟩ := h5 k hk hl
    refine ⟨?_, ?_, ?_, ?_⟩ <;> rw [e _ _ (by omega) (by omega)] <;> assumption
theorem WorV.fr {I' : Nat → Nat → Int32} (h : WorV I w v) (e : ∀ i k, w ≤ i → i ≤ w + 10 → I' i k = I i k) : WorV I' w v := by
  unfold WorV at h ⊢
  obtain ⟨h1, h2, h3, h4, h5, h6, h7⟩ := h
  refine ⟨?_, fun k hk => ?_, ?_, fun k hk => ?_, ?_, fun k hk => ?_, ?_⟩
  · rw [e _ _ (by omega) (by omega)]; exact h1
  · obtain ⟨a, b⟩ := h2 k hk
    refine ⟨?_, ?_⟩ <;> rw [e _ _ (by omega) (by omega)] <;> assumption
  · rw [e _ _ (by omega) (by omega)]; exact h3
  · obtain ⟨a, b, c⟩ := h4 k hk
    refine ⟨?_, ?_, ?_⟩ <;> rw [e _ _ (by omega) (by omega)] <;> assumption
  · rw [e _ _ (by omega) (by omega)]; exact h5
  · obtain ⟨a, b, c⟩ := h6 k hk
    refine ⟨?_, ?_, ?_⟩ <;> rw [e _ _ (by omega) (by omega)] <;> assumption
  · rw [e _ _ (by omega) (by omega)]; exact h7
/-- a told height's cell -/
def tcl (v : Nat → Nat → Int32) (k : Nat) : Nat := (v 26 k).toNatClampNeg
theorem tcl_eq {k : Nat} (hL : WfL v) (hw : Wf v) (hk : k < cn v 11) : v 26 k = nI (tcl v k) ∧ tcl v k < cn v 0 := by
  have hb := hw.1.2
  obtain ⟨c, d, h, e, hc, -⟩ := hL.2.1 k hk
  unfold tcl
  rw [e, nI_clamp (by omega)]
  exact ⟨rfl, hc⟩
/-- the sum of a told height if a train had these winds -/
def fiS (v : Nat → Nat → Int32) (tr : Nat) (lg sf : Int32) (k : Nat) : Nat → Int32 := itN (fun t z => z + (if t = tr then wv (v 5) (v 6) t lg sf (nI (tcl v k)) (v 27 k) else wvv v t (nI (tcl v k)) (v 27 k))) (v 2 (tcl v k) + drf (cn v 8) (tcl v k))
theorem fiS_eq {f a : Nat → Int32} {tr n : Nat} {b : Int32} : itN (fun t z => z + (if t = tr then a t else f t)) b n = (if tr < n then itN (fun t z => z + f t) b n - f tr + a tr else itN (fun t z => z + f t) b n) := by
  induction n with
  | zero => rfl
  | succ n ih =>
    show itN (fun t z => z + (if t = tr then a t else f t)) b n + (if n = tr then a n else f n) = (if tr < n + 1 then itN (fun t z => z + f t) b n + f n - f tr + a tr else itN (fun t z => z + f t) b n + f n)
    rw [ih]
    by_cases h1 : n = tr
    · subst h1
      rw [if_neg (by omega), if_pos rfl, if_pos (by omega)]; grind
    · rw [if_neg h1]
      by_cases h2 : tr < n
      · rw [if_pos h2, if_pos (by omega)]; grind
      · rw [if_neg h2, if_neg (by omega)]
def fiA (v : Nat → Nat → Int32) (tr : Nat) (lg sf : Int32) (n : Nat) : Bool := decide (∀ k, k < n → pos0 (fiS v tr lg sf k (cn v 1)) = v 28 k)
theorem fiA_iff {tr n : Nat} {lg sf : Int32} : fiA v tr lg sf n = true ↔ ∀ k, k < n → pos0 (fiS v tr lg sf k (cn v 1)) = v 28 k := decide_eq_true_iff
/-- the state of the search for winds: how many, the first lag, the first shift, the lags -/
def wnS (v : Nat → Nat → Int32) (tr l : Nat) (z : Nat × Int32 × Int32 × Nat) : Nat → Nat × Int32 × Int32 × Nat := itN (fun s z => if fiA v tr (nI l) (nI s) (cn v 11) then (z.1 + 1, (if z.1 = 0 then nI l else z.2.1), (if z.1 = 0 then nI s else z.2.2.1), z.2.2.2 ||| 1 <<< l) else z) z
def wnL (v : Nat → Nat → Int32) (tr : Nat) : Nat → Nat × Int32 × Int32 × Nat := itN (fun l z => wnS v tr l z (per v tr)) (0, -2, -2, 0)
theorem wnS_t {tr l n : Nat} {z : Nat × Int32 × Int32 × Nat} (h : fiA v tr (nI l) (nI n) (cn v 11) = true) : wnS v tr l z (n + 1) = ((wnS v tr l z n).1 + 1, (if (wnS v tr l z n).1 = 0 then nI l else (wnS v tr l z n).2.1), (if (wnS v tr l z n).1 = 0 then nI n else (wnS v tr l z n).2.2.1), (wnS v tr l z n).2.2.2 ||| 1 <<< l) := if_pos h
theorem wnS_le {tr l n : Nat} {z : Nat × Int32 × Int32 × Nat} : (wnS v tr l z n).1 ≤ z.1 + n := by
  induction n with
  | zero => exact Nat.le_refl _
  | succ n ih =>
    show (if fiA v tr (nI l) (nI n) (cn v 11) then _ else wnS v tr l z n).1 ≤ _
    split
    · show (wnS v tr l z n).1 + 1 ≤ _; omega
    · omega
theorem wnL_le {tr n : Nat} (hp : per v tr ≤ 20) : (wnL v tr n).1 ≤ 20 * n := by
  induction n with
  | zero => exact Nat.le_refl _
  | succ n ih =>
    show (wnS v tr n (wnL v tr n) (per v tr)).1 ≤ _
    have := wnS_le (v := v) (tr := tr) (l := n) (n := per v tr) (z := wnL v tr n)
    omega
def aWinds (v : Nat → Nat → Int32) (x y : Int32) : Int32 := if ¬ (x < 0 ∨ nI (cn v 1) ≤ x) ∧ ¬ (y < 0 ∨ 3 < y) then (let z := wnL v x.toNatClampNeg 10; if y = 0 then nI z.1 else if y = 1 then z.2.1 else if y = 2 then z.2.2.1 else nI z.2.2.2) else -1
/-- the finder's fields -/
def fnd (I : Nat → Nat → Int32) (f : Nat) (z : Nat × Int32 × Int32 × Nat) (i k : Nat) : Int32 := if i = f then (if k = 0 then nI z.1 else if k = 1 then z.2.1 else if k = 2 then z.2.2.1 else if k = 3 then nI z.2.2.2 else I i k) else I i k
theorem fnd_o {f i k : Nat} {z : Nat × Int32 × Int32 × Nat} (h : i ≠ f) : fnd I f z i k = I i k := if_neg h
theorem fnd_g0 {f : Nat} {z : Nat × Int32 × Int32 × Nat} : fnd I f z f 0 = nI z.1 := by simp [fnd]
theorem fnd_g3 {f : Nat} {z : Nat × Int32 × Int32 × Nat} : fnd I f z f 3 = nI z.2.2.2 := by simp [fnd]
theorem fnd_ini {f : Nat} : xu (xu (xu (xu I f 0 0) f 1 (-2)) f 2 (-2)) f 3 0 = fnd I f (0, -2, -2, 0) := by
  funext i k
  unfold fnd xu
  by_cases h : i = f
  · subst h
    by_cases h0 : k = 0
    · subst h0; simp; rfl
    · by_cases h1 : k = 1
      · subst h1; simp
      · by_cases h2 : k = 2
        · subst h2; simp
        · by_cases h3 : k = 3
          · subst h3; simp; rfl
          · simp [h0, h1, h2, h3]
  · simp [h]
theorem fnd_p {f : Nat} {z : Nat × Int32 × Int32 × Nat} {a : Nat} {b : Nat} : xu (xu (fnd I f z) f 0 (nI a)) f 3 (nI b) = fnd I f (a, z.2.1, z.2.2.1, b) := by
  funext i k
  unfold fnd xu
  by_cases h : i = f
  · subst h
    by_cases h0 : k = 0
    · subst h0; simp
    · by_cases h3 : k = 3
      · subst h3; simp
      · simp [h0, h3]
  · simp [h]
theorem fnd_q {f : Nat} {z : Nat × Int32 × Int32 × Nat} {x y : Int32} : xu (xu (fnd I f z) f 1 x) f 2 y = fnd I f (z.1, x, y, z.2.2.2) := by
  funext i k
  unfold fnd xu
  by_cases h : i = f
  · subst h
    by_cases h1 : k = 1
    · subst h1; simp
    · by_cases h2 : k = 2
      · subst h2; simp
      · simp [h1, h2]
  · simp [h]
theorem cs_fitsWind (hS : SeaAt sh R s) (hV : SeaV I s v) (hU : SeaW I s v) (hw : Wf v) (hM : MomAt sh R m) (hms : R m 0 = some s) (hW : MomV I m v) (rm : R w 0 = some m) (hWA : WorldAt sh R w) (hWV : WorV I w v) (hL : WfL v) {tr : Nat} {lg sf : Int32} (ht : tr < cn v 1) : Ec X 3 28 [.ref w, .int (nI tr), .int lg, .int sf] (sh, I, L, R) (fun r h' => r = some (.int (yn (fiA v tr lg sf (cn v 11) = true))) ∧ h' = (sh, I, L, R)) := by
  have hb := hw.1.2
  have hsum : ∀ j, j < cn v 11 → (if 0 < sandF v (tcl v j) (v 27 j) - wvv v tr (nI (tcl v j)) (v 27 j) + wv (v 5) (v 6) tr lg sf (nI (tcl v j)) (v 27 j) + drf (cn v 8) (tcl v j) then sandF v (tcl v j) (v 27 j) - wvv v tr (nI (tcl v j)) (v 27 j) + wv (v 5) (v 6) tr lg sf (nI (tcl v j)) (v 27 j) + drf (cn v 8) (tcl v j) else 0) = pos0 (fiS v tr lg sf j (cn v 1)) := by
    intro j hj
    unfold fiS
    rw [fiS_eq (f := fun t => wvv v t (nI (tcl v j)) (v 27 j)) (a := fun t => wv (v 5) (v 6) t lg sf (nI (tcl v j)) (v 27 j)), if_pos ht]
    rw [Int32.add_comm (v 2 _), itN_add]
    show pos0 _ = pos0 _
    congr 1
    unfold sandF
    grind
  refine Ec.of (Nat.le_of_ble_eq_true rfl) ?_
  refine e_aload rfl rfl ?_
  refine e_getR rfl hWA.1 rm ?_
  refine e_getR rfl hM.1 hms ?_
  refine e_astore rfl ?_
  refine e_ipush rfl ?_
  refine e_istore rfl ?_
  refine Eg.pk [0, 1, 2, 3, 4, 5] [5, 4, 0, 1, 2, 3] rfl (by decide) ?_
  refine up_ind (p := fun j => (∀ k, k < j → pos0 (fiS v tr lg sf k (cn v 1)) = v 28 k) → Eg X xTc _ 28 12 [(0, .ref w), (1, .int (nI tr)), (2, .int lg), (3, .int sf), (4, .ref s), (5, .int (nI j))] [] (sh, I, L, R) _) (n := cn v 11) (j := 0) (fun j hj ih => ?_) ?_ (Nat.zero_le _) (fun i hi => absurd hi (by omega))
  · intro hno
    refine e_iload rfl rfl ?_
    refine e_aload rfl rfl ?_
    refine e_getIv rfl hWA.1 hWV.2.2.1 ?_
    refine e_cge_f rfl (nI_ge hj (by omega)) ?_
    have htc := (tcl_eq hL hw hj).2
    refine e_aload rfl rfl ?_
    refine e_getR rfl hWA.1 hWA.2.2.2.2.2.1.2 ?_
    refine e_iload rfl rfl ?_
    refine e_ialv (t := j) (n := 10) rfl hWA.2.2.2.2.2.1.1 rfl (by omega) (by decide) ((hWV.2.2.2.1 j (by omega)).1.trans (tcl_eq hL hw (k := j) (by omega)).1) ?_
    refine e_istore rfl ?_
    refine e_aload rfl rfl ?_
    refine e_getR rfl hWA.1 hWA.2.2.2.2.2.2.1.2 ?_
    refine e_iload rfl rfl ?_
    refine e_ialv (t := j) (n := 10) rfl hWA.2.2.2.2.2.2.1.1 rfl (by omega) (by decide) (hWV.2.2.2.1 j (by omega)).2.1 ?_
    refine e_istore rfl ?_
    refine e_aload rfl rfl ?_
    refine e_iload rfl rfl ?_
    refine e_iload rfl rfl ?_
    refine Eg.p3 rfl (by decide) (by decide) rfl (Nat.le_of_ble_eq_true rfl) (xrcv_of rfl hS.1 rfl) ((cs_sand hS hV hw (c := tcl v j) (by omega)).mono (by decide)) ?_
    refine e_aload rfl rfl ?_
    refine e_iload rfl rfl ?_
    refine e_iload rfl rfl ?_
    refine e_iload rfl rfl ?_
    refine Eg.p4 rfl (by decide) (by decide) rfl (Nat.le_of_ble_eq_true rfl) (xrcv_of rfl hS.1 rfl) ((cs_wave hS hV hw (t := tr) (by omega)).mono (by decide)) ?_
    refine e_isub rfl ?_
    refine e_istore rfl ?_
    refine e_iload rfl rfl ?_
    refine e_aload rfl rfl ?_
    refine e_iload rfl rfl ?_
    refine e_iload rfl rfl ?_
    refine e_iload rfl rfl ?_
    refine e_iload rfl rfl ?_
    refine e_iload rfl rfl ?_
    refine Eg.p6 rfl (by decide) (by decide) rfl (Nat.le_of_ble_eq_true rfl) (xrcv_of rfl hS.1 rfl) ((cs_waveV hS hV hw (t := tr) (by omega)).mono (by decide)) ?_
    refine e_iadd rfl ?_
    refine e_aload rfl rfl ?_
    refine e_getR rfl hWA.1 rm ?_
    refine e_getIv rfl hM.1 hW.2.1 ?_
    refine e_iload rfl rfl ?_
    refine Eg.p2 rfl (by decide) (by decide) rfl (Nat.le_of_ble_eq_true rfl) (xrcv_ofs (Or.inl rfl)) ((cs_drift (F := cn v 8) (c := tcl v j) (by omega) (by omega)).mono (by decide)) ?_
    refine e_iadd rfl ?_
    refine e_istore rfl ?_
    refine e_ipush rfl ?_
    refine e_iload rfl rfl ?_
    refine e_max rfl (Nat.le_of_ble_eq_true rfl) ?_
    refine e_aload rfl rfl ?_
    refine e_getR rfl hWA.1 hWA.2.2.2.2.2.2.2.1.2 ?_
    refine e_iload rfl rfl ?_
    refine e_ialv (t := j) (n := 10) rfl hWA.2.2.2.2.2.2.2.1.1 rfl (by omega) (by decide) (hWV.2.2.2.1 j (by omega)).2.2 ?_
    refine e_ceq_b rfl (fun b104 => ?_) (fun b104 => ?_)
    · refine e_iinc rfl rfl ?_
      refine e_goto rfl ?_
      refine Eg.pk [0, 1, 2, 3, 4, 5] [5, 9, 8, 7, 6, 0, 1, 2, 3, 4] rfl (by decide) ?_
      rw [nI_1]
      exact ih (lt_snoc hno ((hsum j hj).symm.trans b104))
    · refine e_ipush rfl ?_
      exact Eg.ret rfl (by decide) rfl ⟨congrArg (fun z => some (Value.int z)) (yn_f (fun q => b104 ((hsum j hj).trans (fiA_iff.mp q j hj)))).symm, rfl⟩
  · intro hno
    refine e_iload rfl rfl ?_
    refine e_aload rfl rfl ?_
    refine e_getIv rfl hWA.1 hWV.2.2.1 ?_
    refine e_cge_t rfl (Int32.le_refl _) ?_
    refine e_ipush rfl ?_
    exact Eg.ret rfl (by decide) rfl ⟨congrArg (fun z => some (Value.int z)) (yn_t (fiA_iff.mpr hno)).symm, rfl⟩
theorem cs_findWinds (hS : SeaAt sh R s) (hV : SeaV I s v) (hU : SeaW I s v) (hw : Wf v) (hM : MomAt sh R m) (hms : R m 0 = some s) (hW : MomV I m v) (rm : R w 0 = some m) (hWA : WorldAt sh R w) (hWV : WorV I w v) (hL : WfL v) {f tr : Nat} (ht : tr < cn v 1) (hf : sh[f]? = some (1, 4)) (hfw : w + 20 < f) (hmw : m = w + 12) (hsf : s + 12 < w ∨ f < s) : Ec X 4 27 [.ref f, .ref w, .int (nI tr)] (sh, I, L, R) (fun r h' => r = none ∧ h' = (sh, fnd I f (wnL v tr 10), L, R)) := by
  have hb := hw.1.2
  have hp := per_eq hw ht
  have hV0 := hV
  have hU0 := hU
  have hW0 := hW
  have hWV0 := hWV
  refine Ec.of (Nat.le_of_ble_eq_true rfl) ?_
  refine e_aload rfl rfl ?_
  refine e_ipush rfl ?_
  refine e_putI rfl hf ?_
  refine e_aload rfl rfl ?_
  refine e_ipush rfl ?_
  refine e_putI rfl hf ?_
  refine e_aload rfl rfl ?_
  refine e_ipush rfl ?_
  refine e_putI rfl hf ?_
  refine e_aload rfl rfl ?_
  refine e_ipush rfl ?_
  refine e_putI rfl hf ?_
  rw [fnd_ini]
  refine e_ipush rfl ?_
  refine e_istore rfl ?_
  refine Eg.pk [0, 1, 2, 3] [3, 0, 1, 2] rfl (by decide) ?_
  refine up_ind (p := fun l => Eg X xTc _ 27 24 [(0, .ref f), (1, .ref w), (2, .int (nI tr)), (3, .int (nI l))] [] (sh, fnd I f (wnL v tr l), L, R) _) (n := 10) (j := 0) (fun l hl ih2 => ?_) ?_ (Nat.zero_le _)
  · refine e_iload rfl rfl ?_
    refine e_ipush rfl ?_
    refine e_cgt_f rfl (nI_nlt (a := 9) (by omega) (by decide)) ?_
    refine e_ipush rfl ?_
    refine e_istore rfl ?_
    refine Eg.pk [0, 1, 2, 3, 4] [4, 0, 1, 2, 3] rfl (by decide) ?_
    refine up_ind (p := fun j => Eg X xTc _ 27 33 [(0, .ref f), (1, .ref w), (2, .int (nI tr)), (3, .int (nI l)), (4, .int (nI j))] [] (sh, fnd I f (wnS v tr l (wnL v tr l) j), L, R) _) (n := per v tr) (j := 0) (fun j hj ih => ?_) ?_ (Nat.zero_le _)
    · have hV := hV0.fr (I' := fnd I f (wnS v tr l (wnL v tr l) j)) (fun i k h1 h2 => fnd_o (by omega))
      have hU := hU0.fr (I' := fnd I f (wnS v tr l (wnL v tr l) j)) (fun i k h1 h2 => fnd_o (by omega))
      have hW := hW0.fr (I' := fnd I f (wnS v tr l (wnL v tr l) j)) (fun i k h1 h2 => fnd_o (by omega))
      have hWV := hWV0.fr (I' := fnd I f (wnS v tr l (wnL v tr l) j)) (fun i k h1 h2 => fnd_o (by omega))
      refine e_iload rfl rfl ?_
      refine e_aload rfl rfl ?_
      refine e_getR rfl hWA.1 rm ?_
      refine e_getR rfl hM.1 hms ?_
      refine e_getR rfl hS.1 (hS.2 2 _ rfl).2 ?_
      refine e_iload rfl rfl ?_
      refine e_ialv (t := tr) (n := 3) rfl (hS.2 2 _ rfl).1 rfl (by omega) (by decide) ((hV.2.2.2.2.1 tr (by omega)).2.2.1.trans hp.1) ?_
      refine e_cge_f rfl (nI_ge hj (by omega)) ?_
      refine e_aload rfl rfl ?_
      refine e_iload rfl rfl ?_
      refine e_iload rfl rfl ?_
      refine e_iload rfl rfl ?_
      refine Eg.p4 rfl (by decide) (by decide) rfl (Nat.le_of_ble_eq_true rfl) (xrcv_ofs (Or.inl rfl)) ((cs_fitsWind hS hV hU hw hM hms hW rm hWA hWV hL (tr := tr) (lg := nI l) (sf := nI j) (by omega)).mono (by decide)) ?_
      refine e_ifne_b rfl (fun b58 => ?_) (fun b58 => ?_)
      · replace b58 := yn_n0.mp b58
        have hz1 := wnS_le (v := v) (tr := tr) (l := l) (z := (wnL v tr l)) (n := j)
        have hz2 := wnL_le (v := v) (tr := tr) (n := l) hp.2.2
        refine e_aload rfl rfl ?_
        refine e_getIv rfl hf fnd_g0 ?_
        refine e_ifne_b rfl (fun b68 => ?_) (fun b68 => ?_)
        · have b68 : ¬ (wnS v tr l (wnL v tr l) j).1 = 0 := fun q => b68 (by rw [q]; rfl)
          refine e_aload rfl rfl ?_
          refine e_dupr rfl ?_
          refine e_getIv rfl hf fnd_g0 ?_
          refine e_ipush rfl ?_
          refine e_iadd rfl ?_
          rw [show (nI (wnS v tr l (wnL v tr l) j).1) + 1 = nI ((wnS v tr l (wnL v tr l) j).1 + 1) from nI_1 _]
          refine e_putI rfl hf ?_
          refine e_aload rfl rfl ?_
          refine e_dupr rfl ?_
          refine e_getIv rfl hf ((xu_k (by decide)).trans fnd_g3) ?_
          refine e_ipush rfl ?_
          refine e_iload rfl rfl ?_
          refine e_ishl rfl ?_
          rw [show 1 <<< ((nI l) &&& 31) = nI (1 <<< l) from (show nI 1 <<< (nI l &&& 31) = _ from nI_shl (by omega))]
          refine e_ior rfl ?_
          rw [show (nI (wnS v tr l (wnL v tr l) j).2.2.2) ||| (nI (1 <<< l)) = nI ((wnS v tr l (wnL v tr l) j).2.2.2 ||| 1 <<< l) from nI_or _ _]
          refine e_putI rfl hf ?_
          rw [fnd_p]
          refine e_iinc rfl rfl ?_
          refine e_goto rfl ?_
          refine Eg.pk [0, 1, 2, 3, 4] [4, 0, 1, 2, 3] rfl (by decide) ?_
          have e : wnS v tr l (wnL v tr l) (j + 1) = ((wnS v tr l (wnL v tr l) j).1 + 1, (wnS v tr l (wnL v tr l) j).2.1, (wnS v tr l (wnL v tr l) j).2.2.1, (wnS v tr l (wnL v tr l) j).2.2.2 ||| 1 <<< l) := (wnS_t b58).trans (by rw [if_neg b68, if_neg b68])
          rw [nI_1]
          rw [e] at ih
          exact ih
        · have b68 : (wnS v tr l (wnL v tr l) j).1 = 0 := (nI_le0 (by omega)).mp (by rw [b68]; exact Int32.le_refl _)
          refine e_aload rfl rfl ?_
          refine e_iload rfl rfl ?_
          refine e_putI rfl hf ?_
          refine e_aload rfl rfl ?_
          refine e_iload rfl rfl ?_
          refine e_putI rfl hf ?_
          rw [fnd_q]
          refine e_aload rfl rfl ?_
          refine e_dupr rfl ?_
          refine e_getIv rfl hf fnd_g0 ?_
          refine e_ipush rfl ?_
          refine e_iadd rfl ?_
          rw [show (nI (wnS v tr l (wnL v tr l) j).1) + 1 = nI ((wnS v tr l (wnL v tr l) j).1 + 1) from nI_1 _]
          refine e_putI rfl hf ?_
          refine e_aload rfl rfl ?_
          refine e_dupr rfl ?_
          refine e_getIv rfl hf ((xu_k (by decide)).trans fnd_g3) ?_
          refine e_ipush rfl ?_
          refine e_iload rfl rfl ?_
          refine e_ishl rfl ?_
          rw [show 1 <<< ((nI l) &&& 31) = nI (1 <<< l) from (show nI 1 <<< (nI l &&& 31) = _ from nI_shl (by omega))]
          refine e_ior rfl ?_
          rw [show (nI (wnS v tr l (wnL v tr l) j).2.2.2) ||| (nI (1 <<< l)) = nI ((wnS v tr l (wnL v tr l) j).2.2.2 ||| 1 <<< l) from nI_or _ _]
          refine e_putI rfl hf ?_
          rw [fnd_p]
          refine e_iinc rfl rfl ?_
          refine e_goto rfl ?_
          refine Eg.pk [0, 1, 2, 3, 4] [4, 0, 1, 2, 3] rfl (by decide) ?_
          have e : wnS v tr l (wnL v tr l) (j + 1) = ((wnS v tr l (wnL v tr l) j).1 + 1, nI l, nI j, (wnS v tr l (wnL v tr l) j).2.2.2 ||| 1 <<< l) := (wnS_t b58).trans (by rw [if_pos b68, if_pos b68])
          rw [nI_1]
          rw [e] at ih
          exact ih
      · replace b58 := yn_0.mp b58
        refine e_goto rfl ?_
        refine e_iinc rfl rfl ?_
        refine e_goto rfl ?_
        refine Eg.pk [0, 1, 2, 3, 4] [4, 0, 1, 2, 3] rfl (by decide) ?_
        have e : wnS v tr l (wnL v tr l) (j + 1) = (wnS v tr l (wnL v tr l) j) := if_neg b58
        rw [nI_1]
        rw [e] at ih
        exact ih
    · have hV := hV0.fr (I' := fnd I f (wnS v tr l (wnL v tr l) (per v tr))) (fun i k h1 h2 => fnd_o (by omega))
      have hU := hU0.fr (I' := fnd I f (wnS v tr l (wnL v tr l) (per v tr))) (fun i k h1 h2 => fnd_o (by omega))
      have hW := hW0.fr (I' := fnd I f (wnS v tr l (wnL v tr l) (per v tr))) (fun i k h1 h2 => fnd_o (by omega))
      have hWV := hWV0.fr (I' := fnd I f (wnS v tr l (wnL v tr l) (per v tr))) (fun i k h1 h2 => fnd_o (by omega))
      refine e_iload rfl rfl ?_
      refine e_aload rfl rfl ?_
      refine e_getR rfl hWA.1 rm ?_
      refine e_getR rfl hM.1 hms ?_
      refine e_getR rfl hS.1 (hS.2 2 _ rfl).2 ?_
      refine e_iload rfl rfl ?_
      refine e_ialv (t := tr) (n := 3) rfl (hS.2 2 _ rfl).1 rfl (by omega) (by decide) ((hV.2.2.2.2.1 tr (by omega)).2.2.1.trans hp.1) ?_
      refine e_cge_t rfl (Int32.le_refl _) ?_
      refine e_iinc rfl rfl ?_
      refine e_goto rfl ?_
      refine Eg.pk [0, 1, 2, 3] [3, 0, 1, 2, 4] rfl (by decide) ?_
      rw [nI_1]
      exact ih2
  · refine e_iload rfl rfl ?_
    refine e_ipush rfl ?_
    refine e_cgt_t rfl (by decide) ?_
    exact Eg.ret rfl (by decide) rfl ⟨rfl, rfl⟩
theorem fnd_g1 {f : Nat} {z : Nat × Int32 × Int32 × Nat} : fnd I f z f 1 = z.2.1 := by simp [fnd]
theorem fnd_g2 {f : Nat} {z : Nat × Int32 × Int32 × Nat} : fnd I f z f 2 = z.2.2.1 := by simp [fnd]
theorem n3_get {x : Int32} (h : ¬ (x < 0 ∨ 3 < x)) : x = 0 ∨ x = 1 ∨ x = 2 ∨ x = 3 := by
  obtain ⟨t, ht, e⟩ := nI_of2 (x := x) (M := 3) (n := 3) (by decide) (fun q => h (Or.inl q)) (Int32.not_lt.mp (fun q => h (Or.inr q)))
  subst e
  have : t = 0 ∨ t = 1 ∨ t = 2 ∨ t = 3 := by omega
  rcases this with h | h | h | h <;> subst h
  · exact Or.inl rfl
  · exact Or.inr (Or.inl rfl)
  · exact Or.inr (Or.inr (Or.inl rfl))
  · exact Or.inr (Or.inr (Or.inr rfl))
theorem cf_winds (hq : CQ sh I R w m s v) (hWA : WorldAt sh R w) (hWV : WorV I w v) (hL : WfL v) {f : Nat} (r11 : R 0 11 = some f) (hf : sh[f]? = some (1, 4)) (hfw : w + 20 < f) (hmw : m = w + 12) (hsf : s + 12 < w ∨ f < s) {x y : Int32} : Ec X 5 164 [.ref 0, .int x, .int y] (sh, I, L, R) (fun r h' => r = some (.int (aWinds v x y)) ∧ ∃ I', h' = (sh, I', L, R) ∧ ∀ i k, i ≠ f → I' i k = I i k) := by
  obtain ⟨h0, r7, hWd, rm, hM, hms, hS, hV, hU, hw, hW⟩ := hq
  have hb := hw.1.2
  refine Ec.of (Nat.le_of_ble_eq_true rfl) ?_
  refine e_iload rfl rfl ?_
  refine e_iflt_b rfl (fun b1 => ?_) (fun b1 => ?_)
  · refine e_ipush rfl ?_
    exact Eg.ret rfl (by decide) rfl ⟨congrArg (fun z => some (Value.int z)) (show (-1 : Int32) = aWinds v x y by unfold aWinds; rw [if_neg (by grind)]), ⟨_, rfl, fun i k hi => rfl⟩⟩
  · refine e_iload rfl rfl ?_
    refine e_aload rfl rfl ?_
    refine e_getR rfl h0 r7 ?_
    refine e_getR rfl hWA.1 rm ?_
    refine e_getR rfl hM.1 hms ?_
    refine e_getIv rfl hS.1 (hV.1 1 (by decide)) ?_
    refine e_cge_b rfl (fun b18 => ?_) (fun b18 => ?_)
    · refine e_ipush rfl ?_
      exact Eg.ret rfl (by decide) rfl ⟨congrArg (fun z => some (Value.int z)) (show (-1 : Int32) = aWinds v x y by unfold aWinds; rw [if_neg (by grind)]), ⟨_, rfl, fun i k hi => rfl⟩⟩
    · refine e_iload rfl rfl ?_
      refine e_ipush rfl ?_
      refine e_ipush rfl ?_
      refine Eg.p3 rfl (by decide) (by decide) rfl (Nat.le_of_ble_eq_true rfl) (xrcv_ofs (Or.inl rfl)) (cs_withinY.mono (by decide)) ?_
      refine e_ifne_b rfl (fun by2 => ?_) (fun by2 => ?_)
      · replace by2 := yn_n0.mp by2
        have bx : ¬ (x < 0 ∨ nI (cn v 1) ≤ x) := fun q => q.elim b1 b18
        obtain ⟨t, ht, et⟩ := nI_get bx (by omega)
        subst et
        refine e_aload rfl rfl ?_
        refine e_getR rfl h0 r11 ?_
        refine e_aload rfl rfl ?_
        refine e_getR rfl h0 r7 ?_
        refine e_iload rfl rfl ?_
        refine Eg.c3 rfl (by decide) (by decide) rfl (Nat.le_of_ble_eq_true rfl) (xrcv_of rfl hf rfl) ((cs_findWinds hS hV hU hw hM hms hW rm hWA hWV hL (tr := t) (by omega) hf hfw hmw hsf).mono (by decide)) (fun r1 h1 hq => ?_)
        obtain ⟨rfl, rfl⟩ := hq
        refine e_iload rfl rfl ?_
        by_cases q0 : y = 0
        · subst q0
          refine e_tsw rfl (by decide) rfl ?_
          refine e_aload rfl rfl ?_
          refine e_getR rfl h0 r11 ?_
          refine e_getIv rfl hf fnd_g0 ?_
          exact Eg.ret rfl (by decide) rfl ⟨congrArg (fun z => some (Value.int z)) (show (nI (wnL v t 10).1 : Int32) = aWinds v (nI t) 0 by unfold aWinds; rw [if_pos ⟨bx, by2⟩, nI_clamp (by omega)]; rfl), ⟨_, rfl, fun i k hi => fnd_o hi⟩⟩
        · by_cases q1 : y = 1
          · subst q1
            refine e_tsw rfl (by decide) rfl ?_
            refine e_aload rfl rfl ?_
            refine e_getR rfl h0 r11 ?_
            refine e_getIv rfl hf fnd_g1 ?_
            exact Eg.ret rfl (by decide) rfl ⟨congrArg (fun z => some (Value.int z)) (show ((wnL v t 10).2.1 : Int32) = aWinds v (nI t) 1 by unfold aWinds; rw [if_pos ⟨bx, by2⟩, nI_clamp (by omega)]; rfl), ⟨_, rfl, fun i k hi => fnd_o hi⟩⟩
          · by_cases q2 : y = 2
            · subst q2
              refine e_tsw rfl (by decide) rfl ?_
              refine e_aload rfl rfl ?_
              refine e_getR rfl h0 r11 ?_
              refine e_getIv rfl hf fnd_g2 ?_
              exact Eg.ret rfl (by decide) rfl ⟨congrArg (fun z => some (Value.int z)) (show ((wnL v t 10).2.2.1 : Int32) = aWinds v (nI t) 2 by unfold aWinds; rw [if_pos ⟨bx, by2⟩, nI_clamp (by omega)]; rfl), ⟨_, rfl, fun i k hi => fnd_o hi⟩⟩
            · refine e_tswd rfl (sw_out (n := 3) (by decide) (fun t ht e => by match t, ht with | 0, _ => exact q0 e | 1, _ => exact q1 e | 2, _ => exact q2 e)) ?_
              refine e_aload rfl rfl ?_
              refine e_getR rfl h0 r11 ?_
              refine e_getIv rfl hf fnd_g3 ?_
              exact Eg.ret rfl (by decide) rfl ⟨congrArg (fun z => some (Value.int z)) (show (nI (wnL v t 10).2.2.2 : Int32) = aWinds v (nI t) y by unfold aWinds; rw [if_pos ⟨bx, by2⟩, nI_clamp (by omega)]; exact (by rw [if_neg q0, if_neg q1, if_neg q2])), ⟨_, rfl, fun i k hi => fnd_o hi⟩⟩
      · replace by2 := yn_0.mp by2
        refine e_ipush rfl ?_
        exact Eg.ret rfl (by decide) rfl ⟨congrArg (fun z => some (Value.int z)) (show (-1 : Int32) = aWinds v x y by unfold aWinds; rw [if_neg (by grind)]), ⟨_, rfl, fun i k hi => rfl⟩⟩
theorem ms_isWind (hM : MW sh R) (hv : mV I v) (hw : Wf v) (hL : WfL v) {tr : Nat} {lg sf : Int32} (ht : tr < cn v 1) : Ec X 3 293 [.ref 290, .int (nI tr), .int lg, .int sf] (sh, I, L, R) (fun r h' => r = some (.int (yn (fiA v tr lg sf (cn v 11) = true))) ∧ h' = (sh, I, L, R)) := by
  have hb := hw.1.2
  refine Ec.of (Nat.le_of_ble_eq_true rfl) ?_
  refine e_ipush rfl ?_
  refine e_istore rfl ?_
  refine Eg.pk [0, 1, 2, 3, 4] [4, 0, 1, 2, 3] rfl (by decide) ?_
  refine up_ind (p := fun j => (∀ k, k < j → pos0 (fiS v tr lg sf k (cn v 1)) = v 28 k) → Eg X xTc _ 293 3 [(0, .ref 290), (1, .int (nI tr)), (2, .int lg), (3, .int sf), (4, .int (nI j))] [] (sh, I, L, R) _) (n := cn v 11) (j := 0) (fun j hj ih => ?_) ?_ (Nat.zero_le _) (fun i hi => absurd hi (by omega))
  · intro hno
    refine e_iload rfl rfl ?_
    refine e_aload rfl rfl ?_
    refine e_getR rfl hM.1 (hM.2 0 _ rfl).2 ?_
    refine e_ipush rfl ?_
    refine e_ialv (t := 11) (n := 14) rfl (hM.2 0 _ rfl).1 rfl (by decide) (by decide) (hv.n hw (j := 11) (by decide)) ?_
    refine e_cge_f rfl (nI_ge hj (by omega)) ?_
    have htc := tcl_eq hL hw hj
    refine e_aload rfl rfl ?_
    refine e_aload rfl rfl ?_
    refine e_getR rfl hM.1 (hM.2 25 _ rfl).2 ?_
    refine e_iload rfl rfl ?_
    refine e_ialv (t := j) (n := 10) rfl (hM.2 25 _ rfl).1 rfl (by omega) (by decide) ((hv 26 j (by decide)).trans htc.1) ?_
    refine e_aload rfl rfl ?_
    refine e_getR rfl hM.1 (hM.2 26 _ rfl).2 ?_
    refine e_iload rfl rfl ?_
    refine e_ialv (t := j) (n := 10) rfl (hM.2 26 _ rfl).1 rfl (by omega) (by decide) (hv 27 j (by decide)) ?_
    refine e_ipush rfl ?_
    refine e_ipush rfl ?_
    refine Eg.p5 rfl (by decide) (by decide) rfl (Nat.le_of_ble_eq_true rfl) (xrcv_of rfl hM.1 rfl) ((ms_restOf0 hM hv hw (c := tcl v j) (M := 0) (by omega) (by decide)).mono (by decide)) ?_
    refine e_istv (y := fiS v tr lg sf j 0) rfl (by rw [Nat.or_zero]; rfl) ?_
    refine e_ipush rfl ?_
    refine e_istore rfl ?_
    refine Eg.pk [0, 1, 2, 3, 4, 5, 6] [6, 5, 0, 1, 2, 3, 4] rfl (by decide) ?_
    refine up_ind (p := fun i => Eg X xTc _ 293 40 [(0, .ref 290), (1, .int (nI tr)), (2, .int lg), (3, .int sf), (4, .int (nI j)), (5, .int (fiS v tr lg sf j i)), (6, .int (nI i))] [] (sh, I, L, R) _) (n := cn v 1) (j := 0) (fun i hi ih2 => ?_) ?_ (Nat.zero_le _)
    · refine e_iload rfl rfl ?_
      refine e_aload rfl rfl ?_
      refine e_getR rfl hM.1 (hM.2 0 _ rfl).2 ?_
      refine e_ipush rfl ?_
      refine e_ialv (t := 1) (n := 14) rfl (hM.2 0 _ rfl).1 rfl (by decide) (by decide) (hv.n hw (j := 1) (by decide)) ?_
      refine e_cge_f rfl (nI_ge hi (by omega)) ?_
      refine e_iload rfl rfl ?_
      refine e_aload rfl rfl ?_
      refine e_iload rfl rfl ?_
      refine e_aload rfl rfl ?_
      refine e_getR rfl hM.1 (hM.2 25 _ rfl).2 ?_
      refine e_iload rfl rfl ?_
      refine e_ialv (t := j) (n := 10) rfl (hM.2 25 _ rfl).1 rfl (by omega) (by decide) ((hv 26 j (by decide)).trans htc.1) ?_
      refine e_aload rfl rfl ?_
      refine e_getR rfl hM.1 (hM.2 26 _ rfl).2 ?_
      refine e_iload rfl rfl ?_
      refine e_ialv (t := j) (n := 10) rfl (hM.2 26 _ rfl).1 rfl (by omega) (by decide) (hv 27 j (by decide)) ?_
      refine e_iload rfl rfl ?_
      refine e_iload rfl rfl ?_
      refine e_cne_b rfl (fun b73 => ?_) (fun b73 => ?_)
      · have b73 : ¬ i = tr := fun q => b73 (congrArg nI q)
        refine e_aload rfl rfl ?_
        refine e_getR rfl hM.1 (hM.2 2 _ rfl).2 ?_
        refine e_iload rfl rfl ?_
        refine e_ialv (t := i) (n := 3) rfl (hM.2 2 _ rfl).1 rfl (by omega) (by decide) (hv 3 i (by decide)) ?_
        refine e_iload rfl rfl ?_
        refine e_iload rfl rfl ?_
        refine e_cne_t rfl (fun q => b73 ((nI_eq (by omega) (by omega)).mp q)) ?_
        refine e_aload rfl rfl ?_
        refine e_getR rfl hM.1 (hM.2 3 _ rfl).2 ?_
        refine e_iload rfl rfl ?_
        refine e_ialv (t := i) (n := 3) rfl (hM.2 3 _ rfl).1 rfl (by omega) (by decide) (hv 4 i (by decide)) ?_
        refine Eg.p6 rfl (by decide) (by decide) rfl (Nat.le_of_ble_eq_true rfl) (xrcv_of rfl hM.1 rfl) ((ms_trainV hM hv hw (t := i) (by omega)).mono (by decide)) ?_
        refine e_iadd rfl ?_
        refine e_istore rfl ?_
        refine e_iinc rfl rfl ?_
        refine e_goto rfl ?_
        refine Eg.pk [0, 1, 2, 3, 4, 5, 6] [6, 5, 0, 1, 2, 3, 4] rfl (by decide) ?_
        have e : fiS v tr lg sf j (i + 1) = fiS v tr lg sf j i + wv (v 5) (v 6) i (v 3 i) (v 4 i) (nI (tcl v j)) (v 27 j) := congrArg (fun q => fiS v tr lg sf j i + q) (if_neg b73)
        rw [nI_1, ← e]
        exact ih2
      · have b73 : i = tr := (nI_eq (by omega) (by omega)).mp b73
        refine e_iload rfl rfl ?_
        refine e_goto rfl ?_
        refine e_iload rfl rfl ?_
        refine e_iload rfl rfl ?_
        refine e_cne_f rfl (congrArg nI b73) ?_
        refine e_iload rfl rfl ?_
        refine e_goto rfl ?_
        refine Eg.p6 rfl (by decide) (by decide) rfl (Nat.le_of_ble_eq_true rfl) (xrcv_of rfl hM.1 rfl) ((ms_trainV hM hv hw (t := i) (by omega)).mono (by decide)) ?_
        refine e_iadd rfl ?_
        refine e_istore rfl ?_
        refine e_iinc rfl rfl ?_
        refine e_goto rfl ?_
        refine Eg.pk [0, 1, 2, 3, 4, 5, 6] [6, 5, 0, 1, 2, 3, 4] rfl (by decide) ?_
        have e : fiS v tr lg sf j (i + 1) = fiS v tr lg sf j i + wv (v 5) (v 6) i lg sf (nI (tcl v j)) (v 27 j) := congrArg (fun q => fiS v tr lg sf j i + q) (if_pos b73)
        rw [nI_1, ← e]
        exact ih2
    · refine e_iload rfl rfl ?_
      refine e_aload rfl rfl ?_
      refine e_getR rfl hM.1 (hM.2 0 _ rfl).2 ?_
      refine e_ipush rfl ?_
      refine e_ialv (t := 1) (n := 14) rfl (hM.2 0 _ rfl).1 rfl (by decide) (by decide) (hv.n hw (j := 1) (by decide)) ?_
      refine e_cge_t rfl (Int32.le_refl _) ?_
      refine e_iload rfl rfl ?_
      refine e_ifle_b rfl (fun b118 => ?_) (fun b118 => ?_)
      · refine e_ipush rfl ?_
        refine e_aload rfl rfl ?_
        refine e_getR rfl hM.1 (hM.2 27 _ rfl).2 ?_
        refine e_iload rfl rfl ?_
        refine e_ialv (t := j) (n := 10) rfl (hM.2 27 _ rfl).1 rfl (by omega) (by decide) (hv 28 j (by decide)) ?_
        refine e_ceq_b rfl (fun b134 => ?_) (fun b134 => ?_)
        · refine e_iinc rfl rfl ?_
          refine e_goto rfl ?_
          refine Eg.pk [0, 1, 2, 3, 4] [4, 0, 1, 2, 3, 5, 6] rfl (by decide) ?_
          rw [nI_1]
          exact ih (lt_snoc hno ((if_neg (Int32.not_lt.mpr b118)).trans b134))
        · refine e_ipush rfl ?_
          exact Eg.ret rfl (by decide) rfl ⟨congrArg (fun z => some (Value.int z)) (yn_f (fun q => b134 ((if_neg (Int32.not_lt.mpr b118)).symm.trans (fiA_iff.mp q j hj)))).symm, rfl⟩
      · refine e_iload rfl rfl ?_
        refine e_goto rfl ?_
        refine e_aload rfl rfl ?_
        refine e_getR rfl hM.1 (hM.2 27 _ rfl).2 ?_
        refine e_iload rfl rfl ?_
        refine e_ialv (t := j) (n := 10) rfl (hM.2 27 _ rfl).1 rfl (by omega) (by decide) (hv 28 j (by decide)) ?_
        refine e_ceq_b rfl (fun b134 => ?_) (fun b134 => ?_)
        · refine e_iinc rfl rfl ?_
          refine e_goto rfl ?_
          refine Eg.pk [0, 1, 2, 3, 4] [4, 0, 1, 2, 3, 5, 6] rfl (by decide) ?_
          rw [nI_1]
          exact ih (lt_snoc hno ((if_pos (Int32.not_le.mp b118)).trans b134))
        · refine e_ipush rfl ?_
          exact Eg.ret rfl (by decide) rfl ⟨congrArg (fun z => some (Value.int z)) (yn_f (fun q => b134 ((if_pos (Int32.not_le.mp b118)).symm.trans (fiA_iff.mp q j hj)))).symm, rfl⟩
  · intro hno
    refine e_iload rfl rfl ?_
    refine e_aload rfl rfl ?_
    refine e_getR rfl hM.1 (hM.2 0 _ rfl).2 ?_
    refine e_ipush rfl ?_
    refine e_ialv (t := 11) (n := 14) rfl (hM.2 0 _ rfl).1 rfl (by decide) (by decide) (hv.n hw (j := 11) (by decide)) ?_
    refine e_cge_t rfl (Int32.le_refl _) ?_
    refine e_ipush rfl ?_
    exact Eg.ret rfl (by decide) rfl ⟨congrArg (fun z => some (Value.int z)) (yn_t (fiA_iff.mpr hno)).symm, rfl⟩
theorem md_winds (hM : MW sh R) (hv : mV I v) (hw : Wf v) (hL : WfL v) {x y : Int32} : Ec X 4 294 [.ref 290, .int x, .int y] (sh, I, L, R) (fun r h' => r = some (.int (aWinds v x y)) ∧ h' = (sh, I, L, R)) := by
  have hb := hw.1.2
  refine Ec.of (Nat.le_of_ble_eq_true rfl) ?_
  refine e_aload rfl rfl ?_
  refine e_iload rfl rfl ?_
  refine Eg.p2 rfl (by decide) (by decide) rfl (Nat.le_of_ble_eq_true rfl) (xrcv_of rfl hM.1 rfl) ((ms_isTrain hM hv hw).mono (by decide)) ?_
  refine e_ifeq_b rfl (fun b5 => ?_) (fun b5 => ?_)
  · replace b5 := yn_0.mp b5
    refine e_ipush rfl ?_
    exact Eg.ret rfl (by decide) rfl ⟨congrArg (fun z => some (Value.int z)) (show ((-1) : Int32) = aWinds v x y from by unfold aWinds; rw [if_neg (by grind)]), rfl⟩
  · replace b5 := yn_n0.mp b5
    refine e_iload rfl rfl ?_
    refine e_i2l rfl ?_
    refine e_lpush rfl ?_
    refine e_lpush rfl ?_
    refine Eg.p3 rfl (by decide) (by decide) rfl (Nat.le_of_ble_eq_true rfl) (xrcv_ofs (Or.inl rfl)) ((ms_inv (x := y) (y := 0) (z := 3) rfl (by decide) (by decide)).mono (by decide)) ?_
    refine e_ifne_b rfl (fun b17 => ?_) (fun b17 => ?_)
    · replace b17 := yn_n0.mp b17
      obtain ⟨t, ht, et⟩ := nI_get b5 (by omega)
      subst et
      have hp := per_eq hw ht
      refine e_ipush rfl ?_
      refine e_istore rfl ?_
      refine e_ipush rfl ?_
      refine e_istore rfl ?_
      refine e_ipush rfl ?_
      refine e_istore rfl ?_
      refine e_ipush rfl ?_
      refine e_istore rfl ?_
      refine e_ipush rfl ?_
      refine e_istore rfl ?_
      refine Eg.pk [0, 1, 2, 3, 4, 5, 6, 7] [7, 6, 5, 4, 3, 0, 1, 2] rfl (by decide) ?_
      refine up_ind (p := fun l => Eg X xTc _ 294 38 [(0, .ref 290), (1, .int (nI t)), (2, .int y), (3, .int (nI (wnL v t l).1)), (4, .int ((wnL v t l).2.1)), (5, .int ((wnL v t l).2.2.1)), (6, .int (nI (wnL v t l).2.2.2)), (7, .int (nI l))] [] (sh, I, L, R) _) (n := 10) (j := 0) (fun l hl ih2 => ?_) ?_ (Nat.zero_le _)
      · refine e_iload rfl rfl ?_
        refine e_ipush rfl ?_
        refine e_cge_f rfl (nI_ge (b := 10) hl (by decide)) ?_
        refine e_ipush rfl ?_
        refine e_istore rfl ?_
        refine Eg.pk [0, 1, 2, 3, 4, 5, 6, 7, 8] [8, 0, 1, 2, 3, 4, 5, 6, 7] rfl (by decide) ?_
        refine up_ind (p := fun j => Eg X xTc _ 294 48 [(0, .ref 290), (1, .int (nI t)), (2, .int y), (3, .int (nI (wnS v t l (wnL v t l) j).1)), (4, .int ((wnS v t l (wnL v t l) j).2.1)), (5, .int ((wnS v t l (wnL v t l) j).2.2.1)), (6, .int (nI (wnS v t l (wnL v t l) j).2.2.2)), (7, .int (nI l)), (8, .int (nI j))] [] (sh, I, L, R) _) (n := per v t) (j := 0) (fun j hj ih => ?_) ?_ (Nat.zero_le _)
        · refine e_iload rfl rfl ?_
          refine e_aload rfl rfl ?_
          refine e_getR rfl hM.1 (hM.2 4 _ rfl).2 ?_
          refine e_iload rfl rfl ?_
          refine e_ialv (t := t) (n := 3) rfl (hM.2 4 _ rfl).1 rfl (by omega) (by decide) ((hv 5 t (by decide)).trans hp.1) ?_
          refine e_cge_f rfl (nI_ge hj (by omega)) ?_
          refine e_aload rfl rfl ?_
          refine e_iload rfl rfl ?_
          refine e_iload rfl rfl ?_
          refine e_iload rfl rfl ?_
          refine Eg.p4 rfl (by decide) (by decide) rfl (Nat.le_of_ble_eq_true rfl) (xrcv_of rfl hM.1 rfl) ((ms_isWind hM hv hw hL (tr := t) (by omega)).mono (by decide)) ?_
          refine e_ifeq_b rfl (fun b68 => ?_) (fun b68 => ?_)
          · replace b68 := yn_0.mp b68
            refine e_iinc rfl rfl ?_
            refine e_goto rfl ?_
            refine Eg.pk [0, 1, 2, 3, 4, 5, 6, 7, 8] [8, 0, 1, 2, 3, 4, 5, 6, 7] rfl (by decide) ?_
            have e : wnS v t l (wnL v t l) (j + 1) = (wnS v t l (wnL v t l) j) := if_neg b68
            rw [nI_1 j]
            rw [e] at ih
            exact ih
          · replace b68 := yn_n0.mp b68
            have hz1 := wnS_le (v := v) (tr := t) (l := l) (z := wnL v t l) (n := j)
            have hz2 := wnL_le (v := v) (tr := t) (n := l) hp.2.2
            refine e_iload rfl rfl ?_
            refine e_ifne_b rfl (fun b72 => ?_) (fun b72 => ?_)
            · have b72 : ¬ (wnS v t l (wnL v t l) j).1 = 0 := fun q => b72 (by rw [q]; rfl)
              refine e_iload rfl rfl ?_
              refine e_istore rfl ?_
              refine e_iload rfl rfl ?_
              refine e_ifne_t rfl (fun q => b72 ((nI_le0 (by omega)).mp (by rw [q]; exact Int32.le_refl _))) ?_
              refine e_iload rfl rfl ?_
              refine e_istore rfl ?_
              refine e_iload rfl rfl ?_
              refine e_ipush rfl ?_
              refine e_iload rfl rfl ?_
              refine e_ishl rfl ?_
              rw [show 1 <<< ((nI l) &&& 31) = nI (1 <<< l) from (show nI 1 <<< (nI l &&& 31) = _ from nI_shl (by omega))]
              refine e_ior rfl ?_
              rw [show (nI (wnS v t l (wnL v t l) j).2.2.2) ||| (nI (1 <<< l)) = nI ((wnS v t l (wnL v t l) j).2.2.2 ||| 1 <<< l) from nI_or _ _]
              refine e_istore rfl ?_
              refine e_iinc rfl rfl ?_
              refine e_iinc rfl rfl ?_
              refine e_goto rfl ?_
              refine Eg.pk [0, 1, 2, 3, 4, 5, 6, 7, 8] [8, 3, 6, 5, 4, 0, 1, 2, 7] rfl (by decide) ?_
              have e : wnS v t l (wnL v t l) (j + 1) = ((wnS v t l (wnL v t l) j).1 + 1, (wnS v t l (wnL v t l) j).2.1, (wnS v t l (wnL v t l) j).2.2.1, (wnS v t l (wnL v t l) j).2.2.2 ||| 1 <<< l) := (wnS_t b68).trans (by rw [if_neg b72, if_neg b72])
              rw [nI_1 j, nI_1 ((wnS v t l (wnL v t l) j).1)]
              rw [e] at ih
              exact ih
            · have b72 : (wnS v t l (wnL v t l) j).1 = 0 := (nI_le0 (by omega)).mp (by rw [b72]; exact Int32.le_refl _)
              refine e_iload rfl rfl ?_
              refine e_goto rfl ?_
              refine e_istore rfl ?_
              refine e_iload rfl rfl ?_
              refine e_ifne_f rfl (by rw [b72]; rfl) ?_
              refine e_iload rfl rfl ?_
              refine e_goto rfl ?_
              refine e_istore rfl ?_
              refine e_iload rfl rfl ?_
              refine e_ipush rfl ?_
              refine e_iload rfl rfl ?_
              refine e_ishl rfl ?_
              rw [show 1 <<< ((nI l) &&& 31) = nI (1 <<< l) from (show nI 1 <<< (nI l &&& 31) = _ from nI_shl (by omega))]
              refine e_ior rfl ?_
              rw [show (nI (wnS v t l (wnL v t l) j).2.2.2) ||| (nI (1 <<< l)) = nI ((wnS v t l (wnL v t l) j).2.2.2 ||| 1 <<< l) from nI_or _ _]
              refine e_istore rfl ?_
              refine e_iinc rfl rfl ?_
              refine e_iinc rfl rfl ?_
              refine e_goto rfl ?_
              refine Eg.pk [0, 1, 2, 3, 4, 5, 6, 7, 8] [8, 3, 6, 5, 4, 0, 1, 2, 7] rfl (by decide) ?_
              have e : wnS v t l (wnL v t l) (j + 1) = ((wnS v t l (wnL v t l) j).1 + 1, nI l, nI j, (wnS v t l (wnL v t l) j).2.2.2 ||| 1 <<< l) := (wnS_t b68).trans (by rw [if_pos b72, if_pos b72])
              rw [nI_1 j, nI_1 ((wnS v t l (wnL v t l) j).1)]
              rw [e] at ih
              exact ih
        · refine e_iload rfl rfl ?_
          refine e_aload rfl rfl ?_
          refine e_getR rfl hM.1 (hM.2 4 _ rfl).2 ?_
          refine e_iload rfl rfl ?_
          refine e_ialv (t := t) (n := 3) rfl (hM.2 4 _ rfl).1 rfl (by omega) (by decide) ((hv 5 t (by decide)).trans hp.1) ?_
          refine e_cge_t rfl (Int32.le_refl _) ?_
          refine e_iinc rfl rfl ?_
          refine e_goto rfl ?_
          refine Eg.pk [0, 1, 2, 3, 4, 5, 6, 7] [7, 0, 1, 2, 3, 4, 5, 6, 8] rfl (by decide) ?_
          rw [nI_1]
          exact ih2
      · refine e_iload rfl rfl ?_
        refine e_ipush rfl ?_
        refine e_cge_t rfl (Int32.le_refl _) ?_
        refine e_iload rfl rfl ?_
        refine e_ifne_b rfl (fun b122 => ?_) (fun b122 => ?_)
        · refine e_iload rfl rfl ?_
          refine e_ipush rfl ?_
          refine e_cne_b rfl (fun b131 => ?_) (fun b131 => ?_)
          · refine e_iload rfl rfl ?_
            refine e_ipush rfl ?_
            refine e_cne_b rfl (fun b141 => ?_) (fun b141 => ?_)
            · refine e_iload rfl rfl ?_
              exact Eg.ret rfl (by decide) rfl ⟨congrArg (fun z => some (Value.int z)) (show (nI (wnL v t 10).2.2.2 : Int32) = aWinds v (nI t) y from by unfold aWinds; rw [if_pos ⟨b5, b17⟩, nI_clamp (by omega)]; exact (by rw [if_neg b122, if_neg b131, if_neg b141])), rfl⟩
            · refine e_iload rfl rfl ?_
              refine e_goto rfl ?_
              exact Eg.ret rfl (by decide) rfl ⟨congrArg (fun z => some (Value.int z)) (show ((wnL v t 10).2.2.1 : Int32) = aWinds v (nI t) y from by unfold aWinds; rw [if_pos ⟨b5, b17⟩, nI_clamp (by omega)]; exact (by rw [if_neg b122, if_neg b131, if_pos b141])), rfl⟩
          · refine e_iload rfl rfl ?_
            refine e_goto rfl ?_
            exact Eg.ret rfl (by decide) rfl ⟨congrArg (fun z => some (Value.int z)) (show ((wnL v t 10).2.1 : Int32) = aWinds v (nI t) y from by unfold aWinds; rw [if_pos ⟨b5, b17⟩, nI_clamp (by omega)]; exact (by rw [if_neg b122, if_pos b131])), rfl⟩
        · refine e_iload rfl rfl ?_
          refine e_goto rfl ?_
          exact Eg.ret rfl (by decide) rfl ⟨congrArg (fun z => some (Value.int z)) (show (nI (wnL v t 10).1 : Int32) = aWinds v (nI t) y from by unfold aWinds; rw [if_pos ⟨b5, b17⟩, nI_clamp (by omega)]; exact (by rw [if_pos b122])), rfl⟩
    · replace b17 := yn_0.mp b17
      refine e_ipush rfl ?_
      exact Eg.ret rfl (by decide) rfl ⟨congrArg (fun z => some (Value.int z)) (show ((-1) : Int32) = aWinds v x y from by unfold aWinds; rw [if_neg (by grind)]), rfl⟩
end QZ
