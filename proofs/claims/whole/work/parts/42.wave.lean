/-! WAVES: one train's height at a cell and a day, on both sides -/
theorem nI_times (a b : Nat) : nI a * nI b = nI (a * b) := (Int32.ofNat_mul a b).symm
/-- a train's height: its periods, its rows, its number, its lag and shift, the cell, the day -/
def wv (P W : Nat → Int32) (t : Nat) (lg sf c d : Int32) : Int32 := W (20 * t + (rst (d + sf - lg * c) (P t)).toNatClampNeg)
/-- a Sea at s: its arrays lie behind it -/
def SeaAt (sh : List (Nat × Nat)) (R : Nat → Nat → Option Nat) (s : Nat) : Prop := sh[s]? = some (7, 20) ∧ ∀ j q, fs_sea[j]? = some q → sh[s + 1 + j]? = some (q.2.1, q.2.2) ∧ R s q.1 = some (s + 1 + j)
section WV
variable {X : xX} {h : xH} {sh : List (Nat × Nat)} {I : Nat → Nat → Int32} {L : Nat → Nat → Int64} {R : Nat → Nat → Option Nat}
theorem wv_ix {t k p : Nat} (ht : t < 3) (hk : k < p) (hp : p ≤ 20) : vp_in (nI t * 20 + nI k) 60 ∧ (nI t * 20 + nI k).toNatClampNeg = 20 * t + k := by
  have e : nI t * 20 + nI k = nI (20 * t + k) := by
    show nI t * nI 20 + nI k = _
    rw [nI_times, nI_add, Nat.mul_comm]
  rw [e]
  exact ⟨vp_in_nI (by omega) (by omega), nI_clamp (by omega)⟩
theorem cs_waveBy {s t p : Nat} {lg sf c d : Int32} (hS : SeaAt sh R s) (ht : t < 3) (hp : I (s + 3) t = nI p) (hp0 : 0 < p) (hp1 : p ≤ 20) : Ec X 1 91 [.ref s, .int (nI t), .int lg, .int sf, .int c, .int d] (sh, I, L, R) (fun r h' => r = some (.int (wv (I (s + 3)) (I (s + 5)) t lg sf c d)) ∧ h' = (sh, I, L, R)) := by
  have h0 := hS.1
  have r7 : R s 7 = some (s + 3) := (hS.2 2 _ rfl).2
  have s7 : sh[s + 3]? = some (20, 3) := (hS.2 2 _ rfl).1
  have r9 : R s 9 = some (s + 5) := (hS.2 4 _ rfl).2
  have s9 : sh[s + 5]? = some (20, 60) := (hS.2 4 _ rfl).1
  have hxt : vp_in (nI t) 3 := vp_in_nI ht (by decide)
  have ect : (nI t).toNatClampNeg = t := nI_clamp (by omega)
  obtain ⟨k, hk, ek⟩ := rst_nI (d + sf - lg * c) hp0 (n := p) (by omega)
  obtain ⟨hx, ex⟩ := wv_ix ht hk hp1
  have ew : wv (I (s + 3)) (I (s + 5)) t lg sf c d = I (s + 5) (20 * t + k) := by
    unfold wv
    rw [hp, ek, nI_clamp (by omega)]
  rw [ew]
  refine Ec.of (Nat.le_of_ble_eq_true rfl) ?_
  refine e_aload rfl rfl ?_
  refine e_getR rfl (by assumption) (by assumption) ?_
  refine e_iload rfl rfl ?_
  refine e_iald rfl (by assumption) hxt ?_
  rw [ect, hp]
  refine e_istore rfl ?_
  refine e_iload rfl rfl ?_
  refine e_ifgt_t rfl (by rw [← nI_0]; exact nI_lt hp0 (by omega)) ?_
  refine e_iload rfl rfl ?_
  refine e_iload rfl rfl ?_
  refine e_iadd rfl ?_
  refine e_iload rfl rfl ?_
  refine e_iload rfl rfl ?_
  refine e_imul rfl ?_
  refine e_isub rfl ?_
  refine e_iload rfl rfl ?_
  refine e_irem rfl (nI_ne0 hp0 (by omega)) ?_
  refine e_istore rfl ?_
  refine e_aload rfl rfl ?_
  refine e_getR rfl (by assumption) (by assumption) ?_
  refine e_iload rfl rfl ?_
  refine e_ipush rfl ?_
  refine e_imul rfl ?_
  by_cases hc : (d + sf - lg * c) - (d + sf - lg * c) / nI p * nI p < 0
  · have e2 : (d + sf - lg * c) - (d + sf - lg * c) / nI p * nI p + nI p = nI k := by rw [← ek]; unfold rst; rw [if_pos hc]
    refine e_iload rfl rfl ?_
    refine e_ifge_f rfl (Int32.not_le.mpr hc) ?_
    refine e_iload rfl rfl ?_
    refine e_iload rfl rfl ?_
    refine e_iadd rfl ?_
    refine e_goto rfl ?_
    refine e_iadd rfl ?_
    rw [e2]
    refine e_iald rfl s9 hx ?_
    rw [ex]
    exact Eg.ret rfl (by decide) rfl ⟨rfl, rfl⟩
  · have e2 : (d + sf - lg * c) - (d + sf - lg * c) / nI p * nI p = nI k := by rw [← ek]; unfold rst; rw [if_neg hc]
    refine e_iload rfl rfl ?_
    refine e_ifge_t rfl (Int32.not_lt.mp hc) ?_
    refine e_iload rfl rfl ?_
    refine e_iadd rfl ?_
    rw [e2]
    refine e_iald rfl s9 hx ?_
    rw [ex]
    exact Eg.ret rfl (by decide) rfl ⟨rfl, rfl⟩
theorem ms_rest {a p : Int32} (hp : ¬ p = 0) : Ec X 1 233 [.int a, .int p] h (fun r h' => r = some (.int (rst a p)) ∧ h' = h) := by
  refine Ec.of (Nat.le_of_ble_eq_true rfl) ?_
  unfold rst
  by_cases hc : a - a / p * p < 0
  · simp only [if_pos hc]
    refine e_iload rfl rfl ?_
    refine e_iload rfl rfl ?_
    refine e_irem rfl hp ?_
    refine e_istore rfl ?_
    refine e_iload rfl rfl ?_
    refine e_ifge_f rfl (Int32.not_le.mpr hc) ?_
    refine e_iload rfl rfl ?_
    refine e_iload rfl rfl ?_
    refine e_iadd rfl ?_
    refine e_goto rfl ?_
    exact Eg.ret rfl (by decide) rfl ⟨rfl, rfl⟩
  · simp only [if_neg hc]
    refine e_iload rfl rfl ?_
    refine e_iload rfl rfl ?_
    refine e_irem rfl hp ?_
    refine e_istore rfl ?_
    refine e_iload rfl rfl ?_
    refine e_ifge_t rfl (Int32.not_lt.mp hc) ?_
    refine e_iload rfl rfl ?_
    exact Eg.ret rfl (by decide) rfl ⟨rfl, rfl⟩
theorem ms_trainAt {m t p up uw : Nat} {lg sf c d : Int32} (hm : sh[m]? = some (12, 88)) (sp : sh[up]? = some (20, 3)) (sw : sh[uw]? = some (20, 60)) (rp : R m 5 = some up) (rw_ : R m 6 = some uw) (ht : t < 3) (hp : I up t = nI p) (hp0 : 0 < p) (hp1 : p ≤ 20) : Ec X 2 234 [.ref m, .int (nI t), .int c, .int d, .int lg, .int sf] (sh, I, L, R) (fun r h' => r = some (.int (wv (I up) (I uw) t lg sf c d)) ∧ h' = (sh, I, L, R)) := by
  have hxt : vp_in (nI t) 3 := vp_in_nI ht (by decide)
  have ect : (nI t).toNatClampNeg = t := nI_clamp (by omega)
  obtain ⟨k, hk, ek⟩ := rst_nI (d + sf - lg * c) hp0 (n := p) (by omega)
  obtain ⟨hx, ex⟩ := wv_ix ht hk hp1
  have ew : wv (I up) (I uw) t lg sf c d = I uw (20 * t + k) := by
    unfold wv
    rw [hp, ek, nI_clamp (by omega)]
  rw [ew]
  refine Ec.of (Nat.le_of_ble_eq_true rfl) ?_
  refine e_aload rfl rfl ?_
  refine e_getR rfl (by assumption) (by assumption) ?_
  refine e_ipush rfl ?_
  refine e_iload rfl rfl ?_
  refine e_imul rfl ?_
  refine e_iload rfl rfl ?_
  refine e_iload rfl rfl ?_
  refine e_iadd rfl ?_
  refine e_iload rfl rfl ?_
  refine e_iload rfl rfl ?_
  refine e_imul rfl ?_
  refine e_isub rfl ?_
  refine e_aload rfl rfl ?_
  refine e_getR rfl (by assumption) (by assumption) ?_
  refine e_iload rfl rfl ?_
  refine e_iald rfl (by assumption) hxt ?_
  rw [ect, hp]
  refine Eg.call [.int (d + sf - lg * c), .int (nI p)] [.int (20 * nI t), .ref uw] rfl (by decide) (by decide) rfl rfl (Nat.le_of_ble_eq_true rfl) (xrcv_ofs (Or.inl rfl)) (ms_rest (nI_ne0 hp0 (by omega))) (fun r1 h1 hq => ?_)
  obtain ⟨rfl, rfl⟩ := hq
  rw [ek]
  refine e_iadd rfl ?_
  rw [show (20 : Int32) * nI t = nI t * 20 from Int32.mul_comm _ _]
  refine e_iald rfl sw hx ?_
  rw [ex]
  exact Eg.ret rfl (by decide) rfl ⟨rfl, rfl⟩
end WV
