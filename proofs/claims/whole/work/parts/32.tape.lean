/-! THE TAPE of the class -/
theorem xu_at {α : Type} {I : Nat → Nat → α} {i k : Nat} {v : α} : xu I i k v i k = v := by simp [xu]
theorem xu_i {α : Type} {I : Nat → Nat → α} {i k j m : Nat} {v : α} (h : j ≠ i) : xu I i k v j m = I j m := by simp [xu, h]
theorem xu_k {α : Type} {I : Nat → Nat → α} {i k j m : Nat} {v : α} (h : m ≠ k) : xu I i k v j m = I j m := by simp [xu, h]
theorem xsh_ne {sh : List (Nat × Nat)} {i j : Nat} {p q : Nat × Nat} (h1 : sh[i]? = some p) (h2 : sh[j]? = some q) (h : p ≠ q) : i ≠ j := by
  rintro rfl
  exact h (Option.some.inj (h1.symm.trans h2))
/-- a number's byte, s bits down -/
def tp_byte (v s : Int32) : Int32 := (v.toUInt32 >>> (s.toUInt32 &&& Int32.toUInt32 31)).toInt32 &&& 255
section TP
variable {X : xX} {d : Nat} {sh : List (Nat × Nat)} {I : Nat → Nat → Int32} {L : Nat → Nat → Int64} {R : Nat → Nat → Option Nat} {Q : Option Value → xH → Prop} {t b : Nat} {v s : Int32}
theorem tp_it (hT : sh[t]? = some (9, 8)) (hB : sh[b]? = some (20, 400)) (hR : R t 0 = some b) {n : Nat} (hn : n < 400) (hI : I t 1 = nI n) (hs : ¬ s < 0)
    (kk : ∀ J : Nat → Nat → Int32, J t 1 = nI (n + 1) → J b n = tp_byte v s → (∀ j, j ≠ n → J b j = I b j) → (∀ i m, i ≠ b → (i ≠ t ∨ m ≠ 1) → J i m = I i m) → Eg X xTc d 109 3 [(2, .int (s + -8)), (0, .ref t), (1, .int v)] [] (sh, J, L, R) Q) : Eg X xTc d 109 3 [(2, .int s), (0, .ref t), (1, .int v)] [] (sh, I, L, R) Q := by
  have htb : t ≠ b := xsh_ne hT hB (by decide)
  have hlt : ¬ (400 : Int32) ≤ I t 1 := by rw [hI]; exact nI_ge hn (by decide)
  have hin : vp_in (I t 1) 400 := by rw [hI]; exact vp_in_nI hn (by decide)
  refine e_iload rfl rfl ?_
  refine e_iflt_f rfl hs ?_
  refine e_aload rfl rfl ?_
  refine e_getI rfl (by assumption) ?_
  refine e_ipush rfl ?_
  refine e_cge_f rfl hlt ?_
  refine e_aload rfl rfl ?_
  refine e_getR rfl (by assumption) (by assumption) ?_
  refine e_aload rfl rfl ?_
  refine e_getI rfl (by assumption) ?_
  refine e_iload rfl rfl ?_
  refine e_iload rfl rfl ?_
  refine e_iushr rfl ?_
  refine e_ipush rfl ?_
  refine e_iand rfl ?_
  refine e_iast rfl (by assumption) hin ?_
  refine e_aload rfl rfl ?_
  refine e_dupr rfl ?_
  refine e_getI rfl (by assumption) ?_
  refine e_ipush rfl ?_
  refine e_iadd rfl ?_
  refine e_putI rfl (by assumption) ?_
  refine e_iinc rfl rfl ?_
  refine e_goto rfl ?_
  refine kk _ ?_ ?_ ?_ ?_
  · rw [xu_at, xu_i htb, hI]; exact (nI_succ n).symm
  · rw [xu_i (Ne.symm htb), hI, nI_clamp (by omega), xu_at]; rfl
  · intro j hj
    rw [xu_i (Ne.symm htb), hI, nI_clamp (by omega), xu_k hj]
  · intro i m hi hm
    rcases hm with hm | hm
    · rw [xu_i hm, xu_i hi]
    · rw [xu_k hm, xu_i hi]
/-- how far a number goes down for its k-th byte -/
def tp_sh (k : Nat) : Int32 := if k = 0 then 24 else if k = 1 then 16 else if k = 2 then 8 else 0
def tp_arg (v1 v2 v3 v4 v5 : Int32) (k : Nat) : Int32 := if k = 0 then v1 else if k = 1 then v2 else if k = 2 then v3 else if k = 3 then v4 else v5
/-- what addFour does to the cells -/
def tp_four (t b n : Nat) (v : Int32) (I J : Nat → Nat → Int32) : Prop := J t 1 = nI (n + 4) ∧ (∀ j, J b j = if n ≤ j ∧ j < n + 4 then tp_byte v (tp_sh (j - n)) else I b j) ∧ (∀ i m, i ≠ b → (i ≠ t ∨ m ≠ 1) → J i m = I i m)
/-- addFour: four bytes behind the others -/
theorem tp_addFour (hT : sh[t]? = some (9, 8)) (hB : sh[b]? = some (20, 400)) (hR : R t 0 = some b) {n : Nat} (hn : n + 4 ≤ 400) (hI : I t 1 = nI n) : Ec X 1 109 [.ref t, .int v] (sh, I, L, R) (fun r h => r = none ∧ ∃ J : Nat → Nat → Int32, h = (sh, J, L, R) ∧ tp_four t b n v I J) := by
  refine Ec.of (Nat.le_of_ble_eq_true rfl) ?_
  refine e_ipush rfl ?_
  refine e_istore rfl ?_
  refine tp_it hT hB hR (n := n) (by omega) hI (by decide) (fun J1 a1 b1 c1 d1 => ?_)
  refine tp_it hT hB hR (n := n + 1) (by omega) a1 (by decide) (fun J2 a2 b2 c2 d2 => ?_)
  refine tp_it hT hB hR (n := n + 2) (by omega) a2 (by decide) (fun J3 a3 b3 c3 d3 => ?_)
  refine tp_it hT hB hR (n := n + 3) (by omega) a3 (by decide) (fun J4 a4 b4 c4 d4 => ?_)
  refine e_iload rfl rfl ?_
  refine e_iflt_t rfl (by decide) ?_
  refine Eg.ret rfl (by decide) rfl ⟨rfl, J4, rfl, a4, fun j => ?_, fun i m hi hm => ?_⟩
  · by_cases h3 : j = n + 3
    · subst h3
      rw [b4, if_pos (by omega), show n + 3 - n = 3 by omega]; rfl
    rw [c4 j h3]
    by_cases h2 : j = n + 2
    · subst h2
      rw [b3, if_pos (by omega), show n + 2 - n = 2 by omega]; rfl
    rw [c3 j h2]
    by_cases h1 : j = n + 1
    · subst h1
      rw [b2, if_pos (by omega), show n + 1 - n = 1 by omega]; rfl
    rw [c2 j h1]
    by_cases h0 : j = n
    · subst h0
      rw [b1, if_pos (by omega), Nat.sub_self]; rfl
    rw [c1 j h0, if_neg (by omega)]
  · rw [d4 i m hi hm, d3 i m hi hm, d2 i m hi hm, d1 i m hi hm]
/-- what feed does to the cells -/
def tp_fed (t b n : Nat) (v1 v2 v3 v4 v5 : Int32) (I J : Nat → Nat → Int32) : Prop := J t 1 = nI (n + 20) ∧ (∀ j, J b j = if n ≤ j ∧ j < n + 20 then tp_byte (tp_arg v1 v2 v3 v4 v5 ((j - n) / 4)) (tp_sh ((j - n) % 4)) else I b j) ∧ (∀ i m, i ≠ b → (i ≠ t ∨ m ≠ 1) → J i m = I i m)
theorem tp_five {n : Nat} {v1 v2 v3 v4 v5 : Int32} {J1 J2 J3 J4 J5 : Nat → Nat → Int32} (h1 : tp_four t b n v1 I J1) (h2 : tp_four t b (n + 4) v2 J1 J2) (h3 : tp_four t b (n + 8) v3 J2 J3) (h4 : tp_four t b (n + 12) v4 J3 J4) (h5 : tp_four t b (n + 16) v5 J4 J5) : tp_fed t b n v1 v2 v3 v4 v5 I J5 := by
  refine ⟨h5.1, fun j => ?_, fun i m hi hm => ?_⟩
  · rw [h5.2.1 j, h4.2.1 j, h3.2.1 j, h2.2.1 j, h1.2.1 j]
    by_cases hj : n ≤ j ∧ j < n + 20
    · rw [if_pos hj]
      have hq : (j - n) / 4 = 0 ∨ (j - n) / 4 = 1 ∨ (j - n) / 4 = 2 ∨ (j - n) / 4 = 3 ∨ (j - n) / 4 = 4 := by omega
      rcases hq with hq | hq | hq | hq | hq
      · rw [if_neg (by omega), if_neg (by omega), if_neg (by omega), if_neg (by omega), if_pos (by omega), hq, show (j - n) % 4 = j - n by omega]; rfl
      · rw [if_neg (by omega), if_neg (by omega), if_neg (by omega), if_pos (by omega), hq, show (j - n) % 4 = j - (n + 4) by omega]; rfl
      · rw [if_neg (by omega), if_neg (by omega), if_pos (by omega), hq, show (j - n) % 4 = j - (n + 8) by omega]; rfl
      · rw [if_neg (by omega), if_pos (by omega), hq, show (j - n) % 4 = j - (n + 12) by omega]; rfl
      · rw [if_pos (by omega), hq, show (j - n) % 4 = j - (n + 16) by omega]; rfl
    · rw [if_neg hj, if_neg (by omega), if_neg (by omega), if_neg (by omega), if_neg (by omega), if_neg (by omega)]
  · rw [h5.2.2 i m hi hm, h4.2.2 i m hi hm, h3.2.2 i m hi hm, h2.2.2 i m hi hm, h1.2.2 i m hi hm]
/-- feed of the class -/
theorem cf_feed {o : Nat} {v1 v2 v3 v4 v5 : Int32} (hO : sh[o]? = some (11, 13)) (hRt : R o 0 = some t) (hT : sh[t]? = some (9, 8)) (hB : sh[b]? = some (20, 400)) (hR : R t 0 = some b) {n : Nat} (hn : n ≤ 400) (hI : I t 1 = nI n) : Ec X 2 139 [.ref o, .int v1, .int v2, .int v3, .int v4, .int v5] (sh, I, L, R) (fun r h => if n ≤ 380 then (r = some (.int (nI (n + 20))) ∧ ∃ J : Nat → Nat → Int32, h = (sh, J, L, R) ∧ tp_fed t b n v1 v2 v3 v4 v5 I J) else (r = some (.int (-1)) ∧ h = (sh, I, L, R))) := by
  refine Ec.of (Nat.le_of_ble_eq_true rfl) ?_
  by_cases hc : n ≤ 380
  · simp only [if_pos hc]
    refine e_aload rfl rfl ?_
    refine e_getR rfl (by assumption) (by assumption) ?_
    refine e_getI rfl (by assumption) ?_
    refine e_ipush rfl ?_
    refine e_cle_t rfl (by rw [hI]; exact nI_le (b := 380) hc (by decide)) ?_
    refine e_aload rfl rfl ?_
    refine e_getR rfl (by assumption) (by assumption) ?_
    refine e_iload rfl rfl ?_
    refine Eg.call [.ref t, .int v1] [] rfl (by decide) (by decide) rfl rfl (by decide) (xrcv_of rfl hT rfl) (tp_addFour hT hB hR (n := n) (by omega) hI) (fun r1 h1 hq => ?_)
    obtain ⟨rfl, J1, rfl, a1⟩ := hq
    refine e_aload rfl rfl ?_
    refine e_getR rfl (by assumption) (by assumption) ?_
    refine e_iload rfl rfl ?_
    refine Eg.call [.ref t, .int v2] [] rfl (by decide) (by decide) rfl rfl (by decide) (xrcv_of rfl hT rfl) (tp_addFour hT hB hR (n := (n + 4)) (by omega) a1.1) (fun r2 h2 hq => ?_)
    obtain ⟨rfl, J2, rfl, a2⟩ := hq
    refine e_aload rfl rfl ?_
    refine e_getR rfl (by assumption) (by assumption) ?_
    refine e_iload rfl rfl ?_
    refine Eg.call [.ref t, .int v3] [] rfl (by decide) (by decide) rfl rfl (by decide) (xrcv_of rfl hT rfl) (tp_addFour hT hB hR (n := (n + 8)) (by omega) a2.1) (fun r3 h3 hq => ?_)
    obtain ⟨rfl, J3, rfl, a3⟩ := hq
    refine e_aload rfl rfl ?_
    refine e_getR rfl (by assumption) (by assumption) ?_
    refine e_iload rfl rfl ?_
    refine Eg.call [.ref t, .int v4] [] rfl (by decide) (by decide) rfl rfl (by decide) (xrcv_of rfl hT rfl) (tp_addFour hT hB hR (n := (n + 12)) (by omega) a3.1) (fun r4 h4 hq => ?_)
    obtain ⟨rfl, J4, rfl, a4⟩ := hq
    refine e_aload rfl rfl ?_
    refine e_getR rfl (by assumption) (by assumption) ?_
    refine e_iload rfl rfl ?_
    refine Eg.call [.ref t, .int v5] [] rfl (by decide) (by decide) rfl rfl (by decide) (xrcv_of rfl hT rfl) (tp_addFour hT hB hR (n := (n + 16)) (by omega) a4.1) (fun r5 h5 hq => ?_)
    obtain ⟨rfl, J5, rfl, a5⟩ := hq
    refine e_aload rfl rfl ?_
    refine e_getR rfl (by assumption) (by assumption) ?_
    refine e_getI rfl (by assumption) ?_
    exact Eg.ret rfl (by decide) rfl ⟨by rw [a5.1], J5, rfl, tp_five a1 a2 a3 a4 a5⟩
  · simp only [if_neg hc]
    refine e_aload rfl rfl ?_
    refine e_getR rfl (by assumption) (by assumption) ?_
    refine e_getI rfl (by assumption) ?_
    refine e_ipush rfl ?_
    refine e_cle_f rfl (by rw [hI]; exact nI_ge (a := 380) (by omega) (by omega)) ?_
    refine e_ipush rfl ?_
    exact Eg.ret rfl (by decide) rfl ⟨rfl, rfl⟩
/-- end of the class -/
theorem cf_end {o : Nat} {w : Int32} (hO : sh[o]? = some (11, 13)) (hRt : R o 0 = some t) (hT : sh[t]? = some (9, 8)) {n : Nat} (hn : n ≤ 400) (hI : I t 1 = nI n) : Ec X 1 140 [.ref o, .int w] (sh, I, L, R) (fun r h => if w < 0 ∨ nI n < w then (r = some (.int (-1)) ∧ h = (sh, I, L, R)) else (r = some (.int w) ∧ h = (sh, xu I t 1 w, L, R))) := by
  refine Ec.of (Nat.le_of_ble_eq_true rfl) ?_
  by_cases h0 : w < 0
  · simp only [if_pos (show w < 0 ∨ nI n < w from Or.inl h0)]
    refine e_iload rfl rfl ?_
    refine e_iflt_t rfl h0 ?_
    refine e_ipush rfl ?_
    exact Eg.ret rfl (by decide) rfl ⟨rfl, rfl⟩
  · by_cases h1 : nI n < w
    · simp only [if_pos (show w < 0 ∨ nI n < w from Or.inr h1)]
      refine e_iload rfl rfl ?_
      refine e_iflt_f rfl h0 ?_
      refine e_iload rfl rfl ?_
      refine e_aload rfl rfl ?_
      refine e_getR rfl (by assumption) (by assumption) ?_
      refine e_getI rfl (by assumption) ?_
      refine e_cle_f rfl (by rw [hI]; exact Int32.not_le.mpr h1) ?_
      refine e_ipush rfl ?_
      exact Eg.ret rfl (by decide) rfl ⟨rfl, rfl⟩
    · simp only [if_neg (show ¬ (w < 0 ∨ nI n < w) from fun q => q.elim h0 h1)]
      refine e_iload rfl rfl ?_
      refine e_iflt_f rfl h0 ?_
      refine e_iload rfl rfl ?_
      refine e_aload rfl rfl ?_
      refine e_getR rfl (by assumption) (by assumption) ?_
      refine e_getI rfl (by assumption) ?_
      refine e_cle_t rfl (by rw [hI]; exact Int32.not_lt.mp h1) ?_
      refine e_aload rfl rfl ?_
      refine e_getR rfl (by assumption) (by assumption) ?_
      refine e_iload rfl rfl ?_
      refine e_putI rfl (by assumption) ?_
      refine e_iload rfl rfl ?_
      exact Eg.ret rfl (by decide) rfl ⟨rfl, rfl⟩
end TP
/-! THE TAPE of the reference -/
/-- a number's byte, s bits down, as a byte -/
def md_byte (v s : Int32) : Int32 := (v >>> (s &&& 31)).toInt8.toInt32.toInt8.toInt32
section TM
variable {X : xX} {d : Nat} {sh : List (Nat × Nat)} {I : Nat → Nat → Int32} {L : Nat → Nat → Int64} {R : Nat → Nat → Option Nat} {Q : Option Value → xH → Prop} {t b : Nat} {v s : Int32}
theorem md_it (hT : sh[t]? = some (12, 88)) (hB : sh[b]? = some (23, 400)) (hR : R t 58 = some b) {n : Nat} (hn : n < 400) (hI : I t 47 = nI n) (hs : ¬ s < 0)
    (kk : ∀ J : Nat → Nat → Int32, J t 47 = nI (n + 1) → J b n = md_byte v s → (∀ j, j ≠ n → J b j = I b j) → (∀ i m, i ≠ b → (i ≠ t ∨ m ≠ 47) → J i m = I i m) → Eg X xTc d 192 3 [(2, .int (s + -8)), (0, .ref t), (1, .int v)] [] (sh, J, L, R) Q) : Eg X xTc d 192 3 [(2, .int s), (0, .ref t), (1, .int v)] [] (sh, I, L, R) Q := by
  have htb : t ≠ b := xsh_ne hT hB (by decide)
  have hin : vp_in (I t 47) 400 := by rw [hI]; exact vp_in_nI hn (by decide)
  refine e_iload rfl rfl ?_
  refine e_iflt_f rfl hs ?_
  refine e_aload rfl rfl ?_
  refine e_getR rfl (by assumption) (by assumption) ?_
  refine e_aload rfl rfl ?_
  refine e_getI rfl (by assumption) ?_
  refine e_iload rfl rfl ?_
  refine e_iload rfl rfl ?_
  refine e_ishr rfl ?_
  refine e_i2b rfl ?_
  refine e_bast rfl (by assumption) hin ?_
  refine e_aload rfl rfl ?_
  refine e_dupr rfl ?_
  refine e_getI rfl (by assumption) ?_
  refine e_ipush rfl ?_
  refine e_iadd rfl ?_
  refine e_putI rfl (by assumption) ?_
  refine e_iinc rfl rfl ?_
  refine e_goto rfl ?_
  refine kk _ ?_ ?_ ?_ ?_
  · rw [xu_at, xu_i htb, hI]; exact (nI_succ n).symm
  · rw [xu_i (Ne.symm htb), hI, nI_clamp (by omega), xu_at]; rfl
  · intro j hj
    rw [xu_i (Ne.symm htb), hI, nI_clamp (by omega), xu_k hj]
  · intro i m hi hm
    rcases hm with hm | hm
    · rw [xu_i hm, xu_i hi]
    · rw [xu_k hm, xu_i hi]
def md_four (t b n : Nat) (v : Int32) (I J : Nat → Nat → Int32) : Prop := J t 47 = nI (n + 4) ∧ (∀ j, J b j = if n ≤ j ∧ j < n + 4 then md_byte v (tp_sh (j - n)) else I b j) ∧ (∀ i m, i ≠ b → (i ≠ t ∨ m ≠ 47) → J i m = I i m)
theorem md_put (hT : sh[t]? = some (12, 88)) (hB : sh[b]? = some (23, 400)) (hR : R t 58 = some b) {n : Nat} (hn : n + 4 ≤ 400) (hI : I t 47 = nI n) : Ec X 1 192 [.ref t, .int v] (sh, I, L, R) (fun r h => r = none ∧ ∃ J : Nat → Nat → Int32, h = (sh, J, L, R) ∧ md_four t b n v I J) := by
  refine Ec.of (Nat.le_of_ble_eq_true rfl) ?_
  refine e_ipush rfl ?_
  refine e_istore rfl ?_
  refine md_it hT hB hR (n := n) (by omega) hI (by decide) (fun J1 a1 b1 c1 d1 => ?_)
  refine md_it hT hB hR (n := n + 1) (by omega) a1 (by decide) (fun J2 a2 b2 c2 d2 => ?_)
  refine md_it hT hB hR (n := n + 2) (by omega) a2 (by decide) (fun J3 a3 b3 c3 d3 => ?_)
  refine md_it hT hB hR (n := n + 3) (by omega) a3 (by decide) (fun J4 a4 b4 c4 d4 => ?_)
  refine e_iload rfl rfl ?_
  refine e_iflt_t rfl (by decide) ?_
  refine Eg.ret rfl (by decide) rfl ⟨rfl, J4, rfl, a4, fun j => ?_, fun i m hi hm => ?_⟩
  · by_cases h3 : j = n + 3
    · subst h3
      rw [b4, if_pos (by omega), show n + 3 - n = 3 by omega]; rfl
    rw [c4 j h3]
    by_cases h2 : j = n + 2
    · subst h2
      rw [b3, if_pos (by omega), show n + 2 - n = 2 by omega]; rfl
    rw [c3 j h2]
    by_cases h1 : j = n + 1
    · subst h1
      rw [b2, if_pos (by omega), show n + 1 - n = 1 by omega]; rfl
    rw [c2 j h1]
    by_cases h0 : j = n
    · subst h0
      rw [b1, if_pos (by omega), Nat.sub_self]; rfl
    rw [c1 j h0, if_neg (by omega)]
  · rw [d4 i m hi hm, d3 i m hi hm, d2 i m hi hm, d1 i m hi hm]
def md_fed (t b n : Nat) (v1 v2 v3 v4 v5 : Int32) (I J : Nat → Nat → Int32) : Prop := J t 47 = nI (n + 20) ∧ (∀ j, J b j = if n ≤ j ∧ j < n + 20 then md_byte (tp_arg v1 v2 v3 v4 v5 ((j - n) / 4)) (tp_sh ((j - n) % 4)) else I b j) ∧ (∀ i m, i ≠ b → (i ≠ t ∨ m ≠ 47) → J i m = I i m)
theorem md_five {n : Nat} {v1 v2 v3 v4 v5 : Int32} {J1 J2 J3 J4 J5 : Nat → Nat → Int32} (h1 : md_four t b n v1 I J1) (h2 : md_four t b (n + 4) v2 J1 J2) (h3 : md_four t b (n + 8) v3 J2 J3) (h4 : md_four t b (n + 12) v4 J3 J4) (h5 : md_four t b (n + 16) v5 J4 J5) : md_fed t b n v1 v2 v3 v4 v5 I J5 := by
  refine ⟨h5.1, fun j => ?_, fun i m hi hm => ?_⟩
  · rw [h5.2.1 j, h4.2.1 j, h3.2.1 j, h2.2.1 j, h1.2.1 j]
    by_cases hj : n ≤ j ∧ j < n + 20
    · rw [if_pos hj]
      have hq : (j - n) / 4 = 0 ∨ (j - n) / 4 = 1 ∨ (j - n) / 4 = 2 ∨ (j - n) / 4 = 3 ∨ (j - n) / 4 = 4 := by omega
      rcases hq with hq | hq | hq | hq | hq
      · rw [if_neg (by omega), if_neg (by omega), if_neg (by omega), if_neg (by omega), if_pos (by omega), hq, show (j - n) % 4 = j - n by omega]; rfl
      · rw [if_neg (by omega), if_neg (by omega), if_neg (by omega), if_pos (by omega), hq, show (j - n) % 4 = j - (n + 4) by omega]; rfl
      · rw [if_neg (by omega), if_neg (by omega), if_pos (by omega), hq, show (j - n) % 4 = j - (n + 8) by omega]; rfl
      · rw [if_neg (by omega), if_pos (by omega), hq, show (j - n) % 4 = j - (n + 12) by omega]; rfl
      · rw [if_pos (by omega), hq, show (j - n) % 4 = j - (n + 16) by omega]; rfl
    · rw [if_neg hj, if_neg (by omega), if_neg (by omega), if_neg (by omega), if_neg (by omega), if_neg (by omega)]
  · rw [h5.2.2 i m hi hm, h4.2.2 i m hi hm, h3.2.2 i m hi hm, h2.2.2 i m hi hm, h1.2.2 i m hi hm]
theorem md_feed {v1 v2 v3 v4 v5 : Int32} (hT : sh[t]? = some (12, 88)) (hB : sh[b]? = some (23, 400)) (hR : R t 58 = some b) {n : Nat} (hn : n ≤ 400) (hI : I t 47 = nI n) : Ec X 2 191 [.ref t, .int v1, .int v2, .int v3, .int v4, .int v5] (sh, I, L, R) (fun r h => if n ≤ 380 then (r = some (.int (nI (n + 20))) ∧ ∃ J : Nat → Nat → Int32, h = (sh, J, L, R) ∧ md_fed t b n v1 v2 v3 v4 v5 I J) else (r = some (.int (-1)) ∧ h = (sh, I, L, R))) := by
  refine Ec.of (Nat.le_of_ble_eq_true rfl) ?_
  have e20 : I t 47 + 20 = nI (n + 20) := by rw [hI]; exact nI_add n 20
  by_cases hc : n ≤ 380
  · simp only [if_pos hc]
    refine e_aload rfl rfl ?_
    refine e_getI rfl (by assumption) ?_
    refine e_ipush rfl ?_
    refine e_iadd rfl ?_
    refine e_ipush rfl ?_
    refine e_cle_t rfl (by rw [e20]; exact nI_le (b := 400) (by omega) (by decide)) ?_
    refine e_aload rfl rfl ?_
    refine e_iload rfl rfl ?_
    refine Eg.call [.ref t, .int v1] [] rfl (by decide) (by decide) rfl rfl (by decide) (xrcv_of rfl hT rfl) (md_put hT hB hR (n := n) (by omega) hI) (fun r1 h1 hq => ?_)
    obtain ⟨rfl, J1, rfl, a1⟩ := hq
    refine e_aload rfl rfl ?_
    refine e_iload rfl rfl ?_
    refine Eg.call [.ref t, .int v2] [] rfl (by decide) (by decide) rfl rfl (by decide) (xrcv_of rfl hT rfl) (md_put hT hB hR (n := (n + 4)) (by omega) a1.1) (fun r2 h2 hq => ?_)
    obtain ⟨rfl, J2, rfl, a2⟩ := hq
    refine e_aload rfl rfl ?_
    refine e_iload rfl rfl ?_
    refine Eg.call [.ref t, .int v3] [] rfl (by decide) (by decide) rfl rfl (by decide) (xrcv_of rfl hT rfl) (md_put hT hB hR (n := (n + 8)) (by omega) a2.1) (fun r3 h3 hq => ?_)
    obtain ⟨rfl, J3, rfl, a3⟩ := hq
    refine e_aload rfl rfl ?_
    refine e_iload rfl rfl ?_
    refine Eg.call [.ref t, .int v4] [] rfl (by decide) (by decide) rfl rfl (by decide) (xrcv_of rfl hT rfl) (md_put hT hB hR (n := (n + 12)) (by omega) a3.1) (fun r4 h4 hq => ?_)
    obtain ⟨rfl, J4, rfl, a4⟩ := hq
    refine e_aload rfl rfl ?_
    refine e_iload rfl rfl ?_
    refine Eg.call [.ref t, .int v5] [] rfl (by decide) (by decide) rfl rfl (by decide) (xrcv_of rfl hT rfl) (md_put hT hB hR (n := (n + 16)) (by omega) a4.1) (fun r5 h5 hq => ?_)
    obtain ⟨rfl, J5, rfl, a5⟩ := hq
    refine e_aload rfl rfl ?_
    refine e_getI rfl (by assumption) ?_
    exact Eg.ret rfl (by decide) rfl ⟨by rw [a5.1], J5, rfl, md_five a1 a2 a3 a4 a5⟩
  · simp only [if_neg hc]
    refine e_aload rfl rfl ?_
    refine e_getI rfl (by assumption) ?_
    refine e_ipush rfl ?_
    refine e_iadd rfl ?_
    refine e_ipush rfl ?_
    refine e_cle_f rfl (by rw [e20]; exact nI_ge (a := 400) (by omega) (by omega)) ?_
    refine e_ipush rfl ?_
    exact Eg.ret rfl (by decide) rfl ⟨rfl, rfl⟩
theorem md_end {w : Int32} (hT : sh[t]? = some (12, 88)) {n : Nat} (hn : n ≤ 400) (hI : I t 47 = nI n) : Ec X 1 193 [.ref t, .int w] (sh, I, L, R) (fun r h => if w < 0 ∨ nI n < w then (r = some (.int (-1)) ∧ h = (sh, I, L, R)) else (r = some (.int w) ∧ h = (sh, xu I t 47 w, L, R))) := by
  refine Ec.of (Nat.le_of_ble_eq_true rfl) ?_
  by_cases h0 : w < 0
  · simp only [if_pos (show w < 0 ∨ nI n < w from Or.inl h0)]
    refine e_iload rfl rfl ?_
    refine e_iflt_t rfl h0 ?_
    refine e_ipush rfl ?_
    exact Eg.ret rfl (by decide) rfl ⟨rfl, rfl⟩
  · by_cases h1 : nI n < w
    · simp only [if_pos (show w < 0 ∨ nI n < w from Or.inr h1)]
      refine e_iload rfl rfl ?_
      refine e_iflt_f rfl h0 ?_
      refine e_iload rfl rfl ?_
      refine e_aload rfl rfl ?_
      refine e_getI rfl (by assumption) ?_
      refine e_cle_f rfl (by rw [hI]; exact Int32.not_le.mpr h1) ?_
      refine e_ipush rfl ?_
      exact Eg.ret rfl (by decide) rfl ⟨rfl, rfl⟩
    · simp only [if_neg (show ¬ (w < 0 ∨ nI n < w) from fun q => q.elim h0 h1)]
      refine e_iload rfl rfl ?_
      refine e_iflt_f rfl h0 ?_
      refine e_iload rfl rfl ?_
      refine e_aload rfl rfl ?_
      refine e_getI rfl (by assumption) ?_
      refine e_cle_t rfl (by rw [hI]; exact Int32.not_lt.mp h1) ?_
      refine e_aload rfl rfl ?_
      refine e_iload rfl rfl ?_
      refine e_putI rfl (by assumption) ?_
      refine e_iload rfl rfl ?_
      exact Eg.ret rfl (by decide) rfl ⟨rfl, rfl⟩
end TM
