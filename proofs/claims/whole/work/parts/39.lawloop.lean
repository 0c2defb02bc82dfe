/-! THE LAW'S LOOP over any invariant -/
/-- a call of both sides: they answer alike, and the invariant holds behind them -/
def callOK (X : xX) (kC kM : Nat) (as : List Value) (Inv : xH → Prop) (h : xH) : Prop := Ec X 998 kC (.ref 0 :: as) h (fun r h1 => ∃ w : Int32, r = some (.int w) ∧ h1.1[290]? = some (12, 88) ∧ Ec X 998 kM (.ref 290 :: as) h1 (fun r2 h2 => r2 = some (.int w) ∧ Inv h2))
def callOKl (X : xX) (kC kM : Nat) (as : List Value) (Inv : xH → Prop) (h : xH) : Prop := Ec X 998 kC (.ref 0 :: as) h (fun r h1 => ∃ w : Int64, r = some (.long w) ∧ h1.1[290]? = some (12, 88) ∧ Ec X 998 kM (.ref 290 :: as) h1 (fun r2 h2 => r2 = some (.long w) ∧ Inv h2))
/-- what each call is to do, by its number in the law; v1 .. v5 the ints behind it -/
def calls (X : xX) (Inv : xH → Prop) (h : xH) (v1 v2 v3 v4 v5 : Int32) : Nat → Prop
  | 0 => callOK X 139 191 [.int v1, .int v2, .int v3, .int v4, .int v5] Inv h
  | 1 => callOK X 140 193 [.int v1] Inv h
  | 2 => callOK X 141 224 [] Inv h
  | 3 => callOK X 142 226 [] Inv h
  | 4 => callOK X 143 243 [.int v1, .int v2] Inv h
  | 5 => callOK X 144 245 [.int v1, .int v2] Inv h
  | 6 => callOK X 145 246 [.int v1, .int v2] Inv h
  | 7 => callOK X 146 247 [.int v1, .int v2] Inv h
  | 8 => callOK X 147 254 [.int v1, .int v2] Inv h
  | 9 => callOK X 148 257 [.int v1] Inv h
  | 10 => callOK X 149 258 [.int v1, .int (if v2 = 0 then 0 else 1)] Inv h
  | 11 => callOK X 150 261 [.int v1, .int v2, .int v3] Inv h
  | 12 => callOK X 151 251 [] Inv h
  | 13 => callOK X 152 265 [.int v1, .int v2] Inv h
  | 14 => callOK X 153 267 [] Inv h
  | 15 => callOK X 154 268 [.int v1, .int v2] Inv h
  | 16 => callOK X 155 269 [.int v1, .int v2] Inv h
  | 17 => callOK X 156 271 [.int v1, .int v2] Inv h
  | 18 => callOK X 157 279 [.int v1, .int v2, .int v3] Inv h
  | 19 => callOK X 158 284 [.int v1, .int v2, .int v3, .int v4] Inv h
  | 20 => callOK X 159 285 [.int v1, .int (if v2 = 0 then 0 else 1)] Inv h
  | 21 => callOK X 160 288 [.int v1] Inv h
  | 22 => callOK X 161 289 [.int v1] Inv h
  | 23 => callOK X 162 291 [.int v1, .int v2] Inv h
  | 24 => callOK X 163 292 [.int v1, .int v2, .int v3] Inv h
  | 25 => callOK X 164 294 [.int v1, .int v2] Inv h
  | 26 => callOK X 165 295 [.int v1, .int v2, .int v3] Inv h
  | 27 => callOK X 166 296 [.int v1, .int v2, .int v3] Inv h
  | 28 => callOK X 167 298 [.int v1] Inv h
  | 29 => callOKl X 168 300 [.int v1, .int v2, .int v3] Inv h
  | 30 => callOK X 169 301 [.int v1] Inv h
  | 31 => callOK X 170 306 [.int v1, .int v2, .int v3, .int v4] Inv h
  | 32 => callOK X 171 307 [.int v1] Inv h
  | 33 => callOK X 172 310 [.int v1] Inv h
  | 34 => callOK X 173 311 [.int v1] Inv h
  | _ => True
theorem and63 (x : Int32) : ∃ n : Nat, n < 64 ∧ x &&& 63 = nI n := by
  obtain ⟨n, hn, e⟩ := pk_andE x (m := 63) 6 (by decide)
  exact ⟨n, hn, e⟩
theorem lg_cmp_self (x : Int64) : lg_cmp x x = 0 := by unfold lg_cmp; simp
section LW
variable {L : Nat} {xs : Nat → Int32} {g : Bool} {Q : Option Value → xH → Prop} {Inv : xH → Prop} {h : xH} {i : Nat}
theorem sld_in {k : Nat} (hi : i + 6 ≤ L) (hL : L ≤ 3072) (hk : k < 6) : vp_in (nI i + nI k) L := by
  rw [nI_add]; exact vp_in_nI (by omega) (by omega)
theorem sld_at {k : Nat} (hi : i + 6 ≤ L) (hL : L ≤ 3072) (hk : k < 6) : (nI i + nI k).toNatClampNeg = i + k := by
  rw [nI_add]; exact nI_clamp (by omega)
theorem lc_0 (hi : i + 6 ≤ L) (hL : L ≤ 3072) (h0 : h.1[0]? = some (11, 13)) (hc : calls (L, xs, g) Inv h (xs (i + 1)) (xs (i + 2)) (xs (i + 3)) (xs (i + 4)) (xs (i + 5)) 0) (kk : ∀ h2, Inv h2 → Eg (L, xs, g) xTb 999 0 1336 [(3, .int (nI i)), (2, .ref 290), (1, .ref 0), (0, .retAddr 0)] [] h2 Q) : Eg (L, xs, g) xTb 999 0 188 [(3, .int (nI i)), (2, .ref 290), (1, .ref 0), (0, .retAddr 0)] [] h Q := by
  replace hc : callOK (L, xs, g) 139 191 [.int (xs (i + 1)), .int (xs (i + 2)), .int (xs (i + 3)), .int (xs (i + 4)), .int (xs (i + 5))] Inv h := hc
  refine e_aload rfl rfl ?_
  refine e_aloadq rfl rfl ?_
  refine e_iload rfl rfl ?_
  refine e_ipush rfl ?_
  refine e_iadd rfl ?_
  refine e_sld rfl (sld_in (k := 1) hi hL (by decide)) ?_
  rw [show (nI i + 1).toNatClampNeg = i + 1 from sld_at (k := 1) hi hL (by decide)]
  refine e_aloadq rfl rfl ?_
  refine e_iload rfl rfl ?_
  refine e_ipush rfl ?_
  refine e_iadd rfl ?_
  refine e_sld rfl (sld_in (k := 2) hi hL (by decide)) ?_
  rw [show (nI i + 2).toNatClampNeg = i + 2 from sld_at (k := 2) hi hL (by decide)]
  refine e_aloadq rfl rfl ?_
  refine e_iload rfl rfl ?_
  refine e_ipush rfl ?_
  refine e_iadd rfl ?_
  refine e_sld rfl (sld_in (k := 3) hi hL (by decide)) ?_
  rw [show (nI i + 3).toNatClampNeg = i + 3 from sld_at (k := 3) hi hL (by decide)]
  refine e_aloadq rfl rfl ?_
  refine e_iload rfl rfl ?_
  refine e_ipush rfl ?_
  refine e_iadd rfl ?_
  refine e_sld rfl (sld_in (k := 4) hi hL (by decide)) ?_
  rw [show (nI i + 4).toNatClampNeg = i + 4 from sld_at (k := 4) hi hL (by decide)]
  refine e_aloadq rfl rfl ?_
  refine e_iload rfl rfl ?_
  refine e_ipush rfl ?_
  refine e_iadd rfl ?_
  refine e_sld rfl (sld_in (k := 5) hi hL (by decide)) ?_
  rw [show (nI i + 5).toNatClampNeg = i + 5 from sld_at (k := 5) hi hL (by decide)]
  refine Eg.call [.ref 0, .int (xs (i + 1)), .int (xs (i + 2)), .int (xs (i + 3)), .int (xs (i + 4)), .int (xs (i + 5))] [] rfl (by decide) (by decide) rfl rfl (Nat.le_of_ble_eq_true rfl) (xrcv_of rfl h0 rfl) (hc.mono (by omega)) (fun r1 h1 hq => ?_)
  obtain ⟨w, rfl, hs, hm⟩ := hq
  refine e_aload rfl rfl ?_
  refine e_aloadq rfl rfl ?_
  refine e_iload rfl rfl ?_
  refine e_ipush rfl ?_
  refine e_iadd rfl ?_
  refine e_sld rfl (sld_in (k := 1) hi hL (by decide)) ?_
  rw [show (nI i + 1).toNatClampNeg = i + 1 from sld_at (k := 1) hi hL (by decide)]
  refine e_aloadq rfl rfl ?_
  refine e_iload rfl rfl ?_
  refine e_ipush rfl ?_
  refine e_iadd rfl ?_
  refine e_sld rfl (sld_in (k := 2) hi hL (by decide)) ?_
  rw [show (nI i + 2).toNatClampNeg = i + 2 from sld_at (k := 2) hi hL (by decide)]
  refine e_aloadq rfl rfl ?_
  refine e_iload rfl rfl ?_
  refine e_ipush rfl ?_
  refine e_iadd rfl ?_
  refine e_sld rfl (sld_in (k := 3) hi hL (by decide)) ?_
  rw [show (nI i + 3).toNatClampNeg = i + 3 from sld_at (k := 3) hi hL (by decide)]
  refine e_aloadq rfl rfl ?_
  refine e_iload rfl rfl ?_
  refine e_ipush rfl ?_
  refine e_iadd rfl ?_
  refine e_sld rfl (sld_in (k := 4) hi hL (by decide)) ?_
  rw [show (nI i + 4).toNatClampNeg = i + 4 from sld_at (k := 4) hi hL (by decide)]
  refine e_aloadq rfl rfl ?_
  refine e_iload rfl rfl ?_
  refine e_ipush rfl ?_
  refine e_iadd rfl ?_
  refine e_sld rfl (sld_in (k := 5) hi hL (by decide)) ?_
  rw [show (nI i + 5).toNatClampNeg = i + 5 from sld_at (k := 5) hi hL (by decide)]
  refine Eg.call [.ref 290, .int (xs (i + 1)), .int (xs (i + 2)), .int (xs (i + 3)), .int (xs (i + 4)), .int (xs (i + 5))] [.int w] rfl (by decide) (by decide) rfl rfl (Nat.le_of_ble_eq_true rfl) (xrcv_of rfl hs rfl) (hm.mono (by omega)) (fun r2 h2 hq => ?_)
  obtain ⟨rfl, hI⟩ := hq
  refine e_ceq_t rfl rfl ?_
  exact kk h2 hI
theorem lc_1 (hi : i + 6 ≤ L) (hL : L ≤ 3072) (h0 : h.1[0]? = some (11, 13)) (hc : calls (L, xs, g) Inv h (xs (i + 1)) (xs (i + 2)) (xs (i + 3)) (xs (i + 4)) (xs (i + 5)) 1) (kk : ∀ h2, Inv h2 → Eg (L, xs, g) xTb 999 0 1336 [(3, .int (nI i)), (2, .ref 290), (1, .ref 0), (0, .retAddr 0)] [] h2 Q) : Eg (L, xs, g) xTb 999 0 251 [(3, .int (nI i)), (2, .ref 290), (1, .ref 0), (0, .retAddr 0)] [] h Q := by
  replace hc : callOK (L, xs, g) 140 193 [.int (xs (i + 1))] Inv h := hc
  refine e_aload rfl rfl ?_
  refine e_aloadq rfl rfl ?_
  refine e_iload rfl rfl ?_
  refine e_ipush rfl ?_
  refine e_iadd rfl ?_
  refine e_sld rfl (sld_in (k := 1) hi hL (by decide)) ?_
  rw [show (nI i + 1).toNatClampNeg = i + 1 from sld_at (k := 1) hi hL (by decide)]
  refine Eg.call [.ref 0, .int (xs (i + 1))] [] rfl (by decide) (by decide) rfl rfl (Nat.le_of_ble_eq_true rfl) (xrcv_of rfl h0 rfl) (hc.mono (by omega)) (fun r1 h1 hq => ?_)
  obtain ⟨w, rfl, hs, hm⟩ := hq
  refine e_aload rfl rfl ?_
  refine e_aloadq rfl rfl ?_
  refine e_iload rfl rfl ?_
  refine e_ipush rfl ?_
  refine e_iadd rfl ?_
  refine e_sld rfl (sld_in (k := 1) hi hL (by decide)) ?_
  rw [show (nI i + 1).toNatClampNeg = i + 1 from sld_at (k := 1) hi hL (by decide)]
  refine Eg.call [.ref 290, .int (xs (i + 1))] [.int w] rfl (by decide) (by decide) rfl rfl (Nat.le_of_ble_eq_true rfl) (xrcv_of rfl hs rfl) (hm.mono (by omega)) (fun r2 h2 hq => ?_)
  obtain ⟨rfl, hI⟩ := hq
  refine e_ceq_t rfl rfl ?_
  exact kk h2 hI
theorem lc_2 (hi : i + 6 ≤ L) (hL : L ≤ 3072) (h0 : h.1[0]? = some (11, 13)) (hc : calls (L, xs, g) Inv h (xs (i + 1)) (xs (i + 2)) (xs (i + 3)) (xs (i + 4)) (xs (i + 5)) 2) (kk : ∀ h2, Inv h2 → Eg (L, xs, g) xTb 999 0 1336 [(3, .int (nI i)), (2, .ref 290), (1, .ref 0), (0, .retAddr 0)] [] h2 Q) : Eg (L, xs, g) xTb 999 0 274 [(3, .int (nI i)), (2, .ref 290), (1, .ref 0), (0, .retAddr 0)] [] h Q := by
  replace hc : callOK (L, xs, g) 141 224 [] Inv h := hc
  refine e_aload rfl rfl ?_
  refine Eg.call [.ref 0] [] rfl (by decide) (by decide) rfl rfl (Nat.le_of_ble_eq_true rfl) (xrcv_of rfl h0 rfl) (hc.mono (by omega)) (fun r1 h1 hq => ?_)
  obtain ⟨w, rfl, hs, hm⟩ := hq
  refine e_aload rfl rfl ?_
  refine Eg.call [.ref 290] [.int w] rfl (by decide) (by decide) rfl rfl (Nat.le_of_ble_eq_true rfl) (xrcv_of rfl hs rfl) (hm.mono (by omega)) (fun r2 h2 hq => ?_)
  obtain ⟨rfl, hI⟩ := hq
  refine e_ceq_t rfl rfl ?_
  exact kk h2 hI
theorem lc_3 (hi : i + 6 ≤ L) (hL : L ≤ 3072) (h0 : h.1[0]? = some (11, 13)) (hc : calls (L, xs, g) Inv h (xs (i + 1)) (xs (i + 2)) (xs (i + 3)) (xs (i + 4)) (xs (i + 5)) 3) (kk : ∀ h2, Inv h2 → Eg (L, xs, g) xTb 999 0 1336 [(3, .int (nI i)), (2, .ref 290), (1, .ref 0), (0, .retAddr 0)] [] h2 Q) : Eg (L, xs, g) xTb 999 0 287 [(3, .int (nI i)), (2, .ref 290), (1, .ref 0), (0, .retAddr 0)] [] h Q := by
  replace hc : callOK (L, xs, g) 142 226 [] Inv h := hc
  refine e_aload rfl rfl ?_
  refine Eg.call [.ref 0] [] rfl (by decide) (by decide) rfl rfl (Nat.le_of_ble_eq_true rfl) (xrcv_of rfl h0 rfl) (hc.mono (by omega)) (fun r1 h1 hq => ?_)
  obtain ⟨w, rfl, hs, hm⟩ := hq
  refine e_aload rfl rfl ?_
  refine Eg.call [.ref 290] [.int w] rfl (by decide) (by decide) rfl rfl (Nat.le_of_ble_eq_true rfl) (xrcv_of rfl hs rfl) (hm.mono (by omega)) (fun r2 h2 hq => ?_)
  obtain ⟨rfl, hI⟩ := hq
  refine e_ceq_t rfl rfl ?_
  exact kk h2 hI
theorem lc_4 (hi : i + 6 ≤ L) (hL : L ≤ 3072) (h0 : h.1[0]? = some (11, 13)) (hc : calls (L, xs, g) Inv h (xs (i + 1)) (xs (i + 2)) (xs (i + 3)) (xs (i + 4)) (xs (i + 5)) 4) (kk : ∀ h2, Inv h2 → Eg (L, xs, g) xTb 999 0 1336 [(3, .int (nI i)), (2, .ref 290), (1, .ref 0), (0, .retAddr 0)] [] h2 Q) : Eg (L, xs, g) xTb 999 0 300 [(3, .int (nI i)), (2, .ref 290), (1, .ref 0), (0, .retAddr 0)] [] h Q := by
  replace hc : callOK (L, xs, g) 143 243 [.int (xs (i + 1)), .int (xs (i + 2))] Inv h := hc
  refine e_aload rfl rfl ?_
  refine e_aloadq rfl rfl ?_
  refine e_iload rfl rfl ?_
  refine e_ipush rfl ?_
  refine e_iadd rfl ?_
  refine e_sld rfl (sld_in (k := 1) hi hL (by decide)) ?_
  rw [show (nI i + 1).toNatClampNeg = i + 1 from sld_at (k := 1) hi hL (by decide)]
  refine e_aloadq rfl rfl ?_
  refine e_iload rfl rfl ?_
  refine e_ipush rfl ?_
  refine e_iadd rfl ?_
  refine e_sld rfl (sld_in (k := 2) hi hL (by decide)) ?_
  rw [show (nI i + 2).toNatClampNeg = i + 2 from sld_at (k := 2) hi hL (by decide)]
  refine Eg.call [.ref 0, .int (xs (i + 1)), .int (xs (i + 2))] [] rfl (by decide) (by decide) rfl rfl (Nat.le_of_ble_eq_true rfl) (xrcv_of rfl h0 rfl) (hc.mono (by omega)) (fun r1 h1 hq => ?_)
  obtain ⟨w, rfl, hs, hm⟩ := hq
  refine e_aload rfl rfl ?_
  refine e_aloadq rfl rfl ?_
  refine e_iload rfl rfl ?_
  refine e_ipush rfl ?_
  refine e_iadd rfl ?_
  refine e_sld rfl (sld_in (k := 1) hi hL (by decide)) ?_
  rw [show (nI i + 1).toNatClampNeg = i + 1 from sld_at (k := 1) hi hL (by decide)]
  refine e_aloadq rfl rfl ?_
  refine e_iload rfl rfl ?_
  refine e_ipush rfl ?_
  refine e_iadd rfl ?_
  refine e_sld rfl (sld_in (k := 2) hi hL (by decide)) ?_
  rw [show (nI i + 2).toNatClampNeg = i + 2 from sld_at (k := 2) hi hL (by decide)]
  refine Eg.call [.ref 290, .int (xs (i + 1)), .int (xs (i + 2))] [.int w] rfl (by decide) (by decide) rfl rfl (Nat.le_of_ble_eq_true rfl) (xrcv_of rfl hs rfl) (hm.mono (by omega)) (fun r2 h2 hq => ?_)
  obtain ⟨rfl, hI⟩ := hq
  refine e_ceq_t rfl rfl ?_
  exact kk h2 hI
theorem lc_5 (hi : i + 6 ≤ L) (hL : L ≤ 3072) (h0 : h.1[0]? = some (11, 13)) (hc : calls (L, xs, g) Inv h (xs (i + 1)) (xs (i + 2)) (xs (i + 3)) (xs (i + 4)) (xs (i + 5)) 5) (kk : ∀ h2, Inv h2 → Eg (L, xs, g) xTb 999 0 1336 [(3, .int (nI i)), (2, .ref 290), (1, .ref 0), (0, .retAddr 0)] [] h2 Q) : Eg (L, xs, g) xTb 999 0 333 [(3, .int (nI i)), (2, .ref 290), (1, .ref 0), (0, .retAddr 0)] [] h Q := by
  replace hc : callOK (L, xs, g) 144 245 [.int (xs (i + 1)), .int (xs (i + 2))] Inv h := hc
  refine e_aload rfl rfl ?_
  refine e_aloadq rfl rfl ?_
  refine e_iload rfl rfl ?_
  refine e_ipush rfl ?_
  refine e_iadd rfl ?_
  refine e_sld rfl (sld_in (k := 1) hi hL (by decide)) ?_
  rw [show (nI i + 1).toNatClampNeg = i + 1 from sld_at (k := 1) hi hL (by decide)]
  refine e_aloadq rfl rfl ?_
  refine e_iload rfl rfl ?_
  refine e_ipush rfl ?_
  refine e_iadd rfl ?_
  refine e_sld rfl (sld_in (k := 2) hi hL (by decide)) ?_
  rw [show (nI i + 2).toNatClampNeg = i + 2 from sld_at (k := 2) hi hL (by decide)]
  refine Eg.call [.ref 0, .int (xs (i + 1)), .int (xs (i + 2))] [] rfl (by decide) (by decide) rfl rfl (Nat.le_of_ble_eq_true rfl) (xrcv_of rfl h0 rfl) (hc.mono (by omega)) (fun r1 h1 hq => ?_)
  obtain ⟨w, rfl, hs, hm⟩ := hq
  refine e_aload rfl rfl ?_
  refine e_aloadq rfl rfl ?_
  refine e_iload rfl rfl ?_
  refine e_ipush rfl ?_
  refine e_iadd rfl ?_
  refine e_sld rfl (sld_in (k := 1) hi hL (by decide)) ?_
  rw [show (nI i + 1).toNatClampNeg = i + 1 from sld_at (k := 1) hi hL (by decide)]
  refine e_aloadq rfl rfl ?_
  refine e_iload rfl rfl ?_
  refine e_ipush rfl ?_
  refine e_iadd rfl ?_
  refine e_sld rfl (sld_in (k := 2) hi hL (by decide)) ?_
  rw [show (nI i + 2).toNatClampNeg = i + 2 from sld_at (k := 2) hi hL (by decide)]
  refine Eg.call [.ref 290, .int (xs (i + 1)), .int (xs (i + 2))] [.int w] rfl (by decide) (by decide) rfl rfl (Nat.le_of_ble_eq_true rfl) (xrcv_of rfl hs rfl) (hm.mono (by omega)) (fun r2 h2 hq => ?_)
  obtain ⟨rfl, hI⟩ := hq
  refine e_ceq_t rfl rfl ?_
  exact kk h2 hI
theorem lc_6 (hi : i + 6 ≤ L) (hL : L ≤ 3072) (h0 : h.1[0]? = some (11, 13)) (hc : calls (L, xs, g) Inv h (xs (i + 1)) (xs (i + 2)) (xs (i + 3)) (xs (i + 4)) (xs (i + 5)) 6) (kk : ∀ h2, Inv h2 → Eg (L, xs, g) xTb 999 0 1336 [(3, .int (nI i)), (2, .ref 290), (1, .ref 0), (0, .retAddr 0)] [] h2 Q) : Eg (L, xs, g) xTb 999 0 366 [(3, .int (nI i)), (2, .ref 290), (1, .ref 0), (0, .retAddr 0)] [] h Q := by
  replace hc : callOK (L, xs, g) 145 246 [.int (xs (i + 1)), .int (xs (i + 2))] Inv h := hc
  refine e_aload rfl rfl ?_
  refine e_aloadq rfl rfl ?_
  refine e_iload rfl rfl ?_
  refine e_ipush rfl ?_
  refine e_iadd rfl ?_
  refine e_sld rfl (sld_in (k := 1) hi hL (by decide)) ?_
  rw [show (nI i + 1).toNatClampNeg = i + 1 from sld_at (k := 1) hi hL (by decide)]
  refine e_aloadq rfl rfl ?_
  refine e_iload rfl rfl ?_
  refine e_ipush rfl ?_
  refine e_iadd rfl ?_
  refine e_sld rfl (sld_in (k := 2) hi hL (by decide)) ?_
  rw [show (nI i + 2).toNatClampNeg = i + 2 from sld_at (k := 2) hi hL (by decide)]
  refine Eg.call [.ref 0, .int (xs (i + 1)), .int (xs (i + 2))] [] rfl (by decide) (by decide) rfl rfl (Nat.le_of_ble_eq_true rfl) (xrcv_of rfl h0 rfl) (hc.mono (by omega)) (fun r1 h1 hq => ?_)
  obtain ⟨w, rfl, hs, hm⟩ := hq
  refine e_aload rfl rfl ?_
  refine e_aloadq rfl rfl ?_
  refine e_iload rfl rfl ?_
  refine e_ipush rfl ?_
  refine e_iadd rfl ?_
  refine e_sld rfl (sld_in (k := 1) hi hL (by decide)) ?_
  rw [show (nI i + 1).toNatClampNeg = i + 1 from sld_at (k := 1) hi hL (by decide)]
  refine e_aloadq rfl rfl ?_
  refine e_iload rfl rfl ?_
  refine e_ipush rfl ?_
  refine e_iadd rfl ?_
  refine e_sld rfl (sld_in (k := 2) hi hL (by decide)) ?_
  rw [show (nI i + 2).toNatClampNeg = i + 2 from sld_at (k := 2) hi hL (by decide)]
  refine Eg.call [.ref 290, .int (xs (i + 1)), .int (xs (i + 2))] [.int w] rfl (by decide) (by decide) rfl rfl (Nat.le_of_ble_eq_true rfl) (xrcv_of rfl hs rfl) (hm.mono (by omega)) (fun r2 h2 hq => ?_)
  obtain ⟨rfl, hI⟩ := hq
  refine e_ceq_t rfl rfl ?_
  exact kk h2 hI
theorem lc_7 (hi : i + 6 ≤ L) (hL : L ≤ 3072) (h0 : h.1[0]? = some (11, 13)) (hc : calls (L, xs, g) Inv h (xs (i + 1)) (xs (i + 2)) (xs (i + 3)) (xs (i + 4)) (xs (i + 5)) 7) (kk : ∀ h2, Inv h2 → Eg (L, xs, g) xTb 999 0 1336 [(3, .int (nI i)), (2, .ref 290), (1, .ref 0), (0, .retAddr 0)] [] h2 Q) : Eg (L, xs, g) xTb 999 0 399 [(3, .int (nI i)), (2, .ref 290), (1, .ref 0), (0, .retAddr 0)] [] h Q := by
  replace hc : callOK (L, xs, g) 146 247 [.int (xs (i + 1)), .int (xs (i + 2))] Inv h := hc
  refine e_aload rfl rfl ?_
  refine e_aloadq rfl rfl ?_
  refine e_iload rfl rfl ?_
  refine e_ipush rfl ?_
  refine e_iadd rfl ?_
  refine e_sld rfl (sld_in (k := 1) hi hL (by decide)) ?_
  rw [show (nI i + 1).toNatClampNeg = i + 1 from sld_at (k := 1) hi hL (by decide)]
  refine e_aloadq rfl rfl ?_
  refine e_iload rfl rfl ?_
  refine e_ipush rfl ?_
  refine e_iadd rfl ?_
  refine e_sld rfl (sld_in (k := 2) hi hL (by decide)) ?_
  rw [show (nI i + 2).toNatClampNeg = i + 2 from sld_at (k := 2) hi hL (by decide)]
  refine Eg.call [.ref 0, .int (xs (i + 1)), .int (xs (i + 2))] [] rfl (by decide) (by decide) rfl rfl (Nat.le_of_ble_eq_true rfl) (xrcv_of rfl h0 rfl) (hc.mono (by omega)) (fun r1 h1 hq => ?_)
  obtain ⟨w, rfl, hs, hm⟩ := hq
  refine e_aload rfl rfl ?_
  refine e_aloadq rfl rfl ?_
  refine e_iload rfl rfl ?_
  refine e_ipush rfl ?_
  refine e_iadd rfl ?_
  refine e_sld rfl (sld_in (k := 1) hi hL (by decide)) ?_
  rw [show (nI i + 1).toNatClampNeg = i + 1 from sld_at (k := 1) hi hL (by decide)]
  refine e_aloadq rfl rfl ?_
  refine e_iload rfl rfl ?_
  refine e_ipush rfl ?_
  refine e_iadd rfl ?_
  refine e_sld rfl (sld_in (k := 2) hi hL (by decide)) ?_
  rw [show (nI i + 2).toNatClampNeg = i + 2 from sld_at (k := 2) hi hL (by decide)]
  refine Eg.call [.ref 290, .int (xs (i + 1)), .int (xs (i + 2))] [.int w] rfl (by decide) (by decide) rfl rfl (Nat.le_of_ble_eq_true rfl) (xrcv_of rfl hs rfl) (hm.mono (by omega)) (fun r2 h2 hq => ?_)
  obtain ⟨rfl, hI⟩ := hq
  refine e_ceq_t rfl rfl ?_
  exact kk h2 hI
theorem lc_8 (hi : i + 6 ≤ L) (hL : L ≤ 3072) (h0 : h.1[0]? = some (11, 13)) (hc : calls (L, xs, g) Inv h (xs (i + 1)) (xs (i + 2)) (xs (i + 3)) (xs (i + 4)) (xs (i + 5)) 8) (kk : ∀ h2, Inv h2 → Eg (L, xs, g) xTb 999 0 1336 [(3, .int (nI i)), (2, .ref 290), (1, .ref 0), (0, .retAddr 0)] [] h2 Q) : Eg (L, xs, g) xTb 999 0 432 [(3, .int (nI i)), (2, .ref 290), (1, .ref 0), (0, .retAddr 0)] [] h Q := by
  replace hc : callOK (L, xs, g) 147 254 [.int (xs (i + 1)), .int (xs (i + 2))] Inv h := hc
  refine e_aload rfl rfl ?_
  refine e_aloadq rfl rfl ?_
  refine e_iload rfl rfl ?_
  refine e_ipush rfl ?_
  refine e_iadd rfl ?_
  refine e_sld rfl (sld_in (k := 1) hi hL (by decide)) ?_
  rw [show (nI i + 1).toNatClampNeg = i + 1 from sld_at (k := 1) hi hL (by decide)]
  refine e_aloadq rfl rfl ?_
  refine e_iload rfl rfl ?_
  refine e_ipush rfl ?_
  refine e_iadd rfl ?_
  refine e_sld rfl (sld_in (k := 2) hi hL (by decide)) ?_
  rw [show (nI i + 2).toNatClampNeg = i + 2 from sld_at (k := 2) hi hL (by decide)]
  refine Eg.call [.ref 0, .int (xs (i + 1)), .int (xs (i + 2))] [] rfl (by decide) (by decide) rfl rfl (Nat.le_of_ble_eq_true rfl) (xrcv_of rfl h0 rfl) (hc.mono (by omega)) (fun r1 h1 hq => ?_)
  obtain ⟨w, rfl, hs, hm⟩ := hq
  refine e_aload rfl rfl ?_
  refine e_aloadq rfl rfl ?_
  refine e_iload rfl rfl ?_
  refine e_ipush rfl ?_
  refine e_iadd rfl ?_
  refine e_sld rfl (sld_in (k := 1) hi hL (by decide)) ?_
  rw [show (nI i + 1).toNatClampNeg = i + 1 from sld_at (k := 1) hi hL (by decide)]
  refine e_aloadq rfl rfl ?_
  refine e_iload rfl rfl ?_
  refine e_ipush rfl ?_
  refine e_iadd rfl ?_
  refine e_sld rfl (sld_in (k := 2) hi hL (by decide)) ?_
  rw [show (nI i + 2).toNatClampNeg = i + 2 from sld_at (k := 2) hi hL (by decide)]
  refine Eg.call [.ref 290, .int (xs (i + 1)), .int (xs (i + 2))] [.int w] rfl (by decide) (by decide) rfl rfl (Nat.le_of_ble_eq_true rfl) (xrcv_of rfl hs rfl) (hm.mono (by omega)) (fun r2 h2 hq => ?_)
  obtain ⟨rfl, hI⟩ := hq
  refine e_ceq_t rfl rfl ?_
  exact kk h2 hI
theorem lc_9 (hi : i + 6 ≤ L) (hL : L ≤ 3072) (h0 : h.1[0]? = some (11, 13)) (hc : calls (L, xs, g) Inv h (xs (i + 1)) (xs (i + 2)) (xs (i + 3)) (xs (i + 4)) (xs (i + 5)) 9) (kk : ∀ h2, Inv h2 → Eg (L, xs, g) xTb 999 0 1336 [(3, .int (nI i)), (2, .ref 290), (1, .ref 0), (0, .retAddr 0)] [] h2 Q) : Eg (L, xs, g) xTb 999 0 465 [(3, .int (nI i)), (2, .ref 290), (1, .ref 0), (0, .retAddr 0)] [] h Q := by
  replace hc : callOK (L, xs, g) 148 257 [.int (xs (i + 1))] Inv h := hc
  refine e_aload rfl rfl ?_
  refine e_aloadq rfl rfl ?_
  refine e_iload rfl rfl ?_
  refine e_ipush rfl ?_
  refine e_iadd rfl ?_
  refine e_sld rfl (sld_in (k := 1) hi hL (by decide)) ?_
  rw [show (nI i + 1).toNatClampNeg = i + 1 from sld_at (k := 1) hi hL (by decide)]
  refine Eg.call [.ref 0, .int (xs (i + 1))] [] rfl (by decide) (by decide) rfl rfl (Nat.le_of_ble_eq_true rfl) (xrcv_of rfl h0 rfl) (hc.mono (by omega)) (fun r1 h1 hq => ?_)
  obtain ⟨w, rfl, hs, hm⟩ := hq
  refine e_aload rfl rfl ?_
  refine e_aloadq rfl rfl ?_
  refine e_iload rfl rfl ?_
  refine e_ipush rfl ?_
  refine e_iadd rfl ?_
  refine e_sld rfl (sld_in (k := 1) hi hL (by decide)) ?_
  rw [show (nI i + 1).toNatClampNeg = i + 1 from sld_at (k := 1) hi hL (by decide)]
  refine Eg.call [.ref 290, .int (xs (i + 1))] [.int w] rfl (by decide) (by decide) rfl rfl (Nat.le_of_ble_eq_true rfl) (xrcv_of rfl hs rfl) (hm.mono (by omega)) (fun r2 h2 hq => ?_)
  obtain ⟨rfl, hI⟩ := hq
  refine e_ceq_t rfl rfl ?_
  exact kk h2 hI
theorem lc_10 (hi : i + 6 ≤ L) (hL : L ≤ 3072) (h0 : h.1[0]? = some (11, 13)) (hc : calls (L, xs, g) Inv h (xs (i + 1)) (xs (i + 2)) (xs (i + 3)) (xs (i + 4)) (xs (i + 5)) 10) (kk : ∀ h2, Inv h2 → Eg (L, xs, g) xTb 999 0 1336 [(3, .int (nI i)), (2, .ref 290), (1, .ref 0), (0, .retAddr 0)] [] h2 Q) : Eg (L, xs, g) xTb 999 0 488 [(3, .int (nI i)), (2, .ref 290), (1, .ref 0), (0, .retAddr 0)] [] h Q := by
  replace hc : callOK (L, xs, g) 149 258 [.int (xs (i + 1)), .int (if xs (i + 2) = 0 then 0 else 1)] Inv h := hc
  by_cases hb : xs (i + 2) = 0
  · rw [if_pos hb] at hc
    refine e_aload rfl rfl ?_
    refine e_aloadq rfl rfl ?_
    refine e_iload rfl rfl ?_
    refine e_ipush rfl ?_
    refine e_iadd rfl ?_
    refine e_sld rfl (sld_in (k := 1) hi hL (by decide)) ?_
    rw [show (nI i + 1).toNatClampNeg = i + 1 from sld_at (k := 1) hi hL (by decide)]
    refine e_aloadq rfl rfl ?_
    refine e_iload rfl rfl ?_
    refine e_ipush rfl ?_
    refine e_iadd rfl ?_
    refine e_sld rfl (sld_in (k := 2) hi hL (by decide)) ?_
    rw [show (nI i + 2).toNatClampNeg = i + 2 from sld_at (k := 2) hi hL (by decide)]
    refine e_ifeq_t rfl hb ?_
    refine e_ipush rfl ?_
    refine Eg.call [.ref 0, .int (xs (i + 1)), .int 0] [] rfl (by decide) (by decide) rfl rfl (Nat.le_of_ble_eq_true rfl) (xrcv_of rfl h0 rfl) (hc.mono (by omega)) (fun r1 h1 hq => ?_)
    obtain ⟨w, rfl, hs, hm⟩ := hq
    refine e_aload rfl rfl ?_
    refine e_aloadq rfl rfl ?_
    refine e_iload rfl rfl ?_
    refine e_ipush rfl ?_
    refine e_iadd rfl ?_
    refine e_sld rfl (sld_in (k := 1) hi hL (by decide)) ?_
    rw [show (nI i + 1).toNatClampNeg = i + 1 from sld_at (k := 1) hi hL (by decide)]
    refine e_aloadq rfl rfl ?_
    refine e_iload rfl rfl ?_
    refine e_ipush rfl ?_
    refine e_iadd rfl ?_
    refine e_sld rfl (sld_in (k := 2) hi hL (by decide)) ?_
    rw [show (nI i + 2).toNatClampNeg = i + 2 from sld_at (k := 2) hi hL (by decide)]
    refine e_ifeq_t rfl hb ?_
    refine e_ipush rfl ?_
    refine Eg.call [.ref 290, .int (xs (i + 1)), .int 0] [.int w] rfl (by decide) (by decide) rfl rfl (Nat.le_of_ble_eq_true rfl) (xrcv_of rfl hs rfl) (hm.mono (by omega)) (fun r2 h2 hq => ?_)
    obtain ⟨rfl, hI⟩ := hq
    refine e_ceq_t rfl rfl ?_
    exact kk h2 hI
  · rw [if_neg hb] at hc
    refine e_aload rfl rfl ?_
    refine e_aloadq rfl rfl ?_
    refine e_iload rfl rfl ?_
    refine e_ipush rfl ?_
    refine e_iadd rfl ?_
    refine e_sld rfl (sld_in (k := 1) hi hL (by decide)) ?_
    rw [show (nI i + 1).toNatClampNeg = i + 1 from sld_at (k := 1) hi hL (by decide)]
    refine e_aloadq rfl rfl ?_
    refine e_iload rfl rfl ?_
    refine e_ipush rfl ?_
    refine e_iadd rfl ?_
    refine e_sld rfl (sld_in (k := 2) hi hL (by decide)) ?_
    rw [show (nI i + 2).toNatClampNeg = i + 2 from sld_at (k := 2) hi hL (by decide)]
    refine e_ifeq_f rfl hb ?_
    refine e_ipush rfl ?_
    refine e_goto rfl ?_
    refine Eg.call [.ref 0, .int (xs (i + 1)), .int 1] [] rfl (by decide) (by decide) rfl rfl (Nat.le_of_ble_eq_true rfl) (xrcv_of rfl h0 rfl) (hc.mono (by omega)) (fun r1 h1 hq => ?_)
    obtain ⟨w, rfl, hs, hm⟩ := hq
    refine e_aload rfl rfl ?_
    refine e_aloadq rfl rfl ?_
    refine e_iload rfl rfl ?_
    refine e_ipush rfl ?_
    refine e_iadd rfl ?_
    refine e_sld rfl (sld_in (k := 1) hi hL (by decide)) ?_
    rw [show (nI i + 1).toNatClampNeg = i + 1 from sld_at (k := 1) hi hL (by decide)]
    refine e_aloadq rfl rfl ?_
    refine e_iload rfl rfl ?_
    refine e_ipush rfl ?_
    refine e_iadd rfl ?_
    refine e_sld rfl (sld_in (k := 2) hi hL (by decide)) ?_
    rw [show (nI i + 2).toNatClampNeg = i + 2 from sld_at (k := 2) hi hL (by decide)]
    refine e_ifeq_f rfl hb ?_
    refine e_ipush rfl ?_
    refine e_goto rfl ?_
    refine Eg.call [.ref 290, .int (xs (i + 1)), .int 1] [.int w] rfl (by decide) (by decide) rfl rfl (Nat.le_of_ble_eq_true rfl) (xrcv_of rfl hs rfl) (hm.mono (by omega)) (fun r2 h2 hq => ?_)
    obtain ⟨rfl, hI⟩ := hq
    refine e_ceq_t rfl rfl ?_
    exact kk h2 hI
theorem lc_11 (hi : i + 6 ≤ L) (hL : L ≤ 3072) (h0 : h.1[0]? = some (11, 13)) (hc : calls (L, xs, g) Inv h (xs (i + 1)) (xs (i + 2)) (xs (i + 3)) (xs (i + 4)) (xs (i + 5)) 11) (kk : ∀ h2, Inv h2 → Eg (L, xs, g) xTb 999 0 1336 [(3, .int (nI i)), (2, .ref 290), (1, .ref 0), (0, .retAddr 0)] [] h2 Q) : Eg (L, xs, g) xTb 999 0 537 [(3, .int (nI i)), (2, .ref 290), (1, .ref 0), (0, .retAddr 0)] [] h Q := by
  replace hc : callOK (L, xs, g) 150 261 [.int (xs (i + 1)), .int (xs (i + 2)), .int (xs (i + 3))] Inv h := hc
  refine e_aload rfl rfl ?_
  refine e_aloadq rfl rfl ?_
  refine e_iload rfl rfl ?_
  refine e_ipush rfl ?_
  refine e_iadd rfl ?_
  refine e_sld rfl (sld_in (k := 1) hi hL (by decide)) ?_
  rw [show (nI i + 1).toNatClampNeg = i + 1 from sld_at (k := 1) hi hL (by decide)]
  refine e_aloadq rfl rfl ?_
  refine e_iload rfl rfl ?_
  refine e_ipush rfl ?_
  refine e_iadd rfl ?_
  refine e_sld rfl (sld_in (k := 2) hi hL (by decide)) ?_
  rw [show (nI i + 2).toNatClampNeg = i + 2 from sld_at (k := 2) hi hL (by decide)]
  refine e_aloadq rfl rfl ?_
  refine e_iload rfl rfl ?_
  refine e_ipush rfl ?_
  refine e_iadd rfl ?_
  refine e_sld rfl (sld_in (k := 3) hi hL (by decide)) ?_
  rw [show (nI i + 3).toNatClampNeg = i + 3 from sld_at (k := 3) hi hL (by decide)]
  refine Eg.call [.ref 0, .int (xs (i + 1)), .int (xs (i + 2)), .int (xs (i + 3))] [] rfl (by decide) (by decide) rfl rfl (Nat.le_of_ble_eq_true rfl) (xrcv_of rfl h0 rfl) (hc.mono (by omega)) (fun r1 h1 hq => ?_)
  obtain ⟨w, rfl, hs, hm⟩ := hq
  refine e_aload rfl rfl ?_
  refine e_aloadq rfl rfl ?_
  refine e_iload rfl rfl ?_
  refine e_ipush rfl ?_
  refine e_iadd rfl ?_
  refine e_sld rfl (sld_in (k := 1) hi hL (by decide)) ?_
  rw [show (nI i + 1).toNatClampNeg = i + 1 from sld_at (k := 1) hi hL (by decide)]
  refine e_aloadq rfl rfl ?_
  refine e_iload rfl rfl ?_
  refine e_ipush rfl ?_
  refine e_iadd rfl ?_
  refine e_sld rfl (sld_in (k := 2) hi hL (by decide)) ?_
  rw [show (nI i + 2).toNatClampNeg = i + 2 from sld_at (k := 2) hi hL (by decide)]
  refine e_aloadq rfl rfl ?_
  refine e_iload rfl rfl ?_
  refine e_ipush rfl ?_
  refine e_iadd rfl ?_
  refine e_sld rfl (sld_in (k := 3) hi hL (by decide)) ?_
  rw [show (nI i + 3).toNatClampNeg = i + 3 from sld_at (k := 3) hi hL (by decide)]
  refine Eg.call [.ref 290, .int (xs (i + 1)), .int (xs (i + 2)), .int (xs (i + 3))] [.int w] rfl (by decide) (by decide) rfl rfl (Nat.le_of_ble_eq_true rfl) (xrcv_of rfl hs rfl) (hm.mono (by omega)) (fun r2 h2 hq => ?_)
  obtain ⟨rfl, hI⟩ := hq
  refine e_ceq_t rfl rfl ?_
  exact kk h2 hI
theorem lc_12 (hi : i + 6 ≤ L) (hL : L ≤ 3072) (h0 : h.1[0]? = some (11, 13)) (hc : calls (L, xs, g) Inv h (xs (i + 1)) (xs (i + 2)) (xs (i + 3)) (xs (i + 4)) (xs (i + 5)) 12) (kk : ∀ h2, Inv h2 → Eg (L, xs, g) xTb 999 0 1336 [(3, .int (nI i)), (2, .ref 290), (1, .ref 0), (0, .retAddr 0)] [] h2 Q) : Eg (L, xs, g) xTb 999 0 580 [(3, .int (nI i)), (2, .ref 290), (1, .ref 0), (0, .retAddr 0)] [] h Q := by
  replace hc : callOK (L, xs, g) 151 251 [] Inv h := hc
  refine e_aload rfl rfl ?_
  refine Eg.call [.ref 0] [] rfl (by decide) (by decide) rfl rfl (Nat.le_of_ble_eq_true rfl) (xrcv_of rfl h0 rfl) (hc.mono (by omega)) (fun r1 h1 hq => ?_)
  obtain ⟨w, rfl, hs, hm⟩ := hq
  refine e_aload rfl rfl ?_
  refine Eg.call [.ref 290] [.int w] rfl (by decide) (by decide) rfl rfl (Nat.le_of_ble_eq_true rfl) (xrcv_of rfl hs rfl) (hm.mono (by omega)) (fun r2 h2 hq => ?_)
  obtain ⟨rfl, hI⟩ := hq
  refine e_ceq_t rfl rfl ?_
  exact kk h2 hI
theorem lc_13 (hi : i + 6 ≤ L) (hL : L ≤ 3072) (h0 : h.1[0]? = some (11, 13)) (hc : calls (L, xs, g) Inv h (xs (i + 1)) (xs (i + 2)) (xs (i + 3)) (xs (i + 4)) (xs (i + 5)) 13) (kk : ∀ h2, Inv h2 → Eg (L, xs, g) xTb 999 0 1336 [(3, .int (nI i)), (2, .ref 290), (1, .ref 0), (0, .retAddr 0)] [] h2 Q) : Eg (L, xs, g) xTb 999 0 593 [(3, .int (nI i)), (2, .ref 290), (1, .ref 0), (0, .retAddr 0)] [] h Q := by
  replace hc : callOK (L, xs, g) 152 265 [.int (xs (i + 1)), .int (xs (i + 2))] Inv h := hc
  refine e_aload rfl rfl ?_
  refine e_aloadq rfl rfl ?_
  refine e_iload rfl rfl ?_
  refine e_ipush rfl ?_
  refine e_iadd rfl ?_
  refine e_sld rfl (sld_in (k := 1) hi hL (by decide)) ?_
  rw [show (nI i + 1).toNatClampNeg = i + 1 from sld_at (k := 1) hi hL (by decide)]
  refine e_aloadq rfl rfl ?_
  refine e_iload rfl rfl ?_
  refine e_ipush rfl ?_
  refine e_iadd rfl ?_
  refine e_sld rfl (sld_in (k := 2) hi hL (by decide)) ?_
  rw [show (nI i + 2).toNatClampNeg = i + 2 from sld_at (k := 2) hi hL (by decide)]
  refine Eg.call [.ref 0, .int (xs (i + 1)), .int (xs (i + 2))] [] rfl (by decide) (by decide) rfl rfl (Nat.le_of_ble_eq_true rfl) (xrcv_of rfl h0 rfl) (hc.mono (by omega)) (fun r1 h1 hq => ?_)
  obtain ⟨w, rfl, hs, hm⟩ := hq
  refine e_aload rfl rfl ?_
  refine e_aloadq rfl rfl ?_
  refine e_iload rfl rfl ?_
  refine e_ipush rfl ?_
  refine e_iadd rfl ?_
  refine e_sld rfl (sld_in (k := 1) hi hL (by decide)) ?_
  rw [show (nI i + 1).toNatClampNeg = i + 1 from sld_at (k := 1) hi hL (by decide)]
  refine e_aloadq rfl rfl ?_
  refine e_iload rfl rfl ?_
  refine e_ipush rfl ?_
  refine e_iadd rfl ?_
  refine e_sld rfl (sld_in (k := 2) hi hL (by decide)) ?_
  rw [show (nI i + 2).toNatClampNeg = i + 2 from sld_at (k := 2) hi hL (by decide)]
  refine Eg.call [.ref 290, .int (xs (i + 1)), .int (xs (i + 2))] [.int w] rfl (by decide) (by decide) rfl rfl (Nat.le_of_ble_eq_true rfl) (xrcv_of rfl hs rfl) (hm.mono (by omega)) (fun r2 h2 hq => ?_)
  obtain ⟨rfl, hI⟩ := hq
  refine e_ceq_t rfl rfl ?_
  exact kk h2 hI
theorem lc_14 (hi : i + 6 ≤ L) (hL : L ≤ 3072) (h0 : h.1[0]? = some (11, 13)) (hc : calls (L, xs, g) Inv h (xs (i + 1)) (xs (i + 2)) (xs (i + 3)) (xs (i + 4)) (xs (i + 5)) 14) (kk : ∀ h2, Inv h2 → Eg (L, xs, g) xTb 999 0 1336 [(3, .int (nI i)), (2, .ref 290), (1, .ref 0), (0, .retAddr 0)] [] h2 Q) : Eg (L, xs, g) xTb 999 0 626 [(3, .int (nI i)), (2, .ref 290), (1, .ref 0), (0, .retAddr 0)] [] h Q := by
  replace hc : callOK (L, xs, g) 153 267 [] Inv h := hc
  refine e_aload rfl rfl ?_
  refine Eg.call [.ref 0] [] rfl (by decide) (by decide) rfl rfl (Nat.le_of_ble_eq_true rfl) (xrcv_of rfl h0 rfl) (hc.mono (by omega)) (fun r1 h1 hq => ?_)
  obtain ⟨w, rfl, hs, hm⟩ := hq
  refine e_aload rfl rfl ?_
  refine Eg.call [.ref 290] [.int w] rfl (by decide) (by decide) rfl rfl (Nat.le_of_ble_eq_true rfl) (xrcv_of rfl hs rfl) (hm.mono (by omega)) (fun r2 h2 hq => ?_)
  obtain ⟨rfl, hI⟩ := hq
  refine e_ceq_t rfl rfl ?_
  exact kk h2 hI
theorem lc_15 (hi : i + 6 ≤ L) (hL : L ≤ 3072) (h0 : h.1[0]? = some (11, 13)) (hc : calls (L, xs, g) Inv h (xs (i + 1)) (xs (i + 2)) (xs (i + 3)) (xs (i + 4)) (xs (i + 5)) 15) (kk : ∀ h2, Inv h2 → Eg (L, xs, g) xTb 999 0 1336 [(3, .int (nI i)), (2, .ref 290), (1, .ref 0), (0, .retAddr 0)] [] h2 Q) : Eg (L, xs, g) xTb 999 0 639 [(3, .int (nI i)), (2, .ref 290), (1, .ref 0), (0, .retAddr 0)] [] h Q := by
  replace hc : callOK (L, xs, g) 154 268 [.int (xs (i + 1)), .int (xs (i + 2))] Inv h := hc
  refine e_aload rfl rfl ?_
  refine e_aloadq rfl rfl ?_
  refine e_iload rfl rfl ?_
  refine e_ipush rfl ?_
  refine e_iadd rfl ?_
  refine e_sld rfl (sld_in (k := 1) hi hL (by decide)) ?_
  rw [show (nI i + 1).toNatClampNeg = i + 1 from sld_at (k := 1) hi hL (by decide)]
  refine e_aloadq rfl rfl ?_
  refine e_iload rfl rfl ?_
  refine e_ipush rfl ?_
  refine e_iadd rfl ?_
  refine e_sld rfl (sld_in (k := 2) hi hL (by decide)) ?_
  rw [show (nI i + 2).toNatClampNeg = i + 2 from sld_at (k := 2) hi hL (by decide)]
  refine Eg.call [.ref 0, .int (xs (i + 1)), .int (xs (i + 2))] [] rfl (by decide) (by decide) rfl rfl (Nat.le_of_ble_eq_true rfl) (xrcv_of rfl h0 rfl) (hc.mono (by omega)) (fun r1 h1 hq => ?_)
  obtain ⟨w, rfl, hs, hm⟩ := hq
  refine e_aload rfl rfl ?_
  refine e_aloadq rfl rfl ?_
  refine e_iload rfl rfl ?_
  refine e_ipush rfl ?_
  refine e_iadd rfl ?_
  refine e_sld rfl (sld_in (k := 1) hi hL (by decide)) ?_
  rw [show (nI i + 1).toNatClampNeg = i + 1 from sld_at (k := 1) hi hL (by decide)]
  refine e_aloadq rfl rfl ?_
  refine e_iload rfl rfl ?_
  refine e_ipush rfl ?_
  refine e_iadd rfl ?_
  refine e_sld rfl (sld_in (k := 2) hi hL (by decide)) ?_
  rw [show (nI i + 2).toNatClampNeg = i + 2 from sld_at (k := 2) hi hL (by decide)]
  refine Eg.call [.ref 290, .int (xs (i + 1)), .int (xs (i + 2))] [.int w] rfl (by decide) (by decide) rfl rfl (Nat.le_of_ble_eq_true rfl) (xrcv_of rfl hs rfl) (hm.mono (by omega)) (fun r2 h2 hq => ?_)
  obtain ⟨rfl, hI⟩ := hq
  refine e_ceq_t rfl rfl ?_
  exact kk h2 hI
theorem lc_16 (hi : i + 6 ≤ L) (hL : L ≤ 3072) (h0 : h.1[0]? = some (11, 13)) (hc : calls (L, xs, g) Inv h (xs (i + 1)) (xs (i + 2)) (xs (i + 3)) (xs (i + 4)) (xs (i + 5)) 16) (kk : ∀ h2, Inv h2 → Eg (L, xs, g) xTb 999 0 1336 [(3, .int (nI i)), (2, .ref 290), (1, .ref 0), (0, .retAddr 0)] [] h2 Q) : Eg (L, xs, g) xTb 999 0 672 [(3, .int (nI i)), (2, .ref 290), (1, .ref 0), (0, .retAddr 0)] [] h Q := by
  replace hc : callOK (L, xs, g) 155 269 [.int (xs (i + 1)), .int (xs (i + 2))] Inv h := hc
  refine e_aload rfl rfl ?_
  refine e_aloadq rfl rfl ?_
  refine e_iload rfl rfl ?_
  refine e_ipush rfl ?_
  refine e_iadd rfl ?_
  refine e_sld rfl (sld_in (k := 1) hi hL (by decide)) ?_
  rw [show (nI i + 1).toNatClampNeg = i + 1 from sld_at (k := 1) hi hL (by decide)]
  refine e_aloadq rfl rfl ?_
  refine e_iload rfl rfl ?_
  refine e_ipush rfl ?_
  refine e_iadd rfl ?_
  refine e_sld rfl (sld_in (k := 2) hi hL (by decide)) ?_
  rw [show (nI i + 2).toNatClampNeg = i + 2 from sld_at (k := 2) hi hL (by decide)]
  refine Eg.call [.ref 0, .int (xs (i + 1)), .int (xs (i + 2))] [] rfl (by decide) (by decide) rfl rfl (Nat.le_of_ble_eq_true rfl) (xrcv_of rfl h0 rfl) (hc.mono (by omega)) (fun r1 h1 hq => ?_)
  obtain ⟨w, rfl, hs, hm⟩ := hq
  refine e_aload rfl rfl ?_
  refine e_aloadq rfl rfl ?_
  refine e_iload rfl rfl ?_
  refine e_ipush rfl ?_
  refine e_iadd rfl ?_
  refine e_sld rfl (sld_in (k := 1) hi hL (by decide)) ?_
  rw [show (nI i + 1).toNatClampNeg = i + 1 from sld_at (k := 1) hi hL (by decide)]
  refine e_aloadq rfl rfl ?_
  refine e_iload rfl rfl ?_
  refine e_ipush rfl ?_
  refine e_iadd rfl ?_
  refine e_sld rfl (sld_in (k := 2) hi hL (by decide)) ?_
  rw [show (nI i + 2).toNatClampNeg = i + 2 from sld_at (k := 2) hi hL (by decide)]
  refine Eg.call [.ref 290, .int (xs (i + 1)), .int (xs (i + 2))] [.int w] rfl (by decide) (by decide) rfl rfl (Nat.le_of_ble_eq_true rfl) (xrcv_of rfl hs rfl) (hm.mono (by omega)) (fun r2 h2 hq => ?_)
  obtain ⟨rfl, hI⟩ := hq
  refine e_ceq_t rfl rfl ?_
  exact kk h2 hI
theorem lc_17 (hi : i + 6 ≤ L) (hL : L ≤ 3072) (h0 : h.1[0]? = some (11, 13)) (hc : calls (L, xs, g) Inv h (xs (i + 1)) (xs (i + 2)) (xs (i + 3)) (xs (i + 4)) (xs (i + 5)) 17) (kk : ∀ h2, Inv h2 → Eg (L, xs, g) xTb 999 0 1336 [(3, .int (nI i)), (2, .ref 290), (1, .ref 0), (0, .retAddr 0)] [] h2 Q) : Eg (L, xs, g) xTb 999 0 705 [(3, .int (nI i)), (2, .ref 290), (1, .ref 0), (0, .retAddr 0)] [] h Q := by
  replace hc : callOK (L, xs, g) 156 271 [.int (xs (i + 1)), .int (xs (i + 2))] Inv h := hc
  refine e_aload rfl rfl ?_
  refine e_aloadq rfl rfl ?_
  refine e_iload rfl rfl ?_
  refine e_ipush rfl ?_
  refine e_iadd rfl ?_
  refine e_sld rfl (sld_in (k := 1) hi hL (by decide)) ?_
  rw [show (nI i + 1).toNatClampNeg = i + 1 from sld_at (k := 1) hi hL (by decide)]
  refine e_aloadq rfl rfl ?_
  refine e_iload rfl rfl ?_
  refine e_ipush rfl ?_
  refine e_iadd rfl ?_
  refine e_sld rfl (sld_in (k := 2) hi hL (by decide)) ?_
  rw [show (nI i + 2).toNatClampNeg = i + 2 from sld_at (k := 2) hi hL (by decide)]
  refine Eg.call [.ref 0, .int (xs (i + 1)), .int (xs (i + 2))] [] rfl (by decide) (by decide) rfl rfl (Nat.le_of_ble_eq_true rfl) (xrcv_of rfl h0 rfl) (hc.mono (by omega)) (fun r1 h1 hq => ?_)
  obtain ⟨w, rfl, hs, hm⟩ := hq
  refine e_aload rfl rfl ?_
  refine e_aloadq rfl rfl ?_
  refine e_iload rfl rfl ?_
  refine e_ipush rfl ?_
  refine e_iadd rfl ?_
  refine e_sld rfl (sld_in (k := 1) hi hL (by decide)) ?_
  rw [show (nI i + 1).toNatClampNeg = i + 1 from sld_at (k := 1) hi hL (by decide)]
  refine e_aloadq rfl rfl ?_
  refine e_iload rfl rfl ?_
  refine e_ipush rfl ?_
  refine e_iadd rfl ?_
  refine e_sld rfl (sld_in (k := 2) hi hL (by decide)) ?_
  rw [show (nI i + 2).toNatClampNeg = i + 2 from sld_at (k := 2) hi hL (by decide)]
  refine Eg.call [.ref 290, .int (xs (i + 1)), .int (xs (i + 2))] [.int w] rfl (by decide) (by decide) rfl rfl (Nat.le_of_ble_eq_true rfl) (xrcv_of rfl hs rfl) (hm.mono (by omega)) (fun r2 h2 hq => ?_)
  obtain ⟨rfl, hI⟩ := hq
  refine e_ceq_t rfl rfl ?_
  exact kk h2 hI
theorem lc_18 (hi : i + 6 ≤ L) (hL : L ≤ 3072) (h0 : h.1[0]? = some (11, 13)) (hc : calls (L, xs, g) Inv h (xs (i + 1)) (xs (i + 2)) (xs (i + 3)) (xs (i + 4)) (xs (i + 5)) 18) (kk : ∀ h2, Inv h2 → Eg (L, xs, g) xTb 999 0 1336 [(3, .int (nI i)), (2, .ref 290), (1, .ref 0), (0, .retAddr 0)] [] h2 Q) : Eg (L, xs, g) xTb 999 0 738 [(3, .int (nI i)), (2, .ref 290), (1, .ref 0), (0, .retAddr 0)] [] h Q := by
  replace hc : callOK (L, xs, g) 157 279 [.int (xs (i + 1)), .int (xs (i + 2)), .int (xs (i + 3))] Inv h := hc
  refine e_aload rfl rfl ?_
  refine e_aloadq rfl rfl ?_
  refine e_iload rfl rfl ?_
  refine e_ipush rfl ?_
  refine e_iadd rfl ?_
  refine e_sld rfl (sld_in (k := 1) hi hL (by decide)) ?_
  rw [show (nI i + 1).toNatClampNeg = i + 1 from sld_at (k := 1) hi hL (by decide)]
  refine e_aloadq rfl rfl ?_
  refine e_iload rfl rfl ?_
  refine e_ipush rfl ?_
  refine e_iadd rfl ?_
  refine e_sld rfl (sld_in (k := 2) hi hL (by decide)) ?_
  rw [show (nI i + 2).toNatClampNeg = i + 2 from sld_at (k := 2) hi hL (by decide)]
  refine e_aloadq rfl rfl ?_
  refine e_iload rfl rfl ?_
  refine e_ipush rfl ?_
  refine e_iadd rfl ?_
  refine e_sld rfl (sld_in (k := 3) hi hL (by decide)) ?_
  rw [show (nI i + 3).toNatClampNeg = i + 3 from sld_at (k := 3) hi hL (by decide)]
  refine Eg.call [.ref 0, .int (xs (i + 1)), .int (xs (i + 2)), .int (xs (i + 3))] [] rfl (by decide) (by decide) rfl rfl (Nat.le_of_ble_eq_true rfl) (xrcv_of rfl h0 rfl) (hc.mono (by omega)) (fun r1 h1 hq => ?_)
  obtain ⟨w, rfl, hs, hm⟩ := hq
  refine e_aload rfl rfl ?_
  refine e_aloadq rfl rfl ?_
  refine e_iload rfl rfl ?_
  refine e_ipush rfl ?_
  refine e_iadd rfl ?_
  refine e_sld rfl (sld_in (k := 1) hi hL (by decide)) ?_
  rw [show (nI i + 1).toNatClampNeg = i + 1 from sld_at (k := 1) hi hL (by decide)]
  refine e_aloadq rfl rfl ?_
  refine e_iload rfl rfl ?_
  refine e_ipush rfl ?_
  refine e_iadd rfl ?_
  refine e_sld rfl (sld_in (k := 2) hi hL (by decide)) ?_
  rw [show (nI i + 2).toNatClampNeg = i + 2 from sld_at (k := 2) hi hL (by decide)]
  refine e_aloadq rfl rfl ?_
  refine e_iload rfl rfl ?_
  refine e_ipush rfl ?_
  refine e_iadd rfl ?_
  refine e_sld rfl (sld_in (k := 3) hi hL (by decide)) ?_
  rw [show (nI i + 3).toNatClampNeg = i + 3 from sld_at (k := 3) hi hL (by decide)]
  refine Eg.call [.ref 290, .int (xs (i + 1)), .int (xs (i + 2)), .int (xs (i + 3))] [.int w] rfl (by decide) (by decide) rfl rfl (Nat.le_of_ble_eq_true rfl) (xrcv_of rfl hs rfl) (hm.mono (by omega)) (fun r2 h2 hq => ?_)
  obtain ⟨rfl, hI⟩ := hq
  refine e_ceq_t rfl rfl ?_
  exact kk h2 hI
theorem lc_19 (hi : i + 6 ≤ L) (hL : L ≤ 3072) (h0 : h.1[0]? = some (11, 13)) (hc : calls (L, xs, g) Inv h (xs (i + 1)) (xs (i + 2)) (xs (i + 3)) (xs (i + 4)) (xs (i + 5)) 19) (kk : ∀ h2, Inv h2 → Eg (L, xs, g) xTb 999 0 1336 [(3, .int (nI i)), (2, .ref 290), (1, .ref 0), (0, .retAddr 0)] [] h2 Q) : Eg (L, xs, g) xTb 999 0 781 [(3, .int (nI i)), (2, .ref 290), (1, .ref 0), (0, .retAddr 0)] [] h Q := by
  replace hc : callOK (L, xs, g) 158 284 [.int (xs (i + 1)), .int (xs (i + 2)), .int (xs (i + 3)), .int (xs (i + 4))] Inv h := hc
  refine e_aload rfl rfl ?_
  refine e_aloadq rfl rfl ?_
  refine e_iload rfl rfl ?_
  refine e_ipush rfl ?_
  refine e_iadd rfl ?_
  refine e_sld rfl (sld_in (k := 1) hi hL (by decide)) ?_
  rw [show (nI i + 1).toNatClampNeg = i + 1 from sld_at (k := 1) hi hL (by decide)]
  refine e_aloadq rfl rfl ?_
  refine e_iload rfl rfl ?_
  refine e_ipush rfl ?_
  refine e_iadd rfl ?_
  refine e_sld rfl (sld_in (k := 2) hi hL (by decide)) ?_
  rw [show (nI i + 2).toNatClampNeg = i + 2 from sld_at (k := 2) hi hL (by decide)]
  refine e_aloadq rfl rfl ?_
  refine e_iload rfl rfl ?_
  refine e_ipush rfl ?_
  refine e_iadd rfl ?_
  refine e_sld rfl (sld_in (k := 3) hi hL (by decide)) ?_
  rw [show (nI i + 3).toNatClampNeg = i + 3 from sld_at (k := 3) hi hL (by decide)]
  refine e_aloadq rfl rfl ?_
  refine e_iload rfl rfl ?_
  refine e_ipush rfl ?_
  refine e_iadd rfl ?_
  refine e_sld rfl (sld_in (k := 4) hi hL (by decide)) ?_
  rw [show (nI i + 4).toNatClampNeg = i + 4 from sld_at (k := 4) hi hL (by decide)]
  refine Eg.call [.ref 0, .int (xs (i + 1)), .int (xs (i + 2)), .int (xs (i + 3)), .int (xs (i + 4))] [] rfl (by decide) (by decide) rfl rfl (Nat.le_of_ble_eq_true rfl) (xrcv_of rfl h0 rfl) (hc.mono (by omega)) (fun r1 h1 hq => ?_)
  obtain ⟨w, rfl, hs, hm⟩ := hq
  refine e_aload rfl rfl ?_
  refine e_aloadq rfl rfl ?_
  refine e_iload rfl rfl ?_
  refine e_ipush rfl ?_
  refine e_iadd rfl ?_
  refine e_sld rfl (sld_in (k := 1) hi hL (by decide)) ?_
  rw [show (nI i + 1).toNatClampNeg = i + 1 from sld_at (k := 1) hi hL (by decide)]
  refine e_aloadq rfl rfl ?_
  refine e_iload rfl rfl ?_
  refine e_ipush rfl ?_
  refine e_iadd rfl ?_
  refine e_sld rfl (sld_in (k := 2) hi hL (by decide)) ?_
  rw [show (nI i + 2).toNatClampNeg = i + 2 from sld_at (k := 2) hi hL (by decide)]
  refine e_aloadq rfl rfl ?_
  refine e_iload rfl rfl ?_
  refine e_ipush rfl ?_
  refine e_iadd rfl ?_
  refine e_sld rfl (sld_in (k := 3) hi hL (by decide)) ?_
  rw [show (nI i + 3).toNatClampNeg = i + 3 from sld_at (k := 3) hi hL (by decide)]
  refine e_aloadq rfl rfl ?_
  refine e_iload rfl rfl ?_
  refine e_ipush rfl ?_
  refine e_iadd rfl ?_
  refine e_sld rfl (sld_in (k := 4) hi hL (by decide)) ?_
  rw [show (nI i + 4).toNatClampNeg = i + 4 from sld_at (k := 4) hi hL (by decide)]
  refine Eg.call [.ref 290, .int (xs (i + 1)), .int (xs (i + 2)), .int (xs (i + 3)), .int (xs (i + 4))] [.int w] rfl (by decide) (by decide) rfl rfl (Nat.le_of_ble_eq_true rfl) (xrcv_of rfl hs rfl) (hm.mono (by omega)) (fun r2 h2 hq => ?_)
  obtain ⟨rfl, hI⟩ := hq
  refine e_ceq_t rfl rfl ?_
  exact kk h2 hI
theorem lc_20 (hi : i + 6 ≤ L) (hL : L ≤ 3072) (h0 : h.1[0]? = some (11, 13)) (hc : calls (L, xs, g) Inv h (xs (i + 1)) (xs (i + 2)) (xs (i + 3)) (xs (i + 4)) (xs (i + 5)) 20) (kk : ∀ h2, Inv h2 → Eg (L, xs, g) xTb 999 0 1336 [(3, .int (nI i)), (2, .ref 290), (1, .ref 0), (0, .retAddr 0)] [] h2 Q) : Eg (L, xs, g) xTb 999 0 834 [(3, .int (nI i)), (2, .ref 290), (1, .ref 0), (0, .retAddr 0)] [] h Q := by
  replace hc : callOK (L, xs, g) 159 285 [.int (xs (i + 1)), .int (if xs (i + 2) = 0 then 0 else 1)] Inv h := hc
  by_cases hb : xs (i + 2) = 0
  · rw [if_pos hb] at hc
    refine e_aload rfl rfl ?_
    refine e_aloadq rfl rfl ?_
    refine e_iload rfl rfl ?_
    refine e_ipush rfl ?_
    refine e_iadd rfl ?_
    refine e_sld rfl (sld_in (k := 1) hi hL (by decide)) ?_
    rw [show (nI i + 1).toNatClampNeg = i + 1 from sld_at (k := 1) hi hL (by decide)]
    refine e_aloadq rfl rfl ?_
    refine e_iload rfl rfl ?_
    refine e_ipush rfl ?_
    refine e_iadd rfl ?_
    refine e_sld rfl (sld_in (k := 2) hi hL (by decide)) ?_
    rw [show (nI i + 2).toNatClampNeg = i + 2 from sld_at (k := 2) hi hL (by decide)]
    refine e_ifeq_t rfl hb ?_
    refine e_ipush rfl ?_
    refine Eg.call [.ref 0, .int (xs (i + 1)), .int 0] [] rfl (by decide) (by decide) rfl rfl (Nat.le_of_ble_eq_true rfl) (xrcv_of rfl h0 rfl) (hc.mono (by omega)) (fun r1 h1 hq => ?_)
    obtain ⟨w, rfl, hs, hm⟩ := hq
    refine e_aload rfl rfl ?_
    refine e_aloadq rfl rfl ?_
    refine e_iload rfl rfl ?_
    refine e_ipush rfl ?_
    refine e_iadd rfl ?_
    refine e_sld rfl (sld_in (k := 1) hi hL (by decide)) ?_
    rw [show (nI i + 1).toNatClampNeg = i + 1 from sld_at (k := 1) hi hL (by decide)]
    refine e_aloadq rfl rfl ?_
    refine e_iload rfl rfl ?_
    refine e_ipush rfl ?_
    refine e_iadd rfl ?_
    refine e_sld rfl (sld_in (k := 2) hi hL (by decide)) ?_
    rw [show (nI i + 2).toNatClampNeg = i + 2 from sld_at (k := 2) hi hL (by decide)]
    refine e_ifeq_t rfl hb ?_
    refine e_ipush rfl ?_
    refine Eg.call [.ref 290, .int (xs (i + 1)), .int 0] [.int w] rfl (by decide) (by decide) rfl rfl (Nat.le_of_ble_eq_true rfl) (xrcv_of rfl hs rfl) (hm.mono (by omega)) (fun r2 h2 hq => ?_)
    obtain ⟨rfl, hI⟩ := hq
    refine e_ceq_t rfl rfl ?_
    exact kk h2 hI
  · rw [if_neg hb] at hc
    refine e_aload rfl rfl ?_
    refine e_aloadq rfl rfl ?_
    refine e_iload rfl rfl ?_
    refine e_ipush rfl ?_
    refine e_iadd rfl ?_
    refine e_sld rfl (sld_in (k := 1) hi hL (by decide)) ?_
    rw [show (nI i + 1).toNatClampNeg = i + 1 from sld_at (k := 1) hi hL (by decide)]
    refine e_aloadq rfl rfl ?_
    refine e_iload rfl rfl ?_
    refine e_ipush rfl ?_
    refine e_iadd rfl ?_
    refine e_sld rfl (sld_in (k := 2) hi hL (by decide)) ?_
    rw [show (nI i + 2).toNatClampNeg = i + 2 from sld_at (k := 2) hi hL (by decide)]
    refine e_ifeq_f rfl hb ?_
    refine e_ipush rfl ?_
    refine e_goto rfl ?_
    refine Eg.call [.ref 0, .int (xs (i + 1)), .int 1] [] rfl (by decide) (by decide) rfl rfl (Nat.le_of_ble_eq_true rfl) (xrcv_of rfl h0 rfl) (hc.mono (by omega)) (fun r1 h1 hq => ?_)
    obtain ⟨w, rfl, hs, hm⟩ := hq
    refine e_aload rfl rfl ?_
    refine e_aloadq rfl rfl ?_
    refine e_iload rfl rfl ?_
    refine e_ipush rfl ?_
    refine e_iadd rfl ?_
    refine e_sld rfl (sld_in (k := 1) hi hL (by decide)) ?_
    rw [show (nI i + 1).toNatClampNeg = i + 1 from sld_at (k := 1) hi hL (by decide)]
    refine e_aloadq rfl rfl ?_
    refine e_iload rfl rfl ?_
    refine e_ipush rfl ?_
    refine e_iadd rfl ?_
    refine e_sld rfl (sld_in (k := 2) hi hL (by decide)) ?_
    rw [show (nI i + 2).toNatClampNeg = i + 2 from sld_at (k := 2) hi hL (by decide)]
    refine e_ifeq_f rfl hb ?_
    refine e_ipush rfl ?_
    refine e_goto rfl ?_
    refine Eg.call [.ref 290, .int (xs (i + 1)), .int 1] [.int w] rfl (by decide) (by decide) rfl rfl (Nat.le_of_ble_eq_true rfl) (xrcv_of rfl hs rfl) (hm.mono (by omega)) (fun r2 h2 hq => ?_)
    obtain ⟨rfl, hI⟩ := hq
    refine e_ceq_t rfl rfl ?_
    exact kk h2 hI
theorem lc_21 (hi : i + 6 ≤ L) (hL : L ≤ 3072) (h0 : h.1[0]? = some (11, 13)) (hc : calls (L, xs, g) Inv h (xs (i + 1)) (xs (i + 2)) (xs (i + 3)) (xs (i + 4)) (xs (i + 5)) 21) (kk : ∀ h2, Inv h2 → Eg (L, xs, g) xTb 999 0 1336 [(3, .int (nI i)), (2, .ref 290), (1, .ref 0), (0, .retAddr 0)] [] h2 Q) : Eg (L, xs, g) xTb 999 0 883 [(3, .int (nI i)), (2, .ref 290), (1, .ref 0), (0, .retAddr 0)] [] h Q := by
  replace hc : callOK (L, xs, g) 160 288 [.int (xs (i + 1))] Inv h := hc
  refine e_aload rfl rfl ?_
  refine e_aloadq rfl rfl ?_
  refine e_iload rfl rfl ?_
  refine e_ipush rfl ?_
  refine e_iadd rfl ?_
  refine e_sld rfl (sld_in (k := 1) hi hL (by decide)) ?_
  rw [show (nI i + 1).toNatClampNeg = i + 1 from sld_at (k := 1) hi hL (by decide)]
  refine Eg.call [.ref 0, .int (xs (i + 1))] [] rfl (by decide) (by decide) rfl rfl (Nat.le_of_ble_eq_true rfl) (xrcv_of rfl h0 rfl) (hc.mono (by omega)) (fun r1 h1 hq => ?_)
  obtain ⟨w, rfl, hs, hm⟩ := hq
  refine e_aload rfl rfl ?_
  refine e_aloadq rfl rfl ?_
  refine e_iload rfl rfl ?_
  refine e_ipush rfl ?_
  refine e_iadd rfl ?_
  refine e_sld rfl (sld_in (k := 1) hi hL (by decide)) ?_
  rw [show (nI i + 1).toNatClampNeg = i + 1 from sld_at (k := 1) hi hL (by decide)]
  refine Eg.call [.ref 290, .int (xs (i + 1))] [.int w] rfl (by decide) (by decide) rfl rfl (Nat.le_of_ble_eq_true rfl) (xrcv_of rfl hs rfl) (hm.mono (by omega)) (fun r2 h2 hq => ?_)
  obtain ⟨rfl, hI⟩ := hq
  refine e_ceq_t rfl rfl ?_
  exact kk h2 hI
theorem lc_22 (hi : i + 6 ≤ L) (hL : L ≤ 3072) (h0 : h.1[0]? = some (11, 13)) (hc : calls (L, xs, g) Inv h (xs (i + 1)) (xs (i + 2)) (xs (i + 3)) (xs (i + 4)) (xs (i + 5)) 22) (kk : ∀ h2, Inv h2 → Eg (L, xs, g) xTb 999 0 1336 [(3, .int (nI i)), (2, .ref 290), (1, .ref 0), (0, .retAddr 0)] [] h2 Q) : Eg (L, xs, g) xTb 999 0 906 [(3, .int (nI i)), (2, .ref 290), (1, .ref 0), (0, .retAddr 0)] [] h Q := by
  replace hc : callOK (L, xs, g) 161 289 [.int (xs (i + 1))] Inv h := hc
  refine e_aload rfl rfl ?_
  refine e_aloadq rfl rfl ?_
  refine e_iload rfl rfl ?_
  refine e_ipush rfl ?_
  refine e_iadd rfl ?_
  refine e_sld rfl (sld_in (k := 1) hi hL (by decide)) ?_
  rw [show (nI i + 1).toNatClampNeg = i + 1 from sld_at (k := 1) hi hL (by decide)]
  refine Eg.call [.ref 0, .int (xs (i + 1))] [] rfl (by decide) (by decide) rfl rfl (Nat.le_of_ble_eq_true rfl) (xrcv_of rfl h0 rfl) (hc.mono (by omega)) (fun r1 h1 hq => ?_)
  obtain ⟨w, rfl, hs, hm⟩ := hq
  refine e_aload rfl rfl ?_
  refine e_aloadq rfl rfl ?_
  refine e_iload rfl rfl ?_
  refine e_ipush rfl ?_
  refine e_iadd rfl ?_
  refine e_sld rfl (sld_in (k := 1) hi hL (by decide)) ?_
  rw [show (nI i + 1).toNatClampNeg = i + 1 from sld_at (k := 1) hi hL (by decide)]
  refine Eg.call [.ref 290, .int (xs (i + 1))] [.int w] rfl (by decide) (by decide) rfl rfl (Nat.le_of_ble_eq_true rfl) (xrcv_of rfl hs rfl) (hm.mono (by omega)) (fun r2 h2 hq => ?_)
  obtain ⟨rfl, hI⟩ := hq
  refine e_ceq_t rfl rfl ?_
  exact kk h2 hI
theorem lc_23 (hi : i + 6 ≤ L) (hL : L ≤ 3072) (h0 : h.1[0]? = some (11, 13)) (hc : calls (L, xs, g) Inv h (xs (i + 1)) (xs (i + 2)) (xs (i + 3)) (xs (i + 4)) (xs (i + 5)) 23) (kk : ∀ h2, Inv h2 → Eg (L, xs, g) xTb 999 0 1336 [(3, .int (nI i)), (2, .ref 290), (1, .ref 0), (0, .retAddr 0)] [] h2 Q) : Eg (L, xs, g) xTb 999 0 929 [(3, .int (nI i)), (2, .ref 290), (1, .ref 0), (0, .retAddr 0)] [] h Q := by
  replace hc : callOK (L, xs, g) 162 291 [.int (xs (i + 1)), .int (xs (i + 2))] Inv h := hc
  refine e_aload rfl rfl ?_
  refine e_aloadq rfl rfl ?_
  refine e_iload rfl rfl ?_
  refine e_ipush rfl ?_
  refine e_iadd rfl ?_
  refine e_sld rfl (sld_in (k := 1) hi hL (by decide)) ?_
  rw [show (nI i + 1).toNatClampNeg = i + 1 from sld_at (k := 1) hi hL (by decide)]
  refine e_aloadq rfl rfl ?_
  refine e_iload rfl rfl ?_
  refine e_ipush rfl ?_
  refine e_iadd rfl ?_
  refine e_sld rfl (sld_in (k := 2) hi hL (by decide)) ?_
  rw [show (nI i + 2).toNatClampNeg = i + 2 from sld_at (k := 2) hi hL (by decide)]
  refine Eg.call [.ref 0, .int (xs (i + 1)), .int (xs (i + 2))] [] rfl (by decide) (by decide) rfl rfl (Nat.le_of_ble_eq_true rfl) (xrcv_of rfl h0 rfl) (hc.mono (by omega)) (fun r1 h1 hq => ?_)
  obtain ⟨w, rfl, hs, hm⟩ := hq
  refine e_aload rfl rfl ?_
  refine e_aloadq rfl rfl ?_
  refine e_iload rfl rfl ?_
  refine e_ipush rfl ?_
  refine e_iadd rfl ?_
  refine e_sld rfl (sld_in (k := 1) hi hL (by decide)) ?_
  rw [show (nI i + 1).toNatClampNeg = i + 1 from sld_at (k := 1) hi hL (by decide)]
  refine e_aloadq rfl rfl ?_
  refine e_iload rfl rfl ?_
  refine e_ipush rfl ?_
  refine e_iadd rfl ?_
  refine e_sld rfl (sld_in (k := 2) hi hL (by decide)) ?_
  rw [show (nI i + 2).toNatClampNeg = i + 2 from sld_at (k := 2) hi hL (by decide)]
  refine Eg.call [.ref 290, .int (xs (i + 1)), .int (xs (i + 2))] [.int w] rfl (by decide) (by decide) rfl rfl (Nat.le_of_ble_eq_true rfl) (xrcv_of rfl hs rfl) (hm.mono (by omega)) (fun r2 h2 hq => ?_)
  obtain ⟨rfl, hI⟩ := hq
  refine e_ceq_t rfl rfl ?_
  exact kk h2 hI
theorem lc_24 (hi : i + 6 ≤ L) (hL : L ≤ 3072) (h0 : h.1[0]? = some (11, 13)) (hc : calls (L, xs, g) Inv h (xs (i + 1)) (xs (i + 2)) (xs (i + 3)) (xs (i + 4)) (xs (i + 5)) 24) (kk : ∀ h2, Inv h2 → Eg (L, xs, g) xTb 999 0 1336 [(3, .int (nI i)), (2, .ref 290), (1, .ref 0), (0, .retAddr 0)] [] h2 Q) : Eg (L, xs, g) xTb 999 0 962 [(3, .int (nI i)), (2, .ref 290), (1, .ref 0), (0, .retAddr 0)] [] h Q := by
  replace hc : callOK (L, xs, g) 163 292 [.int (xs (i + 1)), .int (xs (i + 2)), .int (xs (i + 3))] Inv h := hc
  refine e_aload rfl rfl ?_
  refine e_aloadq rfl rfl ?_
  refine e_iload rfl rfl ?_
  refine e_ipush rfl ?_
  refine e_iadd rfl ?_
  refine e_sld rfl (sld_in (k := 1) hi hL (by decide)) ?_
  rw [show (nI i + 1).toNatClampNeg = i + 1 from sld_at (k := 1) hi hL (by decide)]
  refine e_aloadq rfl rfl ?_
  refine e_iload rfl rfl ?_
  refine e_ipush rfl ?_
  refine e_iadd rfl ?_
  refine e_sld rfl (sld_in (k := 2) hi hL (by decide)) ?_
  rw [show (nI i + 2).toNatClampNeg = i + 2 from sld_at (k := 2) hi hL (by decide)]
  refine e_aloadq rfl rfl ?_
  refine e_iload rfl rfl ?_
  refine e_ipush rfl ?_
  refine e_iadd rfl ?_
  refine e_sld rfl (sld_in (k := 3) hi hL (by decide)) ?_
  rw [show (nI i + 3).toNatClampNeg = i + 3 from sld_at (k := 3) hi hL (by decide)]
  refine Eg.call [.ref 0, .int (xs (i + 1)), .int (xs (i + 2)), .int (xs (i + 3))] [] rfl (by decide) (by decide) rfl rfl (Nat.le_of_ble_eq_true rfl) (xrcv_of rfl h0 rfl) (hc.mono (by omega)) (fun r1 h1 hq => ?_)
  obtain ⟨w, rfl, hs, hm⟩ := hq
  refine e_aload rfl rfl ?_
  refine e_aloadq rfl rfl ?_
  refine e_iload rfl rfl ?_
  refine e_ipush rfl ?_
  refine e_iadd rfl ?_
  refine e_sld rfl (sld_in (k := 1) hi hL (by decide)) ?_
  rw [show (nI i + 1).toNatClampNeg = i + 1 from sld_at (k := 1) hi hL (by decide)]
  refine e_aloadq rfl rfl ?_
  refine e_iload rfl rfl ?_
  refine e_ipush rfl ?_
  refine e_iadd rfl ?_
  refine e_sld rfl (sld_in (k := 2) hi hL (by decide)) ?_
  rw [show (nI i + 2).toNatClampNeg = i + 2 from sld_at (k := 2) hi hL (by decide)]
  refine e_aloadq rfl rfl ?_
  refine e_iload rfl rfl ?_
  refine e_ipush rfl ?_
  refine e_iadd rfl ?_
  refine e_sld rfl (sld_in (k := 3) hi hL (by decide)) ?_
  rw [show (nI i + 3).toNatClampNeg = i + 3 from sld_at (k := 3) hi hL (by decide)]
  refine Eg.call [.ref 290, .int (xs (i + 1)), .int (xs (i + 2)), .int (xs (i + 3))] [.int w] rfl (by decide) (by decide) rfl rfl (Nat.le_of_ble_eq_true rfl) (xrcv_of rfl hs rfl) (hm.mono (by omega)) (fun r2 h2 hq => ?_)
  obtain ⟨rfl, hI⟩ := hq
  refine e_ceq_t rfl rfl ?_
  exact kk h2 hI
theorem lc_25 (hi : i + 6 ≤ L) (hL : L ≤ 3072) (h0 : h.1[0]? = some (11, 13)) (hc : calls (L, xs, g) Inv h (xs (i + 1)) (xs (i + 2)) (xs (i + 3)) (xs (i + 4)) (xs (i + 5)) 25) (kk : ∀ h2, Inv h2 → Eg (L, xs, g) xTb 999 0 1336 [(3, .int (nI i)), (2, .ref 290), (1, .ref 0), (0, .retAddr 0)] [] h2 Q) : Eg (L, xs, g) xTb 999 0 1005 [(3, .int (nI i)), (2, .ref 290), (1, .ref 0), (0, .retAddr 0)] [] h Q := by
  replace hc : callOK (L, xs, g) 164 294 [.int (xs (i + 1)), .int (xs (i + 2))] Inv h := hc
  refine e_aload rfl rfl ?_
  refine e_aloadq rfl rfl ?_
  refine e_iload rfl rfl ?_
  refine e_ipush rfl ?_
  refine e_iadd rfl ?_
  refine e_sld rfl (sld_in (k := 1) hi hL (by decide)) ?_
  rw [show (nI i + 1).toNatClampNeg = i + 1 from sld_at (k := 1) hi hL (by decide)]
  refine e_aloadq rfl rfl ?_
  refine e_iload rfl rfl ?_
  refine e_ipush rfl ?_
  refine e_iadd rfl ?_
  refine e_sld rfl (sld_in (k := 2) hi hL (by decide)) ?_
  rw [show (nI i + 2).toNatClampNeg = i + 2 from sld_at (k := 2) hi hL (by decide)]
  refine Eg.call [.ref 0, .int (xs (i + 1)), .int (xs (i + 2))] [] rfl (by decide) (by decide) rfl rfl (Nat.le_of_ble_eq_true rfl) (xrcv_of rfl h0 rfl) (hc.mono (by omega)) (fun r1 h1 hq => ?_)
  obtain ⟨w, rfl, hs, hm⟩ := hq
  refine e_aload rfl rfl ?_
  refine e_aloadq rfl rfl ?_
  refine e_iload rfl rfl ?_
  refine e_ipush rfl ?_
  refine e_iadd rfl ?_
  refine e_sld rfl (sld_in (k := 1) hi hL (by decide)) ?_
  rw [show (nI i + 1).toNatClampNeg = i + 1 from sld_at (k := 1) hi hL (by decide)]
  refine e_aloadq rfl rfl ?_
  refine e_iload rfl rfl ?_
  refine e_ipush rfl ?_
  refine e_iadd rfl ?_
  refine e_sld rfl (sld_in (k := 2) hi hL (by decide)) ?_
  rw [show (nI i + 2).toNatClampNeg = i + 2 from sld_at (k := 2) hi hL (by decide)]
  refine Eg.call [.ref 290, .int (xs (i + 1)), .int (xs (i + 2))] [.int w] rfl (by decide) (by decide) rfl rfl (Nat.le_of_ble_eq_true rfl) (xrcv_of rfl hs rfl) (hm.mono (by omega)) (fun r2 h2 hq => ?_)
  obtain ⟨rfl, hI⟩ := hq
  refine e_ceq_t rfl rfl ?_
  exact kk h2 hI
theorem lc_26 (hi : i + 6 ≤ L) (hL : L ≤ 3072) (h0 : h.1[0]? = some (11, 13)) (hc : calls (L, xs, g) Inv h (xs (i + 1)) (xs (i + 2)) (xs (i + 3)) (xs (i + 4)) (xs (i + 5)) 26) (kk : ∀ h2, Inv h2 → Eg (L, xs, g) xTb 999 0 1336 [(3, .int (nI i)), (2, .ref 290), (1, .ref 0), (0, .retAddr 0)] [] h2 Q) : Eg (L, xs, g) xTb 999 0 1038 [(3, .int (nI i)), (2, .ref 290), (1, .ref 0), (0, .retAddr 0)] [] h Q := by
  replace hc : callOK (L, xs, g) 165 295 [.int (xs (i + 1)), .int (xs (i + 2)), .int (xs (i + 3))] Inv h := hc
  refine e_aload rfl rfl ?_
  refine e_aloadq rfl rfl ?_
  refine e_iload rfl rfl ?_
  refine e_ipush rfl ?_
  refine e_iadd rfl ?_
  refine e_sld rfl (sld_in (k := 1) hi hL (by decide)) ?_
  rw [show (nI i + 1).toNatClampNeg = i + 1 from sld_at (k := 1) hi hL (by decide)]
  refine e_aloadq rfl rfl ?_
  refine e_iload rfl rfl ?_
  refine e_ipush rfl ?_
  refine e_iadd rfl ?_
  refine e_sld rfl (sld_in (k := 2) hi hL (by decide)) ?_
  rw [show (nI i + 2).toNatClampNeg = i + 2 from sld_at (k := 2) hi hL (by decide)]
  refine e_aloadq rfl rfl ?_
  refine e_iload rfl rfl ?_
  refine e_ipush rfl ?_
  refine e_iadd rfl ?_
  refine e_sld rfl (sld_in (k := 3) hi hL (by decide)) ?_
  rw [show (nI i + 3).toNatClampNeg = i + 3 from sld_at (k := 3) hi hL (by decide)]
  refine Eg.call [.ref 0, .int (xs (i + 1)), .int (xs (i + 2)), .int (xs (i + 3))] [] rfl (by decide) (by decide) rfl rfl (Nat.le_of_ble_eq_true rfl) (xrcv_of rfl h0 rfl) (hc.mono (by omega)) (fun r1 h1 hq => ?_)
  obtain ⟨w, rfl, hs, hm⟩ := hq
  refine e_aload rfl rfl ?_
  refine e_aloadq rfl rfl ?_
  refine e_iload rfl rfl ?_
  refine e_ipush rfl ?_
  refine e_iadd rfl ?_
  refine e_sld rfl (sld_in (k := 1) hi hL (by decide)) ?_
  rw [show (nI i + 1).toNatClampNeg = i + 1 from sld_at (k := 1) hi hL (by decide)]
  refine e_aloadq rfl rfl ?_
  refine e_iload rfl rfl ?_
  refine e_ipush rfl ?_
  refine e_iadd rfl ?_
  refine e_sld rfl (sld_in (k := 2) hi hL (by decide)) ?_
  rw [show (nI i + 2).toNatClampNeg = i + 2 from sld_at (k := 2) hi hL (by decide)]
  refine e_aloadq rfl rfl ?_
  refine e_iload rfl rfl ?_
  refine e_ipush rfl ?_
  refine e_iadd rfl ?_
  refine e_sld rfl (sld_in (k := 3) hi hL (by decide)) ?_
  rw [show (nI i + 3).toNatClampNeg = i + 3 from sld_at (k := 3) hi hL (by decide)]
  refine Eg.call [.ref 290, .int (xs (i + 1)), .int (xs (i + 2)), .int (xs (i + 3))] [.int w] rfl (by decide) (by decide) rfl rfl (Nat.le_of_ble_eq_true rfl) (xrcv_of rfl hs rfl) (hm.mono (by omega)) (fun r2 h2 hq => ?_)
  obtain ⟨rfl, hI⟩ := hq
  refine e_ceq_t rfl rfl ?_
  exact kk h2 hI
theorem lc_27 (hi : i + 6 ≤ L) (hL : L ≤ 3072) (h0 : h.1[0]? = some (11, 13)) (hc : calls (L, xs, g) Inv h (xs (i + 1)) (xs (i + 2)) (xs (i + 3)) (xs (i + 4)) (xs (i + 5)) 27) (kk : ∀ h2, Inv h2 → Eg (L, xs, g) xTb 999 0 1336 [(3, .int (nI i)), (2, .ref 290), (1, .ref 0), (0, .retAddr 0)] [] h2 Q) : Eg (L, xs, g) xTb 999 0 1081 [(3, .int (nI i)), (2, .ref 290), (1, .ref 0), (0, .retAddr 0)] [] h Q := by
  replace hc : callOK (L, xs, g) 166 296 [.int (xs (i + 1)), .int (xs (i + 2)), .int (xs (i + 3))] Inv h := hc
  refine e_aload rfl rfl ?_
  refine e_aloadq rfl rfl ?_
  refine e_iload rfl rfl ?_
  refine e_ipush rfl ?_
  refine e_iadd rfl ?_
  refine e_sld rfl (sld_in (k := 1) hi hL (by decide)) ?_
  rw [show (nI i + 1).toNatClampNeg = i + 1 from sld_at (k := 1) hi hL (by decide)]
  refine e_aloadq rfl rfl ?_
  refine e_iload rfl rfl ?_
  refine e_ipush rfl ?_
  refine e_iadd rfl ?_
  refine e_sld rfl (sld_in (k := 2) hi hL (by decide)) ?_
  rw [show (nI i + 2).toNatClampNeg = i + 2 from sld_at (k := 2) hi hL (by decide)]
  refine e_aloadq rfl rfl ?_
  refine e_iload rfl rfl ?_
  refine e_ipush rfl ?_
  refine e_iadd rfl ?_
  refine e_sld rfl (sld_in (k := 3) hi hL (by decide)) ?_
  rw [show (nI i + 3).toNatClampNeg = i + 3 from sld_at (k := 3) hi hL (by decide)]
  refine Eg.call [.ref 0, .int (xs (i + 1)), .int (xs (i + 2)), .int (xs (i + 3))] [] rfl (by decide) (by decide) rfl rfl (Nat.le_of_ble_eq_true rfl) (xrcv_of rfl h0 rfl) (hc.mono (by omega)) (fun r1 h1 hq => ?_)
  obtain ⟨w, rfl, hs, hm⟩ := hq
  refine e_aload rfl rfl ?_
  refine e_aloadq rfl rfl ?_
  refine e_iload rfl rfl ?_
  refine e_ipush rfl ?_
  refine e_iadd rfl ?_
  refine e_sld rfl (sld_in (k := 1) hi hL (by decide)) ?_
  rw [show (nI i + 1).toNatClampNeg = i + 1 from sld_at (k := 1) hi hL (by decide)]
  refine e_aloadq rfl rfl ?_
  refine e_iload rfl rfl ?_
  refine e_ipush rfl ?_
  refine e_iadd rfl ?_
  refine e_sld rfl (sld_in (k := 2) hi hL (by decide)) ?_
  rw [show (nI i + 2).toNatClampNeg = i + 2 from sld_at (k := 2) hi hL (by decide)]
  refine e_aloadq rfl rfl ?_
  refine e_iload rfl rfl ?_
  refine e_ipush rfl ?_
  refine e_iadd rfl ?_
  refine e_sld rfl (sld_in (k := 3) hi hL (by decide)) ?_
  rw [show (nI i + 3).toNatClampNeg = i + 3 from sld_at (k := 3) hi hL (by decide)]
  refine Eg.call [.ref 290, .int (xs (i + 1)), .int (xs (i + 2)), .int (xs (i + 3))] [.int w] rfl (by decide) (by decide) rfl rfl (Nat.le_of_ble_eq_true rfl) (xrcv_of rfl hs rfl) (hm.mono (by omega)) (fun r2 h2 hq => ?_)
  obtain ⟨rfl, hI⟩ := hq
  refine e_ceq_t rfl rfl ?_
  exact kk h2 hI
theorem lc_28 (hi : i + 6 ≤ L) (hL : L ≤ 3072) (h0 : h.1[0]? = some (11, 13)) (hc : calls (L, xs, g) Inv h (xs (i + 1)) (xs (i + 2)) (xs (i + 3)) (xs (i + 4)) (xs (i + 5)) 28) (kk : ∀ h2, Inv h2 → Eg (L, xs, g) xTb 999 0 1336 [(3, .int (nI i)), (2, .ref 290), (1, .ref 0), (0, .retAddr 0)] [] h2 Q) : Eg (L, xs, g) xTb 999 0 1124 [(3, .int (nI i)), (2, .ref 290), (1, .ref 0), (0, .retAddr 0)] [] h Q := by
  replace hc : callOK (L, xs, g) 167 298 [.int (xs (i + 1))] Inv h := hc
  refine e_aload rfl rfl ?_
  refine e_aloadq rfl rfl ?_
  refine e_iload rfl rfl ?_
  refine e_ipush rfl ?_
  refine e_iadd rfl ?_
  refine e_sld rfl (sld_in (k := 1) hi hL (by decide)) ?_
  rw [show (nI i + 1).toNatClampNeg = i + 1 from sld_at (k := 1) hi hL (by decide)]
  refine Eg.call [.ref 0, .int (xs (i + 1))] [] rfl (by decide) (by decide) rfl rfl (Nat.le_of_ble_eq_true rfl) (xrcv_of rfl h0 rfl) (hc.mono (by omega)) (fun r1 h1 hq => ?_)
  obtain ⟨w, rfl, hs, hm⟩ := hq
  refine e_aload rfl rfl ?_
  refine e_aloadq rfl rfl ?_
  refine e_iload rfl rfl ?_
  refine e_ipush rfl ?_
  refine e_iadd rfl ?_
  refine e_sld rfl (sld_in (k := 1) hi hL (by decide)) ?_
  rw [show (nI i + 1).toNatClampNeg = i + 1 from sld_at (k := 1) hi hL (by decide)]
  refine Eg.call [.ref 290, .int (xs (i + 1))] [.int w] rfl (by decide) (by decide) rfl rfl (Nat.le_of_ble_eq_true rfl) (xrcv_of rfl hs rfl) (hm.mono (by omega)) (fun r2 h2 hq => ?_)
  obtain ⟨rfl, hI⟩ := hq
  refine e_ceq_t rfl rfl ?_
  exact kk h2 hI
theorem lc_29 (hi : i + 6 ≤ L) (hL : L ≤ 3072) (h0 : h.1[0]? = some (11, 13)) (hc : calls (L, xs, g) Inv h (xs (i + 1)) (xs (i + 2)) (xs (i + 3)) (xs (i + 4)) (xs (i + 5)) 29) (kk : ∀ h2, Inv h2 → Eg (L, xs, g) xTb 999 0 1336 [(3, .int (nI i)), (2, .ref 290), (1, .ref 0), (0, .retAddr 0)] [] h2 Q) : Eg (L, xs, g) xTb 999 0 1147 [(3, .int (nI i)), (2, .ref 290), (1, .ref 0), (0, .retAddr 0)] [] h Q := by
  replace hc : callOKl (L, xs, g) 168 300 [.int (xs (i + 1)), .int (xs (i + 2)), .int (xs (i + 3))] Inv h := hc
  refine e_aload rfl rfl ?_
  refine e_aloadq rfl rfl ?_
  refine e_iload rfl rfl ?_
  refine e_ipush rfl ?_
  refine e_iadd rfl ?_
  refine e_sld rfl (sld_in (k := 1) hi hL (by decide)) ?_
  rw [show (nI i + 1).toNatClampNeg = i + 1 from sld_at (k := 1) hi hL (by decide)]
  refine e_aloadq rfl rfl ?_
  refine e_iload rfl rfl ?_
  refine e_ipush rfl ?_
  refine e_iadd rfl ?_
  refine e_sld rfl (sld_in (k := 2) hi hL (by decide)) ?_
  rw [show (nI i + 2).toNatClampNeg = i + 2 from sld_at (k := 2) hi hL (by decide)]
  refine e_aloadq rfl rfl ?_
  refine e_iload rfl rfl ?_
  refine e_ipush rfl ?_
  refine e_iadd rfl ?_
  refine e_sld rfl (sld_in (k := 3) hi hL (by decide)) ?_
  rw [show (nI i + 3).toNatClampNeg = i + 3 from sld_at (k := 3) hi hL (by decide)]
  refine Eg.call [.ref 0, .int (xs (i + 1)), .int (xs (i + 2)), .int (xs (i + 3))] [] rfl (by decide) (by decide) rfl rfl (Nat.le_of_ble_eq_true rfl) (xrcv_of rfl h0 rfl) (hc.mono (by omega)) (fun r1 h1 hq => ?_)
  obtain ⟨w, rfl, hs, hm⟩ := hq
  refine e_aload rfl rfl ?_
  refine e_aloadq rfl rfl ?_
  refine e_iload rfl rfl ?_
  refine e_ipush rfl ?_
  refine e_iadd rfl ?_
  refine e_sld rfl (sld_in (k := 1) hi hL (by decide)) ?_
  rw [show (nI i + 1).toNatClampNeg = i + 1 from sld_at (k := 1) hi hL (by decide)]
  refine e_aloadq rfl rfl ?_
  refine e_iload rfl rfl ?_
  refine e_ipush rfl ?_
  refine e_iadd rfl ?_
  refine e_sld rfl (sld_in (k := 2) hi hL (by decide)) ?_
  rw [show (nI i + 2).toNatClampNeg = i + 2 from sld_at (k := 2) hi hL (by decide)]
  refine e_aloadq rfl rfl ?_
  refine e_iload rfl rfl ?_
  refine e_ipush rfl ?_
  refine e_iadd rfl ?_
  refine e_sld rfl (sld_in (k := 3) hi hL (by decide)) ?_
  rw [show (nI i + 3).toNatClampNeg = i + 3 from sld_at (k := 3) hi hL (by decide)]
  refine Eg.call [.ref 290, .int (xs (i + 1)), .int (xs (i + 2)), .int (xs (i + 3))] [.long w] rfl (by decide) (by decide) rfl rfl (Nat.le_of_ble_eq_true rfl) (xrcv_of rfl hs rfl) (hm.mono (by omega)) (fun r2 h2 hq => ?_)
  obtain ⟨rfl, hI⟩ := hq
  refine e_lcmp rfl ?_
  refine e_ifeq_t rfl (lg_cmp_self w) ?_
  exact kk h2 hI
theorem lc_30 (hi : i + 6 ≤ L) (hL : L ≤ 3072) (h0 : h.1[0]? = some (11, 13)) (hc : calls (L, xs, g) Inv h (xs (i + 1)) (xs (i + 2)) (xs (i + 3)) (xs (i + 4)) (xs (i + 5)) 30) (kk : ∀ h2, Inv h2 → Eg (L, xs, g) xTb 999 0 1336 [(3, .int (nI i)), (2, .ref 290), (1, .ref 0), (0, .retAddr 0)] [] h2 Q) : Eg (L, xs, g) xTb 999 0 1191 [(3, .int (nI i)), (2, .ref 290), (1, .ref 0), (0, .retAddr 0)] [] h Q := by
  replace hc : callOK (L, xs, g) 169 301 [.int (xs (i + 1))] Inv h := hc
  refine e_aload rfl rfl ?_
  refine e_aloadq rfl rfl ?_
  refine e_iload rfl rfl ?_
  refine e_ipush rfl ?_
  refine e_iadd rfl ?_
  refine e_sld rfl (sld_in (k := 1) hi hL (by decide)) ?_
  rw [show (nI i + 1).toNatClampNeg = i + 1 from sld_at (k := 1) hi hL (by decide)]
  refine Eg.call [.ref 0, .int (xs (i + 1))] [] rfl (by decide) (by decide) rfl rfl (Nat.le_of_ble_eq_true rfl) (xrcv_of rfl h0 rfl) (hc.mono (by omega)) (fun r1 h1 hq => ?_)
  obtain ⟨w, rfl, hs, hm⟩ := hq
  refine e_aload rfl rfl ?_
  refine e_aloadq rfl rfl ?_
  refine e_iload rfl rfl ?_
  refine e_ipush rfl ?_
  refine e_iadd rfl ?_
  refine e_sld rfl (sld_in (k := 1) hi hL (by decide)) ?_
  rw [show (nI i + 1).toNatClampNeg = i + 1 from sld_at (k := 1) hi hL (by decide)]
  refine Eg.call [.ref 290, .int (xs (i + 1))] [.int w] rfl (by decide) (by decide) rfl rfl (Nat.le_of_ble_eq_true rfl) (xrcv_of rfl hs rfl) (hm.mono (by omega)) (fun r2 h2 hq => ?_)
  obtain ⟨rfl, hI⟩ := hq
  refine e_ceq_t rfl rfl ?_
  exact kk h2 hI
theorem lc_31 (hi : i + 6 ≤ L) (hL : L ≤ 3072) (h0 : h.1[0]? = some (11, 13)) (hc : calls (L, xs, g) Inv h (xs (i + 1)) (xs (i + 2)) (xs (i + 3)) (xs (i + 4)) (xs (i + 5)) 31) (kk : ∀ h2, Inv h2 → Eg (L, xs, g) xTb 999 0 1336 [(3, .int (nI i)), (2, .ref 290), (1, .ref 0), (0, .retAddr 0)] [] h2 Q) : Eg (L, xs, g) xTb 999 0 1214 [(3, .int (nI i)), (2, .ref 290), (1, .ref 0), (0, .retAddr 0)] [] h Q := by
  replace hc : callOK (L, xs, g) 170 306 [.int (xs (i + 1)), .int (xs (i + 2)), .int (xs (i + 3)), .int (xs (i + 4))] Inv h := hc
  refine e_aload rfl rfl ?_
  refine e_aloadq rfl rfl ?_
  refine e_iload rfl rfl ?_
  refine e_ipush rfl ?_
  refine e_iadd rfl ?_
  refine e_sld rfl (sld_in (k := 1) hi hL (by decide)) ?_
  rw [show (nI i + 1).toNatClampNeg = i + 1 from sld_at (k := 1) hi hL (by decide)]
  refine e_aloadq rfl rfl ?_
  refine e_iload rfl rfl ?_
  refine e_ipush rfl ?_
  refine e_iadd rfl ?_
  refine e_sld rfl (sld_in (k := 2) hi hL (by decide)) ?_
  rw [show (nI i + 2).toNatClampNeg = i + 2 from sld_at (k := 2) hi hL (by decide)]
  refine e_aloadq rfl rfl ?_
  refine e_iload rfl rfl ?_
  refine e_ipush rfl ?_
  refine e_iadd rfl ?_
  refine e_sld rfl (sld_in (k := 3) hi hL (by decide)) ?_
  rw [show (nI i + 3).toNatClampNeg = i + 3 from sld_at (k := 3) hi hL (by decide)]
  refine e_aloadq rfl rfl ?_
  refine e_iload rfl rfl ?_
  refine e_ipush rfl ?_
  refine e_iadd rfl ?_
  refine e_sld rfl (sld_in (k := 4) hi hL (by decide)) ?_
  rw [show (nI i + 4).toNatClampNeg = i + 4 from sld_at (k := 4) hi hL (by decide)]
  refine Eg.call [.ref 0, .int (xs (i + 1)), .int (xs (i + 2)), .int (xs (i + 3)), .int (xs (i + 4))] [] rfl (by decide) (by decide) rfl rfl (Nat.le_of_ble_eq_true rfl) (xrcv_of rfl h0 rfl) (hc.mono (by omega)) (fun r1 h1 hq => ?_)
  obtain ⟨w, rfl, hs, hm⟩ := hq
  refine e_aload rfl rfl ?_
  refine e_aloadq rfl rfl ?_
  refine e_iload rfl rfl ?_
  refine e_ipush rfl ?_
  refine e_iadd rfl ?_
  refine e_sld rfl (sld_in (k := 1) hi hL (by decide)) ?_
  rw [show (nI i + 1).toNatClampNeg = i + 1 from sld_at (k := 1) hi hL (by decide)]
  refine e_aloadq rfl rfl ?_
  refine e_iload rfl rfl ?_
  refine e_ipush rfl ?_
  refine e_iadd rfl ?_
  refine e_sld rfl (sld_in (k := 2) hi hL (by decide)) ?_
  rw [show (nI i + 2).toNatClampNeg = i + 2 from sld_at (k := 2) hi hL (by decide)]
  refine e_aloadq rfl rfl ?_
  refine e_iload rfl rfl ?_
  refine e_ipush rfl ?_
  refine e_iadd rfl ?_
  refine e_sld rfl (sld_in (k := 3) hi hL (by decide)) ?_
  rw [show (nI i + 3).toNatClampNeg = i + 3 from sld_at (k := 3) hi hL (by decide)]
  refine e_aloadq rfl rfl ?_
  refine e_iload rfl rfl ?_
  refine e_ipush rfl ?_
  refine e_iadd rfl ?_
  refine e_sld rfl (sld_in (k := 4) hi hL (by decide)) ?_
  rw [show (nI i + 4).toNatClampNeg = i + 4 from sld_at (k := 4) hi hL (by decide)]
  refine Eg.call [.ref 290, .int (xs (i + 1)), .int (xs (i + 2)), .int (xs (i + 3)), .int (xs (i + 4))] [.int w] rfl (by decide) (by decide) rfl rfl (Nat.le_of_ble_eq_true rfl) (xrcv_of rfl hs rfl) (hm.mono (by omega)) (fun r2 h2 hq => ?_)
  obtain ⟨rfl, hI⟩ := hq
  refine e_ceq_t rfl rfl ?_
  exact kk h2 hI
theorem lc_32 (hi : i + 6 ≤ L) (hL : L ≤ 3072) (h0 : h.1[0]? = some (11, 13)) (hc : calls (L, xs, g) Inv h (xs (i + 1)) (xs (i + 2)) (xs (i + 3)) (xs (i + 4)) (xs (i + 5)) 32) (kk : ∀ h2, Inv h2 → Eg (L, xs, g) xTb 999 0 1336 [(3, .int (nI i)), (2, .ref 290), (1, .ref 0), (0, .retAddr 0)] [] h2 Q) : Eg (L, xs, g) xTb 999 0 1267 [(3, .int (nI i)), (2, .ref 290), (1, .ref 0), (0, .retAddr 0)] [] h Q := by
  replace hc : callOK (L, xs, g) 171 307 [.int (xs (i + 1))] Inv h := hc
  refine e_aload rfl rfl ?_
  refine e_aloadq rfl rfl ?_
  refine e_iload rfl rfl ?_
  refine e_ipush rfl ?_
  refine e_iadd rfl ?_
  refine e_sld rfl (sld_in (k := 1) hi hL (by decide)) ?_
  rw [show (nI i + 1).toNatClampNeg = i + 1 from sld_at (k := 1) hi hL (by decide)]
  refine Eg.call [.ref 0, .int (xs (i + 1))] [] rfl (by decide) (by decide) rfl rfl (Nat.le_of_ble_eq_true rfl) (xrcv_of rfl h0 rfl) (hc.mono (by omega)) (fun r1 h1 hq => ?_)
  obtain ⟨w, rfl, hs, hm⟩ := hq
  refine e_aload rfl rfl ?_
  refine e_aloadq rfl rfl ?_
  refine e_iload rfl rfl ?_
  refine e_ipush rfl ?_
  refine e_iadd rfl ?_
  refine e_sld rfl (sld_in (k := 1) hi hL (by decide)) ?_
  rw [show (nI i + 1).toNatClampNeg = i + 1 from sld_at (k := 1) hi hL (by decide)]
  refine Eg.call [.ref 290, .int (xs (i + 1))] [.int w] rfl (by decide) (by decide) rfl rfl (Nat.le_of_ble_eq_true rfl) (xrcv_of rfl hs rfl) (hm.mono (by omega)) (fun r2 h2 hq => ?_)
  obtain ⟨rfl, hI⟩ := hq
  refine e_ceq_t rfl rfl ?_
  exact kk h2 hI
theorem lc_33 (hi : i + 6 ≤ L) (hL : L ≤ 3072) (h0 : h.1[0]? = some (11, 13)) (hc : calls (L, xs, g) Inv h (xs (i + 1)) (xs (i + 2)) (xs (i + 3)) (xs (i + 4)) (xs (i + 5)) 33) (kk : ∀ h2, Inv h2 → Eg (L, xs, g) xTb 999 0 1336 [(3, .int (nI i)), (2, .ref 290), (1, .ref 0), (0, .retAddr 0)] [] h2 Q) : Eg (L, xs, g) xTb 999 0 1290 [(3, .int (nI i)), (2, .ref 290), (1, .ref 0), (0, .retAddr 0)] [] h Q := by
  replace hc : callOK (L, xs, g) 172 310 [.int (xs (i + 1))] Inv h := hc
  refine e_aload rfl rfl ?_
  refine e_aloadq rfl rfl ?_
  refine e_iload rfl rfl ?_
  refine e_ipush rfl ?_
  refine e_iadd rfl ?_
  refine e_sld rfl (sld_in (k := 1) hi hL (by decide)) ?_
  rw [show (nI i + 1).toNatClampNeg = i + 1 from sld_at (k := 1) hi hL (by decide)]
  refine Eg.call [.ref 0, .int (xs (i + 1))] [] rfl (by decide) (by decide) rfl rfl (Nat.le_of_ble_eq_true rfl) (xrcv_of rfl h0 rfl) (hc.mono (by omega)) (fun r1 h1 hq => ?_)
  obtain ⟨w, rfl, hs, hm⟩ := hq
  refine e_aload rfl rfl ?_
  refine e_aloadq rfl rfl ?_
  refine e_iload rfl rfl ?_
  refine e_ipush rfl ?_
  refine e_iadd rfl ?_
  refine e_sld rfl (sld_in (k := 1) hi hL (by decide)) ?_
  rw [show (nI i + 1).toNatClampNeg = i + 1 from sld_at (k := 1) hi hL (by decide)]
  refine Eg.call [.ref 290, .int (xs (i + 1))] [.int w] rfl (by decide) (by decide) rfl rfl (Nat.le_of_ble_eq_true rfl) (xrcv_of rfl hs rfl) (hm.mono (by omega)) (fun r2 h2 hq => ?_)
  obtain ⟨rfl, hI⟩ := hq
  refine e_ceq_t rfl rfl ?_
  exact kk h2 hI
theorem lc_34 (hi : i + 6 ≤ L) (hL : L ≤ 3072) (h0 : h.1[0]? = some (11, 13)) (hc : calls (L, xs, g) Inv h (xs (i + 1)) (xs (i + 2)) (xs (i + 3)) (xs (i + 4)) (xs (i + 5)) 34) (kk : ∀ h2, Inv h2 → Eg (L, xs, g) xTb 999 0 1336 [(3, .int (nI i)), (2, .ref 290), (1, .ref 0), (0, .retAddr 0)] [] h2 Q) : Eg (L, xs, g) xTb 999 0 1313 [(3, .int (nI i)), (2, .ref 290), (1, .ref 0), (0, .retAddr 0)] [] h Q := by
  replace hc : callOK (L, xs, g) 173 311 [.int (xs (i + 1))] Inv h := hc
  refine e_aload rfl rfl ?_
  refine e_aloadq rfl rfl ?_
  refine e_iload rfl rfl ?_
  refine e_ipush rfl ?_
  refine e_iadd rfl ?_
  refine e_sld rfl (sld_in (k := 1) hi hL (by decide)) ?_
  rw [show (nI i + 1).toNatClampNeg = i + 1 from sld_at (k := 1) hi hL (by decide)]
  refine Eg.call [.ref 0, .int (xs (i + 1))] [] rfl (by decide) (by decide) rfl rfl (Nat.le_of_ble_eq_true rfl) (xrcv_of rfl h0 rfl) (hc.mono (by omega)) (fun r1 h1 hq => ?_)
  obtain ⟨w, rfl, hs, hm⟩ := hq
  refine e_aload rfl rfl ?_
  refine e_aloadq rfl rfl ?_
  refine e_iload rfl rfl ?_
  refine e_ipush rfl ?_
  refine e_iadd rfl ?_
  refine e_sld rfl (sld_in (k := 1) hi hL (by decide)) ?_
  rw [show (nI i + 1).toNatClampNeg = i + 1 from sld_at (k := 1) hi hL (by decide)]
  refine Eg.call [.ref 290, .int (xs (i + 1))] [.int w] rfl (by decide) (by decide) rfl rfl (Nat.le_of_ble_eq_true rfl) (xrcv_of rfl hs rfl) (hm.mono (by omega)) (fun r2 h2 hq => ?_)
  obtain ⟨rfl, hI⟩ := hq
  refine e_ceq_t rfl rfl ?_
  exact kk h2 hI
theorem law_loop {Inv : Nat → xH → Prop} (hL : L ≤ 3072) (hsh : ∀ i h, Inv i h → h.1[0]? = some (11, 13)) (hmono : ∀ i h, Inv i h → Inv (i + 6) h) (hQ : ∀ i h, i ≤ L → Inv i h → Q (some (.int 1)) h) (hcall : ∀ h i, i + 6 ≤ L → Inv i h → ∀ c, c < 35 → calls (L, xs, g) (Inv (i + 6)) h (xs (i + 1)) (xs (i + 2)) (xs (i + 3)) (xs (i + 4)) (xs (i + 5)) c) : ∀ (n i : Nat) (h : xH), Inv i h → i ≤ L → L + 1 ≤ i + n → Eg (L, xs, g) xTb 999 0 18 [(3, .int (nI i)), (2, .ref 290), (1, .ref 0), (0, .retAddr 0)] [] h Q := by
  intro n
  induction n with
  | zero => intro i h _ h1 h2; omega
  | succ n ih =>
    intro i h hI h1 h2
    refine e_iload rfl rfl ?_
    refine e_aloadq rfl rfl ?_
    refine e_slen rfl ?_
    refine e_ipush rfl ?_
    refine e_isub rfl ?_
    have e6 : (Int32.ofNat L - 6).toInt = (L : Int) - 6 := by
      by_cases h6 : 6 ≤ L
      · have ea : Int32.ofNat L - 6 = nI (L - 6) := by
          have eb : nI (L - 6) + nI 6 = nI L := by rw [nI_add]; congr 1; omega
          show nI L - nI 6 = nI (L - 6)
          rw [← eb, Int32.add_sub_cancel]
        rw [ea, nI_toInt (by omega)]
        omega
      · have h7 : L = 0 ∨ L = 1 ∨ L = 2 ∨ L = 3 ∨ L = 4 ∨ L = 5 := by omega
        rcases h7 with rfl | rfl | rfl | rfl | rfl | rfl <;> decide +kernel
    have ei : (nI i).toInt = (i : Int) := nI_toInt (by omega)
    by_cases hc : i + 6 ≤ L
    · refine e_cgt_f rfl (by rw [Int32.lt_iff_toInt_lt]; show ¬ (Int32.ofNat L - 6).toInt < (nI i).toInt; rw [e6, ei]; omega) ?_
      refine e_aloadq rfl rfl ?_
      refine e_iload rfl rfl ?_
      refine e_sld rfl (vp_in_nI (n := i) (N := L) (by omega) (by omega)) ?_
      refine e_ipush rfl ?_
      refine e_iand rfl ?_
      have next : ∀ h2, Inv (i + 6) h2 → Eg (L, xs, g) xTb 999 0 1336 [(3, .int (nI i)), (2, .ref 290), (1, .ref 0), (0, .retAddr 0)] [] h2 Q := by
        intro h2 hI2
        refine e_iinc rfl rfl ?_
        refine e_goto rfl ?_
        have := ih (i + 6) h2 hI2 (by omega) (by omega)
        rw [show nI (i + 6) = nI i + 6 from (nI_add i 6).symm] at this
        exact this
      obtain ⟨c, hc64, ec⟩ := and63 (xs (nI i).toNatClampNeg)
      have ec2 : (L, xs, g).2.1 (nI i).toNatClampNeg &&& 63 = nI c := ec
      rw [ec2]
      by_cases hc35 : c < 35
      · have hcc := hcall h i hc hI c hc35
        have hcs : c = 0 ∨ c = 1 ∨ c = 2 ∨ c = 3 ∨ c = 4 ∨ c = 5 ∨ c = 6 ∨ c = 7 ∨ c = 8 ∨ c = 9 ∨ c = 10 ∨ c = 11 ∨ c = 12 ∨ c = 13 ∨ c = 14 ∨ c = 15 ∨ c = 16 ∨ c = 17 ∨ c = 18 ∨ c = 19 ∨ c = 20 ∨ c = 21 ∨ c = 22 ∨ c = 23 ∨ c = 24 ∨ c = 25 ∨ c = 26 ∨ c = 27 ∨ c = 28 ∨ c = 29 ∨ c = 30 ∨ c = 31 ∨ c = 32 ∨ c = 33 ∨ c = 34 := by omega
        rcases hcs with rfl | rfl | rfl | rfl | rfl | rfl | rfl | rfl | rfl | rfl | rfl | rfl | rfl | rfl | rfl | rfl | rfl | rfl | rfl | rfl | rfl | rfl | rfl | rfl | rfl | rfl | rfl | rfl | rfl | rfl | rfl | rfl | rfl | rfl | rfl
        · exact e_tsw rfl (by decide +kernel) (n := 188) (by decide +kernel) (lc_0 hc hL (hsh i h hI) hcc next)
        · exact e_tsw rfl (by decide +kernel) (n := 251) (by decide +kernel) (lc_1 hc hL (hsh i h hI) hcc next)
        · exact e_tsw rfl (by decide +kernel) (n := 274) (by decide +kernel) (lc_2 hc hL (hsh i h hI) hcc next)
        · exact e_tsw rfl (by decide +kernel) (n := 287) (by decide +kernel) (lc_3 hc hL (hsh i h hI) hcc next)
        · exact e_tsw rfl (by decide +kernel) (n := 300) (by decide +kernel) (lc_4 hc hL (hsh i h hI) hcc next)
        · exact e_tsw rfl (by decide +kernel) (n := 333) (by decide +kernel) (lc_5 hc hL (hsh i h hI) hcc next)
        · exact e_tsw rfl (by decide +kernel) (n := 366) (by decide +kernel) (lc_6 hc hL (hsh i h hI) hcc next)
        · exact e_tsw rfl (by decide +kernel) (n := 399) (by decide +kernel) (lc_7 hc hL (hsh i h hI) hcc next)
        · exact e_tsw rfl (by decide +kernel) (n := 432) (by decide +kernel) (lc_8 hc hL (hsh i h hI) hcc next)
        · exact e_tsw rfl (by decide +kernel) (n := 465) (by decide +kernel) (lc_9 hc hL (hsh i h hI) hcc next)
        · exact e_tsw rfl (by decide +kernel) (n := 488) (by decide +kernel) (lc_10 hc hL (hsh i h hI) hcc next)
        · exact e_tsw rfl (by decide +kernel) (n := 537) (by decide +kernel) (lc_11 hc hL (hsh i h hI) hcc next)
        · exact e_tsw rfl (by decide +kernel) (n := 580) (by decide +kernel) (lc_12 hc hL (hsh i h hI) hcc next)
        · exact e_tsw rfl (by decide +kernel) (n := 593) (by decide +kernel) (lc_13 hc hL (hsh i h hI) hcc next)
        · exact e_tsw rfl (by decide +kernel) (n := 626) (by decide +kernel) (lc_14 hc hL (hsh i h hI) hcc next)
        · exact e_tsw rfl (by decide +kernel) (n := 639) (by decide +kernel) (lc_15 hc hL (hsh i h hI) hcc next)
        · exact e_tsw rfl (by decide +kernel) (n := 672) (by decide +kernel) (lc_16 hc hL (hsh i h hI) hcc next)
        · exact e_tsw rfl (by decide +kernel) (n := 705) (by decide +kernel) (lc_17 hc hL (hsh i h hI) hcc next)
        · exact e_tsw rfl (by decide +kernel) (n := 738) (by decide +kernel) (lc_18 hc hL (hsh i h hI) hcc next)
        · exact e_tsw rfl (by decide +kernel) (n := 781) (by decide +kernel) (lc_19 hc hL (hsh i h hI) hcc next)
        · exact e_tsw rfl (by decide +kernel) (n := 834) (by decide +kernel) (lc_20 hc hL (hsh i h hI) hcc next)
        · exact e_tsw rfl (by decide +kernel) (n := 883) (by decide +kernel) (lc_21 hc hL (hsh i h hI) hcc next)
        · exact e_tsw rfl (by decide +kernel) (n := 906) (by decide +kernel) (lc_22 hc hL (hsh i h hI) hcc next)
        · exact e_tsw rfl (by decide +kernel) (n := 929) (by decide +kernel) (lc_23 hc hL (hsh i h hI) hcc next)
        · exact e_tsw rfl (by decide +kernel) (n := 962) (by decide +kernel) (lc_24 hc hL (hsh i h hI) hcc next)
        · exact e_tsw rfl (by decide +kernel) (n := 1005) (by decide +kernel) (lc_25 hc hL (hsh i h hI) hcc next)
        · exact e_tsw rfl (by decide +kernel) (n := 1038) (by decide +kernel) (lc_26 hc hL (hsh i h hI) hcc next)
        · exact e_tsw rfl (by decide +kernel) (n := 1081) (by decide +kernel) (lc_27 hc hL (hsh i h hI) hcc next)
        · exact e_tsw rfl (by decide +kernel) (n := 1124) (by decide +kernel) (lc_28 hc hL (hsh i h hI) hcc next)
        · exact e_tsw rfl (by decide +kernel) (n := 1147) (by decide +kernel) (lc_29 hc hL (hsh i h hI) hcc next)
        · exact e_tsw rfl (by decide +kernel) (n := 1191) (by decide +kernel) (lc_30 hc hL (hsh i h hI) hcc next)
        · exact e_tsw rfl (by decide +kernel) (n := 1214) (by decide +kernel) (lc_31 hc hL (hsh i h hI) hcc next)
        · exact e_tsw rfl (by decide +kernel) (n := 1267) (by decide +kernel) (lc_32 hc hL (hsh i h hI) hcc next)
        · exact e_tsw rfl (by decide +kernel) (n := 1290) (by decide +kernel) (lc_33 hc hL (hsh i h hI) hcc next)
        · exact e_tsw rfl (by decide +kernel) (n := 1313) (by decide +kernel) (lc_34 hc hL (hsh i h hI) hcc next)
      · refine e_tswd rfl (Or.inr ?_) (next h (hmono i h hI))
        rw [nI_toInt (by omega)]
        show (0 : Int) + 35 ≤ (c : Int)
        omega
    · refine e_cgt_t rfl (by rw [Int32.lt_iff_toInt_lt]; show (Int32.ofNat L - 6).toInt < (nI i).toInt; rw [e6, ei]; omega) ?_
      refine e_ipush rfl ?_
      exact Eg.ret rfl (by decide) rfl (hQ i h h1 hI)
end LW
/-- THE CLAIM'S GOAL out of an invariant that every call keeps: Inv X i h, with i ints of the script read -/
theorem xGoal_inv {N : Nat} (hN : N ≤ 3072) (Inv : xX → Nat → xH → Prop) (hini : ∀ X, Inv X 0 cr_m) (hmono : ∀ X i h, Inv X i h → Inv X (i + 6) h) (hsh : ∀ X i h, Inv X i h → h.1[0]? = some (11, 13)) (hroom : ∀ X i h, i ≤ N → Inv X i h → h.1.length ≤ 600000 ∧ xsum h.1 ≤ 7302250) (hcall : ∀ (X : xX) (h : xH) (i : Nat) (v1 v2 v3 v4 v5 : Int32), i + 6 ≤ N → Inv X i h → ∀ c, c < 35 → calls X (Inv X (i + 6)) h v1 v2 v3 v4 v5 c) : xGoal N := by
  refine xGoal_of (fun L xs g hL => law_start ?_)
  exact law_loop (Inv := Inv (L, xs, g)) (by omega) (fun i h hI => hsh _ i h hI) (fun i h hI => hmono _ i h hI) (fun i h hi hI => ⟨rfl, hroom _ i h (by omega) hI⟩) (fun h i hi hI c hc => hcall _ h i _ _ _ _ _ (by omega) hI c hc) (L + 1) 0 cr_m (hini _) (by omega) (by omega)
