/-! ACTS, the other side -/
section AC
variable {X : xX} {h : xH} {sh : List (Nat × Nat)} {I : Nat → Nat → Int32} {L : Nat → Nat → Int64} {R : Nat → Nat → Option Nat} {v : Nat → Nat → Int32} {w s m : Nat}
def shP (P : Nat → Int32) (x : Nat) : Int32 := if x < 969 then P (x + 51) else P x
def remB (a : Nat) : Nat := if a = 20 then 19 else a
def remP (v : Nat → Nat → Int32) (P : Nat → Int32) (a : Nat) : Nat → Int32 := stP v (if a = 20 then shP P else P) (remB a) 51
/-- all but what an act changes -/
def KF (I J : Nat → Nat → Int32) : Prop := (∀ i x, i < 290 ∨ 321 < i → i ≠ 348 → J i x = I i x) ∧ (∀ x, J 309 x = I 309 x) ∧ ∀ x, x ≠ 71 → x ≠ 72 → x ≠ 73 → J 290 x = I 290 x
theorem ms_keeps50 (hM : MW sh R) {P : Nat → Int32} {b : Nat} (hv : mV I v) (hP : ∀ x, I 348 x = P x) (h71 : I 290 71 = nI b) (hb : b < 20) {l1 : xL} (hl : xlk l1 0 = some (.ref 290)) {Q : Option Value → xH → Prop} (hQ : ∀ J : Nat → Nat → Int32, mV J v → (∀ x, J 348 x = stP v P b 51 x) → J 290 71 = nI (b + 1) → KF I J → Q none (sh, J, L, R)) : Eg X xTc 2 250 50 l1 [] (sh, I, L, R) Q := by
  refine e_aload rfl hl ?_
  refine e_aload rfl hl ?_
  refine e_getIv rfl hM.1 h71 ?_
  refine e_ipush rfl ?_
  refine Eg.c3 rfl (by decide) (by decide) rfl (Nat.le_of_ble_eq_true rfl) (xrcv_of rfl hM.1 rfl) ((ms_storeAll hM (P := P) (k := b) hv hP hb).mono (by decide)) (fun r1 h1 hq => ?_)
  obtain ⟨rfl, J, rfl, a1, a2, a3, a4, a5, a6⟩ := hq
  have j71 : J 290 71 = nI b := (a6 71 (by decide) (by decide)).trans h71
  refine e_aload rfl hl ?_
  refine e_dupr rfl ?_
  refine e_getIv rfl hM.1 j71 ?_
  refine e_ipush rfl ?_
  refine e_iadd rfl ?_
  rw [show (nI b) + 1 = nI (b + 1) from nI_1 b]
  refine e_putI rfl hM.1 ?_
  exact Eg.ret rfl (by decide) rfl (hQ _ (a1.fr (fun i x h1 h2 h3 => xu_o (by omega))) (fun x => (xu_o (by omega)).trans (a2 x)) xu_at ⟨fun i x h1 h2 => (xu_o (by omega)).trans (a5 i x (by omega) h2), fun x => (xu_o (by omega)).trans (a5 309 x (by omega) (by decide)), fun x h1 h2 h3 => (xu_o (by omega)).trans (a6 x h2 h3)⟩)
theorem ms_keepsAct (hM : MW sh R) {P : Nat → Int32} {a : Nat} (hv : mV I v) (hP : ∀ x, I 348 x = P x) (h71 : I 290 71 = nI a) (ha : a ≤ 20) : Ec X 3 250 [.ref 290] (sh, I, L, R) (fun r h' => r = none ∧ ∃ J : Nat → Nat → Int32, h' = (sh, J, L, R) ∧ mV J v ∧ (∀ x, J 348 x = remP v P a x) ∧ J 290 71 = nI (remB a + 1) ∧ KF I J) := by
  refine Ec.of (Nat.le_of_ble_eq_true rfl) ?_
  by_cases h20 : a = 20
  · subst h20
    refine e_aload rfl rfl ?_
    refine e_getIv rfl hM.1 h71 ?_
    refine e_ipush rfl ?_
    refine e_cne_f rfl rfl ?_
    refine e_ipush rfl ?_
    refine e_istore rfl ?_
    refine Eg.pk [0, 1] [1, 0] rfl (by decide) ?_
    refine up_ind (p := fun j => ∀ J : Nat → Nat → Int32, (∀ x, J 348 x = if x < j then P (x + 51) else P x) → (∀ i x, i ≠ 348 → J i x = I i x) → Eg X xTc 2 250 12 [(0, .ref 290), (1, .int (nI (51 + j)))] [] (sh, J, L, R) (fun r h' => r = none ∧ ∃ J : Nat → Nat → Int32, h' = (sh, J, L, R) ∧ mV J v ∧ (∀ x, J 348 x = remP v P 20 x) ∧ J 290 71 = nI (remB 20 + 1) ∧ KF I J)) (n := 969) (j := 0) (fun j hj ih => ?_) ?_ (Nat.zero_le _) I (fun x => (hP x).trans (if_neg (by omega)).symm) (fun i x hi => rfl)
    · intro J a1 a2
      have j1 : J 348 (51 + j) = P (j + 51) := by rw [a1, if_neg (by omega), Nat.add_comm]
      refine e_iload rfl rfl ?_
      refine e_ipush rfl ?_
      refine e_cge_f rfl (nI_ge (b := 1020) (by omega) (by decide)) ?_
      refine e_aload rfl rfl ?_
      refine e_getR rfl hM.1 (show R 290 69 = some 348 from (hM.2 57 _ rfl).2) ?_
      refine e_iload rfl rfl ?_
      refine e_ipush rfl ?_
      refine e_isub rfl ?_
      rw [show (nI (51 + j)) - 51 = nI j from (show nI (51 + j) - nI 51 = nI j by rw [nI_sub (by omega), Nat.add_sub_cancel_left])]
      refine e_aload rfl rfl ?_
      refine e_getR rfl hM.1 (show R 290 69 = some 348 from (hM.2 57 _ rfl).2) ?_
      refine e_iload rfl rfl ?_
      refine e_ialv (t := (51 + j)) (n := 1020) rfl (show sh[348]? = some (20, 1020) from (hM.2 57 _ rfl).1) rfl (by omega) (by decide) j1 ?_
      refine e_iasJ (t := j) (n := 1020) rfl (show sh[348]? = some (20, 1020) from (hM.2 57 _ rfl).1) rfl (by omega) (by decide) (fun J1 g1 f1 => ?_)
      refine e_iinc rfl rfl ?_
      refine e_goto rfl ?_
      refine Eg.pk [0, 1] [1, 0] rfl (by decide) ?_
      rw [nI_1]
      refine ih J1 (fun x => ?_) (fun i x hi => (f1 i x (Or.inl hi)).trans (a2 i x hi))
      by_cases hx : x = j
      · subst hx; rw [g1, if_pos (by omega)]
      · rw [f1 348 x (Or.inr hx), a1]
        by_cases hc : x < j
        · rw [if_pos hc, if_pos (by omega)]
        · rw [if_neg hc, if_neg (by omega)]
    · intro J a1 a2
      have j71 : J 290 71 = nI 20 := (a2 290 71 (by decide)).trans h71
      refine e_iload rfl rfl ?_
      refine e_ipush rfl ?_
      refine e_cge_t rfl (by decide) ?_
      refine e_aload rfl rfl ?_
      refine e_dupr rfl ?_
      refine e_getIv rfl hM.1 j71 ?_
      refine e_ipush rfl ?_
      refine e_isub rfl ?_
      rw [show (nI 20) - 1 = nI 19 from (by decide)]
      refine e_putIJ rfl hM.1 (fun J2 g2 f2 => ?_)
      refine ms_keeps50 hM (P := shP P) (b := 19) (hv.fr (fun i x h1 h2 h3 => (f2 i x (by omega)).trans (a2 i x (by omega)))) (fun x => (f2 348 x (by omega)).trans (a1 x)) g2 (by decide) rfl (fun K k1 k2 k3 k4 => ⟨rfl, K, rfl, k1, k2, k3, ?_⟩)
      exact ⟨fun i x h1 h2 => (k4.1 i x h1 h2).trans ((f2 i x (by omega)).trans (a2 i x h2)), fun x => (k4.2.1 x).trans ((f2 309 x (by omega)).trans (a2 309 x (by decide))), fun x h1 h2 h3 => (k4.2.2 x h1 h2 h3).trans ((f2 290 x (by omega)).trans (a2 290 x (by decide)))⟩
  · have eb : remB a = a := if_neg h20
    have ep : remP v P a = stP v P a 51 := by unfold remP; rw [if_neg h20, eb]
    refine e_aload rfl rfl ?_
    refine e_getIv rfl hM.1 h71 ?_
    refine e_ipush rfl ?_
    refine e_cne_t rfl (fun q => h20 ((nI_eq (b := 20) (by omega) (by decide)).mp q)) ?_
    refine ms_keeps50 hM (P := P) (b := a) hv hP h71 (by omega) rfl (fun K k1 k2 k3 k4 => ⟨rfl, K, rfl, k1, ?_, by rw [eb]; exact k3, k4⟩)
    rw [ep]; exact k2
theorem md_undo (hM : MW sh R) {P : Nat → Int32} {a : Nat} (hv : mV I v) (hP : ∀ x, I 348 x = P x) (h71 : I 290 71 = nI a) (ha : a ≤ 20) : Ec X 3 251 [.ref 290] (sh, I, L, R) (fun r h' => r = some (.int (if a = 0 then -2 else nI (a - 1))) ∧ ∃ J : Nat → Nat → Int32, h' = (sh, J, L, R) ∧ mV J (if a = 0 then v else pvw P v (a - 1)) ∧ (∀ x, J 348 x = P x) ∧ J 290 71 = nI (a - 1) ∧ KF I J) := by
  refine Ec.of (Nat.le_of_ble_eq_true rfl) ?_
  by_cases h0 : a = 0
  · subst h0
    refine e_aload rfl rfl ?_
    refine e_getIv rfl hM.1 h71 ?_
    refine e_ifne_f rfl rfl ?_
    refine e_ipush rfl ?_
    exact Eg.ret rfl (by decide) rfl ⟨rfl, I, rfl, hv, hP, h71, fun i x h1 h2 => rfl, fun x => rfl, fun x h1 h2 h3 => rfl⟩
  · simp only [if_neg h0]
    refine e_aload rfl rfl ?_
    refine e_getIv rfl hM.1 h71 ?_
    refine e_ifne_t rfl (nI_ne0 (by omega) (by omega)) ?_
    refine e_aload rfl rfl ?_
    refine e_dupr rfl ?_
    refine e_getIv rfl hM.1 h71 ?_
    refine e_ipush rfl ?_
    refine e_isub rfl ?_
    rw [show (nI a) - 1 = nI (a - 1) from (show nI a - nI 1 = _ from nI_sub (by omega))]
    refine e_putIJ rfl hM.1 (fun J1 g1 f1 => ?_)
    refine e_aload rfl rfl ?_
    refine e_aload rfl rfl ?_
    refine e_getIv rfl hM.1 g1 ?_
    refine e_ipush rfl ?_
    refine Eg.c3 rfl (by decide) (by decide) rfl (Nat.le_of_ble_eq_true rfl) (xrcv_of rfl hM.1 rfl) ((ms_loadAll hM (P := P) (k := a - 1) (hv.fr (fun i x h1 h2 h3 => f1 i x (by omega))) (fun x => (f1 348 x (by omega)).trans (hP x)) (by omega)).mono (by decide)) (fun r1 h1 hq => ?_)
    obtain ⟨rfl, K, rfl, a1, a2, a3, a4, a5, a6⟩ := hq
    have k71 : K 290 71 = nI (a - 1) := (a6 71 (by decide) (by decide)).trans g1
    refine e_aload rfl rfl ?_
    refine e_getIv rfl hM.1 k71 ?_
    exact Eg.ret rfl (by decide) rfl ⟨rfl, K, rfl, a1, a2, k71, fun i x h1 h2 => (a5 i x (by omega) h2).trans (f1 i x (by omega)), fun x => (a5 309 x (by omega) (by decide)).trans (f1 309 x (by omega)), fun x h1 h2 h3 => (a6 x h2 h3).trans (f1 290 x (by omega))⟩
theorem ms_day (hM : MW sh R) {g : Nat → Int32} (hv : mV I v) (h4 : cn v 4 ≤ 4) (e4 : v 1 4 = nI (cn v 4)) (e7 : v 1 7 = nI (cn v 7)) (hwt : ∀ k, k < cn v 4 → ∃ t, t < 2 ^ 31 ∧ v 14 k = nI t) (hg : ∀ k, k < cn v 4 → I 309 k = g k) : Ec X 1 253 [.ref 290] (sh, I, L, R) (fun r h' => r = none ∧ ∃ J : Nat → Nat → Int32, h' = (sh, J, L, R) ∧ mV J (dayF v g) ∧ (∀ k, k < cn v 4 → J 309 k = 0) ∧ (∀ k, cn v 4 ≤ k → J 309 k = I 309 k) ∧ ∀ i x, i < 291 ∨ 321 < i → J i x = I i x) := by
  refine Ec.of (Nat.le_of_ble_eq_true rfl) ?_
  refine e_ipush rfl ?_
  refine e_istore rfl ?_
  refine Eg.pk [0, 1] [1, 0] rfl (by decide) ?_
  refine up_ind (p := fun j => ∀ J : Nat → Nat → Int32, mV J (dayW v g j) → (∀ k, k < j → J 309 k = 0) → (∀ k, j ≤ k → J 309 k = I 309 k) → (∀ i x, i < 291 ∨ 321 < i → J i x = I i x) → Eg X xTc 0 253 2 [(0, .ref 290), (1, .int (nI j))] [] (sh, J, L, R) (fun r h' => r = none ∧ ∃ J : Nat → Nat → Int32, h' = (sh, J, L, R) ∧ mV J (dayF v g) ∧ (∀ k, k < cn v 4 → J 309 k = 0) ∧ (∀ k, cn v 4 ≤ k → J 309 k = I 309 k) ∧ ∀ i x, i < 291 ∨ 321 < i → J i x = I i x)) (n := cn v 4) (j := 0) (fun j hj ih => ?_) ?_ (Nat.zero_le _) I hv (fun k hk => absurd hk (by omega)) (fun k hk => rfl) (fun i x hi => rfl)
  · intro J a1 a2 a3 a4
    have j4 : J 291 4 = nI (cn v 4) := (a1 1 4 (by decide)).trans ((dayW_o (Or.inl (by decide))).trans e4)
    have jg : J 309 j = g j := (a3 j (Nat.le_refl _)).trans (hg j hj)
    obtain ⟨t, ht, et⟩ := hwt j hj
    have ew : (dayW v g j) 14 j = nI t := (dayW_o (Or.inr (Nat.le_refl _))).trans et
    refine e_iload rfl rfl ?_
    refine e_aload rfl rfl ?_
    refine e_getR rfl hM.1 (show R 290 1 = some 291 from (hM.2 0 _ rfl).2) ?_
    refine e_ipush rfl ?_
    refine e_ialv (t := 4) (n := 14) rfl (show sh[291]? = some (20, 14) from (hM.2 0 _ rfl).1) rfl (by decide) (by decide) j4 ?_
    refine e_cge_f rfl (nI_ge hj (by omega)) ?_
    refine e_aload rfl rfl ?_
    refine e_getR rfl hM.1 (show R 290 18 = some 308 from (hM.2 17 _ rfl).2) ?_
    refine e_iload rfl rfl ?_
    refine e_ialv (t := j) (n := 4) rfl (show sh[308]? = some (20, 4) from (hM.2 17 _ rfl).1) rfl (by omega) (by decide) (a1 18 j (by decide)) ?_
    refine e_ipush rfl ?_
    refine e_cne_b rfl (fun b19 => ?_) (fun b19 => ?_)
    · refine e_aload rfl rfl ?_
      refine e_getR rfl hM.1 (show R 290 18 = some 308 from (hM.2 17 _ rfl).2) ?_
      refine e_iload rfl rfl ?_
      refine e_ialv (t := j) (n := 4) rfl (show sh[308]? = some (20, 4) from (hM.2 17 _ rfl).1) rfl (by omega) (by decide) (a1 18 j (by decide)) ?_
      refine e_ipush rfl ?_
      refine e_cne_t rfl b19 ?_
      refine e_aload rfl rfl ?_
      refine e_getR rfl hM.1 (show R 290 19 = some 309 from (hM.2 18 _ rfl).2) ?_
      refine e_iload rfl rfl ?_
      refine e_ipush rfl ?_
      refine e_iasJ (t := j) (n := 4) rfl (show sh[309]? = some (20, 4) from (hM.2 18 _ rfl).1) rfl (by omega) (by decide) (fun J1 g1 f1 => ?_)
      refine e_iinc rfl rfl ?_
      refine e_goto rfl ?_
      refine Eg.pk [0, 1] [1, 0] rfl (by decide) ?_
      rw [nI_1]
      have e : (dayW v g (j + 1)) = (dayW v g j) := if_neg b19
      have m1 : mV J1 (dayW v g j) := a1.fr (fun i x h1 h2 h3 => f1 i x (by omega))
      refine ih J1 (by rw [e]; exact m1) (lt_snoc (fun k hk => ?_) g1) (fun k hk => ?_) (fun i x hi => ?_)
      · exact ((f1 309 k (by omega)).trans (a2 k hk))
      · exact ((f1 309 k (by omega)).trans (a3 k (by omega)))
      · exact ((f1 i x (by omega)).trans (a4 i x hi))
    · refine e_aload rfl rfl ?_
      refine e_getR rfl hM.1 (show R 290 14 = some 304 from (hM.2 13 _ rfl).2) ?_
      refine e_iload rfl rfl ?_
      refine e_ialv (t := j) (n := 4) rfl (show sh[304]? = some (20, 4) from (hM.2 13 _ rfl).1) rfl (by omega) (by decide) (a1 14 j (by decide)) ?_
      refine e_ifne_b rfl (fun b28 => ?_) (fun b28 => ?_)
      · refine e_aload rfl rfl ?_
        refine e_getR rfl hM.1 (show R 290 18 = some 308 from (hM.2 17 _ rfl).2) ?_
        refine e_iload rfl rfl ?_
        refine e_ialv (t := j) (n := 4) rfl (show sh[308]? = some (20, 4) from (hM.2 17 _ rfl).1) rfl (by omega) (by decide) (a1 18 j (by decide)) ?_
        refine e_ipush rfl ?_
        refine e_cne_f rfl b19 ?_
        refine e_aload rfl rfl ?_
        refine e_getR rfl hM.1 (show R 290 14 = some 304 from (hM.2 13 _ rfl).2) ?_
        refine e_iload rfl rfl ?_
        refine e_dup2 rfl ?_
        refine e_ialv (t := j) (n := 4) rfl (show sh[304]? = some (20, 4) from (hM.2 13 _ rfl).1) rfl (by omega) (by decide) (a1 14 j (by decide)) ?_
        refine e_ipush rfl ?_
        refine e_isub rfl ?_
        refine e_iasJ (t := j) (n := 4) rfl (show sh[304]? = some (20, 4) from (hM.2 13 _ rfl).1) rfl (by omega) (by decide) (fun J2 g2 f2 => ?_)
        refine e_aload rfl rfl ?_
        refine e_getR rfl hM.1 (show R 290 13 = some 303 from (hM.2 12 _ rfl).2) ?_
        refine e_iload rfl rfl ?_
        refine e_dup2 rfl ?_
        refine e_ialv (t := j) (n := 4) rfl (show sh[303]? = some (20, 4) from (hM.2 12 _ rfl).1) rfl (by omega) (by decide) ((f2 303 j (Or.inl (by omega))).trans (a1 13 j (by decide))) ?_
        refine e_aload rfl rfl ?_
        refine e_getR rfl hM.1 (show R 290 19 = some 309 from (hM.2 18 _ rfl).2) ?_
        refine e_iload rfl rfl ?_
        refine e_ialv (t := j) (n := 4) rfl (show sh[309]? = some (20, 4) from (hM.2 18 _ rfl).1) rfl (by omega) (by decide) ((f2 309 j (Or.inl (by omega))).trans jg) ?_
        refine e_iadd rfl ?_
        refine e_iasJ (t := j) (n := 4) rfl (show sh[303]? = some (20, 4) from (hM.2 12 _ rfl).1) rfl (by omega) (by decide) (fun J3 g3 f3 => ?_)
        refine e_aload rfl rfl ?_
        refine e_getR rfl hM.1 (show R 290 19 = some 309 from (hM.2 18 _ rfl).2) ?_
        refine e_iload rfl rfl ?_
        refine e_ipush rfl ?_
        refine e_iasJ (t := j) (n := 4) rfl (show sh[309]? = some (20, 4) from (hM.2 18 _ rfl).1) rfl (by omega) (by decide) (fun J4 g4 f4 => ?_)
        refine e_iinc rfl rfl ?_
        refine e_goto rfl ?_
        refine Eg.pk [0, 1] [1, 0] rfl (by decide) ?_
        rw [nI_1]
        have e : (dayW v g (j + 1)) = xu (xu (dayW v g j) 14 j ((dayW v g j) 14 j - 1)) 13 j ((dayW v g j) 13 j + g j) := (if_pos b19).trans (if_neg (fun q => b28 (by rw [show itN (dstep g) v j 14 j = nI t from ew] at q; rw [ew, (nI_le0 ht).mp q]; rfl)))
        have m1 := ((a1.up (f := 14) (by decide) g2 f2).up (f := 13) (by decide) g3 f3).fr (J := J4) (fun i x h1 h2 h3 => f4 i x (by omega))
        refine ih J4 (by rw [e]; exact m1) (lt_snoc (fun k hk => ?_) g4) (fun k hk => ?_) (fun i x hi => ?_)
        · exact ((f4 309 k (by omega)).trans ((f3 309 k (by omega)).trans ((f2 309 k (by omega)).trans (a2 k hk))))
        · exact ((f4 309 k (by omega)).trans ((f3 309 k (by omega)).trans ((f2 309 k (by omega)).trans (a3 k (by omega)))))
        · exact ((f4 i x (by omega)).trans ((f3 i x (by omega)).trans ((f2 i x (by omega)).trans (a4 i x hi))))
      · refine e_aload rfl rfl ?_
        refine e_getR rfl hM.1 (show R 290 18 = some 308 from (hM.2 17 _ rfl).2) ?_
        refine e_iload rfl rfl ?_
        refine e_aload rfl rfl ?_
        refine e_getR rfl hM.1 (show R 290 1 = some 291 from (hM.2 0 _ rfl).2) ?_
        refine e_ipush rfl ?_
        refine e_ialv (t := 7) (n := 14) rfl (show sh[291]? = some (20, 14) from (hM.2 0 _ rfl).1) rfl (by decide) (by decide) (a1 1 7 (by decide)) ?_
        refine e_iasJ (t := j) (n := 4) rfl (show sh[308]? = some (20, 4) from (hM.2 17 _ rfl).1) rfl (by omega) (by decide) (fun J5 g5 f5 => ?_)
        refine e_goto rfl ?_
        refine e_aload rfl rfl ?_
        refine e_getR rfl hM.1 (show R 290 19 = some 309 from (hM.2 18 _ rfl).2) ?_
        refine e_iload rfl rfl ?_
        refine e_ipush rfl ?_
        refine e_iasJ (t := j) (n := 4) rfl (show sh[309]? = some (20, 4) from (hM.2 18 _ rfl).1) rfl (by omega) (by decide) (fun J6 g6 f6 => ?_)
        refine e_iinc rfl rfl ?_
        refine e_goto rfl ?_
        refine Eg.pk [0, 1] [1, 0] rfl (by decide) ?_
        rw [nI_1]
        have e : (dayW v g (j + 1)) = xu (dayW v g j) 18 j ((dayW v g j) 1 7) := (if_pos b19).trans (if_pos (by rw [show itN (dstep g) v j 14 j = nI t from ew]; exact (nI_le0 ht).mpr ((nI_eq (b := 0) ht (by decide)).mp (ew.symm.trans b28))))
        have m1 := (a1.up (f := 18) (by decide) g5 f5).fr (J := J6) (fun i x h1 h2 h3 => f6 i x (by omega))
        refine ih J6 (by rw [e]; exact m1) (lt_snoc (fun k hk => ?_) g6) (fun k hk => ?_) (fun i x hi => ?_)
        · exact ((f6 309 k (by omega)).trans ((f5 309 k (by omega)).trans (a2 k hk)))
        · exact ((f6 309 k (by omega)).trans ((f5 309 k (by omega)).trans (a3 k (by omega))))
        · exact ((f6 i x (by omega)).trans ((f5 i x (by omega)).trans (a4 i x hi)))
  · intro J a1 a2 a3 a4
    have j4 : J 291 4 = nI (cn v 4) := (a1 1 4 (by decide)).trans ((dayW_o (Or.inl (by decide))).trans e4)
    have j7 : J 291 7 = nI (cn v 7) := (a1 1 7 (by decide)).trans ((dayW_o (Or.inl (by decide))).trans e7)
    refine e_iload rfl rfl ?_
    refine e_aload rfl rfl ?_
    refine e_getR rfl hM.1 (show R 290 1 = some 291 from (hM.2 0 _ rfl).2) ?_
    refine e_ipush rfl ?_
    refine e_ialv (t := 4) (n := 14) rfl (show sh[291]? = some (20, 14) from (hM.2 0 _ rfl).1) rfl (by decide) (by decide) j4 ?_
    refine e_cge_t rfl (Int32.le_refl _) ?_
    refine e_aload rfl rfl ?_
    refine e_getR rfl hM.1 (show R 290 1 = some 291 from (hM.2 0 _ rfl).2) ?_
    refine e_ipush rfl ?_
    refine e_dup2 rfl ?_
    refine e_ialv (t := 7) (n := 14) rfl (show sh[291]? = some (20, 14) from (hM.2 0 _ rfl).1) rfl (by decide) (by decide) j7 ?_
    refine e_ipush rfl ?_
    refine e_iadd rfl ?_
    rw [show (nI (cn v 7)) + 1 = nI (cn v 7 + 1) from nI_1 _]
    refine e_iasJ (t := 7) (n := 14) rfl (show sh[291]? = some (20, 14) from (hM.2 0 _ rfl).1) rfl (by decide) (by decide) (fun J1 g1 f1 => ?_)
    exact Eg.ret rfl (by decide) rfl ⟨rfl, J1, rfl, a1.up (f := 1) (by decide) g1 f1, fun k hk => (f1 309 k (by omega)).trans (a2 k hk), fun k hk => (f1 309 k (by omega)).trans (a3 k hk), fun i x hi => (f1 i x (by omega)).trans (a4 i x hi)⟩
end AC
