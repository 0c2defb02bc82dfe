/-! A RULE read, the other side: entries, values -/
section MU
variable {X : xX} {h : xH} {sh : List (Nat × Nat)} {I : Nat → Nat → Int32} {L : Nat → Nat → Int64} {R : Nat → Nat → Option Nat} {B : Nat → Nat} {n ri p : Nat} {st : rS}
/-- the other side stands at p as st says, without a fault -/
def Mst (I : Nat → Nat → Int32) (B : Nat → Nat) (n ri p : Nat) (st : rS) : Prop := Mr I B n p 0 ∧ p ≤ n ∧ skp B n p = st.1 ∧ I 290 54 = nI st.2.1 ∧ st.2.1 ≤ 60 ∧ I 290 52 = nI st.2.2.length ∧ 2 * st.2.2.length ≤ 2 * st.2.1 + st.1 ∧ (I 290 50 = nI ri ∧ ri < 6 ∧ I 290 56 = 11) ∧ ∀ k e, st.2.2[k]? = some e → I 338 (300 * ri + k) = nI e.1 ∧ I 339 (300 * ri + k) = nI e.2
def Msw (I : Nat → Nat → Int32) (B : Nat → Nat) (n ri : Nat) (F : Int32) : Prop := ¬ F = 0 ∧ (∃ p, p ≤ n ∧ Mr I B n p F) ∧ I 290 50 = nI ri ∧ ri < 6 ∧ I 290 56 = 11
def MqF (I J : Nat → Nat → Int32) (ri : Nat) : Prop := ∀ i k, (i ≠ 290 ∨ (k ≠ 48 ∧ k ≠ 49 ∧ k ≠ 52 ∧ k ≠ 54)) → ((i ≠ 338 ∧ i ≠ 339) ∨ k < 300 * ri ∨ 300 * ri + 300 ≤ k) → J i k = I i k
theorem MqF.rf : MqF I I ri := fun _ _ _ _ => rfl
theorem MqF.tr {J K : Nat → Nat → Int32} (h : MqF I J ri) (g : MqF J K ri) : MqF I K ri := fun i k a b => (g i k a b).trans (h i k a b)
theorem MqF.of {J : Nat → Nat → Int32} (h : MF I J) : MqF I J ri := fun i k a _ => h i k (by omega)
theorem Mst.le (h : Mst I B n ri p st) : st.1 ≤ n ∧ n ≤ 400 ∧ p ≤ st.1 ∧ tok B n st.1 := by
  have hs := skp_le (B := B) (n := n) (p := p)
  rw [h.2.2.1] at hs
  have ht := tok_skp (B := B) h.2.1
  rw [h.2.2.1] at ht
  exact ⟨hs.2 h.2.1, h.1.1.1, hs.1, ht⟩
/-- the mark moves on -/
theorem Mst.mv {J : Nat → Nat → Int32} {p' q : Nat} (h : Mst I B n ri p st) (hj : Mr J B n p' 0) (hp : p' ≤ n) (hq : skp B n p' = q) (hle : st.1 ≤ q) (f : MF I J) : Mst J B n ri p' (q, st.2.1, st.2.2) := by
  obtain ⟨h1x, h2x, h3x, h4x, h5x, h6x, h7x, ⟨h8x, h9x, h10x⟩, h11x⟩ := h
  refine ⟨hj, hp, hq, (f 290 54 (by decide)).trans h4x, h5x, (f 290 52 (by decide)).trans h6x, by show 2 * st.2.2.length ≤ 2 * st.2.1 + q; omega, ⟨(f 290 50 (by decide)).trans h8x, h9x, (f 290 56 (by decide)).trans h10x⟩, fun k e q => ?_⟩
  rw [f 338 _ (by omega), f 339 _ (by omega)]; exact h11x k e q
theorem Mst.wk {J : Nat → Nat → Int32} {p' : Nat} {F : Int32} (h : Mst I B n ri p st) (hF : ¬ F = 0) (hj : Mr J B n p' F) (hp : p' ≤ n) (f : MqF I J ri) : Msw J B n ri F :=
  ⟨hF, ⟨p', hp, hj⟩, (f 290 50 (by decide) (by omega)).trans h.2.2.2.2.2.2.2.1.1, h.2.2.2.2.2.2.2.1.2.1, (f 290 56 (by decide) (by omega)).trans h.2.2.2.2.2.2.2.1.2.2⟩
theorem Msw.mv {J : Nat → Nat → Int32} {p' : Nat} {F : Int32} (h : Msw I B n ri F) (hj : Mr J B n p' F) (hp : p' ≤ n) (f : MqF I J ri) : Msw J B n ri F :=
  ⟨h.1, ⟨p', hp, hj⟩, (f 290 50 (by decide) (by omega)).trans h.2.2.1, h.2.2.2.1, (f 290 56 (by decide) (by omega)).trans h.2.2.2.2⟩
/-- what a reading leaves -/
def mRes (I J : Nat → Nat → Int32) (B : Nat → Nat) (n ri : Nat) (D : Int32 × rS) : Prop := MqF I J ri ∧ ((D.1 = 0 ∧ ∃ p, Mst J B n ri p D.2) ∨ Msw J B n ri D.1)
def mRt (I J : Nat → Nat → Int32) (B : Nat → Nat) (n ri : Nat) (D : Int32 × rS) : Prop := MqF I J ri ∧ ((D.1 = 0 ∧ Mst J B n ri D.2.1 D.2) ∨ Msw J B n ri D.1)
theorem ms_entryW (hM : MW sh R) {F x y : Int32} (hw : Msw I B n ri F) : Ec X 1 201 [.ref 290, .int x, .int y] (sh, I, L, R) (fun r h' => r = none ∧ h' = (sh, I, L, R)) := by
  obtain ⟨h0x, ⟨p, hp, hr⟩, -⟩ := id hw
  refine Ec.of (Nat.le_of_ble_eq_true rfl) ?_
  refine e_aload rfl rfl ?_
  refine e_getIv rfl hM.1 hr.2.2 ?_
  refine e_ifne_t rfl h0x ?_
  exact Eg.ret rfl (by decide) rfl ⟨rfl, rfl⟩
theorem ms_entry (hM : MW sh R) (hr : Mst I B n ri p st) {e : Nat × Nat} (hb : 2 * (st.2.2.length + 1) ≤ 2 * st.2.1 + st.1) : Ec X 1 201 [.ref 290, .int (nI e.1), .int (nI e.2)] (sh, I, L, R) (fun r h' => r = none ∧ ∃ J : Nat → Nat → Int32, h' = (sh, J, L, R) ∧ Mst J B n ri p (st.1, st.2.1, st.2.2 ++ [e]) ∧ MqF I J ri) := by
  have hl := hr.le
  obtain ⟨h1x, h2x, h3x, h4x, h5x, h6x, h7x, ⟨h8x, h9x, h10x⟩, h11x⟩ := id hr
  refine Ec.of (Nat.le_of_ble_eq_true rfl) ?_
  refine e_aload rfl rfl ?_
  refine e_getIv rfl hM.1 h1x.2.2 ?_
  refine e_ifne_f rfl rfl ?_
  refine e_aload rfl rfl ?_
  refine e_getR rfl hM.1 (show R 290 59 = some 338 from (hM.2 47 _ rfl).2) ?_
  refine e_ipush rfl ?_
  refine e_aload rfl rfl ?_
  refine e_getIv rfl hM.1 h8x ?_
  refine e_imul rfl ?_
  rw [show 300 * (nI ri) = nI (300 * ri) from nI_times 300 ri]
  refine e_aload rfl rfl ?_
  refine e_getIv rfl hM.1 h6x ?_
  refine e_iadd rfl ?_
  rw [show (nI (300 * ri)) + (nI st.2.2.length) = nI (300 * ri + st.2.2.length) from nI_add _ _]
  refine e_iload rfl rfl ?_
  refine e_iasJ (t := 300 * ri + st.2.2.length) (n := 1800) rfl (show sh[338]? = some (20, 1800) from (hM.2 47 _ rfl).1) rfl (by omega) (by decide) (fun J1x g1x f1x => ?_)
  refine e_aload rfl rfl ?_
  refine e_getR rfl hM.1 (show R 290 60 = some 339 from (hM.2 48 _ rfl).2) ?_
  refine e_ipush rfl ?_
  refine e_aload rfl rfl ?_
  refine e_getIv rfl hM.1 ((f1x 290 50 (Or.inl (by omega))).trans h8x) ?_
  refine e_imul rfl ?_
  rw [show 300 * (nI ri) = nI (300 * ri) from nI_times 300 ri]
  refine e_aload rfl rfl ?_
  refine e_getIv rfl hM.1 ((f1x 290 52 (Or.inl (by omega))).trans h6x) ?_
  refine e_iadd rfl ?_
  rw [show (nI (300 * ri)) + (nI st.2.2.length) = nI (300 * ri + st.2.2.length) from nI_add _ _]
  refine e_iload rfl rfl ?_
  refine e_iasJ (t := 300 * ri + st.2.2.length) (n := 1800) rfl (show sh[339]? = some (20, 1800) from (hM.2 48 _ rfl).1) rfl (by omega) (by decide) (fun J2x g2x f2x => ?_)
  refine e_aload rfl rfl ?_
  refine e_dupr rfl ?_
  refine e_getIv rfl hM.1 ((f2x 290 52 (Or.inl (by omega))).trans ((f1x 290 52 (Or.inl (by omega))).trans h6x)) ?_
  refine e_ipush rfl ?_
  refine e_iadd rfl ?_
  rw [show (nI st.2.2.length) + 1 = nI (st.2.2.length + 1) from nI_1 _]
  refine e_putIJ rfl hM.1 (fun J3x g3x f3x => ?_)
  have fr : ∀ i k, (i ≠ 290 ∨ k ≠ 52) → ((i ≠ 338 ∧ i ≠ 339) ∨ k ≠ 300 * ri + st.2.2.length) → J3x i k = I i k := fun i k a b => (f3x i k a).trans ((f2x i k (by omega)).trans (f1x i k (by omega)))
  refine Eg.ret rfl (by decide) rfl ⟨rfl, J3x, rfl, ⟨h1x.any (fun k hk => fr _ _ (by omega) (by omega)) (fun k => fr _ _ (by omega) (by omega)), h2x, h3x, (fr _ _ (by omega) (by omega)).trans h4x, h5x, ?_, ?_, ⟨(fr _ _ (by omega) (by omega)).trans h8x, h9x, (fr _ _ (by omega) (by omega)).trans h10x⟩, fun k x q => ?_⟩, fun i k a b => fr i k (by omega) (by omega)⟩
  · show J3x 290 52 = nI (st.2.2 ++ [e]).length
    rw [List.length_append]; exact g3x
  · show 2 * (st.2.2 ++ [e]).length ≤ 2 * st.2.1 + st.1
    rw [List.length_append]; simpa using hb
  · replace q : (st.2.2 ++ [e])[k]? = some x := q
    by_cases ek : k < st.2.2.length
    · rw [List.getElem?_append_left ek] at q
      rw [fr 338 _ (by omega) (by omega), fr 339 _ (by omega) (by omega)]; exact h11x k x q
    · have q2x := (List.getElem?_eq_some_iff.mp q).1
      rw [List.length_append] at q2x
      have e3x : k = st.2.2.length := by simp at q2x; omega
      subst e3x
      rw [List.getElem?_append_right (Nat.le_refl _), Nat.sub_self] at q
      have e4x : e = x := by simpa using q
      rw [← e4x]; exact ⟨(f3x _ _ (by omega)).trans ((f2x _ _ (by omega)).trans g1x), (f3x _ _ (by omega)).trans g2x⟩
theorem ms_cntW (hM : MW sh R) {F : Int32} {q : Nat} (hw : Msw I B n ri F) : Ec X 2 202 [.ref 290, .int (nI q)] (sh, I, L, R) (fun r h' => r = none ∧ ∃ J : Nat → Nat → Int32, h' = (sh, J, L, R) ∧ Msw J B n ri F ∧ MqF I J ri ∧ J 290 48 = I 290 48) := by
  obtain ⟨h0x, ⟨p, hp, hr⟩, h8x⟩ := id hw
  refine Ec.of (Nat.le_of_ble_eq_true rfl) ?_
  refine e_aload rfl rfl ?_
  refine e_getI rfl hM.1 ?_
  refine e_ipush rfl ?_
  refine e_cne_b rfl (fun b6x => ?_) (fun b6x => ?_)
  · refine e_aload rfl rfl ?_
    refine e_dupr rfl ?_
    refine e_getI rfl hM.1 ?_
    refine e_ipush rfl ?_
    refine e_iadd rfl ?_
    refine e_putIJ rfl hM.1 (fun J1x g1x f1x => ?_)
    exact Eg.ret rfl (by decide) rfl ⟨rfl, J1x, rfl, hw.mv (hr.any (fun k hk => f1x _ _ (by omega)) (fun k => f1x _ _ (by omega))) hp (fun i k a b => f1x i k (by omega)), fun i k a b => f1x i k (by omega), f1x 290 48 (by omega)⟩
  · refine e_aload rfl rfl ?_
    refine e_ipush rfl ?_
    refine e_iload rfl rfl ?_
    refine Eg.c3 rfl (by decide) (by decide) rfl (Nat.le_of_ble_eq_true rfl) (xrcv_of rfl hM.1 rfl) ((ms_fails hM hr (k := 3) (q := q)).mono (by decide)) (fun r1x h1x hq => ?_)
    obtain ⟨rfl, K, rfl, k1x, k2x⟩ := hq
    rw [fl_n h0x] at k1x
    refine e_aload rfl rfl ?_
    refine e_dupr rfl ?_
    refine e_getI rfl hM.1 ?_
    refine e_ipush rfl ?_
    refine e_iadd rfl ?_
    refine e_putIJ rfl hM.1 (fun J2x g2x f2x => ?_)
    exact Eg.ret rfl (by decide) rfl ⟨rfl, J2x, rfl, (hw.mv k1x hp (MqF.of k2x)).mv (k1x.any (fun k hk => f2x _ _ (by omega)) (fun k => f2x _ _ (by omega))) hp (fun i k a b => f2x i k (by omega)), (MqF.of k2x).tr (fun i k a b => f2x i k (by omega)), (f2x 290 48 (by omega)).trans (k1x.2.1.trans hr.2.1.symm)⟩
theorem ms_cnt (hM : MW sh R) (hr : Mst I B n ri p st) {q : Nat} (hq4x : q ≤ 400) : Ec X 2 202 [.ref 290, .int (nI q)] (sh, I, L, R) (fun r h' => r = none ∧ ∃ J : Nat → Nat → Int32, h' = (sh, J, L, R) ∧ MqF I J ri ∧ J 290 48 = I 290 48 ∧ ((st.2.1 < 60 ∧ Mst J B n ri p (st.1, st.2.1 + 1, st.2.2)) ∨ (60 ≤ st.2.1 ∧ Msw J B n ri (fl 0 q 3)))) := by
  obtain ⟨h1x, h2x, h3x, h4x, h5x, h6x, h7x, ⟨h8x, h9x, h10x⟩, h11x⟩ := id hr
  refine Ec.of (Nat.le_of_ble_eq_true rfl) ?_
  refine e_aload rfl rfl ?_
  refine e_getIv rfl hM.1 h4x ?_
  refine e_ipush rfl ?_
  refine e_cne_b rfl (fun b6x => ?_) (fun b6x => ?_)
  · refine e_aload rfl rfl ?_
    refine e_dupr rfl ?_
    refine e_getIv rfl hM.1 h4x ?_
    refine e_ipush rfl ?_
    refine e_iadd rfl ?_
    rw [show (nI st.2.1) + 1 = nI (st.2.1 + 1) from nI_1 _]
    refine e_putIJ rfl hM.1 (fun J1x g1x f1x => ?_)
    have e60x : ¬ st.2.1 = 60 := fun e => b6x (by rw [e]; rfl)
    refine Eg.ret rfl (by decide) rfl ⟨rfl, J1x, rfl, fun i k a b => f1x i k (by omega), f1x 290 48 (by omega), Or.inl ⟨by omega, h1x.any (fun k hk => f1x _ _ (by omega)) (fun k => f1x _ _ (by omega)), h2x, h3x, g1x, by show st.2.1 + 1 ≤ 60; omega, (f1x _ _ (by omega)).trans h6x, by show 2 * st.2.2.length ≤ 2 * (st.2.1 + 1) + st.1; omega, ⟨(f1x _ _ (by omega)).trans h8x, h9x, (f1x _ _ (by omega)).trans h10x⟩, fun k x q => ?_⟩⟩
    rw [f1x 338 _ (by omega), f1x 339 _ (by omega)]; exact h11x k x q
  · refine e_aload rfl rfl ?_
    refine e_ipush rfl ?_
    refine e_iload rfl rfl ?_
    refine Eg.c3 rfl (by decide) (by decide) rfl (Nat.le_of_ble_eq_true rfl) (xrcv_of rfl hM.1 rfl) ((ms_fails hM h1x (k := 3) (q := q)).mono (by decide)) (fun r1x h1x hq => ?_)
    obtain ⟨rfl, K, rfl, k1x, k2x⟩ := hq
    refine e_aload rfl rfl ?_
    refine e_dupr rfl ?_
    refine e_getIv rfl hM.1 ((k2x 290 54 (by decide)).trans h4x) ?_
    refine e_ipush rfl ?_
    refine e_iadd rfl ?_
    rw [show (nI st.2.1) + 1 = nI (st.2.1 + 1) from nI_1 _]
    refine e_putIJ rfl hM.1 (fun J2x g2x f2x => ?_)
    have e60x := (nI_eq (b := 60) (by omega) (by decide)).mp b6x
    exact Eg.ret rfl (by decide) rfl ⟨rfl, J2x, rfl, (MqF.of k2x).tr (fun i k a b => f2x i k (by omega)), (f2x 290 48 (by omega)).trans (k1x.2.1.trans h1x.2.1.symm), Or.inr ⟨by omega, (hr.wk (fl_ne (by omega)) k1x h2x (MqF.of k2x)).mv (k1x.any (fun k hk => f2x _ _ (by omega)) (fun k => f2x _ _ (by omega))) h2x (fun i k a b => f2x i k (by omega))⟩⟩
def wtx : List Nat := [6, 10, 11, 12, 13, 14, 15, 16, 4, 17, 18]
theorem wtx_ok : ∀ w, w < 11 → wtx.getD w 0 < 23 ∧ 1 ≤ wtx.getD w 0 ∧ txw.getD (wtx.getD w 0) 0 = wvx.getD w 0 := by decide
theorem ms_wordOf {w : Nat} (hw : w < 11) : Ec X 1 194 [.int (nI w)] h (fun r h' => r = some (.retAddr (wtx.getD w 0 + 1)) ∧ h' = h) := by
  refine Ec.of (Nat.le_of_ble_eq_true rfl) ?_
  refine e_iload rfl rfl ?_
  have cases11 : w = 0 ∨ w = 1 ∨ w = 2 ∨ w = 3 ∨ w = 4 ∨ w = 5 ∨ w = 6 ∨ w = 7 ∨ w = 8 ∨ w = 9 ∨ w = 10 := by omega
  rcases cases11 with rfl | rfl | rfl | rfl | rfl | rfl | rfl | rfl | rfl | rfl | rfl
  · refine e_tsw rfl (by decide) rfl ?_
    refine e_text rfl ?_
    exact Eg.ret rfl (by decide) rfl ⟨rfl, rfl⟩
  · refine e_tsw rfl (by decide) rfl ?_
    refine e_text rfl ?_
    exact Eg.ret rfl (by decide) rfl ⟨rfl, rfl⟩
  · refine e_tsw rfl (by decide) rfl ?_
    refine e_text rfl ?_
    exact Eg.ret rfl (by decide) rfl ⟨rfl, rfl⟩
  · refine e_tsw rfl (by decide) rfl ?_
    refine e_text rfl ?_
    exact Eg.ret rfl (by decide) rfl ⟨rfl, rfl⟩
  · refine e_tsw rfl (by decide) rfl ?_
    refine e_text rfl ?_
    exact Eg.ret rfl (by decide) rfl ⟨rfl, rfl⟩
  · refine e_tsw rfl (by decide) rfl ?_
    refine e_text rfl ?_
    exact Eg.ret rfl (by decide) rfl ⟨rfl, rfl⟩
  · refine e_tsw rfl (by decide) rfl ?_
    refine e_text rfl ?_
    exact Eg.ret rfl (by decide) rfl ⟨rfl, rfl⟩
  · refine e_tsw rfl (by decide) rfl ?_
    refine e_text rfl ?_
    exact Eg.ret rfl (by decide) rfl ⟨rfl, rfl⟩
  · refine e_tsw rfl (by decide) rfl ?_
    refine e_text rfl ?_
    exact Eg.ret rfl (by decide) rfl ⟨rfl, rfl⟩
  · refine e_tsw rfl (by decide) rfl ?_
    refine e_text rfl ?_
    exact Eg.ret rfl (by decide) rfl ⟨rfl, rfl⟩
  · refine e_tswd rfl (by decide) ?_
    refine e_text rfl ?_
    exact Eg.ret rfl (by decide) rfl ⟨rfl, rfl⟩
end MU
