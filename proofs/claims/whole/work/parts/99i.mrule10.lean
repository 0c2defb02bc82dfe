/-! A RULE read, the other side: clauses -/
section MU10x
variable {X : xX} {h : xH} {sh : List (Nat × Nat)} {I : Nat → Nat → Int32} {L : Nat → Nat → Int64} {R : Nat → Nat → Option Nat} {B : Nat → Nat} {n ri p : Nat} {st : rS}
variable {cl : List (Nat × Nat × Nat)}
def Mcl (I : Nat → Nat → Int32) (ri : Nat) (cl : List (Nat × Nat × Nat)) : Prop := ∀ j c, cl[j]? = some c → I 341 (12 * ri + j) = nI c.1 ∧ I 342 (12 * ri + j) = nI c.2.1 ∧ I 343 (12 * ri + j) = nI c.2.2 ∧ I 345 (12 * ri + j) = yn (c.1 < c.2.1)
def MqC (I J : Nat → Nat → Int32) (ri : Nat) : Prop := ∀ i k, (i ≠ 290 ∨ (k ≠ 48 ∧ k ≠ 49 ∧ k ≠ 52 ∧ k ≠ 53 ∧ k ≠ 54 ∧ k ≠ 55)) → ((i ≠ 338 ∧ i ≠ 339) ∨ k < 300 * ri ∨ 300 * ri + 300 ≤ k) → i ≠ 344 → ((i ≠ 341 ∧ i ≠ 342 ∧ i ≠ 343 ∧ i ≠ 345) ∨ k < 12 * ri ∨ 12 * ri + 12 ≤ k) → J i k = I i k
theorem MqC.rf : MqC I I ri := fun _ _ _ _ _ _ => rfl
theorem MqC.tr {J K : Nat → Nat → Int32} (h : MqC I J ri) (g : MqC J K ri) : MqC I K ri := fun i k a b c d => (g i k a b c d).trans (h i k a b c d)
theorem Mcl.snoc {J : Nat → Nat → Int32} {c : Nat × Nat × Nat} (h : Mcl I ri cl) (e : ∀ i k, i = 341 ∨ i = 342 ∨ i = 343 ∨ i = 345 → k < 12 * ri + cl.length → J i k = I i k) (h1x : J 341 (12 * ri + cl.length) = nI c.1) (h2x : J 342 (12 * ri + cl.length) = nI c.2.1) (h3x : J 343 (12 * ri + cl.length) = nI c.2.2) (h4x : J 345 (12 * ri + cl.length) = yn (c.1 < c.2.1)) : Mcl J ri (cl ++ [c]) := by
  intro j x q
  by_cases ek : j < cl.length
  · rw [List.getElem?_append_left ek] at q
    have := h j x q
    rw [e 341 _ (by omega) (by omega), e 342 _ (by omega) (by omega), e 343 _ (by omega) (by omega), e 345 _ (by omega) (by omega)]; exact this
  · have q2x := (List.getElem?_eq_some_iff.mp q).1
    rw [List.length_append] at q2x
    have e3x : j = cl.length := by simp at q2x; omega
    subst e3x
    rw [List.getElem?_append_right (Nat.le_refl _), Nat.sub_self] at q
    have e4x : c = x := by simpa using q
    rw [← e4x]; exact ⟨h1x, h2x, h3x, h4x⟩
theorem rG.grow {a b : rS} {k : Int} {y : List Bool} {z : Bool} (h : rG B n a b k [] (z :: y)) : a.2.2.length < b.2.2.length := by
  obtain ⟨s1x, h1x, h2x, h3x, h4x, h5x, h6x, h7x, h8x, h9x⟩ := h
  rw [h1x, List.length_append]
  cases s1x with
  | nil => have := h9x []; unfold tev at this; cases this
  | cons e l => simp
theorem Msx.fr {J : Nat → Nat → Int32} {F : Int32} (h : Msx I B n ri F) (f : ∀ i k, (i = 290 ∧ k ≠ 53 ∧ k ≠ 55) ∨ i = 337 → J i k = I i k) : Msx J B n ri F := by
  obtain ⟨h0x, ⟨p, hp, hm⟩, h8x, h9x, h10x⟩ := h
  exact ⟨h0x, ⟨p, hp, hm.any (fun k hk => f _ _ (by omega)) (fun k => f _ _ (by omega))⟩, (f _ _ (by omega)).trans h8x, h9x, (f _ _ (by omega)).trans h10x⟩
theorem ms_takes (hM : MW sh R) (hr : Mst I B n ri p st) : Ec X 6 200 [.ref 290, .retAddr 20] (sh, I, L, R) (fun r h' => r = some (.int (yn (wIs B n st.1 8 = true))) ∧ ∃ J : Nat → Nat → Int32, h' = (sh, J, L, R) ∧ MqF I J ri ∧ (wIs B n st.1 8 = true → ∃ p', Mst J B n ri p' (goN B n st)) ∧ (¬ wIs B n st.1 8 = true → Mst J B n ri st.1 st)) := by
  obtain ⟨hsn, hn, hps, htk⟩ := hr.le
  have nl := nxt_le (B := B) (n := n) (p := st.1) hsn
  refine Ec.of (Nat.le_of_ble_eq_true rfl) ?_
  refine e_aload rfl rfl ?_
  refine Eg.c1 rfl (by decide) (by decide) rfl (Nat.le_of_ble_eq_true rfl) (xrcv_of rfl hM.1 rfl) ((ms_blS hM hr).mono (by decide)) (fun r1x h1x hq => ?_)
  obtain ⟨rfl, J, rfl, c1x, k1x⟩ := hq
  refine e_aload rfl rfl ?_
  refine e_aloadq rfl rfl ?_
  refine Eg.p2 rfl (by decide) (by decide) rfl (Nat.le_of_ble_eq_true rfl) (xrcv_of rfl hM.1 rfl) ((ms_stood hM c1x.1 (by omega) (j := 19) (w := 8) (by decide) (by decide) rfl).mono (by decide)) ?_
  refine e_istore rfl ?_
  refine e_aload rfl rfl ?_
  refine e_dupr rfl ?_
  refine e_getIv rfl hM.1 c1x.1.2.1 ?_
  refine e_iload rfl rfl ?_
  refine e_ifeq_b rfl (fun b16x => ?_) (fun b16x => ?_)
  · replace b16x := yn_0.mp b16x
    refine e_ipush rfl ?_
    refine e_iadd rfl ?_
    rw [show (nI st.1) + 0 = nI st.1 from (Int32.add_zero _)]
    refine e_putIJ rfl hM.1 (fun J21x g21x f21x => ?_)
    refine e_iload rfl rfl ?_
    have mf : MF J J21x := fun i k a => f21x i k (by omega)
    have m2x : Mr J21x B n st.1 0 := c1x.1.fr mf g21x ((f21x 290 49 (by decide)).trans c1x.1.2.2)
    exact Eg.retZ rfl yn_01 ⟨rfl, J21x, rfl, k1x.tr (MqF.of mf), fun e => absurd e b16x, fun _ => c1x.mv m2x hsn htk.2 (Nat.le_refl _) mf⟩
  · replace b16x := yn_n0.mp b16x
    refine e_aloadq rfl rfl ?_
    refine Eg.p1 rfl (by decide) (by decide) rfl (Nat.le_of_ble_eq_true rfl) (xrcv_oft rfl (by omega)) ((tx_len (j := 19) (by decide)).mono (by decide)) ?_
    rw [show nI (xlen.getD 19 0) = nI (wln 8) from by decide]
    refine e_goto rfl ?_
    refine e_iadd rfl ?_
    rw [show (nI st.1) + (nI (wln 8)) = nI (st.1 + wln 8) from nI_add _ _]
    refine e_putIJ rfl hM.1 (fun J22x g22x f22x => ?_)
    refine e_iload rfl rfl ?_
    have mf : MF J J22x := fun i k a => f22x i k (by omega)
    have m2x : Mr J22x B n (st.1 + wln 8) 0 := c1x.1.fr mf g22x ((f22x 290 49 (by decide)).trans c1x.1.2.2)
    have wn := wIs_nxt (w := 8) (by decide) b16x
    exact Eg.retZ rfl yn_01 ⟨rfl, J22x, rfl, k1x.tr (MqF.of mf), fun _ => ⟨_, c1x.mv m2x wn.1 wn.2 nl.1 mf⟩, fun e => absurd b16x e⟩
end MU10x
