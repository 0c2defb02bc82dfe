/-! A RULE read, the other side: on from clause to clause -/
section MU12x
variable {X : xX} {h : xH} {sh : List (Nat × Nat)} {I : Nat → Nat → Int32} {L : Nat → Nat → Int64} {R : Nat → Nat → Option Nat} {B : Nat → Nat} {n ri p : Nat} {st : rS}
theorem ms_goX (hM : MW sh R) {F : Int32} (hx : Msx I B n ri F) : Ec X 3 221 [.ref 290] (sh, I, L, R) (fun r h' => r = some (.int 0) ∧ ∃ J : Nat → Nat → Int32, h' = (sh, J, L, R) ∧ J 290 49 = F ∧ MF I J) := by
  obtain ⟨h0x, ⟨p, hp, hm⟩, -⟩ := id hx
  have hn := hm.1.1
  refine Ec.of (Nat.le_of_ble_eq_true rfl) ?_
  refine e_aload rfl rfl ?_
  refine Eg.c1 rfl (by decide) (by decide) rfl (Nat.le_of_ble_eq_true rfl) (xrcv_of rfl hM.1 rfl) ((ms_blanks hM hm (by omega)).mono (by decide)) (fun r1x h1x hq => ?_)
  obtain ⟨rfl, J, rfl, a1x, a2x⟩ := hq
  refine e_aload rfl rfl ?_
  refine e_getIv rfl hM.1 a1x.2.2 ?_
  refine e_ifne_t rfl h0x ?_
  refine e_aload rfl rfl ?_
  refine e_getIv rfl hM.1 a1x.2.2 ?_
  refine e_ifne_t rfl h0x ?_
  refine e_ipush rfl ?_
  refine e_istore rfl ?_
  refine e_aload rfl rfl ?_
  refine e_dupr rfl ?_
  refine e_getIv rfl hM.1 a1x.2.1 ?_
  refine e_ipush rfl ?_
  refine e_iadd rfl ?_
  refine e_putIJ rfl hM.1 (fun J21x g21x f21x => ?_)
  refine e_iload rfl rfl ?_
  exact Eg.ret rfl (by decide) rfl ⟨rfl, J21x, rfl, (f21x 290 49 (by omega)).trans a1x.2.2, a2x.tr (fun i k q => f21x i k (by omega))⟩
/-- a rule in the other side's memory -/
def MuV (I : Nat → Nat → Int32) (ri : Nat) (cd : List (Nat × Nat)) (cl : List (Nat × Nat × Nat)) : Prop := (∀ k e, cd[k]? = some e → I 338 (300 * ri + k) = nI e.1 ∧ I 339 (300 * ri + k) = nI e.2) ∧ Mcl I ri cl
theorem Mcl.fr {J : Nat → Nat → Int32} {cl : List (Nat × Nat × Nat)} (h : Mcl I ri cl) (e : ∀ i k, i = 341 ∨ i = 342 ∨ i = 343 ∨ i = 345 → J i k = I i k) : Mcl J ri cl := by
  intro j c q
  rw [e 341 _ (by omega), e 342 _ (by omega), e 343 _ (by omega), e 345 _ (by omega)]; exact h j c q
theorem Mr_goX {f : Int32} {q : Nat} (h : goB B n q f = true) (hB : ∀ j, j < n → B j < 256) : q < n ∧ skp B n (q + 1) = nxt B n q := by
  obtain ⟨-, a, b⟩ := (go_59 hB).mp h
  exact nxt_c (c := 59) hB (by decide) (by decide) (by decide) (by decide) ((sgM_eq (c := 59) hB (by decide)).mpr ⟨a, b⟩)
theorem ms_ruleLoop (hM : MW sh R) {Q : Option Value → xH → Prop} : ∀ (k p : Nat) (st : rS) (cl : List (Nat × Nat × Nat)) (I : Nat → Nat → Int32), k + cl.length = 13 → cl.length ≤ 12 → Mst I B n ri p st → I 290 53 = nI 0 → Mcl I ri cl →
    (∀ (J : Nat → Nat → Int32) (i : Nat), MqC I J ri → i ≤ 13 → J 290 49 = (rRL B n k st cl).1 → ((rRL B n k st cl).1 = 0 → i = (rRL B n k st cl).2.2.length ∧ MuV J ri (rRL B n k st cl).2.1.2.2 (rRL B n k st cl).2.2) → Eg X xTc 12 226 47 [(0, .ref 290), (1, .int (nI i)), (2, .int 0)] [] (sh, J, L, R) Q) →
    Eg X xTc 12 226 27 [(0, .ref 290), (1, .int (nI cl.length)), (2, .int 1)] [] (sh, I, L, R) Q := by
  intro k
  induction k with
  | zero => intro p st cl I hk hl; omega
  | succ k ih =>
    intro p st cl I hk hl hr h53x hc hend
    obtain ⟨hsn, hn, hps, htk⟩ := hr.le
    have hbb := hr.bb
    refine e_iload rfl rfl ?_
    refine e_ifeq_f rfl (by decide) ?_
    refine e_aload rfl rfl ?_
    refine e_iload rfl rfl ?_
    refine Eg.c2 rfl (by decide) (by decide) rfl (Nat.le_of_ble_eq_true rfl) (xrcv_of rfl hM.1 rfl) ((ms_clause hM hr h53x hc hl).mono (by decide)) (fun r1x h1x hq => ?_)
    obtain ⟨rfl, K1x, rfl, q1x, hz⟩ := hq
    rcases hz with ⟨e1x, ⟨p1x, c1x⟩, y1x, d1x⟩ | v1x
    · have l12x := rCl_12 hsn hn e1x
      have hp1x := c1x.2.1
      have hs1x := c1x.2.2.1
      refine e_iinc rfl rfl ?_
      refine e_aload rfl rfl ?_
      refine Eg.c1 rfl (by decide) (by decide) rfl (Nat.le_of_ble_eq_true rfl) (xrcv_of rfl hM.1 rfl) ((ms_goesOn hM c1x.1 hp1x).mono (by decide)) (fun r1x h1x hq => ?_)
      obtain ⟨rfl, G, rfl, g1x, g2x⟩ := hq
      rw [hs1x] at g1x ⊢
      refine e_istore rfl ?_
      refine e_goto rfl ?_
      by_cases hg : goB B n (rCl B n cl.length st).2.1.1 0 = true
      · rw [yn_t hg]
        rw [goF_t hg] at g1x
        refine Eg.pk [0, 1, 2] [2, 1, 0] rfl (by decide) ?_
        rw [nI_1]
        have eD : rRL B n (k + 1) st cl = rRL B n k (goN B n (rCl B n cl.length st).2.1) (cl ++ [clE B n cl.length st]) := by rw [rRL, if_neg (fun q => q e1x), if_pos hg]
        have el : (cl ++ [clE B n cl.length st]).length = cl.length + 1 := by simp
        obtain ⟨lt9x, nx9x⟩ := Mr_goX hg hbb
        have nl9x := nxt_le (B := B) (n := n) (p := (rCl B n cl.length st).2.1.1) (by omega)
        have c2x : Mst G B n ri ((rCl B n cl.length st).2.1.1 + 1) (goN B n (rCl B n cl.length st).2.1) := c1x.mv g1x (by omega) nx9x nl9x.1 g2x
        rw [← el]
        refine ih _ (goN B n (rCl B n cl.length st).2.1) (cl ++ [clE B n cl.length st]) G (by rw [el]; omega) (by rw [el]; omega) c2x ((g2x 290 53 (by decide)).trans y1x) (d1x.fr (fun i k h => g2x i k (by omega))) ?_
        intro J i a b c d
        rw [← eD] at c d
        exact hend J i ((q1x.tr (fun i k x y z w => g2x i k (by omega))).tr a) b c d
      · rw [yn_f hg]
        refine e_iload rfl rfl ?_
        refine e_ifeq_t rfl rfl ?_
        refine Eg.pk [0, 1, 2] [2, 1, 0] rfl (by decide) ?_
        rw [nI_1]
        have eD : rRL B n (k + 1) st cl = (goF B n (rCl B n cl.length st).2.1.1 0, (rCl B n cl.length st).2.1, cl ++ [clE B n cl.length st]) := by rw [rRL, if_neg (fun q => q e1x), if_neg hg]
        refine hend G (cl.length + 1) (q1x.tr (fun i k x y z w => g2x i k (by omega))) (by omega) (by rw [eD]; exact g1x.2.2) (fun _ => ?_)
        rw [eD]
        refine ⟨by simp, fun k e q => ?_, d1x.fr (fun i k h => g2x i k (by omega))⟩
        rw [g2x 338 _ (by omega), g2x 339 _ (by omega)]; exact c1x.2.2.2.2.2.2.2.2 k e q
    · have z1x := v1x.1
      refine e_iinc rfl rfl ?_
      refine e_aload rfl rfl ?_
      refine Eg.c1 rfl (by decide) (by decide) rfl (Nat.le_of_ble_eq_true rfl) (xrcv_of rfl hM.1 rfl) ((ms_goX hM v1x).mono (by decide)) (fun r1x h1x hq => ?_)
      obtain ⟨rfl, G, rfl, g1x, g2x⟩ := hq
      refine e_istore rfl ?_
      refine e_goto rfl ?_
      refine e_iload rfl rfl ?_
      refine e_ifeq_t rfl rfl ?_
      refine Eg.pk [0, 1, 2] [2, 1, 0] rfl (by decide) ?_
      rw [nI_1]
      have eD : (rRL B n (k + 1) st cl).1 = (rCl B n cl.length st).1 := by rw [rRL, if_pos z1x]
      exact hend G (cl.length + 1) (q1x.tr (fun i k x y z w => g2x i k (by omega))) (by omega) (by rw [eD]; exact g1x) (fun e => absurd (eD ▸ e) z1x)
end MU12x
