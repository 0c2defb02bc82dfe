/-! A RULE read, the other side: on from clause to clause -/
section MU12x
variable {X : xX} {h : xH} {sh : List (Nat × Nat)} {I : Nat → Nat → Int32} {L : Nat → Nat → Int64} {R : Nat → Nat → Option Nat} {B : Nat → Nat} {n ri p : Nat} {st : rS}
theorem ms_goX (hM : MW sh R) {F : Int32} (hx : Msx I B n ri F) : Ec X 3 221 [.ref 290] (sh, I, L, R) (fun r h' => r = some (.int 0) ∧ ∃ J : Nat → Nat → Int32, h' = (sh, J, L, R) ∧ J 290 49 = F ∧ MF I J) := by
  obtain ⟨h0x, ⟨p, hp, hm⟩, -⟩ := id hx
  have hn := hm.1.1
  refine Ec.of (Nat.le_of_ble_eq_true rfl) ?_
  refine e_aload rfl rfl ?_
  refine Eg.c1 rfl (by decide) (by decide) rfl (Nat.le_of_ble_eq_true rfl) (xrcv_of rfl hM.1 rfl) ((ms_blanks hM hm (by omega)).mono (by decide)) (fun r1x h1x hq => ?_)
  obtain ⟨rfl, J, rfl, a1x, a2x⟩ := hq
  refine e_aload rfl rfl ?_
  refine e_getIv rfl hM.1 a1x.2.2 ?_
  refine e_ifne_t rfl h0x ?_
  refine e_aload rfl rfl ?_
  refine e_getIv rfl hM.1 a1x.2.2 ?_
  refine e_ifne_t rfl h0x ?_
  refine e_ipush rfl ?_
  refine e_istore rfl ?_
  refine e_aload rfl rfl ?_
  refine e_dupr rfl ?_
  refine e_getIv rfl hM.1 a1x.2.1 ?_
  refine e_ipush rfl ?_
  refine e_iadd rfl ?_
  refine e_putIJ rfl hM.1 (fun J21x g21x f21x => ?_)
  refine e_iload rfl rfl ?_
  exact Eg.ret rfl (by decide) rfl ⟨rfl, J21x, rfl, (f21x 290 49 (by omega)).trans a1x.2.2, a2x.tr (fun i k q => f21x i k (by omega))⟩
end MU12x
