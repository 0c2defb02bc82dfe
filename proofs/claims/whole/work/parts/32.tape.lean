/-! THE TAPE of the class -/
theorem xu_at {α : Type} {I : Nat → Nat → α} {i k : Nat} {v : α} : xu I i k v i k = v := by simp [xu]
theorem xu_i {α : Type} {I : Nat → Nat → α} {i k j m : Nat} {v : α} (h : j ≠ i) : xu I i k v j m = I j m := by simp [xu, h]
theorem xu_k {α : Type} {I : Nat → Nat → α} {i k j m : Nat} {v : α} (h : m ≠ k) : xu I i k v j m = I j m := by simp [xu, h]
theorem xsh_ne {sh : List (Nat × Nat)} {i j : Nat} {p q : Nat × Nat} (h1 : sh[i]? = some p) (h2 : sh[j]? = some q) (h : p ≠ q) : i ≠ j := by
  rintro rfl
  exact h (Option.some.inj (h1.symm.trans h2))
/-- a number's byte, s bits down -/
def tp_byte (v s : Int32) : Int32 := (v.toUInt32 >>> (s.toUInt32 &&& Int32.toUInt32 31)).toInt32 &&& 255
section TP
variable {X : xX} {d : Nat} {sh : List (Nat × Nat)} {I : Nat → Nat → Int32} {L : Nat → Nat → Int64} {R : Nat → Nat → Option Nat} {Q : Option Value → xH → Prop} {t b : Nat} {v s : Int32}
theorem tp_it (hT : sh[t]? = some (9, 8)) (hB : sh[b]? = some (20, 400)) (hR : R t 0 = some b) {n : Nat} (hn : n < 400) (hI : I t 1 = nI n) (hs : ¬ s < 0)
    (kk : ∀ J : Nat → Nat → Int32, J t 1 = nI (n + 1) → J b n = tp_byte v s → (∀ j, j ≠ n → J b j = I b j) → (∀ i m, i ≠ b → (i ≠ t ∨ m ≠ 1) → J i m = I i m) → Eg X xTc d 109 3 [(2, .int (s + -8)), (0, .ref t), (1, .int v)] [] (sh, J, L, R) Q) : Eg X xTc d 109 3 [(2, .int s), (0, .ref t), (1, .int v)] [] (sh, I, L, R) Q := by
  have htb : t ≠ b := xsh_ne hT hB (by decide)
  have hlt : ¬ (400 : Int32) ≤ I t 1 := by rw [hI]; exact nI_ge hn (by decide)
  have hin : vp_in (I t 1) 400 := by rw [hI]; exact vp_in_nI hn (by decide)
  refine e_iload rfl rfl ?_
  refine e_iflt_f rfl hs ?_
  refine e_aload rfl rfl ?_
  refine e_getI rfl (by assumption) ?_
  refine e_ipush rfl ?_
  refine e_cge_f rfl hlt ?_
  refine e_aload rfl rfl ?_
  refine e_getR rfl (by assumption) (by assumption) ?_
  refine e_aload rfl rfl ?_
  refine e_getI rfl (by assumption) ?_
  refine e_iload rfl rfl ?_
  refine e_iload rfl rfl ?_
  refine e_iushr rfl ?_
  refine e_ipush rfl ?_
  refine e_iand rfl ?_
  refine e_iast rfl (by assumption) hin ?_
  refine e_aload rfl rfl ?_
  refine e_dupr rfl ?_
  refine e_getI rfl (by assumption) ?_
  refine e_ipush rfl ?_
  refine e_iadd rfl ?_
  refine e_putI rfl (by assumption) ?_
  refine e_iinc rfl rfl ?_
  refine e_goto rfl ?_
  refine kk _ ?_ ?_ ?_ ?_
  · rw [xu_at, xu_i htb, hI]; exact (nI_succ n).symm
  · rw [xu_i (Ne.symm htb), hI, nI_clamp (by omega), xu_at]; rfl
  · intro j hj
    rw [xu_i (Ne.symm htb), hI, nI_clamp (by omega), xu_k hj]
  · intro i m hi hm
    rcases hm with hm | hm
    · rw [xu_i hm, xu_i hi]
    · rw [xu_k hm, xu_i hi]
/-- addFour: four bytes behind the others -/
theorem tp_addFour (hT : sh[t]? = some (9, 8)) (hB : sh[b]? = some (20, 400)) (hR : R t 0 = some b) {n : Nat} (hn : n + 4 ≤ 400) (hI : I t 1 = nI n) : Ec X 1 109 [.ref t, .int v] (sh, I, L, R) (fun r h => r = none ∧ ∃ J : Nat → Nat → Int32, h = (sh, J, L, R) ∧ J t 1 = nI (n + 4) ∧ (∀ j, J b j = if j = n then tp_byte v 24 else if j = n + 1 then tp_byte v 16 else if j = n + 2 then tp_byte v 8 else if j = n + 3 then tp_byte v 0 else I b j) ∧ (∀ i m, i ≠ b → (i ≠ t ∨ m ≠ 1) → J i m = I i m)) := by
  refine Ec.of (Nat.le_of_ble_eq_true rfl) ?_
  refine e_ipush rfl ?_
  refine e_istore rfl ?_
  refine tp_it hT hB hR (n := n) (by omega) hI (by decide) (fun J1 a1 b1 c1 d1 => ?_)
  refine tp_it hT hB hR (n := n + 1) (by omega) a1 (by decide) (fun J2 a2 b2 c2 d2 => ?_)
  refine tp_it hT hB hR (n := n + 2) (by omega) a2 (by decide) (fun J3 a3 b3 c3 d3 => ?_)
  refine tp_it hT hB hR (n := n + 3) (by omega) a3 (by decide) (fun J4 a4 b4 c4 d4 => ?_)
  refine e_iload rfl rfl ?_
  refine e_iflt_t rfl (by decide) ?_
  refine Eg.ret rfl (by decide) rfl ⟨rfl, J4, rfl, a4, fun j => ?_, fun i m hi hm => ?_⟩
  · by_cases h3 : j = n + 3
    · subst h3
      rw [b4, if_neg (by omega), if_neg (by omega), if_neg (by omega), if_pos rfl]; rfl
    rw [c4 j h3]
    by_cases h2 : j = n + 2
    · subst h2
      rw [b3, if_neg (by omega), if_neg (by omega), if_pos rfl]; rfl
    rw [c3 j h2]
    by_cases h1 : j = n + 1
    · subst h1
      rw [b2, if_neg (by omega), if_pos rfl]; rfl
    rw [c2 j h1]
    by_cases h0 : j = n
    · subst h0
      rw [b1, if_pos rfl]
    rw [c1 j h0, if_neg h0, if_neg h1, if_neg h2, if_neg h3]
  · rw [d4 i m hi hm, d3 i m hi hm, d2 i m hi hm, d1 i m hi hm]
end TP
