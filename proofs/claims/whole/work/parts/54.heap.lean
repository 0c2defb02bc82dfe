/-! WRITES that name the new heap -/
section HP
variable {X : xX} {T : Nat → Nat → Option xI} {d k pc a b g nx i j n m : Nat} {c : Int32} {q : Int64} {l : xL} {st : List Value} {sh : List (Nat × Nat)} {I : Nat → Nat → Int32} {L : Nat → Nat → Int64} {R : Nat → Nat → Option Nat} {Q : Option Value → xH → Prop} {x y v : Int32} {z w u : Int64}
theorem xu_o {α : Type} {I : Nat → Nat → α} {i k j m : Nat} {v : α} (h : j ≠ i ∨ m ≠ k) : xu I i k v j m = I j m := by
  rcases h with h | h
  · exact xu_i h
  · exact xu_k h
theorem e_putIJ (hi : T k pc = some (51, a, b, g, c, q, nx)) (hs : sh[i]? = some (b, n)) (kk : ∀ J : Nat → Nat → Int32, J i a = v → (∀ p t, p ≠ i ∨ t ≠ a → J p t = I p t) → Eg X T d k nx l st (sh, J, L, R) Q) : Eg X T d k pc l (.int v :: .ref i :: st) (sh, I, L, R) Q :=
  e_putI hi hs (kk _ xu_at (fun _ _ h => xu_o h))
theorem e_putZJ (hi : T k pc = some (54, a, b, g, c, q, nx)) (hs : sh[i]? = some (b, n)) (hv : v = 0 ∨ v = 1) (kk : ∀ J : Nat → Nat → Int32, J i a = v → (∀ p t, p ≠ i ∨ t ≠ a → J p t = I p t) → Eg X T d k nx l st (sh, J, L, R) Q) : Eg X T d k pc l (.int v :: .ref i :: st) (sh, I, L, R) Q :=
  e_putZ hi hs hv (kk _ xu_at (fun _ _ h => xu_o h))
theorem e_iasJ (hi : T k pc = some (59, a, b, g, c, q, nx)) (hs : sh[i]? = some (20, n)) {t : Nat} (ht : x = nI t) (hx : t < n) (h31 : n < 2 ^ 31) (kk : ∀ J : Nat → Nat → Int32, J i t = v → (∀ p r, p ≠ i ∨ r ≠ t → J p r = I p r) → Eg X T d k nx l st (sh, J, L, R) Q) : Eg X T d k pc l (.int v :: .int x :: .ref i :: st) (sh, I, L, R) Q :=
  e_iasn hi hs ht hx h31 (kk _ xu_at (fun _ _ h => xu_o h))
theorem e_zasJ (hi : T k pc = some (62, a, b, g, c, q, nx)) (hs : sh[i]? = some (22, n)) {t : Nat} (ht : x = nI t) (hx : t < n) (h31 : n < 2 ^ 31) (hv : v = 0 ∨ v = 1) (kk : ∀ J : Nat → Nat → Int32, J i t = v → (∀ p r, p ≠ i ∨ r ≠ t → J p r = I p r) → Eg X T d k nx l st (sh, J, L, R) Q) : Eg X T d k pc l (.int v :: .int x :: .ref i :: st) (sh, I, L, R) Q :=
  e_zasn hi hs ht hx h31 hv (kk _ xu_at (fun _ _ h => xu_o h))
theorem e_lasJ (hi : T k pc = some (60, a, b, g, c, q, nx)) (hs : sh[i]? = some (21, n)) {t : Nat} (ht : x = nI t) (hx : t < n) (h31 : n < 2 ^ 31) (kk : ∀ J : Nat → Nat → Int64, J i t = u → (∀ p r, p ≠ i ∨ r ≠ t → J p r = L p r) → Eg X T d k nx l st (sh, I, J, R) Q) : Eg X T d k pc l (.long u :: .int x :: .ref i :: st) (sh, I, L, R) Q :=
  e_lasn hi hs ht hx h31 (kk _ xu_at (fun _ _ h => xu_o h))
theorem e_copyJ {r : Nat} (hi : T k pc = some (71, a, b, g, c, q, nx)) (hs : sh[i]? = some (20, n)) (hj : sh[j]? = some (20, m)) (hv : v = nI r) (h1 : r ≤ n) (h2 : r ≤ m) (hr : r < 2 ^ 31) (hc : (st.map fun v => v.category).sum ≤ 8) (kk : ∀ J : Nat → Nat → Int32, (∀ t, t < r → J j t = I i t) → (∀ p t, p ≠ j ∨ r ≤ t → J p t = I p t) → Eg X T d k nx l st (sh, J, L, R) Q) : Eg X T d k pc l (.int v :: .int 0 :: .ref j :: .int 0 :: .ref i :: st) (sh, I, L, R) Q := by
  subst hv
  have e0 : (0 : Int32).toNatClampNeg = 0 := by decide
  have er : (nI r).toNatClampNeg = r := nI_clamp hr
  refine e_copy hi hs hj ⟨by decide, by decide, nI_pos hr⟩ (by rw [e0, er]; omega) hc (kk _ (fun t ht => ?_) (fun p t h => ?_))
  · rw [e0, er]; rw [if_pos ⟨rfl, by omega, by omega⟩]; rw [Nat.zero_add, Nat.sub_zero]
  · rw [e0, er]; rw [if_neg (by rintro ⟨h3, h4, h5⟩; rcases h with h | h <;> omega)]
end HP
