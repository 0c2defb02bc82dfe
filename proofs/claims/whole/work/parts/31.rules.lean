/-! RUNS WITH FUEL ENOUGH: rules, goal first, a rule an instruction -/
def Ec (X : xX) (d k : Nat) (as : List Value) (h : xH) (Q : Option Value → xH → Prop) : Prop := ∃ (r : Option Value) (h' : xH), Q r h' ∧ ∃ n, ∀ f, n ≤ f → xcall X xSWb xSLb xTc xMb f d k as h = some (r, h')
def Eg (X : xX) (T : Nat → Nat → Option xI) (d k : Nat) (pc : Nat) (l : xL) (st : List Value) (h : xH) (Q : Option Value → xH → Prop) : Prop := ∃ (r : Option Value) (h' : xH), Q r h' ∧ ∃ n, ∀ f g, n ≤ f → n ≤ g → xgo X xSWb xSLb T xMb (xcall X xSWb xSLb xTc xMb g d) f k (pc, l, st, h) = some (r, h')
theorem xgo_mono {X : xX} {SW : xSwT} {SL : xSwL} {T : Nat → Nat → Option xI} {M : xM} {c1 c2 : Nat → List Value → xH → Option (Option Value × xH)} (hc : ∀ a as h r, c1 a as h = some r → c2 a as h = some r) : ∀ (f k : Nat) (F : xF) (r : Option Value × xH), xgo X SW SL T M c1 f k F = some r → xgo X SW SL T M c2 f k F = some r := by
  intro f
  induction f with
  | zero => intro k F r h; cases h
  | succ f ih =>
    intro k F r h
    rw [xgo] at h ⊢
    split at h
    · cases h
    · rename_i i hi
      split at h
      · rename_i h80
        rw [if_pos h80]
        split at h
        · rename_i G hG
          first
            | exact ih _ _ _ h
            | (rw [hG]; exact ih _ _ _ h)
        · cases h
      · rename_i h80
        rw [if_neg h80]
        split at h
        · rename_i h90
          rw [if_pos h90]
          split at h
          · rename_i hq
            rw [if_pos hq]
            split at h
            · rename_i q hq2
              rw [hc _ _ _ _ hq2]
              exact ih _ _ _ h
            · cases h
          · cases h
        · rename_i h90
          rw [if_neg h90]
          exact h
theorem xcall_succ {X : xX} {SW : xSwT} {SL : xSwL} {T : Nat → Nat → Option xI} {M : xM} {f : Nat} : ∀ (d k : Nat) (as : List Value) (h : xH) (r : Option Value × xH), xcall X SW SL T M f d k as h = some r → xcall X SW SL T M f (d + 1) k as h = some r := by
  intro d
  induction d with
  | zero => intro k as h r hh; cases hh
  | succ d ih =>
    intro k as h r hh
    rw [xcall] at hh ⊢
    split at hh
    · rename_i hs
      rw [if_pos hs]
      exact xgo_mono (fun a as h r hq => ih a as h r hq) _ _ _ _ hh
    · cases hh
theorem Ec.succ {X : xX} {d k : Nat} {as : List Value} {h : xH} {Q : Option Value → xH → Prop} (hh : Ec X d k as h Q) : Ec X (d + 1) k as h Q := by
  obtain ⟨r, h', hQ, n, hn⟩ := hh
  exact ⟨r, h', hQ, n, fun f hf => xcall_succ _ _ _ _ _ (hn f hf)⟩
theorem Ec.mono {X : xX} {d e k : Nat} {as : List Value} {h : xH} {Q : Option Value → xH → Prop} (hde : d ≤ e) (hh : Ec X d k as h Q) : Ec X e k as h Q := by
  induction hde with
  | refl => exact hh
  | step _ ih => exact ih.succ
theorem Ec.imp {X : xX} {d k : Nat} {as : List Value} {h : xH} {Q Q' : Option Value → xH → Prop} (hh : Ec X d k as h Q) (hq : ∀ r h', Q r h' → Q' r h') : Ec X d k as h Q' := by
  obtain ⟨r, h', hQ, n, hn⟩ := hh
  exact ⟨r, h', hq r h' hQ, n, hn⟩
theorem Ec.of {X : xX} {d k : Nat} {as : List Value} {h : xH} {Q : Option Value → xH → Prop} (hs : (lg_sl as).length ≤ (xMb k).2.2) (hh : Eg X xTc d k 0 (lv_args 0 as) [] h Q) : Ec X (d + 1) k as h Q := by
  obtain ⟨r, h', hQ, n, hn⟩ := hh
  refine ⟨r, h', hQ, n, fun f hf => ?_⟩
  rw [xcall, if_pos hs]
  exact hn f f hf hf
section XE
variable {X : xX} {T : Nat → Nat → Option xI} {d k pc : Nat} {l : xL} {st : List Value} {h : xH} {Q : Option Value → xH → Prop}
theorem Eg.step {op a b g nx pc1 : Nat} {c : Int32} {q : Int64} {l1 : xL} {st1 : List Value} {h1 : xH} (hi : T k pc = some (op, a, b, g, c, q, nx)) (h8 : op < 80) (hs : xsem X xSWb xSLb op a b g c q nx l st h = some (pc1, l1, st1, h1)) (kk : Eg X T d k pc1 l1 st1 h1 Q) : Eg X T d k pc l st h Q := by
  obtain ⟨r, h', hQ, n, hn⟩ := kk
  refine ⟨r, h', hQ, n + 1, fun f g hf hg => ?_⟩
  obtain ⟨f, rfl⟩ : ∃ z, f = z + 1 := ⟨f - 1, by omega⟩
  rw [xgo, hi]
  dsimp only
  rw [if_pos h8, hs]
  exact hn f g (by omega) (by omega)
theorem Eg.ret {op a b g nx : Nat} {c : Int32} {q : Int64} {r : Option Value} {h' : xH} (hi : T k pc = some (op, a, b, g, c, q, nx)) (h9 : ¬ op < 90) (hs : xret op st h = some (r, h')) (hQ : Q r h') : Eg X T d k pc l st h Q := by
  refine ⟨r, h', hQ, 1, fun f g hf hg => ?_⟩
  obtain ⟨f, rfl⟩ : ∃ z, f = z + 1 := ⟨f - 1, by omega⟩
  rw [xgo, hi]
  dsimp only
  rw [if_neg (by omega), if_neg h9]
  exact hs
theorem Eg.call {op a b g nx : Nat} {c : Int32} {q : Int64} (as rest : List Value) {Q1 : Option Value → xH → Prop} (hi : T k pc = some (op, a, b, g, c, q, nx)) (h8 : ¬ op < 80) (h9 : op < 90) (hst : st = as.reverse ++ rest) (hl : as.length = (xMb a).1) (hc : (rest.map fun v => v.category).sum ≤ 8) (hr : xrcv xMb op a st h = true) (hm : Ec X d a as h Q1) (kk : ∀ r1 h1, Q1 r1 h1 → Eg X T d k nx l (r1.toList ++ rest) h1 Q) : Eg X T d k pc l st h Q := by
  obtain ⟨r1, h1, hQ1, m, hm⟩ := hm
  obtain ⟨r, h', hQ, n, hn⟩ := kk r1 h1 hQ1
  refine ⟨r, h', hQ, max n m + 1, fun f g hf hg => ?_⟩
  obtain ⟨f, rfl⟩ : ∃ z, f = z + 1 := ⟨f - 1, by omega⟩
  have e1 : st.take (xMb a).1 = as.reverse := by rw [hst, ← hl, ← List.length_reverse, List.take_left]
  have e2 : st.drop (xMb a).1 = rest := by rw [hst, ← hl, ← List.length_reverse, List.drop_left]
  rw [xgo, hi]
  dsimp only
  rw [if_neg h8, if_pos h9, e1, e2, List.reverse_reverse, hm g (by omega), if_pos ⟨by rw [hst, ← hl]; simp, hc, hr⟩]
  exact hn f g (by omega) (by omega)
theorem Eg.imp {Q' : Option Value → xH → Prop} (hh : Eg X T d k pc l st h Q) (hq : ∀ r h', Q r h' → Q' r h') : Eg X T d k pc l st h Q' := by
  obtain ⟨r, h', hQ, n⟩ := hh
  exact ⟨r, h', hq r h' hQ, n⟩
/-- the receiver stands there, and is of that class -/
theorem xrcv_of {a j n m : Nat} {st : List Value} {h : xH} (hj : st[(xMb a).1 - 1]? = some (.ref j)) (hs : h.1[j]? = some (n, m)) (hn : n = (xMb a).2.1) : xrcv xMb 80 a st h = true := by
  simp [xrcv, hj, hs, hn]
theorem xrcv_ofi {a op j : Nat} {st : List Value} {h : xH} (ho : op = 82 ∨ op = 84) (hj : st[(xMb a).1 - 1]? = some (.ref j)) : xrcv xMb op a st h = true := by
  rcases ho with rfl | rfl <;> simp [xrcv, hj]
theorem xrcv_oft {a j : Nat} {st : List Value} {h : xH} (hj : st[(xMb a).1 - 1]? = some (.retAddr j)) (h1 : 1 ≤ j ∧ j < 24) : xrcv xMb 85 a st h = true := by
  simp [xrcv, hj, h1]
theorem xrcv_ofs {a op : Nat} {st : List Value} {h : xH} (ho : op = 81 ∨ op = 83) : xrcv xMb op a st h = true := by
  rcases ho with rfl | rfl <;> simp [xrcv]
end XE
section XR
variable {X : xX} {T : Nat → Nat → Option xI} {d k pc a b g nx n m i j : Nat} {c : Int32} {q : Int64} {l : xL} {st : List Value} {h : xH} {Q : Option Value → xH → Prop} {x y v : Int32} {z w u : Int64} {sh : List (Nat × Nat)} {I : Nat → Nat → Int32} {L : Nat → Nat → Int64} {R : Nat → Nat → Option Nat}
theorem e_iload (hi : T k pc = some (0, a, b, g, c, q, nx)) (hl : xlk l a = some (.int x)) (kk : Eg X T d k nx l (.int x :: st) h Q) : Eg X T d k pc l st h Q := Eg.step hi (by decide) (by simp only [xsem, hl]) kk
theorem e_aload (hi : T k pc = some (1, a, b, g, c, q, nx)) (hl : xlk l a = some (.ref n)) (kk : Eg X T d k nx l (.ref n :: st) h Q) : Eg X T d k pc l st h Q := Eg.step hi (by decide) (by simp only [xsem, hl]) kk
theorem e_aloadq (hi : T k pc = some (1, a, b, g, c, q, nx)) (hl : xlk l a = some (.retAddr n)) (kk : Eg X T d k nx l (.retAddr n :: st) h Q) : Eg X T d k pc l st h Q := Eg.step hi (by decide) (by simp only [xsem, hl]) kk
theorem e_aloadN (hi : T k pc = some (1, a, b, g, c, q, nx)) (hl : xlk l a = some .null) (kk : Eg X T d k nx l (.null :: st) h Q) : Eg X T d k pc l st h Q := Eg.step hi (by decide) (by simp only [xsem, hl]) kk
theorem e_lload (hi : T k pc = some (2, a, b, g, c, q, nx)) (hl : xlk l a = some (.long z)) (kk : Eg X T d k nx l (.long z :: st) h Q) : Eg X T d k pc l st h Q := Eg.step hi (by decide) (by simp only [xsem, hl]) kk
theorem e_istore (hi : T k pc = some (3, a, b, g, c, q, nx)) (kk : Eg X T d k nx (xst l a (.int x)) st h Q) : Eg X T d k pc l (.int x :: st) h Q := Eg.step hi (by decide) rfl kk
theorem e_astore (hi : T k pc = some (4, a, b, g, c, q, nx)) (kk : Eg X T d k nx (xst l a (.ref n)) st h Q) : Eg X T d k pc l (.ref n :: st) h Q := Eg.step hi (by decide) rfl kk
theorem e_astoreq (hi : T k pc = some (4, a, b, g, c, q, nx)) (kk : Eg X T d k nx (xst l a (.retAddr n)) st h Q) : Eg X T d k pc l (.retAddr n :: st) h Q := Eg.step hi (by decide) rfl kk
theorem e_lstore (hi : T k pc = some (5, a, b, g, c, q, nx)) (kk : Eg X T d k nx (xst2 l a (.long z)) st h Q) : Eg X T d k pc l (.long z :: st) h Q := Eg.step hi (by decide) rfl kk
theorem e_ipush (hi : T k pc = some (6, a, b, g, c, q, nx)) (kk : Eg X T d k nx l (.int c :: st) h Q) : Eg X T d k pc l st h Q := Eg.step hi (by decide) rfl kk
theorem e_lpush (hi : T k pc = some (7, a, b, g, c, q, nx)) (kk : Eg X T d k nx l (.long q :: st) h Q) : Eg X T d k pc l st h Q := Eg.step hi (by decide) rfl kk
theorem e_iinc (hi : T k pc = some (8, a, b, g, c, q, nx)) (hl : xlk l a = some (.int x)) (kk : Eg X T d k nx (xst l a (.int (x + c))) st h Q) : Eg X T d k pc l st h Q := Eg.step hi (by decide) (by simp only [xsem, hl]) kk
theorem e_iadd (hi : T k pc = some (9, a, b, g, c, q, nx)) (kk : Eg X T d k nx l (.int (x + y) :: st) h Q) : Eg X T d k pc l (.int y :: .int x :: st) h Q := Eg.step hi (by decide) rfl kk
theorem e_isub (hi : T k pc = some (10, a, b, g, c, q, nx)) (kk : Eg X T d k nx l (.int (x - y) :: st) h Q) : Eg X T d k pc l (.int y :: .int x :: st) h Q := Eg.step hi (by decide) rfl kk
theorem e_imul (hi : T k pc = some (11, a, b, g, c, q, nx)) (kk : Eg X T d k nx l (.int (x * y) :: st) h Q) : Eg X T d k pc l (.int y :: .int x :: st) h Q := Eg.step hi (by decide) rfl kk
theorem e_iand (hi : T k pc = some (12, a, b, g, c, q, nx)) (kk : Eg X T d k nx l (.int (x &&& y) :: st) h Q) : Eg X T d k pc l (.int y :: .int x :: st) h Q := Eg.step hi (by decide) rfl kk
theorem e_ior (hi : T k pc = some (13, a, b, g, c, q, nx)) (kk : Eg X T d k nx l (.int (x ||| y) :: st) h Q) : Eg X T d k pc l (.int y :: .int x :: st) h Q := Eg.step hi (by decide) rfl kk
theorem e_ixor (hi : T k pc = some (14, a, b, g, c, q, nx)) (kk : Eg X T d k nx l (.int (x ^^^ y) :: st) h Q) : Eg X T d k pc l (.int y :: .int x :: st) h Q := Eg.step hi (by decide) rfl kk
theorem e_ishl (hi : T k pc = some (15, a, b, g, c, q, nx)) (kk : Eg X T d k nx l (.int (x <<< (y &&& 31)) :: st) h Q) : Eg X T d k pc l (.int y :: .int x :: st) h Q := Eg.step hi (by decide) rfl kk
theorem e_ishr (hi : T k pc = some (16, a, b, g, c, q, nx)) (kk : Eg X T d k nx l (.int (x >>> (y &&& 31)) :: st) h Q) : Eg X T d k pc l (.int y :: .int x :: st) h Q := Eg.step hi (by decide) rfl kk
theorem e_iushr (hi : T k pc = some (17, a, b, g, c, q, nx)) (kk : Eg X T d k nx l (.int ((x.toUInt32 >>> (y.toUInt32 &&& Int32.toUInt32 31)).toInt32) :: st) h Q) : Eg X T d k pc l (.int y :: .int x :: st) h Q := Eg.step hi (by decide) rfl kk
theorem e_idiv (hi : T k pc = some (18, a, b, g, c, q, nx)) (hy : ¬ y = 0) (kk : Eg X T d k nx l (.int (x / y) :: st) h Q) : Eg X T d k pc l (.int y :: .int x :: st) h Q := Eg.step hi (by decide) (by simp only [xsem, if_neg hy]) kk
theorem e_irem (hi : T k pc = some (19, a, b, g, c, q, nx)) (hy : ¬ y = 0) (kk : Eg X T d k nx l (.int (x - x / y * y) :: st) h Q) : Eg X T d k pc l (.int y :: .int x :: st) h Q := Eg.step hi (by decide) (by simp only [xsem, if_neg hy]) kk
theorem e_ladd (hi : T k pc = some (20, a, b, g, c, q, nx)) (kk : Eg X T d k nx l (.long (z + w) :: st) h Q) : Eg X T d k pc l (.long w :: .long z :: st) h Q := Eg.step hi (by decide) rfl kk
theorem e_lsub (hi : T k pc = some (21, a, b, g, c, q, nx)) (kk : Eg X T d k nx l (.long (z - w) :: st) h Q) : Eg X T d k pc l (.long w :: .long z :: st) h Q := Eg.step hi (by decide) rfl kk
theorem e_lmul (hi : T k pc = some (22, a, b, g, c, q, nx)) (kk : Eg X T d k nx l (.long (z * w) :: st) h Q) : Eg X T d k pc l (.long w :: .long z :: st) h Q := Eg.step hi (by decide) rfl kk
theorem e_land (hi : T k pc = some (23, a, b, g, c, q, nx)) (kk : Eg X T d k nx l (.long (z &&& w) :: st) h Q) : Eg X T d k pc l (.long w :: .long z :: st) h Q := Eg.step hi (by decide) rfl kk
theorem e_lor (hi : T k pc = some (24, a, b, g, c, q, nx)) (kk : Eg X T d k nx l (.long (z ||| w) :: st) h Q) : Eg X T d k pc l (.long w :: .long z :: st) h Q := Eg.step hi (by decide) rfl kk
theorem e_ldiv (hi : T k pc = some (25, a, b, g, c, q, nx)) (hy : ¬ w = 0) (kk : Eg X T d k nx l (.long (z / w) :: st) h Q) : Eg X T d k pc l (.long w :: .long z :: st) h Q := Eg.step hi (by decide) (by simp only [xsem, if_neg hy]) kk
theorem e_lrem (hi : T k pc = some (26, a, b, g, c, q, nx)) (hy : ¬ w = 0) (kk : Eg X T d k nx l (.long (z - z / w * w) :: st) h Q) : Eg X T d k pc l (.long w :: .long z :: st) h Q := Eg.step hi (by decide) (by simp only [xsem, if_neg hy]) kk
theorem e_lcmp (hi : T k pc = some (27, a, b, g, c, q, nx)) (kk : Eg X T d k nx l (.int (lg_cmp z w) :: st) h Q) : Eg X T d k pc l (.long w :: .long z :: st) h Q := Eg.step hi (by decide) rfl kk
theorem e_i2l (hi : T k pc = some (28, a, b, g, c, q, nx)) (kk : Eg X T d k nx l (.long x.toInt64 :: st) h Q) : Eg X T d k pc l (.int x :: st) h Q := Eg.step hi (by decide) rfl kk
theorem e_l2i (hi : T k pc = some (29, a, b, g, c, q, nx)) (kk : Eg X T d k nx l (.int z.toInt32 :: st) h Q) : Eg X T d k pc l (.long z :: st) h Q := Eg.step hi (by decide) rfl kk
theorem e_i2b (hi : T k pc = some (30, a, b, g, c, q, nx)) (kk : Eg X T d k nx l (.int x.toInt8.toInt32 :: st) h Q) : Eg X T d k pc l (.int x :: st) h Q := Eg.step hi (by decide) rfl kk
theorem e_dup (hi : T k pc = some (31, a, b, g, c, q, nx)) (kk : Eg X T d k nx l (.int x :: .int x :: st) h Q) : Eg X T d k pc l (.int x :: st) h Q := Eg.step hi (by decide) rfl kk
theorem e_dupr (hi : T k pc = some (31, a, b, g, c, q, nx)) (kk : Eg X T d k nx l (.ref n :: .ref n :: st) h Q) : Eg X T d k pc l (.ref n :: st) h Q := Eg.step hi (by decide) rfl kk
theorem e_dup2 (hi : T k pc = some (32, a, b, g, c, q, nx)) (kk : Eg X T d k nx l (.int x :: .ref n :: .int x :: .ref n :: st) h Q) : Eg X T d k pc l (.int x :: .ref n :: st) h Q := Eg.step hi (by decide) rfl kk
theorem e_pop (hi : T k pc = some (33, a, b, g, c, q, nx)) (kk : Eg X T d k nx l st h Q) : Eg X T d k pc l (.int x :: st) h Q := Eg.step hi (by decide) rfl kk
theorem e_popr (hi : T k pc = some (33, a, b, g, c, q, nx)) (kk : Eg X T d k nx l st h Q) : Eg X T d k pc l (.ref n :: st) h Q := Eg.step hi (by decide) rfl kk
theorem e_ifeq_t (hi : T k pc = some (34, a, b, g, c, q, nx)) (hc : x = 0) (kk : Eg X T d k a l st h Q) : Eg X T d k pc l (.int x :: st) h Q := Eg.step hi (by decide) (by simp only [xsem, if_pos hc]) kk
theorem e_ifeq_f (hi : T k pc = some (34, a, b, g, c, q, nx)) (hc : ¬ x = 0) (kk : Eg X T d k nx l st h Q) : Eg X T d k pc l (.int x :: st) h Q := Eg.step hi (by decide) (by simp only [xsem, if_neg hc]) kk
theorem e_iflt_t (hi : T k pc = some (36, a, b, g, c, q, nx)) (hc : x < 0) (kk : Eg X T d k a l st h Q) : Eg X T d k pc l (.int x :: st) h Q := Eg.step hi (by decide) (by simp only [xsem, if_pos hc]) kk
theorem e_iflt_f (hi : T k pc = some (36, a, b, g, c, q, nx)) (hc : ¬ x < 0) (kk : Eg X T d k nx l st h Q) : Eg X T d k pc l (.int x :: st) h Q := Eg.step hi (by decide) (by simp only [xsem, if_neg hc]) kk
theorem e_ifge_t (hi : T k pc = some (37, a, b, g, c, q, nx)) (hc : 0 ≤ x) (kk : Eg X T d k a l st h Q) : Eg X T d k pc l (.int x :: st) h Q := Eg.step hi (by decide) (by simp only [xsem, if_pos hc]) kk
theorem e_ifge_f (hi : T k pc = some (37, a, b, g, c, q, nx)) (hc : ¬ 0 ≤ x) (kk : Eg X T d k nx l st h Q) : Eg X T d k pc l (.int x :: st) h Q := Eg.step hi (by decide) (by simp only [xsem, if_neg hc]) kk
theorem e_ifgt_t (hi : T k pc = some (38, a, b, g, c, q, nx)) (hc : 0 < x) (kk : Eg X T d k a l st h Q) : Eg X T d k pc l (.int x :: st) h Q := Eg.step hi (by decide) (by simp only [xsem, if_pos hc]) kk
theorem e_ifgt_f (hi : T k pc = some (38, a, b, g, c, q, nx)) (hc : ¬ 0 < x) (kk : Eg X T d k nx l st h Q) : Eg X T d k pc l (.int x :: st) h Q := Eg.step hi (by decide) (by simp only [xsem, if_neg hc]) kk
theorem e_ifle_t (hi : T k pc = some (39, a, b, g, c, q, nx)) (hc : x ≤ 0) (kk : Eg X T d k a l st h Q) : Eg X T d k pc l (.int x :: st) h Q := Eg.step hi (by decide) (by simp only [xsem, if_pos hc]) kk
theorem e_ifle_f (hi : T k pc = some (39, a, b, g, c, q, nx)) (hc : ¬ x ≤ 0) (kk : Eg X T d k nx l st h Q) : Eg X T d k pc l (.int x :: st) h Q := Eg.step hi (by decide) (by simp only [xsem, if_neg hc]) kk
theorem e_ceq_t (hi : T k pc = some (40, a, b, g, c, q, nx)) (hc : x = y) (kk : Eg X T d k a l st h Q) : Eg X T d k pc l (.int y :: .int x :: st) h Q := Eg.step hi (by decide) (by simp only [xsem, if_pos hc]) kk
theorem e_ceq_f (hi : T k pc = some (40, a, b, g, c, q, nx)) (hc : ¬ x = y) (kk : Eg X T d k nx l st h Q) : Eg X T d k pc l (.int y :: .int x :: st) h Q := Eg.step hi (by decide) (by simp only [xsem, if_neg hc]) kk
theorem e_clt_t (hi : T k pc = some (42, a, b, g, c, q, nx)) (hc : x < y) (kk : Eg X T d k a l st h Q) : Eg X T d k pc l (.int y :: .int x :: st) h Q := Eg.step hi (by decide) (by simp only [xsem, if_pos hc]) kk
theorem e_clt_f (hi : T k pc = some (42, a, b, g, c, q, nx)) (hc : ¬ x < y) (kk : Eg X T d k nx l st h Q) : Eg X T d k pc l (.int y :: .int x :: st) h Q := Eg.step hi (by decide) (by simp only [xsem, if_neg hc]) kk
theorem e_cge_t (hi : T k pc = some (43, a, b, g, c, q, nx)) (hc : y ≤ x) (kk : Eg X T d k a l st h Q) : Eg X T d k pc l (.int y :: .int x :: st) h Q := Eg.step hi (by decide) (by simp only [xsem, if_pos hc]) kk
theorem e_cge_f (hi : T k pc = some (43, a, b, g, c, q, nx)) (hc : ¬ y ≤ x) (kk : Eg X T d k nx l st h Q) : Eg X T d k pc l (.int y :: .int x :: st) h Q := Eg.step hi (by decide) (by simp only [xsem, if_neg hc]) kk
theorem e_cgt_t (hi : T k pc = some (44, a, b, g, c, q, nx)) (hc : y < x) (kk : Eg X T d k a l st h Q) : Eg X T d k pc l (.int y :: .int x :: st) h Q := Eg.step hi (by decide) (by simp only [xsem, if_pos hc]) kk
theorem e_cgt_f (hi : T k pc = some (44, a, b, g, c, q, nx)) (hc : ¬ y < x) (kk : Eg X T d k nx l st h Q) : Eg X T d k pc l (.int y :: .int x :: st) h Q := Eg.step hi (by decide) (by simp only [xsem, if_neg hc]) kk
theorem e_cle_t (hi : T k pc = some (45, a, b, g, c, q, nx)) (hc : x ≤ y) (kk : Eg X T d k a l st h Q) : Eg X T d k pc l (.int y :: .int x :: st) h Q := Eg.step hi (by decide) (by simp only [xsem, if_pos hc]) kk
theorem e_cle_f (hi : T k pc = some (45, a, b, g, c, q, nx)) (hc : ¬ x ≤ y) (kk : Eg X T d k nx l st h Q) : Eg X T d k pc l (.int y :: .int x :: st) h Q := Eg.step hi (by decide) (by simp only [xsem, if_neg hc]) kk
theorem e_ifne_t (hi : T k pc = some (35, a, b, g, c, q, nx)) (hc : ¬ x = 0) (kk : Eg X T d k a l st h Q) : Eg X T d k pc l (.int x :: st) h Q := Eg.step hi (by decide) (by simp only [xsem, if_neg hc]) kk
theorem e_ifne_f (hi : T k pc = some (35, a, b, g, c, q, nx)) (hc : x = 0) (kk : Eg X T d k nx l st h Q) : Eg X T d k pc l (.int x :: st) h Q := Eg.step hi (by decide) (by simp only [xsem, if_pos hc]) kk
theorem e_cne_t (hi : T k pc = some (41, a, b, g, c, q, nx)) (hc : ¬ x = y) (kk : Eg X T d k a l st h Q) : Eg X T d k pc l (.int y :: .int x :: st) h Q := Eg.step hi (by decide) (by simp only [xsem, if_neg hc]) kk
theorem e_cne_f (hi : T k pc = some (41, a, b, g, c, q, nx)) (hc : x = y) (kk : Eg X T d k nx l st h Q) : Eg X T d k pc l (.int y :: .int x :: st) h Q := Eg.step hi (by decide) (by simp only [xsem, if_pos hc]) kk
theorem e_goto (hi : T k pc = some (46, a, b, g, c, q, nx)) (kk : Eg X T d k a l st h Q) : Eg X T d k pc l st h Q := Eg.step hi (by decide) rfl kk
theorem e_nnull_t (hi : T k pc = some (47, a, b, g, c, q, nx)) (kk : Eg X T d k a l st h Q) : Eg X T d k pc l (.ref n :: st) h Q := Eg.step hi (by decide) rfl kk
theorem e_nnull_f (hi : T k pc = some (47, a, b, g, c, q, nx)) (kk : Eg X T d k nx l st h Q) : Eg X T d k pc l (.null :: st) h Q := Eg.step hi (by decide) rfl kk
theorem e_getI (hi : T k pc = some (48, a, b, g, c, q, nx)) (hs : sh[i]? = some (b, n)) (kk : Eg X T d k nx l (.int (I i a) :: st) (sh, I, L, R) Q) : Eg X T d k pc l (.ref i :: st) (sh, I, L, R) Q := Eg.step hi (by decide) (by simp only [xsem, hs, if_pos]) kk
theorem e_getL (hi : T k pc = some (49, a, b, g, c, q, nx)) (hs : sh[i]? = some (b, n)) (kk : Eg X T d k nx l (.long (L i a) :: st) (sh, I, L, R) Q) : Eg X T d k pc l (.ref i :: st) (sh, I, L, R) Q := Eg.step hi (by decide) (by simp only [xsem, hs, if_pos]) kk
theorem e_getR (hi : T k pc = some (50, a, b, g, c, q, nx)) (hs : sh[i]? = some (b, n)) (hv : R i a = some j) (kk : Eg X T d k nx l (.ref j :: st) (sh, I, L, R) Q) : Eg X T d k pc l (.ref i :: st) (sh, I, L, R) Q := Eg.step hi (by decide) (by simp only [xsem, hs, if_pos, hv, va_rf]) kk
theorem e_getN (hi : T k pc = some (50, a, b, g, c, q, nx)) (hs : sh[i]? = some (b, n)) (hv : R i a = none) (kk : Eg X T d k nx l (.null :: st) (sh, I, L, R) Q) : Eg X T d k pc l (.ref i :: st) (sh, I, L, R) Q := Eg.step hi (by decide) (by simp only [xsem, hs, if_pos, hv, va_rf]) kk
theorem e_putI (hi : T k pc = some (51, a, b, g, c, q, nx)) (hs : sh[i]? = some (b, n)) (kk : Eg X T d k nx l st (sh, xu I i a v, L, R) Q) : Eg X T d k pc l (.int v :: .ref i :: st) (sh, I, L, R) Q := Eg.step hi (by decide) (by simp only [xsem, hs, if_pos]) kk
theorem e_putL (hi : T k pc = some (52, a, b, g, c, q, nx)) (hs : sh[i]? = some (b, n)) (kk : Eg X T d k nx l st (sh, I, xu L i a u, R) Q) : Eg X T d k pc l (.long u :: .ref i :: st) (sh, I, L, R) Q := Eg.step hi (by decide) (by simp only [xsem, hs, if_pos]) kk
theorem e_putR (hi : T k pc = some (53, a, b, g, c, q, nx)) (hs : sh[i]? = some (b, n)) (kk : Eg X T d k nx l st (sh, I, L, xu R i a (some j)) Q) : Eg X T d k pc l (.ref j :: .ref i :: st) (sh, I, L, R) Q := Eg.step hi (by decide) (by simp only [xsem, hs, if_pos]) kk
theorem e_putZ (hi : T k pc = some (54, a, b, g, c, q, nx)) (hs : sh[i]? = some (b, n)) (hv : v = 0 ∨ v = 1) (kk : Eg X T d k nx l st (sh, xu I i a v, L, R) Q) : Eg X T d k pc l (.int v :: .ref i :: st) (sh, I, L, R) Q := Eg.step hi (by decide) (by simp only [xsem, hs]; exact if_pos ⟨by first | trivial | exact Or.inl trivial | exact Or.inr trivial | decide | (simp; done), hv⟩) kk
theorem e_iald (hi : T k pc = some (55, a, b, g, c, q, nx)) (hs : sh[i]? = some (20, n)) (hx : vp_in x n) (kk : Eg X T d k nx l (.int (I i x.toNatClampNeg) :: st) (sh, I, L, R) Q) : Eg X T d k pc l (.int x :: .ref i :: st) (sh, I, L, R) Q := Eg.step hi (by decide) (by simp only [xsem, hs]; exact if_pos ⟨by first | trivial | exact Or.inl trivial | exact Or.inr trivial | decide | (simp; done), hx⟩) kk
theorem e_sld (hi : T k pc = some (55, a, b, g, c, q, nx)) (hx : vp_in x X.1) (kk : Eg X T d k nx l (.int (X.2.1 x.toNatClampNeg) :: st) h Q) : Eg X T d k pc l (.int x :: .retAddr 0 :: st) h Q := Eg.step hi (by decide) (by simp only [xsem]; rw [if_neg hx]) kk
theorem e_lald (hi : T k pc = some (56, a, b, g, c, q, nx)) (hs : sh[i]? = some (21, n)) (hx : vp_in x n) (kk : Eg X T d k nx l (.long (L i x.toNatClampNeg) :: st) (sh, I, L, R) Q) : Eg X T d k pc l (.int x :: .ref i :: st) (sh, I, L, R) Q := Eg.step hi (by decide) (by simp only [xsem, hs]; exact if_pos ⟨by first | trivial | exact Or.inl trivial | exact Or.inr trivial | decide | (simp; done), hx⟩) kk
theorem e_zald (hi : T k pc = some (57, a, b, g, c, q, nx)) (hs : sh[i]? = some (22, n)) (hx : vp_in x n) (kk : Eg X T d k nx l (.int (I i x.toNatClampNeg) :: st) (sh, I, L, R) Q) : Eg X T d k pc l (.int x :: .ref i :: st) (sh, I, L, R) Q := Eg.step hi (by decide) (by simp only [xsem, hs]; exact if_pos ⟨by first | trivial | exact Or.inl trivial | exact Or.inr trivial | decide | (simp; done), hx⟩) kk
theorem e_bald (hi : T k pc = some (57, a, b, g, c, q, nx)) (hs : sh[i]? = some (23, n)) (hx : vp_in x n) (kk : Eg X T d k nx l (.int (I i x.toNatClampNeg) :: st) (sh, I, L, R) Q) : Eg X T d k pc l (.int x :: .ref i :: st) (sh, I, L, R) Q := Eg.step hi (by decide) (by simp only [xsem, hs]; exact if_pos ⟨by first | trivial | exact Or.inl trivial | exact Or.inr trivial | decide | (simp; done), hx⟩) kk
theorem e_tald (hi : T k pc = some (57, a, b, g, c, q, nx)) (hn : 101 ≤ n ∧ n < 124) (hx : vp_in x (xlen.getD (n - 101) 0)) (kk : Eg X T d k nx l (.int ((xtx.getD (n - 101) []).getD x.toNatClampNeg 0) :: st) h Q) : Eg X T d k pc l (.int x :: .retAddr n :: st) h Q := Eg.step hi (by decide) (by simp only [xsem]; rw [if_pos ⟨hn, hx⟩]) kk
theorem e_aald24 (hi : T k pc = some (58, a, b, g, c, q, nx)) (hs : sh[i]? = some (24, n)) (hx : vp_in x n) (hv : R i x.toNatClampNeg = some j) (kk : Eg X T d k nx l (.ref j :: st) (sh, I, L, R) Q) : Eg X T d k pc l (.int x :: .ref i :: st) (sh, I, L, R) Q := Eg.step hi (by decide) (by simp only [xsem, hs, hv, va_rf]; exact if_pos ⟨by first | trivial | exact Or.inl trivial | exact Or.inr trivial | decide | (simp; done), hx⟩) kk
theorem e_aaldN24 (hi : T k pc = some (58, a, b, g, c, q, nx)) (hs : sh[i]? = some (24, n)) (hx : vp_in x n) (hv : R i x.toNatClampNeg = none) (kk : Eg X T d k nx l (.null :: st) (sh, I, L, R) Q) : Eg X T d k pc l (.int x :: .ref i :: st) (sh, I, L, R) Q := Eg.step hi (by decide) (by simp only [xsem, hs, hv, va_rf]; exact if_pos ⟨by first | trivial | exact Or.inl trivial | exact Or.inr trivial | decide | (simp; done), hx⟩) kk
theorem e_aald25 (hi : T k pc = some (58, a, b, g, c, q, nx)) (hs : sh[i]? = some (25, n)) (hx : vp_in x n) (hv : R i x.toNatClampNeg = some j) (kk : Eg X T d k nx l (.ref j :: st) (sh, I, L, R) Q) : Eg X T d k pc l (.int x :: .ref i :: st) (sh, I, L, R) Q := Eg.step hi (by decide) (by simp only [xsem, hs, hv, va_rf]; exact if_pos ⟨by first | trivial | exact Or.inl trivial | exact Or.inr trivial | decide | (simp; done), hx⟩) kk
theorem e_aaldN25 (hi : T k pc = some (58, a, b, g, c, q, nx)) (hs : sh[i]? = some (25, n)) (hx : vp_in x n) (hv : R i x.toNatClampNeg = none) (kk : Eg X T d k nx l (.null :: st) (sh, I, L, R) Q) : Eg X T d k pc l (.int x :: .ref i :: st) (sh, I, L, R) Q := Eg.step hi (by decide) (by simp only [xsem, hs, hv, va_rf]; exact if_pos ⟨by first | trivial | exact Or.inl trivial | exact Or.inr trivial | decide | (simp; done), hx⟩) kk
theorem e_aald26 (hi : T k pc = some (58, a, b, g, c, q, nx)) (hs : sh[i]? = some (26, n)) (hx : vp_in x n) (hv : R i x.toNatClampNeg = some j) (kk : Eg X T d k nx l (.ref j :: st) (sh, I, L, R) Q) : Eg X T d k pc l (.int x :: .ref i :: st) (sh, I, L, R) Q := Eg.step hi (by decide) (by simp only [xsem, hs, hv, va_rf]; exact if_pos ⟨by first | trivial | exact Or.inl trivial | exact Or.inr trivial | decide | (simp; done), hx⟩) kk
theorem e_aaldN26 (hi : T k pc = some (58, a, b, g, c, q, nx)) (hs : sh[i]? = some (26, n)) (hx : vp_in x n) (hv : R i x.toNatClampNeg = none) (kk : Eg X T d k nx l (.null :: st) (sh, I, L, R) Q) : Eg X T d k pc l (.int x :: .ref i :: st) (sh, I, L, R) Q := Eg.step hi (by decide) (by simp only [xsem, hs, hv, va_rf]; exact if_pos ⟨by first | trivial | exact Or.inl trivial | exact Or.inr trivial | decide | (simp; done), hx⟩) kk
theorem e_iast (hi : T k pc = some (59, a, b, g, c, q, nx)) (hs : sh[i]? = some (20, n)) (hx : vp_in x n) (kk : Eg X T d k nx l st (sh, xu I i x.toNatClampNeg v, L, R) Q) : Eg X T d k pc l (.int v :: .int x :: .ref i :: st) (sh, I, L, R) Q := Eg.step hi (by decide) (by simp only [xsem, hs]; exact if_pos ⟨by first | trivial | exact Or.inl trivial | exact Or.inr trivial | decide | (simp; done), hx⟩) kk
theorem e_last (hi : T k pc = some (60, a, b, g, c, q, nx)) (hs : sh[i]? = some (21, n)) (hx : vp_in x n) (kk : Eg X T d k nx l st (sh, I, xu L i x.toNatClampNeg u, R) Q) : Eg X T d k pc l (.long u :: .int x :: .ref i :: st) (sh, I, L, R) Q := Eg.step hi (by decide) (by simp only [xsem, hs]; exact if_pos ⟨by first | trivial | exact Or.inl trivial | exact Or.inr trivial | decide | (simp; done), hx⟩) kk
theorem e_bast (hi : T k pc = some (61, a, b, g, c, q, nx)) (hs : sh[i]? = some (23, n)) (hx : vp_in x n) (kk : Eg X T d k nx l st (sh, xu I i x.toNatClampNeg v.toInt8.toInt32, L, R) Q) : Eg X T d k pc l (.int v :: .int x :: .ref i :: st) (sh, I, L, R) Q := Eg.step hi (by decide) (by simp only [xsem, hs]; exact if_pos ⟨by first | trivial | exact Or.inl trivial | exact Or.inr trivial | decide | (simp; done), hx⟩) kk
theorem e_zast (hi : T k pc = some (62, a, b, g, c, q, nx)) (hs : sh[i]? = some (22, n)) (hx : vp_in x n) (hv : v = 0 ∨ v = 1) (kk : Eg X T d k nx l st (sh, xu I i x.toNatClampNeg v, L, R) Q) : Eg X T d k pc l (.int v :: .int x :: .ref i :: st) (sh, I, L, R) Q := Eg.step hi (by decide) (by simp only [xsem, hs]; exact if_pos ⟨⟨by first | trivial | exact Or.inl trivial | exact Or.inr trivial | decide | (simp; done), hv⟩, hx⟩) kk
theorem e_aast24 (hi : T k pc = some (63, a, b, g, c, q, nx)) (hs : sh[i]? = some (24, n)) (hj : sh[j]? = some (5, m)) (hx : vp_in x n) (kk : Eg X T d k nx l st (sh, I, L, xu R i x.toNatClampNeg (some j)) Q) : Eg X T d k pc l (.ref j :: .int x :: .ref i :: st) (sh, I, L, R) Q := Eg.step hi (by decide) (by simp only [xsem, hs, hj]; exact if_pos ⟨by first | trivial | exact Or.inl trivial | exact Or.inr trivial | decide | (simp; done), hx⟩) kk
theorem e_aast25 (hi : T k pc = some (63, a, b, g, c, q, nx)) (hs : sh[i]? = some (25, n)) (hj : sh[j]? = some (10, m)) (hx : vp_in x n) (kk : Eg X T d k nx l st (sh, I, L, xu R i x.toNatClampNeg (some j)) Q) : Eg X T d k pc l (.ref j :: .int x :: .ref i :: st) (sh, I, L, R) Q := Eg.step hi (by decide) (by simp only [xsem, hs, hj]; exact if_pos ⟨by first | trivial | exact Or.inl trivial | exact Or.inr trivial | decide | (simp; done), hx⟩) kk
theorem e_aast26 (hi : T k pc = some (63, a, b, g, c, q, nx)) (hs : sh[i]? = some (26, n)) (hj : sh[j]? = some (3, m)) (hx : vp_in x n) (kk : Eg X T d k nx l st (sh, I, L, xu R i x.toNatClampNeg (some j)) Q) : Eg X T d k pc l (.ref j :: .int x :: .ref i :: st) (sh, I, L, R) Q := Eg.step hi (by decide) (by simp only [xsem, hs, hj]; exact if_pos ⟨by first | trivial | exact Or.inl trivial | exact Or.inr trivial | decide | (simp; done), hx⟩) kk
theorem e_alen (hi : T k pc = some (64, a, b, g, c, q, nx)) (hs : sh[i]? = some (m, n)) (hm : 20 ≤ m ∧ m ≤ 26) (kk : Eg X T d k nx l (.int (Int32.ofNat n) :: st) (sh, I, L, R) Q) : Eg X T d k pc l (.ref i :: st) (sh, I, L, R) Q := Eg.step hi (by decide) (by simp only [xsem, hs]; rw [if_pos hm]) kk
theorem e_slen (hi : T k pc = some (64, a, b, g, c, q, nx)) (kk : Eg X T d k nx l (.int (Int32.ofNat X.1) :: st) h Q) : Eg X T d k pc l (.retAddr 0 :: st) h Q := Eg.step hi (by decide) rfl kk
theorem e_tlen (hi : T k pc = some (64, a, b, g, c, q, nx)) (hn : 101 ≤ n ∧ n < 124) (kk : Eg X T d k nx l (.int (Int32.ofNat (xlen.getD (n - 101) 0)) :: st) h Q) : Eg X T d k pc l (.retAddr n :: st) h Q := Eg.step hi (by decide) (by simp only [xsem]; rw [if_neg (by omega), if_pos hn]) kk
theorem e_newa (hi : T k pc = some (65, a, b, g, c, q, nx)) (hx : ¬ (x < 0 ∨ 600000 < x.toNatClampNeg)) (kk : Eg X T d k nx l (.ref sh.length :: st) (sh ++ [(a, x.toNatClampNeg)], xz I sh.length 0, xz L sh.length 0, xz R sh.length none) Q) : Eg X T d k pc l (.int x :: st) (sh, I, L, R) Q := Eg.step hi (by decide) (by simp only [xsem]; rw [if_neg hx]) kk
theorem e_newq (hi : T k pc = some (66, a, b, g, c, q, nx)) (hx : ¬ (x < 0 ∨ 600000 < x.toNatClampNeg)) (kk : Eg X T d k nx l (.ref sh.length :: st) (sh ++ [(a, x.toNatClampNeg)], xz I sh.length 0, xz L sh.length 0, xz R sh.length none) Q) : Eg X T d k pc l (.int x :: st) (sh, I, L, R) Q := Eg.step hi (by decide) (by simp only [xsem]; rw [if_neg hx]) kk
theorem e_new (hi : T k pc = some (67, a, b, g, c, q, nx)) (kk : Eg X T d k nx l (.ref sh.length :: st) (sh ++ [(b, a)], xz I sh.length 0, xz L sh.length 0, xz R sh.length none) Q) : Eg X T d k pc l st (sh, I, L, R) Q := Eg.step hi (by decide) rfl kk
theorem e_oinit (hi : T k pc = some (68, a, b, g, c, q, nx)) (hc : (st.map fun v => v.category).sum ≤ 8) (kk : Eg X T d k nx l st h Q) : Eg X T d k pc l (.ref n :: st) h Q := Eg.step hi (by decide) (by simp only [xsem]; rw [if_pos hc]) kk
theorem e_tsw (hi : T k pc = some (69, a, b, g, c, q, nx)) (hc : ¬ (x.toInt < (xSWb a).1 ∨ (xSWb a).1 + (xSWb a).2.1.length ≤ x.toInt)) (ht : (xSWb a).2.1[(x.toInt - (xSWb a).1).toNat]? = some n) (kk : Eg X T d k n l st h Q) : Eg X T d k pc l (.int x :: st) h Q := Eg.step hi (by decide) (by simp only [xsem]; rw [if_neg hc, ht]) kk
theorem e_tswd (hi : T k pc = some (69, a, b, g, c, q, nx)) (hc : x.toInt < (xSWb a).1 ∨ (xSWb a).1 + (xSWb a).2.1.length ≤ x.toInt) (kk : Eg X T d k (xSWb a).2.2 l st h Q) : Eg X T d k pc l (.int x :: st) h Q := Eg.step hi (by decide) (by simp only [xsem]; rw [if_pos hc]) kk
theorem e_lsw (hi : T k pc = some (70, a, b, g, c, q, nx)) (kk : Eg X T d k (xswl (xSLb a).1 (xSLb a).2 x.toInt) l st h Q) : Eg X T d k pc l (.int x :: st) h Q := Eg.step hi (by decide) rfl kk
theorem e_copy (hi : T k pc = some (71, a, b, g, c, q, nx)) (hs : sh[i]? = some (20, n)) (hj : sh[j]? = some (20, m)) (h3 : ¬ x < 0 ∧ ¬ y < 0 ∧ ¬ v < 0) (h4 : x.toNatClampNeg + v.toNatClampNeg ≤ n ∧ y.toNatClampNeg + v.toNatClampNeg ≤ m) (hc : (st.map fun v => v.category).sum ≤ 8) (kk : Eg X T d k nx l st (sh, (fun p t => if p = j ∧ (y.toNatClampNeg ≤ t ∧ t < y.toNatClampNeg + v.toNatClampNeg) then I i (x.toNatClampNeg + (t - y.toNatClampNeg)) else I p t), L, R) Q) : Eg X T d k pc l (.int v :: .int y :: .ref j :: .int x :: .ref i :: st) (sh, I, L, R) Q := Eg.step hi (by decide) (by simp only [xsem, hs, hj]; exact if_pos ⟨by first | trivial | exact Or.inl trivial | exact Or.inr trivial | decide | (simp; done), h3, h4, hc⟩) kk
theorem e_cs (hi : T k pc = some (72, a, b, g, c, q, nx)) (ha : a = 0) (kk : Eg X T d k nx l (.int 1 :: st) h Q) : Eg X T d k pc l st h Q := Eg.step hi (by decide) (by simp only [xsem, ha, if_pos]) kk
theorem e_fm (hi : T k pc = some (72, a, b, g, c, q, nx)) (ha : a = 1) (kk : Eg X T d k nx l ((if X.2.2 = true then .null else .retAddr 200) :: st) h Q) : Eg X T d k pc l st h Q := Eg.step hi (by decide) (by simp only [xsem, ha]; rw [if_neg (by decide)]) kk
theorem e_text (hi : T k pc = some (73, a, b, g, c, q, nx)) (kk : Eg X T d k nx l (.retAddr (a + 1) :: st) h Q) : Eg X T d k pc l st h Q := Eg.step hi (by decide) rfl kk
theorem e_tval (hi : T k pc = some (74, a, b, g, c, q, nx)) (hn : 1 ≤ n ∧ n < 24) (ha : a = 0) (kk : Eg X T d k nx l (.retAddr (n + 100) :: st) h Q) : Eg X T d k pc l (.retAddr n :: st) h Q := Eg.step hi (by decide) (by simp only [xsem, ha]; rw [if_pos hn, if_pos trivial]) kk
theorem e_tcod (hi : T k pc = some (74, a, b, g, c, q, nx)) (hn : 1 ≤ n ∧ n < 24) (ha : a = 1) (kk : Eg X T d k nx l (.int 0 :: st) h Q) : Eg X T d k pc l (.retAddr n :: st) h Q := Eg.step hi (by decide) (by simp only [xsem, ha]; rw [if_pos hn, if_neg (by decide)]) kk
theorem e_i2c (hi : T k pc = some (75, a, b, g, c, q, nx)) (kk : Eg X T d k nx l (.int (x.toUInt32 % 65536).toInt32 :: st) h Q) : Eg X T d k pc l (.int x :: st) h Q := Eg.step hi (by decide) rfl kk
theorem e_max (hi : T k pc = some (76, a, b, g, c, q, nx)) (hc : (st.map fun v => v.category).sum ≤ 8) (kk : Eg X T d k nx l (.int (if x < y then y else x) :: st) h Q) : Eg X T d k pc l (.int y :: .int x :: st) h Q := Eg.step hi (by decide) (by simp only [xsem]; rw [if_pos hc]) kk
theorem e_min (hi : T k pc = some (77, a, b, g, c, q, nx)) (hc : (st.map fun v => v.category).sum ≤ 8) (kk : Eg X T d k nx l (.int (if y < x then y else x) :: st) h Q) : Eg X T d k pc l (.int y :: .int x :: st) h Q := Eg.step hi (by decide) (by simp only [xsem]; rw [if_pos hc]) kk
end XR
