/-! MORE RULES: locals picked anew, branches both ways, calls by how many values they take -/
/-- each key once -/
def xnd (l : xL) : Prop := (l.map fun q => q.1).Nodup
theorem xlk_mem {l : xL} {i : Nat} {v : Value} (h : xlk l i = some v) : (i, v) ∈ l := by
  induction l with
  | nil => cases h
  | cons q r ih =>
    rw [xlk] at h
    split at h
    · rename_i e
      cases h
      subst e
      exact List.mem_cons_self
    · exact List.mem_cons_of_mem _ (ih h)
theorem xlk_of {l : xL} {i : Nat} {v : Value} (hn : xnd l) (h : (i, v) ∈ l) : xlk l i = some v := by
  induction l with
  | nil => cases h
  | cons q r ih =>
    rw [xlk]
    have hn' : (q.1 :: r.map fun q => q.1).Nodup := hn
    rw [List.nodup_cons] at hn'
    rcases List.mem_cons.mp h with e | e
    · rw [← e, if_pos rfl]
    · rw [if_neg (fun e2 => hn'.1 (by rw [e2]; exact List.mem_map_of_mem e)), ih hn'.2 e]
/-- one row of locals holds all that the other holds -/
def xsb (l l' : xL) : Prop := xnd l' ∧ ∀ q, q ∈ l → q ∈ l'
theorem xsb_lk {l l' : xL} (h : xsb l l') {i : Nat} {v : Value} (e : xlk l i = some v) : xlk l' i = some v := xlk_of h.1 (h.2 _ (xlk_mem e))
theorem xnd_filter {l : xL} (p : Nat × Value → Bool) (h : xnd l) : xnd (l.filter p) := by
  unfold xnd at *
  exact List.Nodup.sublist (List.Sublist.map _ List.filter_sublist) h
theorem xsb_st {l l' : xL} (h : xsb l l') (i : Nat) (v : Value) : xsb (xst l i v) (xst l' i v) := by
  unfold xst
  refine ⟨?_, fun q hq => ?_⟩
  · show (i :: (l'.filter _).map fun q => q.1).Nodup
    rw [List.nodup_cons]
    refine ⟨fun hm => ?_, xnd_filter _ h.1⟩
    obtain ⟨q, hq, e⟩ := List.mem_map.mp hm
    have := (List.mem_filter.mp hq).2
    simp [e] at this
  · rcases List.mem_cons.mp hq with e | e
    · rw [e]; exact List.mem_cons_self
    · have e2 := List.mem_filter.mp e
      exact List.mem_cons_of_mem _ (List.mem_filter.mpr ⟨h.2 _ e2.1, e2.2⟩)
theorem xsb_st2 {l l' : xL} (h : xsb l l') (i : Nat) (v : Value) : xsb (xst2 l i v) (xst2 l' i v) := by
  unfold xst2
  refine ⟨?_, fun q hq => ?_⟩
  · show (i :: (l'.filter _).map fun q => q.1).Nodup
    rw [List.nodup_cons]
    refine ⟨fun hm => ?_, xnd_filter _ h.1⟩
    obtain ⟨q, hq, e⟩ := List.mem_map.mp hm
    have := (List.mem_filter.mp hq).2
    simp [e] at this
  · rcases List.mem_cons.mp hq with e | e
    · rw [e]; exact List.mem_cons_self
    · have e2 := List.mem_filter.mp e
      exact List.mem_cons_of_mem _ (List.mem_filter.mpr ⟨h.2 _ e2.1, e2.2⟩)
def xloc (op : Nat) : Prop := op = 0 ∨ op = 1 ∨ op = 2 ∨ op = 3 ∨ op = 4 ∨ op = 5 ∨ op = 8
set_option maxHeartbeats 4000000 in
theorem xsem_oth {X : xX} {SW : xSwT} {SL : xSwL} {op a b e : Nat} {c : Int32} {d : Int64} {nx : Nat} (l : xL) {st : List Value} {h : xH} (h8 : op < 80) (ho : ¬ xloc op) : xsem X SW SL op a b e c d nx l st h = (xsem X SW SL op a b e c d nx [] st h).map (fun F => (F.1, l, F.2.2)) := by
  have hc : op = 6 ∨ op = 7 ∨ op = 9 ∨ op = 10 ∨ op = 11 ∨ op = 12 ∨ op = 13 ∨ op = 14 ∨ op = 15 ∨ op = 16 ∨ op = 17 ∨ op = 18 ∨ op = 19 ∨ op = 20 ∨ op = 21 ∨ op = 22 ∨ op = 23 ∨ op = 24 ∨ op = 25 ∨ op = 26 ∨ op = 27 ∨ op = 28 ∨ op = 29 ∨ op = 30 ∨ op = 31 ∨ op = 32 ∨ op = 33 ∨ op = 34 ∨ op = 35 ∨ op = 36 ∨ op = 37 ∨ op = 38 ∨ op = 39 ∨ op = 40 ∨ op = 41 ∨ op = 42 ∨ op = 43 ∨ op = 44 ∨ op = 45 ∨ op = 46 ∨ op = 47 ∨ op = 48 ∨ op = 49 ∨ op = 50 ∨ op = 51 ∨ op = 52 ∨ op = 53 ∨ op = 54 ∨ op = 55 ∨ op = 56 ∨ op = 57 ∨ op = 58 ∨ op = 59 ∨ op = 60 ∨ op = 61 ∨ op = 62 ∨ op = 63 ∨ op = 64 ∨ op = 65 ∨ op = 66 ∨ op = 67 ∨ op = 68 ∨ op = 69 ∨ op = 70 ∨ op = 71 ∨ op = 72 ∨ op = 73 ∨ op = 74 ∨ op = 75 ∨ op = 76 ∨ op = 77 ∨ op = 78 ∨ op = 79 := by unfold xloc at ho; omega
  rcases hc with rfl | rfl | rfl | rfl | rfl | rfl | rfl | rfl | rfl | rfl | rfl | rfl | rfl | rfl | rfl | rfl | rfl | rfl | rfl | rfl | rfl | rfl | rfl | rfl | rfl | rfl | rfl | rfl | rfl | rfl | rfl | rfl | rfl | rfl | rfl | rfl | rfl | rfl | rfl | rfl | rfl | rfl | rfl | rfl | rfl | rfl | rfl | rfl | rfl | rfl | rfl | rfl | rfl | rfl | rfl | rfl | rfl | rfl | rfl | rfl | rfl | rfl | rfl | rfl | rfl | rfl | rfl | rfl | rfl | rfl | rfl | rfl | rfl
  all_goals (simp only [xsem]; repeat' split)
  all_goals rfl

theorem xsem_sub {X : xX} {SW : xSwT} {SL : xSwL} {op a b e : Nat} {c : Int32} {d : Int64} {nx : Nat} {l l' : xL} {st : List Value} {h : xH} {F : xF} (h8 : op < 80) (hs : xsb l l') (hF : xsem X SW SL op a b e c d nx l st h = some F) : ∃ l2, xsb F.2.1 l2 ∧ xsem X SW SL op a b e c d nx l' st h = some (F.1, l2, F.2.2) := by
  by_cases ho : xloc op
  · unfold xloc at ho
    rcases ho with rfl | rfl | rfl | rfl | rfl | rfl | rfl
    all_goals simp only [xsem] at hF ⊢
    · split at hF
      · rename_i x hx
        cases hF
        exact ⟨l', hs, by simp only [xsb_lk hs hx]⟩
      · cases hF
    · split at hF
      · rename_i x hx
        cases hF
        exact ⟨l', hs, by simp only [xsb_lk hs hx]⟩
      · rename_i x hx
        cases hF
        exact ⟨l', hs, by simp only [xsb_lk hs hx]⟩
      · rename_i hx
        cases hF
        exact ⟨l', hs, by simp only [xsb_lk hs hx]⟩
      · cases hF
    · split at hF
      · rename_i x hx
        cases hF
        exact ⟨l', hs, by simp only [xsb_lk hs hx]⟩
      · cases hF
    · split at hF
      · cases hF
        exact ⟨_, xsb_st hs _ _, rfl⟩
      · cases hF
    · split at hF
      · cases hF
        exact ⟨_, xsb_st hs _ _, rfl⟩
      · cases hF
        exact ⟨_, xsb_st hs _ _, rfl⟩
      · cases hF
        exact ⟨_, xsb_st hs _ _, rfl⟩
      · cases hF
    · split at hF
      · cases hF
        exact ⟨_, xsb_st2 hs _ _, rfl⟩
      · cases hF
    · split at hF
      · rename_i x hx
        cases hF
        exact ⟨_, xsb_st hs _ _, by simp only [xsb_lk hs hx]⟩
      · cases hF
  · rw [xsem_oth l h8 ho] at hF
    rw [xsem_oth l' h8 ho]
    cases hG : xsem X SW SL op a b e c d nx [] st h with
    | none => rw [hG] at hF; cases hF
    | some G =>
      rw [hG] at hF
      cases hF
      exact ⟨l', hs, rfl⟩
theorem xgo_sub {X : xX} {SW : xSwT} {SL : xSwL} {T : Nat → Nat → Option xI} {M : xM} {cl : Nat → List Value → xH → Option (Option Value × xH)} : ∀ (f k pc : Nat) (l l' : xL) (st : List Value) (h : xH) (r : Option Value × xH), xsb l l' → xgo X SW SL T M cl f k (pc, l, st, h) = some r → xgo X SW SL T M cl f k (pc, l', st, h) = some r := by
  intro f
  induction f with
  | zero => intro k pc l l' st h r _ hr; cases hr
  | succ f ih =>
    intro k pc l l' st h r hs hr
    rw [xgo] at hr ⊢
    dsimp only at hr ⊢
    split at hr
    · cases hr
    · rename_i i hi
      split at hr
      · rename_i h80
        rw [if_pos h80]
        split at hr
        · rename_i G hG
          obtain ⟨l2, hl2, e2⟩ := xsem_sub h80 hs hG
          rw [e2]
          exact ih _ _ _ _ _ _ _ hl2 hr
        · cases hr
      · rename_i h80
        rw [if_neg h80]
        split at hr
        · rename_i h90
          rw [if_pos h90]
          split at hr
          · rename_i hq
            rw [if_pos hq]
            split at hr
            · rename_i q hq2
              first
                | exact ih _ _ _ _ _ _ _ hs hr
                | (rw [hq2]; exact ih _ _ _ _ _ _ _ hs hr)
            · cases hr
          · cases hr
        · rename_i h90
          rw [if_neg h90]
          exact hr
/-- some of the locals, in a row of our own -/
def xpick : List Nat → xL → xL
  | [], _ => []
  | i :: r, l => match xlk l i with
    | some v => (i, v) :: xpick r l
    | none => xpick r l
theorem xpick_mem {ks : List Nat} {l : xL} {q : Nat × Value} (h : q ∈ xpick ks l) : q ∈ l := by
  induction ks with
  | nil => cases h
  | cons i r ih =>
    rw [xpick] at h
    split at h
    · rename_i v hv
      rcases List.mem_cons.mp h with e | e
      · rw [e]; exact xlk_mem hv
      · exact ih e
    · exact ih h
theorem Eg.pick {X : xX} {T : Nat → Nat → Option xI} {d k pc : Nat} {l : xL} {st : List Value} {h : xH} {Q : Option Value → xH → Prop} (ks : List Nat) (hn : xnd l) (hh : Eg X T d k pc (xpick ks l) st h Q) : Eg X T d k pc l st h Q := by
  obtain ⟨r, h', hQ, n, hf⟩ := hh
  exact ⟨r, h', hQ, n, fun f g hf1 hg => xgo_sub _ _ _ _ _ _ _ _ ⟨hn, fun q hq => xpick_mem hq⟩ (hf f g hf1 hg)⟩
section XB
variable {X : xX} {T : Nat → Nat → Option xI} {d k pc a b g nx n m i j : Nat} {c : Int32} {q : Int64} {l : xL} {st : List Value} {h : xH} {Q : Option Value → xH → Prop} {x y v : Int32} {z w u : Int64} {sh : List (Nat × Nat)} {I : Nat → Nat → Int32} {L : Nat → Nat → Int64} {R : Nat → Nat → Option Nat}
theorem e_ifeq_b (hi : T k pc = some (34, a, b, g, c, q, nx)) (k1 : x = 0 → Eg X T d k a l st h Q) (k2 : ¬ x = 0 → Eg X T d k nx l st h Q) : Eg X T d k pc l (.int x :: st) h Q := by
  by_cases hc : x = 0
  · exact e_ifeq_t hi hc (k1 hc)
  · exact e_ifeq_f hi hc (k2 hc)
theorem e_iflt_b (hi : T k pc = some (36, a, b, g, c, q, nx)) (k1 : x < 0 → Eg X T d k a l st h Q) (k2 : ¬ x < 0 → Eg X T d k nx l st h Q) : Eg X T d k pc l (.int x :: st) h Q := by
  by_cases hc : x < 0
  · exact e_iflt_t hi hc (k1 hc)
  · exact e_iflt_f hi hc (k2 hc)
theorem e_ifge_b (hi : T k pc = some (37, a, b, g, c, q, nx)) (k1 : 0 ≤ x → Eg X T d k a l st h Q) (k2 : ¬ 0 ≤ x → Eg X T d k nx l st h Q) : Eg X T d k pc l (.int x :: st) h Q := by
  by_cases hc : 0 ≤ x
  · exact e_ifge_t hi hc (k1 hc)
  · exact e_ifge_f hi hc (k2 hc)
theorem e_ifgt_b (hi : T k pc = some (38, a, b, g, c, q, nx)) (k1 : 0 < x → Eg X T d k a l st h Q) (k2 : ¬ 0 < x → Eg X T d k nx l st h Q) : Eg X T d k pc l (.int x :: st) h Q := by
  by_cases hc : 0 < x
  · exact e_ifgt_t hi hc (k1 hc)
  · exact e_ifgt_f hi hc (k2 hc)
theorem e_ifle_b (hi : T k pc = some (39, a, b, g, c, q, nx)) (k1 : x ≤ 0 → Eg X T d k a l st h Q) (k2 : ¬ x ≤ 0 → Eg X T d k nx l st h Q) : Eg X T d k pc l (.int x :: st) h Q := by
  by_cases hc : x ≤ 0
  · exact e_ifle_t hi hc (k1 hc)
  · exact e_ifle_f hi hc (k2 hc)
theorem e_ceq_b (hi : T k pc = some (40, a, b, g, c, q, nx)) (k1 : x = y → Eg X T d k a l st h Q) (k2 : ¬ x = y → Eg X T d k nx l st h Q) : Eg X T d k pc l (.int y :: .int x :: st) h Q := by
  by_cases hc : x = y
  · exact e_ceq_t hi hc (k1 hc)
  · exact e_ceq_f hi hc (k2 hc)
theorem e_clt_b (hi : T k pc = some (42, a, b, g, c, q, nx)) (k1 : x < y → Eg X T d k a l st h Q) (k2 : ¬ x < y → Eg X T d k nx l st h Q) : Eg X T d k pc l (.int y :: .int x :: st) h Q := by
  by_cases hc : x < y
  · exact e_clt_t hi hc (k1 hc)
  · exact e_clt_f hi hc (k2 hc)
theorem e_cge_b (hi : T k pc = some (43, a, b, g, c, q, nx)) (k1 : y ≤ x → Eg X T d k a l st h Q) (k2 : ¬ y ≤ x → Eg X T d k nx l st h Q) : Eg X T d k pc l (.int y :: .int x :: st) h Q := by
  by_cases hc : y ≤ x
  · exact e_cge_t hi hc (k1 hc)
  · exact e_cge_f hi hc (k2 hc)
theorem e_cgt_b (hi : T k pc = some (44, a, b, g, c, q, nx)) (k1 : y < x → Eg X T d k a l st h Q) (k2 : ¬ y < x → Eg X T d k nx l st h Q) : Eg X T d k pc l (.int y :: .int x :: st) h Q := by
  by_cases hc : y < x
  · exact e_cgt_t hi hc (k1 hc)
  · exact e_cgt_f hi hc (k2 hc)
theorem e_cle_b (hi : T k pc = some (45, a, b, g, c, q, nx)) (k1 : x ≤ y → Eg X T d k a l st h Q) (k2 : ¬ x ≤ y → Eg X T d k nx l st h Q) : Eg X T d k pc l (.int y :: .int x :: st) h Q := by
  by_cases hc : x ≤ y
  · exact e_cle_t hi hc (k1 hc)
  · exact e_cle_f hi hc (k2 hc)
theorem e_ifne_b (hi : T k pc = some (35, a, b, g, c, q, nx)) (k1 : ¬ x = 0 → Eg X T d k a l st h Q) (k2 : x = 0 → Eg X T d k nx l st h Q) : Eg X T d k pc l (.int x :: st) h Q := by
  by_cases hc : x = 0
  · exact e_ifne_f hi hc (k2 hc)
  · exact e_ifne_t hi hc (k1 hc)
theorem e_cne_b (hi : T k pc = some (41, a, b, g, c, q, nx)) (k1 : ¬ x = y → Eg X T d k a l st h Q) (k2 : x = y → Eg X T d k nx l st h Q) : Eg X T d k pc l (.int y :: .int x :: st) h Q := by
  by_cases hc : x = y
  · exact e_cne_f hi hc (k2 hc)
  · exact e_cne_t hi hc (k1 hc)
theorem Eg.c0 {op : Nat} {Q1 : Option Value → xH → Prop} (hi : T k pc = some (op, a, b, g, c, q, nx)) (h8 : ¬ op < 80) (h9 : op < 90) (hl : (xMb a).1 = 0) (hc : (st.map fun v => v.category).sum ≤ 8) (hr : xrcv xMb op a (st) h = true) (hm : Ec X d a [] h Q1) (kk : ∀ r1 h1, Q1 r1 h1 → Eg X T d k nx l (r1.toList ++ st) h1 Q) : Eg X T d k pc l (st) h Q :=
  Eg.call [] st hi h8 h9 rfl hl.symm hc hr hm kk
theorem Eg.p0 {op : Nat} {w : Value} (hi : T k pc = some (op, a, b, g, c, q, nx)) (h8 : ¬ op < 80) (h9 : op < 90) (hl : (xMb a).1 = 0) (hc : (st.map fun v => v.category).sum ≤ 8) (hr : xrcv xMb op a (st) h = true) (hm : Ec X d a [] h (fun r h1 => r = some w ∧ h1 = h)) (kk : Eg X T d k nx l (w :: st) h Q) : Eg X T d k pc l (st) h Q := by
  refine Eg.call [] st hi h8 h9 rfl hl.symm hc hr hm (fun r1 h1 hq => ?_)
  obtain ⟨rfl, rfl⟩ := hq
  exact kk
theorem Eg.c1 {op : Nat} {v1 : Value} {Q1 : Option Value → xH → Prop} (hi : T k pc = some (op, a, b, g, c, q, nx)) (h8 : ¬ op < 80) (h9 : op < 90) (hl : (xMb a).1 = 1) (hc : (st.map fun v => v.category).sum ≤ 8) (hr : xrcv xMb op a (v1 :: st) h = true) (hm : Ec X d a [v1] h Q1) (kk : ∀ r1 h1, Q1 r1 h1 → Eg X T d k nx l (r1.toList ++ st) h1 Q) : Eg X T d k pc l (v1 :: st) h Q :=
  Eg.call [v1] st hi h8 h9 rfl hl.symm hc hr hm kk
theorem Eg.p1 {op : Nat} {v1 : Value} {w : Value} (hi : T k pc = some (op, a, b, g, c, q, nx)) (h8 : ¬ op < 80) (h9 : op < 90) (hl : (xMb a).1 = 1) (hc : (st.map fun v => v.category).sum ≤ 8) (hr : xrcv xMb op a (v1 :: st) h = true) (hm : Ec X d a [v1] h (fun r h1 => r = some w ∧ h1 = h)) (kk : Eg X T d k nx l (w :: st) h Q) : Eg X T d k pc l (v1 :: st) h Q := by
  refine Eg.call [v1] st hi h8 h9 rfl hl.symm hc hr hm (fun r1 h1 hq => ?_)
  obtain ⟨rfl, rfl⟩ := hq
  exact kk
theorem Eg.c2 {op : Nat} {v1 v2 : Value} {Q1 : Option Value → xH → Prop} (hi : T k pc = some (op, a, b, g, c, q, nx)) (h8 : ¬ op < 80) (h9 : op < 90) (hl : (xMb a).1 = 2) (hc : (st.map fun v => v.category).sum ≤ 8) (hr : xrcv xMb op a (v2 :: v1 :: st) h = true) (hm : Ec X d a [v1, v2] h Q1) (kk : ∀ r1 h1, Q1 r1 h1 → Eg X T d k nx l (r1.toList ++ st) h1 Q) : Eg X T d k pc l (v2 :: v1 :: st) h Q :=
  Eg.call [v1, v2] st hi h8 h9 rfl hl.symm hc hr hm kk
theorem Eg.p2 {op : Nat} {v1 v2 : Value} {w : Value} (hi : T k pc = some (op, a, b, g, c, q, nx)) (h8 : ¬ op < 80) (h9 : op < 90) (hl : (xMb a).1 = 2) (hc : (st.map fun v => v.category).sum ≤ 8) (hr : xrcv xMb op a (v2 :: v1 :: st) h = true) (hm : Ec X d a [v1, v2] h (fun r h1 => r = some w ∧ h1 = h)) (kk : Eg X T d k nx l (w :: st) h Q) : Eg X T d k pc l (v2 :: v1 :: st) h Q := by
  refine Eg.call [v1, v2] st hi h8 h9 rfl hl.symm hc hr hm (fun r1 h1 hq => ?_)
  obtain ⟨rfl, rfl⟩ := hq
  exact kk
theorem Eg.c3 {op : Nat} {v1 v2 v3 : Value} {Q1 : Option Value → xH → Prop} (hi : T k pc = some (op, a, b, g, c, q, nx)) (h8 : ¬ op < 80) (h9 : op < 90) (hl : (xMb a).1 = 3) (hc : (st.map fun v => v.category).sum ≤ 8) (hr : xrcv xMb op a (v3 :: v2 :: v1 :: st) h = true) (hm : Ec X d a [v1, v2, v3] h Q1) (kk : ∀ r1 h1, Q1 r1 h1 → Eg X T d k nx l (r1.toList ++ st) h1 Q) : Eg X T d k pc l (v3 :: v2 :: v1 :: st) h Q :=
  Eg.call [v1, v2, v3] st hi h8 h9 rfl hl.symm hc hr hm kk
theorem Eg.p3 {op : Nat} {v1 v2 v3 : Value} {w : Value} (hi : T k pc = some (op, a, b, g, c, q, nx)) (h8 : ¬ op < 80) (h9 : op < 90) (hl : (xMb a).1 = 3) (hc : (st.map fun v => v.category).sum ≤ 8) (hr : xrcv xMb op a (v3 :: v2 :: v1 :: st) h = true) (hm : Ec X d a [v1, v2, v3] h (fun r h1 => r = some w ∧ h1 = h)) (kk : Eg X T d k nx l (w :: st) h Q) : Eg X T d k pc l (v3 :: v2 :: v1 :: st) h Q := by
  refine Eg.call [v1, v2, v3] st hi h8 h9 rfl hl.symm hc hr hm (fun r1 h1 hq => ?_)
  obtain ⟨rfl, rfl⟩ := hq
  exact kk
theorem Eg.c4 {op : Nat} {v1 v2 v3 v4 : Value} {Q1 : Option Value → xH → Prop} (hi : T k pc = some (op, a, b, g, c, q, nx)) (h8 : ¬ op < 80) (h9 : op < 90) (hl : (xMb a).1 = 4) (hc : (st.map fun v => v.category).sum ≤ 8) (hr : xrcv xMb op a (v4 :: v3 :: v2 :: v1 :: st) h = true) (hm : Ec X d a [v1, v2, v3, v4] h Q1) (kk : ∀ r1 h1, Q1 r1 h1 → Eg X T d k nx l (r1.toList ++ st) h1 Q) : Eg X T d k pc l (v4 :: v3 :: v2 :: v1 :: st) h Q :=
  Eg.call [v1, v2, v3, v4] st hi h8 h9 rfl hl.symm hc hr hm kk
theorem Eg.p4 {op : Nat} {v1 v2 v3 v4 : Value} {w : Value} (hi : T k pc = some (op, a, b, g, c, q, nx)) (h8 : ¬ op < 80) (h9 : op < 90) (hl : (xMb a).1 = 4) (hc : (st.map fun v => v.category).sum ≤ 8) (hr : xrcv xMb op a (v4 :: v3 :: v2 :: v1 :: st) h = true) (hm : Ec X d a [v1, v2, v3, v4] h (fun r h1 => r = some w ∧ h1 = h)) (kk : Eg X T d k nx l (w :: st) h Q) : Eg X T d k pc l (v4 :: v3 :: v2 :: v1 :: st) h Q := by
  refine Eg.call [v1, v2, v3, v4] st hi h8 h9 rfl hl.symm hc hr hm (fun r1 h1 hq => ?_)
  obtain ⟨rfl, rfl⟩ := hq
  exact kk
theorem Eg.c5 {op : Nat} {v1 v2 v3 v4 v5 : Value} {Q1 : Option Value → xH → Prop} (hi : T k pc = some (op, a, b, g, c, q, nx)) (h8 : ¬ op < 80) (h9 : op < 90) (hl : (xMb a).1 = 5) (hc : (st.map fun v => v.category).sum ≤ 8) (hr : xrcv xMb op a (v5 :: v4 :: v3 :: v2 :: v1 :: st) h = true) (hm : Ec X d a [v1, v2, v3, v4, v5] h Q1) (kk : ∀ r1 h1, Q1 r1 h1 → Eg X T d k nx l (r1.toList ++ st) h1 Q) : Eg X T d k pc l (v5 :: v4 :: v3 :: v2 :: v1 :: st) h Q :=
  Eg.call [v1, v2, v3, v4, v5] st hi h8 h9 rfl hl.symm hc hr hm kk
theorem Eg.p5 {op : Nat} {v1 v2 v3 v4 v5 : Value} {w : Value} (hi : T k pc = some (op, a, b, g, c, q, nx)) (h8 : ¬ op < 80) (h9 : op < 90) (hl : (xMb a).1 = 5) (hc : (st.map fun v => v.category).sum ≤ 8) (hr : xrcv xMb op a (v5 :: v4 :: v3 :: v2 :: v1 :: st) h = true) (hm : Ec X d a [v1, v2, v3, v4, v5] h (fun r h1 => r = some w ∧ h1 = h)) (kk : Eg X T d k nx l (w :: st) h Q) : Eg X T d k pc l (v5 :: v4 :: v3 :: v2 :: v1 :: st) h Q := by
  refine Eg.call [v1, v2, v3, v4, v5] st hi h8 h9 rfl hl.symm hc hr hm (fun r1 h1 hq => ?_)
  obtain ⟨rfl, rfl⟩ := hq
  exact kk
theorem Eg.c6 {op : Nat} {v1 v2 v3 v4 v5 v6 : Value} {Q1 : Option Value → xH → Prop} (hi : T k pc = some (op, a, b, g, c, q, nx)) (h8 : ¬ op < 80) (h9 : op < 90) (hl : (xMb a).1 = 6) (hc : (st.map fun v => v.category).sum ≤ 8) (hr : xrcv xMb op a (v6 :: v5 :: v4 :: v3 :: v2 :: v1 :: st) h = true) (hm : Ec X d a [v1, v2, v3, v4, v5, v6] h Q1) (kk : ∀ r1 h1, Q1 r1 h1 → Eg X T d k nx l (r1.toList ++ st) h1 Q) : Eg X T d k pc l (v6 :: v5 :: v4 :: v3 :: v2 :: v1 :: st) h Q :=
  Eg.call [v1, v2, v3, v4, v5, v6] st hi h8 h9 rfl hl.symm hc hr hm kk
theorem Eg.p6 {op : Nat} {v1 v2 v3 v4 v5 v6 : Value} {w : Value} (hi : T k pc = some (op, a, b, g, c, q, nx)) (h8 : ¬ op < 80) (h9 : op < 90) (hl : (xMb a).1 = 6) (hc : (st.map fun v => v.category).sum ≤ 8) (hr : xrcv xMb op a (v6 :: v5 :: v4 :: v3 :: v2 :: v1 :: st) h = true) (hm : Ec X d a [v1, v2, v3, v4, v5, v6] h (fun r h1 => r = some w ∧ h1 = h)) (kk : Eg X T d k nx l (w :: st) h Q) : Eg X T d k pc l (v6 :: v5 :: v4 :: v3 :: v2 :: v1 :: st) h Q := by
  refine Eg.call [v1, v2, v3, v4, v5, v6] st hi h8 h9 rfl hl.symm hc hr hm (fun r1 h1 hq => ?_)
  obtain ⟨rfl, rfl⟩ := hq
  exact kk
theorem Eg.c7 {op : Nat} {v1 v2 v3 v4 v5 v6 v7 : Value} {Q1 : Option Value → xH → Prop} (hi : T k pc = some (op, a, b, g, c, q, nx)) (h8 : ¬ op < 80) (h9 : op < 90) (hl : (xMb a).1 = 7) (hc : (st.map fun v => v.category).sum ≤ 8) (hr : xrcv xMb op a (v7 :: v6 :: v5 :: v4 :: v3 :: v2 :: v1 :: st) h = true) (hm : Ec X d a [v1, v2, v3, v4, v5, v6, v7] h Q1) (kk : ∀ r1 h1, Q1 r1 h1 → Eg X T d k nx l (r1.toList ++ st) h1 Q) : Eg X T d k pc l (v7 :: v6 :: v5 :: v4 :: v3 :: v2 :: v1 :: st) h Q :=
  Eg.call [v1, v2, v3, v4, v5, v6, v7] st hi h8 h9 rfl hl.symm hc hr hm kk
theorem Eg.p7 {op : Nat} {v1 v2 v3 v4 v5 v6 v7 : Value} {w : Value} (hi : T k pc = some (op, a, b, g, c, q, nx)) (h8 : ¬ op < 80) (h9 : op < 90) (hl : (xMb a).1 = 7) (hc : (st.map fun v => v.category).sum ≤ 8) (hr : xrcv xMb op a (v7 :: v6 :: v5 :: v4 :: v3 :: v2 :: v1 :: st) h = true) (hm : Ec X d a [v1, v2, v3, v4, v5, v6, v7] h (fun r h1 => r = some w ∧ h1 = h)) (kk : Eg X T d k nx l (w :: st) h Q) : Eg X T d k pc l (v7 :: v6 :: v5 :: v4 :: v3 :: v2 :: v1 :: st) h Q := by
  refine Eg.call [v1, v2, v3, v4, v5, v6, v7] st hi h8 h9 rfl hl.symm hc hr hm (fun r1 h1 hq => ?_)
  obtain ⟨rfl, rfl⟩ := hq
  exact kk
/-- an index that is a number -/
theorem e_ialn (hi : T k pc = some (55, a, b, g, c, q, nx)) (hs : sh[i]? = some (20, n)) {t : Nat} (ht : x = nI t) (hx : t < n) (h31 : n < 2 ^ 31) (kk : Eg X T d k nx l (.int (I i t) :: st) (sh, I, L, R) Q) : Eg X T d k pc l (.int x :: .ref i :: st) (sh, I, L, R) Q := by
  subst ht
  refine e_iald hi hs (vp_in_nI hx (by omega)) ?_
  rw [nI_clamp (by omega)]
  exact kk
theorem e_zaln (hi : T k pc = some (57, a, b, g, c, q, nx)) (hs : sh[i]? = some (22, n)) {t : Nat} (ht : x = nI t) (hx : t < n) (h31 : n < 2 ^ 31) (kk : Eg X T d k nx l (.int (I i t) :: st) (sh, I, L, R) Q) : Eg X T d k pc l (.int x :: .ref i :: st) (sh, I, L, R) Q := by
  subst ht
  refine e_zald hi hs (vp_in_nI hx (by omega)) ?_
  rw [nI_clamp (by omega)]
  exact kk
theorem e_baln (hi : T k pc = some (57, a, b, g, c, q, nx)) (hs : sh[i]? = some (23, n)) {t : Nat} (ht : x = nI t) (hx : t < n) (h31 : n < 2 ^ 31) (kk : Eg X T d k nx l (.int (I i t) :: st) (sh, I, L, R) Q) : Eg X T d k pc l (.int x :: .ref i :: st) (sh, I, L, R) Q := by
  subst ht
  refine e_bald hi hs (vp_in_nI hx (by omega)) ?_
  rw [nI_clamp (by omega)]
  exact kk
theorem e_laln (hi : T k pc = some (56, a, b, g, c, q, nx)) (hs : sh[i]? = some (21, n)) {t : Nat} (ht : x = nI t) (hx : t < n) (h31 : n < 2 ^ 31) (kk : Eg X T d k nx l (.long (L i t) :: st) (sh, I, L, R) Q) : Eg X T d k pc l (.int x :: .ref i :: st) (sh, I, L, R) Q := by
  subst ht
  refine e_lald hi hs (vp_in_nI hx (by omega)) ?_
  rw [nI_clamp (by omega)]
  exact kk
theorem e_iasn (hi : T k pc = some (59, a, b, g, c, q, nx)) (hs : sh[i]? = some (20, n)) {t : Nat} (ht : x = nI t) (hx : t < n) (h31 : n < 2 ^ 31) (kk : Eg X T d k nx l st (sh, xu I i t v, L, R) Q) : Eg X T d k pc l (.int v :: .int x :: .ref i :: st) (sh, I, L, R) Q := by
  subst ht
  refine e_iast hi hs (vp_in_nI hx (by omega)) ?_
  rw [nI_clamp (by omega)]
  exact kk
theorem e_lasn (hi : T k pc = some (60, a, b, g, c, q, nx)) (hs : sh[i]? = some (21, n)) {t : Nat} (ht : x = nI t) (hx : t < n) (h31 : n < 2 ^ 31) (kk : Eg X T d k nx l st (sh, I, xu L i t u, R) Q) : Eg X T d k pc l (.long u :: .int x :: .ref i :: st) (sh, I, L, R) Q := by
  subst ht
  refine e_last hi hs (vp_in_nI hx (by omega)) ?_
  rw [nI_clamp (by omega)]
  exact kk
theorem e_zasn (hi : T k pc = some (62, a, b, g, c, q, nx)) (hs : sh[i]? = some (22, n)) {t : Nat} (ht : x = nI t) (hx : t < n) (h31 : n < 2 ^ 31) (hv : v = 0 ∨ v = 1) (kk : Eg X T d k nx l st (sh, xu I i t v, L, R) Q) : Eg X T d k pc l (.int v :: .int x :: .ref i :: st) (sh, I, L, R) Q := by
  subst ht
  refine e_zast hi hs (vp_in_nI hx (by omega)) hv ?_
  rw [nI_clamp (by omega)]
  exact kk
end XB
/-- a number that is none of the first n lies outside of them -/
theorem sw_out {x : Int32} {n : Nat} (hn : n < 2 ^ 31) (h : ∀ t, t < n → ¬ x = nI t) : x.toInt < 0 ∨ (0 : Int) + (n : Int) ≤ x.toInt := by
  by_cases h0 : x.toInt < 0
  · exact Or.inl h0
  · refine Or.inr ?_
    by_cases h1 : (n : Int) ≤ x.toInt
    · omega
    · exfalso
      refine h x.toInt.toNat (by omega) (Int32.toInt_inj.mp ?_)
      rw [nI_toInt (by omega)]
      omega
