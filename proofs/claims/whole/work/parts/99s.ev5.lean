/-! a DAY by a rule -/
section EU
variable {X : xX} {h : xH} {sh : List (Nat × Nat)} {I : Nat → Nat → Int32} {L : Nat → Nat → Int64} {R : Nat → Nat → Option Nat} {B : Nat → Nat} {n ri p : Nat} {st : rS}
variable {ru m s : Nat} {v : Nat → Nat → Int32} {W : Nat → Int64} {cd : List (Nat × Nat)} {cl : List (Nat × Nat × Nat)}
theorem dstep_cg {V : Nat → Nat → Int32} {g : Nat → Int32} {k f : Nat} (h : ∀ f, V f k = v f k) (h7x : V 1 7 = v 1 7) : dstep g k V f k = dstep g k v f k := by
  unfold dstep
  rw [h 18, h 14, h 13, h7x]
  split
  · split
    · by_cases e : f = 18
      · rw [e, xu_at, xu_at]
      · rw [xu_o (Or.inl e), xu_o (Or.inl e), h f]
    · by_cases e : f = 13
      · rw [e, xu_at, xu_at]
      · rw [xu_o (Or.inl e), xu_o (Or.inl e)]
        by_cases e2x : f = 14
        · rw [e2x, xu_at, xu_at]
        · rw [xu_o (Or.inl e2x), xu_o (Or.inl e2x), h f]
  · exact h f
theorem dayW_at {g : Nat → Int32} {n k f : Nat} (hk : k < n) : dayW v g n f k = dstep g k v f k := by
  induction n with
  | zero => omega
  | succ n ih =>
    show dstep g n (dayW v g n) f k = _
    by_cases e : k = n
    · rw [e]; exact dstep_cg (fun f => dayW_o (Or.inr (Nat.le_refl _))) (dayW_o (Or.inl (by decide)))
    · rw [dstep_o (Or.inr e)]; exact ih (by omega)
theorem dayF_wf {g : Nat → Int32} (hw : Wf v) (h7x : cn v 7 < 20000) (hg : ∀ k, k < cn v 4 → v 18 k = -1 → 0 < v 14 k → ∃ c, c < cn v 0 ∧ v 13 k + g k = nI c) : Wf (dayF v g) := by
  have h44x := hw.1.2.2.2.2.2.1
  have h8x := hw.1.2.2.2.2.2.2.2.2.2.1
  have h9x := hw.1.2.2.2.2.2.2.2.2.2.2.1
  refine Wf.mk hw (dayF_agr h44x) ⟨cn v 7 + 1, by omega, xu_at⟩ ⟨cn v 8, h8x, ?_⟩ ⟨cn v 9, h9x, ?_⟩ (fun k hk => ?_)
  · rw [dayF_o (Or.inr (by decide)), dayW_o (Or.inl (by decide))]; exact hw.n (by decide)
  · rw [dayF_o (Or.inr (by decide)), dayW_o (Or.inl (by decide))]; exact hw.n (by decide)
  · obtain ⟨c, t, e1x, l1x, e2x, l2x⟩ := hw.ships k hk
    obtain ⟨c0x, w0x, m0x, b0x, -, -, z1x, z2x, z3x, z4x, z5x, -⟩ := hw.2.2.2.2 k hk
    rw [dayF_o (Or.inl (by decide)), dayF_o (Or.inl (by decide)), dayW_at hk, dayW_at hk]
    unfold dstep
    by_cases d1x : v 18 k = -1
    · rw [if_pos d1x]
      by_cases d2x : v 14 k ≤ 0
      · rw [if_pos d2x, xu_o (Or.inl (by decide)), xu_o (Or.inl (by decide))]; exact ⟨c, t, e1x, l1x, e2x, l2x⟩
      · rw [if_neg d2x, xu_at, xu_o (Or.inl (by decide)), xu_at]
        have t0x : 0 < t := by
          apply Decidable.byContradiction; intro q
          exact d2x (by rw [e2x, show t = 0 by omega]; decide)
        have t30x := l2x m0x z5x z3x
        obtain ⟨c', lc, ec⟩ := hg k hk d1x (by rw [e2x]; exact (nI_lti (a := 0) (by decide) (by omega)).mpr t0x)
        refine ⟨c', t - 1, ec, lc, ?_, fun m q1x q2x => by have := l2x m q1x q2x; omega⟩
        rw [e2x]; exact nI_sub (b := 1) t0x
    · rw [if_neg d1x]; exact ⟨c, t, e1x, l1x, e2x, l2x⟩
def upI (g : Nat → Int32) (n : Nat) (x : Int32) : Nat → Int32 := fun k => if k = n then x else g k
theorem upI_at {g : Nat → Int32} {n : Nat} {x : Int32} : upI g n x n = x := if_pos rfl
theorem upI_o {g : Nat → Int32} {n k : Nat} {x : Int32} (h : k ≠ n) : upI g n x k = g k := if_neg h
/-- the way that a sum tells -/
def wayG (v : Nat → Nat → Int32) (k : Nat) (g : Int64) : Int32 := if (g = 1 ∨ g = -1) ∧ canF v k (v 13 k + g.toInt32) = true then g.toInt32 else 0
/-- a ship by a rule: what it fills, which way it goes -/
def rds (cd : List (Nat × Nat)) (cl : List (Nat × Nat × Nat)) (k : Nat) (z : (Nat → Nat → Int32) × (Nat → Int32)) : (Nat → Nat → Int32) × (Nat → Int32) := if z.1 18 k = -1 then (rfil z.1 cd cl k, upI z.2 k (wayG (rfil z.1 cd cl k) k (goL (ask (rfil z.1 cd cl k) k) cd cl))) else (z.1, upI z.2 k 0)
def rdA (v : Nat → Nat → Int32) (cd : List (Nat × Nat)) (cl : List (Nat × Nat × Nat)) : Nat → (Nat → Nat → Int32) × (Nat → Int32) := itN (rds cd cl) (v, fun _ => 0)
def rday (v : Nat → Nat → Int32) (cd : List (Nat × Nat)) (cl : List (Nat × Nat × Nat)) : Nat → Nat → Int32 := dayF (rdA v cd cl (cn v 4)).1 (rdA v cd cl (cn v 4)).2
theorem rfil_o {k f i : Nat} (h : f ≠ 14 ∧ f ≠ 17) : rfil v cd cl k f i = v f i := by
  unfold rfil; split
  · exact ex_fill h
  · rfl
theorem rfil_i {k f i : Nat} (h : i ≠ k) : rfil v cd cl k f i = v f i := by
  unfold rfil; split
  · unfold filF; rw [xu_o (Or.inr h), xu_o (Or.inr h)]
  · rfl
theorem rfil_wf {k : Nat} (hw : Wf v) (hk : k < cn v 4) : Wf (rfil v cd cl k) := by
  unfold rfil; split
  · exact filF_wf hw hk
  · exact hw
theorem rfil_agr {k : Nat} (hk : k < 4) : agr (rfil v cd cl k) v := by
  unfold rfil; split
  · exact filF_agr hk
  · exact fun _ _ _ => rfl
theorem wayG_in {k : Nat} {g : Int64} (hw : Wf v) (hk : k < cn v 4) : ∃ c, c < cn v 0 ∧ v 13 k + wayG v k g = nI c := by
  obtain ⟨e, l⟩ := sc_nI hw hk
  have h12x := hw.1.2.1
  unfold wayG; split
  · rename_i q
    obtain ⟨t, lt, et⟩ := nI_get (canF_iff.mp q.2).1 (by omega)
    exact ⟨t, lt, et⟩
  · exact ⟨sc v k, l, by rw [e]; grind⟩
theorem wf_same {V : Nat → Nat → Int32} (h : ∀ f i, f ≠ 14 ∧ f ≠ 17 → V f i = v f i) (j : Nat) : cn V j = cn v j := by unfold cn; rw [h 1 j (by decide)]
theorem rdA_ok (hw : Wf v) : ∀ n, n ≤ cn v 4 → agr (rdA v cd cl n).1 v ∧ Wf (rdA v cd cl n).1 ∧ (∀ f i, f ≠ 14 ∧ f ≠ 17 → (rdA v cd cl n).1 f i = v f i) ∧ (∀ f i, n ≤ i → (rdA v cd cl n).1 f i = v f i) ∧ ∀ k, k < n → ∃ c, c < cn v 0 ∧ v 13 k + (rdA v cd cl n).2 k = nI c := by
  have h44x := hw.1.2.2.2.2.2.1
  intro n
  induction n with
  | zero => intro _; exact ⟨fun _ _ _ => rfl, hw, fun _ _ _ => rfl, fun _ _ _ => rfl, fun k q => absurd q (Nat.not_lt_zero _)⟩
  | succ n ih =>
    intro hn
    obtain ⟨a1x, a2x, a3x, a4x, a5x⟩ := ih (by omega)
    show agr (rds cd cl n (rdA v cd cl n)).1 v ∧ Wf (rds cd cl n (rdA v cd cl n)).1 ∧ (∀ f i, f ≠ 14 ∧ f ≠ 17 → (rds cd cl n (rdA v cd cl n)).1 f i = v f i) ∧ (∀ f i, n + 1 ≤ i → (rds cd cl n (rdA v cd cl n)).1 f i = v f i) ∧ ∀ k, k < n + 1 → ∃ c, c < cn v 0 ∧ v 13 k + (rds cd cl n (rdA v cd cl n)).2 k = nI c
    generalize rdA v cd cl n = z at a1x a2x a3x a4x a5x ⊢
    have c4x : cn z.1 4 = cn v 4 := wf_same a3x 4
    have c0x : cn z.1 0 = cn v 0 := wf_same a3x 0
    unfold rds
    by_cases e : z.1 18 n = -1
    · rw [if_pos e]
      have w1x : Wf (rfil z.1 cd cl n) := rfil_wf a2x (by omega)
      refine ⟨fun f i q => (rfil_agr (by omega) f i q).trans (a1x f i q), w1x, fun f i q => (rfil_o q).trans (a3x f i q), fun f i q => (rfil_i (by omega)).trans (a4x f i (by omega)), fun k q => ?_⟩
      show ∃ c, c < cn v 0 ∧ v 13 k + upI z.2 n _ k = nI c
      by_cases ek : k = n
      · rw [ek, upI_at]
        have e13x : rfil z.1 cd cl n 13 n = v 13 n := (rfil_o (by decide)).trans (a3x 13 n (by decide))
        have c0' : cn (rfil z.1 cd cl n) 0 = cn v 0 := (wf_same (fun f i q => rfil_o q) 0).trans c0x
        have c4' : cn (rfil z.1 cd cl n) 4 = cn v 4 := (wf_same (fun f i q => rfil_o q) 4).trans c4x
        have := wayG_in (g := goL (ask (rfil z.1 cd cl n) n) cd cl) w1x (k := n) (by omega)
        rw [e13x, c0'] at this; exact this
      · rw [upI_o ek]; exact a5x k (by omega)
    · rw [if_neg e]
      refine ⟨a1x, a2x, a3x, fun f i q => a4x f i (by omega), fun k q => ?_⟩
      show ∃ c, c < cn v 0 ∧ v 13 k + upI z.2 n 0 k = nI c
      by_cases ek : k = n
      · rw [ek, upI_at]
        obtain ⟨e1x, l1x⟩ := sc_nI hw (k := n) (by omega)
        exact ⟨sc v n, l1x, by rw [e1x]; grind⟩
      · rw [upI_o ek]; exact a5x k (by omega)
theorem rday_wf (hw : Wf v) (h7x : cn v 7 < 20000) : Wf (rday v cd cl) := by
  obtain ⟨a1x, a2x, a3x, a4x, a5x⟩ := rdA_ok (cd := cd) (cl := cl) hw (cn v 4) (Nat.le_refl _)
  unfold rday
  generalize rdA v cd cl (cn v 4) = z at a1x a2x a3x a4x a5x ⊢
  refine dayF_wf a2x (by rw [wf_same a3x]; exact h7x) (fun k hk _ _ => ?_)
  rw [wf_same a3x] at hk ⊢
  rw [a3x 13 k (by decide)]; exact a5x k hk
theorem rday_agr (hw : Wf v) : agr (rday v cd cl) v := by
  obtain ⟨a1x, a2x, a3x, a4x, a5x⟩ := rdA_ok (cd := cd) (cl := cl) hw (cn v 4) (Nat.le_refl _)
  unfold rday
  have h44x := a2x.1.2.2.2.2.2.1
  exact fun f i q => (dayF_agr h44x f i q).trans (a1x f i q)
theorem rday_7 (hw : Wf v) : cn (rday v cd cl) 7 = cn v 7 + 1 := by
  obtain ⟨a1x, a2x, a3x, a4x, a5x⟩ := rdA_ok (cd := cd) (cl := cl) hw (cn v 4) (Nat.le_refl _)
  unfold rday
  rw [dayF_7 (a2x.1.2.2.2.2.2.2.2.2.1), wf_same a3x]
theorem cs_wayBy (hC : CrAt sh R) (hU : RuAt sh R ru) (hru : RuV I ru cd cl) (hok : ruOK cd cl) (hS : SeaAt sh R s) (hV : SeaV I s v) (hw : Wf v) (hM : MomAt sh R m) (hms : R m 0 = some s) (hW : MomV I m v) {k : Nat} (hk : k < cn v 4) (hA : ∀ j, j < 11 → L 239 (wvx.getD j 0) = W j) : Ec X 5 5 [.ref 237, .ref m, .ref ru, .int (nI k)] (sh, I, L, R) (fun r h' => r = some (.int (wayG v k (goL W cd cl))) ∧ ∃ M : Nat → Nat → Int64, h' = (sh, I, M, R) ∧ ∀ p q, p ≠ 238 → M p q = L p q) := by
  have l12x := hok.2.2.2.1
  refine Ec.of (Nat.le_of_ble_eq_true rfl) ?_
  refine e_ipush rfl ?_
  refine e_istore rfl ?_
  refine Eg.pk [0, 1, 2, 3, 4] [4, 0, 1, 2, 3] rfl (by decide) ?_
  have key : ∀ (l : List (Nat × Nat × Nat)) (i : Nat), i + l.length = cl.length → cl.drop i = l → ∀ M : Nat → Nat → Int64, (∀ p q, p ≠ 238 → M p q = L p q) → Eg X xTc 4 5 3 [(0, .ref 237), (1, .ref m), (2, .ref ru), (3, .int (nI k)), (4, .int (nI i))] [] (sh, I, M, R) (fun r h' => r = some (.int (wayG v k (goL W cd l))) ∧ ∃ M : Nat → Nat → Int64, h' = (sh, I, M, R) ∧ ∀ p q, p ≠ 238 → M p q = L p q) := by
    intro l
    induction l with
    | nil =>
      intro i hi hd M m2x
      have ei : i = cl.length := by simpa using hi
      refine e_iload rfl rfl ?_
      refine e_aload rfl rfl ?_
      refine e_getIv rfl hU.1 hru.2.1 ?_
      refine e_cge_t rfl (by rw [ei]; exact Int32.le_refl _) ?_
      refine e_ipush rfl ?_
      exact Eg.ret rfl (by decide) rfl ⟨congrArg (fun z => some (Value.int z)) (show _ = wayG v k 0 from (if_neg (fun q => q.1.elim (by decide) (by decide))).symm), M, rfl, m2x⟩
    | cons c l ih =>
      intro i hi hd M m2x
      have il : i < cl.length := by simp at hi; omega
      have hc : cl[i]? = some c := by
        have : (cl.drop i)[0]? = some c := by rw [hd]; rfl
        rw [List.getElem?_drop] at this; exact this
      have hd2x : cl.drop (i + 1) = l := by rw [← List.tail_drop, hd]; rfl
      have ih := ih (i + 1) (by simp at hi; omega) hd2x
      have q1x := hru.2.2.2 i c hc
      obtain ⟨c1x, c2x, c3x, c4x, c5x, c6x⟩ := hok.2.2.2.2 c (List.mem_of_getElem? hc)
      have hl := hok.1
      have mA : ∀ j, j < 11 → M 239 (wvx.getD j 0) = W j := fun j q => (m2x 239 _ (by decide)).trans (hA j q)
      refine e_iload rfl rfl ?_
      refine e_aload rfl rfl ?_
      refine e_getIv rfl hU.1 hru.2.1 ?_
      refine e_cge_f rfl (fun q => absurd ((nI_lei (by omega) (by omega)).mp q) (by omega)) ?_
      refine e_aload rfl rfl ?_
      refine e_iload rfl rfl ?_
      refine Eg.p2 rfl (by decide) (by decide) rfl (Nat.le_of_ble_eq_true rfl) (xrcv_of rfl hU.1 rfl) ((cs_isFill hU hru hok hc).mono (by decide)) ?_
      refine e_ifne_b rfl (fun b18x => ?_) (fun b18x => ?_)
      · replace b18x := yn_n0.mp b18x
        refine e_iinc rfl rfl ?_
        refine e_goto rfl ?_
        rw [nI_1]
        have eg : goL W cd (c :: l) = goL W cd l := if_neg (fun q => b18x q.1)
        rw [eg]
        exact Eg.pk [0, 1, 2, 3, 4] [4, 0, 1, 2, 3] rfl (by decide) (ih M m2x)
      · replace b18x := Decidable.not_not.mp (yn_0.mp b18x)
        refine e_aload rfl rfl ?_
        refine e_iload rfl rfl ?_
        refine Eg.p2 rfl (by decide) (by decide) rfl (Nat.le_of_ble_eq_true rfl) (xrcv_of rfl hU.1 rfl) ((cs_hasTest hU hru hok hc).mono (by decide)) ?_
        refine e_ifeq_b rfl (fun b27x => ?_) (fun b27x => ?_)
        · replace b27x := yn_0.mp b27x
          refine e_aload rfl rfl ?_
          refine e_aload rfl rfl ?_
          refine e_aload rfl rfl ?_
          refine e_getR rfl hU.1 (hU.2 1 _ rfl).2 ?_
          refine e_iload rfl rfl ?_
          refine e_ialv (t := i) (n := 12) rfl (hU.2 1 _ rfl).1 rfl (by omega) (by decide) (q1x).1 ?_
          refine e_aload rfl rfl ?_
          refine e_getR rfl hU.1 (hU.2 2 _ rfl).2 ?_
          refine e_iload rfl rfl ?_
          refine e_ialv (t := i) (n := 12) rfl (hU.2 2 _ rfl).1 rfl (by omega) (by decide) (q1x).2.1 ?_
          refine Eg.c4 rfl (by decide) (by decide) rfl (Nat.le_of_ble_eq_true rfl) (xrcv_of rfl hC.1 rfl) ((cs_worth hC hU hru.2.2.1 hok.1 hok.2.1 hok.2.2.1 c1x (Nat.le_trans c2x c3x) (c4x b18x) mA).mono (by decide)) (fun r1x h1x hq => ?_)
          obtain ⟨rfl, M2x, rfl, m4x⟩ := hq
          have eg : goL W cd (c :: l) = evV W cd c.1 c.2.1 := if_pos ⟨b18x, (decide_eq_true (Or.inl (by omega)))⟩
          rw [eg]
          have m5x : ∀ p q, p ≠ 238 → M2x p q = L p q := fun p q r => (m4x p q r).trans (m2x p q r)
          refine e_lstore rfl ?_
          refine e_lload rfl rfl ?_
          refine e_lpush rfl ?_
          refine e_lcmp rfl ?_
          refine e_ifeq_b rfl (fun b65x => ?_) (fun b65x => ?_)
          · refine e_aload rfl rfl ?_
            refine e_iload rfl rfl ?_
            refine e_lload rfl rfl ?_
            refine e_l2i rfl ?_
            refine Eg.p3 rfl (by decide) (by decide) rfl (Nat.le_of_ble_eq_true rfl) (xrcv_of rfl hM.1 rfl) ((cs_mayGo hS hV hw hM hms hW hk).mono (by decide)) ?_
            refine e_ifeq_b rfl (fun b87x => ?_) (fun b87x => ?_)
            · refine e_ipush rfl ?_
              exact Eg.ret rfl (by decide) rfl ⟨congrArg (fun z => some (Value.int z)) (show _ = wayG v k _ from (if_neg (fun q => yn_0.mp b87x ⟨q.1.elim (fun r => Or.inl (by rw [r]; rfl)) (fun r => Or.inr (by rw [r]; rfl)), q.2⟩)).symm), M2x, rfl, m5x⟩
            · refine e_lload rfl rfl ?_
              refine e_l2i rfl ?_
              refine e_goto rfl ?_
              exact Eg.ret rfl (by decide) rfl ⟨congrArg (fun z => some (Value.int z)) (show _ = wayG v k _ from (if_pos ⟨(Or.inl (lg_eq0.mp b65x)), (yn_n0.mp b87x).2⟩).symm), M2x, rfl, m5x⟩
          · refine e_lload rfl rfl ?_
            refine e_lpush rfl ?_
            refine e_lcmp rfl ?_
            refine e_ifeq_b rfl (fun b74x => ?_) (fun b74x => ?_)
            · refine e_aload rfl rfl ?_
              refine e_iload rfl rfl ?_
              refine e_lload rfl rfl ?_
              refine e_l2i rfl ?_
              refine Eg.p3 rfl (by decide) (by decide) rfl (Nat.le_of_ble_eq_true rfl) (xrcv_of rfl hM.1 rfl) ((cs_mayGo hS hV hw hM hms hW hk).mono (by decide)) ?_
              refine e_ifeq_b rfl (fun b87x => ?_) (fun b87x => ?_)
              · refine e_ipush rfl ?_
                exact Eg.ret rfl (by decide) rfl ⟨congrArg (fun z => some (Value.int z)) (show _ = wayG v k _ from (if_neg (fun q => yn_0.mp b87x ⟨q.1.elim (fun r => Or.inl (by rw [r]; rfl)) (fun r => Or.inr (by rw [r]; rfl)), q.2⟩)).symm), M2x, rfl, m5x⟩
              · refine e_lload rfl rfl ?_
                refine e_l2i rfl ?_
                refine e_goto rfl ?_
                exact Eg.ret rfl (by decide) rfl ⟨congrArg (fun z => some (Value.int z)) (show _ = wayG v k _ from (if_pos ⟨(Or.inr (lg_eq0.mp b74x)), (yn_n0.mp b87x).2⟩).symm), M2x, rfl, m5x⟩
            · refine e_ipush rfl ?_
              exact Eg.ret rfl (by decide) rfl ⟨congrArg (fun z => some (Value.int z)) (show _ = wayG v k _ from (if_neg (fun q => q.1.elim (fun r => b65x (lg_eq0.mpr r)) (fun r => b74x (lg_eq0.mpr r)))).symm), M2x, rfl, m5x⟩
        · replace b27x := yn_n0.mp b27x
          refine e_aload rfl rfl ?_
          refine e_aload rfl rfl ?_
          refine e_iload rfl rfl ?_
          refine Eg.c3 rfl (by decide) (by decide) rfl (Nat.le_of_ble_eq_true rfl) (xrcv_of rfl hC.1 rfl) ((cs_testHolds hC hU hru hok hc b27x mA).mono (by decide)) (fun r1x h1x hq => ?_)
          obtain ⟨rfl, M1x, rfl, m3x⟩ := hq
          have mA1x : ∀ j, j < 11 → M1x 239 (wvx.getD j 0) = W j := fun j q => (m3x 239 _ (by decide)).trans (mA j q)
          refine e_ifeq_b rfl (fun b37x => ?_) (fun b37x => ?_)
          · replace b37x := yn_0.mp b37x
            refine e_iinc rfl rfl ?_
            refine e_goto rfl ?_
            rw [nI_1]
            have eg : goL W cd (c :: l) = goL W cd l := if_neg (fun q => b37x q.2)
            rw [eg]
            exact Eg.pk [0, 1, 2, 3, 4] [4, 0, 1, 2, 3] rfl (by decide) (ih M1x (fun p q r => (m3x p q r).trans (m2x p q r)))
          · replace b37x := yn_n0.mp b37x
            refine e_aload rfl rfl ?_
            refine e_aload rfl rfl ?_
            refine e_aload rfl rfl ?_
            refine e_getR rfl hU.1 (hU.2 1 _ rfl).2 ?_
            refine e_iload rfl rfl ?_
            refine e_ialv (t := i) (n := 12) rfl (hU.2 1 _ rfl).1 rfl (by omega) (by decide) (q1x).1 ?_
            refine e_aload rfl rfl ?_
            refine e_getR rfl hU.1 (hU.2 2 _ rfl).2 ?_
            refine e_iload rfl rfl ?_
            refine e_ialv (t := i) (n := 12) rfl (hU.2 2 _ rfl).1 rfl (by omega) (by decide) (q1x).2.1 ?_
            refine Eg.c4 rfl (by decide) (by decide) rfl (Nat.le_of_ble_eq_true rfl) (xrcv_of rfl hC.1 rfl) ((cs_worth hC hU hru.2.2.1 hok.1 hok.2.1 hok.2.2.1 c1x (Nat.le_trans c2x c3x) (c4x b18x) mA1x).mono (by decide)) (fun r1x h1x hq => ?_)
            obtain ⟨rfl, M2x, rfl, m4x⟩ := hq
            have eg : goL W cd (c :: l) = evV W cd c.1 c.2.1 := if_pos ⟨b18x, b37x⟩
            rw [eg]
            have m5x : ∀ p q, p ≠ 238 → M2x p q = L p q := fun p q r => (m4x p q r).trans ((m3x p q r).trans (m2x p q r))
            refine e_lstore rfl ?_
            refine e_lload rfl rfl ?_
            refine e_lpush rfl ?_
            refine e_lcmp rfl ?_
            refine e_ifeq_b rfl (fun b65x => ?_) (fun b65x => ?_)
            · refine e_aload rfl rfl ?_
              refine e_iload rfl rfl ?_
              refine e_lload rfl rfl ?_
              refine e_l2i rfl ?_
              refine Eg.p3 rfl (by decide) (by decide) rfl (Nat.le_of_ble_eq_true rfl) (xrcv_of rfl hM.1 rfl) ((cs_mayGo hS hV hw hM hms hW hk).mono (by decide)) ?_
              refine e_ifeq_b rfl (fun b87x => ?_) (fun b87x => ?_)
              · refine e_ipush rfl ?_
                exact Eg.ret rfl (by decide) rfl ⟨congrArg (fun z => some (Value.int z)) (show _ = wayG v k _ from (if_neg (fun q => yn_0.mp b87x ⟨q.1.elim (fun r => Or.inl (by rw [r]; rfl)) (fun r => Or.inr (by rw [r]; rfl)), q.2⟩)).symm), M2x, rfl, m5x⟩
              · refine e_lload rfl rfl ?_
                refine e_l2i rfl ?_
                refine e_goto rfl ?_
                exact Eg.ret rfl (by decide) rfl ⟨congrArg (fun z => some (Value.int z)) (show _ = wayG v k _ from (if_pos ⟨(Or.inl (lg_eq0.mp b65x)), (yn_n0.mp b87x).2⟩).symm), M2x, rfl, m5x⟩
            · refine e_lload rfl rfl ?_
              refine e_lpush rfl ?_
              refine e_lcmp rfl ?_
              refine e_ifeq_b rfl (fun b74x => ?_) (fun b74x => ?_)
              · refine e_aload rfl rfl ?_
                refine e_iload rfl rfl ?_
                refine e_lload rfl rfl ?_
                refine e_l2i rfl ?_
                refine Eg.p3 rfl (by decide) (by decide) rfl (Nat.le_of_ble_eq_true rfl) (xrcv_of rfl hM.1 rfl) ((cs_mayGo hS hV hw hM hms hW hk).mono (by decide)) ?_
                refine e_ifeq_b rfl (fun b87x => ?_) (fun b87x => ?_)
                · refine e_ipush rfl ?_
                  exact Eg.ret rfl (by decide) rfl ⟨congrArg (fun z => some (Value.int z)) (show _ = wayG v k _ from (if_neg (fun q => yn_0.mp b87x ⟨q.1.elim (fun r => Or.inl (by rw [r]; rfl)) (fun r => Or.inr (by rw [r]; rfl)), q.2⟩)).symm), M2x, rfl, m5x⟩
                · refine e_lload rfl rfl ?_
                  refine e_l2i rfl ?_
                  refine e_goto rfl ?_
                  exact Eg.ret rfl (by decide) rfl ⟨congrArg (fun z => some (Value.int z)) (show _ = wayG v k _ from (if_pos ⟨(Or.inr (lg_eq0.mp b74x)), (yn_n0.mp b87x).2⟩).symm), M2x, rfl, m5x⟩
              · refine e_ipush rfl ?_
                exact Eg.ret rfl (by decide) rfl ⟨congrArg (fun z => some (Value.int z)) (show _ = wayG v k _ from (if_neg (fun q => q.1.elim (fun r => b65x (lg_eq0.mpr r)) (fun r => b74x (lg_eq0.mpr r)))).symm), M2x, rfl, m5x⟩
  exact key cl 0 (by omega) rfl L (fun _ _ _ => rfl)
theorem cs_crewDay (hC : CrAt sh R) (hU : RuAt sh R ru) (hru : RuV I ru cd cl) (hok : ruOK cd cl) (hS : SeaAt sh R s) (hV : SeaV I s v) (hw : Wf v) (hM : MomAt sh R m) (hms : R m 0 = some s) (hW : MomV I m v) (hm : m + 8 < 237 ∨ 240 < m) (hsm : s + 12 < m ∨ m + 8 < s) (hs : s + 12 < 237 ∨ 240 < s) (hru2 : m + 8 < ru) (r9x : 240 < ru) : Ec X 6 2 [.ref 237, .ref m, .ref ru] (sh, I, L, R) (fun r h' => r = none ∧ ∃ (J : Nat → Nat → Int32) (M : Nat → Nat → Int64), h' = (sh, J, M, R) ∧ MomV J m (rday v cd cl) ∧ (∀ i t, i < m ∨ m + 8 < i → i ≠ 240 → (i ≠ 237 ∨ t ≠ 4) → J i t = I i t) ∧ ∀ p q, p ≠ 238 → p ≠ 239 → M p q = L p q) := by
  have h44x := hw.1.2.2.2.2.2.1
  refine Ec.of (Nat.le_of_ble_eq_true rfl) ?_
  refine e_ipush rfl ?_
  refine e_istore rfl ?_
  refine Eg.pk [0, 1, 2, 3] [3, 0, 1, 2] rfl (by decide) ?_
  refine up_ind (p := fun j => ∀ (J : Nat → Nat → Int32) (M : Nat → Nat → Int64), MomV J m (rdA v cd cl j).1 → (∀ k, k < j → J 240 k = (rdA v cd cl j).2 k) → (∀ i t, i < m ∨ m + 8 < i → i ≠ 240 → (i ≠ 237 ∨ t ≠ 4) → J i t = I i t) → (∀ p q, p ≠ 238 → p ≠ 239 → M p q = L p q) → Eg X xTc 5 2 2 [(0, .ref 237), (1, .ref m), (2, .ref ru), (3, .int (nI j))] [] (sh, J, M, R) (fun r h' => r = none ∧ ∃ (J : Nat → Nat → Int32) (M : Nat → Nat → Int64), h' = (sh, J, M, R) ∧ MomV J m (rday v cd cl) ∧ (∀ i t, i < m ∨ m + 8 < i → i ≠ 240 → (i ≠ 237 ∨ t ≠ 4) → J i t = I i t) ∧ ∀ p q, p ≠ 238 → p ≠ 239 → M p q = L p q)) (n := cn v 4) (j := 0) (fun j hj ih J M z1x z2x z3x z4x => ?_) (fun J M z1x z2x z3x z4x => ?_) (Nat.zero_le _) I L hW (fun k q => absurd q (Nat.not_lt_zero _)) (fun _ _ _ _ _ => rfl) (fun _ _ _ _ => rfl)
  · obtain ⟨a1x, a2x, a3x, a4x, a5x⟩ := rdA_ok (cd := cd) (cl := cl) hw j (by omega)
    change ∀ (J : Nat → Nat → Int32) (M : Nat → Nat → Int64), MomV J m (rds cd cl j (rdA v cd cl j)).1 → (∀ k, k < j + 1 → J 240 k = (rds cd cl j (rdA v cd cl j)).2 k) → _ at ih
    generalize (rdA v cd cl j) = z at z1x z2x a1x a2x a3x a4x a5x ih
    have c4x : cn z.1 4 = cn v 4 := wf_same a3x 4
    have hVJ : SeaV J s z.1 := (hV.fr (fun i k q1x q2x => z3x i k (by omega) (by omega) (by omega))).ex a1x
    have s4x : J s 4 = nI (cn v 4) := by have := hVJ.1 4 (by decide); rw [c4x] at this; exact this
    have ruJ : RuV J ru cd cl := hru.fr (fun i k q1x q2x => z3x i k (by omega) (by omega) (by omega))
    refine e_iload rfl rfl ?_
    refine e_aload rfl rfl ?_
    refine e_getR rfl hM.1 hms ?_
    refine e_getIv rfl hS.1 s4x ?_
    refine e_cge_f rfl (nI_ge hj (by omega)) ?_
    refine e_aload rfl rfl ?_
    refine e_getR rfl hC.1 hC.2.2.2.2.2.2.1 ?_
    refine e_iload rfl rfl ?_
    refine e_ipush rfl ?_
    refine e_iasJ (t := j) (n := 4) rfl hC.2.2.2.1 rfl (by omega) (by decide) (fun J1x g1x f1x => ?_)
    have hV1x : SeaV J1x s z.1 := hVJ.fr (fun i k q1x q2x => f1x i k (by omega))
    have zm1x : MomV J1x m z.1 := z1x.fr (fun i k q1x q2x => f1x i k (by omega))
    have ru1x : RuV J1x ru cd cl := ruJ.fr (fun i k q1x q2x => f1x i k (by omega))
    refine e_aload rfl rfl ?_
    refine e_iload rfl rfl ?_
    refine Eg.p2 rfl (by decide) (by decide) rfl (Nat.le_of_ble_eq_true rfl) (xrcv_of rfl hM.1 rfl) ((cs_isDry hS hV1x a2x hM hms zm1x (k := j) (by omega)).mono (by decide)) ?_
    refine e_ifne_b rfl (fun b25x => ?_) (fun b25x => ?_)
    · refine e_iinc rfl rfl ?_
      refine e_goto rfl ?_
      refine Eg.pk [0, 1, 2, 3] [3, 0, 1, 2] rfl (by decide) ?_
      rw [nI_1]
      have b25x := yn_n0.mp b25x
      have er : rds cd cl j z = (z.1, upI z.2 j 0) := if_neg b25x
      rw [er] at ih
      refine ih J1x M zm1x (fun k q => ?_) (fun i t q1x q2x q3x => (f1x i t (by omega)).trans (z3x i t q1x q2x q3x)) z4x
      show J1x 240 k = upI z.2 j 0 k
      by_cases e : k = j
      · rw [e, upI_at]; exact g1x
      · rw [upI_o e, f1x 240 k (Or.inr e)]; exact z2x k (by omega)
    · refine e_aload rfl rfl ?_
      refine e_aload rfl rfl ?_
      refine e_iload rfl rfl ?_
      refine Eg.c3 rfl (by decide) (by decide) rfl (Nat.le_of_ble_eq_true rfl) (xrcv_of rfl hC.1 rfl) ((cs_tellWords hC hS hV1x a2x hM hms zm1x (k := j) (by omega) (by omega) (by omega)).mono (by decide)) (fun r1x h1x hq => ?_)
      obtain ⟨rfl, J2x, M2x, rfl, t1x, t2x, t3x, t4x⟩ := hq
      have hV2x : SeaV J2x s z.1 := hV1x.fr (fun i k q1x q2x => t3x i k (by omega))
      have zm2x : MomV J2x m z.1 := zm1x.fr (fun i k q1x q2x => t3x i k (by omega))
      have ru2x : RuV J2x ru cd cl := ru1x.fr (fun i k q1x q2x => t3x i k (by omega))
      refine e_aload rfl rfl ?_
      refine e_aload rfl rfl ?_
      refine e_aload rfl rfl ?_
      refine e_iload rfl rfl ?_
      refine Eg.c4 rfl (by decide) (by decide) rfl (Nat.le_of_ble_eq_true rfl) (xrcv_of rfl hC.1 rfl) ((cs_fillBy hC hU ru2x hok hS hV2x a2x hM hms zm2x (k := j) (by omega) hm hsm hru2 t2x t1x).mono (by decide)) (fun r1x h1x hq => ?_)
      obtain ⟨rfl, J3x, M3x, rfl, u1x, u2x, u3x, u4x⟩ := hq
      have w3x : Wf (rfil z.1 cd cl j) := rfil_wf a2x (by omega)
      have c43x : cn (rfil z.1 cd cl j) 4 = cn v 4 := (wf_same (fun f i q => rfil_o q) 4).trans c4x
      have hV3x : SeaV J3x s (rfil z.1 cd cl j) := (hV2x.fr (fun i k q1x q2x => u3x i k (by omega))).ex (rfil_agr (by omega))
      have ru3x : RuV J3x ru cd cl := ru2x.fr (fun i k q1x q2x => u3x i k (by omega))
      refine e_aload rfl rfl ?_
      refine e_getR rfl hC.1 hC.2.2.2.2.2.2.1 ?_
      refine e_iload rfl rfl ?_
      refine e_aload rfl rfl ?_
      refine e_aload rfl rfl ?_
      refine e_aload rfl rfl ?_
      refine e_iload rfl rfl ?_
      refine Eg.c4 rfl (by decide) (by decide) rfl (Nat.le_of_ble_eq_true rfl) (xrcv_of rfl hC.1 rfl) ((cs_wayBy hC hU ru3x hok hS hV3x w3x hM hms u1x (k := j) (by omega) u2x).mono (by decide)) (fun r1x h1x hq => ?_)
      obtain ⟨rfl, M4x, rfl, x1x⟩ := hq
      refine e_iasJ (t := j) (n := 4) rfl hC.2.2.2.1 rfl (by omega) (by decide) (fun J2x g2x f2x => ?_)
      refine e_iinc rfl rfl ?_
      refine e_goto rfl ?_
      refine Eg.pk [0, 1, 2, 3] [3, 0, 1, 2] rfl (by decide) ?_
      rw [nI_1]
      have b25x := Decidable.not_not.mp (yn_0.mp b25x)
      have er : rds cd cl j z = (rfil z.1 cd cl j, upI z.2 j (wayG (rfil z.1 cd cl j) j (goL (ask (rfil z.1 cd cl j) j) cd cl))) := if_pos b25x
      rw [er] at ih
      refine ih J2x M4x (u1x.fr (fun i k q1x q2x => f2x i k (by omega))) (fun k q => ?_) (fun i t q1x q2x q3x => (f2x i t (by omega)).trans ((u3x i t q1x).trans ((t3x i t q3x).trans ((f1x i t (by omega)).trans (z3x i t q1x q2x q3x))))) (fun p q r1x r2x => (x1x p q r1x).trans ((u4x p q r1x r2x).trans ((t4x p q r2x).trans (z4x p q r1x r2x))))
      show J2x 240 k = upI z.2 j _ k
      by_cases e : k = j
      · rw [e, upI_at]; exact g2x
      · rw [upI_o e, f2x 240 k (Or.inr e), u3x 240 k (by omega), t3x 240 k (Or.inl (by decide)), f1x 240 k (Or.inr e)]; exact z2x k (by omega)
  · obtain ⟨a1x, a2x, a3x, a4x, a5x⟩ := rdA_ok (cd := cd) (cl := cl) hw (cn v 4) (Nat.le_refl _)
    have c4x : cn (rdA v cd cl (cn v 4)).1 4 = cn v 4 := wf_same a3x 4
    have hVJ : SeaV J s (rdA v cd cl (cn v 4)).1 := (hV.fr (fun i k q1x q2x => z3x i k (by omega) (by omega) (by omega))).ex a1x
    have s4x : J s 4 = nI (cn v 4) := by have := hVJ.1 4 (by decide); rw [c4x] at this; exact this
    have er : dayF (rdA v cd cl (cn v 4)).1 (J 240) = rday v cd cl := dayF_g (fun k q => z2x k (by omega))
    refine e_iload rfl rfl ?_
    refine e_aload rfl rfl ?_
    refine e_getR rfl hM.1 hms ?_
    refine e_getIv rfl hS.1 s4x ?_
    refine e_cge_t rfl (Int32.le_refl _) ?_
    refine e_aload rfl rfl ?_
    refine e_aload rfl rfl ?_
    refine e_getR rfl hC.1 hC.2.2.2.2.2.2.1 ?_
    refine Eg.c2 rfl (by decide) (by decide) rfl (Nat.le_of_ble_eq_true rfl) (xrcv_of rfl hM.1 rfl) ((cs_passDay hM hms hS (by rw [c4x]; exact s4x) (by omega) a2x.1.2.2.2.2.2.2.2.2.1 a2x.1.2.2.2.2.2.2.2.2.2.2.1 (a2x.n (by decide)) z1x hC.2.2.2.1 (by omega) (by omega)).mono (by decide)) (fun r1x h1x hq => ?_)
    obtain ⟨rfl, J5x, rfl, y1x, y2x⟩ := hq
    rw [er] at y1x
    exact Eg.ret rfl (by decide) rfl ⟨rfl, J5x, M, rfl, y1x, fun i t q1x q2x q3x => (y2x i t q1x).trans (z3x i t q1x q2x q3x), z4x⟩
end EU
