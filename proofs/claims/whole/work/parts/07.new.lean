/-! ONE STEP of the small machine: new cells, switches, arraycopy -/
theorem xdef_ok {ci : Nat} (h : ci < 13) : ∀ k, k < xN ci → defaultValue (xty ci k) = (match xtc (xty ci k) with | 0 => Value.int 0 | 1 => Value.long 0 | _ => Value.null) := by
  have h2 : ci = 0 ∨ ci = 1 ∨ ci = 2 ∨ ci = 3 ∨ ci = 4 ∨ ci = 5 ∨ ci = 6 ∨ ci = 7 ∨ ci = 8 ∨ ci = 9 ∨ ci = 10 ∨ ci = 11 ∨ ci = 12 := by omega
  rcases h2 with rfl | rfl | rfl | rfl | rfl | rfl | rfl | rfl | rfl | rfl | rfl | rfl | rfl <;> decide +kernel
theorem xobj_code : Cond.code Lib.objectInit ⟨#[0xb1]⟩ 1 none ∈ lw_tbl := by decide +kernel
theorem xobj_inst : Cond.instanceMethod Lib.objectInit ∈ lw_tbl := by decide +kernel
theorem xcopy_nat : Cond.native arraycopyName ∈ lw_tbl := by decide +kernel
theorem xcopy_st : Cond.static arraycopyName ∈ lw_tbl := by decide +kernel
theorem xcopy_in : Cond.initialized "java/lang/System" ∈ lw_tbl := by decide +kernel
theorem xmax_st : Cond.static Lib.Math.max.name ∈ lw_tbl := by decide +kernel
theorem xmin_st : Cond.static Lib.Math.min.name ∈ lw_tbl := by decide +kernel
theorem xmath_in : Cond.initialized "java/lang/Math" ∈ lw_tbl := by decide +kernel
theorem xmax_cd : Cond.code Lib.Math.max.name Lib.Math.max.code 2 (some .int) ∈ lw_tbl := by decide +kernel
theorem xmin_cd : Cond.code Lib.Math.min.name Lib.Math.min.code 2 (some .int) ∈ lw_tbl := by decide +kernel
theorem xswl_off (pc : Nat) (d : Nat) (x : Int) : ∀ L : List (Int × Nat), Op.lookupswitch.offset (L.map (fun (q : Int × Nat) => (q.1, (q.2 : Int) - (pc : Int)))) ((d : Int) - (pc : Int)) x = (xswl L d x : Int) - (pc : Int) := by
  intro L
  induction L with
  | nil => rfl
  | cons q r ih =>
    rw [List.map_cons, Op.lookupswitch.offset_cons, ih, xswl]
    by_cases hq : q.1 = x
    · rw [if_pos hq, if_pos (by first | exact hq | exact hq.symm)]
    · rw [if_neg hq, if_neg (by first | exact hq | exact fun z => hq z.symm)]
section XS
variable {p : Program} {l : Launch} {e : Env} {R : Room} {s : State} {m : MethodId} {args : Array Value} {below : List Frame} {meth : Method} {c : Code} {Q : State → Prop} {cc : ByteArray} {nL : Nat} {own : String} {D : va_G} {aC : Nat → ClassId} {base : Nat} {sp : Nat → Nat} {c0 z0 dd : Nat} {ini : Bool} {X : xX} {SW : xSwT} {SL : xSwL}
theorem xnew_P {h h' : xH} {lv : xL} {H H1 : Heap} {locs : List Loc} {ls : Array Slot} {cells slots : Nat} {q : Nat × Nat} (hA : xAt s nL D aC base sp c0 z0 h lv H locs ls cells slots) (hz : H.size = base + h.1.length) (hsh : h'.1 = h.1 ++ [q]) (hrows : ∀ j, j < h.1.length → h'.2.1 j = h.2.1 j ∧ h'.2.2.1 j = h.2.2.1 j ∧ h'.2.2.2 j = h.2.2.2 j) (hz1 : H1.size = base + h.1.length + 1) (ho : ∀ x, x < base + h.1.length → H1[x]? = H[x]?) (hat : va_at D xcls (base + h.1.length, xce base aC h' h.1.length q) H1) : xAt s nL D aC base sp c0 z0 h' lv H1 locs ls (cells + 1) (slots + q.2) := by
  have h0 := hA.2.1.1
  refine ⟨?_, ⟨by omega, fun x h1 h2 => (ho x (by omega)).trans (hA.2.1.2.1 x h1 h2), hA.2.1.2.2⟩, hA.2.2.1, ?_, ?_⟩
  · rw [← xws_new hsh (fun j r hj => xce_congr (hrows j hj).1 (hrows j hj).2.1 (hrows j hj).2.2 r)]
    refine (hA.1.kept (fun k x hx => ho x.1 ?_)).app (fun k x hx => ?_)
    · have := (hA.1 k x hx).lt
      omega
    · have hk : k < 1 := (List.getElem?_eq_some_iff.mp hx).1
      rw [show k = 0 by omega] at hx
      cases hx
      exact hat
  · rw [hsh, List.length_append, hA.2.2.2.1]
    simp; omega
  · rw [hsh, xsum_app, xsum_one, hA.2.2.2.2]
    omega
theorem xrows_new {h : xH} (j : Nat) (hj : j < h.1.length) : xz h.2.1 h.1.length 0 j = h.2.1 j ∧ xz h.2.2.1 h.1.length 0 j = h.2.2.1 j ∧ xz h.2.2.2 h.1.length none j = h.2.2.2 j := ⟨xz_ne (by omega), xz_ne (by omega), xz_ne (by omega)⟩
theorem xz_row {α : Type} (I : Nat → Nat → α) (i : Nat) (v : α) : xz I i v i = fun _ => v := by funext m; simp [xz]
theorem xs_65 {pc a b g nx : Nat} {ci : Int32} {di : Int64} {lv : xL} {st : List Value} {h : xH} {F : xF} (C : xCtx p R s m args meth c cc nL own D aC base sp c0 dd ini X) (hk : xok own cc nL ini SW SL pc (65, a, b, g, ci, di, nx) = true) (hs : xsem X SW SL 65 a b g ci di nx lv st h = some F) (hr : xRm R c0 z0 F.2.2.2) (k : xW p l e R s m args below meth c Q nL D aC base sp c0 z0 F) : xW p l e R s m args below meth c Q nL D aC base sp c0 z0 (pc, lv, st, h) := by
  simp only [xok, decide_eq_true_eq] at hk
  simp only [xsem] at hs
  obtain ⟨ha1, ha2, rfl, hdg, harr⟩ := hk
  split at hs
  · rename_i j r
    split at hs
    · cases hs
    · rename_i hj
      cases hs
      intro H locs ls cells slots hA T hT X1
      have hz : H.size = base + h.1.length := xsize C.2.2.2.1 hA hT X1
      obtain ⟨hr1, hr2⟩ := hr
      have hr1 : (h.1 ++ [(a, j.toNatClampNeg)]).length ≤ c0 + R.cells := hr1
      have hr2 : xsum (h.1 ++ [(a, j.toNatClampNeg)]) ≤ z0 + R.slots := hr2
      rw [List.length_append, hA.2.2.2.1] at hr1
      rw [xsum_app, xsum_one, hA.2.2.2.2] at hr2
      have hr1 : c0 + cells + 1 ≤ c0 + R.cells := hr1
      have hr2 : z0 + slots + j.toNatClampNeg ≤ z0 + R.slots := hr2
      have hb : j.toNatClampNeg * componentBytes (newarray.typeOf (xat a)) ≤ 536870912 := by
        have h8 : componentBytes (newarray.typeOf (xat a)) ≤ 8 := by
          have ht3 : a = 20 ∨ a = 21 ∨ a = 22 ∨ a = 23 := by omega
          rcases ht3 with rfl | rfl | rfl | rfl <;> decide +kernel
        have h9 : j.toNatClampNeg ≤ 600000 := by omega
        exact Nat.le_trans (Nat.mul_le_mul h9 h8) (by decide)
      refine va_newaK C.1.1 C.1.2.1 (C.2.1 _ (xgd harr rfl)) (g := F0 m pc ls ((Value.int j :: r).map (xv base sp))) rfl hdg rfl (fun q => hj (Or.inl q)) rfl hb (by omega) (by omega) hz (fun H1 cA e1 z1 o1 hAr hNm => ?_) T hT X1
      have hat : va_at D xcls (base + h.1.length, xce base aC (h.1 ++ [(a, j.toNatClampNeg)], xz h.2.1 h.1.length 0, xz h.2.2.1 h.1.length 0, xz h.2.2.2 h.1.length none) h.1.length (a, j.toNatClampNeg)) H1 := by
        have ht3 : a = 20 ∨ a = 21 ∨ a = 22 ∨ a = 23 := by omega
        rcases ht3 with rfl | rfl | rfl | rfl
        · rw [xce_i (Or.inl rfl)]; simp only [xz_row]; have hcA : aC 20 = cA := Option.some.inj ((C.2.2.1.2 0 _ rfl).2.symm.trans hNm); rw [hcA]; exact e1
        · rw [xce_l]; simp only [xz_row]; have hcA : aC 21 = cA := Option.some.inj ((C.2.2.1.2 1 _ rfl).2.symm.trans hNm); rw [hcA]; exact e1
        · rw [xce_i (Or.inr (Or.inl rfl))]; simp only [xz_row]; have hcA : aC 22 = cA := Option.some.inj ((C.2.2.1.2 2 _ rfl).2.symm.trans hNm); rw [hcA]; exact e1
        · rw [xce_i (Or.inr (Or.inr rfl))]; simp only [xz_row]; have hcA : aC 23 = cA := Option.some.inj ((C.2.2.1.2 3 _ rfl).2.symm.trans hNm); rw [hcA]; exact e1
      exact k H1 locs ls (cells + 1) (slots + j.toNatClampNeg) (xnew_P hA hz rfl (fun j hj => xrows_new j hj) z1 o1 hat)
  · cases hs
theorem xs_66 {pc a b g nx : Nat} {ci : Int32} {di : Int64} {lv : xL} {st : List Value} {h : xH} {F : xF} (C : xCtx p R s m args meth c cc nL own D aC base sp c0 dd ini X) (hk : xok own cc nL ini SW SL pc (66, a, b, g, ci, di, nx) = true) (hs : xsem X SW SL 66 a b g ci di nx lv st h = some F) (hr : xRm R c0 z0 F.2.2.2) (k : xW p l e R s m args below meth c Q nL D aC base sp c0 z0 F) : xW p l e R s m args below meth c Q nL D aC base sp c0 z0 (pc, lv, st, h) := by
  simp only [xok, decide_eq_true_eq] at hk
  simp only [xsem] at hs
  obtain ⟨ha1, ha2, rfl, hdg, hlk⟩ := hk
  split at hs
  · rename_i j r
    split at hs
    · cases hs
    · rename_i hj
      cases hs
      intro H locs ls cells slots hA T hT X1
      have hz : H.size = base + h.1.length := xsize C.2.2.2.1 hA hT X1
      obtain ⟨hr1, hr2⟩ := hr
      have hr1 : (h.1 ++ [(a, j.toNatClampNeg)]).length ≤ c0 + R.cells := hr1
      have hr2 : xsum (h.1 ++ [(a, j.toNatClampNeg)]) ≤ z0 + R.slots := hr2
      rw [List.length_append, hA.2.2.2.1] at hr1
      rw [xsum_app, xsum_one, hA.2.2.2.2] at hr2
      have hr1 : c0 + cells + 1 ≤ c0 + R.cells := hr1
      have hr2 : z0 + slots + j.toNatClampNeg ≤ z0 + R.slots := hr2
      refine W.anew C.1.1 C.1.2.1 C.1.2.2.2 (C.2.1 _ (xgd hlk rfl)) (C.2.2.2.2.2.2.2.2.2.2.2.2 a) (g := F0 m pc ls ((Value.int j :: r).map (xv base sp))) rfl hdg rfl (fun q => hj (Or.inl q)) (by omega) (by omega) (by omega) (fun cA kA comp f1 f2 f3 f4 => ?_) T hT X1
      generalize hH1 : H.push ({ cls := cA, slots := Array.replicate j.toNatClampNeg .null, vm := .none } : Cell) = H1
      have z1 : H1.size = base + h.1.length + 1 := by rw [← hH1, Array.size_push, hz]
      have e1 : H1[base + h.1.length]? = some (arrV cA j.toNatClampNeg (fun _ => .null)) := by rw [← hH1, ← hz, Array.getElem?_push_size, ← arrV_new]
      have o1 : ∀ q : Nat, q < base + h.1.length → H1[q]? = H[q]? := fun q hq => by rw [← hH1, Array.getElem?_push, if_neg (by omega)]
      have hat : va_at D xcls (base + h.1.length, xce base aC (h.1 ++ [(a, j.toNatClampNeg)], xz h.2.1 h.1.length 0, xz h.2.2.1 h.1.length 0, xz h.2.2.2 h.1.length none) h.1.length (a, j.toNatClampNeg)) H1 := by
        rw [xce_r ha1]
        have ht3 : a = 24 ∨ a = 25 ∨ a = 26 := by omega
        simp only [xz_row]
        rcases ht3 with rfl | rfl | rfl
        · obtain ⟨_, _, _, _, _, h7⟩ := (C.2.2.1.2 4 _ rfl).2
          have hcA : aC 24 = cA := Option.some.inj (h7.symm.trans f1); rw [hcA]; exact e1
        · obtain ⟨_, _, _, _, _, h7⟩ := (C.2.2.1.2 5 _ rfl).2
          have hcA : aC 25 = cA := Option.some.inj (h7.symm.trans f1); rw [hcA]; exact e1
        · obtain ⟨_, _, _, _, _, h7⟩ := (C.2.2.1.2 6 _ rfl).2
          have hcA : aC 26 = cA := Option.some.inj (h7.symm.trans f1); rw [hcA]; exact e1
      rw [hz]
      exact k H1 locs ls (cells + 1) (slots + j.toNatClampNeg) (xnew_P hA hz rfl (fun j hj => xrows_new j hj) z1 o1 hat)
  · cases hs
theorem xs_67 {pc a b g nx : Nat} {ci : Int32} {di : Int64} {lv : xL} {st : List Value} {h : xH} {F : xF} (C : xCtx p R s m args meth c cc nL own D aC base sp c0 dd ini X) (hk : xok own cc nL ini SW SL pc (67, a, b, g, ci, di, nx) = true) (hs : xsem X SW SL 67 a b g ci di nx lv st h = some F) (hr : xRm R c0 z0 F.2.2.2) (k : xW p l e R s m args below meth c Q nL D aC base sp c0 z0 F) : xW p l e R s m args below meth c Q nL D aC base sp c0 z0 (pc, lv, st, h) := by
  simp only [xok, decide_eq_true_eq] at hk
  simp only [xsem] at hs
  obtain ⟨hb, rfl, rfl, hdg, hlk, hin, hini⟩ := hk
  cases hs
  intro H locs ls cells slots hA T hT X1
  have hz : H.size = base + h.1.length := xsize C.2.2.2.1 hA hT X1
  obtain ⟨hr1, hr2⟩ := hr
  have hr1 : (h.1 ++ [(b, xN b)]).length ≤ c0 + R.cells := hr1
  have hr2 : xsum (h.1 ++ [(b, xN b)]) ≤ z0 + R.slots := hr2
  rw [List.length_append, hA.2.2.2.1] at hr1
  rw [xsum_app, xsum_one, hA.2.2.2.2] at hr2
  have hr1 : c0 + cells + 1 ≤ c0 + R.cells := hr1
  have hr2 : z0 + slots + xN b ≤ z0 + R.slots := hr2
  have hKn := C.2.2.1.1 b _ (xcls_at hb)
  refine W.newcK C.1.1 C.1.2.1 C.1.2.2.2 (C.2.1 _ (xgd hlk rfl)) (C.2.1 _ (xgd hin rfl)) (C.2.1 _ (xgd hini rfl)) (g := F0 m pc ls (st.map (xv base sp))) rfl hdg (by omega) (by omega) hKn.2.1 hz (fun H1 kC hkC e1 z1 o1 => ?_) T hT X1
  have hat : va_at D xcls (base + h.1.length, xce base aC (h.1 ++ [(b, xN b)], xz h.2.1 h.1.length 0, xz h.2.2.1 h.1.length 0, xz h.2.2.2 h.1.length none) h.1.length (b, xN b)) H1 := by
    rw [xce_og (by omega)]
    refine ⟨_, xcls_at hb, (u_born (xty b) C.2.1 (xin_ok hb) hKn hkC e1 (xty_ok hb)).to (fun j hj => ?_)⟩
    have hj2 : j < xN b := hj
    simp only [vp_V, xdef_ok hb j hj2]
    simp [hj2, xfv, xz_row, va_rf]
    generalize xtc (xty b j) = z
    match z with
    | 0 => rfl
    | 1 => rfl
    | _ + 2 => rfl
  exact k H1 locs ls (cells + 1) (slots + xN b) (xnew_P hA hz rfl (fun j hj => xrows_new j hj) z1 o1 hat)
theorem xs_68 {pc a b g nx : Nat} {ci : Int32} {di : Int64} {lv : xL} {st : List Value} {h : xH} {F : xF} (C : xCtx p R s m args meth c cc nL own D aC base sp c0 dd ini X) (hk : xok own cc nL ini SW SL pc (68, a, b, g, ci, di, nx) = true) (hs : xsem X SW SL 68 a b g ci di nx lv st h = some F) (hr : xRm R c0 z0 F.2.2.2) (k : xW p l e R s m args below meth c Q nL D aC base sp c0 z0 F) : xW p l e R s m args below meth c Q nL D aC base sp c0 z0 (pc, lv, st, h) := by
  simp only [xok, decide_eq_true_eq] at hk
  simp only [xsem] at hs
  obtain ⟨rfl, hdg, hlk⟩ := hk
  split at hs
  · rename_i i r
    split at hs
    · rename_i hc8
      cases hs
      intro H locs ls cells slots hA
      have hrm := C.2.2.2.2.1
      refine W.objInit C.1.1 C.1.2.1 C.1.2.2.2 (C.2.1 _ (xgd hlk rfl)) (C.2.1 _ (xgd xobj_inst rfl)) (C.2.1 _ (xgd xobj_code rfl)) rfl (hA.2.2.1.1.trans C.1.2.2.1.symm) rfl hdg (by omega) ?_ (k H locs ls cells slots hA)
      show 2 * 0 + ((r.map (xv base sp)).map fun v => v.category).sum + 12 ≤ R.locals
      rw [xcat_sum]
      omega
    · cases hs
  · cases hs
theorem xs_69 {pc a b g nx : Nat} {ci : Int32} {di : Int64} {lv : xL} {st : List Value} {h : xH} {F : xF} (C : xCtx p R s m args meth c cc nL own D aC base sp c0 dd ini X) (hk : xok own cc nL ini SW SL pc (69, a, b, g, ci, di, nx) = true) (hs : xsem X SW SL 69 a b g ci di nx lv st h = some F) (hr : xRm R c0 z0 F.2.2.2) (k : xW p l e R s m args below meth c Q nL D aC base sp c0 z0 F) : xW p l e R s m args below meth c Q nL D aC base sp c0 z0 (pc, lv, st, h) := by
  simp only [xok, decide_eq_true_eq] at hk
  simp only [xsem] at hs
  obtain ⟨hnx, hdg⟩ := hk
  split at hs
  · rename_i x r
    split at hs
    · rename_i ho
      cases hs
      intro H locs ls cells slots hA
      exact lv_tableOut C.1.1 C.1.2.1 hdg (by omega) (by omega) (k H locs ls cells slots hA)
    · rename_i ho
      split at hs
      · rename_i t ht
        cases hs
        intro H locs ls cells slots hA
        exact lv_tableIn (off := (t : Int) - (pc : Int)) C.1.1 C.1.2.1 hdg (by omega) (by omega) (by simp [ht]) (by omega) (k H locs ls cells slots hA)
      · cases hs
  · cases hs
theorem xs_70 {pc a b g nx : Nat} {ci : Int32} {di : Int64} {lv : xL} {st : List Value} {h : xH} {F : xF} (C : xCtx p R s m args meth c cc nL own D aC base sp c0 dd ini X) (hk : xok own cc nL ini SW SL pc (70, a, b, g, ci, di, nx) = true) (hs : xsem X SW SL 70 a b g ci di nx lv st h = some F) (hr : xRm R c0 z0 F.2.2.2) (k : xW p l e R s m args below meth c Q nL D aC base sp c0 z0 F) : xW p l e R s m args below meth c Q nL D aC base sp c0 z0 (pc, lv, st, h) := by
  simp only [xok, decide_eq_true_eq] at hk
  simp only [xsem] at hs
  obtain ⟨hnx, hdg, hp⟩ := hk
  split at hs
  · rename_i x r
    cases hs
    intro H locs ls cells slots hA
    exact lv_lookup C.1.1 C.1.2.1 hdg hp (xswl_off pc (SL a).2 x.toInt (SL a).1) (by omega) (k H locs ls cells slots hA)
  · cases hs
theorem xs_71 {pc a b g nx : Nat} {ci : Int32} {di : Int64} {lv : xL} {st : List Value} {h : xH} {F : xF} (C : xCtx p R s m args meth c cc nL own D aC base sp c0 dd ini X) (hk : xok own cc nL ini SW SL pc (71, a, b, g, ci, di, nx) = true) (hs : xsem X SW SL 71 a b g ci di nx lv st h = some F) (hr : xRm R c0 z0 F.2.2.2) (k : xW p l e R s m args below meth c Q nL D aC base sp c0 z0 F) : xW p l e R s m args below meth c Q nL D aC base sp c0 z0 (pc, lv, st, h) := by
  simp only [xok, decide_eq_true_eq] at hk
  simp only [xsem] at hs
  obtain ⟨rfl, hdg, hlk⟩ := hk
  split at hs
  · rename_i n dp q sq i r
    split at hs
    · rename_i ti ni tq nq hi hq
      split at hs
      · rename_i hc
        obtain ⟨⟨rfl, rfl⟩, ⟨h1, h2, h3⟩, ⟨h4, h5⟩, h6⟩ := hc
        cases hs
        intro H locs ls cells slots hA
        have hrm := C.2.2.2.2.1
        refine va_copyi C.1.1 C.1.2.1 (C.1.2.2.1.trans hA.2.2.1.1.symm) C.1.2.2.2 (C.2.1 _ (xgd hlk rfl)) (C.2.1 _ (xgd xcopy_nat rfl)) (C.2.1 _ (xgd xcopy_st rfl)) (C.2.1 _ (xgd xcopy_in rfl)) C.2.2.1 hA.1 (xws_D base aC h) hA.2.1 i q 0 0 (xws_get (base := base) (aC := aC) hi) (xws_get (base := base) (aC := aC) hq) rfl rfl rfl h1 h2 h3 h4 h5 (fun _ _ => rfl) (by omega) ?_ hdg (fun H1 locs1 hP1 _ hS1 => k H1 locs1 ls cells slots (xput_P hA rfl hq (fun j hj => ⟨?_, rfl, rfl⟩) ?_ hP1 hS1))
        · have h7 : nativeFrameWords "java/lang/System" "arraycopy" 5 ≤ 40 := by decide +kernel
          have h8 := xcat_sum base sp r
          omega
        · funext m
          simp [hj]
        · rw [xce_i (Or.inl rfl)]
          congr 4
          funext m
          simp [va_cpy]
      · cases hs
    · cases hs
  · cases hs
theorem xs_72 {pc a b g nx : Nat} {ci : Int32} {di : Int64} {lv : xL} {st : List Value} {h : xH} {F : xF} (C : xCtx p R s m args meth c cc nL own D aC base sp c0 dd ini X) (hk : xok own cc nL ini SW SL pc (72, a, b, g, ci, di, nx) = true) (hs : xsem X SW SL 72 a b g ci di nx lv st h = some F) (hr : xRm R c0 z0 F.2.2.2) (k : xW p l e R s m args below meth c Q nL D aC base sp c0 z0 F) : xW p l e R s m args below meth c Q nL D aC base sp c0 z0 (pc, lv, st, h) := by
  simp only [xok, decide_eq_true_eq] at hk
  simp only [xsem] at hs
  obtain ⟨rfl, hdg, hlk⟩ := hk
  rcases hlk with ⟨rfl, hlk⟩ | ⟨rfl, hlk⟩
  · rw [if_pos rfl] at hs
    cases hs
    intro H locs ls cells slots hA
    exact va_gets C.1.1 C.1.2.1 C.2.2.2.2.2.2.2.2.2.1 hA.2.1 C.1.2.2.2 (C.2.1 _ (xgd hlk rfl)) (fun _ h9 => h9) hdg (k H locs ls cells slots hA)
  · rw [if_neg (by decide)] at hs
    cases hs
    intro H locs ls cells slots hA
    have kk := k H locs ls cells slots hA
    have e9 : xv base sp (if X.2.2 = true then .null else .retAddr 200) = (if X.2.2 = true then .null else .ref (sp 200)) := by split <;> rfl
    simp only [List.map_cons, e9] at kk
    exact va_gets C.1.1 C.1.2.1 C.2.2.2.2.2.2.2.2.2.2.1 hA.2.1 C.1.2.2.2 (C.2.1 _ (xgd hlk rfl)) (fun _ h9 => h9) hdg kk
theorem xldcS {own tx : String} {index q pc : Nat} {H : Heap} {locs : List Loc} {ls : Array Slot} {cells slots : Nat} {rest : List Value} (hexec : p.tables.exec = Jvm.exec) (hb : c.code = cc) (hown : s.vm.findClass own = some m.cls) (hZ : vk_R own index tx q s) (hdg : decode cc pc = .ok (.ldc_w index, 3))
    (k : W p l e R s m args below meth c H locs cells slots Q (F0 m (pc + 3) ls (.ref q :: rest))) : W p l e R s m args below meth c H locs cells slots Q (F0 m pc ls rest) := by
  obtain ⟨kk, cf, i, a', hk, hcf, hcp, -, hr, hev'⟩ := Cond.stringRef_spec hown hZ.1
  cases hZ.2.symm.trans hev'
  intro T hT X
  obtain ⟨t, a1, b1⟩ := k T hT X
  obtain ⟨k', hk', he⟩ := X.warmed.alike.2.2 _ _ hk
  have hr' : k'.resolved[index]? = some (some (.string q)) := by
    rcases X.warmed.entry hk hk' index with h | ⟨h, -⟩
    · rw [h]; exact hr
    · rw [hr] at h; cases h
  refine ⟨t, ?_, b1⟩
  jvm_step X.here [hexec, hb, hdg, ldc_w.wp_string (e := e) (s := T) (f := F0 m pc ls rest) X.here.top hk' (by rw [he]; exact hcf) hcp hr']
  exact a1
theorem xs_73 {pc a b g nx : Nat} {ci : Int32} {di : Int64} {lv : xL} {st : List Value} {h : xH} {F : xF} (C : xCtx p R s m args meth c cc nL own D aC base sp c0 dd ini X) (hk : xok own cc nL ini SW SL pc (73, a, b, g, ci, di, nx) = true) (hs : xsem X SW SL 73 a b g ci di nx lv st h = some F) (hr : xRm R c0 z0 F.2.2.2) (k : xW p l e R s m args below meth c Q nL D aC base sp c0 z0 F) : xW p l e R s m args below meth c Q nL D aC base sp c0 z0 (pc, lv, st, h) := by
  simp only [xok, decide_eq_true_eq] at hk
  simp only [xsem] at hs
  obtain ⟨ha, ho, hg, hd⟩ := hk
  cases hs
  intro H locs ls cells slots hA
  have hl : a < xstr.length := ha
  have hR := C.2.2.2.2.2.2.2.1 a _ (List.getElem?_eq_getElem hl)
  have e1 : xstr.getD a ("", 0, "") = xstr[a] := by simp [List.getD, List.getElem?_eq_getElem hl]
  rw [← e1, ho, hg] at hR
  rcases hd with ⟨rfl, hdg⟩ | ⟨rfl, hdg⟩
  · exact va_ldcS C.1.1 C.1.2.1 C.1.2.2.2 hR hdg (k H locs ls cells slots hA)
  · exact xldcS C.1.1 C.1.2.1 C.1.2.2.2 hR hdg (k H locs ls cells slots hA)
theorem xs_74 {pc a b g nx : Nat} {ci : Int32} {di : Int64} {lv : xL} {st : List Value} {h : xH} {F : xF} (C : xCtx p R s m args meth c cc nL own D aC base sp c0 dd ini X) (hk : xok own cc nL ini SW SL pc (74, a, b, g, ci, di, nx) = true) (hs : xsem X SW SL 74 a b g ci di nx lv st h = some F) (hr : xRm R c0 z0 F.2.2.2) (k : xW p l e R s m args below meth c Q nL D aC base sp c0 z0 F) : xW p l e R s m args below meth c Q nL D aC base sp c0 z0 (pc, lv, st, h) := by
  simp only [xok, decide_eq_true_eq] at hk
  simp only [xsem] at hs
  obtain ⟨rfl, hdg, hlk⟩ := hk
  split at hs
  · rename_i q r
    split at hs
    · rename_i hq
      have hE := C.2.2.2.2.2.2.2.2.1.1 (q - 1) (by omega)
      simp only [show q - 1 + 1 = q by omega, show q - 1 + 101 = q + 100 by omega] at hE
      rcases hlk with ⟨rfl, hlk⟩ | ⟨rfl, hlk⟩
      · rw [if_pos rfl] at hs
        cases hs
        intro H locs ls cells slots hA
        exact vk_getf C.1.1 C.1.2.1 hE.2.2.1 hA.2.1 C.1.2.2.2 (C.2.1 _ (xgd hlk rfl)) (fun _ h9 => h9) hdg (k H locs ls cells slots hA)
      · rw [if_neg (by decide)] at hs
        cases hs
        intro H locs ls cells slots hA
        exact vk_getf C.1.1 C.1.2.1 hE.2.1 hA.2.1 C.1.2.2.2 (C.2.1 _ (xgd hlk rfl)) (fun _ h9 => h9) hdg (k H locs ls cells slots hA)
    · cases hs
  · cases hs
theorem xs_75 {pc a b g nx : Nat} {ci : Int32} {di : Int64} {lv : xL} {st : List Value} {h : xH} {F : xF} (C : xCtx p R s m args meth c cc nL own D aC base sp c0 dd ini X) (hk : xok own cc nL ini SW SL pc (75, a, b, g, ci, di, nx) = true) (hs : xsem X SW SL 75 a b g ci di nx lv st h = some F) (hr : xRm R c0 z0 F.2.2.2) (k : xW p l e R s m args below meth c Q nL D aC base sp c0 z0 F) : xW p l e R s m args below meth c Q nL D aC base sp c0 z0 (pc, lv, st, h) := by
  simp only [xok, decide_eq_true_eq] at hk
  simp only [xsem] at hs
  split at hs
  · cases hs
    obtain ⟨rfl, hdg⟩ := hk
    intro H locs ls cells slots hA
    exact lv_i2c C.1.1 C.1.2.1 hdg rfl (k H locs ls cells slots hA)
  · cases hs
theorem xs_76 {pc a b g nx : Nat} {ci : Int32} {di : Int64} {lv : xL} {st : List Value} {h : xH} {F : xF} (C : xCtx p R s m args meth c cc nL own D aC base sp c0 dd ini X) (hk : xok own cc nL ini SW SL pc (76, a, b, g, ci, di, nx) = true) (hs : xsem X SW SL 76 a b g ci di nx lv st h = some F) (hr : xRm R c0 z0 F.2.2.2) (k : xW p l e R s m args below meth c Q nL D aC base sp c0 z0 F) : xW p l e R s m args below meth c Q nL D aC base sp c0 z0 (pc, lv, st, h) := by
  simp only [xok, decide_eq_true_eq] at hk
  simp only [xsem] at hs
  obtain ⟨rfl, hdg, hlk⟩ := hk
  split at hs
  · rename_i y x r
    split at hs
    · rename_i hc8
      cases hs
      intro H locs ls cells slots hA
      have hrm := C.2.2.2.2.1
      have i1 : h.1.length = c0 + cells := hA.2.2.2.1
      have i2 : xsum h.1 = z0 + slots := hA.2.2.2.2
      have r1 : h.1.length ≤ c0 + R.cells := hr.1
      have r2 : xsum h.1 ≤ z0 + R.slots := hr.2
      exact va_mmax C.1.1 C.1.2.1 (C.1.2.2.1.trans hA.2.2.1.1.symm) C.1.2.2.2 (C.2.1 _ (xgd hlk rfl)) (C.2.1 _ (xgd xmax_st rfl)) (C.2.1 _ (xgd xmath_in rfl)) (C.2.1 _ (xgd xmax_cd rfl)) (by omega) (by rw [xcat_sum]; omega) (by omega) (by omega) hdg (k H locs ls cells slots hA)
    · cases hs
  · cases hs
theorem xs_77 {pc a b g nx : Nat} {ci : Int32} {di : Int64} {lv : xL} {st : List Value} {h : xH} {F : xF} (C : xCtx p R s m args meth c cc nL own D aC base sp c0 dd ini X) (hk : xok own cc nL ini SW SL pc (77, a, b, g, ci, di, nx) = true) (hs : xsem X SW SL 77 a b g ci di nx lv st h = some F) (hr : xRm R c0 z0 F.2.2.2) (k : xW p l e R s m args below meth c Q nL D aC base sp c0 z0 F) : xW p l e R s m args below meth c Q nL D aC base sp c0 z0 (pc, lv, st, h) := by
  simp only [xok, decide_eq_true_eq] at hk
  simp only [xsem] at hs
  obtain ⟨rfl, hdg, hlk⟩ := hk
  split at hs
  · rename_i y x r
    split at hs
    · rename_i hc8
      cases hs
      intro H locs ls cells slots hA
      have hrm := C.2.2.2.2.1
      have i1 : h.1.length = c0 + cells := hA.2.2.2.1
      have i2 : xsum h.1 = z0 + slots := hA.2.2.2.2
      have r1 : h.1.length ≤ c0 + R.cells := hr.1
      have r2 : xsum h.1 ≤ z0 + R.slots := hr.2
      exact va_mmin C.1.1 C.1.2.1 (C.1.2.2.1.trans hA.2.2.1.1.symm) C.1.2.2.2 (C.2.1 _ (xgd hlk rfl)) (C.2.1 _ (xgd xmin_st rfl)) (C.2.1 _ (xgd xmath_in rfl)) (C.2.1 _ (xgd xmin_cd rfl)) (by omega) (by rw [xcat_sum]; omega) (by omega) (by omega) hdg (k H locs ls cells slots hA)
    · cases hs
  · cases hs
end XS
