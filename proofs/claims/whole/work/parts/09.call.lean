/-! CALLS of the small machine -/
/-- a method: its name, bytes, number of locals, kind of answer -/
abbrev xY : Type := Nat → MethodName × ByteArray × Nat × Option FieldType
def xwc (Y : xY) (a : Nat) : Cond := Cond.code (Y a).1 (Y a).2.1 (Y a).2.2.1 (Y a).2.2.2
/-- what is looked up once for each method that is called -/
def xokm (Y : xY) (M : xM) (a : Nat) (np : Nat) : Bool := decide (xwc Y a ∈ lw_tbl ∧ Cond.initialized (Y a).1.cls ∈ lw_tbl ∧ ((Y a).1.cls ≠ "java/lang/invoke/MethodHandle" ∧ (Y a).1.cls ≠ "java/lang/invoke/VarHandle") ∧ (parseMethodDescriptor (Y a).1.desc).map (fun d => d.parameters.length) = some np ∧ (Y a).2.2.1 ≤ 45 ∧ plainName (Y a).1.cls = true ∧ (M a).1 ≤ np + 1)
/-- what is looked up once for each call -/
def xokc (own : String) (cc : ByteArray) (Y : xY) (M : xM) (pc : Nat) (i : xI) : Bool :=
  match i with
  | (op, a, b, g, c, d, nx) => match op with
    | 80 => decide (nx = pc + 3 ∧ decode cc pc = .ok (.invokevirtual g, 3) ∧ Cond.methodLink own g (Y a).1 ∈ lw_tbl ∧ Cond.instanceMethod (Y a).1 ∈ lw_tbl ∧ Cond.selects (Y a).1.cls (Y a).1 (Y a).1 ∈ lw_tbl ∧ (M a).2.1 < 13 ∧ (Y a).1.cls = xRR (M a).2.1 ∧ (M a).1 = b + 1) && xokm Y M a b
    | 81 => decide (nx = pc + 3 ∧ decode cc pc = .ok (.invokestatic g, 3) ∧ Cond.methodLink own g (Y a).1 ∈ lw_tbl ∧ Cond.static (Y a).1 ∈ lw_tbl ∧ (M a).1 = b) && xokm Y M a b
    | 82 => decide (nx = pc + 3 ∧ decode cc pc = .ok (.invokespecial g, 3) ∧ Cond.methodLink own g (Y a).1 ∈ lw_tbl ∧ Cond.instanceMethod (Y a).1 ∈ lw_tbl ∧ (Y a).1.name = "<init>" ∧ (Y a).2.2.2 = none ∧ (M a).1 = b + 1) && xokm Y M a b
    | 83 => decide (nx = pc + 3 ∧ decode cc pc = .ok (.invokestatic g, 3) ∧ Cond.methodLinkNest own g (Y a).1 "DuneRoad" ∈ lw_tbl ∧ Cond.static (Y a).1 ∈ lw_tbl ∧ (M a).1 = b) && xokm Y M a b
    | 84 => decide (nx = pc + 3 ∧ decode cc pc = .ok (.invokespecial g, 3) ∧ Cond.methodLinkNest own g (Y a).1 "DuneRoad" ∈ lw_tbl ∧ Cond.instanceMethod (Y a).1 ∈ lw_tbl ∧ (Y a).1.name = "<init>" ∧ (Y a).2.2.2 = none ∧ (M a).1 = b + 1) && xokm Y M a b
    | 85 => decide (nx = pc + 3 ∧ decode cc pc = .ok (.invokevirtual g, 3) ∧ Cond.methodLink own g (Y a).1 ∈ lw_tbl ∧ Cond.instanceMethod (Y a).1 ∈ lw_tbl ∧ Cond.selects (Y a).1.cls (Y a).1 (Y a).1 ∈ lw_tbl ∧ (Y a).1.cls = "java/lang/String" ∧ (M a).1 = b + 1) && xokm Y M a b
    | _ => false
def xPc (D : va_G) (aC : Nat → ClassId) (base : Nat) (sp : Nat → Nat) (X : xX) (as : List Value) (h : xH) : Array Value → State → Prop := fun v U =>
  v = (as.map (xv base sp)).toArray ∧ U.heap.size = base + h.1.length ∧ va_P D xcls (xws base aC h) U.heap ∧ va_K D xcls (xtys aC) U ∧ xEnv base sp X U U.heap
def xQc (D : va_G) (aC : Nat → ClassId) (base : Nat) (sp : Nat → Nat) (r : Option Value) (h' : xH) : Array Value → State → Outcome → State → Prop := fun _ st oc t =>
  oc = .returned (r.map (xv base sp)) ∧ va_P D xcls (xws base aC h') t.heap ∧ va_F (fun q => base ≤ q) st t
def xrm (d : Nat) (h h' : xH) : Room := { frames := d, cells := h'.1.length - h.1.length, slots := xsum h'.1 - xsum h.1, locals := 64 * d }
/-- the contract of a method's run from as, h to r, h' -/
def xMt (X : xX) (Y : xY) (d k : Nat) (as : List Value) (h : xH) (r : Option Value) (h' : xH) : Prop := ∀ (l : Launch) (D : va_G) (aC : Nat → ClassId) (base : Nat) (sp : Nat → Nat),
  Met l (Y k).1 (xwc Y k :: lw_good) (xrm d h h') (xPc D aC base sp X as h) (xQc D aC base sp r h') (h'.1.length - h.1.length) (xsum h'.1 - xsum h.1) (fun q => base ≤ q)
theorem xPc_blind {D : va_G} {aC : Nat → ClassId} {base : Nat} {sp : Nat → Nat} {X : xX} {as : List Value} {h : xH} : FrameBlind (xPc D aC base sp X as h) := by
  intro a U g mk q
  obtain ⟨q1, q2, q3, q4, q5⟩ := q
  exact ⟨q1, q2, q3, va_K.moved (u := U) (U := U.calling g mk a) (Vm.Alike.refl U.vm) q4, xEnv_same (u := U) (U := U.calling g mk a) rfl q5⟩
theorem xhead {st : List Value} {n : Nat} {w : Value} (hn : n + 1 ≤ st.length) (hj : st[n]? = some w) : (st.take (n + 1)).reverse = w :: ((st.take n).reverse) ∧ st = (st.take n) ++ w :: st.drop (n + 1) := by
  obtain ⟨h1, h2⟩ := List.getElem?_eq_some_iff.mp hj
  have h3 : st.take (n + 1) = st.take n ++ [w] := by rw [List.take_succ_eq_append_getElem h1, h2]
  refine ⟨by rw [h3]; simp, ?_⟩
  have h4 := (List.take_append_drop (n + 1) st).symm
  rw [h3, List.append_assoc] at h4
  exact h4
theorem xrcv_80 {M : xM} {a : Nat} {st : List Value} {h : xH} (hr : xrcv M 80 a st h = true) : ∃ j t, st[(M a).1 - 1]? = some (.ref j) ∧ h.1[j]? = some t ∧ t.1 = (M a).2.1 := by
  unfold xrcv at hr
  rw [if_neg (by decide)] at hr
  split at hr
  · cases hr
  · rename_i j hj
    rw [if_neg (by decide), if_pos rfl] at hr
    split at hr
    · rename_i t ht
      exact ⟨j, t, hj, ht, by simpa using hr⟩
    · cases hr
  · cases hr
theorem xrcv_i {M : xM} {op a : Nat} {st : List Value} {h : xH} (hop : op = 82 ∨ op = 84) (hr : xrcv M op a st h = true) : ∃ j, st[(M a).1 - 1]? = some (.ref j) := by
  unfold xrcv at hr
  rw [if_neg (by omega)] at hr
  split at hr
  · rcases hop with rfl | rfl <;> cases hr
  · rename_i j hj
    exact ⟨j, hj⟩
  · cases hr
theorem xrcv_85 {M : xM} {a : Nat} {st : List Value} {h : xH} (hr : xrcv M 85 a st h = true) : ∃ q, st[(M a).1 - 1]? = some (.retAddr q) ∧ 1 ≤ q ∧ q < 24 := by
  unfold xrcv at hr
  rw [if_neg (by decide)] at hr
  split at hr
  · rename_i q hq
    exact ⟨q, hq, by simpa using hr⟩
  · cases hr
  · cases hr
section XC
variable {p : Program} {l : Launch} {e : Env} {R : Room} {s : State} {m : MethodId} {args : Array Value} {below : List Frame} {meth : Method} {c : Code} {Q : State → Prop} {cc : ByteArray} {nL : Nat} {own : String} {D : va_G} {aC : Nat → ClassId} {base : Nat} {sp : Nat → Nat} {c0 z0 dd : Nat} {ini : Bool} {X : xX} {Y : xY} {M : xM}
theorem xpre {h : xH} {lv : xL} {H : Heap} {locs : List Loc} {ls : Array Slot} {cells slots : Nat} (C : xCtx p R s m args meth c cc nL own D aC base sp c0 dd ini X) (hA : xAt s nL D aC base sp c0 z0 h lv H locs ls cells slots) (hz : H.size = base + h.1.length) (as : List Value) : ∀ U : State, U.heap = H → s.WarmedH U.vm → xPc D aC base sp X as h (as.map (xv base sp)).toArray U := by
  intro U hU hW
  refine ⟨rfl, by rw [hU]; exact hz, by rw [hU]; exact hA.1, va_K.moved hW.alike C.2.2.1, xEnv_warm hW (xEnv_kept C.2.2.2.2.2.2 (by have := C.2.2.2.1; omega) ?_)⟩
  rw [hU]
  exact hA.2.1.2.1
theorem xgood_in (Y : xY) (a : Nat) (h : xwc Y a ∈ lw_tbl) : GoodIn lw_good (xwc Y a :: lw_good) := by
  intro w hw
  rcases List.mem_cons.mp hw with rfl | hw
  · exact ⟨xgd h rfl, Or.inl rfl⟩
  · exact lw_good_in w hw
theorem xcont {pc nx : Nat} {lv : xL} {st rest : List Value} {h h' : xH} {r : Option Value} {H : Heap} {locs : List Loc} {ls : Array Slot} {cells slots : Nat} {aa : Array Value} (hA : xAt s nL D aC base sp c0 z0 h lv H locs ls cells slots) (hle : xle h h')
    (run : va_Run p l e R s m args below meth c H locs cells slots (h'.1.length - h.1.length) (xsum h'.1 - xsum h.1) (F0 m pc ls (st.map (xv base sp))) (rest.map (xv base sp)) (xQc D aC base sp r h' aa) (fun q => base ≤ q)) (hnx : nx = pc + 3) (hz : base ≤ H.size)
    (k : xW p l e R s m args below meth c Q nL D aC base sp c0 z0 (nx, lv, r.toList ++ rest, h')) : W p l e R s m args below meth c H locs cells slots Q (F0 m pc ls (st.map (xv base sp))) := by
  intro T hT X1
  subst hnx
  obtain ⟨v, st₀, t, T', L, h0, X', hL, e1, e2, ⟨hv, hP', hF⟩, go⟩ := run T hT X1
  have hv : v = r.map (xv base sp) := by cases hv; rfl
  subst hv
  have hlen := hA.2.2.2.1
  have hsum := hA.2.2.2.2
  have hS : va_S (fun q => base ≤ q) s.heap T'.heap (locs ++ L) := by
    refine ⟨?_, fun q h1 h2 => ?_, fun q hq => ?_⟩
    · have := hF.1
      have := hA.2.1.1
      rw [e1, ← h0] at *
      omega
    · have h3 := hA.2.1.1
      rw [e1, hF.2 q (by rw [h0]; omega) h2, h0]
      exact hA.2.1.2.1 q h1 h2
    · rcases List.mem_append.mp hq with h | h
      · exact hA.2.1.2.2 q h
      · exact hL q h
  obtain ⟨t2, a1, b1⟩ := k T'.heap (locs ++ L) ls _ _ ⟨by rw [e1]; exact hP', hS, hA.2.2.1, by show h'.1.length = c0 + (cells + (h'.1.length - h.1.length)); have := hle.1; omega, by show xsum h'.1 = z0 + (slots + (xsum h'.1 - xsum h.1)); have := hle.2; omega⟩ T' rfl X'
  refine ⟨t2, go t2 ?_, b1⟩
  have hs : (r.map (xv base sp)).toList ++ rest.map (xv base sp) = (r.toList ++ rest).map (xv base sp) := by cases r <;> simp
  rw [hs]
  exact a1
theorem xs_call {pc op a b g nx : Nat} {ci : Int32} {di : Int64} {lv : xL} {st : List Value} {h h' : xH} {r : Option Value} {d : Nat} (C : xCtx p R s m args meth c cc nL own D aC base sp c0 (d + 1) ini X) (hk : xokc own cc Y M pc (op, a, b, g, ci, di, nx) = true) (hn : (M a).1 ≤ st.length) (h8 : ((st.drop (M a).1).map fun v => v.category).sum ≤ 8) (hrc : xrcv M op a st h = true) (hM : xMt X Y d a (st.take (M a).1).reverse h r h') (hle : xle h h') (hr : xRm R c0 z0 h') (k : xW p l e R s m args below meth c Q nL D aC base sp c0 z0 (nx, lv, r.toList ++ st.drop (M a).1, h')) : xW p l e R s m args below meth c Q nL D aC base sp c0 z0 (pc, lv, st, h) := by
  intro H locs ls cells slots hA T hT X1
  have hz : H.size = base + h.1.length := xsize C.2.2.2.1 hA hT X1
  have hrm := C.2.2.2.2.1
  have hf : cells + (h'.1.length - h.1.length) ≤ R.cells ∧ slots + (xsum h'.1 - xsum h.1) ≤ R.slots := by
    have i1 : h.1.length = c0 + cells := hA.2.2.2.1
    have i2 : xsum h.1 = z0 + slots := hA.2.2.2.2
    have := hle.1; have := hle.2; have := hr.1; have := hr.2
    omega
  have h8' : 2 * (F0 m pc ls (st.map (xv base sp))).monitorRoom + (((st.drop (M a).1).map (xv base sp)).map fun v => v.category).sum ≤ 8 := by
    refine lv_room ?_
    rw [xcat_sum]
    exact h8
  have hts := C.2.1
  have hfix : CallFix p m c cc nL s args lw_good own := ⟨C.1.1, C.1.2.1, C.1.2.2.1, C.1.2.2.2, hts⟩
  have hml : (xrm d h h').frames + 1 ≤ R.frames := by show d + 1 ≤ R.frames; omega
  match op, hk, hrc with
  | 80, hk, hrc =>
    simp only [xokc, xokm, Bool.and_eq_true, decide_eq_true_eq] at hk
    obtain ⟨⟨hnx, hdg, hl1, hl2, hl3, hM2, hcl, hM1⟩, hcw, hini, hmh, hpar, h45, hpl, -⟩ := hk
    rw [hM1] at hn h8' hM k
    obtain ⟨j, t, hj, ht, ht2⟩ := xrcv_80 hrc
    rw [hM1, Nat.add_sub_cancel] at hj
    · · skip
        obtain ⟨e1, e2⟩ := xhead hn hj
        rw [e1] at hM
        have he := xws_get (base := base) (aC := aC) ht
        rw [show t = ((M a).2.1, t.2) by rw [← ht2], xce_og (by omega)] at he
        have hrun := va_runV (e := e) (below := below) (meth := meth) (locs := locs) (As := (st.take b).reverse.map (xv base sp)) (rest := (st.drop (b + 1)).map (xv base sp)) (b := base + j) (C := (Y a).1.cls) hfix (hM l D aC base sp) (cwV (R := R) (bytes := (Y a).2.1) (maxL := (Y a).2.2.1) (ret := (Y a).2.2.2) b hts (fun w hw => by
            rcases List.mem_append.mp hw with hw | hw
            · simp only [List.mem_cons, List.not_mem_nil, or_false] at hw
              rcases hw with rfl | rfl | rfl | rfl
              · exact ⟨xgd hl1 rfl, Or.inl rfl⟩
              · exact ⟨xgd hl2 rfl, Or.inl rfl⟩
              · exact ⟨xgd hl3 rfl, Or.inl rfl⟩
              · exact ⟨xgd hini rfl, Or.inl rfl⟩
            · exact xgood_in Y a hcw w hw) rfl rfl rfl ⟨rfl, hmh.1, hmh.2, hpar⟩ ⟨hml, by show 8 + ((Y a).2.2.1 + 11) + 64 * d ≤ R.locals; omega⟩) ⟨xPc_blind, by
              have := va_recv C.2.2.1 hA.1 (xcls_at hM2) he
              rw [hcl]; exact this, xpre C hA hz (.ref j :: (st.take b).reverse)⟩ (g := F0 m pc ls (st.map (xv base sp))) rfl (by simp; omega) hA.2.2.1.1 (by
              show st.map (xv base sp) = _
              conv => lhs; rw [e2]
              simp [xv]) h8' hdg hf
        exact xcont hA hle hrun hnx (by omega) k T hT X1
  | 81, hk, hrc =>
    simp only [xokc, xokm, Bool.and_eq_true, decide_eq_true_eq] at hk
    obtain ⟨⟨hnx, hdg, hl1, hl2, hM1⟩, hcw, hini, hmh, hpar, h45, hpl, -⟩ := hk
    rw [hM1] at hn h8' hM k
    have hrun := va_runS (e := e) (below := below) (meth := meth) (locs := locs) (As := (st.take b).reverse.map (xv base sp)) (rest := (st.drop b).map (xv base sp)) hfix (hM l D aC base sp) (va_cwS (R := R) (bytes := (Y a).2.1) (maxL := (Y a).2.2.1) (ret := (Y a).2.2.2) b hts (fun w hw => by
            rcases List.mem_append.mp hw with hw | hw
            · simp only [List.mem_cons, List.not_mem_nil, or_false] at hw
              rcases hw with rfl | rfl | rfl
              · exact ⟨xgd hl1 rfl, Or.inl rfl⟩
              · exact ⟨xgd hl2 rfl, Or.inl rfl⟩
              · exact ⟨xgd hini rfl, Or.inl rfl⟩
            · exact xgood_in Y a hcw w hw) rfl rfl rfl ⟨hmh.1, hmh.2, hpar⟩ ⟨hml, by show 8 + ((Y a).2.2.1 + 11) + 64 * d ≤ R.locals; omega⟩) ⟨xPc_blind, xpre C hA hz (st.take b).reverse⟩ (g := F0 m pc ls (st.map (xv base sp))) rfl (by simp; omega) hA.2.2.1.1 (by
              show st.map (xv base sp) = _
              conv => lhs; rw [← List.take_append_drop b st]
              simp) h8' hdg hf
    exact xcont hA hle hrun hnx (by omega) k T hT X1
  | 82, hk, hrc =>
    simp only [xokc, xokm, Bool.and_eq_true, decide_eq_true_eq] at hk
    obtain ⟨⟨hnx, hdg, hl1, hl2, hnm, hrt, hM1⟩, hcw, hini, hmh, hpar, h45, hpl, -⟩ := hk
    rw [hM1] at hn h8' hM k
    obtain ⟨j, hj⟩ := xrcv_i (Or.inl rfl) hrc
    rw [hM1, Nat.add_sub_cancel] at hj
    · skip
      obtain ⟨e1, e2⟩ := xhead hn hj
      rw [e1] at hM
      have hM' := hM l D aC base sp
      have hwe : xwc Y a = Cond.code (Y a).1 (Y a).2.1 (Y a).2.2.1 none := by simp only [xwc, hrt]
      have hrun := va_runI (e := e) (below := below) (meth := meth) (locs := locs) (As := (st.take b).reverse.map (xv base sp)) (rest := (st.drop (b + 1)).map (xv base sp)) (b := base + j) hfix hM' (cwI (R := R) (bytes := (Y a).2.1) (maxL := (Y a).2.2.1) b hts (xgood_in Y a hcw) (by rw [hwe]) rfl rfl (hts _ (xgd hini rfl)) (hts _ (xgd hl1 rfl)) (hts _ (xgd hl2 rfl)) hnm ⟨hmh.1, hmh.2, hpar⟩ ⟨hml, by show 8 + ((Y a).2.2.1 + 11) + 64 * d ≤ R.locals; omega⟩) ⟨xPc_blind, xpre C hA hz (.ref j :: (st.take b).reverse)⟩ (g := F0 m pc ls (st.map (xv base sp))) rfl (by simp; omega) hA.2.2.1.1 (by
              show st.map (xv base sp) = _
              conv => lhs; rw [e2]
              simp [xv]) h8' hdg hf
      exact xcont hA hle hrun hnx (by omega) k T hT X1
  | 83, hk, hrc =>
    simp only [xokc, xokm, Bool.and_eq_true, decide_eq_true_eq] at hk
    obtain ⟨⟨hnx, hdg, hl1, hl2, hM1⟩, hcw, hini, hmh, hpar, h45, hpl, -⟩ := hk
    rw [hM1] at hn h8' hM k
    have hrun := va_runSN (e := e) (below := below) (meth := meth) (locs := locs) (As := (st.take b).reverse.map (xv base sp)) (rest := (st.drop b).map (xv base sp)) hfix (hM l D aC base sp) ⟨va_cnB (R := R) (bytes := (Y a).2.1) (maxL := (Y a).2.2.1) (ret := (Y a).2.2.2) b hts (xgood_in Y a hcw) rfl rfl rfl (C.2.2.2.2.2.2.2.2.2.2.2.1 _ (List.mem_filter.mpr ⟨hl1, rfl⟩)) (hts _ (xgd hini rfl)) ⟨hmh.1, hmh.2, hpar⟩ ⟨hml, by show 8 + ((Y a).2.2.1 + 11) + 64 * d ≤ R.locals; omega⟩, hts _ (xgd hl2 rfl), trivial⟩ ⟨xPc_blind, xpre C hA hz (st.take b).reverse⟩ (g := F0 m pc ls (st.map (xv base sp))) rfl (by simp; omega) hA.2.2.1.1 (by
              show st.map (xv base sp) = _
              conv => lhs; rw [← List.take_append_drop b st]
              simp) h8' hdg hf
    exact xcont hA hle hrun hnx (by omega) k T hT X1
  | 84, hk, hrc =>
    simp only [xokc, xokm, Bool.and_eq_true, decide_eq_true_eq] at hk
    obtain ⟨⟨hnx, hdg, hl1, hl2, hnm, hrt, hM1⟩, hcw, hini, hmh, hpar, h45, hpl, -⟩ := hk
    rw [hM1] at hn h8' hM k
    obtain ⟨j, hj⟩ := xrcv_i (Or.inr rfl) hrc
    rw [hM1, Nat.add_sub_cancel] at hj
    · skip
      obtain ⟨e1, e2⟩ := xhead hn hj
      rw [e1] at hM
      have hM' := hM l D aC base sp
      have hwe : xwc Y a = Cond.code (Y a).1 (Y a).2.1 (Y a).2.2.1 none := by simp only [xwc, hrt]
      have hrun := va_runIN (e := e) (below := below) (meth := meth) (locs := locs) (As := (st.take b).reverse.map (xv base sp)) (rest := (st.drop (b + 1)).map (xv base sp)) (b := base + j) hfix hM' ⟨va_cnB (R := R) (bytes := (Y a).2.1) (maxL := (Y a).2.2.1) (ret := none) b hts (xgood_in Y a hcw) (by rw [hwe]) rfl rfl (C.2.2.2.2.2.2.2.2.2.2.2.1 _ (List.mem_filter.mpr ⟨hl1, rfl⟩)) (hts _ (xgd hini rfl)) ⟨hmh.1, hmh.2, hpar⟩ ⟨hml, by show 8 + ((Y a).2.2.1 + 11) + 64 * d ≤ R.locals; omega⟩, hnm, hts _ (xgd hl2 rfl)⟩ ⟨xPc_blind, xpre C hA hz (.ref j :: (st.take b).reverse)⟩ (g := F0 m pc ls (st.map (xv base sp))) rfl (by simp; omega) hA.2.2.1.1 (by
              show st.map (xv base sp) = _
              conv => lhs; rw [e2]
              simp [xv]) h8' hdg hf
      exact xcont hA hle hrun hnx (by omega) k T hT X1
  | 85, hk, hrc =>
    simp only [xokc, xokm, Bool.and_eq_true, decide_eq_true_eq] at hk
    obtain ⟨⟨hnx, hdg, hl1, hl2, hl3, hcl, hM1⟩, hcw, hini, hmh, hpar, h45, hpl, -⟩ := hk
    rw [hM1] at hn h8' hM k
    obtain ⟨q, hq, hq2⟩ := xrcv_85 hrc
    rw [hM1, Nat.add_sub_cancel] at hq
    · skip
      obtain ⟨e1, e2⟩ := xhead hn hq
      rw [e1] at hM
      have hrun := va_runV (e := e) (below := below) (meth := meth) (locs := locs) (As := (st.take b).reverse.map (xv base sp)) (rest := (st.drop (b + 1)).map (xv base sp)) (b := sp q) (C := (Y a).1.cls) hfix (hM l D aC base sp) (cwV (R := R) (bytes := (Y a).2.1) (maxL := (Y a).2.2.1) (ret := (Y a).2.2.2) b hts (fun w hw => by
            rcases List.mem_append.mp hw with hw | hw
            · simp only [List.mem_cons, List.not_mem_nil, or_false] at hw
              rcases hw with rfl | rfl | rfl | rfl
              · exact ⟨xgd hl1 rfl, Or.inl rfl⟩
              · exact ⟨xgd hl2 rfl, Or.inl rfl⟩
              · exact ⟨xgd hl3 rfl, Or.inl rfl⟩
              · exact ⟨xgd hini rfl, Or.inl rfl⟩
            · exact xgood_in Y a hcw w hw) rfl rfl rfl ⟨rfl, hmh.1, hmh.2, hpar⟩ ⟨hml, by show 8 + ((Y a).2.2.1 + 11) + 64 * d ≤ R.locals; omega⟩) ⟨xPc_blind, by
              have h9 := vk_recv C.2.2.2.2.2.2.2.2.1 (i := q - 1) (by omega) hA.2.1
              simp only [show q - 1 + 1 = q by omega] at h9
              rw [hcl]; exact h9, xpre C hA hz (.retAddr q :: (st.take b).reverse)⟩ (g := F0 m pc ls (st.map (xv base sp))) rfl (by simp; omega) hA.2.2.1.1 (by
              show st.map (xv base sp) = _
              conv => lhs; rw [e2]
              simp [xv]) h8' hdg hf
      exact xcont hA hle hrun hnx (by omega) k T hT X1
end XC
