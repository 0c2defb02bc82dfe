/-! ONE STEP of the small machine at the heap -/
theorem xin_t {ci : Nat} (h : ci < 13) : ∀ w ∈ u_ws (xRR ci) (xTT ci) (xN ci), w ∈ lw_tbl := by
  have h2 : ci = 0 ∨ ci = 1 ∨ ci = 2 ∨ ci = 3 ∨ ci = 4 ∨ ci = 5 ∨ ci = 6 ∨ ci = 7 ∨ ci = 8 ∨ ci = 9 ∨ ci = 10 ∨ ci = 11 ∨ ci = 12 := by omega
  rcases h2 with rfl | rfl | rfl | rfl | rfl | rfl | rfl | rfl | rfl | rfl | rfl | rfl | rfl <;> decide +kernel
theorem xin_ok {ci : Nat} (h : ci < 13) : ∀ w ∈ u_ws (xRR ci) (xTT ci) (xN ci), w ∈ lw_good := by
  intro w hw
  refine xgd (xin_t h w hw) ?_
  obtain ⟨k, -, rfl⟩ := List.mem_map.mp hw
  unfold u_lay
  split <;> rfl
theorem xv_rf (base : Nat) (sp : Nat → Nat) (r : Option Nat) : xv base sp (va_rf r) = va_rf (r.map (base + ·)) := by cases r <;> rfl
section XS
variable {p : Program} {l : Launch} {e : Env} {R : Room} {s : State} {m : MethodId} {args : Array Value} {below : List Frame} {meth : Method} {c : Code} {Q : State → Prop} {cc : ByteArray} {nL : Nat} {own : String} {D : va_G} {aC : Nat → ClassId} {base : Nat} {sp : Nat → Nat} {c0 z0 dd : Nat} {ini : Bool} {X : xX} {SW : xSwT} {SL : xSwL}
/-- the heap ends where the small one does -/
theorem xsize {h : xH} {lv : xL} {H : Heap} {locs : List Loc} {ls : Array Slot} {cells slots : Nat} {T : State} (hz : s.heap.size = base + c0) (hA : xAt s nL D aC base sp c0 z0 h lv H locs ls cells slots) (hT : T.heap = H) (X : Stand p l e R s m args below meth c T locs cells slots) : H.size = base + h.1.length := by
  have h1 := X.heapSize
  rw [hT, hz] at h1
  have h2 := hA.2.2.2.1
  have h3 : base + h.1.length ≤ H.size := by
    by_cases h0 : h.1.length = 0
    · have := hA.2.1.1
      omega
    · have hl : h.1.length - 1 < h.1.length := by omega
      have := (hA.1 (h.1.length - 1) _ (xws_get (base := base) (aC := aC) (List.getElem?_eq_getElem hl))).lt
      have h5 : base + (h.1.length - 1) < H.size := this
      omega
  omega
theorem xput_P {h h' : xH} {lv : xL} {H H1 : Heap} {locs locs1 : List Loc} {ls : Array Slot} {cells slots i : Nat} {q : Nat × Nat} {E : va_E} (hA : xAt s nL D aC base sp c0 z0 h lv H locs ls cells slots) (hsh : h'.1 = h.1) (hi : h.1[i]? = some q) (hne : ∀ j, j ≠ i → h'.2.1 j = h.2.1 j ∧ h'.2.2.1 j = h.2.2.1 j ∧ h'.2.2.2 j = h.2.2.2 j) (hE : xce base aC h' i q = E) (hP : va_P D xcls ((xws base aC h).set i (base + i, E)) H1) (hS : va_S (fun q => base ≤ q) s.heap H1 locs1) : xAt s nL D aC base sp c0 z0 h' lv H1 locs1 ls cells slots := by
  subst hE
  rw [xws_set hsh hi (fun j r hj => xce_congr (hne j hj).1 (hne j hj).2.1 (hne j hj).2.2 r)] at hP
  exact ⟨hP, hS, hA.2.2.1, by rw [hsh]; exact hA.2.2.2.1, by rw [hsh]; exact hA.2.2.2.2⟩
theorem xs_48 {pc a b g nx : Nat} {ci : Int32} {di : Int64} {lv : xL} {st : List Value} {h : xH} {F : xF} (C : xCtx p R s m args meth c cc nL own D aC base sp c0 dd ini X) (hk : xok own cc nL ini SW SL pc (48, a, b, g, ci, di, nx) = true) (hs : xsem X SW SL 48 a b g ci di nx lv st h = some F) (hr : xRm R c0 z0 F.2.2.2) (k : xW p l e R s m args below meth c Q nL D aC base sp c0 z0 F) : xW p l e R s m args below meth c Q nL D aC base sp c0 z0 (pc, lv, st, h) := by
  simp only [xok, decide_eq_true_eq] at hk
  simp only [xsem] at hs
  obtain ⟨hb, ha, rfl, hdg, hlk, hdc, hty⟩ := hk
  split at hs
  · rename_i i r
    split at hs
    · rename_i t n hq
      split at hs
      · rename_i ht
        subst ht
        cases hs
        intro H locs ls cells slots hA
        have he := xws_get (base := base) (aC := aC) hq
        rw [xce_og (by omega)] at he
        refine va_get (v := .int (h.2.1 i a)) C.1.1 C.1.2.1 C.2.1 (xin_ok hb) C.1.2.2.2 C.2.2.1 hA.1 i he (xcls_at hb) a ha (C.2.1 _ (xgd hlk rfl)) (fun x hx => by rw [hdc] at hx; exact hx) (by rw [xrow_get ha]; simp only [xfv, hty]) hdg ?_
        exact k H locs ls cells slots hA
      · cases hs
    · cases hs
  · cases hs
theorem xs_49 {pc a b g nx : Nat} {ci : Int32} {di : Int64} {lv : xL} {st : List Value} {h : xH} {F : xF} (C : xCtx p R s m args meth c cc nL own D aC base sp c0 dd ini X) (hk : xok own cc nL ini SW SL pc (49, a, b, g, ci, di, nx) = true) (hs : xsem X SW SL 49 a b g ci di nx lv st h = some F) (hr : xRm R c0 z0 F.2.2.2) (k : xW p l e R s m args below meth c Q nL D aC base sp c0 z0 F) : xW p l e R s m args below meth c Q nL D aC base sp c0 z0 (pc, lv, st, h) := by
  simp only [xok, decide_eq_true_eq] at hk
  simp only [xsem] at hs
  obtain ⟨hb, ha, rfl, hdg, hlk, hdc, hty⟩ := hk
  split at hs
  · rename_i i r
    split at hs
    · rename_i t n hq
      split at hs
      · rename_i ht
        subst ht
        cases hs
        intro H locs ls cells slots hA
        have he := xws_get (base := base) (aC := aC) hq
        rw [xce_og (by omega)] at he
        refine va_get (v := .long (h.2.2.1 i a)) C.1.1 C.1.2.1 C.2.1 (xin_ok hb) C.1.2.2.2 C.2.2.1 hA.1 i he (xcls_at hb) a ha (C.2.1 _ (xgd hlk rfl)) (fun x hx => by rw [hdc] at hx; exact hx) (by rw [xrow_get ha]; simp only [xfv, hty]) hdg ?_
        exact k H locs ls cells slots hA
      · cases hs
    · cases hs
  · cases hs
theorem xs_50 {pc a b g nx : Nat} {ci : Int32} {di : Int64} {lv : xL} {st : List Value} {h : xH} {F : xF} (C : xCtx p R s m args meth c cc nL own D aC base sp c0 dd ini X) (hk : xok own cc nL ini SW SL pc (50, a, b, g, ci, di, nx) = true) (hs : xsem X SW SL 50 a b g ci di nx lv st h = some F) (hr : xRm R c0 z0 F.2.2.2) (k : xW p l e R s m args below meth c Q nL D aC base sp c0 z0 F) : xW p l e R s m args below meth c Q nL D aC base sp c0 z0 (pc, lv, st, h) := by
  simp only [xok, decide_eq_true_eq] at hk
  simp only [xsem] at hs
  obtain ⟨hb, ha, rfl, hdg, hlk, hdc, hty⟩ := hk
  split at hs
  · rename_i i r
    split at hs
    · rename_i t n hq
      split at hs
      · rename_i ht
        subst ht
        cases hs
        intro H locs ls cells slots hA
        have he := xws_get (base := base) (aC := aC) hq
        rw [xce_og (by omega)] at he
        refine va_get (v := va_rf ((h.2.2.2 i a).map (base + ·))) C.1.1 C.1.2.1 C.2.1 (xin_ok hb) C.1.2.2.2 C.2.2.1 hA.1 i he (xcls_at hb) a ha (C.2.1 _ (xgd hlk rfl)) (fun x hx => by rw [hdc] at hx; exact hx) (by rw [xrow_get ha]; simp only [xfv, hty]) hdg ?_
        have kk := k H locs ls cells slots hA
        simp only [List.map_cons, xv_rf] at kk
        exact kk
      · cases hs
    · cases hs
  · cases hs
theorem xs_51 {pc a b g nx : Nat} {ci : Int32} {di : Int64} {lv : xL} {st : List Value} {h : xH} {F : xF} (C : xCtx p R s m args meth c cc nL own D aC base sp c0 dd ini X) (hk : xok own cc nL ini SW SL pc (51, a, b, g, ci, di, nx) = true) (hs : xsem X SW SL 51 a b g ci di nx lv st h = some F) (hr : xRm R c0 z0 F.2.2.2) (k : xW p l e R s m args below meth c Q nL D aC base sp c0 z0 F) : xW p l e R s m args below meth c Q nL D aC base sp c0 z0 (pc, lv, st, h) := by
  simp only [xok, decide_eq_true_eq] at hk
  simp only [xsem] at hs
  obtain ⟨hb, ha, rfl, hdg, hlk, hdc, hty, hfin⟩ := hk
  split at hs
  · rename_i v i r
    split at hs
    · rename_i t n hq
      split at hs
      · rename_i ht
        subst ht
        cases hs
        intro H locs ls cells slots hA
        have he := xws_get (base := base) (aC := aC) hq
        rw [xce_og (by omega)] at he
        have hxt : xtc (xty t a) = 0 := by rw [hty]; rfl
        have hnar : narrow (xty t a) (.int v) = .int v := by rw [hty]; rfl
        have hfit : fits (xty t a) (.int v) = true := by rw [hty]; rfl
        have hl : a < ((List.range (xN t)).map (xfv base h t i)).length := by simpa using ha
        have fin : ∀ (H1 : Heap) (locs1 : List Loc), va_P D xcls ((xws base aC h).set i (base + i, .inr (t, ((List.range (xN t)).map (xfv base h t i)).set a (.int v)))) H1 → va_S (fun q => base ≤ q) s.heap H1 locs1 → W p l e R s m args below meth c H1 locs1 cells slots Q (F0 m (pc + 3) ls (r.map (xv base sp))) := by
          intro H1 locs1 hP1 hS1
          refine k H1 locs1 ls cells slots (xput_P hA rfl hq (fun j hj => ⟨xu_ne hj, rfl, rfl⟩) (xce_o (by omega) ha ?_ ?_) hP1 hS1)
          · simp only [xfv, hty, hxt, xu_row, if_pos]; try rfl
          · intro m hm
            simp only [xfv, xu_row, if_neg hm]
        rcases hfin with hf | ⟨hf, hi1, hi2⟩
        · exact va_put C.1.1 C.1.2.1 C.2.1 (xin_ok hb) (xty t) (xty_ok hb) (xnm_ok hb) C.1.2.2.2 C.2.2.1 hA.1 (xws_D base aC h) hA.2.1 i he (xcls_at hb) a ha (C.2.1 _ (xgd hlk rfl)) (fun x hx => by rw [hdc] at hx; exact hx) hf (xty_ok hb a ha) hnar hfit hl hdg (fun H1 locs1 hP1 _ hS1 => fin H1 locs1 hP1 hS1)
        · exact va_putF C.1.1 C.1.2.1 C.2.1 (xin_ok hb) (xty t) (xty_ok hb) (xnm_ok hb) C.1.2.2.2 C.2.2.1 hA.1 (xws_D base aC h) hA.2.1 i he (xcls_at hb) a ha (C.2.1 _ (xgd hlk rfl)) (fun x hx => by rw [hdc] at hx; exact hx) hf (C.2.2.2.2.2.1 hi1) hi2 (xty_ok hb a ha) hnar hfit hl hdg (fun H1 locs1 hP1 _ hS1 => fin H1 locs1 hP1 hS1)
      · cases hs
    · cases hs
  · cases hs
theorem xs_52 {pc a b g nx : Nat} {ci : Int32} {di : Int64} {lv : xL} {st : List Value} {h : xH} {F : xF} (C : xCtx p R s m args meth c cc nL own D aC base sp c0 dd ini X) (hk : xok own cc nL ini SW SL pc (52, a, b, g, ci, di, nx) = true) (hs : xsem X SW SL 52 a b g ci di nx lv st h = some F) (hr : xRm R c0 z0 F.2.2.2) (k : xW p l e R s m args below meth c Q nL D aC base sp c0 z0 F) : xW p l e R s m args below meth c Q nL D aC base sp c0 z0 (pc, lv, st, h) := by
  simp only [xok, decide_eq_true_eq] at hk
  simp only [xsem] at hs
  obtain ⟨hb, ha, rfl, hdg, hlk, hdc, hty, hfin⟩ := hk
  split at hs
  · rename_i v i r
    split at hs
    · rename_i t n hq
      split at hs
      · rename_i ht
        subst ht
        cases hs
        intro H locs ls cells slots hA
        have he := xws_get (base := base) (aC := aC) hq
        rw [xce_og (by omega)] at he
        have hxt : xtc (xty t a) = 1 := by rw [hty]; rfl
        have hnar : narrow (xty t a) (.long v) = .long v := by rw [hty]; rfl
        have hfit : fits (xty t a) (.long v) = true := by rw [hty]; rfl
        have hl : a < ((List.range (xN t)).map (xfv base h t i)).length := by simpa using ha
        have fin : ∀ (H1 : Heap) (locs1 : List Loc), va_P D xcls ((xws base aC h).set i (base + i, .inr (t, ((List.range (xN t)).map (xfv base h t i)).set a (.long v)))) H1 → va_S (fun q => base ≤ q) s.heap H1 locs1 → W p l e R s m args below meth c H1 locs1 cells slots Q (F0 m (pc + 3) ls (r.map (xv base sp))) := by
          intro H1 locs1 hP1 hS1
          refine k H1 locs1 ls cells slots (xput_P hA rfl hq (fun j hj => ⟨rfl, xu_ne hj, rfl⟩) (xce_o (by omega) ha ?_ ?_) hP1 hS1)
          · simp only [xfv, hty, hxt, xu_row, if_pos]; try rfl
          · intro m hm
            simp only [xfv, xu_row, if_neg hm]
        rcases hfin with hf | ⟨hf, hi1, hi2⟩
        · exact va_put C.1.1 C.1.2.1 C.2.1 (xin_ok hb) (xty t) (xty_ok hb) (xnm_ok hb) C.1.2.2.2 C.2.2.1 hA.1 (xws_D base aC h) hA.2.1 i he (xcls_at hb) a ha (C.2.1 _ (xgd hlk rfl)) (fun x hx => by rw [hdc] at hx; exact hx) hf (xty_ok hb a ha) hnar hfit hl hdg (fun H1 locs1 hP1 _ hS1 => fin H1 locs1 hP1 hS1)
        · exact va_putF C.1.1 C.1.2.1 C.2.1 (xin_ok hb) (xty t) (xty_ok hb) (xnm_ok hb) C.1.2.2.2 C.2.2.1 hA.1 (xws_D base aC h) hA.2.1 i he (xcls_at hb) a ha (C.2.1 _ (xgd hlk rfl)) (fun x hx => by rw [hdc] at hx; exact hx) hf (C.2.2.2.2.2.1 hi1) hi2 (xty_ok hb a ha) hnar hfit hl hdg (fun H1 locs1 hP1 _ hS1 => fin H1 locs1 hP1 hS1)
      · cases hs
    · cases hs
  · cases hs
theorem xs_53 {pc a b g nx : Nat} {ci : Int32} {di : Int64} {lv : xL} {st : List Value} {h : xH} {F : xF} (C : xCtx p R s m args meth c cc nL own D aC base sp c0 dd ini X) (hk : xok own cc nL ini SW SL pc (53, a, b, g, ci, di, nx) = true) (hs : xsem X SW SL 53 a b g ci di nx lv st h = some F) (hr : xRm R c0 z0 F.2.2.2) (k : xW p l e R s m args below meth c Q nL D aC base sp c0 z0 F) : xW p l e R s m args below meth c Q nL D aC base sp c0 z0 (pc, lv, st, h) := by
  simp only [xok, decide_eq_true_eq] at hk
  simp only [xsem] at hs
  obtain ⟨hb, ha, rfl, hdg, hlk, hdc, hty, hfin⟩ := hk
  split at hs
  · rename_i v i r
    split at hs
    · rename_i t n hq
      split at hs
      · rename_i ht
        subst ht
        cases hs
        intro H locs ls cells slots hA
        have he := xws_get (base := base) (aC := aC) hq
        rw [xce_og (by omega)] at he
        have hxt : xtc (xty t a) = 2 := hty
        have hnar : narrow (xty t a) (.ref (base + v)) = .ref (base + v) := by cases hq9 : xty t a <;> first | rfl | (rw [hq9] at hty; cases hty)
        have hfit : fits (xty t a) (.ref (base + v)) = true := by cases hq9 : xty t a <;> first | rfl | (rw [hq9] at hty; cases hty)
        have hl : a < ((List.range (xN t)).map (xfv base h t i)).length := by simpa using ha
        have fin : ∀ (H1 : Heap) (locs1 : List Loc), va_P D xcls ((xws base aC h).set i (base + i, .inr (t, ((List.range (xN t)).map (xfv base h t i)).set a (.ref (base + v))))) H1 → va_S (fun q => base ≤ q) s.heap H1 locs1 → W p l e R s m args below meth c H1 locs1 cells slots Q (F0 m (pc + 3) ls (r.map (xv base sp))) := by
          intro H1 locs1 hP1 hS1
          refine k H1 locs1 ls cells slots (xput_P hA rfl hq (fun j hj => ⟨rfl, rfl, xu_ne hj⟩) (xce_o (by omega) ha ?_ ?_) hP1 hS1)
          · simp only [xfv, hty, hxt, xu_row, if_pos]; try rfl
          · intro m hm
            simp only [xfv, xu_row, if_neg hm]
        rcases hfin with hf | ⟨hf, hi1, hi2⟩
        · exact va_put C.1.1 C.1.2.1 C.2.1 (xin_ok hb) (xty t) (xty_ok hb) (xnm_ok hb) C.1.2.2.2 C.2.2.1 hA.1 (xws_D base aC h) hA.2.1 i he (xcls_at hb) a ha (C.2.1 _ (xgd hlk rfl)) (fun x hx => by rw [hdc] at hx; exact hx) hf (xty_ok hb a ha) hnar hfit hl hdg (fun H1 locs1 hP1 _ hS1 => fin H1 locs1 hP1 hS1)
        · exact va_putF C.1.1 C.1.2.1 C.2.1 (xin_ok hb) (xty t) (xty_ok hb) (xnm_ok hb) C.1.2.2.2 C.2.2.1 hA.1 (xws_D base aC h) hA.2.1 i he (xcls_at hb) a ha (C.2.1 _ (xgd hlk rfl)) (fun x hx => by rw [hdc] at hx; exact hx) hf (C.2.2.2.2.2.1 hi1) hi2 (xty_ok hb a ha) hnar hfit hl hdg (fun H1 locs1 hP1 _ hS1 => fin H1 locs1 hP1 hS1)
      · cases hs
    · cases hs
  · cases hs
theorem xs_54 {pc a b g nx : Nat} {ci : Int32} {di : Int64} {lv : xL} {st : List Value} {h : xH} {F : xF} (C : xCtx p R s m args meth c cc nL own D aC base sp c0 dd ini X) (hk : xok own cc nL ini SW SL pc (54, a, b, g, ci, di, nx) = true) (hs : xsem X SW SL 54 a b g ci di nx lv st h = some F) (hr : xRm R c0 z0 F.2.2.2) (k : xW p l e R s m args below meth c Q nL D aC base sp c0 z0 F) : xW p l e R s m args below meth c Q nL D aC base sp c0 z0 (pc, lv, st, h) := by
  simp only [xok, decide_eq_true_eq] at hk
  simp only [xsem] at hs
  obtain ⟨hb, ha, rfl, hdg, hlk, hdc, hty, hfin⟩ := hk
  split at hs
  · rename_i v i r
    split at hs
    · rename_i t n hq
      split at hs
      · rename_i ht
        obtain ⟨ht, hv⟩ := ht
        subst ht
        cases hs
        intro H locs ls cells slots hA
        have he := xws_get (base := base) (aC := aC) hq
        rw [xce_og (by omega)] at he
        have hxt : xtc (xty t a) = 0 := by rw [hty]; rfl
        have hnar : narrow (xty t a) (.int v) = .int v := by rw [hty]; rcases hv with rfl | rfl <;> rfl
        have hfit : fits (xty t a) (.int v) = true := by rw [hty]; rcases hv with rfl | rfl <;> rfl
        have hl : a < ((List.range (xN t)).map (xfv base h t i)).length := by simpa using ha
        have fin : ∀ (H1 : Heap) (locs1 : List Loc), va_P D xcls ((xws base aC h).set i (base + i, .inr (t, ((List.range (xN t)).map (xfv base h t i)).set a (.int v)))) H1 → va_S (fun q => base ≤ q) s.heap H1 locs1 → W p l e R s m args below meth c H1 locs1 cells slots Q (F0 m (pc + 3) ls (r.map (xv base sp))) := by
          intro H1 locs1 hP1 hS1
          refine k H1 locs1 ls cells slots (xput_P hA rfl hq (fun j hj => ⟨xu_ne hj, rfl, rfl⟩) (xce_o (by omega) ha ?_ ?_) hP1 hS1)
          · simp only [xfv, hty, hxt, xu_row, if_pos]; try rfl
          · intro m hm
            simp only [xfv, xu_row, if_neg hm]
        rcases hfin with hf | ⟨hf, hi1, hi2⟩
        · exact va_put C.1.1 C.1.2.1 C.2.1 (xin_ok hb) (xty t) (xty_ok hb) (xnm_ok hb) C.1.2.2.2 C.2.2.1 hA.1 (xws_D base aC h) hA.2.1 i he (xcls_at hb) a ha (C.2.1 _ (xgd hlk rfl)) (fun x hx => by rw [hdc] at hx; exact hx) hf (xty_ok hb a ha) hnar hfit hl hdg (fun H1 locs1 hP1 _ hS1 => fin H1 locs1 hP1 hS1)
        · exact va_putF C.1.1 C.1.2.1 C.2.1 (xin_ok hb) (xty t) (xty_ok hb) (xnm_ok hb) C.1.2.2.2 C.2.2.1 hA.1 (xws_D base aC h) hA.2.1 i he (xcls_at hb) a ha (C.2.1 _ (xgd hlk rfl)) (fun x hx => by rw [hdc] at hx; exact hx) hf (C.2.2.2.2.2.1 hi1) hi2 (xty_ok hb a ha) hnar hfit hl hdg (fun H1 locs1 hP1 _ hS1 => fin H1 locs1 hP1 hS1)
      · cases hs
    · cases hs
  · cases hs
end XS
