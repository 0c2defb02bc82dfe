/-! ONE STEP of the small machine at arrays -/
section XS
variable {p : Program} {l : Launch} {e : Env} {R : Room} {s : State} {m : MethodId} {args : Array Value} {below : List Frame} {meth : Method} {c : Code} {Q : State → Prop} {cc : ByteArray} {nL : Nat} {own : String} {D : va_G} {aC : Nat → ClassId} {base : Nat} {sp : Nat → Nat} {c0 z0 dd : Nat} {ini : Bool} {X : xX} {SW : xSwT} {SL : xSwL}
theorem xs_55 {pc a b g nx : Nat} {ci : Int32} {di : Int64} {lv : xL} {st : List Value} {h : xH} {F : xF} (C : xCtx p R s m args meth c cc nL own D aC base sp c0 dd ini X) (hk : xok own cc nL ini SW SL pc (55, a, b, g, ci, di, nx) = true) (hs : xsem X SW SL 55 a b g ci di nx lv st h = some F) (hr : xRm R c0 z0 F.2.2.2) (k : xW p l e R s m args below meth c Q nL D aC base sp c0 z0 F) : xW p l e R s m args below meth c Q nL D aC base sp c0 z0 (pc, lv, st, h) := by
  simp only [xok, decide_eq_true_eq] at hk
  simp only [xsem] at hs
  obtain ⟨rfl, hdg⟩ := hk
  split at hs
  · rename_i j i r
    split at hs
    · rename_i t n hq
      split at hs
      · rename_i ht
        obtain ⟨rfl, hin⟩ := ht
        cases hs
        intro H locs ls cells slots hA
        exact va_iald C.1.1 C.1.2.1 C.2.2.1 hA.1 i 0 (xws_get (base := base) (aC := aC) hq) rfl hin hdg (k H locs ls cells slots hA)
      · cases hs
    · cases hs
  · rename_i j r
    split at hs
    · cases hs
    · rename_i hin
      cases hs
      intro H locs ls cells slots hA
      have hb0 : sp 0 < s.heap.size := by have := C.2.2.2.1; have := C.2.2.2.2.2.2.1.2; omega
      exact va_sld C.1.1 C.1.2.1 C.2.2.2.2.2.2.1.1 hb0 (Nat.not_le.mpr C.2.2.2.2.2.2.1.2) hA.2.1 hin hdg (k H locs ls cells slots hA)
  · cases hs
theorem xs_56 {pc a b g nx : Nat} {ci : Int32} {di : Int64} {lv : xL} {st : List Value} {h : xH} {F : xF} (C : xCtx p R s m args meth c cc nL own D aC base sp c0 dd ini X) (hk : xok own cc nL ini SW SL pc (56, a, b, g, ci, di, nx) = true) (hs : xsem X SW SL 56 a b g ci di nx lv st h = some F) (hr : xRm R c0 z0 F.2.2.2) (k : xW p l e R s m args below meth c Q nL D aC base sp c0 z0 F) : xW p l e R s m args below meth c Q nL D aC base sp c0 z0 (pc, lv, st, h) := by
  simp only [xok, decide_eq_true_eq] at hk
  simp only [xsem] at hs
  obtain ⟨rfl, hdg⟩ := hk
  split at hs
  · rename_i j i r
    split at hs
    · rename_i t n hq
      split at hs
      · rename_i ht
        obtain ⟨rfl, hin⟩ := ht
        cases hs
        intro H locs ls cells slots hA
        exact va_lald C.1.1 C.1.2.1 C.2.2.1 hA.1 i 1 (xws_get (base := base) (aC := aC) hq) rfl hin hdg (k H locs ls cells slots hA)
      · cases hs
    · cases hs
  · cases hs
theorem xs_57 {pc a b g nx : Nat} {ci : Int32} {di : Int64} {lv : xL} {st : List Value} {h : xH} {F : xF} (C : xCtx p R s m args meth c cc nL own D aC base sp c0 dd ini X) (hk : xok own cc nL ini SW SL pc (57, a, b, g, ci, di, nx) = true) (hs : xsem X SW SL 57 a b g ci di nx lv st h = some F) (hr : xRm R c0 z0 F.2.2.2) (k : xW p l e R s m args below meth c Q nL D aC base sp c0 z0 F) : xW p l e R s m args below meth c Q nL D aC base sp c0 z0 (pc, lv, st, h) := by
  simp only [xok, decide_eq_true_eq] at hk
  simp only [xsem] at hs
  obtain ⟨rfl, hdg⟩ := hk
  split at hs
  · rename_i j i r
    split at hs
    · rename_i t n hq
      split at hs
      · rename_i ht
        obtain ⟨ht, hin⟩ := ht
        cases hs
        intro H locs ls cells slots hA
        rcases ht with rfl | rfl
        · exact va_zald C.1.1 C.1.2.1 C.2.2.1 hA.1 i 2 (xws_get (base := base) (aC := aC) hq) rfl hin hdg (k H locs ls cells slots hA)
        · exact va_bald C.1.1 C.1.2.1 C.2.2.1 hA.1 i 3 (xws_get (base := base) (aC := aC) hq) rfl hin hdg (k H locs ls cells slots hA)
      · cases hs
    · cases hs
  · rename_i j q r
    split at hs
    · rename_i hc
      obtain ⟨⟨q1, q2⟩, hin⟩ := hc
      cases hs
      intro H locs ls cells slots hA
      have hE := (C.2.2.2.2.2.2.2.2.1.1 (q - 101) (by omega)).2.2.2
      simp only [show q - 101 + 101 = q by omega] at hE
      exact va_tb C.1.1 C.1.2.1 hE hA.2.1 hin rfl hdg (k H locs ls cells slots hA)
    · cases hs
  · cases hs
theorem xs_58 {pc a b g nx : Nat} {ci : Int32} {di : Int64} {lv : xL} {st : List Value} {h : xH} {F : xF} (C : xCtx p R s m args meth c cc nL own D aC base sp c0 dd ini X) (hk : xok own cc nL ini SW SL pc (58, a, b, g, ci, di, nx) = true) (hs : xsem X SW SL 58 a b g ci di nx lv st h = some F) (hr : xRm R c0 z0 F.2.2.2) (k : xW p l e R s m args below meth c Q nL D aC base sp c0 z0 F) : xW p l e R s m args below meth c Q nL D aC base sp c0 z0 (pc, lv, st, h) := by
  simp only [xok, decide_eq_true_eq] at hk
  simp only [xsem] at hs
  obtain ⟨rfl, hdg⟩ := hk
  split at hs
  · rename_i j i r
    split at hs
    · rename_i t n hq
      split at hs
      · rename_i ht
        obtain ⟨⟨ht1, ht2⟩, hin⟩ := ht
        cases hs
        intro H locs ls cells slots hA
        have kk := k H locs ls cells slots hA
        simp only [List.map_cons, xv_rf] at kk
        have hw := xws_get (base := base) (aC := aC) hq
        rw [xce_r ht1] at hw
        have ht3 : t = 24 ∨ t = 25 ∨ t = 26 := by omega
        rcases ht3 with rfl | rfl | rfl
        · exact va_aldq C.1.1 C.1.2.1 C.2.2.1 hA.1 i 4 hw rfl hin hdg kk
        · exact va_aldq C.1.1 C.1.2.1 C.2.2.1 hA.1 i 5 hw rfl hin hdg kk
        · exact va_aldq C.1.1 C.1.2.1 C.2.2.1 hA.1 i 6 hw rfl hin hdg kk
      · cases hs
    · cases hs
  · cases hs
theorem xs_59 {pc a b g nx : Nat} {ci : Int32} {di : Int64} {lv : xL} {st : List Value} {h : xH} {F : xF} (C : xCtx p R s m args meth c cc nL own D aC base sp c0 dd ini X) (hk : xok own cc nL ini SW SL pc (59, a, b, g, ci, di, nx) = true) (hs : xsem X SW SL 59 a b g ci di nx lv st h = some F) (hr : xRm R c0 z0 F.2.2.2) (k : xW p l e R s m args below meth c Q nL D aC base sp c0 z0 F) : xW p l e R s m args below meth c Q nL D aC base sp c0 z0 (pc, lv, st, h) := by
  simp only [xok, decide_eq_true_eq] at hk
  simp only [xsem] at hs
  obtain ⟨rfl, hdg⟩ := hk
  split at hs
  · rename_i v j i r
    split at hs
    · rename_i t n hq
      split at hs
      · rename_i ht
        obtain ⟨rfl, hin⟩ := ht
        cases hs
        intro H locs ls cells slots hA
        exact va_iast C.1.1 C.1.2.1 C.2.2.1 hA.1 (xws_D base aC h) hA.2.1 i 0 (xws_get (base := base) (aC := aC) hq) rfl hin hdg (fun H1 locs1 hP1 _ hS1 => k H1 locs1 ls cells slots (xput_P hA rfl hq (fun j hj => ⟨xu_ne hj, rfl, rfl⟩) (by rw [xce_i (Or.inl rfl)]; simp only [xu_upd]) hP1 hS1))
      · cases hs
    · cases hs
  · cases hs
theorem xs_60 {pc a b g nx : Nat} {ci : Int32} {di : Int64} {lv : xL} {st : List Value} {h : xH} {F : xF} (C : xCtx p R s m args meth c cc nL own D aC base sp c0 dd ini X) (hk : xok own cc nL ini SW SL pc (60, a, b, g, ci, di, nx) = true) (hs : xsem X SW SL 60 a b g ci di nx lv st h = some F) (hr : xRm R c0 z0 F.2.2.2) (k : xW p l e R s m args below meth c Q nL D aC base sp c0 z0 F) : xW p l e R s m args below meth c Q nL D aC base sp c0 z0 (pc, lv, st, h) := by
  simp only [xok, decide_eq_true_eq] at hk
  simp only [xsem] at hs
  obtain ⟨rfl, hdg⟩ := hk
  split at hs
  · rename_i v j i r
    split at hs
    · rename_i t n hq
      split at hs
      · rename_i ht
        obtain ⟨rfl, hin⟩ := ht
        cases hs
        intro H locs ls cells slots hA
        exact va_last C.1.1 C.1.2.1 C.2.2.1 hA.1 (xws_D base aC h) hA.2.1 i 1 (xws_get (base := base) (aC := aC) hq) rfl hin hdg (fun H1 locs1 hP1 _ hS1 => k H1 locs1 ls cells slots (xput_P hA rfl hq (fun j hj => ⟨rfl, xu_ne hj, rfl⟩) (by rw [xce_l]; simp only [xu_updL]) hP1 hS1))
      · cases hs
    · cases hs
  · cases hs
theorem xs_61 {pc a b g nx : Nat} {ci : Int32} {di : Int64} {lv : xL} {st : List Value} {h : xH} {F : xF} (C : xCtx p R s m args meth c cc nL own D aC base sp c0 dd ini X) (hk : xok own cc nL ini SW SL pc (61, a, b, g, ci, di, nx) = true) (hs : xsem X SW SL 61 a b g ci di nx lv st h = some F) (hr : xRm R c0 z0 F.2.2.2) (k : xW p l e R s m args below meth c Q nL D aC base sp c0 z0 F) : xW p l e R s m args below meth c Q nL D aC base sp c0 z0 (pc, lv, st, h) := by
  simp only [xok, decide_eq_true_eq] at hk
  simp only [xsem] at hs
  obtain ⟨rfl, hdg⟩ := hk
  split at hs
  · rename_i v j i r
    split at hs
    · rename_i t n hq
      split at hs
      · rename_i ht
        obtain ⟨rfl, hin⟩ := ht
        cases hs
        intro H locs ls cells slots hA
        exact va_bast C.1.1 C.1.2.1 C.2.2.1 hA.1 (xws_D base aC h) hA.2.1 i 3 (xws_get (base := base) (aC := aC) hq) rfl hin hdg (fun H1 locs1 hP1 _ hS1 => k H1 locs1 ls cells slots (xput_P hA rfl hq (fun j hj => ⟨xu_ne hj, rfl, rfl⟩) (by rw [xce_i (Or.inr (Or.inr rfl))]; simp only [xu_upd, vp_nar_byte]) hP1 hS1))
      · cases hs
    · cases hs
  · cases hs
theorem xs_62 {pc a b g nx : Nat} {ci : Int32} {di : Int64} {lv : xL} {st : List Value} {h : xH} {F : xF} (C : xCtx p R s m args meth c cc nL own D aC base sp c0 dd ini X) (hk : xok own cc nL ini SW SL pc (62, a, b, g, ci, di, nx) = true) (hs : xsem X SW SL 62 a b g ci di nx lv st h = some F) (hr : xRm R c0 z0 F.2.2.2) (k : xW p l e R s m args below meth c Q nL D aC base sp c0 z0 F) : xW p l e R s m args below meth c Q nL D aC base sp c0 z0 (pc, lv, st, h) := by
  simp only [xok, decide_eq_true_eq] at hk
  simp only [xsem] at hs
  obtain ⟨rfl, hdg⟩ := hk
  split at hs
  · rename_i v j i r
    split at hs
    · rename_i t n hq
      split at hs
      · rename_i ht
        obtain ⟨⟨rfl, hv⟩, hin⟩ := ht
        cases hs
        intro H locs ls cells slots hA
        have hnar : vp_nar .boolean v = v := by rcases hv with rfl | rfl <;> decide +kernel
        exact va_zast C.1.1 C.1.2.1 C.2.2.1 hA.1 (xws_D base aC h) hA.2.1 i 2 (xws_get (base := base) (aC := aC) hq) rfl hin hdg (fun H1 locs1 hP1 _ hS1 => k H1 locs1 ls cells slots (xput_P hA rfl hq (fun j hj => ⟨xu_ne hj, rfl, rfl⟩) (by rw [xce_i (Or.inr (Or.inl rfl)), hnar]; simp only [xu_upd]) hP1 hS1))
      · cases hs
    · cases hs
  · cases hs
theorem xs_63 {pc a b g nx : Nat} {ci : Int32} {di : Int64} {lv : xL} {st : List Value} {h : xH} {F : xF} (C : xCtx p R s m args meth c cc nL own D aC base sp c0 dd ini X) (hk : xok own cc nL ini SW SL pc (63, a, b, g, ci, di, nx) = true) (hs : xsem X SW SL 63 a b g ci di nx lv st h = some F) (hr : xRm R c0 z0 F.2.2.2) (k : xW p l e R s m args below meth c Q nL D aC base sp c0 z0 F) : xW p l e R s m args below meth c Q nL D aC base sp c0 z0 (pc, lv, st, h) := by
  simp only [xok, decide_eq_true_eq] at hk
  simp only [xsem] at hs
  obtain ⟨rfl, hdg⟩ := hk
  split at hs
  · rename_i v j i r
    split at hs
    · rename_i t n tv nv hq hqv
      split at hs
      · rename_i ht
        obtain ⟨ht, hin⟩ := ht
        cases hs
        intro H locs ls cells slots hA
        have ht1 : 24 ≤ t := by omega
        have hw := xws_get (base := base) (aC := aC) hq
        rw [xce_r ht1] at hw
        have hwv := xws_get (base := base) (aC := aC) hqv
        rw [xce_og (by omega)] at hwv
        have fin : ∀ (H1 : Heap) (locs1 : List Loc), va_P D xcls ((xws base aC h).set i (base + i, .inl (aC t, n, .inr (.inr (.inr (.inr (va_up (fun j => (h.2.2.2 i j).map (base + ·)) j.toNatClampNeg (some (base + v))))))))) H1 → va_S (fun q => base ≤ q) s.heap H1 locs1 → W p l e R s m args below meth c H1 locs1 cells slots Q (F0 m (pc + 1) ls (r.map (xv base sp))) := by
          intro H1 locs1 hP1 hS1
          refine k H1 locs1 ls cells slots (xput_P hA rfl hq (fun j hj => ⟨rfl, rfl, xu_ne hj⟩) ?_ hP1 hS1)
          rw [xce_r ht1]
          congr 7
          funext z
          simp only [xu_row, va_up]
          split <;> simp
        rcases ht with ⟨rfl, rfl⟩ | ⟨rfl, rfl⟩ | ⟨rfl, rfl⟩
        · exact va_astq C.1.1 C.1.2.1 C.2.2.1 hA.1 (xws_D base aC h) hA.2.1 i 4 v 5 hw rfl hwv (xcls_at (by omega)) hin hdg (fun H1 locs1 hP1 _ hS1 => fin H1 locs1 hP1 hS1)
        · exact va_astq C.1.1 C.1.2.1 C.2.2.1 hA.1 (xws_D base aC h) hA.2.1 i 5 v 10 hw rfl hwv (xcls_at (by omega)) hin hdg (fun H1 locs1 hP1 _ hS1 => fin H1 locs1 hP1 hS1)
        · exact va_astq C.1.1 C.1.2.1 C.2.2.1 hA.1 (xws_D base aC h) hA.2.1 i 6 v 3 hw rfl hwv (xcls_at (by omega)) hin hdg (fun H1 locs1 hP1 _ hS1 => fin H1 locs1 hP1 hS1)
      · cases hs
    · cases hs
  · cases hs
theorem xs_64 {pc a b g nx : Nat} {ci : Int32} {di : Int64} {lv : xL} {st : List Value} {h : xH} {F : xF} (C : xCtx p R s m args meth c cc nL own D aC base sp c0 dd ini X) (hk : xok own cc nL ini SW SL pc (64, a, b, g, ci, di, nx) = true) (hs : xsem X SW SL 64 a b g ci di nx lv st h = some F) (hr : xRm R c0 z0 F.2.2.2) (k : xW p l e R s m args below meth c Q nL D aC base sp c0 z0 F) : xW p l e R s m args below meth c Q nL D aC base sp c0 z0 (pc, lv, st, h) := by
  simp only [xok, decide_eq_true_eq] at hk
  simp only [xsem] at hs
  obtain ⟨rfl, hdg⟩ := hk
  split at hs
  · rename_i i r
    split at hs
    · rename_i t n hq
      split at hs
      · rename_i ht
        cases hs
        intro H locs ls cells slots hA
        have hw := xws_get (base := base) (aC := aC) hq
        have ht3 : t = 20 ∨ t = 21 ∨ t = 22 ∨ t = 23 ∨ t = 24 ∨ t = 25 ∨ t = 26 := by omega
        rcases ht3 with rfl | rfl | rfl | rfl | rfl | rfl | rfl
        · exact va_alen C.1.1 C.1.2.1 C.2.2.1 hA.1 i 0 hw rfl rfl hdg (k H locs ls cells slots hA)
        · exact va_alen C.1.1 C.1.2.1 C.2.2.1 hA.1 i 1 hw rfl rfl hdg (k H locs ls cells slots hA)
        · exact va_alen C.1.1 C.1.2.1 C.2.2.1 hA.1 i 2 hw rfl rfl hdg (k H locs ls cells slots hA)
        · exact va_alen C.1.1 C.1.2.1 C.2.2.1 hA.1 i 3 hw rfl rfl hdg (k H locs ls cells slots hA)
        · exact va_alen C.1.1 C.1.2.1 C.2.2.1 hA.1 i 4 hw rfl rfl hdg (k H locs ls cells slots hA)
        · exact va_alen C.1.1 C.1.2.1 C.2.2.1 hA.1 i 5 hw rfl rfl hdg (k H locs ls cells slots hA)
        · exact va_alen C.1.1 C.1.2.1 C.2.2.1 hA.1 i 6 hw rfl rfl hdg (k H locs ls cells slots hA)
      · cases hs
    · cases hs
  · rename_i q r
    split at hs
    · rename_i hq0
      subst hq0
      cases hs
      intro H locs ls cells slots hA
      have hb0 : sp 0 < s.heap.size := by have := C.2.2.2.1; have := C.2.2.2.2.2.2.1.2; omega
      exact va_slen C.1.1 C.1.2.1 C.2.2.2.2.2.2.1.1 hb0 (Nat.not_le.mpr C.2.2.2.2.2.2.1.2) hA.2.1 hdg (k H locs ls cells slots hA)
    · split at hs
      · rename_i hc
        cases hs
        intro H locs ls cells slots hA
        have hE := (C.2.2.2.2.2.2.2.2.1.1 (q - 101) (by omega)).2.2.2
        simp only [show q - 101 + 101 = q by omega] at hE
        exact va_tlen C.1.1 C.1.2.1 hE hA.2.1 rfl hdg (k H locs ls cells slots hA)
      · cases hs
  · cases hs
end XS
