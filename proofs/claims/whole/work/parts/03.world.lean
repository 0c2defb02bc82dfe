/-! THE SMALL MACHINE'S HEAP AS THE KIT'S WORLD: the i-th cell lies at base + i -/
theorem xsem_le {X : xX} {SW : xSwT} {SL : xSwL} {op a b e : Nat} {c : Int32} {d : Int64} {nx : Nat} {l : xL} {st : List Value} {h : xH} {F : xF} (hs : xsem X SW SL op a b e c d nx l st h = some F) : xle h F.2.2.2 := by
  unfold xsem at hs
  split at hs
  all_goals first
    | (cases hs; done)
    | (cases hs; exact xle_rf _)
    | (cases hs; exact ⟨by simp, by simp [xsum_app]⟩)
    | (split at hs <;> first
        | (cases hs; done)
        | (cases hs; exact xle_rf _)
        | (split at hs <;> first
          | (cases hs; done)
          | (cases hs; exact xle_rf _)
          | (cases hs; exact ⟨by simp, by simp [xsum_app]⟩)
          | (split at hs <;> first
            | (cases hs; done)
            | (cases hs; exact xle_rf _)
            | (split at hs <;> first
              | (cases hs; done)
              | (cases hs; exact xle_rf _)))))
theorem xret_h {op : Nat} {st : List Value} {h : xH} {r : Option Value × xH} (hs : xret op st h = some r) : r.2 = h := by
  unfold xret at hs
  split at hs
  all_goals first
    | (cases hs; done)
    | (cases hs; rfl)
    | (split at hs <;> first | (cases hs; done) | (cases hs; rfl))
theorem xgo_le {X : xX} {SW : xSwT} {SL : xSwL} {T : Nat → Nat → Option xI} {M : xM} {call : Nat → List Value → xH → Option (Option Value × xH)} (hc : ∀ k as h r, call k as h = some r → xle h r.2) : ∀ (f k : Nat) (F : xF) (r : Option Value × xH), xgo X SW SL T M call f k F = some r → xle F.2.2.2 r.2 := by
  intro f
  induction f with
  | zero => intro k F r h; cases h
  | succ f ih =>
    intro k F r h
    rw [xgo] at h
    split at h
    · cases h
    · split at h
      · split at h
        · rename_i G hG
          exact xle_tr (xsem_le hG) (ih _ _ _ h)
        · cases h
      · split at h
        · split at h
          · split at h
            · rename_i q hq
              exact xle_tr (hc _ _ _ _ hq) (ih _ _ _ h)
            · cases h
          · cases h
        · rw [xret_h h]; exact xle_rf _
theorem xcall_le {X : xX} {SW : xSwT} {SL : xSwL} {T : Nat → Nat → Option xI} {M : xM} {f : Nat} : ∀ (d k : Nat) (as : List Value) (h : xH) (r : Option Value × xH), xcall X SW SL T M f d k as h = some r → xle h r.2 := by
  intro d
  induction d with
  | zero => intro k as h r hh; cases hh
  | succ d ih =>
    intro k as h r hh
    rw [xcall] at hh
    split at hh
    · exact xgo_le (fun k as h r hq => ih k as h r hq) _ _ _ _ hh
    · cases hh
def xv (base : Nat) (sp : Nat → Nat) : Value → Value
  | .ref i => .ref (base + i)
  | .retAddr j => .ref (sp j)
  | v => v
theorem xv_cat (base : Nat) (sp : Nat → Nat) (v : Value) : (xv base sp v).category = v.category := by cases v <;> rfl
def xcl (base : Nat) (sp : Nat → Nat) (l : xL) : xL := l.map (fun q => (q.1, xv base sp q.2))
theorem xcl_lk {base : Nat} {sp : Nat → Nat} {i : Nat} {v : Value} : ∀ {l : xL}, xlk l i = some v → ∃ k : Nat, (xcl base sp l)[k]? = some (i, xv base sp v) := by
  intro l
  induction l with
  | nil => intro h; cases h
  | cons q r ih =>
    intro h
    rw [xlk] at h
    split at h
    · rename_i hq
      cases h
      exact ⟨0, by simp [xcl, hq]⟩
    · obtain ⟨k, hk⟩ := ih h
      exact ⟨k + 1, by simpa [xcl] using hk⟩
theorem xcl_st (base : Nat) (sp : Nat → Nat) (l : xL) (i : Nat) (v : Value) : (i, xv base sp v) :: (xcl base sp l).filter (fun q => !(q.1 == i) && !(q.1 + 1 == i && q.2.category == 2)) = xcl base sp (xst l i v) := by
  simp only [xcl, xst, List.map_cons, List.filter_map]
  congr 2
  exact List.filter_congr (fun q _ => by simp [xv_cat])
theorem xcl_st2 (base : Nat) (sp : Nat → Nat) (l : xL) (i : Nat) (v : Value) : (i, xv base sp v) :: (xcl base sp l).filter (fun q => !(q.1 == i) && (!(q.1 == i + 1) && !(q.1 + 1 == i && q.2.category == 2))) = xcl base sp (xst2 l i v) := by
  simp only [xcl, xst2, List.map_cons, List.filter_map]
  congr 2
  exact List.filter_congr (fun q _ => by simp [xv_cat])
theorem xcl_args (base : Nat) (sp : Nat → Nat) : ∀ (vs : List Value) (k : Nat), lv_args k (vs.map (xv base sp)) = xcl base sp (lv_args k vs) := by
  intro vs
  induction vs with
  | nil => intro k; rfl
  | cons v r ih =>
    intro k
    simp only [List.map_cons, lv_args, xv_cat, ih, xcl]
theorem xsl_len (base : Nat) (sp : Nat → Nat) : ∀ vs : List Value, (lg_sl (vs.map (xv base sp))).length = (lg_sl vs).length := by
  intro vs
  induction vs with
  | nil => rfl
  | cons v r ih => cases v <;> simp_all [lg_sl, xv, Value.category]
theorem xcat_sum (base : Nat) (sp : Nat → Nat) (st : List Value) : ((st.map (xv base sp)).map fun v => v.category).sum = (st.map fun v => v.category).sum := by
  rw [List.map_map]
  congr 1
  exact List.map_congr_left (fun v _ => xv_cat base sp v)
/-- the classes, their numbers of slots, the kinds of these -/
abbrev xcls : List vw_C := [(RX0, TX0, 9), (RX1, TX1, 4), (RX2, TX2, 5), (RX3, TX3, 12), (RX4, TX4, 10), (RX5, TX5, 6), (RX6, TX6, 3), (RX7, TX7, 20), (RX8, TX8, 3), (RX9, TX9, 8), (RX10, TX10, 12), (RX11, TX11, 13), (RX12, TX12, 88)]
def xN : Nat → Nat := fun ci => match ci with
  | 0 => 9 | 1 => 4 | 2 => 5 | 3 => 12 | 4 => 10 | 5 => 6 | 6 => 3 | 7 => 20 | 8 => 3 | 9 => 8 | 10 => 12 | 11 => 13 | _ => 88
def xTT : Nat → u_T := fun ci => match ci with
  | 0 => TX0 | 1 => TX1 | 2 => TX2 | 3 => TX3 | 4 => TX4 | 5 => TX5 | 6 => TX6 | 7 => TX7 | 8 => TX8 | 9 => TX9 | 10 => TX10 | 11 => TX11 | _ => TX12
def xRR : Nat → String := fun ci => match ci with
  | 0 => RX0 | 1 => RX1 | 2 => RX2 | 3 => RX3 | 4 => RX4 | 5 => RX5 | 6 => RX6 | 7 => RX7 | 8 => RX8 | 9 => RX9 | 10 => RX10 | 11 => RX11 | _ => RX12
def xty : Nat → Nat → FieldType := fun ci => match ci with
  | 0 => tyX0 | 1 => tyX1 | 2 => tyX2 | 3 => tyX3 | 4 => tyX4 | 5 => tyX5 | 6 => tyX6 | 7 => tyX7 | 8 => tyX8 | 9 => tyX9 | 10 => tyX10 | 11 => tyX11 | _ => tyX12
theorem xcls_at {ci : Nat} (h : ci < 13) : xcls[ci]? = some (xRR ci, xTT ci, xN ci) := by
  have h2 : ci = 0 ∨ ci = 1 ∨ ci = 2 ∨ ci = 3 ∨ ci = 4 ∨ ci = 5 ∨ ci = 6 ∨ ci = 7 ∨ ci = 8 ∨ ci = 9 ∨ ci = 10 ∨ ci = 11 ∨ ci = 12 := by omega
  rcases h2 with rfl | rfl | rfl | rfl | rfl | rfl | rfl | rfl | rfl | rfl | rfl | rfl | rfl <;> rfl
theorem xty_ok {ci : Nat} (h : ci < 13) : ∀ k, k < xN ci → parseFieldDescriptor (xTT ci k).2.2.1 = some (xty ci k) := by
  have h2 : ci = 0 ∨ ci = 1 ∨ ci = 2 ∨ ci = 3 ∨ ci = 4 ∨ ci = 5 ∨ ci = 6 ∨ ci = 7 ∨ ci = 8 ∨ ci = 9 ∨ ci = 10 ∨ ci = 11 ∨ ci = 12 := by omega
  rcases h2 with rfl | rfl | rfl | rfl | rfl | rfl | rfl | rfl | rfl | rfl | rfl | rfl | rfl
  · exact tyX0_ok
  · exact tyX1_ok
  · exact tyX2_ok
  · exact tyX3_ok
  · exact tyX4_ok
  · exact tyX5_ok
  · exact tyX6_ok
  · exact tyX7_ok
  · exact tyX8_ok
  · exact tyX9_ok
  · exact tyX10_ok
  · exact tyX11_ok
  · exact tyX12_ok
theorem xnm_ok {ci : Nat} (h : ci < 13) : ∀ a, a < xN ci → ∀ b, b < xN ci → a ≠ b → (xTT ci a).2.1 ≠ (xTT ci b).2.1 := by
  have h2 : ci = 0 ∨ ci = 1 ∨ ci = 2 ∨ ci = 3 ∨ ci = 4 ∨ ci = 5 ∨ ci = 6 ∨ ci = 7 ∨ ci = 8 ∨ ci = 9 ∨ ci = 10 ∨ ci = 11 ∨ ci = 12 := by omega
  rcases h2 with rfl | rfl | rfl | rfl | rfl | rfl | rfl | rfl | rfl | rfl | rfl | rfl | rfl
  · exact nmX0
  · exact nmX1
  · exact nmX2
  · exact nmX3
  · exact nmX4
  · exact nmX5
  · exact nmX6
  · exact nmX7
  · exact nmX8
  · exact nmX9
  · exact nmX10
  · exact nmX11
  · exact nmX12
def xtc : FieldType → Nat
  | .long => 1
  | .object _ => 2
  | .array _ => 2
  | _ => 0
def xfv (base : Nat) (h : xH) (ci i k : Nat) : Value := match xtc (xty ci k) with
  | 0 => .int (h.2.1 i k)
  | 1 => .long (h.2.2.1 i k)
  | _ => va_rf ((h.2.2.2 i k).map (base + ·))
def xce (base : Nat) (aC : Nat → ClassId) (h : xH) (i : Nat) (q : Nat × Nat) : va_E :=
  if q.1 < 20 then .inr (q.1, (List.range (xN q.1)).map (xfv base h q.1 i))
  else .inl (aC q.1, q.2, if q.1 = 21 then .inr (.inl (h.2.2.1 i)) else if q.1 < 24 then .inl (h.2.1 i) else .inr (.inr (.inr (.inr (fun j => (h.2.2.2 i j).map (base + ·))))))
def xws (base : Nat) (aC : Nat → ClassId) (h : xH) : va_W := h.1.mapIdx (fun i q => (base + i, xce base aC h i q))
theorem xws_get {base : Nat} {aC : Nat → ClassId} {h : xH} {i : Nat} {q : Nat × Nat} (hi : h.1[i]? = some q) : (xws base aC h)[i]? = some (base + i, xce base aC h i q) := by
  simp [xws, List.getElem?_mapIdx, hi]
theorem xws_len (base : Nat) (aC : Nat → ClassId) (h : xH) : (xws base aC h).length = h.1.length := by simp [xws]
theorem xws_inv {base : Nat} {aC : Nat → ClassId} {h : xH} {i : Nat} {q : Nat × va_E} (hi : (xws base aC h)[i]? = some q) : ∃ r, h.1[i]? = some r ∧ q = (base + i, xce base aC h i r) := by
  simp only [xws, List.getElem?_mapIdx, Option.map_eq_some_iff] at hi
  obtain ⟨r, h1, h2⟩ := hi
  exact ⟨r, h1, h2.symm⟩
theorem xws_D (base : Nat) (aC : Nat → ClassId) (h : xH) : va_D (fun q => base ≤ q) (xws base aC h) := by
  refine ⟨fun i j p q hi hj hpq => ?_, fun k q hk => ?_⟩
  · obtain ⟨_, _, rfl⟩ := xws_inv hi
    obtain ⟨_, _, rfl⟩ := xws_inv hj
    have : base + i = base + j := hpq
    omega
  · obtain ⟨_, _, rfl⟩ := xws_inv hk
    exact Nat.le_add_right _ _
/-- one cell changed -/
theorem xws_set {base : Nat} {aC : Nat → ClassId} {h h' : xH} {i : Nat} {q : Nat × Nat} (hsh : h'.1 = h.1) (hi : h.1[i]? = some q) (hne : ∀ j r, j ≠ i → xce base aC h' j r = xce base aC h j r) : (xws base aC h).set i (base + i, xce base aC h' i q) = xws base aC h' := by
  apply List.ext_getElem?
  intro j
  by_cases hj : j = i
  · subst hj
    have hl : j < (xws base aC h).length := by rw [xws_len]; exact (List.getElem?_eq_some_iff.mp hi).1
    rw [List.getElem?_set_self hl, xws_get (h := h') (by rw [hsh]; exact hi)]
  · rw [List.getElem?_set_ne (Ne.symm hj)]
    simp only [xws, List.getElem?_mapIdx, hsh]
    cases h.1[j]? with
    | none => rfl
    | some r => simp [hne j r hj]
/-- one cell more -/
theorem xws_new {base : Nat} {aC : Nat → ClassId} {h h' : xH} {q : Nat × Nat} (hsh : h'.1 = h.1 ++ [q]) (hne : ∀ j r, j < h.1.length → xce base aC h' j r = xce base aC h j r) : xws base aC h ++ [(base + h.1.length, xce base aC h' h.1.length q)] = xws base aC h' := by
  simp only [xws, hsh, List.mapIdx_append]
  congr 1
  · apply List.ext_getElem?
    intro j
    simp only [List.getElem?_mapIdx]
    cases hj : h.1[j]? with
    | none => rfl
    | some r => simp [hne j r (List.getElem?_eq_some_iff.mp hj).1]
  · simp
theorem xce_congr {base : Nat} {aC : Nat → ClassId} {h h' : xH} {j : Nat} (e1 : h'.2.1 j = h.2.1 j) (e2 : h'.2.2.1 j = h.2.2.1 j) (e3 : h'.2.2.2 j = h.2.2.2 j) (r : Nat × Nat) : xce base aC h' j r = xce base aC h j r := by
  have e4 : xfv base h' r.1 j = xfv base h r.1 j := by funext k; simp only [xfv, e1, e2, e3]
  simp only [xce, e1, e2, e3, e4]
theorem xu_ne {α : Type} {I : Nat → Nat → α} {i k j : Nat} {v : α} (hj : j ≠ i) : xu I i k v j = I j := by funext m; simp [xu, hj]
theorem xz_ne {α : Type} {I : Nat → Nat → α} {i j : Nat} {v : α} (hj : j ≠ i) : xz I i v j = I j := by funext m; simp [xz, hj]
theorem xu_row {α : Type} (I : Nat → Nat → α) (i k : Nat) (v : α) (m : Nat) : xu I i k v i m = if m = k then v else I i m := by simp [xu]
theorem xce_o {base : Nat} {aC : Nat → ClassId} {h h' : xH} {i k n t : Nat} {v : Value} (ht : t < 20) (hk : k < xN t) (hv : xfv base h' t i k = v) (hne : ∀ m, m ≠ k → xfv base h' t i m = xfv base h t i m) : xce base aC h' i (t, n) = .inr (t, ((List.range (xN t)).map (xfv base h t i)).set k v) := by
  simp only [xce, if_pos ht]
  congr 2
  apply List.ext_getElem?
  intro j
  by_cases hl : j < xN t
  · by_cases hj : j = k
    · subst hj
      rw [List.getElem?_set_self (by simpa using hl)]
      simp [hl, hv]
    · rw [List.getElem?_set_ne (Ne.symm hj)]
      simp [hl, hne j hj]
  · rw [List.getElem?_eq_none (by simp; omega), List.getElem?_eq_none (by simp; omega)]
theorem xce_og {base : Nat} {aC : Nat → ClassId} {h : xH} {i n t : Nat} (ht : t < 20) : xce base aC h i (t, n) = .inr (t, (List.range (xN t)).map (xfv base h t i)) := by
  simp only [xce, if_pos ht]
theorem xrow_get {base : Nat} {h : xH} {i t k : Nat} (hk : k < xN t) : ((List.range (xN t)).map (xfv base h t i))[k]? = some (xfv base h t i k) := by simp [hk]
theorem xce_i {base : Nat} {aC : Nat → ClassId} {h : xH} {i n t : Nat} (ht : t = 20 ∨ t = 22 ∨ t = 23) : xce base aC h i (t, n) = .inl (aC t, n, .inl (h.2.1 i)) := by
  rcases ht with rfl | rfl | rfl <;> rfl
theorem xce_l {base : Nat} {aC : Nat → ClassId} {h : xH} {i n : Nat} : xce base aC h i (21, n) = .inl (aC 21, n, .inr (.inl (h.2.2.1 i))) := rfl
theorem xce_r {base : Nat} {aC : Nat → ClassId} {h : xH} {i n t : Nat} (ht : 24 ≤ t) : xce base aC h i (t, n) = .inl (aC t, n, .inr (.inr (.inr (.inr (fun j => (h.2.2.2 i j).map (base + ·)))))) := by
  simp only [xce, if_neg (show ¬ t < 20 by omega), if_neg (show ¬ t = 21 by omega), if_neg (show ¬ t < 24 by omega)]
theorem xu_upd (I : Nat → Nat → Int32) (i k : Nat) (v : Int32) : xu I i k v i = upd (I i) k v := by
  funext m
  simp [xu, upd]
theorem xu_updL (I : Nat → Nat → Int64) (i k : Nat) (v : Int64) : xu I i k v i = vp_updL (I i) k v := by
  funext m
  simp [xu, vp_updL]
abbrev xtys (aC : Nat → ClassId) : List (ClassId × FieldType) := [(aC 20, .int), (aC 21, .long), (aC 22, .boolean), (aC 23, .byte), (aC 24, .object RX5), (aC 25, .object RX10), (aC 26, .object RX3)]
/-- the words of the tables that stay true all through a run -/
def lw_good : List Cond := lw_tbl.filter goodWord
theorem xgd {w : Cond} (h : w ∈ lw_tbl) (hg : goodWord w = true) : w ∈ lw_good := List.mem_filter.mpr ⟨h, hg⟩
theorem lw_good_in : GoodIn lw_good lw_good := fun w h => ⟨h, good_of_word (List.mem_filter.mp h).2⟩
/-- the calls of a nest mate's private members -/
def xnest : List Cond := lw_tbl.filter (fun w => match w with | .methodLinkNest _ _ _ _ => true | _ => false)
theorem xnest_ok : ∀ w ∈ xnest, w.onTables = true := by
  intro w hw
  have h := (List.mem_filter.mp hw).2
  split at h
  · rfl
  · cases h
theorem xnest_warm {s U : State} (hW : s.WarmedH U.vm) (h : ∀ w ∈ xnest, va_Nw w s) : ∀ w ∈ xnest, va_Nw w U := by
  intro w hw
  have h1 := (List.mem_filter.mp hw).2
  have h2 := h w hw
  split at h1
  · exact va_Nw.warmM hW h2
  · cases h1
