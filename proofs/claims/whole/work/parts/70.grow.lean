/-! HEAPS that grow: a new Moment, a new World, a new Sea -/
section GW
/-- what lay there stays, and more lies behind it -/
def hgr (h g : xH) : Prop := (∃ e, g.1 = h.1 ++ e) ∧ ∀ p, p < h.1.length → g.2.1 p = h.2.1 p ∧ g.2.2.1 p = h.2.2.1 p ∧ g.2.2.2 p = h.2.2.2 p
theorem hgr.rf {h : xH} : hgr h h := ⟨⟨[], by simp⟩, fun p _ => ⟨rfl, rfl, rfl⟩⟩
theorem hgr.len {h g : xH} (q : hgr h g) : h.1.length ≤ g.1.length := by
  obtain ⟨⟨e, he⟩, -⟩ := q; rw [he]; simp
theorem hgr.sat {h g : xH} (q : hgr h g) {i : Nat} {t : Nat × Nat} (hi : h.1[i]? = some t) : g.1[i]? = some t := by
  obtain ⟨⟨e, he⟩, -⟩ := q
  rw [he, List.getElem?_append_left (List.getElem?_eq_some_iff.mp hi).1]; exact hi
theorem hgr.tr {a b c : xH} (h : hgr a b) (g : hgr b c) : hgr a c := by
  obtain ⟨⟨e, he⟩, h2x⟩ := h
  obtain ⟨⟨f, hf⟩, g2x⟩ := g
  refine ⟨⟨e ++ f, by rw [hf, he, List.append_assoc]⟩, fun p hp => ?_⟩
  obtain ⟨a1x, a2x, a3x⟩ := h2x p hp
  obtain ⟨b1x, b2x, b3x⟩ := g2x p (by rw [he]; simp; omega)
  exact ⟨b1x.trans a1x, b2x.trans a2x, b3x.trans a3x⟩
theorem hgr.ob {h g : xH} (q : hgr h g) {c n : Nat} : hgr h (xob c n g) := by
  have hl := q.len
  obtain ⟨⟨e, he⟩, h2x⟩ := q
  refine ⟨⟨e ++ [(c, n)], by show g.1 ++ [(c, n)] = _; rw [he, List.append_assoc]⟩, fun p hp => ?_⟩
  obtain ⟨a1x, a2x, a3x⟩ := h2x p hp
  exact ⟨(xz_ne (by omega)).trans a1x, (xz_ne (by omega)).trans a2x, (xz_ne (by omega)).trans a3x⟩
theorem hgr.add {h g : xH} (q : hgr h g) {i : Nat} {fs : List (Nat × Nat × Nat)} (hi : h.1.length ≤ i) : hgr h (xadd i fs g) := by
  have hl := q.len
  obtain ⟨⟨e, he⟩, h2x⟩ := q
  refine ⟨⟨e ++ fs.map (fun q => (q.2.1, q.2.2)), by rw [xadd_sh, he, List.append_assoc]⟩, fun p hp => ?_⟩
  obtain ⟨a1x, a2x, a3x⟩ := h2x p hp
  obtain ⟨b1x, b2x, b3x⟩ := xadd_old i fs g p (by omega)
  exact ⟨b1x.trans a1x, b2x.trans a2x, (b3x (by omega)).trans a3x⟩
theorem hgr.pR {h g : xH} (q : hgr h g) {i s v : Nat} (hi : h.1.length ≤ i) : hgr h (xpR i s v g) := by
  obtain ⟨h1x, h2x⟩ := q
  refine ⟨h1x, fun p hp => ?_⟩
  obtain ⟨a1x, a2x, a3x⟩ := h2x p hp
  exact ⟨a1x, a2x, (xu_ne (by omega)).trans a3x⟩
theorem hgr.pI {h g : xH} (q : hgr h g) {i s : Nat} {v : Int32} (hi : h.1.length ≤ i) : hgr h (xpI i s v g) := by
  obtain ⟨h1x, h2x⟩ := q
  refine ⟨h1x, fun p hp => ?_⟩
  obtain ⟨a1x, a2x, a3x⟩ := h2x p hp
  exact ⟨(xu_ne (by omega)).trans a1x, a2x, a3x⟩
theorem pw_drop {fs : List (Nat × Nat × Nat)} (hp : fs.Pairwise (fun a b => b.1 ≠ a.1)) {j : Nat} {q : Nat × Nat × Nat} (hq : fs[j]? = some q) : ∀ z ∈ fs.drop (j + 1), z.1 ≠ q.1 := by
  intro z hz
  obtain ⟨hj, hq⟩ := List.getElem?_eq_some_iff.mp hq
  have h1x := List.Pairwise.sublist (List.drop_sublist j fs) hp
  rw [List.drop_eq_getElem_cons hj, hq] at h1x
  exact (List.pairwise_cons.mp h1x).1 z hz
theorem xadd_all {i : Nat} {fs : List (Nat × Nat × Nat)} {h : xH} (hi : i < h.1.length) (hp : fs.Pairwise (fun a b => b.1 ≠ a.1)) : ∀ j q, fs[j]? = some q → (xadd i fs h).1[h.1.length + j]? = some (q.2.1, q.2.2) ∧ (xadd i fs h).2.2.2 i q.1 = some (h.1.length + j) := by
  intro j q hq
  refine ⟨?_, xadd_ref i fs h j q.1 hi (by rw [hq]; rfl) (pw_drop hp hq)⟩
  rw [xadd_sh, List.getElem?_append_right (by omega), show h.1.length + j - h.1.length = j by omega, List.getElem?_map, hq]; rfl
theorem xob_len {c n : Nat} {h : xH} : (xob c n h).1.length = h.1.length + 1 := by simp [xob]
def msh : List (Nat × Nat) := (3, 12) :: fs_mom.map (fun q => (q.2.1, q.2.2))
theorem mom_sh (j : Nat) (h : xH) : (mom_new j h).1 = h.1 ++ msh := by
  show (xadd h.1.length fs_mom (xob 3 12 h)).1 = _
  rw [xadd_sh]; simp [xob, msh]
theorem mom_len (j : Nat) (h : xH) : (mom_new j h).1.length = h.1.length + 9 := by
  rw [mom_sh, List.length_append]; rfl
theorem fs_mom_0 : ∀ (j : Nat) (q : Nat × Nat × Nat), fs_mom[j]? = some q → q.1 ≠ 0 := by
  intro j q hq
  have : ∀ z ∈ fs_mom, z.1 ≠ 0 := by decide
  exact this q (List.mem_of_getElem? hq)
theorem mom_new_at (j : Nat) (h : xH) : MomAt (mom_new j h).1 (mom_new j h).2.2.2 h.1.length := by
  refine ⟨mom_at j h, fun t q hq => ?_⟩
  obtain ⟨a1x, a2x⟩ := xadd_all (i := h.1.length) (fs := fs_mom) (h := xob 3 12 h) (by rw [xob_len]; omega) (by decide) t q hq
  rw [xob_len] at a1x a2x
  exact ⟨a1x, (xu_o (Or.inr (fs_mom_0 t q hq))).trans a2x⟩
theorem mom_hgr {h g : xH} (q : hgr h g) {j : Nat} : hgr h (mom_new j g) := (q.ob.add q.len).pR q.len
theorem MomAt.gr {sh sh' : List (Nat × Nat)} {R R' : Nat → Nat → Option Nat} {m : Nat} (h : MomAt sh R m) (hs : ∃ e, sh' = sh ++ e) (hR : R' m = R m) : MomAt sh' R' m := by
  obtain ⟨e, rfl⟩ := hs
  have up : ∀ {i : Nat} {t : Nat × Nat}, sh[i]? = some t → (sh ++ e)[i]? = some t := fun {i t} hi => by
    rw [List.getElem?_append_left (List.getElem?_eq_some_iff.mp hi).1]; exact hi
  refine ⟨up h.1, fun t q hq => ⟨up (h.2 t q hq).1, ?_⟩⟩
  rw [hR]; exact (h.2 t q hq).2
theorem SeaAt.gr {sh sh' : List (Nat × Nat)} {R R' : Nat → Nat → Option Nat} {s : Nat} (h : SeaAt sh R s) (hs : ∃ e, sh' = sh ++ e) (hR : R' s = R s) : SeaAt sh' R' s := by
  obtain ⟨e, rfl⟩ := hs
  have up : ∀ {i : Nat} {t : Nat × Nat}, sh[i]? = some t → (sh ++ e)[i]? = some t := fun {i t} hi => by
    rw [List.getElem?_append_left (List.getElem?_eq_some_iff.mp hi).1]; exact hi
  refine ⟨up h.1, fun t q hq => ⟨up (h.2 t q hq).1, ?_⟩⟩
  rw [hR]; exact (h.2 t q hq).2
theorem past_sh (p j : Nat) : ∀ (m k : Nat) (h : xH), (past_new p j m k h).1 = h.1 ++ (List.replicate m msh).flatten := by
  intro m
  induction m with
  | zero => intro k h; simp [past_new]
  | succ m ih =>
    intro k h
    rw [past_new, ih]
    show (mom_new j h).1 ++ _ = _
    rw [mom_sh, List.replicate_succ, List.flatten_cons, List.append_assoc]
theorem past_spec (p j : Nat) : ∀ (m k : Nat) (h : xH), p < h.1.length → (∀ x, x < h.1.length → (past_new p j m k h).2.1 x = h.2.1 x ∧ (past_new p j m k h).2.2.1 x = h.2.2.1 x ∧ (x ≠ p → (past_new p j m k h).2.2.2 x = h.2.2.2 x)) ∧ (∀ i, i < k → (past_new p j m k h).2.2.2 p i = h.2.2.2 p i) ∧ ∀ i, i < m → (past_new p j m k h).2.2.2 p (k + i) = some (h.1.length + 9 * i) ∧ MomAt (past_new p j m k h).1 (past_new p j m k h).2.2.2 (h.1.length + 9 * i) := by
  intro m
  induction m with
  | zero => intro k h hp; exact ⟨fun x _ => ⟨rfl, rfl, fun _ => rfl⟩, fun i _ => rfl, fun i hi => absurd hi (by omega)⟩
  | succ m ih =>
    intro k h hp
    have hl : (xpR p k h.1.length (mom_new j h)).1.length = h.1.length + 9 := mom_len j h
    obtain ⟨i1x, i2x, i3x⟩ := ih (k + 1) (xpR p k h.1.length (mom_new j h)) (by rw [hl]; omega)
    have hg : hgr h (mom_new j h) := mom_hgr hgr.rf
    have e : past_new p j (m + 1) k h = past_new p j m (k + 1) (xpR p k h.1.length (mom_new j h)) := rfl
    rw [← e] at i1x i2x i3x
    refine ⟨fun x hx => ?_, fun i hi => ?_, fun i hi => ?_⟩
    · obtain ⟨a1x, a2x, a3x⟩ := i1x x (by rw [hl]; omega)
      obtain ⟨b1x, b2x, b3x⟩ := hg.2 x hx
      exact ⟨a1x.trans b1x, a2x.trans b2x, fun hn => (a3x hn).trans ((xu_ne hn).trans b3x)⟩
    · refine (i2x i (by omega)).trans ?_
      refine (xu_o (Or.inr (by omega))).trans ?_
      exact congrFun (hg.2 p hp).2.2 i
    · by_cases e0x : i = 0
      · subst e0x
        refine ⟨(i2x k (by omega)).trans xu_at, ?_⟩
        rw [Nat.mul_zero, Nat.add_zero]
        refine (mom_new_at j h).gr ⟨(List.replicate m msh).flatten, ?_⟩ ?_
        · rw [e, past_sh]; rfl
        · exact ((i1x h.1.length (by rw [hl]; omega)).2.2 (by omega)).trans (xu_ne (by omega))
      · obtain ⟨c1x, c2x⟩ := i3x (i - 1) (by omega)
        rw [hl, show k + 1 + (i - 1) = k + i by omega, show h.1.length + 9 + 9 * (i - 1) = h.1.length + 9 * i by omega] at c1x
        rw [hl, show h.1.length + 9 + 9 * (i - 1) = h.1.length + 9 * i by omega] at c2x
        exact ⟨c1x, c2x⟩
/-- a new world's cells -/
def wsh : List (Nat × Nat) := [(10, 12), (26, 20), (20, 10), (20, 10), (20, 10), (20, 10), (20, 10), (2, 5), (20, 6), (20, 6), (20, 6), (20, 64)] ++ msh ++ (List.replicate 20 msh).flatten
theorem wsh_len : wsh.length = 201 ∧ xsum wsh = 1429 := by decide +kernel
def world_new (j : Nat) (h : xH) : xH := world_init h.1.length j (xob 10 12 h)
theorem world_spec (j : Nat) (h : xH) : (world_new j h).1 = h.1 ++ wsh ∧ hgr h (world_new j h) ∧ WSh (world_new j h).1 (world_new j h).2.2.2 h.1.length (fun i => i) := by
  generalize hn : h.1.length = n
  obtain ⟨h1x, e1x⟩ : ∃ q, q = xone n 1 26 20 (xob 10 12 h) := ⟨_, rfl⟩
  obtain ⟨h2x, e2x⟩ : ∃ q, q = xadd n [(4, 20, 10), (5, 20, 10), (7, 20, 10), (8, 20, 10), (9, 20, 10)] h1x := ⟨_, rfl⟩
  have l1x : h1x.1.length = n + 2 := by rw [e1x, xone_len, xob_len, hn]
  have l2x : h2x.1.length = n + 7 := by rw [e2x, xadd_len, l1x]; rfl
  obtain ⟨h3x, e3x⟩ : ∃ q, q = xpR n 10 h2x.1.length (fleet_new h2x) := ⟨_, rfl⟩
  have l3x : h3x.1.length = n + 12 := by
    rw [e3x]; show (xadd h2x.1.length fs_fleet (xob 2 5 h2x)).1.length = _
    rw [xadd_len, xob_len, l2x]; rfl
  obtain ⟨h4x, e4x⟩ : ∃ q, q = xpR n 0 h3x.1.length (mom_new j h3x) := ⟨_, rfl⟩
  have l4x : h4x.1.length = n + 21 := by rw [e4x]; show (mom_new j h3x).1.length = _; rw [mom_len, l3x]
  have ew : world_new j h = past_new (n + 1) j 20 0 h4x := by
    rw [e4x, e3x, e2x, e1x]; unfold world_new world_init; rw [hn, xob_len, hn]
  have s1x : h1x.1 = h.1 ++ [(10, 12), (26, 20)] := by rw [e1x]; simp [xone, xob]
  have s2x : h2x.1 = h.1 ++ [(10, 12), (26, 20), (20, 10), (20, 10), (20, 10), (20, 10), (20, 10)] := by rw [e2x, xadd_sh, s1x]; simp
  have s3x : h3x.1 = h.1 ++ [(10, 12), (26, 20), (20, 10), (20, 10), (20, 10), (20, 10), (20, 10), (2, 5), (20, 6), (20, 6), (20, 6), (20, 64)] := by
    rw [e3x]; show (xadd h2x.1.length fs_fleet (xob 2 5 h2x)).1 = _
    rw [xadd_sh]; show (h2x.1 ++ [(2, 5)]) ++ _ = _; rw [s2x]; simp [fs_fleet]
  have s4x : h4x.1 = h3x.1 ++ msh := by rw [e4x]; exact mom_sh j h3x
  have sw : (world_new j h).1 = h.1 ++ wsh := by
    rw [ew, past_sh, s4x, s3x]; simp [wsh]
  have g1x : hgr h h1x := by rw [e1x]; exact hgr.add (fs := [(1, 26, 20)]) hgr.rf.ob (by omega)
  have g2x : hgr h h2x := by rw [e2x]; exact g1x.add (by omega)
  have g3x : hgr h h3x := by rw [e3x]; exact (g2x.ob.add (by omega)).pR (by omega)
  have g4x : hgr h h4x := by rw [e4x]; exact (mom_hgr g3x).pR (by omega)
  obtain ⟨p1x, p2x, p3x⟩ := past_spec (n + 1) j 20 0 h4x (by omega)
  rw [← ew] at p1x p2x p3x
  have gw : hgr h (world_new j h) := by
    refine ⟨⟨wsh, sw⟩, fun x hx => ?_⟩
    obtain ⟨a1x, a2x, a3x⟩ := p1x x (by omega)
    obtain ⟨b1x, b2x, b3x⟩ := g4x.2 x hx
    exact ⟨a1x.trans b1x, a2x.trans b2x, (a3x (by omega)).trans b3x⟩
  have at_ : ∀ c t, wsh[c]? = some t → (world_new j h).1[n + c]? = some t := fun c t hc => by
    rw [sw, List.getElem?_append_right (by omega), show n + c - h.1.length = c by omega]; exact hc
  -- the world's own fields
  have rn : ∀ k, (world_new j h).2.2.2 n k = h4x.2.2.2 n k := fun k => congrFun ((p1x n (by omega)).2.2 (by omega)) k
  have r4x : ∀ k, k ≠ 0 → h4x.2.2.2 n k = h3x.2.2.2 n k := fun k hk => by
    rw [e4x]; exact (xu_o (Or.inr hk)).trans (congrFun ((mom_hgr (h := h3x) hgr.rf (j := j)).2 n (by omega)).2.2 k)
  have r3x : ∀ k, k ≠ 10 → h3x.2.2.2 n k = h2x.2.2.2 n k := fun k hk => by
    rw [e3x]; exact (xu_o (Or.inr hk)).trans (congrFun ((((hgr.rf (h := h2x)).ob (c := 2) (n := 5)).add (i := h2x.1.length) (fs := fs_fleet) (Nat.le_refl _)).2 n (by omega)).2.2 k)
  have f0x : (world_new j h).2.2.2 n 0 = some (n + 12) := by
    rw [rn, e4x]; show xu _ n 0 (some h3x.1.length) n 0 = _; rw [xu_at, l3x]
  have f10x : (world_new j h).2.2.2 n 10 = some (n + 7) := by
    rw [rn, r4x 10 (by decide), e3x]; show xu _ n 10 (some h2x.1.length) n 10 = _; rw [xu_at, l2x]
  have f1x : (world_new j h).2.2.2 n 1 = some (n + 1) := by
    rw [rn, r4x 1 (by decide), r3x 1 (by decide), e2x, xadd_keep n _ h1x 1 (by omega) (by decide), e1x]
    show xu _ n 1 (some (xob 10 12 h).1.length) n 1 = _; rw [xu_at, xob_len, hn]
  have fa : ∀ t q, [(4, 20, 10), (5, 20, 10), (7, 20, 10), (8, 20, 10), (9, 20, 10)][t]? = some q → q.1 ≠ 0 → q.1 ≠ 10 → (world_new j h).2.2.2 n q.1 = some (n + 2 + t) := fun t q hq h0x h10x => by
    rw [rn, r4x _ h0x, r3x _ h10x, e2x, (xadd_all (i := n) (h := h1x) (fs := [(4, 20, 10), (5, 20, 10), (7, 20, 10), (8, 20, 10), (9, 20, 10)]) (by omega) (by decide) t q hq).2, l1x]
  -- the fleet's
  have ff : ∀ t q, fs_fleet[t]? = some q → (world_new j h).2.2.2 (n + 7) q.1 = some (n + 8 + t) := fun t q hq => by
    rw [(p1x (n + 7) (by omega)).2.2 (by omega), e4x]
    show xu _ n 0 _ (n + 7) q.1 = _
    rw [xu_o (Or.inl (by omega)), (((mom_hgr (h := h3x) hgr.rf (j := j)).2 (n + 7) (by omega)).2.2), e3x]
    show xu _ n 10 _ (n + 7) q.1 = _
    rw [xu_o (Or.inl (by omega))]
    have := (xadd_all (i := h2x.1.length) (h := xob 2 5 h2x) (fs := fs_fleet) (by rw [xob_len]; omega) (by decide) t q hq).2
    rw [xob_len, l2x] at this
    show (xadd h2x.1.length fs_fleet (xob 2 5 h2x)).2.2.2 (n + 7) q.1 = _
    rw [l2x]; exact this
  -- its moments
  have m0x : MomAt (world_new j h).1 (world_new j h).2.2.2 (n + 12) := by
    have a := mom_new_at j h3x
    rw [l3x] at a
    have a4x : MomAt h4x.1 h4x.2.2.2 (n + 12) := a.gr ⟨[], by rw [e4x]; simp [xpR]⟩ (by rw [e4x]; exact xu_ne (by omega))
    exact a4x.gr ⟨_, by rw [ew, past_sh]⟩ ((p1x (n + 12) (by omega)).2.2 (by omega))
  refine ⟨sw, gw, ⟨at_ 0 _ rfl, f0x, ⟨at_ 1 _ rfl, f1x⟩, ⟨at_ 2 _ rfl, fa 0 _ rfl (by decide) (by decide)⟩, ⟨at_ 3 _ rfl, fa 1 _ rfl (by decide) (by decide)⟩, ⟨at_ 4 _ rfl, fa 2 _ rfl (by decide) (by decide)⟩, ⟨at_ 5 _ rfl, fa 3 _ rfl (by decide) (by decide)⟩, ⟨at_ 6 _ rfl, fa 4 _ rfl (by decide) (by decide)⟩, ⟨at_ 7 _ rfl, f10x⟩, ⟨at_ 8 _ rfl, ff 0 _ rfl⟩, ⟨at_ 9 _ rfl, ff 1 _ rfl⟩, ⟨at_ 10 _ rfl, ff 2 _ rfl⟩, at_ 11 _ rfl, ff 3 _ rfl⟩, m0x, fun i hi => ⟨hi, ?_⟩, fun i j _ _ e => e, fun i hi => ?_⟩
  · have := (p3x i hi).1; rw [l4x, Nat.zero_add] at this; exact this
  · have := (p3x i hi).2; rw [l4x] at this; exact this
/-- a new sea's cells -/
def ssh : List (Nat × Nat) := (7, 20) :: fs_sea.map (fun q => (q.2.1, q.2.2))
theorem ssh_len : ssh.length = 13 ∧ xsum ssh = 140 := by decide +kernel
theorem fs_sea_0 : ∀ (j : Nat) (q : Nat × Nat × Nat), fs_sea[j]? = some q → q.1 ≠ 0 := by
  intro j q hq
  have : ∀ z ∈ fs_sea, z.1 ≠ 0 := by decide
  exact this q (List.mem_of_getElem? hq)
theorem sea_spec (h : xH) : (sea_new h).1 = h.1 ++ ssh ∧ hgr h (sea_new h) ∧ SeaAt (sea_new h).1 (sea_new h).2.2.2 h.1.length := by
  have sw : (sea_new h).1 = h.1 ++ ssh := by
    show (xadd h.1.length fs_sea (xob 7 20 h)).1 = _
    rw [xadd_sh]; simp [xob, ssh]
  refine ⟨sw, ((hgr.rf.ob.add (Nat.le_refl _)).pI (Nat.le_refl _)).pI (Nat.le_refl _), ?_, fun t q hq => ?_⟩
  · rw [sw, List.getElem?_append_right (Nat.le_refl _), Nat.sub_self]; rfl
  · obtain ⟨a1x, a2x⟩ := xadd_all (i := h.1.length) (fs := fs_sea) (h := xob 7 20 h) (by rw [xob_len]; omega) (by decide) t q hq
    rw [xob_len] at a1x a2x
    exact ⟨a1x, a2x⟩
end GW
