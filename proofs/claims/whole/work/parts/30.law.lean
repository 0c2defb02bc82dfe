/-! THE CLAIM OUT OF ONE WALK OF THE LAW'S BODY. Your part is whole_start (and what it stands on); all else here is the same for every law, but numbers. -/
def R_law : String := "DuneRoadLaw"
def lw_P (b : Addr) (xs : List Int32) (args : Array Value) (s : State) : Prop := args = #[.ref b] ∧ s.IntsAt b xs ∧ xs.length ≤ 3072 ∧ (Jvm.Cond.and given_1 narrow_1).before args s = true
def lw_Q (_ : Array Value) (s : State) (o : Outcome) (t : State) : Prop := o = .returned (some (.int 1)) ∧ Framed s o t [] 600000 7302250
def lw_Z (below : List Frame) (a : Array Value) (s : State) : State → Prop := fun t => ∃ o, t.status = .running ∧ Ended t below o ∧ lw_Q a s o t
/-- the law's own end, with 1 on the stack, nothing written that was there before, its room as the claim has it -/
theorem lw_ret {p : Program} {l : Launch} {e : Env} {s : State} {m : MethodId} {below : List Frame} {meth : Method} {c : Code} {b : Nat} (hx : p.tables.exec = Jvm.exec) (hb : c.code = code) (hr : meth.sig.returnType = ret) (hlocks : meth.locks = false) {pc : Nat} {H : Heap} {ls : Array Slot} (hdg : decode code pc = .ok (.ireturn, 1)) : W p l e room_1 s m #[Value.ref b] below meth c H [] 600000 7302250 (lw_Z below #[Value.ref b] s) (F0 m pc ls [.int 1]) := by
  intro T hT X
  obtain ⟨fs, hret, hrun, hended, hW, hframe⟩ := X.leave (v := some (.int 1)) (hlocks := hlocks) (fun h => by rw [hr] at h; cases h)
  have hmeth' : T.vm.method? m = some meth := X.method'
  refine ⟨T.setFrames fs, ?_, .returned (some (.int 1)), hrun, hended, rfl, ⟨_, rfl⟩, hW, hframe⟩
  jvm_step X.here [X.here.top, hx, hb, hdg, hmeth', hr, ret, narrow_b1]
  (try refine ⟨rfl, ?_⟩); (try refine ⟨rfl, ?_⟩)
  first | (intro acts; rw [hret _ acts rfl rfl rfl]) | rw [hret _ _ rfl rfl rfl]
  exact Steps.refl _
/-- what holds at the law's entry: the machine, the code, the tables' words (any of lw_tbl by 'hts w (by decide +kernel)'), the script of L ints xs at the cell b, what the Statement gives of the start (any of its parts by flat_of_before) -/
def lw_At (p : Program) (s : State) (m : MethodId) (meth : Method) (c : Code) (b L : Nat) (xs : Nat → Int32) : Prop :=
  p.tables.exec = Jvm.exec ∧ c.code = code ∧ meth.sig.returnType = ret ∧ c.maxLocals = 4 ∧ s.vm.findClass R_law = some m.cls ∧ (∀ w ∈ lw_tbl, w.before #[Value.ref b] s = true) ∧ va_X b L xs s s.heap ∧ b < s.heap.size ∧ meth.locks = false ∧ (Jvm.Cond.and given_1 narrow_1).before #[Value.ref b] s = true
/-! THE LAW OUT OF A RUN OF THE SMALL MACHINE -/
/-- the methods that are called -/
def xTc (k pc : Nat) : Option xI := cond (Nat.beq k 0) none (cond (Nat.ble 327 k) none (xTb k pc))
theorem xTc_ok {k pc : Nat} {i : xI} (h : xTc k pc = some i) : k ≠ 0 ∧ k < 327 ∧ xTb k pc = some i := by
  unfold xTc at h
  cases h0 : Nat.beq k 0 with
  | true => rw [h0] at h; cases h
  | false =>
    rw [h0] at h
    cases h1 : Nat.ble 327 k with
    | true => rw [h1] at h; cases h
    | false =>
      rw [h1] at h
      refine ⟨fun q => ?_, Nat.lt_of_not_le (fun q => ?_), h⟩
      · subst q; cases h0
      · rw [Nat.ble_eq_true_of_le q] at h1; cases h1
theorem xTc_isM {k : Nat} {i : xI} (h : xTc k 0 = some i) : xisM k = true := by
  obtain ⟨h0, h1, -⟩ := xTc_ok h
  by_cases hm : k = 313 ∨ k = 314 ∨ k = 321 ∨ k = 322 ∨ k = 323 ∨ k = 324
  · exfalso
    rcases hm with rfl | rfl | rfl | rfl | rfl | rfl <;> cases h
  · simp only [xisM, Bool.and_eq_true, decide_eq_true_eq]
    refine ⟨h1, ?_⟩
    simp only [List.contains_eq_mem, List.mem_cons, List.not_mem_nil, or_false]
    simp [h0, hm]
theorem xmetb {X : xX} {f : Nat} : ∀ (d k : Nat) (as : List Value) (h : xH) (r : Option Value × xH), xcall X xSWb xSLb xTc xMb f d k as h = some r → xMt X xYb d k as h r.1 r.2 := by
  refine xmet (fun k pc i hi => ?_) (fun k i hi => ?_)
  · obtain ⟨h0, h1, h2⟩ := xTc_ok hi
    exact xall_of (xalls k h1) pc i h2
  · obtain ⟨m1, m2, m3, m4, -⟩ := xmf_ok (xheads k (xTc_isM hi))
    exact ⟨m2, m3, m4⟩
/-- the empty heap -/
def xh0 : xH := ([], fun _ _ => 0, fun _ _ => 0, fun _ _ => none)
theorem xenv_at {p : Program} {s : State} {m : MethodId} {meth : Method} {c : Code} {b L : Nat} {xs : Nat → Int32} (C0 : lw_At p s m meth c b L xs) : ∃ (D : va_G) (aC : Nat → ClassId) (sp : Nat → Nat) (g : Bool), sp 0 = b ∧ va_K D xcls (xtys aC) s ∧ xEnv s.heap.size sp (L, xs, g) s s.heap := by
  obtain ⟨hx, hb, hr, hml, hown, hts, hX, hbl, hlocks, hgv⟩ := C0
  have hfl := flat_of_before _ hgv
  have hA : ∀ a : Nat, a < s.heap.size → ¬ (fun q : Nat => s.heap.size ≤ q) a := fun a h q => by have q : s.heap.size ≤ a := q; omega
  -- classes
  have key : ∀ ci : Nat, ∃ q : ClassId × (Nat → Nat), ci < 13 → u_Kn s (xRR ci) (xTT ci) (xN ci) q.1 q.2 := by
    intro ci
    by_cases h : ci < 13
    · obtain ⟨cC, iS, hk⟩ := u_known (C := xRR ci) (T := xTT ci) (N := xN ci) (n := xN ci) hts (xin_t h) (hts _ (xinst h))
      exact ⟨(cC, iS), fun _ => hk⟩
    · exact ⟨(0, fun _ => 0), fun q => absurd q h⟩
  obtain ⟨fD, hfD⟩ := Classical.axiomOfChoice key
  -- arrays
  have keyA : ∀ t : Nat, ∃ cA : ClassId, (20 ≤ t ∧ t ≤ 23 → ArrOfT s cA (newarray.typeOf (xat t)) ∧ s.vm.findClass ("[" ++ (newarray.typeOf (xat t)).toString) = some cA) ∧ (24 ≤ t ∧ t ≤ 26 → ArrOfT s cA (.object (xan t)) ∧ va_RA s cA (.object (xan t))) := by
    intro t
    by_cases h1 : 20 ≤ t ∧ t ≤ 23
    · obtain ⟨cA, kA, comp, e1, e2, e3⟩ := Cond.arrayClass_spec (hts _ (xarrA h1))
      exact ⟨cA, fun _ => ⟨fun n z => ⟨fun k h => (by cases h), kA, e2, comp, e3⟩, e1⟩, fun q => by omega⟩
    · by_cases h2 : 24 ≤ t ∧ t ≤ 26
      · obtain ⟨comp, cA, kA, e1, e2, e3, e4, e5⟩ := Cond.arrayOver_spec (hts _ (xarrO h2))
        exact ⟨cA, fun q => by omega, fun _ => ⟨fun n z => ⟨fun k h => (by cases h), kA, e3, comp, e4⟩, kA, comp, e3, e4, e1, e5⟩⟩
      · exact ⟨0, fun q => absurd q h1, fun q => absurd q h2⟩
  obtain ⟨aC, haC⟩ := Classical.axiomOfChoice keyA
  -- texts
  obtain ⟨adK, adV, hS, hT⟩ := vk_Sof (args := #[Value.ref b]) (s := s) (N := 23) (tm := xtm) (len := xlen) (byt := xtx) (A := fun q : Nat => s.heap.size ≤ q) (by decide) (fun i hi => hfl _ (xt_ex i hi)) (fun i hi => hfl _ (xt_co i hi)) (fun i hi => hfl _ (xt_ar i hi)) (fun i hi => hfl _ (xt_le i hi))
    (fun i hi j hj => by
      by_cases h0 : i = 0
      · subst h0
        by_cases h1 : j < 70
        · exact hfl _ (xt_el0 j h1)
        · have h2 := xt_el1 (j - 70) (by have : j < 132 := hj; omega)
          rw [show 70 + (j - 70) = j by omega] at h2
          exact hfl _ h2
      · have h2 := xt_el2 (i - 1) (by omega) j (by rw [show i - 1 + 1 = i by omega]; exact hj)
        rw [show i - 1 + 1 = i by omega] at h2
        exact hfl _ h2)
    (fun i j hi hj hij => by
      by_cases h1 : j < i
      · exact Or.inr (hfl _ (xt_ne i hi j h1))
      · exact Or.inl (hfl _ (xt_ne j hj i (by omega)))) hA
  have hcs := va_Zof (A := fun q : Nat => s.heap.size ≤ q) (hts _ xt_l1) (hts _ xt_i1) (va_eqi (hfl _ xt_cs)) hA
  have hfm := va_Zqof (A := fun q : Nat => s.heap.size ≤ q) (hts _ xt_l2) (hts _ xt_i2) (hfl _ xt_fm) hA
  obtain ⟨g, t, hg⟩ : ∃ (g : Bool) (t : Nat), va_Z "jdk/internal/util/Preconditions" "SIOOBE_FORMATTER" "Ljava/util/function/BiFunction;" (if g = true then .null else .ref t) (fun q : Nat => s.heap.size ≤ q) s s.heap := by
    rcases hfm with h | ⟨t, h⟩
    · exact ⟨true, 0, h⟩
    · exact ⟨false, t, h⟩
  refine ⟨(fun ci => (fD ci).1, fun ci => (fD ci).2), aC, fun j => if j = 0 then b else if j < 100 then adK (j - 1) else if j < 200 then adV (j - 101) else t, g, rfl, ⟨?_, ?_⟩, ⟨hX, hbl⟩, ?_, ?_, hcs, ?_, ?_, ?_⟩
  · intro ci q hq
    have hlt : ci < 13 := (List.getElem?_eq_some_iff.mp hq).1
    rw [xcls_at hlt] at hq
    cases hq
    exact hfD ci hlt
  · intro k q hq
    match k, hq with
    | 0, hq => cases hq; exact (haC 20).1 (by omega)
    | 1, hq => cases hq; exact (haC 21).1 (by omega)
    | 2, hq => cases hq; exact (haC 22).1 (by omega)
    | 3, hq => cases hq; exact (haC 23).1 (by omega)
    | 4, hq => cases hq; exact (haC 24).2 (by omega)
    | 5, hq => cases hq; exact (haC 25).2 (by omega)
    | 6, hq => cases hq; exact (haC 26).2 (by omega)
    | k + 7, hq => cases hq
  · intro j q hq
    have hlt : j < 23 := (List.getElem?_eq_some_iff.mp hq).1
    have e1 : xstr.getD j ("", 0, "") = q := by simp [List.getD, hq]
    have h1 := xt_sr j hlt
    have h2 := hT j hlt
    unfold xtm at h2
    rw [e1] at h1 h2
    have h3 : (if j + 1 = 0 then b else if j + 1 < 100 then adK (j + 1 - 1) else if j + 1 < 200 then adV (j + 1 - 101) else t) = adK j := by
      rw [if_neg (by omega), if_pos (by omega), Nat.add_sub_cancel]
    show vk_R q.1 q.2.1 q.2.2 (if j + 1 = 0 then b else if j + 1 < 100 then adK (j + 1 - 1) else if j + 1 < 200 then adV (j + 1 - 101) else t) s
    rw [h3]
    exact vk_R.of (hts _ h1) h2
  · have e1 : ∀ i : Nat, i < 23 → (if i + 1 = 0 then b else if i + 1 < 100 then adK (i + 1 - 1) else if i + 1 < 200 then adV (i + 1 - 101) else t) = adK i := by
      intro i hi
      rw [if_neg (by omega), if_pos (by omega), Nat.add_sub_cancel]
    have e2 : ∀ i : Nat, i < 23 → (if i + 101 = 0 then b else if i + 101 < 100 then adK (i + 101 - 1) else if i + 101 < 200 then adV (i + 101 - 101) else t) = adV i := by
      intro i hi
      rw [if_neg (by omega), if_neg (by omega), if_pos (by omega), Nat.add_sub_cancel]
    refine ⟨fun i hi => ?_, fun i j hi hj hij => ?_⟩
    · have h1 := hS.1 i hi
      dsimp only
      rw [e1 i hi, e2 i hi]
      exact h1
    · dsimp only at hij
      rw [e1 i hi, e1 j hj] at hij
      exact hS.2 i j hi hj hij
  · exact hg
  · intro w hw
    have h1 := List.mem_filter.mp hw
    exact va_Nw.of (xnest_ok w hw) (hts w h1.1)
  · intro t9
    have h1 : xan t9 = xan 24 ∨ xan t9 = xan 25 ∨ xan t9 = xan 26 := by
      unfold xan
      split
      · exact Or.inl rfl
      · exact Or.inr (Or.inl rfl)
      · exact Or.inr (Or.inr rfl)
    rcases h1 with h1 | h1 | h1
    · rw [h1]; exact va_AO.of (hts _ (xarrO (by omega)))
    · rw [h1]; exact va_AO.of (hts _ (xarrO (by omega)))
    · rw [h1]; exact va_AO.of (hts _ (xarrO (by omega)))
/-- what is left to show: the small machine's run of the law ends with 1, in the claim's room -/
def xGoal (N : Nat) : Prop := ∀ (L : Nat) (xs : Nat → Int32) (g : Bool), L ≤ N → ∃ (f d : Nat) (h' : xH), d ≤ 999 ∧ xgo (L, xs, g) xSWb xSLb xTb xMb (xcall (L, xs, g) xSWb xSLb xTc xMb f d) f 0 (0, [(0, .retAddr 0)], [], xh0) = some (some (.int 1), h') ∧ h'.1.length ≤ 600000 ∧ xsum h'.1 ≤ 7302250
theorem whole_open {p : Program} {e : Env} {s : State} {m : MethodId} {below : List Frame} {meth : Method} {c : Code} (l : Launch) {b L : Nat} {xs : Nat → Int32} {N : Nat} (hgoal : xGoal N) (hL : L ≤ N) (C0 : lw_At p s m meth c b L xs) : W p l e room_1 s m #[Value.ref b] below meth c s.heap [] 0 0 (lw_Z below #[Value.ref b] s) (entryFrame m ([Value.ref b] : List Value).toArray 4) := by
  obtain ⟨D, aC, sp, g, hsp, hK, hE⟩ := xenv_at C0
  obtain ⟨hx, hb, hr, hml, hown, hts, hX, hbl, hlocks, hgv⟩ := C0
  obtain ⟨f, d, h', hd, hrun, hr1, hr2⟩ := hgoal L xs g hL
  have C : xCtx p room_1 s m #[Value.ref b] meth c (xYb 0).2.1 (xYb 0).2.2.1 (xYb 0).1.cls D aC s.heap.size sp 0 (d + 1) ((xYb 0).1.name == "<init>") (L, xs, g) :=
    ⟨⟨hx, hb, hml, hown⟩, fun w hw => hts w (List.mem_filter.mp hw).1, hK, rfl, ⟨by omega, by show d + 1 ≤ 2048; omega, by show 64 * (d + 1) ≤ 84000; omega⟩, fun hi => absurd hi (by decide +kernel), hE⟩
  have hl := lv_entry ([.ref b]) (n := 4) (Nat.le_of_ble_eq_true rfl)
  rw [lg_entry_eq]
  generalize (lg_sl ([.ref b]) ++ List.replicate (4 - (lg_sl ([.ref b])).length) Slot.unset).toArray = ls at hl ⊢
  have hl : lv_has ls 4 [(0, .ref b)] := hl
  have main := xrun (Q := lw_Z below #[Value.ref b] s) (p := p) (l := l) (e := e) (below := below) (z0 := 0) (T := xTb) C (fun pc i hi => xall_of (xalls 0 (by omega)) pc i hi) (fun a as h q hq => xmetb d a as h q hq) (fun a as h q hq => xcall_le _ _ _ _ _ hq) f (0, [(0, .retAddr 0)], [], xh0) (some (.int 1), h') hrun ⟨by show h'.1.length ≤ 0 + 600000; omega, by show xsum h'.1 ≤ 0 + 7302250; omega⟩ ?_
  · refine main s.heap [] ls 0 0 ⟨fun k q hq => ?_, va_S.rf, ?_, rfl, rfl⟩
    · have : ([] : va_W)[k]? = some q := hq
      simp at this
    · show lv_has ls 4 [(0, .ref (sp 0))]
      rw [hsp]; exact hl
  · intro G i hi h90 hret
    intro H locs ls cells slots hA
    have hk := xall_of (xalls 0 (by omega)) G.1 i hi
    rw [xchk, if_neg (by omega), if_neg h90] at hk
    have he := xret_h hret
    have c1 : cells ≤ 600000 := by
      have h9 := hA.2.2.2.1
      rw [← he] at h9
      have h9 : h'.1.length = 0 + cells := h9
      omega
    have c2 : slots ≤ 7302250 := by
      have h9 := hA.2.2.2.2
      rw [← he] at h9
      have h9 : xsum h'.1 = 0 + slots := h9
      omega
    obtain ⟨pc, lv, st, hh⟩ := G
    obtain ⟨op, a, b9, g9, ci, di, nx⟩ := i
    have fin : decode code pc = .ok (.ireturn, 1) → st = [.int 1] → W p l e room_1 s m #[Value.ref b] below meth c H locs cells slots (lw_Z below #[Value.ref b] s) (F0 m pc ls (st.map (xv s.heap.size sp))) := by
      intro hdg hst
      subst hst
      refine va_forget (fun q hq => hA.2.1.2.2 q hq) ?_
      refine W.widen (k := 600000) (n := 7302250) c1 c2 ?_
      exact lw_ret hx hb hr hlocks hdg
    dsimp only at hret hk
    unfold xret at hret
    split at hret
    · cases hret
      simp only [xokr, decide_eq_true_eq] at hk
      exact fin hk.1 rfl
    · cases hret
    · cases hret
    · cases hret
    · cases hret
    · cases hret
    · split at hret
      · cases hret
        simp only [xokr, decide_eq_true_eq] at hk
        exact fin hk.1 rfl
      · cases hret
    · split at hret
      · cases hret
        simp only [xokr, decide_eq_true_eq] at hk
        exact fin hk.1 rfl
      · cases hret
    · split at hret
      · cases hret
        simp only [xokr, decide_eq_true_eq] at hk
        exact fin hk.1 rfl
      · cases hret
    · cases hret
