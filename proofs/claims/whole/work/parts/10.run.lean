/-! A RUN of the small machine is a method's contract -/
/-- what is looked up once for each end of a method -/
def xokr (cc : ByteArray) (rt : Option FieldType) (pc op : Nat) : Bool :=
  match op with
  | 90 => decide (decode cc pc = .ok (.ireturn, 1) ∧ rt = some .int)
  | 91 => decide (decode cc pc = .ok (.lreturn, 1) ∧ rt = some .long)
  | 92 => decide (decode cc pc = .ok (.areturn, 1)) && (match rt with | some (.object _) => true | _ => false)
  | 93 => decide (decode cc pc = .ok (.return_, 1) ∧ rt = none)
  | 94 => decide (decode cc pc = .ok (.ireturn, 1) ∧ rt = some .boolean)
  | 95 => decide (decode cc pc = .ok (.ireturn, 1) ∧ rt = some .char)
  | 96 => decide (decode cc pc = .ok (.ireturn, 1) ∧ rt = some .byte)
  | _ => false
/-- what is looked up once for each instruction of a method -/
def xchk (Y : xY) (M : xM) (SW : xSwT) (SL : xSwL) (k pc : Nat) (i : xI) : Bool :=
  if i.1 < 80 then xok (Y k).1.cls (Y k).2.1 (Y k).2.2.1 ((Y k).1.name == "<init>") SW SL pc i
  else if i.1 < 90 then xokc (Y k).1.cls (Y k).2.1 Y M pc i
  else xokr (Y k).2.1 (Y k).2.2.2 pc i.1
section XG
variable {p : Program} {l : Launch} {e : Env} {R : Room} {s : State} {m : MethodId} {args : Array Value} {below : List Frame} {meth : Method} {c : Code} {Q : State → Prop} {D : va_G} {aC : Nat → ClassId} {base : Nat} {sp : Nat → Nat} {c0 z0 : Nat} {ini : Bool} {X : xX} {Y : xY} {M : xM} {SW : xSwT} {SL : xSwL} {T : Nat → Nat → Option xI}
theorem xrun {d k : Nat} {call : Nat → List Value → xH → Option (Option Value × xH)} (C : xCtx p R s m args meth c (Y k).2.1 (Y k).2.2.1 (Y k).1.cls D aC base sp c0 (d + 1) ((Y k).1.name == "<init>") X) (hT : ∀ pc i, T k pc = some i → xchk Y M SW SL k pc i = true)
    (hcl : ∀ a as h r, call a as h = some r → xMt X Y d a as h r.1 r.2) (hle : ∀ a as h r, call a as h = some r → xle h r.2) :
    ∀ (f : Nat) (F : xF) (r : Option Value × xH), xgo X SW SL T M call f k F = some r → xRm R c0 z0 r.2 → (∀ (G : xF) (i : xI), T k G.1 = some i → ¬ i.1 < 90 → xret i.1 G.2.2.1 G.2.2.2 = some r → xW p l e R s m args below meth c Q (Y k).2.2.1 D aC base sp c0 z0 G) → xW p l e R s m args below meth c Q (Y k).2.2.1 D aC base sp c0 z0 F := by
  intro f
  induction f with
  | zero => intro F r h; cases h
  | succ f ih =>
    intro F r h hr hend
    obtain ⟨pc, lv, st, hh⟩ := F
    have h0 := h
    rw [xgo] at h
    split at h
    · cases h
    · rename_i i hi
      have hk := hT pc i hi
      obtain ⟨op, a, b, g, ci, di, nx⟩ := i
      split at h
      · rename_i h80
        rw [xchk, if_pos h80] at hk
        split at h
        · rename_i G hG
          have hl2 := xgo_le hle _ _ _ _ h
          exact xs_all C hk hG ⟨Nat.le_trans hl2.1 hr.1, Nat.le_trans hl2.2 hr.2⟩ (ih G r h hr hend)
        · cases h
      · rename_i h80
        split at h
        · rename_i h90
          rw [xchk, if_neg h80, if_pos h90] at hk
          split at h
          · rename_i hc
            obtain ⟨hn, h8, hrc⟩ := hc
            split at h
            · rename_i q hq
              have hl2 := xgo_le hle _ _ _ _ h
              exact xs_call (h' := q.2) (r := q.1) C hk hn h8 hrc (hcl _ _ _ _ hq) (hle _ _ _ _ hq) ⟨Nat.le_trans hl2.1 hr.1, Nat.le_trans hl2.2 hr.2⟩ (ih _ r h hr hend)
            · cases h
          · cases h
        · rename_i h90
          exact hend (pc, lv, st, hh) (op, a, b, g, ci, di, nx) hi h90 h
end XG
theorem xmet {X : xX} {Y : xY} {M : xM} {SW : xSwT} {SL : xSwL} {T : Nat → Nat → Option xI} {f : Nat} (hT : ∀ k pc i, T k pc = some i → xchk Y M SW SL k pc i = true) (hY : ∀ k i, T k 0 = some i → xwc Y k ∈ lw_tbl ∧ plainName (Y k).1.cls = true ∧ (M k).2.2 = (Y k).2.2.1) :
    ∀ (d k : Nat) (as : List Value) (h : xH) (r : Option Value × xH), xcall X SW SL T M f d k as h = some r → xMt X Y d k as h r.1 r.2 := by
  intro d
  induction d with
  | zero => intro k as h r hc; cases hc
  | succ d ih =>
    intro k as h r hc
    have hle := xcall_le _ _ _ _ _ hc
    rw [xcall] at hc
    split at hc
    · rename_i hsl
      intro l D aC base sp
      have h0 : ∃ i, T k 0 = some i := by
        cases f with
        | zero => cases hc
        | succ f =>
          rw [xgo] at hc
          split at hc
          · cases hc
          · rename_i i hi
            exact ⟨i, hi⟩
      obtain ⟨i0, hi0⟩ := h0
      obtain ⟨hcw, hpl, hml0⟩ := hY k i0 hi0
      refine Met.ofW (cc := (Y k).2.1) (maxL := (Y k).2.2.1) (ret := (Y k).2.2.2) hpl rfl ?_
      intro p e s m args below meth c s₁ B hml hv
      obtain ⟨rfl, hsz, hP, hK, hX⟩ := hv
      have hx := B.exec
      have hb := B.bytes
      have hr := B.returns
      have hts := atoms_spec (ws := xwc Y k :: lw_good) B.pre
      have hown : s.vm.findClass (Y k).1.cls = some m.cls := findClass_of_methodNamed B.named
      have hlocks := B.notSynchronized
      have C : xCtx p (xrm (d + 1) h r.2) s m ((as.map (xv base sp)).toArray) meth c (Y k).2.1 (Y k).2.2.1 (Y k).1.cls D aC base sp h.1.length (d + 1) ((Y k).1.name == "<init>") X :=
        ⟨⟨hx, hb, hml, hown⟩, fun w hw => hts w (List.mem_cons_of_mem _ hw), hK, hsz, ⟨by omega, Nat.le_refl _, Nat.le_refl _⟩, fun hi => by
          rw [(name_of_methodNamed B.named B.method).1]
          exact beq_iff_eq.mp hi, hX⟩
      have hl := lv_entry (as.map (xv base sp)) (n := (Y k).2.2.1) (by rw [xsl_len, ← hml0]; exact hsl)
      rw [lg_entry_eq]
      rw [xcl_args] at hl
      generalize (lg_sl (as.map (xv base sp)) ++ List.replicate ((Y k).2.2.1 - (lg_sl (as.map (xv base sp))).length) Slot.unset).toArray = ls at hl ⊢
      have main := xrun (Q := MQ below (xQc D aC base sp r.1 r.2) ((as.map (xv base sp)).toArray) s (r.2.1.length - h.1.length) (xsum r.2.1 - xsum h.1) (fun q => base ≤ q)) (p := p) (l := l) (e := e) (below := below) (z0 := xsum h.1) C (fun pc i hi => hT k pc i hi) (fun a as h q hq => ih a as h q hq) (fun a as h q hq => xcall_le _ _ _ _ _ hq) f (0, lv_args 0 as, [], h) r hc ⟨by show r.2.1.length ≤ h.1.length + (r.2.1.length - h.1.length); have := hle.1; omega, by show xsum r.2.1 ≤ xsum h.1 + (xsum r.2.1 - xsum h.1); have := hle.2; omega⟩ ?_
      · exact main s.heap [] ls 0 0 ⟨hP, va_S.rf, hl, rfl, rfl⟩
      · intro G i hi h90 hret
        intro H locs ls cells slots hA
        have hk := hT k G.1 i hi
        rw [xchk, if_neg (by omega), if_neg h90] at hk
        have he := xret_h hret
        have c1 : cells = r.2.1.length - h.1.length := by
          have := hA.2.2.2.1
          rw [← he] at this
          omega
        have c2 : slots = xsum r.2.1 - xsum h.1 := by
          have := hA.2.2.2.2
          rw [← he] at this
          omega
        have hP9 : va_P D xcls (xws base aC r.2) H := by rw [he]; exact hA.1
        subst c1
        subst c2
        obtain ⟨pc, lv, st, hh⟩ := G
        obtain ⟨op, a, b, g, ci, di, nx⟩ := i
        have fin : ∀ (v : Option Value), r.1 = v → ∀ t : State, t.heap = H → s.WarmedH t.vm → xQc D aC base sp r.1 r.2 ((as.map (xv base sp)).toArray) s (.returned (v.map (xv base sp))) t := by
          intro v hv t ht hW
          exact ⟨by rw [hv], by rw [ht]; exact hP9, hA.2.1.F ht⟩
        dsimp only at hret hk
        unfold xret at hret
        split at hret
        · rename_i v
          cases hret
          simp only [xokr, decide_eq_true_eq] at hk
          exact W.iret (v := v) hx hb (hr.trans hk.2) (fin (some (.int v)) rfl) hA.2.1.2.2 hk.1
        · rename_i v
          cases hret
          simp only [xokr, decide_eq_true_eq] at hk
          exact W.lret (v := v) hx hb (hr.trans hk.2) (fin (some (.long v)) rfl) hA.2.1.2.2 hk.1
        · rename_i v
          cases hret
          simp only [xokr, Bool.and_eq_true, decide_eq_true_eq] at hk
          obtain ⟨hk1, hk2⟩ := hk
          split at hk2
          · rename_i o ho
            exact W.aret (v := .ref (base + v)) hx hb (hr.trans ho) (Or.inl ⟨_, rfl⟩) (Or.inr ⟨_, rfl⟩) (fin (some (.ref v)) rfl) hA.2.1.2.2 hk1
          · cases hk2
        · rename_i v
          cases hret
          simp only [xokr, Bool.and_eq_true, decide_eq_true_eq] at hk
          obtain ⟨hk1, hk2⟩ := hk
          split at hk2
          · rename_i o ho
            exact W.aret (v := .ref (sp v)) hx hb (hr.trans ho) (Or.inl ⟨_, rfl⟩) (Or.inr ⟨_, rfl⟩) (fin (some (.retAddr v)) rfl) hA.2.1.2.2 hk1
          · cases hk2
        · cases hret
          simp only [xokr, Bool.and_eq_true, decide_eq_true_eq] at hk
          obtain ⟨hk1, hk2⟩ := hk
          split at hk2
          · rename_i o ho
            exact W.aret (v := .null) hx hb (hr.trans ho) (Or.inl ⟨_, rfl⟩) (Or.inl rfl) (fin (some .null) rfl) hA.2.1.2.2 hk1
          · cases hk2
        · cases hret
          simp only [xokr, decide_eq_true_eq] at hk
          exact W.vret hx hb (hr.trans hk.2) (fin none rfl) hA.2.1.2.2 hk.1
        · rename_i v
          split at hret
          · rename_i hv
            cases hret
            simp only [xokr, decide_eq_true_eq] at hk
            exact W.zret (v := v) hx hb (hr.trans hk.2) (by rcases hv with rfl | rfl <;> rfl) (fin (some (.int v)) rfl) hA.2.1.2.2 hk.1
          · cases hret
        · rename_i v
          split at hret
          · rename_i hv
            cases hret
            simp only [xokr, decide_eq_true_eq] at hk
            exact W.zret (v := v) hx hb (hr.trans hk.2) (by show Value.int _ = _; rw [hv]) (fin (some (.int v)) rfl) hA.2.1.2.2 hk.1
          · cases hret
        · rename_i v
          split at hret
          · rename_i hv
            cases hret
            simp only [xokr, decide_eq_true_eq] at hk
            exact W.zret (v := v) hx hb (hr.trans hk.2) (by show Value.int _ = _; rw [hv]) (fin (some (.int v)) rfl) hA.2.1.2.2 hk.1
          · cases hret
        · cases hret
    · cases hc
