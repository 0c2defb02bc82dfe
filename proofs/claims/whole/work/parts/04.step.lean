/-! ONE STEP of the small machine is a step of the machine itself: a row an instruction -/
def xat : Nat → ArrayType := fun t => match t with
  | 20 => .int | 21 => .long | 22 => .boolean | _ => .byte
def xan : Nat → String := fun t => match t with
  | 24 => RX5 | 25 => RX10 | _ => RX3
/-- what is looked up once for each instruction: its bytes, what it links -/
def xok (own : String) (cc : ByteArray) (nL : Nat) (ini : Bool) (SW : xSwT) (SL : xSwL) (pc : Nat) (i : xI) : Bool :=
  match i with
  | (op, a, b, g, c, d, nx) => match op with
    | 0 => decide ((nx = pc + 1 ∧ a < 4 ∧ decode cc pc = .ok (.iload_n (Fin.ofNat 4 a), 1)) ∨ (nx = pc + 2 ∧ decode cc pc = .ok (.iload a, 2)))
    | 1 => decide ((nx = pc + 1 ∧ a < 4 ∧ decode cc pc = .ok (.aload_n (Fin.ofNat 4 a), 1)) ∨ (nx = pc + 2 ∧ decode cc pc = .ok (.aload a, 2)))
    | 2 => decide ((nx = pc + 1 ∧ a < 4 ∧ decode cc pc = .ok (.lload_n (Fin.ofNat 4 a), 1)) ∨ (nx = pc + 2 ∧ decode cc pc = .ok (.lload a, 2)))
    | 3 => decide (a < nL ∧ ((nx = pc + 1 ∧ a < 4 ∧ decode cc pc = .ok (.istore_n (Fin.ofNat 4 a), 1)) ∨ (nx = pc + 2 ∧ decode cc pc = .ok (.istore a, 2))))
    | 4 => decide (a < nL ∧ ((nx = pc + 1 ∧ a < 4 ∧ decode cc pc = .ok (.astore_n (Fin.ofNat 4 a), 1)) ∨ (nx = pc + 2 ∧ decode cc pc = .ok (.astore a, 2))))
    | 5 => decide (a + 1 < nL ∧ ((nx = pc + 1 ∧ a < 4 ∧ decode cc pc = .ok (.lstore_n (Fin.ofNat 4 a), 1)) ∨ (nx = pc + 2 ∧ decode cc pc = .ok (.lstore a, 2))))
    | 6 => match b with
      | 0 => decide (nx = pc + 1 ∧ decode cc pc = .ok (.iconst c.toInt, 1) ∧ Int32.ofInt c.toInt = c)
      | 1 => decide (nx = pc + 2 ∧ decode cc pc = .ok (.bipush c.toInt, 2) ∧ (Int8.ofInt c.toInt).toInt32 = c)
      | 2 => decide (nx = pc + 3 ∧ decode cc pc = .ok (.sipush c.toInt, 3) ∧ (Int16.ofInt c.toInt).toInt32 = c)
      | 3 => decide (nx = pc + 2 ∧ decode cc pc = .ok (.ldc g, 2) ∧ Cond.constant own g c ∈ lw_tbl)
      | _ => decide (nx = pc + 3 ∧ decode cc pc = .ok (.ldc_w g, 3) ∧ Cond.constant own g c ∈ lw_tbl)
    | 7 => match b with
      | 0 => decide (nx = pc + 1 ∧ decode cc pc = .ok (.lconst (Fin.ofNat 2 a), 1) ∧ Int64.ofNat (Fin.ofNat 2 a : Fin 2).val = d)
      | _ => decide (nx = pc + 3 ∧ decode cc pc = .ok (.ldc2_w g, 3) ∧ Cond.constantLong own g d ∈ lw_tbl)
    | 8 => decide (a < nL ∧ nx = pc + 3 ∧ decode cc pc = .ok (.iinc a c.toInt, 3) ∧ Int32.ofInt c.toInt = c)
    | 9 => decide (nx = pc + 1 ∧ decode cc pc = .ok (.iadd, 1))
    | 10 => decide (nx = pc + 1 ∧ decode cc pc = .ok (.isub, 1))
    | 11 => decide (nx = pc + 1 ∧ decode cc pc = .ok (.imul, 1))
    | 12 => decide (nx = pc + 1 ∧ decode cc pc = .ok (.iand, 1))
    | 13 => decide (nx = pc + 1 ∧ decode cc pc = .ok (.ior, 1))
    | 14 => decide (nx = pc + 1 ∧ decode cc pc = .ok (.ixor, 1))
    | 15 => decide (nx = pc + 1 ∧ decode cc pc = .ok (.ishl, 1))
    | 16 => decide (nx = pc + 1 ∧ decode cc pc = .ok (.ishr, 1))
    | 17 => decide (nx = pc + 1 ∧ decode cc pc = .ok (.iushr, 1))
    | 18 => decide (nx = pc + 1 ∧ decode cc pc = .ok (.idiv, 1))
    | 19 => decide (nx = pc + 1 ∧ decode cc pc = .ok (.irem, 1))
    | 20 => decide (nx = pc + 1 ∧ decode cc pc = .ok (.ladd, 1))
    | 21 => decide (nx = pc + 1 ∧ decode cc pc = .ok (.lsub, 1))
    | 22 => decide (nx = pc + 1 ∧ decode cc pc = .ok (.lmul, 1))
    | 23 => decide (nx = pc + 1 ∧ decode cc pc = .ok (.land, 1))
    | 24 => decide (nx = pc + 1 ∧ decode cc pc = .ok (.lor, 1))
    | 25 => decide (nx = pc + 1 ∧ decode cc pc = .ok (.ldiv, 1))
    | 26 => decide (nx = pc + 1 ∧ decode cc pc = .ok (.lrem, 1))
    | 27 => decide (nx = pc + 1 ∧ decode cc pc = .ok (.lcmp, 1))
    | 28 => decide (nx = pc + 1 ∧ decode cc pc = .ok (.i2l, 1))
    | 29 => decide (nx = pc + 1 ∧ decode cc pc = .ok (.l2i, 1))
    | 30 => decide (nx = pc + 1 ∧ decode cc pc = .ok (.i2b, 1))
    | 31 => decide (nx = pc + 1 ∧ decode cc pc = .ok (.dup, 1))
    | 32 => decide (nx = pc + 1 ∧ decode cc pc = .ok (.dup2, 1))
    | 33 => decide (nx = pc + 1 ∧ decode cc pc = .ok (.pop, 1))
    | 34 => decide (nx = pc + 3 ∧ decode cc pc = .ok (.ifCond .eq ((a : Int) - (pc : Int)), 3))
    | 35 => decide (nx = pc + 3 ∧ decode cc pc = .ok (.ifCond .ne ((a : Int) - (pc : Int)), 3))
    | 36 => decide (nx = pc + 3 ∧ decode cc pc = .ok (.ifCond .lt ((a : Int) - (pc : Int)), 3))
    | 37 => decide (nx = pc + 3 ∧ decode cc pc = .ok (.ifCond .ge ((a : Int) - (pc : Int)), 3))
    | 38 => decide (nx = pc + 3 ∧ decode cc pc = .ok (.ifCond .gt ((a : Int) - (pc : Int)), 3))
    | 39 => decide (nx = pc + 3 ∧ decode cc pc = .ok (.ifCond .le ((a : Int) - (pc : Int)), 3))
    | 40 => decide (nx = pc + 3 ∧ decode cc pc = .ok (.if_icmp .eq ((a : Int) - (pc : Int)), 3))
    | 41 => decide (nx = pc + 3 ∧ decode cc pc = .ok (.if_icmp .ne ((a : Int) - (pc : Int)), 3))
    | 42 => decide (nx = pc + 3 ∧ decode cc pc = .ok (.if_icmp .lt ((a : Int) - (pc : Int)), 3))
    | 43 => decide (nx = pc + 3 ∧ decode cc pc = .ok (.if_icmp .ge ((a : Int) - (pc : Int)), 3))
    | 44 => decide (nx = pc + 3 ∧ decode cc pc = .ok (.if_icmp .gt ((a : Int) - (pc : Int)), 3))
    | 45 => decide (nx = pc + 3 ∧ decode cc pc = .ok (.if_icmp .le ((a : Int) - (pc : Int)), 3))
    | 46 => decide (decode cc pc = .ok (.goto ((a : Int) - (pc : Int)), 3))
    | 47 => decide (nx = pc + 3 ∧ decode cc pc = .ok (.ifnonnull ((a : Int) - (pc : Int)), 3))
    | 48 => decide (b < 13 ∧ a < xN b ∧ nx = pc + 3 ∧ decode cc pc = .ok (.getfield g, 3) ∧ Cond.fieldLink own g (xRR b) (xTT b a).2.1 (xTT b a).2.2.1 ∈ lw_tbl ∧ (xTT b a).1 = xRR b ∧ xtc (xty b a) = 0)
    | 49 => decide (b < 13 ∧ a < xN b ∧ nx = pc + 3 ∧ decode cc pc = .ok (.getfield g, 3) ∧ Cond.fieldLink own g (xRR b) (xTT b a).2.1 (xTT b a).2.2.1 ∈ lw_tbl ∧ (xTT b a).1 = xRR b ∧ xtc (xty b a) = 1)
    | 50 => decide (b < 13 ∧ a < xN b ∧ nx = pc + 3 ∧ decode cc pc = .ok (.getfield g, 3) ∧ Cond.fieldLink own g (xRR b) (xTT b a).2.1 (xTT b a).2.2.1 ∈ lw_tbl ∧ (xTT b a).1 = xRR b ∧ xtc (xty b a) = 2)
    | 51 => decide (b < 13 ∧ a < xN b ∧ nx = pc + 3 ∧ decode cc pc = .ok (.putfield g, 3) ∧ Cond.fieldLink own g (xRR b) (xTT b a).2.1 (xTT b a).2.2.1 ∈ lw_tbl ∧ (xTT b a).1 = xRR b ∧ xty b a = .int ∧ ((xTT b a).2.2.2 = false ∨ ((xTT b a).2.2.2 = true ∧ ini = true ∧ (xTT b a).1 = own)))
    | 52 => decide (b < 13 ∧ a < xN b ∧ nx = pc + 3 ∧ decode cc pc = .ok (.putfield g, 3) ∧ Cond.fieldLink own g (xRR b) (xTT b a).2.1 (xTT b a).2.2.1 ∈ lw_tbl ∧ (xTT b a).1 = xRR b ∧ xty b a = .long ∧ ((xTT b a).2.2.2 = false ∨ ((xTT b a).2.2.2 = true ∧ ini = true ∧ (xTT b a).1 = own)))
    | 53 => decide (b < 13 ∧ a < xN b ∧ nx = pc + 3 ∧ decode cc pc = .ok (.putfield g, 3) ∧ Cond.fieldLink own g (xRR b) (xTT b a).2.1 (xTT b a).2.2.1 ∈ lw_tbl ∧ (xTT b a).1 = xRR b ∧ xtc (xty b a) = 2 ∧ ((xTT b a).2.2.2 = false ∨ ((xTT b a).2.2.2 = true ∧ ini = true ∧ (xTT b a).1 = own)))
    | 54 => decide (b < 13 ∧ a < xN b ∧ nx = pc + 3 ∧ decode cc pc = .ok (.putfield g, 3) ∧ Cond.fieldLink own g (xRR b) (xTT b a).2.1 (xTT b a).2.2.1 ∈ lw_tbl ∧ (xTT b a).1 = xRR b ∧ xty b a = .boolean ∧ ((xTT b a).2.2.2 = false ∨ ((xTT b a).2.2.2 = true ∧ ini = true ∧ (xTT b a).1 = own)))
    | 55 => decide (nx = pc + 1 ∧ decode cc pc = .ok (.iaload, 1))
    | 56 => decide (nx = pc + 1 ∧ decode cc pc = .ok (.laload, 1))
    | 57 => decide (nx = pc + 1 ∧ decode cc pc = .ok (.baload, 1))
    | 58 => decide (nx = pc + 1 ∧ decode cc pc = .ok (.aaload, 1))
    | 59 => decide (nx = pc + 1 ∧ decode cc pc = .ok (.iastore, 1))
    | 60 => decide (nx = pc + 1 ∧ decode cc pc = .ok (.lastore, 1))
    | 61 => decide (nx = pc + 1 ∧ decode cc pc = .ok (.bastore, 1))
    | 62 => decide (nx = pc + 1 ∧ decode cc pc = .ok (.bastore, 1))
    | 63 => decide (nx = pc + 1 ∧ decode cc pc = .ok (.aastore, 1))
    | 64 => decide (nx = pc + 1 ∧ decode cc pc = .ok (.arraylength, 1))
    | 65 => decide (20 ≤ a ∧ a ≤ 23 ∧ nx = pc + 2 ∧ decode cc pc = .ok (.newarray (xat a), 2) ∧ Cond.arrayClass (newarray.typeOf (xat a)) ∈ lw_tbl)
    | 66 => decide (24 ≤ a ∧ a ≤ 26 ∧ nx = pc + 3 ∧ decode cc pc = .ok (.anewarray g, 3) ∧ Cond.classLink own g (xan a) ∈ lw_tbl)
    | 67 => decide (b < 13 ∧ a = xN b ∧ nx = pc + 3 ∧ decode cc pc = .ok (.new g, 3) ∧ Cond.classLink own g (xRR b) ∈ lw_tbl ∧ Cond.instantiable (xRR b) (xN b) ∈ lw_tbl ∧ Cond.initialized (xRR b) ∈ lw_tbl)
    | 68 => decide (nx = pc + 3 ∧ decode cc pc = .ok (.invokespecial g, 3) ∧ Cond.methodLink own g Lib.objectInit ∈ lw_tbl)
    | 69 => decide (pc ≤ nx ∧ decode cc pc = .ok (.tableswitch (((SW a).2.2 : Int) - (pc : Int)) (SW a).1 ((SW a).1 + (SW a).2.1.length - 1) ((SW a).2.1.map (fun (t : Nat) => (t : Int) - (pc : Int))).toArray, nx - pc))
    | 70 => decide (pc ≤ nx ∧ decode cc pc = .ok (.lookupswitch (((SL a).2 : Int) - (pc : Int)) ((SL a).1.map (fun (q : Int × Nat) => (q.1, (q.2 : Int) - (pc : Int)))).toArray, nx - pc) ∧ (((SL a).1.map (fun (q : Int × Nat) => (q.1, (q.2 : Int) - (pc : Int)))).zip (((SL a).1.map (fun (q : Int × Nat) => (q.1, (q.2 : Int) - (pc : Int)))).drop 1)).all (fun (x, next) => x.1 < next.1) = true)
    | 71 => decide (nx = pc + 3 ∧ decode cc pc = .ok (.invokestatic g, 3) ∧ Cond.methodLink own g arraycopyName ∈ lw_tbl)
    | 72 => decide (nx = pc + 3 ∧ decode cc pc = .ok (.getstatic g, 3) ∧ ((a = 0 ∧ Cond.fieldLink own g "java/lang/String" "COMPACT_STRINGS" "Z" ∈ lw_tbl) ∨ (a = 1 ∧ Cond.fieldLink own g "jdk/internal/util/Preconditions" "SIOOBE_FORMATTER" "Ljava/util/function/BiFunction;" ∈ lw_tbl)))
    | 73 => decide (a < 23 ∧ (xstr.getD a ("", 0, "")).1 = own ∧ (xstr.getD a ("", 0, "")).2.1 = g ∧ ((nx = pc + 2 ∧ decode cc pc = .ok (.ldc g, 2)) ∨ (nx = pc + 3 ∧ decode cc pc = .ok (.ldc_w g, 3))))
    | 74 => decide (nx = pc + 3 ∧ decode cc pc = .ok (.getfield g, 3) ∧ ((a = 0 ∧ Cond.fieldLink own g "java/lang/String" "value" "[B" ∈ lw_tbl) ∨ (a = 1 ∧ Cond.fieldLink own g "java/lang/String" "coder" "B" ∈ lw_tbl)))
    | 75 => decide (nx = pc + 1 ∧ decode cc pc = .ok (.i2c, 1))
    | 76 => decide (nx = pc + 3 ∧ decode cc pc = .ok (.invokestatic g, 3) ∧ Cond.methodLink own g Lib.Math.max.name ∈ lw_tbl)
    | 77 => decide (nx = pc + 3 ∧ decode cc pc = .ok (.invokestatic g, 3) ∧ Cond.methodLink own g Lib.Math.min.name ∈ lw_tbl)
    | _ => false
/-- what lay there before: the script, the texts, two statics of the JDK's; what the tables say that isn't a word that stays -/
def xEnv (base : Nat) (sp : Nat → Nat) (X : xX) (U : State) (H : Heap) : Prop :=
  (va_X (sp 0) X.1 X.2.1 U H ∧ sp 0 < base) ∧ (∀ j q, xstr[j]? = some q → vk_R q.1 q.2.1 q.2.2 (sp (j + 1)) U) ∧ vk_S 23 xlen xtx (fun i => sp (i + 1)) (fun i => sp (i + 101)) (fun q => base ≤ q) U H ∧ va_Z "java/lang/String" "COMPACT_STRINGS" "Z" (.int 1) (fun q => base ≤ q) U H ∧ va_Z "jdk/internal/util/Preconditions" "SIOOBE_FORMATTER" "Ljava/util/function/BiFunction;" (if X.2.2 = true then .null else .ref (sp 200)) (fun q => base ≤ q) U H ∧ (∀ w ∈ xnest, va_Nw w U) ∧ (∀ t, va_AO (xan t) U)
theorem xEnv_kept {base : Nat} {sp : Nat → Nat} {X : xX} {U : State} {H H1 : Heap} (h : xEnv base sp X U H) (hb : base ≤ H.size) (hq : ∀ a : Nat, a < H.size → ¬ base ≤ a → H1[a]? = H[a]?) : xEnv base sp X U H1 := by
  obtain ⟨⟨h1, h2⟩, h3, h4, h5, h6, h7⟩ := h
  exact ⟨⟨h1.kept (hq _ (by omega) (by omega)), h2⟩, h3, h4.kept hq, h5.kept hq, h6.kept hq, h7⟩
theorem xEnv_warm {base : Nat} {sp : Nat → Nat} {X : xX} {s U : State} {H : Heap} (hW : s.WarmedH U.vm) (h : xEnv base sp X s H) : xEnv base sp X U H := by
  obtain ⟨⟨h1, h2⟩, h3, h4, h5, h6, h7, h8⟩ := h
  exact ⟨⟨va_X.moved hW.alike h1, h2⟩, fun j q hq => (h3 j q hq).warm hW, h4.moved hW.alike, h5.moved hW.alike, h6.moved hW.alike, xnest_warm hW h7, fun t => va_AO.moved hW.alike (h8 t)⟩
theorem xEnv_same {base : Nat} {sp : Nat → Nat} {X : xX} {u U : State} {H : Heap} (hv : U.vm = u.vm) (h : xEnv base sp X u H) : xEnv base sp X U H := by
  have ha : u.vm.Alike U.vm := by rw [hv]; exact Vm.Alike.refl u.vm
  obtain ⟨⟨h1, h2⟩, h3, h4, h5, h6, h7, h8⟩ := h
  exact ⟨⟨va_X.moved ha h1, h2⟩, fun j q hq => (h3 j q hq).same hv, h4.moved ha, h5.moved ha, h6.moved ha, fun w hw => va_Nw.same (xnest_ok w hw) hv.symm (h7 w hw), fun t => va_AO.moved ha (h8 t)⟩
section XS
variable {p : Program} {l : Launch} {e : Env} {R : Room} {s : State} {m : MethodId} {args : Array Value} {below : List Frame} {meth : Method} {c : Code} {Q : State → Prop} {cc : ByteArray} {nL : Nat} {own : String} {D : va_G} {aC : Nat → ClassId} {base : Nat} {sp : Nat → Nat} {c0 z0 dd : Nat} {ini : Bool} {X : xX} {SW : xSwT} {SL : xSwL}
/-- what holds all through a method -/
def xCtx (p : Program) (R : Room) (s : State) (m : MethodId) (args : Array Value) (meth : Method) (c : Code) (cc : ByteArray) (nL : Nat) (own : String) (D : va_G) (aC : Nat → ClassId) (base : Nat) (sp : Nat → Nat) (c0 dd : Nat) (ini : Bool) (X : xX) : Prop :=
  (p.tables.exec = Jvm.exec ∧ c.code = cc ∧ c.maxLocals = nL ∧ s.vm.findClass own = some m.cls) ∧ (∀ w ∈ lw_good, w.before args s = true) ∧ va_K D xcls (xtys aC) s ∧ s.heap.size = base + c0 ∧ (1 ≤ dd ∧ dd ≤ R.frames ∧ 64 * dd ≤ R.locals) ∧ (ini = true → meth.name = "<init>") ∧ xEnv base sp X s s.heap
/-- the machine's state beside the small machine's -/
def xAt (s : State) (nL : Nat) (D : va_G) (aC : Nat → ClassId) (base : Nat) (sp : Nat → Nat) (c0 z0 : Nat) (h : xH) (lv : xL) (H : Heap) (locs : List Loc) (ls : Array Slot) (cells slots : Nat) : Prop :=
  va_P D xcls (xws base aC h) H ∧ va_S (fun q => base ≤ q) s.heap H locs ∧ lv_has ls nL (xcl base sp lv) ∧ h.1.length = c0 + cells ∧ xsum h.1 = z0 + slots
def xW (p : Program) (l : Launch) (e : Env) (R : Room) (s : State) (m : MethodId) (args : Array Value) (below : List Frame) (meth : Method) (c : Code) (Q : State → Prop) (nL : Nat) (D : va_G) (aC : Nat → ClassId) (base : Nat) (sp : Nat → Nat) (c0 z0 : Nat) (F : xF) : Prop :=
  ∀ (H : Heap) (locs : List Loc) (ls : Array Slot) (cells slots : Nat), xAt s nL D aC base sp c0 z0 F.2.2.2 F.2.1 H locs ls cells slots → W p l e R s m args below meth c H locs cells slots Q (F0 m F.1 ls (F.2.2.1.map (xv base sp)))
/-- the room that is left at a heap -/
def xRm (R : Room) (c0 z0 : Nat) (h : xH) : Prop := h.1.length ≤ c0 + R.cells ∧ xsum h.1 ≤ z0 + R.slots
theorem xs_0 {pc a b g nx : Nat} {ci : Int32} {di : Int64} {lv : xL} {st : List Value} {h : xH} {F : xF} (C : xCtx p R s m args meth c cc nL own D aC base sp c0 dd ini X) (hk : xok own cc nL ini SW SL pc (0, a, b, g, ci, di, nx) = true) (hs : xsem X SW SL 0 a b g ci di nx lv st h = some F) (hr : xRm R c0 z0 F.2.2.2) (k : xW p l e R s m args below meth c Q nL D aC base sp c0 z0 F) : xW p l e R s m args below meth c Q nL D aC base sp c0 z0 (pc, lv, st, h) := by
  simp only [xok, decide_eq_true_eq] at hk
  simp only [xsem] at hs
  split at hs
  · rename_i x hx
    cases hs
    obtain ⟨j, hj⟩ := xcl_lk (base := base) (sp := sp) hx
    intro H locs ls cells slots hA
    rcases hk with ⟨rfl, h4, hdg⟩ | ⟨rfl, hdg⟩
    · exact lv_iload_n C.1.1 C.1.2.1 hdg (Nat.mod_eq_of_lt h4) (lv_at hA.2.2.1 j hj) (k H locs ls cells slots hA)
    · exact lv_iload C.1.1 C.1.2.1 hdg (lv_at hA.2.2.1 j hj) (k H locs ls cells slots hA)
  · cases hs
theorem xs_2 {pc a b g nx : Nat} {ci : Int32} {di : Int64} {lv : xL} {st : List Value} {h : xH} {F : xF} (C : xCtx p R s m args meth c cc nL own D aC base sp c0 dd ini X) (hk : xok own cc nL ini SW SL pc (2, a, b, g, ci, di, nx) = true) (hs : xsem X SW SL 2 a b g ci di nx lv st h = some F) (hr : xRm R c0 z0 F.2.2.2) (k : xW p l e R s m args below meth c Q nL D aC base sp c0 z0 F) : xW p l e R s m args below meth c Q nL D aC base sp c0 z0 (pc, lv, st, h) := by
  simp only [xok, decide_eq_true_eq] at hk
  simp only [xsem] at hs
  split at hs
  · rename_i x hx
    cases hs
    obtain ⟨j, hj⟩ := xcl_lk (base := base) (sp := sp) hx
    intro H locs ls cells slots hA
    rcases hk with ⟨rfl, h4, hdg⟩ | ⟨rfl, hdg⟩
    · exact lv_lload_n C.1.1 C.1.2.1 hdg (Nat.mod_eq_of_lt h4) (lv_at hA.2.2.1 j hj) (k H locs ls cells slots hA)
    · exact lv_lload C.1.1 C.1.2.1 hdg (lv_at hA.2.2.1 j hj) (k H locs ls cells slots hA)
  · cases hs
theorem xs_1 {pc a b g nx : Nat} {ci : Int32} {di : Int64} {lv : xL} {st : List Value} {h : xH} {F : xF} (C : xCtx p R s m args meth c cc nL own D aC base sp c0 dd ini X) (hk : xok own cc nL ini SW SL pc (1, a, b, g, ci, di, nx) = true) (hs : xsem X SW SL 1 a b g ci di nx lv st h = some F) (hr : xRm R c0 z0 F.2.2.2) (k : xW p l e R s m args below meth c Q nL D aC base sp c0 z0 F) : xW p l e R s m args below meth c Q nL D aC base sp c0 z0 (pc, lv, st, h) := by
  simp only [xok, decide_eq_true_eq] at hk
  simp only [xsem] at hs
  split at hs
  · rename_i x hx
    cases hs
    obtain ⟨j, hj⟩ := xcl_lk (base := base) (sp := sp) hx
    intro H locs ls cells slots hA
    rcases hk with ⟨rfl, h4, hdg⟩ | ⟨rfl, hdg⟩
    · exact lv_aload_n C.1.1 C.1.2.1 hdg (Nat.mod_eq_of_lt h4) (lv_at hA.2.2.1 j hj) (k H locs ls cells slots hA)
    · exact lv_aload C.1.1 C.1.2.1 hdg (lv_at hA.2.2.1 j hj) (k H locs ls cells slots hA)
  · rename_i x hx
    cases hs
    obtain ⟨j, hj⟩ := xcl_lk (base := base) (sp := sp) hx
    intro H locs ls cells slots hA
    rcases hk with ⟨rfl, h4, hdg⟩ | ⟨rfl, hdg⟩
    · exact lv_aload_n C.1.1 C.1.2.1 hdg (Nat.mod_eq_of_lt h4) (lv_at hA.2.2.1 j hj) (k H locs ls cells slots hA)
    · exact lv_aload C.1.1 C.1.2.1 hdg (lv_at hA.2.2.1 j hj) (k H locs ls cells slots hA)
  · rename_i hx
    cases hs
    obtain ⟨j, hj⟩ := xcl_lk (base := base) (sp := sp) hx
    intro H locs ls cells slots hA
    rcases hk with ⟨rfl, h4, hdg⟩ | ⟨rfl, hdg⟩
    · exact lv_aload_nN C.1.1 C.1.2.1 hdg (Nat.mod_eq_of_lt h4) (lv_at hA.2.2.1 j hj) (k H locs ls cells slots hA)
    · exact lv_aloadN C.1.1 C.1.2.1 hdg (lv_at hA.2.2.1 j hj) (k H locs ls cells slots hA)
  · cases hs
theorem xs_3 {pc a b g nx : Nat} {ci : Int32} {di : Int64} {lv : xL} {st : List Value} {h : xH} {F : xF} (C : xCtx p R s m args meth c cc nL own D aC base sp c0 dd ini X) (hk : xok own cc nL ini SW SL pc (3, a, b, g, ci, di, nx) = true) (hs : xsem X SW SL 3 a b g ci di nx lv st h = some F) (hr : xRm R c0 z0 F.2.2.2) (k : xW p l e R s m args below meth c Q nL D aC base sp c0 z0 F) : xW p l e R s m args below meth c Q nL D aC base sp c0 z0 (pc, lv, st, h) := by
  simp only [xok, decide_eq_true_eq] at hk
  simp only [xsem] at hs
  split at hs
  · rename_i x r
    cases hs
    obtain ⟨hn, hk⟩ := hk
    intro H locs ls cells slots hA
    rcases hk with ⟨rfl, h4, hdg⟩ | ⟨rfl, hdg⟩
    · exact lv_istore_n C.1.1 C.1.2.1 hdg (Nat.mod_eq_of_lt h4) hA.2.2.1 hn (xcl_st base sp lv a (.int x)) (fun ls' hl => k H locs ls' cells slots ⟨hA.1, hA.2.1, hl, hA.2.2.2⟩)
    · exact lv_istore C.1.1 C.1.2.1 hdg hA.2.2.1 hn (xcl_st base sp lv a (.int x)) (fun ls' hl => k H locs ls' cells slots ⟨hA.1, hA.2.1, hl, hA.2.2.2⟩)
  · cases hs
theorem xs_4 {pc a b g nx : Nat} {ci : Int32} {di : Int64} {lv : xL} {st : List Value} {h : xH} {F : xF} (C : xCtx p R s m args meth c cc nL own D aC base sp c0 dd ini X) (hk : xok own cc nL ini SW SL pc (4, a, b, g, ci, di, nx) = true) (hs : xsem X SW SL 4 a b g ci di nx lv st h = some F) (hr : xRm R c0 z0 F.2.2.2) (k : xW p l e R s m args below meth c Q nL D aC base sp c0 z0 F) : xW p l e R s m args below meth c Q nL D aC base sp c0 z0 (pc, lv, st, h) := by
  simp only [xok, decide_eq_true_eq] at hk
  simp only [xsem] at hs
  split at hs
  · rename_i x r
    cases hs
    obtain ⟨hn, hk⟩ := hk
    intro H locs ls cells slots hA
    rcases hk with ⟨rfl, h4, hdg⟩ | ⟨rfl, hdg⟩
    · exact lv_astore_n C.1.1 C.1.2.1 hdg (Nat.mod_eq_of_lt h4) hA.2.2.1 hn (xcl_st base sp lv a (.ref x)) (fun ls' hl => k H locs ls' cells slots ⟨hA.1, hA.2.1, hl, hA.2.2.2⟩)
    · exact lv_astore C.1.1 C.1.2.1 hdg hA.2.2.1 hn (xcl_st base sp lv a (.ref x)) (fun ls' hl => k H locs ls' cells slots ⟨hA.1, hA.2.1, hl, hA.2.2.2⟩)
  · rename_i x r
    cases hs
    obtain ⟨hn, hk⟩ := hk
    intro H locs ls cells slots hA
    rcases hk with ⟨rfl, h4, hdg⟩ | ⟨rfl, hdg⟩
    · exact lv_astore_n C.1.1 C.1.2.1 hdg (Nat.mod_eq_of_lt h4) hA.2.2.1 hn (xcl_st base sp lv a (.retAddr x)) (fun ls' hl => k H locs ls' cells slots ⟨hA.1, hA.2.1, hl, hA.2.2.2⟩)
    · exact lv_astore C.1.1 C.1.2.1 hdg hA.2.2.1 hn (xcl_st base sp lv a (.retAddr x)) (fun ls' hl => k H locs ls' cells slots ⟨hA.1, hA.2.1, hl, hA.2.2.2⟩)
  · rename_i r
    cases hs
    obtain ⟨hn, hk⟩ := hk
    intro H locs ls cells slots hA
    rcases hk with ⟨rfl, h4, hdg⟩ | ⟨rfl, hdg⟩
    · exact lv_astore_nN C.1.1 C.1.2.1 hdg (Nat.mod_eq_of_lt h4) hA.2.2.1 hn (xcl_st base sp lv a .null) (fun ls' hl => k H locs ls' cells slots ⟨hA.1, hA.2.1, hl, hA.2.2.2⟩)
    · exact lv_astoreN C.1.1 C.1.2.1 hdg hA.2.2.1 hn (xcl_st base sp lv a .null) (fun ls' hl => k H locs ls' cells slots ⟨hA.1, hA.2.1, hl, hA.2.2.2⟩)
  · cases hs
theorem xs_5 {pc a b g nx : Nat} {ci : Int32} {di : Int64} {lv : xL} {st : List Value} {h : xH} {F : xF} (C : xCtx p R s m args meth c cc nL own D aC base sp c0 dd ini X) (hk : xok own cc nL ini SW SL pc (5, a, b, g, ci, di, nx) = true) (hs : xsem X SW SL 5 a b g ci di nx lv st h = some F) (hr : xRm R c0 z0 F.2.2.2) (k : xW p l e R s m args below meth c Q nL D aC base sp c0 z0 F) : xW p l e R s m args below meth c Q nL D aC base sp c0 z0 (pc, lv, st, h) := by
  simp only [xok, decide_eq_true_eq] at hk
  simp only [xsem] at hs
  split at hs
  · rename_i x r
    cases hs
    obtain ⟨hn, hk⟩ := hk
    intro H locs ls cells slots hA
    rcases hk with ⟨rfl, h4, hdg⟩ | ⟨rfl, hdg⟩
    · exact lv_lstore_n C.1.1 C.1.2.1 hdg (Nat.mod_eq_of_lt h4) hA.2.2.1 hn (xcl_st2 base sp lv a (.long x)) (fun ls' hl => k H locs ls' cells slots ⟨hA.1, hA.2.1, hl, hA.2.2.2⟩)
    · exact lv_lstore C.1.1 C.1.2.1 hdg hA.2.2.1 hn (xcl_st2 base sp lv a (.long x)) (fun ls' hl => k H locs ls' cells slots ⟨hA.1, hA.2.1, hl, hA.2.2.2⟩)
  · cases hs
theorem xs_6 {pc a b g nx : Nat} {ci : Int32} {di : Int64} {lv : xL} {st : List Value} {h : xH} {F : xF} (C : xCtx p R s m args meth c cc nL own D aC base sp c0 dd ini X) (hk : xok own cc nL ini SW SL pc (6, a, b, g, ci, di, nx) = true) (hs : xsem X SW SL 6 a b g ci di nx lv st h = some F) (hr : xRm R c0 z0 F.2.2.2) (k : xW p l e R s m args below meth c Q nL D aC base sp c0 z0 F) : xW p l e R s m args below meth c Q nL D aC base sp c0 z0 (pc, lv, st, h) := by
  simp only [xok] at hk
  simp only [xsem] at hs
  cases hs
  intro H locs ls cells slots hA
  split at hk
  · obtain ⟨rfl, hdg, hv⟩ := of_decide_eq_true hk
    exact lv_iconst C.1.1 C.1.2.1 hdg hv (k H locs ls cells slots hA)
  · obtain ⟨rfl, hdg, hv⟩ := of_decide_eq_true hk
    exact lv_bipush C.1.1 C.1.2.1 hdg hv (k H locs ls cells slots hA)
  · obtain ⟨rfl, hdg, hv⟩ := of_decide_eq_true hk
    exact lv_sipush C.1.1 C.1.2.1 hdg hv (k H locs ls cells slots hA)
  · obtain ⟨rfl, hdg, hv⟩ := of_decide_eq_true hk
    exact lv_ldc C.1.1 C.1.2.1 C.1.2.2.2 (C.2.1 _ (xgd hv rfl)) hdg (k H locs ls cells slots hA)
  · obtain ⟨rfl, hdg, hv⟩ := of_decide_eq_true hk
    exact lv_ldcw C.1.1 C.1.2.1 C.1.2.2.2 (C.2.1 _ (xgd hv rfl)) hdg (k H locs ls cells slots hA)
theorem xs_7 {pc a b g nx : Nat} {ci : Int32} {di : Int64} {lv : xL} {st : List Value} {h : xH} {F : xF} (C : xCtx p R s m args meth c cc nL own D aC base sp c0 dd ini X) (hk : xok own cc nL ini SW SL pc (7, a, b, g, ci, di, nx) = true) (hs : xsem X SW SL 7 a b g ci di nx lv st h = some F) (hr : xRm R c0 z0 F.2.2.2) (k : xW p l e R s m args below meth c Q nL D aC base sp c0 z0 F) : xW p l e R s m args below meth c Q nL D aC base sp c0 z0 (pc, lv, st, h) := by
  simp only [xok] at hk
  simp only [xsem] at hs
  cases hs
  intro H locs ls cells slots hA
  split at hk
  · obtain ⟨rfl, hdg, hv⟩ := of_decide_eq_true hk
    exact lv_lconst C.1.1 C.1.2.1 hdg hv (k H locs ls cells slots hA)
  · obtain ⟨rfl, hdg, hv⟩ := of_decide_eq_true hk
    exact lv_ldc2 C.1.1 C.1.2.1 C.1.2.2.2 (C.2.1 _ (xgd hv rfl)) hdg (k H locs ls cells slots hA)
theorem xs_8 {pc a b g nx : Nat} {ci : Int32} {di : Int64} {lv : xL} {st : List Value} {h : xH} {F : xF} (C : xCtx p R s m args meth c cc nL own D aC base sp c0 dd ini X) (hk : xok own cc nL ini SW SL pc (8, a, b, g, ci, di, nx) = true) (hs : xsem X SW SL 8 a b g ci di nx lv st h = some F) (hr : xRm R c0 z0 F.2.2.2) (k : xW p l e R s m args below meth c Q nL D aC base sp c0 z0 F) : xW p l e R s m args below meth c Q nL D aC base sp c0 z0 (pc, lv, st, h) := by
  simp only [xok, decide_eq_true_eq] at hk
  simp only [xsem] at hs
  split at hs
  · rename_i x hx
    cases hs
    obtain ⟨j, hj⟩ := xcl_lk (base := base) (sp := sp) hx
    obtain ⟨hn, rfl, hdg, hv⟩ := hk
    intro H locs ls cells slots hA
    exact lv_iinc C.1.1 C.1.2.1 hdg hA.2.2.1 (k := j) hj (by rw [hv]) hn (xcl_st base sp lv a (.int (x + ci))) (fun ls' hl => k H locs ls' cells slots ⟨hA.1, hA.2.1, hl, hA.2.2.2⟩)
  · cases hs
theorem xs_9 {pc a b g nx : Nat} {ci : Int32} {di : Int64} {lv : xL} {st : List Value} {h : xH} {F : xF} (C : xCtx p R s m args meth c cc nL own D aC base sp c0 dd ini X) (hk : xok own cc nL ini SW SL pc (9, a, b, g, ci, di, nx) = true) (hs : xsem X SW SL 9 a b g ci di nx lv st h = some F) (hr : xRm R c0 z0 F.2.2.2) (k : xW p l e R s m args below meth c Q nL D aC base sp c0 z0 F) : xW p l e R s m args below meth c Q nL D aC base sp c0 z0 (pc, lv, st, h) := by
  simp only [xok, decide_eq_true_eq] at hk
  simp only [xsem] at hs
  split at hs
  · cases hs
    obtain ⟨rfl, hdg⟩ := hk
    intro H locs ls cells slots hA
    exact lv_iadd C.1.1 C.1.2.1 hdg (k H locs ls cells slots hA)
  · cases hs
theorem xs_10 {pc a b g nx : Nat} {ci : Int32} {di : Int64} {lv : xL} {st : List Value} {h : xH} {F : xF} (C : xCtx p R s m args meth c cc nL own D aC base sp c0 dd ini X) (hk : xok own cc nL ini SW SL pc (10, a, b, g, ci, di, nx) = true) (hs : xsem X SW SL 10 a b g ci di nx lv st h = some F) (hr : xRm R c0 z0 F.2.2.2) (k : xW p l e R s m args below meth c Q nL D aC base sp c0 z0 F) : xW p l e R s m args below meth c Q nL D aC base sp c0 z0 (pc, lv, st, h) := by
  simp only [xok, decide_eq_true_eq] at hk
  simp only [xsem] at hs
  split at hs
  · cases hs
    obtain ⟨rfl, hdg⟩ := hk
    intro H locs ls cells slots hA
    exact lv_isub C.1.1 C.1.2.1 hdg (k H locs ls cells slots hA)
  · cases hs
theorem xs_11 {pc a b g nx : Nat} {ci : Int32} {di : Int64} {lv : xL} {st : List Value} {h : xH} {F : xF} (C : xCtx p R s m args meth c cc nL own D aC base sp c0 dd ini X) (hk : xok own cc nL ini SW SL pc (11, a, b, g, ci, di, nx) = true) (hs : xsem X SW SL 11 a b g ci di nx lv st h = some F) (hr : xRm R c0 z0 F.2.2.2) (k : xW p l e R s m args below meth c Q nL D aC base sp c0 z0 F) : xW p l e R s m args below meth c Q nL D aC base sp c0 z0 (pc, lv, st, h) := by
  simp only [xok, decide_eq_true_eq] at hk
  simp only [xsem] at hs
  split at hs
  · cases hs
    obtain ⟨rfl, hdg⟩ := hk
    intro H locs ls cells slots hA
    exact lv_imul C.1.1 C.1.2.1 hdg (k H locs ls cells slots hA)
  · cases hs
theorem xs_12 {pc a b g nx : Nat} {ci : Int32} {di : Int64} {lv : xL} {st : List Value} {h : xH} {F : xF} (C : xCtx p R s m args meth c cc nL own D aC base sp c0 dd ini X) (hk : xok own cc nL ini SW SL pc (12, a, b, g, ci, di, nx) = true) (hs : xsem X SW SL 12 a b g ci di nx lv st h = some F) (hr : xRm R c0 z0 F.2.2.2) (k : xW p l e R s m args below meth c Q nL D aC base sp c0 z0 F) : xW p l e R s m args below meth c Q nL D aC base sp c0 z0 (pc, lv, st, h) := by
  simp only [xok, decide_eq_true_eq] at hk
  simp only [xsem] at hs
  split at hs
  · cases hs
    obtain ⟨rfl, hdg⟩ := hk
    intro H locs ls cells slots hA
    exact lv_iand C.1.1 C.1.2.1 hdg (k H locs ls cells slots hA)
  · cases hs
theorem xs_13 {pc a b g nx : Nat} {ci : Int32} {di : Int64} {lv : xL} {st : List Value} {h : xH} {F : xF} (C : xCtx p R s m args meth c cc nL own D aC base sp c0 dd ini X) (hk : xok own cc nL ini SW SL pc (13, a, b, g, ci, di, nx) = true) (hs : xsem X SW SL 13 a b g ci di nx lv st h = some F) (hr : xRm R c0 z0 F.2.2.2) (k : xW p l e R s m args below meth c Q nL D aC base sp c0 z0 F) : xW p l e R s m args below meth c Q nL D aC base sp c0 z0 (pc, lv, st, h) := by
  simp only [xok, decide_eq_true_eq] at hk
  simp only [xsem] at hs
  split at hs
  · cases hs
    obtain ⟨rfl, hdg⟩ := hk
    intro H locs ls cells slots hA
    exact lv_ior C.1.1 C.1.2.1 hdg (k H locs ls cells slots hA)
  · cases hs
theorem xs_14 {pc a b g nx : Nat} {ci : Int32} {di : Int64} {lv : xL} {st : List Value} {h : xH} {F : xF} (C : xCtx p R s m args meth c cc nL own D aC base sp c0 dd ini X) (hk : xok own cc nL ini SW SL pc (14, a, b, g, ci, di, nx) = true) (hs : xsem X SW SL 14 a b g ci di nx lv st h = some F) (hr : xRm R c0 z0 F.2.2.2) (k : xW p l e R s m args below meth c Q nL D aC base sp c0 z0 F) : xW p l e R s m args below meth c Q nL D aC base sp c0 z0 (pc, lv, st, h) := by
  simp only [xok, decide_eq_true_eq] at hk
  simp only [xsem] at hs
  split at hs
  · cases hs
    obtain ⟨rfl, hdg⟩ := hk
    intro H locs ls cells slots hA
    exact lv_ixor C.1.1 C.1.2.1 hdg (k H locs ls cells slots hA)
  · cases hs
theorem xs_15 {pc a b g nx : Nat} {ci : Int32} {di : Int64} {lv : xL} {st : List Value} {h : xH} {F : xF} (C : xCtx p R s m args meth c cc nL own D aC base sp c0 dd ini X) (hk : xok own cc nL ini SW SL pc (15, a, b, g, ci, di, nx) = true) (hs : xsem X SW SL 15 a b g ci di nx lv st h = some F) (hr : xRm R c0 z0 F.2.2.2) (k : xW p l e R s m args below meth c Q nL D aC base sp c0 z0 F) : xW p l e R s m args below meth c Q nL D aC base sp c0 z0 (pc, lv, st, h) := by
  simp only [xok, decide_eq_true_eq] at hk
  simp only [xsem] at hs
  split at hs
  · cases hs
    obtain ⟨rfl, hdg⟩ := hk
    intro H locs ls cells slots hA
    exact lv_ishl C.1.1 C.1.2.1 hdg (k H locs ls cells slots hA)
  · cases hs
theorem xs_16 {pc a b g nx : Nat} {ci : Int32} {di : Int64} {lv : xL} {st : List Value} {h : xH} {F : xF} (C : xCtx p R s m args meth c cc nL own D aC base sp c0 dd ini X) (hk : xok own cc nL ini SW SL pc (16, a, b, g, ci, di, nx) = true) (hs : xsem X SW SL 16 a b g ci di nx lv st h = some F) (hr : xRm R c0 z0 F.2.2.2) (k : xW p l e R s m args below meth c Q nL D aC base sp c0 z0 F) : xW p l e R s m args below meth c Q nL D aC base sp c0 z0 (pc, lv, st, h) := by
  simp only [xok, decide_eq_true_eq] at hk
  simp only [xsem] at hs
  split at hs
  · cases hs
    obtain ⟨rfl, hdg⟩ := hk
    intro H locs ls cells slots hA
    exact lv_ishr C.1.1 C.1.2.1 hdg (k H locs ls cells slots hA)
  · cases hs
theorem xs_20 {pc a b g nx : Nat} {ci : Int32} {di : Int64} {lv : xL} {st : List Value} {h : xH} {F : xF} (C : xCtx p R s m args meth c cc nL own D aC base sp c0 dd ini X) (hk : xok own cc nL ini SW SL pc (20, a, b, g, ci, di, nx) = true) (hs : xsem X SW SL 20 a b g ci di nx lv st h = some F) (hr : xRm R c0 z0 F.2.2.2) (k : xW p l e R s m args below meth c Q nL D aC base sp c0 z0 F) : xW p l e R s m args below meth c Q nL D aC base sp c0 z0 (pc, lv, st, h) := by
  simp only [xok, decide_eq_true_eq] at hk
  simp only [xsem] at hs
  split at hs
  · cases hs
    obtain ⟨rfl, hdg⟩ := hk
    intro H locs ls cells slots hA
    exact lv_ladd C.1.1 C.1.2.1 hdg (k H locs ls cells slots hA)
  · cases hs
theorem xs_21 {pc a b g nx : Nat} {ci : Int32} {di : Int64} {lv : xL} {st : List Value} {h : xH} {F : xF} (C : xCtx p R s m args meth c cc nL own D aC base sp c0 dd ini X) (hk : xok own cc nL ini SW SL pc (21, a, b, g, ci, di, nx) = true) (hs : xsem X SW SL 21 a b g ci di nx lv st h = some F) (hr : xRm R c0 z0 F.2.2.2) (k : xW p l e R s m args below meth c Q nL D aC base sp c0 z0 F) : xW p l e R s m args below meth c Q nL D aC base sp c0 z0 (pc, lv, st, h) := by
  simp only [xok, decide_eq_true_eq] at hk
  simp only [xsem] at hs
  split at hs
  · cases hs
    obtain ⟨rfl, hdg⟩ := hk
    intro H locs ls cells slots hA
    exact lv_lsub C.1.1 C.1.2.1 hdg (k H locs ls cells slots hA)
  · cases hs
theorem xs_22 {pc a b g nx : Nat} {ci : Int32} {di : Int64} {lv : xL} {st : List Value} {h : xH} {F : xF} (C : xCtx p R s m args meth c cc nL own D aC base sp c0 dd ini X) (hk : xok own cc nL ini SW SL pc (22, a, b, g, ci, di, nx) = true) (hs : xsem X SW SL 22 a b g ci di nx lv st h = some F) (hr : xRm R c0 z0 F.2.2.2) (k : xW p l e R s m args below meth c Q nL D aC base sp c0 z0 F) : xW p l e R s m args below meth c Q nL D aC base sp c0 z0 (pc, lv, st, h) := by
  simp only [xok, decide_eq_true_eq] at hk
  simp only [xsem] at hs
  split at hs
  · cases hs
    obtain ⟨rfl, hdg⟩ := hk
    intro H locs ls cells slots hA
    exact lv_lmul C.1.1 C.1.2.1 hdg (k H locs ls cells slots hA)
  · cases hs
theorem xs_23 {pc a b g nx : Nat} {ci : Int32} {di : Int64} {lv : xL} {st : List Value} {h : xH} {F : xF} (C : xCtx p R s m args meth c cc nL own D aC base sp c0 dd ini X) (hk : xok own cc nL ini SW SL pc (23, a, b, g, ci, di, nx) = true) (hs : xsem X SW SL 23 a b g ci di nx lv st h = some F) (hr : xRm R c0 z0 F.2.2.2) (k : xW p l e R s m args below meth c Q nL D aC base sp c0 z0 F) : xW p l e R s m args below meth c Q nL D aC base sp c0 z0 (pc, lv, st, h) := by
  simp only [xok, decide_eq_true_eq] at hk
  simp only [xsem] at hs
  split at hs
  · cases hs
    obtain ⟨rfl, hdg⟩ := hk
    intro H locs ls cells slots hA
    exact lv_land C.1.1 C.1.2.1 hdg (k H locs ls cells slots hA)
  · cases hs
theorem xs_24 {pc a b g nx : Nat} {ci : Int32} {di : Int64} {lv : xL} {st : List Value} {h : xH} {F : xF} (C : xCtx p R s m args meth c cc nL own D aC base sp c0 dd ini X) (hk : xok own cc nL ini SW SL pc (24, a, b, g, ci, di, nx) = true) (hs : xsem X SW SL 24 a b g ci di nx lv st h = some F) (hr : xRm R c0 z0 F.2.2.2) (k : xW p l e R s m args below meth c Q nL D aC base sp c0 z0 F) : xW p l e R s m args below meth c Q nL D aC base sp c0 z0 (pc, lv, st, h) := by
  simp only [xok, decide_eq_true_eq] at hk
  simp only [xsem] at hs
  split at hs
  · cases hs
    obtain ⟨rfl, hdg⟩ := hk
    intro H locs ls cells slots hA
    exact lv_lor C.1.1 C.1.2.1 hdg (k H locs ls cells slots hA)
  · cases hs
theorem xs_17 {pc a b g nx : Nat} {ci : Int32} {di : Int64} {lv : xL} {st : List Value} {h : xH} {F : xF} (C : xCtx p R s m args meth c cc nL own D aC base sp c0 dd ini X) (hk : xok own cc nL ini SW SL pc (17, a, b, g, ci, di, nx) = true) (hs : xsem X SW SL 17 a b g ci di nx lv st h = some F) (hr : xRm R c0 z0 F.2.2.2) (k : xW p l e R s m args below meth c Q nL D aC base sp c0 z0 F) : xW p l e R s m args below meth c Q nL D aC base sp c0 z0 (pc, lv, st, h) := by
  simp only [xok, decide_eq_true_eq] at hk
  simp only [xsem] at hs
  split at hs
  · cases hs
    obtain ⟨rfl, hdg⟩ := hk
    intro H locs ls cells slots hA
    exact lv_iushr C.1.1 C.1.2.1 hdg rfl (k H locs ls cells slots hA)
  · cases hs
theorem xs_28 {pc a b g nx : Nat} {ci : Int32} {di : Int64} {lv : xL} {st : List Value} {h : xH} {F : xF} (C : xCtx p R s m args meth c cc nL own D aC base sp c0 dd ini X) (hk : xok own cc nL ini SW SL pc (28, a, b, g, ci, di, nx) = true) (hs : xsem X SW SL 28 a b g ci di nx lv st h = some F) (hr : xRm R c0 z0 F.2.2.2) (k : xW p l e R s m args below meth c Q nL D aC base sp c0 z0 F) : xW p l e R s m args below meth c Q nL D aC base sp c0 z0 (pc, lv, st, h) := by
  simp only [xok, decide_eq_true_eq] at hk
  simp only [xsem] at hs
  split at hs
  · cases hs
    obtain ⟨rfl, hdg⟩ := hk
    intro H locs ls cells slots hA
    exact lv_i2l C.1.1 C.1.2.1 hdg rfl (k H locs ls cells slots hA)
  · cases hs
theorem xs_29 {pc a b g nx : Nat} {ci : Int32} {di : Int64} {lv : xL} {st : List Value} {h : xH} {F : xF} (C : xCtx p R s m args meth c cc nL own D aC base sp c0 dd ini X) (hk : xok own cc nL ini SW SL pc (29, a, b, g, ci, di, nx) = true) (hs : xsem X SW SL 29 a b g ci di nx lv st h = some F) (hr : xRm R c0 z0 F.2.2.2) (k : xW p l e R s m args below meth c Q nL D aC base sp c0 z0 F) : xW p l e R s m args below meth c Q nL D aC base sp c0 z0 (pc, lv, st, h) := by
  simp only [xok, decide_eq_true_eq] at hk
  simp only [xsem] at hs
  split at hs
  · cases hs
    obtain ⟨rfl, hdg⟩ := hk
    intro H locs ls cells slots hA
    exact lv_l2i C.1.1 C.1.2.1 hdg rfl (k H locs ls cells slots hA)
  · cases hs
theorem xs_30 {pc a b g nx : Nat} {ci : Int32} {di : Int64} {lv : xL} {st : List Value} {h : xH} {F : xF} (C : xCtx p R s m args meth c cc nL own D aC base sp c0 dd ini X) (hk : xok own cc nL ini SW SL pc (30, a, b, g, ci, di, nx) = true) (hs : xsem X SW SL 30 a b g ci di nx lv st h = some F) (hr : xRm R c0 z0 F.2.2.2) (k : xW p l e R s m args below meth c Q nL D aC base sp c0 z0 F) : xW p l e R s m args below meth c Q nL D aC base sp c0 z0 (pc, lv, st, h) := by
  simp only [xok, decide_eq_true_eq] at hk
  simp only [xsem] at hs
  split at hs
  · cases hs
    obtain ⟨rfl, hdg⟩ := hk
    intro H locs ls cells slots hA
    exact lv_i2b C.1.1 C.1.2.1 hdg rfl (k H locs ls cells slots hA)
  · cases hs
theorem xs_18 {pc a b g nx : Nat} {ci : Int32} {di : Int64} {lv : xL} {st : List Value} {h : xH} {F : xF} (C : xCtx p R s m args meth c cc nL own D aC base sp c0 dd ini X) (hk : xok own cc nL ini SW SL pc (18, a, b, g, ci, di, nx) = true) (hs : xsem X SW SL 18 a b g ci di nx lv st h = some F) (hr : xRm R c0 z0 F.2.2.2) (k : xW p l e R s m args below meth c Q nL D aC base sp c0 z0 F) : xW p l e R s m args below meth c Q nL D aC base sp c0 z0 (pc, lv, st, h) := by
  simp only [xok, decide_eq_true_eq] at hk
  simp only [xsem] at hs
  split at hs
  · split at hs
    · cases hs
    · rename_i hy
      cases hs
      obtain ⟨rfl, hdg⟩ := hk
      intro H locs ls cells slots hA
      exact lv_idiv C.1.1 C.1.2.1 hdg hy (k H locs ls cells slots hA)
  · cases hs
theorem xs_19 {pc a b g nx : Nat} {ci : Int32} {di : Int64} {lv : xL} {st : List Value} {h : xH} {F : xF} (C : xCtx p R s m args meth c cc nL own D aC base sp c0 dd ini X) (hk : xok own cc nL ini SW SL pc (19, a, b, g, ci, di, nx) = true) (hs : xsem X SW SL 19 a b g ci di nx lv st h = some F) (hr : xRm R c0 z0 F.2.2.2) (k : xW p l e R s m args below meth c Q nL D aC base sp c0 z0 F) : xW p l e R s m args below meth c Q nL D aC base sp c0 z0 (pc, lv, st, h) := by
  simp only [xok, decide_eq_true_eq] at hk
  simp only [xsem] at hs
  split at hs
  · split at hs
    · cases hs
    · rename_i hy
      cases hs
      obtain ⟨rfl, hdg⟩ := hk
      intro H locs ls cells slots hA
      exact lv_irem C.1.1 C.1.2.1 hdg hy (k H locs ls cells slots hA)
  · cases hs
theorem xs_25 {pc a b g nx : Nat} {ci : Int32} {di : Int64} {lv : xL} {st : List Value} {h : xH} {F : xF} (C : xCtx p R s m args meth c cc nL own D aC base sp c0 dd ini X) (hk : xok own cc nL ini SW SL pc (25, a, b, g, ci, di, nx) = true) (hs : xsem X SW SL 25 a b g ci di nx lv st h = some F) (hr : xRm R c0 z0 F.2.2.2) (k : xW p l e R s m args below meth c Q nL D aC base sp c0 z0 F) : xW p l e R s m args below meth c Q nL D aC base sp c0 z0 (pc, lv, st, h) := by
  simp only [xok, decide_eq_true_eq] at hk
  simp only [xsem] at hs
  split at hs
  · split at hs
    · cases hs
    · rename_i hy
      cases hs
      obtain ⟨rfl, hdg⟩ := hk
      intro H locs ls cells slots hA
      exact lv_ldiv C.1.1 C.1.2.1 hdg hy (k H locs ls cells slots hA)
  · cases hs
theorem xs_26 {pc a b g nx : Nat} {ci : Int32} {di : Int64} {lv : xL} {st : List Value} {h : xH} {F : xF} (C : xCtx p R s m args meth c cc nL own D aC base sp c0 dd ini X) (hk : xok own cc nL ini SW SL pc (26, a, b, g, ci, di, nx) = true) (hs : xsem X SW SL 26 a b g ci di nx lv st h = some F) (hr : xRm R c0 z0 F.2.2.2) (k : xW p l e R s m args below meth c Q nL D aC base sp c0 z0 F) : xW p l e R s m args below meth c Q nL D aC base sp c0 z0 (pc, lv, st, h) := by
  simp only [xok, decide_eq_true_eq] at hk
  simp only [xsem] at hs
  split at hs
  · split at hs
    · cases hs
    · rename_i hy
      cases hs
      obtain ⟨rfl, hdg⟩ := hk
      intro H locs ls cells slots hA
      exact lv_lrem C.1.1 C.1.2.1 hdg hy (k H locs ls cells slots hA)
  · cases hs
theorem xs_27 {pc a b g nx : Nat} {ci : Int32} {di : Int64} {lv : xL} {st : List Value} {h : xH} {F : xF} (C : xCtx p R s m args meth c cc nL own D aC base sp c0 dd ini X) (hk : xok own cc nL ini SW SL pc (27, a, b, g, ci, di, nx) = true) (hs : xsem X SW SL 27 a b g ci di nx lv st h = some F) (hr : xRm R c0 z0 F.2.2.2) (k : xW p l e R s m args below meth c Q nL D aC base sp c0 z0 F) : xW p l e R s m args below meth c Q nL D aC base sp c0 z0 (pc, lv, st, h) := by
  simp only [xok, decide_eq_true_eq] at hk
  simp only [xsem] at hs
  split at hs
  · cases hs
    obtain ⟨rfl, hdg⟩ := hk
    intro H locs ls cells slots hA
    exact W.lcmp C.1.1 C.1.2.1 hdg (k H locs ls cells slots hA)
  · cases hs
theorem xs_31 {pc a b g nx : Nat} {ci : Int32} {di : Int64} {lv : xL} {st : List Value} {h : xH} {F : xF} (C : xCtx p R s m args meth c cc nL own D aC base sp c0 dd ini X) (hk : xok own cc nL ini SW SL pc (31, a, b, g, ci, di, nx) = true) (hs : xsem X SW SL 31 a b g ci di nx lv st h = some F) (hr : xRm R c0 z0 F.2.2.2) (k : xW p l e R s m args below meth c Q nL D aC base sp c0 z0 F) : xW p l e R s m args below meth c Q nL D aC base sp c0 z0 (pc, lv, st, h) := by
  simp only [xok, decide_eq_true_eq] at hk
  simp only [xsem] at hs
  split at hs
  · cases hs
    obtain ⟨rfl, hdg⟩ := hk
    intro H locs ls cells slots hA
    exact lv_dup C.1.1 C.1.2.1 hdg rfl (k H locs ls cells slots hA)
  · cases hs
    obtain ⟨rfl, hdg⟩ := hk
    intro H locs ls cells slots hA
    exact lv_dup C.1.1 C.1.2.1 hdg rfl (k H locs ls cells slots hA)
  · cases hs
theorem xs_32 {pc a b g nx : Nat} {ci : Int32} {di : Int64} {lv : xL} {st : List Value} {h : xH} {F : xF} (C : xCtx p R s m args meth c cc nL own D aC base sp c0 dd ini X) (hk : xok own cc nL ini SW SL pc (32, a, b, g, ci, di, nx) = true) (hs : xsem X SW SL 32 a b g ci di nx lv st h = some F) (hr : xRm R c0 z0 F.2.2.2) (k : xW p l e R s m args below meth c Q nL D aC base sp c0 z0 F) : xW p l e R s m args below meth c Q nL D aC base sp c0 z0 (pc, lv, st, h) := by
  simp only [xok, decide_eq_true_eq] at hk
  simp only [xsem] at hs
  split at hs
  · cases hs
    obtain ⟨rfl, hdg⟩ := hk
    intro H locs ls cells slots hA
    exact lv_dup2_11 C.1.1 C.1.2.1 hdg rfl rfl (k H locs ls cells slots hA)
  · cases hs
theorem xs_33 {pc a b g nx : Nat} {ci : Int32} {di : Int64} {lv : xL} {st : List Value} {h : xH} {F : xF} (C : xCtx p R s m args meth c cc nL own D aC base sp c0 dd ini X) (hk : xok own cc nL ini SW SL pc (33, a, b, g, ci, di, nx) = true) (hs : xsem X SW SL 33 a b g ci di nx lv st h = some F) (hr : xRm R c0 z0 F.2.2.2) (k : xW p l e R s m args below meth c Q nL D aC base sp c0 z0 F) : xW p l e R s m args below meth c Q nL D aC base sp c0 z0 (pc, lv, st, h) := by
  simp only [xok, decide_eq_true_eq] at hk
  simp only [xsem] at hs
  split at hs
  · rename_i x r
    cases hs
    obtain ⟨rfl, hdg⟩ := hk
    intro H locs ls cells slots hA
    exact lv_pop (va := .int x) C.1.1 C.1.2.1 hdg rfl (k H locs ls cells slots hA)
  · rename_i x r
    cases hs
    obtain ⟨rfl, hdg⟩ := hk
    intro H locs ls cells slots hA
    exact lv_pop (va := .ref (base + x)) C.1.1 C.1.2.1 hdg rfl (k H locs ls cells slots hA)
  · cases hs
theorem xs_34 {pc a b g nx : Nat} {ci : Int32} {di : Int64} {lv : xL} {st : List Value} {h : xH} {F : xF} (C : xCtx p R s m args meth c cc nL own D aC base sp c0 dd ini X) (hk : xok own cc nL ini SW SL pc (34, a, b, g, ci, di, nx) = true) (hs : xsem X SW SL 34 a b g ci di nx lv st h = some F) (hr : xRm R c0 z0 F.2.2.2) (k : xW p l e R s m args below meth c Q nL D aC base sp c0 z0 F) : xW p l e R s m args below meth c Q nL D aC base sp c0 z0 (pc, lv, st, h) := by
  simp only [xok, decide_eq_true_eq] at hk
  simp only [xsem] at hs
  obtain ⟨rfl, hdg⟩ := hk
  intro H locs ls cells slots hA
  split at hs
  · split at hs
    · rename_i hc
      cases hs
      exact lv_if_eq (tgt := a) C.1.1 C.1.2.1 hdg (by omega) (fun _ => k H locs ls cells slots hA) (fun hq => absurd hc hq)
    · rename_i hc
      cases hs
      exact lv_if_eq (tgt := a) C.1.1 C.1.2.1 hdg (by omega) (fun hq => absurd hq hc) (fun _ => k H locs ls cells slots hA)
  · cases hs
theorem xs_40 {pc a b g nx : Nat} {ci : Int32} {di : Int64} {lv : xL} {st : List Value} {h : xH} {F : xF} (C : xCtx p R s m args meth c cc nL own D aC base sp c0 dd ini X) (hk : xok own cc nL ini SW SL pc (40, a, b, g, ci, di, nx) = true) (hs : xsem X SW SL 40 a b g ci di nx lv st h = some F) (hr : xRm R c0 z0 F.2.2.2) (k : xW p l e R s m args below meth c Q nL D aC base sp c0 z0 F) : xW p l e R s m args below meth c Q nL D aC base sp c0 z0 (pc, lv, st, h) := by
  simp only [xok, decide_eq_true_eq] at hk
  simp only [xsem] at hs
  obtain ⟨rfl, hdg⟩ := hk
  intro H locs ls cells slots hA
  split at hs
  · split at hs
    · rename_i hc
      cases hs
      exact lv_icmp_eq (tgt := a) C.1.1 C.1.2.1 hdg (by omega) (fun _ => k H locs ls cells slots hA) (fun hq => absurd hc hq)
    · rename_i hc
      cases hs
      exact lv_icmp_eq (tgt := a) C.1.1 C.1.2.1 hdg (by omega) (fun hq => absurd hq hc) (fun _ => k H locs ls cells slots hA)
  · cases hs
theorem xs_35 {pc a b g nx : Nat} {ci : Int32} {di : Int64} {lv : xL} {st : List Value} {h : xH} {F : xF} (C : xCtx p R s m args meth c cc nL own D aC base sp c0 dd ini X) (hk : xok own cc nL ini SW SL pc (35, a, b, g, ci, di, nx) = true) (hs : xsem X SW SL 35 a b g ci di nx lv st h = some F) (hr : xRm R c0 z0 F.2.2.2) (k : xW p l e R s m args below meth c Q nL D aC base sp c0 z0 F) : xW p l e R s m args below meth c Q nL D aC base sp c0 z0 (pc, lv, st, h) := by
  simp only [xok, decide_eq_true_eq] at hk
  simp only [xsem] at hs
  obtain ⟨rfl, hdg⟩ := hk
  intro H locs ls cells slots hA
  split at hs
  · split at hs
    · rename_i hc
      cases hs
      exact lv_if_ne (tgt := a) C.1.1 C.1.2.1 hdg (by omega) (fun hq => absurd hc hq) (fun _ => k H locs ls cells slots hA)
    · rename_i hc
      cases hs
      exact lv_if_ne (tgt := a) C.1.1 C.1.2.1 hdg (by omega) (fun _ => k H locs ls cells slots hA) (fun hq => absurd hq hc)
  · cases hs
theorem xs_41 {pc a b g nx : Nat} {ci : Int32} {di : Int64} {lv : xL} {st : List Value} {h : xH} {F : xF} (C : xCtx p R s m args meth c cc nL own D aC base sp c0 dd ini X) (hk : xok own cc nL ini SW SL pc (41, a, b, g, ci, di, nx) = true) (hs : xsem X SW SL 41 a b g ci di nx lv st h = some F) (hr : xRm R c0 z0 F.2.2.2) (k : xW p l e R s m args below meth c Q nL D aC base sp c0 z0 F) : xW p l e R s m args below meth c Q nL D aC base sp c0 z0 (pc, lv, st, h) := by
  simp only [xok, decide_eq_true_eq] at hk
  simp only [xsem] at hs
  obtain ⟨rfl, hdg⟩ := hk
  intro H locs ls cells slots hA
  split at hs
  · split at hs
    · rename_i hc
      cases hs
      exact lv_icmp_ne (tgt := a) C.1.1 C.1.2.1 hdg (by omega) (fun hq => absurd hc hq) (fun _ => k H locs ls cells slots hA)
    · rename_i hc
      cases hs
      exact lv_icmp_ne (tgt := a) C.1.1 C.1.2.1 hdg (by omega) (fun _ => k H locs ls cells slots hA) (fun hq => absurd hq hc)
  · cases hs
theorem xs_36 {pc a b g nx : Nat} {ci : Int32} {di : Int64} {lv : xL} {st : List Value} {h : xH} {F : xF} (C : xCtx p R s m args meth c cc nL own D aC base sp c0 dd ini X) (hk : xok own cc nL ini SW SL pc (36, a, b, g, ci, di, nx) = true) (hs : xsem X SW SL 36 a b g ci di nx lv st h = some F) (hr : xRm R c0 z0 F.2.2.2) (k : xW p l e R s m args below meth c Q nL D aC base sp c0 z0 F) : xW p l e R s m args below meth c Q nL D aC base sp c0 z0 (pc, lv, st, h) := by
  simp only [xok, decide_eq_true_eq] at hk
  simp only [xsem] at hs
  obtain ⟨rfl, hdg⟩ := hk
  intro H locs ls cells slots hA
  split at hs
  · split at hs
    · rename_i hc
      cases hs
      exact lv_if_lt (tgt := a) C.1.1 C.1.2.1 hdg (by omega) (fun _ => k H locs ls cells slots hA) (fun hq => absurd hc hq)
    · rename_i hc
      cases hs
      exact lv_if_lt (tgt := a) C.1.1 C.1.2.1 hdg (by omega) (fun hq => absurd hq hc) (fun _ => k H locs ls cells slots hA)
  · cases hs
theorem xs_42 {pc a b g nx : Nat} {ci : Int32} {di : Int64} {lv : xL} {st : List Value} {h : xH} {F : xF} (C : xCtx p R s m args meth c cc nL own D aC base sp c0 dd ini X) (hk : xok own cc nL ini SW SL pc (42, a, b, g, ci, di, nx) = true) (hs : xsem X SW SL 42 a b g ci di nx lv st h = some F) (hr : xRm R c0 z0 F.2.2.2) (k : xW p l e R s m args below meth c Q nL D aC base sp c0 z0 F) : xW p l e R s m args below meth c Q nL D aC base sp c0 z0 (pc, lv, st, h) := by
  simp only [xok, decide_eq_true_eq] at hk
  simp only [xsem] at hs
  obtain ⟨rfl, hdg⟩ := hk
  intro H locs ls cells slots hA
  split at hs
  · split at hs
    · rename_i hc
      cases hs
      exact lv_icmp_lt (tgt := a) C.1.1 C.1.2.1 hdg (by omega) (fun _ => k H locs ls cells slots hA) (fun hq => absurd hc hq)
    · rename_i hc
      cases hs
      exact lv_icmp_lt (tgt := a) C.1.1 C.1.2.1 hdg (by omega) (fun hq => absurd hq hc) (fun _ => k H locs ls cells slots hA)
  · cases hs
theorem xs_37 {pc a b g nx : Nat} {ci : Int32} {di : Int64} {lv : xL} {st : List Value} {h : xH} {F : xF} (C : xCtx p R s m args meth c cc nL own D aC base sp c0 dd ini X) (hk : xok own cc nL ini SW SL pc (37, a, b, g, ci, di, nx) = true) (hs : xsem X SW SL 37 a b g ci di nx lv st h = some F) (hr : xRm R c0 z0 F.2.2.2) (k : xW p l e R s m args below meth c Q nL D aC base sp c0 z0 F) : xW p l e R s m args below meth c Q nL D aC base sp c0 z0 (pc, lv, st, h) := by
  simp only [xok, decide_eq_true_eq] at hk
  simp only [xsem] at hs
  obtain ⟨rfl, hdg⟩ := hk
  intro H locs ls cells slots hA
  split at hs
  · split at hs
    · rename_i hc
      cases hs
      exact lv_if_ge (tgt := a) C.1.1 C.1.2.1 hdg (by omega) (fun _ => k H locs ls cells slots hA) (fun hq => absurd hc hq)
    · rename_i hc
      cases hs
      exact lv_if_ge (tgt := a) C.1.1 C.1.2.1 hdg (by omega) (fun hq => absurd hq hc) (fun _ => k H locs ls cells slots hA)
  · cases hs
theorem xs_43 {pc a b g nx : Nat} {ci : Int32} {di : Int64} {lv : xL} {st : List Value} {h : xH} {F : xF} (C : xCtx p R s m args meth c cc nL own D aC base sp c0 dd ini X) (hk : xok own cc nL ini SW SL pc (43, a, b, g, ci, di, nx) = true) (hs : xsem X SW SL 43 a b g ci di nx lv st h = some F) (hr : xRm R c0 z0 F.2.2.2) (k : xW p l e R s m args below meth c Q nL D aC base sp c0 z0 F) : xW p l e R s m args below meth c Q nL D aC base sp c0 z0 (pc, lv, st, h) := by
  simp only [xok, decide_eq_true_eq] at hk
  simp only [xsem] at hs
  obtain ⟨rfl, hdg⟩ := hk
  intro H locs ls cells slots hA
  split at hs
  · split at hs
    · rename_i hc
      cases hs
      exact lv_icmp_ge (tgt := a) C.1.1 C.1.2.1 hdg (by omega) (fun _ => k H locs ls cells slots hA) (fun hq => absurd hc hq)
    · rename_i hc
      cases hs
      exact lv_icmp_ge (tgt := a) C.1.1 C.1.2.1 hdg (by omega) (fun hq => absurd hq hc) (fun _ => k H locs ls cells slots hA)
  · cases hs
theorem xs_38 {pc a b g nx : Nat} {ci : Int32} {di : Int64} {lv : xL} {st : List Value} {h : xH} {F : xF} (C : xCtx p R s m args meth c cc nL own D aC base sp c0 dd ini X) (hk : xok own cc nL ini SW SL pc (38, a, b, g, ci, di, nx) = true) (hs : xsem X SW SL 38 a b g ci di nx lv st h = some F) (hr : xRm R c0 z0 F.2.2.2) (k : xW p l e R s m args below meth c Q nL D aC base sp c0 z0 F) : xW p l e R s m args below meth c Q nL D aC base sp c0 z0 (pc, lv, st, h) := by
  simp only [xok, decide_eq_true_eq] at hk
  simp only [xsem] at hs
  obtain ⟨rfl, hdg⟩ := hk
  intro H locs ls cells slots hA
  split at hs
  · split at hs
    · rename_i hc
      cases hs
      exact lv_if_gt (tgt := a) C.1.1 C.1.2.1 hdg (by omega) (fun _ => k H locs ls cells slots hA) (fun hq => absurd hc hq)
    · rename_i hc
      cases hs
      exact lv_if_gt (tgt := a) C.1.1 C.1.2.1 hdg (by omega) (fun hq => absurd hq hc) (fun _ => k H locs ls cells slots hA)
  · cases hs
theorem xs_44 {pc a b g nx : Nat} {ci : Int32} {di : Int64} {lv : xL} {st : List Value} {h : xH} {F : xF} (C : xCtx p R s m args meth c cc nL own D aC base sp c0 dd ini X) (hk : xok own cc nL ini SW SL pc (44, a, b, g, ci, di, nx) = true) (hs : xsem X SW SL 44 a b g ci di nx lv st h = some F) (hr : xRm R c0 z0 F.2.2.2) (k : xW p l e R s m args below meth c Q nL D aC base sp c0 z0 F) : xW p l e R s m args below meth c Q nL D aC base sp c0 z0 (pc, lv, st, h) := by
  simp only [xok, decide_eq_true_eq] at hk
  simp only [xsem] at hs
  obtain ⟨rfl, hdg⟩ := hk
  intro H locs ls cells slots hA
  split at hs
  · split at hs
    · rename_i hc
      cases hs
      exact lv_icmp_gt (tgt := a) C.1.1 C.1.2.1 hdg (by omega) (fun _ => k H locs ls cells slots hA) (fun hq => absurd hc hq)
    · rename_i hc
      cases hs
      exact lv_icmp_gt (tgt := a) C.1.1 C.1.2.1 hdg (by omega) (fun hq => absurd hq hc) (fun _ => k H locs ls cells slots hA)
  · cases hs
theorem xs_39 {pc a b g nx : Nat} {ci : Int32} {di : Int64} {lv : xL} {st : List Value} {h : xH} {F : xF} (C : xCtx p R s m args meth c cc nL own D aC base sp c0 dd ini X) (hk : xok own cc nL ini SW SL pc (39, a, b, g, ci, di, nx) = true) (hs : xsem X SW SL 39 a b g ci di nx lv st h = some F) (hr : xRm R c0 z0 F.2.2.2) (k : xW p l e R s m args below meth c Q nL D aC base sp c0 z0 F) : xW p l e R s m args below meth c Q nL D aC base sp c0 z0 (pc, lv, st, h) := by
  simp only [xok, decide_eq_true_eq] at hk
  simp only [xsem] at hs
  obtain ⟨rfl, hdg⟩ := hk
  intro H locs ls cells slots hA
  split at hs
  · split at hs
    · rename_i hc
      cases hs
      exact lv_if_le (tgt := a) C.1.1 C.1.2.1 hdg (by omega) (fun _ => k H locs ls cells slots hA) (fun hq => absurd hc hq)
    · rename_i hc
      cases hs
      exact lv_if_le (tgt := a) C.1.1 C.1.2.1 hdg (by omega) (fun hq => absurd hq hc) (fun _ => k H locs ls cells slots hA)
  · cases hs
theorem xs_45 {pc a b g nx : Nat} {ci : Int32} {di : Int64} {lv : xL} {st : List Value} {h : xH} {F : xF} (C : xCtx p R s m args meth c cc nL own D aC base sp c0 dd ini X) (hk : xok own cc nL ini SW SL pc (45, a, b, g, ci, di, nx) = true) (hs : xsem X SW SL 45 a b g ci di nx lv st h = some F) (hr : xRm R c0 z0 F.2.2.2) (k : xW p l e R s m args below meth c Q nL D aC base sp c0 z0 F) : xW p l e R s m args below meth c Q nL D aC base sp c0 z0 (pc, lv, st, h) := by
  simp only [xok, decide_eq_true_eq] at hk
  simp only [xsem] at hs
  obtain ⟨rfl, hdg⟩ := hk
  intro H locs ls cells slots hA
  split at hs
  · split at hs
    · rename_i hc
      cases hs
      exact lv_icmp_le (tgt := a) C.1.1 C.1.2.1 hdg (by omega) (fun _ => k H locs ls cells slots hA) (fun hq => absurd hc hq)
    · rename_i hc
      cases hs
      exact lv_icmp_le (tgt := a) C.1.1 C.1.2.1 hdg (by omega) (fun hq => absurd hq hc) (fun _ => k H locs ls cells slots hA)
  · cases hs
theorem xs_46 {pc a b g nx : Nat} {ci : Int32} {di : Int64} {lv : xL} {st : List Value} {h : xH} {F : xF} (C : xCtx p R s m args meth c cc nL own D aC base sp c0 dd ini X) (hk : xok own cc nL ini SW SL pc (46, a, b, g, ci, di, nx) = true) (hs : xsem X SW SL 46 a b g ci di nx lv st h = some F) (hr : xRm R c0 z0 F.2.2.2) (k : xW p l e R s m args below meth c Q nL D aC base sp c0 z0 F) : xW p l e R s m args below meth c Q nL D aC base sp c0 z0 (pc, lv, st, h) := by
  simp only [xok, decide_eq_true_eq] at hk
  simp only [xsem] at hs
  cases hs
  intro H locs ls cells slots hA
  exact lv_goto (tgt := a) C.1.1 C.1.2.1 hk (by omega) (k H locs ls cells slots hA)
theorem xs_47 {pc a b g nx : Nat} {ci : Int32} {di : Int64} {lv : xL} {st : List Value} {h : xH} {F : xF} (C : xCtx p R s m args meth c cc nL own D aC base sp c0 dd ini X) (hk : xok own cc nL ini SW SL pc (47, a, b, g, ci, di, nx) = true) (hs : xsem X SW SL 47 a b g ci di nx lv st h = some F) (hr : xRm R c0 z0 F.2.2.2) (k : xW p l e R s m args below meth c Q nL D aC base sp c0 z0 F) : xW p l e R s m args below meth c Q nL D aC base sp c0 z0 (pc, lv, st, h) := by
  simp only [xok, decide_eq_true_eq] at hk
  simp only [xsem] at hs
  obtain ⟨rfl, hdg⟩ := hk
  intro H locs ls cells slots hA
  split at hs
  · cases hs
    exact lv_ifnonnull (tgt := a) C.1.1 C.1.2.1 hdg (by omega) (k H locs ls cells slots hA)
  · cases hs
    exact lv_ifnonnullN C.1.1 C.1.2.1 hdg (k H locs ls cells slots hA)
  · cases hs
end XS
