/-! THE LOOKING UP, by the places of the words in the tables -/
def xch (j : Nat) : List Cond := match j with
  | 0 => k2_sels lw_privs | 1 => tables_1_1 | 2 => tables_1_2 | 3 => tables_1_3 | 4 => tables_1_4 | 5 => tables_1_5 | 6 => tables_1_6 | 7 => tables_1_7 | 8 => tables_1_8 | 9 => tables_1_9 | _ => []
theorem xch_in (j : Nat) : ∀ w ∈ xch j, w ∈ lw_tbl := by
  intro w hw
  unfold lw_tbl tables_1
  match j, hw with
  | 0, hw => exact List.mem_append_left _ hw
  | 1, hw => exact List.mem_append_right _ (List.mem_append_left _ hw)
  | 2, hw => exact List.mem_append_right _ (List.mem_append_right _ (List.mem_append_left _ hw))
  | 3, hw => exact List.mem_append_right _ (List.mem_append_right _ (List.mem_append_right _ (List.mem_append_left _ hw)))
  | 4, hw => exact List.mem_append_right _ (List.mem_append_right _ (List.mem_append_right _ (List.mem_append_right _ (List.mem_append_left _ hw))))
  | 5, hw => exact List.mem_append_right _ (List.mem_append_right _ (List.mem_append_right _ (List.mem_append_right _ (List.mem_append_right _ (List.mem_append_left _ hw)))))
  | 6, hw => exact List.mem_append_right _ (List.mem_append_right _ (List.mem_append_right _ (List.mem_append_right _ (List.mem_append_right _ (List.mem_append_right _ (List.mem_append_left _ hw))))))
  | 7, hw => exact List.mem_append_right _ (List.mem_append_right _ (List.mem_append_right _ (List.mem_append_right _ (List.mem_append_right _ (List.mem_append_right _ (List.mem_append_right _ (List.mem_append_left _ hw)))))))
  | 8, hw => exact List.mem_append_right _ (List.mem_append_right _ (List.mem_append_right _ (List.mem_append_right _ (List.mem_append_right _ (List.mem_append_right _ (List.mem_append_right _ (List.mem_append_right _ (List.mem_append_left _ hw))))))))
  | 9, hw => exact List.mem_append_right _ (List.mem_append_right _ (List.mem_append_right _ (List.mem_append_right _ (List.mem_append_right _ (List.mem_append_right _ (List.mem_append_right _ (List.mem_append_right _ (List.mem_append_right _ hw))))))))
  | _ + 10, hw => cases hw
/-- the place of a word: which of the ten lists, and where there -/
def xat1 (n : Nat) (w : Cond) : Bool := decide ((xch (n / 1000))[n % 1000]? = some w)
theorem xat1_mem {n : Nat} {w : Cond} (h : xat1 n w = true) : w ∈ lw_tbl := xch_in _ w (List.mem_of_getElem? (of_decide_eq_true h))
def xokf (own : String) (cc : ByteArray) (nL : Nat) (ini : Bool) (SW : xSwT) (SL : xSwL) (pc : Nat) (i : xI) (ps : List Nat) : Bool :=
  match i with
  | (op, a, b, g, c, d, nx) => match op with
    | 6 => match b with
      | 3 => decide (nx = pc + 2 ∧ decode cc pc = .ok (.ldc g, 2)) && xat1 (ps.getD 0 0) (Cond.constant own g c)
      | 4 => decide (nx = pc + 3 ∧ decode cc pc = .ok (.ldc_w g, 3)) && xat1 (ps.getD 0 0) (Cond.constant own g c)
      | b => xok own cc nL ini SW SL pc (6, a, b, g, c, d, nx)
    | 7 => match b with
      | 1 => decide (nx = pc + 3 ∧ decode cc pc = .ok (.ldc2_w g, 3)) && xat1 (ps.getD 0 0) (Cond.constantLong own g d)
      | b => xok own cc nL ini SW SL pc (7, a, b, g, c, d, nx)
    | 48 => decide (b < 13 ∧ a < xN b ∧ nx = pc + 3 ∧ decode cc pc = .ok (.getfield g, 3) ∧ (xTT b a).1 = xRR b ∧ xtc (xty b a) = 0) && xat1 (ps.getD 0 0) (Cond.fieldLink own g (xRR b) (xTT b a).2.1 (xTT b a).2.2.1)
    | 49 => decide (b < 13 ∧ a < xN b ∧ nx = pc + 3 ∧ decode cc pc = .ok (.getfield g, 3) ∧ (xTT b a).1 = xRR b ∧ xtc (xty b a) = 1) && xat1 (ps.getD 0 0) (Cond.fieldLink own g (xRR b) (xTT b a).2.1 (xTT b a).2.2.1)
    | 50 => decide (b < 13 ∧ a < xN b ∧ nx = pc + 3 ∧ decode cc pc = .ok (.getfield g, 3) ∧ (xTT b a).1 = xRR b ∧ xtc (xty b a) = 2) && xat1 (ps.getD 0 0) (Cond.fieldLink own g (xRR b) (xTT b a).2.1 (xTT b a).2.2.1)
    | 51 => decide (b < 13 ∧ a < xN b ∧ nx = pc + 3 ∧ decode cc pc = .ok (.putfield g, 3) ∧ (xTT b a).1 = xRR b ∧ xty b a = .int ∧ ((xTT b a).2.2.2 = false ∨ ((xTT b a).2.2.2 = true ∧ ini = true ∧ (xTT b a).1 = own))) && xat1 (ps.getD 0 0) (Cond.fieldLink own g (xRR b) (xTT b a).2.1 (xTT b a).2.2.1)
    | 52 => decide (b < 13 ∧ a < xN b ∧ nx = pc + 3 ∧ decode cc pc = .ok (.putfield g, 3) ∧ (xTT b a).1 = xRR b ∧ xty b a = .long ∧ ((xTT b a).2.2.2 = false ∨ ((xTT b a).2.2.2 = true ∧ ini = true ∧ (xTT b a).1 = own))) && xat1 (ps.getD 0 0) (Cond.fieldLink own g (xRR b) (xTT b a).2.1 (xTT b a).2.2.1)
    | 53 => decide (b < 13 ∧ a < xN b ∧ nx = pc + 3 ∧ decode cc pc = .ok (.putfield g, 3) ∧ (xTT b a).1 = xRR b ∧ xtc (xty b a) = 2 ∧ ((xTT b a).2.2.2 = false ∨ ((xTT b a).2.2.2 = true ∧ ini = true ∧ (xTT b a).1 = own))) && xat1 (ps.getD 0 0) (Cond.fieldLink own g (xRR b) (xTT b a).2.1 (xTT b a).2.2.1)
    | 54 => decide (b < 13 ∧ a < xN b ∧ nx = pc + 3 ∧ decode cc pc = .ok (.putfield g, 3) ∧ (xTT b a).1 = xRR b ∧ xty b a = .boolean ∧ ((xTT b a).2.2.2 = false ∨ ((xTT b a).2.2.2 = true ∧ ini = true ∧ (xTT b a).1 = own))) && xat1 (ps.getD 0 0) (Cond.fieldLink own g (xRR b) (xTT b a).2.1 (xTT b a).2.2.1)
    | 65 => decide (20 ≤ a ∧ a ≤ 23 ∧ nx = pc + 2 ∧ decode cc pc = .ok (.newarray (xat a), 2)) && xat1 (ps.getD 0 0) (Cond.arrayClass (newarray.typeOf (xat a)))
    | 66 => decide (24 ≤ a ∧ a ≤ 26 ∧ nx = pc + 3 ∧ decode cc pc = .ok (.anewarray g, 3)) && xat1 (ps.getD 0 0) (Cond.classLink own g (xan a))
    | 67 => decide (b < 13 ∧ a = xN b ∧ nx = pc + 3 ∧ decode cc pc = .ok (.new g, 3)) && (xat1 (ps.getD 0 0) (Cond.classLink own g (xRR b)) && (xat1 (ps.getD 1 0) (Cond.instantiable (xRR b) (xN b)) && xat1 (ps.getD 2 0) (Cond.initialized (xRR b))))
    | 68 => decide (nx = pc + 3 ∧ decode cc pc = .ok (.invokespecial g, 3)) && xat1 (ps.getD 0 0) (Cond.methodLink own g Lib.objectInit)
    | 71 => decide (nx = pc + 3 ∧ decode cc pc = .ok (.invokestatic g, 3)) && xat1 (ps.getD 0 0) (Cond.methodLink own g arraycopyName)
    | 72 => decide (nx = pc + 3 ∧ decode cc pc = .ok (.getstatic g, 3)) && ((decide (a = 0) && xat1 (ps.getD 0 0) (Cond.fieldLink own g "java/lang/String" "COMPACT_STRINGS" "Z")) || (decide (a = 1) && xat1 (ps.getD 0 0) (Cond.fieldLink own g "jdk/internal/util/Preconditions" "SIOOBE_FORMATTER" "Ljava/util/function/BiFunction;")))
    | 74 => decide (nx = pc + 3 ∧ decode cc pc = .ok (.getfield g, 3)) && ((decide (a = 0) && xat1 (ps.getD 0 0) (Cond.fieldLink own g "java/lang/String" "value" "[B")) || (decide (a = 1) && xat1 (ps.getD 0 0) (Cond.fieldLink own g "java/lang/String" "coder" "B")))
    | 76 => decide (nx = pc + 3 ∧ decode cc pc = .ok (.invokestatic g, 3)) && xat1 (ps.getD 0 0) (Cond.methodLink own g Lib.Math.max.name)
    | 77 => decide (nx = pc + 3 ∧ decode cc pc = .ok (.invokestatic g, 3)) && xat1 (ps.getD 0 0) (Cond.methodLink own g Lib.Math.min.name)
    | op => xok own cc nL ini SW SL pc (op, a, b, g, c, d, nx)
theorem xokf_ok {own : String} {cc : ByteArray} {nL : Nat} {ini : Bool} {SW : xSwT} {SL : xSwL} {pc : Nat} {i : xI} {ps : List Nat} (h : xokf own cc nL ini SW SL pc i ps = true) : xok own cc nL ini SW SL pc i = true := by
  obtain ⟨op, a, b, g, c, d, nx⟩ := i
  unfold xokf at h
  dsimp only at h
  split at h
  · split at h
    · simp only [Bool.and_eq_true, decide_eq_true_eq] at h
      simp only [xok, decide_eq_true_eq]
      exact ⟨h.1.1, h.1.2, xat1_mem h.2⟩
    · simp only [Bool.and_eq_true, decide_eq_true_eq] at h
      simp only [xok, decide_eq_true_eq]
      exact ⟨h.1.1, h.1.2, xat1_mem h.2⟩
    · exact h
  · split at h
    · simp only [Bool.and_eq_true, decide_eq_true_eq] at h
      simp only [xok, decide_eq_true_eq]
      exact ⟨h.1.1, h.1.2, xat1_mem h.2⟩
    · exact h
  · simp only [Bool.and_eq_true, decide_eq_true_eq] at h
    simp only [xok, decide_eq_true_eq]
    exact ⟨h.1.1, h.1.2.1, h.1.2.2.1, h.1.2.2.2.1, xat1_mem h.2, h.1.2.2.2.2.1, h.1.2.2.2.2.2⟩
  · simp only [Bool.and_eq_true, decide_eq_true_eq] at h
    simp only [xok, decide_eq_true_eq]
    exact ⟨h.1.1, h.1.2.1, h.1.2.2.1, h.1.2.2.2.1, xat1_mem h.2, h.1.2.2.2.2.1, h.1.2.2.2.2.2⟩
  · simp only [Bool.and_eq_true, decide_eq_true_eq] at h
    simp only [xok, decide_eq_true_eq]
    exact ⟨h.1.1, h.1.2.1, h.1.2.2.1, h.1.2.2.2.1, xat1_mem h.2, h.1.2.2.2.2.1, h.1.2.2.2.2.2⟩
  · simp only [Bool.and_eq_true, decide_eq_true_eq] at h
    simp only [xok, decide_eq_true_eq]
    exact ⟨h.1.1, h.1.2.1, h.1.2.2.1, h.1.2.2.2.1, xat1_mem h.2, h.1.2.2.2.2.1, h.1.2.2.2.2.2.1, h.1.2.2.2.2.2.2⟩
  · simp only [Bool.and_eq_true, decide_eq_true_eq] at h
    simp only [xok, decide_eq_true_eq]
    exact ⟨h.1.1, h.1.2.1, h.1.2.2.1, h.1.2.2.2.1, xat1_mem h.2, h.1.2.2.2.2.1, h.1.2.2.2.2.2.1, h.1.2.2.2.2.2.2⟩
  · simp only [Bool.and_eq_true, decide_eq_true_eq] at h
    simp only [xok, decide_eq_true_eq]
    exact ⟨h.1.1, h.1.2.1, h.1.2.2.1, h.1.2.2.2.1, xat1_mem h.2, h.1.2.2.2.2.1, h.1.2.2.2.2.2.1, h.1.2.2.2.2.2.2⟩
  · simp only [Bool.and_eq_true, decide_eq_true_eq] at h
    simp only [xok, decide_eq_true_eq]
    exact ⟨h.1.1, h.1.2.1, h.1.2.2.1, h.1.2.2.2.1, xat1_mem h.2, h.1.2.2.2.2.1, h.1.2.2.2.2.2.1, h.1.2.2.2.2.2.2⟩
  · simp only [Bool.and_eq_true, decide_eq_true_eq] at h
    simp only [xok, decide_eq_true_eq]
    exact ⟨h.1.1, h.1.2.1, h.1.2.2.1, h.1.2.2.2, xat1_mem h.2⟩
  · simp only [Bool.and_eq_true, decide_eq_true_eq] at h
    simp only [xok, decide_eq_true_eq]
    exact ⟨h.1.1, h.1.2.1, h.1.2.2.1, h.1.2.2.2, xat1_mem h.2⟩
  · simp only [Bool.and_eq_true, decide_eq_true_eq] at h
    simp only [xok, decide_eq_true_eq]
    exact ⟨h.1.1, h.1.2.1, h.1.2.2.1, h.1.2.2.2, xat1_mem h.2.1, xat1_mem h.2.2.1, xat1_mem h.2.2.2⟩
  · simp only [Bool.and_eq_true, decide_eq_true_eq] at h
    simp only [xok, decide_eq_true_eq]
    exact ⟨h.1.1, h.1.2, xat1_mem h.2⟩
  · simp only [Bool.and_eq_true, decide_eq_true_eq] at h
    simp only [xok, decide_eq_true_eq]
    exact ⟨h.1.1, h.1.2, xat1_mem h.2⟩
  · simp only [Bool.and_eq_true, Bool.or_eq_true, decide_eq_true_eq] at h
    simp only [xok, decide_eq_true_eq]
    exact ⟨h.1.1, h.1.2, h.2.elim (fun q => Or.inl ⟨q.1, xat1_mem q.2⟩) (fun q => Or.inr ⟨q.1, xat1_mem q.2⟩)⟩
  · simp only [Bool.and_eq_true, Bool.or_eq_true, decide_eq_true_eq] at h
    simp only [xok, decide_eq_true_eq]
    exact ⟨h.1.1, h.1.2, h.2.elim (fun q => Or.inl ⟨q.1, xat1_mem q.2⟩) (fun q => Or.inr ⟨q.1, xat1_mem q.2⟩)⟩
  · simp only [Bool.and_eq_true, decide_eq_true_eq] at h
    simp only [xok, decide_eq_true_eq]
    exact ⟨h.1.1, h.1.2, xat1_mem h.2⟩
  · simp only [Bool.and_eq_true, decide_eq_true_eq] at h
    simp only [xok, decide_eq_true_eq]
    exact ⟨h.1.1, h.1.2, xat1_mem h.2⟩
  · exact h
/-- what is looked up for a method that is called: its places; 0 static, 1 of an object, 2 a constructor -/
def xmf (Y : xY) (M : xM) (a np kd : Nat) (ps : List Nat) : Bool :=
  decide (((Y a).1.cls ≠ "java/lang/invoke/MethodHandle" ∧ (Y a).1.cls ≠ "java/lang/invoke/VarHandle") ∧ (parseMethodDescriptor (Y a).1.desc).map (fun d => d.parameters.length) = some np ∧ (Y a).2.2.1 ≤ 45 ∧ plainName (Y a).1.cls = true ∧ (M a).1 ≤ np + 1 ∧ (M a).2.2 = (Y a).2.2.1) && (xat1 (ps.getD 0 0) (xwc Y a) && (xat1 (ps.getD 1 0) (Cond.initialized (Y a).1.cls) &&
    (match kd with
      | 0 => xat1 (ps.getD 2 0) (Cond.static (Y a).1) && decide ((M a).1 = np)
      | 1 => xat1 (ps.getD 2 0) (Cond.instanceMethod (Y a).1) && (xat1 (ps.getD 3 0) (Cond.selects (Y a).1.cls (Y a).1 (Y a).1) && decide ((M a).1 = np + 1 ∧ ((M a).2.1 < 13 → (Y a).1.cls = xRR (M a).2.1) ∧ (13 ≤ (M a).2.1 → (Y a).1.cls = "java/lang/String")))
      | _ => xat1 (ps.getD 2 0) (Cond.instanceMethod (Y a).1) && decide ((Y a).1.name = "<init>" ∧ (Y a).2.2.2 = none ∧ (M a).1 = np + 1))))
theorem xmf_ok {Y : xY} {M : xM} {a np kd : Nat} {ps : List Nat} (h : xmf Y M a np kd ps = true) : xokm Y M a np = true ∧ xwc Y a ∈ lw_tbl ∧ plainName (Y a).1.cls = true ∧ (M a).2.2 = (Y a).2.2.1 ∧ (kd = 0 → Cond.static (Y a).1 ∈ lw_tbl ∧ (M a).1 = np) ∧ (kd = 1 → Cond.instanceMethod (Y a).1 ∈ lw_tbl ∧ Cond.selects (Y a).1.cls (Y a).1 (Y a).1 ∈ lw_tbl ∧ (M a).1 = np + 1 ∧ ((M a).2.1 < 13 → (Y a).1.cls = xRR (M a).2.1) ∧ (13 ≤ (M a).2.1 → (Y a).1.cls = "java/lang/String")) ∧ (kd = 2 → Cond.instanceMethod (Y a).1 ∈ lw_tbl ∧ (Y a).1.name = "<init>" ∧ (Y a).2.2.2 = none ∧ (M a).1 = np + 1) := by
  unfold xmf at h
  simp only [Bool.and_eq_true, decide_eq_true_eq] at h
  obtain ⟨⟨h1, h2, h3, h4, h5, h6⟩, h7, h8, h9⟩ := h
  refine ⟨by simp only [xokm, decide_eq_true_eq]; exact ⟨xat1_mem h7, xat1_mem h8, h1, h2, h3, h4, h5⟩, xat1_mem h7, h4, h6, fun hk => ?_, fun hk => ?_, fun hk => ?_⟩
  · subst hk
    simp only [Bool.and_eq_true, decide_eq_true_eq] at h9
    exact ⟨xat1_mem h9.1, h9.2⟩
  · subst hk
    simp only [Bool.and_eq_true, decide_eq_true_eq] at h9
    exact ⟨xat1_mem h9.1, xat1_mem h9.2.1, h9.2.2⟩
  · subst hk
    simp only [Bool.and_eq_true, decide_eq_true_eq] at h9
    exact ⟨xat1_mem h9.1, h9.2⟩
/-- what is looked up for a call -/
def xokcf (own : String) (cc : ByteArray) (Y : xY) (M : xM) (NP KD : Nat → Nat) (pc : Nat) (i : xI) (ps : List Nat) : Bool :=
  match i with
  | (op, a, b, g, _, _, nx) => match op with
    | 80 => decide (nx = pc + 3 ∧ decode cc pc = .ok (.invokevirtual g, 3) ∧ (M a).2.1 < 13 ∧ b = NP a ∧ KD a = 1) && xat1 (ps.getD 0 0) (Cond.methodLink own g (Y a).1)
    | 81 => decide (nx = pc + 3 ∧ decode cc pc = .ok (.invokestatic g, 3) ∧ b = NP a ∧ KD a = 0) && xat1 (ps.getD 0 0) (Cond.methodLink own g (Y a).1)
    | 82 => decide (nx = pc + 3 ∧ decode cc pc = .ok (.invokespecial g, 3) ∧ b = NP a ∧ KD a = 2) && xat1 (ps.getD 0 0) (Cond.methodLink own g (Y a).1)
    | 83 => decide (nx = pc + 3 ∧ decode cc pc = .ok (.invokestatic g, 3) ∧ b = NP a ∧ KD a = 0) && xat1 (ps.getD 0 0) (Cond.methodLinkNest own g (Y a).1 "DuneRoad")
    | 84 => decide (nx = pc + 3 ∧ decode cc pc = .ok (.invokespecial g, 3) ∧ b = NP a ∧ KD a = 2) && xat1 (ps.getD 0 0) (Cond.methodLinkNest own g (Y a).1 "DuneRoad")
    | 85 => decide (nx = pc + 3 ∧ decode cc pc = .ok (.invokevirtual g, 3) ∧ 13 ≤ (M a).2.1 ∧ b = NP a ∧ KD a = 1) && xat1 (ps.getD 0 0) (Cond.methodLink own g (Y a).1)
    | _ => false
theorem xokcf_ok {own : String} {cc : ByteArray} {Y : xY} {M : xM} {NP KD : Nat → Nat} {PS : Nat → List Nat} {pc : Nat} {i : xI} {ps : List Nat} (hm : xmf Y M i.2.1 (NP i.2.1) (KD i.2.1) (PS i.2.1) = true) (h : xokcf own cc Y M NP KD pc i ps = true) : xokc own cc Y M pc i = true := by
  obtain ⟨op, a, b, g, c, d, nx⟩ := i
  obtain ⟨m1, m2, m3, m4, m5, m6, m7⟩ := xmf_ok hm
  dsimp only at m1 m5 m6 m7
  unfold xokcf at h
  dsimp only at h
  split at h
  · simp only [Bool.and_eq_true, decide_eq_true_eq] at h
    obtain ⟨⟨h1, h2, h3, rfl, h5⟩, h6⟩ := h
    obtain ⟨q1, q2, q3, q4, q5⟩ := m6 h5
    simp only [xokc, Bool.and_eq_true, decide_eq_true_eq]
    exact ⟨⟨h1, h2, xat1_mem h6, q1, q2, h3, q4 h3, q3⟩, m1⟩
  · simp only [Bool.and_eq_true, decide_eq_true_eq] at h
    obtain ⟨⟨h1, h2, rfl, h5⟩, h6⟩ := h
    obtain ⟨q1, q2⟩ := m5 h5
    simp only [xokc, Bool.and_eq_true, decide_eq_true_eq]
    exact ⟨⟨h1, h2, xat1_mem h6, q1, q2⟩, m1⟩
  · simp only [Bool.and_eq_true, decide_eq_true_eq] at h
    obtain ⟨⟨h1, h2, rfl, h5⟩, h6⟩ := h
    obtain ⟨q1, q2, q3, q4⟩ := m7 h5
    simp only [xokc, Bool.and_eq_true, decide_eq_true_eq]
    exact ⟨⟨h1, h2, xat1_mem h6, q1, q2, q3, q4⟩, m1⟩
  · simp only [Bool.and_eq_true, decide_eq_true_eq] at h
    obtain ⟨⟨h1, h2, rfl, h5⟩, h6⟩ := h
    obtain ⟨q1, q2⟩ := m5 h5
    simp only [xokc, Bool.and_eq_true, decide_eq_true_eq]
    exact ⟨⟨h1, h2, xat1_mem h6, q1, q2⟩, m1⟩
  · simp only [Bool.and_eq_true, decide_eq_true_eq] at h
    obtain ⟨⟨h1, h2, rfl, h5⟩, h6⟩ := h
    obtain ⟨q1, q2, q3, q4⟩ := m7 h5
    simp only [xokc, Bool.and_eq_true, decide_eq_true_eq]
    exact ⟨⟨h1, h2, xat1_mem h6, q1, q2, q3, q4⟩, m1⟩
  · simp only [Bool.and_eq_true, decide_eq_true_eq] at h
    obtain ⟨⟨h1, h2, h3, rfl, h5⟩, h6⟩ := h
    obtain ⟨q1, q2, q3, q4, q5⟩ := m6 h5
    simp only [xokc, Bool.and_eq_true, decide_eq_true_eq]
    exact ⟨⟨h1, h2, xat1_mem h6, q1, q2, q5 h3, q3⟩, m1⟩
  · cases h
