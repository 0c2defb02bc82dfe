/-! A SEA read, the other side: all its clauses -/
section MS3x
variable {X : xX} {h : xH} {sh : List (Nat × Nat)} {I : Nat → Nat → Int32} {L : Nat → Nat → Int64} {R : Nat → Nat → Option Nat} {B : Nat → Nat} {n : Nat} {u : Nat → Nat → Int32} {s : Nat}
theorem wIs_no {p w : Nat} (hw : w < 22) (h : ¬ (p < n ∧ isL (B p) = true)) : ¬ wIs B n p w = true := fun q => by
  have hb := wln_bd w hw
  have e := (wIs_iff.mp q).1
  have : lend B n p = p := by
    unfold lend
    by_cases hp : p < n
    · exact scan_f (f := fun i => isL (B i)) (Bool.eq_false_iff.mpr (fun r => h ⟨hp, r⟩))
    · rw [show n - p = 0 by omega]; rfl
  omega
theorem wdH_iff {p w : Nat} (hw : w < 22) : wdH B n p = nI w ↔ wIs B n p w = true := by
  by_cases h : p < n ∧ isL (B p) = true
  · have e1x : tknd B n p = 1 := by unfold tknd; rw [if_neg (by omega), if_pos h.2]
    have e2x : wdH B n p = wnI B p (lend B n p) := by unfold wdH tvl; rw [if_pos e1x, if_neg (by omega), if_pos h.2]
    have hl : ∀ i, p ≤ i → i < lend B n p → isL (B i) = true := fun i h1x h2x => scan_in (f := fun i => isL (B i)) (n - p) p i h1x h2x
    rw [e2x, wIs_iff, ← wno_iff hw hl lend_le.1]
    have hle := wno_le (B := B) (p := p) (q := lend B n p)
    unfold wnI
    by_cases h22x : wno B p (lend B n p) = 22
    · rw [if_pos h22x]; exact ⟨fun q => absurd q.symm (nI_m1' (by omega)), fun q => by omega⟩
    · rw [if_neg h22x, nI_eq (by omega) (by omega)]
  · have e1x : ¬ tknd B n p = 1 := fun q => by
      unfold tknd at q
      by_cases hp : n ≤ p
      · rw [if_pos hp] at q; cases q
      · rw [if_neg hp] at q
        by_cases hl : isL (B p) = true
        · exact h ⟨by omega, hl⟩
        · rw [if_neg hl] at q; split at q <;> cases q
    have e2x : wdH B n p = -1 := if_neg e1x
    rw [e2x]; exact ⟨fun q => absurd q.symm (nI_m1' (by omega)), fun q => absurd q (wIs_no hw h)⟩
theorem sKd_le {p : Nat} : sKd B n p ≤ 7 := by
  by_cases h : wdH B n p < 0 ∨ 6 < wdH B n p
  · rw [sKd_7.mpr h]; exact Nat.le_refl _
  · have := (sKd_get h).2; omega
theorem sKd_iff {p w : Nat} (hw : w < 7) : sKd B n p = w ↔ wIs B n p w = true := by
  rw [← wdH_iff (by omega)]
  by_cases h : wdH B n p < 0 ∨ 6 < wdH B n p
  · rw [sKd_7.mpr h]
    refine ⟨fun q => by omega, fun q => ?_⟩
    rw [q] at h
    rcases h with h | h
    · exact absurd h (nI_pos (by omega))
    · have := (nI_lti (a := 6) (by decide) (by omega)).mp h; omega
  · obtain ⟨a, b⟩ := sKd_get h
    rw [a, nI_eq (by omega) (by omega)]
theorem wIs_nxt {p w : Nat} (hw : w < 22) (h : wIs B n p w = true) : p + wln w ≤ n ∧ skp B n (p + wln w) = nxt B n p := by
  obtain ⟨h1x, h2x, h3x⟩ := wIs_lt hw h
  have hl : isL (B p) = true := Decidable.byContradiction (fun q => wIs_no hw (fun r => q r.2) h)
  refine ⟨h2x, ?_⟩
  unfold nxt; rw [if_pos h1x, h3x]; unfold tend; rw [if_pos hl]
theorem ms_seaWord {w : Nat} (hw : w < 7) : Ec X 1 214 [.int (nI w)] h (fun r h' => r = some (.retAddr (w + 1 + 1)) ∧ h' = h) := by
  refine Ec.of (Nat.le_of_ble_eq_true rfl) ?_
  refine e_iload rfl rfl ?_
  have cases7 : w = 0 ∨ w = 1 ∨ w = 2 ∨ w = 3 ∨ w = 4 ∨ w = 5 ∨ w = 6 := by omega
  rcases cases7 with rfl | rfl | rfl | rfl | rfl | rfl | rfl
  · refine e_tsw rfl (by decide) rfl ?_
    refine e_text rfl ?_
    exact Eg.ret rfl (by decide) rfl ⟨rfl, rfl⟩
  · refine e_tsw rfl (by decide) rfl ?_
    refine e_text rfl ?_
    exact Eg.ret rfl (by decide) rfl ⟨rfl, rfl⟩
  · refine e_tsw rfl (by decide) rfl ?_
    refine e_text rfl ?_
    exact Eg.ret rfl (by decide) rfl ⟨rfl, rfl⟩
  · refine e_tsw rfl (by decide) rfl ?_
    refine e_text rfl ?_
    exact Eg.ret rfl (by decide) rfl ⟨rfl, rfl⟩
  · refine e_tsw rfl (by decide) rfl ?_
    refine e_text rfl ?_
    exact Eg.ret rfl (by decide) rfl ⟨rfl, rfl⟩
  · refine e_tsw rfl (by decide) rfl ?_
    refine e_text rfl ?_
    exact Eg.ret rfl (by decide) rfl ⟨rfl, rfl⟩
  · refine e_tswd rfl (by decide) ?_
    refine e_text rfl ?_
    exact Eg.ret rfl (by decide) rfl ⟨rfl, rfl⟩
theorem ms_isFull (hM : MW sh R) (v0x : nV I u) (hw : WfU u) {w i : Nat} (hw7x : w < 7) (hi : i ≤ 40) {st : Bool} (hst : I 290 57 = bI st) : Ec X 1 218 [.ref 290, .int (nI w), .int (nI i)] (sh, I, L, R) (fun r h' => r = some (.int (yn (sBad u st i w = true))) ∧ h' = (sh, I, L, R)) := by
  have hb := hw.1.2
  have sb : sBad u st i w = true ↔ (40 ≤ i ∨ ¬ (i = 0 ↔ w = 0) ∨ sFull u st w = true) := decide_eq_true_iff
  refine Ec.of (Nat.le_of_ble_eq_true rfl) ?_
  refine e_iload rfl rfl ?_
  refine e_ipush rfl ?_
  refine e_ceq_b rfl (fun b3x => ?_) (fun b3x => ?_)
  · have b3x : i = 40 := (nI_eq (b := 40) (by omega) (by decide)).mp b3x
    refine e_ipush rfl ?_
    exact Eg.ret rfl (by decide) rfl ⟨congrArg (fun z => some (Value.int z)) (yn_t (sb.mpr (Or.inl (by omega)))).symm, rfl⟩
  · refine e_iload rfl rfl ?_
    refine e_ifne_b rfl (fun b7x => ?_) (fun b7x => ?_)
    · have b7x : ¬ w = 0 := fun e => b7x (by rw [e]; rfl)
      refine e_ipush rfl ?_
      refine e_iload rfl rfl ?_
      refine e_ifne_b rfl (fun b16x => ?_) (fun b16x => ?_)
      · have b16x : ¬ i = 0 := fun e => b16x (by rw [e]; rfl)
        refine e_ipush rfl ?_
        have io : i = 0 ↔ w = 0 := ⟨fun e => absurd e b16x, fun e => absurd e b7x⟩
        refine e_ceq_t rfl rfl ?_
        refine e_iload rfl rfl ?_
        have cases7 : w = 0 ∨ w = 1 ∨ w = 2 ∨ w = 3 ∨ w = 4 ∨ w = 5 ∨ w = 6 := by omega
        have i40x : ¬ 40 ≤ i := fun q => b3x (by rw [show i = 40 by omega]; rfl)
        rcases cases7 with rfl | rfl | rfl | rfl | rfl | rfl | rfl
        · refine e_tswd rfl (by decide) ?_
          refine e_ipush rfl ?_
          exact Eg.ret rfl (by decide) rfl ⟨congrArg (fun z => some (Value.int z)) (yn_f (fun q => (sb.mp q).elim i40x (fun q => q.elim (fun q => q io) (fun q => by have := sFull_iff.mp q; omega)))).symm, rfl⟩
        · refine e_tsw rfl (by decide) rfl ?_
          refine e_aload rfl rfl ?_
          refine e_getR rfl hM.1 (show R 290 32 = some 322 from (hM.2 31 _ rfl).2) ?_
          refine e_ipush rfl ?_
          refine e_ialv (t := 1) (n := 7) rfl (show sh[322]? = some (20, 7) from (hM.2 31 _ rfl).1) rfl (by decide) (by decide) ((v0x.1 1 1 (by decide) (by decide)).trans (hw.1.1 1 (by decide))) ?_
          refine e_ipush rfl ?_
          refine e_cne_b rfl (fun b75x => ?_) (fun b75x => ?_)
          · refine e_ipush rfl ?_
            exact Eg.ret rfl (by decide) rfl ⟨congrArg (fun z => some (Value.int z)) (yn_f (fun q => (sb.mp q).elim i40x (fun q => q.elim (fun q => q io) (fun q => by have := sFull_iff.mp q; have h9x : ¬ cn u 1 = 3 := fun e => b75x (by rw [e]; rfl); omega)))).symm, rfl⟩
          · refine e_ipush rfl ?_
            refine e_goto rfl ?_
            exact Eg.ret rfl (by decide) rfl ⟨congrArg (fun z => some (Value.int z)) (yn_t (sb.mpr (Or.inr (Or.inr (sFull_iff.mpr (by have := (nI_eq (b := 3) (by omega) (by decide)).mp b75x; omega)))))).symm, rfl⟩
        · refine e_tsw rfl (by decide) rfl ?_
          refine e_ipush rfl ?_
          exact Eg.ret rfl (by decide) rfl ⟨congrArg (fun z => some (Value.int z)) (yn_f (fun q => (sb.mp q).elim i40x (fun q => q.elim (fun q => q io) (fun q => by have := sFull_iff.mp q; omega)))).symm, rfl⟩
        · refine e_tsw rfl (by decide) rfl ?_
          refine e_aload rfl rfl ?_
          refine e_getR rfl hM.1 (show R 290 32 = some 322 from (hM.2 31 _ rfl).2) ?_
          refine e_ipush rfl ?_
          refine e_ialv (t := 2) (n := 7) rfl (show sh[322]? = some (20, 7) from (hM.2 31 _ rfl).1) rfl (by decide) (by decide) ((v0x.1 1 2 (by decide) (by decide)).trans (hw.1.1 2 (by decide))) ?_
          refine e_ipush rfl ?_
          refine e_cne_b rfl (fun b91x => ?_) (fun b91x => ?_)
          · refine e_ipush rfl ?_
            exact Eg.ret rfl (by decide) rfl ⟨congrArg (fun z => some (Value.int z)) (yn_f (fun q => (sb.mp q).elim i40x (fun q => q.elim (fun q => q io) (fun q => by have := sFull_iff.mp q; have h9x : ¬ cn u 2 = 4 := fun e => b91x (by rw [e]; rfl); omega)))).symm, rfl⟩
          · refine e_ipush rfl ?_
            refine e_goto rfl ?_
            exact Eg.ret rfl (by decide) rfl ⟨congrArg (fun z => some (Value.int z)) (yn_t (sb.mpr (Or.inr (Or.inr (sFull_iff.mpr (by have := (nI_eq (b := 4) (by omega) (by decide)).mp b91x; omega)))))).symm, rfl⟩
        · refine e_tsw rfl (by decide) rfl ?_
          refine e_aload rfl rfl ?_
          refine e_getR rfl hM.1 (show R 290 32 = some 322 from (hM.2 31 _ rfl).2) ?_
          refine e_ipush rfl ?_
          refine e_ialv (t := 3) (n := 7) rfl (show sh[322]? = some (20, 7) from (hM.2 31 _ rfl).1) rfl (by decide) (by decide) ((v0x.1 1 3 (by decide) (by decide)).trans (hw.1.1 3 (by decide))) ?_
          refine e_ipush rfl ?_
          refine e_cne_b rfl (fun b107x => ?_) (fun b107x => ?_)
          · refine e_ipush rfl ?_
            exact Eg.ret rfl (by decide) rfl ⟨congrArg (fun z => some (Value.int z)) (yn_f (fun q => (sb.mp q).elim i40x (fun q => q.elim (fun q => q io) (fun q => by have := sFull_iff.mp q; have h9x : ¬ cn u 3 = 4 := fun e => b107x (by rw [e]; rfl); omega)))).symm, rfl⟩
          · refine e_ipush rfl ?_
            refine e_goto rfl ?_
            exact Eg.ret rfl (by decide) rfl ⟨congrArg (fun z => some (Value.int z)) (yn_t (sb.mpr (Or.inr (Or.inr (sFull_iff.mpr (by have := (nI_eq (b := 4) (by omega) (by decide)).mp b107x; omega)))))).symm, rfl⟩
        · refine e_tsw rfl (by decide) rfl ?_
          refine e_aload rfl rfl ?_
          refine e_getR rfl hM.1 (show R 290 32 = some 322 from (hM.2 31 _ rfl).2) ?_
          refine e_ipush rfl ?_
          refine e_ialv (t := 4) (n := 7) rfl (show sh[322]? = some (20, 7) from (hM.2 31 _ rfl).1) rfl (by decide) (by decide) ((v0x.1 1 4 (by decide) (by decide)).trans (hw.1.1 4 (by decide))) ?_
          refine e_ipush rfl ?_
          refine e_cne_b rfl (fun b123x => ?_) (fun b123x => ?_)
          · refine e_ipush rfl ?_
            exact Eg.ret rfl (by decide) rfl ⟨congrArg (fun z => some (Value.int z)) (yn_f (fun q => (sb.mp q).elim i40x (fun q => q.elim (fun q => q io) (fun q => by have := sFull_iff.mp q; have h9x : ¬ cn u 4 = 4 := fun e => b123x (by rw [e]; rfl); omega)))).symm, rfl⟩
          · refine e_ipush rfl ?_
            refine e_goto rfl ?_
            exact Eg.ret rfl (by decide) rfl ⟨congrArg (fun z => some (Value.int z)) (yn_t (sb.mpr (Or.inr (Or.inr (sFull_iff.mpr (by have := (nI_eq (b := 4) (by omega) (by decide)).mp b123x; omega)))))).symm, rfl⟩
        · refine e_tsw rfl (by decide) rfl ?_
          refine e_aload rfl rfl ?_
          refine e_getIv rfl hM.1 hst ?_
          refine Eg.ret rfl (by decide) (if_pos bI_01 : xret 94 [.int (bI st)] _ = _) ⟨congrArg (fun z => some (Value.int z)) ?_, rfl⟩
          cases st
          · exact (yn_f (fun q => (sb.mp q).elim i40x (fun q => q.elim (fun q => q io) (fun q => by have := sFull_iff.mp q; simp at this)))).symm
          · exact (yn_t (sb.mpr (Or.inr (Or.inr (sFull_iff.mpr (by simp)))))).symm
      · have b16x : i = 0 := (nI_eq (b := 0) (by omega) (by decide)).mp b16x
        refine e_ipush rfl ?_
        refine e_goto rfl ?_
        have nio : ¬ (i = 0 ↔ w = 0) := fun q => b7x (q.mp b16x)
        refine e_ceq_f rfl (by decide) ?_
        refine e_ipush rfl ?_
        exact Eg.ret rfl (by decide) rfl ⟨congrArg (fun z => some (Value.int z)) (yn_t (sb.mpr (Or.inr (Or.inl nio)))).symm, rfl⟩
    · have b7x : w = 0 := (nI_eq (b := 0) (by omega) (by decide)).mp b7x
      refine e_ipush rfl ?_
      refine e_goto rfl ?_
      refine e_iload rfl rfl ?_
      refine e_ifne_b rfl (fun b16x => ?_) (fun b16x => ?_)
      · have b16x : ¬ i = 0 := fun e => b16x (by rw [e]; rfl)
        refine e_ipush rfl ?_
        have nio : ¬ (i = 0 ↔ w = 0) := fun q => b16x (q.mpr b7x)
        refine e_ceq_f rfl (by decide) ?_
        refine e_ipush rfl ?_
        exact Eg.ret rfl (by decide) rfl ⟨congrArg (fun z => some (Value.int z)) (yn_t (sb.mpr (Or.inr (Or.inl nio)))).symm, rfl⟩
      · have b16x : i = 0 := (nI_eq (b := 0) (by omega) (by decide)).mp b16x
        refine e_ipush rfl ?_
        refine e_goto rfl ?_
        have io : i = 0 ↔ w = 0 := ⟨fun _ => b7x, fun _ => b16x⟩
        refine e_ceq_t rfl rfl ?_
        refine e_iload rfl rfl ?_
        have cases7 : w = 0 ∨ w = 1 ∨ w = 2 ∨ w = 3 ∨ w = 4 ∨ w = 5 ∨ w = 6 := by omega
        have i40x : ¬ 40 ≤ i := fun q => b3x (by rw [show i = 40 by omega]; rfl)
        rcases cases7 with rfl | rfl | rfl | rfl | rfl | rfl | rfl
        · refine e_tswd rfl (by decide) ?_
          refine e_ipush rfl ?_
          exact Eg.ret rfl (by decide) rfl ⟨congrArg (fun z => some (Value.int z)) (yn_f (fun q => (sb.mp q).elim i40x (fun q => q.elim (fun q => q io) (fun q => by have := sFull_iff.mp q; omega)))).symm, rfl⟩
        · refine e_tsw rfl (by decide) rfl ?_
          refine e_aload rfl rfl ?_
          refine e_getR rfl hM.1 (show R 290 32 = some 322 from (hM.2 31 _ rfl).2) ?_
          refine e_ipush rfl ?_
          refine e_ialv (t := 1) (n := 7) rfl (show sh[322]? = some (20, 7) from (hM.2 31 _ rfl).1) rfl (by decide) (by decide) ((v0x.1 1 1 (by decide) (by decide)).trans (hw.1.1 1 (by decide))) ?_
          refine e_ipush rfl ?_
          refine e_cne_b rfl (fun b75x => ?_) (fun b75x => ?_)
          · refine e_ipush rfl ?_
            exact Eg.ret rfl (by decide) rfl ⟨congrArg (fun z => some (Value.int z)) (yn_f (fun q => (sb.mp q).elim i40x (fun q => q.elim (fun q => q io) (fun q => by have := sFull_iff.mp q; have h9x : ¬ cn u 1 = 3 := fun e => b75x (by rw [e]; rfl); omega)))).symm, rfl⟩
          · refine e_ipush rfl ?_
            refine e_goto rfl ?_
            exact Eg.ret rfl (by decide) rfl ⟨congrArg (fun z => some (Value.int z)) (yn_t (sb.mpr (Or.inr (Or.inr (sFull_iff.mpr (by have := (nI_eq (b := 3) (by omega) (by decide)).mp b75x; omega)))))).symm, rfl⟩
        · refine e_tsw rfl (by decide) rfl ?_
          refine e_ipush rfl ?_
          exact Eg.ret rfl (by decide) rfl ⟨congrArg (fun z => some (Value.int z)) (yn_f (fun q => (sb.mp q).elim i40x (fun q => q.elim (fun q => q io) (fun q => by have := sFull_iff.mp q; omega)))).symm, rfl⟩
        · refine e_tsw rfl (by decide) rfl ?_
          refine e_aload rfl rfl ?_
          refine e_getR rfl hM.1 (show R 290 32 = some 322 from (hM.2 31 _ rfl).2) ?_
          refine e_ipush rfl ?_
          refine e_ialv (t := 2) (n := 7) rfl (show sh[322]? = some (20, 7) from (hM.2 31 _ rfl).1) rfl (by decide) (by decide) ((v0x.1 1 2 (by decide) (by decide)).trans (hw.1.1 2 (by decide))) ?_
          refine e_ipush rfl ?_
          refine e_cne_b rfl (fun b91x => ?_) (fun b91x => ?_)
          · refine e_ipush rfl ?_
            exact Eg.ret rfl (by decide) rfl ⟨congrArg (fun z => some (Value.int z)) (yn_f (fun q => (sb.mp q).elim i40x (fun q => q.elim (fun q => q io) (fun q => by have := sFull_iff.mp q; have h9x : ¬ cn u 2 = 4 := fun e => b91x (by rw [e]; rfl); omega)))).symm, rfl⟩
          · refine e_ipush rfl ?_
            refine e_goto rfl ?_
            exact Eg.ret rfl (by decide) rfl ⟨congrArg (fun z => some (Value.int z)) (yn_t (sb.mpr (Or.inr (Or.inr (sFull_iff.mpr (by have := (nI_eq (b := 4) (by omega) (by decide)).mp b91x; omega)))))).symm, rfl⟩
        · refine e_tsw rfl (by decide) rfl ?_
          refine e_aload rfl rfl ?_
          refine e_getR rfl hM.1 (show R 290 32 = some 322 from (hM.2 31 _ rfl).2) ?_
          refine e_ipush rfl ?_
          refine e_ialv (t := 3) (n := 7) rfl (show sh[322]? = some (20, 7) from (hM.2 31 _ rfl).1) rfl (by decide) (by decide) ((v0x.1 1 3 (by decide) (by decide)).trans (hw.1.1 3 (by decide))) ?_
          refine e_ipush rfl ?_
          refine e_cne_b rfl (fun b107x => ?_) (fun b107x => ?_)
          · refine e_ipush rfl ?_
            exact Eg.ret rfl (by decide) rfl ⟨congrArg (fun z => some (Value.int z)) (yn_f (fun q => (sb.mp q).elim i40x (fun q => q.elim (fun q => q io) (fun q => by have := sFull_iff.mp q; have h9x : ¬ cn u 3 = 4 := fun e => b107x (by rw [e]; rfl); omega)))).symm, rfl⟩
          · refine e_ipush rfl ?_
            refine e_goto rfl ?_
            exact Eg.ret rfl (by decide) rfl ⟨congrArg (fun z => some (Value.int z)) (yn_t (sb.mpr (Or.inr (Or.inr (sFull_iff.mpr (by have := (nI_eq (b := 4) (by omega) (by decide)).mp b107x; omega)))))).symm, rfl⟩
        · refine e_tsw rfl (by decide) rfl ?_
          refine e_aload rfl rfl ?_
          refine e_getR rfl hM.1 (show R 290 32 = some 322 from (hM.2 31 _ rfl).2) ?_
          refine e_ipush rfl ?_
          refine e_ialv (t := 4) (n := 7) rfl (show sh[322]? = some (20, 7) from (hM.2 31 _ rfl).1) rfl (by decide) (by decide) ((v0x.1 1 4 (by decide) (by decide)).trans (hw.1.1 4 (by decide))) ?_
          refine e_ipush rfl ?_
          refine e_cne_b rfl (fun b123x => ?_) (fun b123x => ?_)
          · refine e_ipush rfl ?_
            exact Eg.ret rfl (by decide) rfl ⟨congrArg (fun z => some (Value.int z)) (yn_f (fun q => (sb.mp q).elim i40x (fun q => q.elim (fun q => q io) (fun q => by have := sFull_iff.mp q; have h9x : ¬ cn u 4 = 4 := fun e => b123x (by rw [e]; rfl); omega)))).symm, rfl⟩
          · refine e_ipush rfl ?_
            refine e_goto rfl ?_
            exact Eg.ret rfl (by decide) rfl ⟨congrArg (fun z => some (Value.int z)) (yn_t (sb.mpr (Or.inr (Or.inr (sFull_iff.mpr (by have := (nI_eq (b := 4) (by omega) (by decide)).mp b123x; omega)))))).symm, rfl⟩
        · refine e_tsw rfl (by decide) rfl ?_
          refine e_aload rfl rfl ?_
          refine e_getIv rfl hM.1 hst ?_
          refine Eg.ret rfl (by decide) (if_pos bI_01 : xret 94 [.int (bI st)] _ = _) ⟨congrArg (fun z => some (Value.int z)) ?_, rfl⟩
          cases st
          · exact (yn_f (fun q => (sb.mp q).elim i40x (fun q => q.elim (fun q => q io) (fun q => by have := sFull_iff.mp q; simp at this)))).symm
          · exact (yn_t (sb.mpr (Or.inr (Or.inr (sFull_iff.mpr (by simp)))))).symm
theorem ms_seaClause (hM : MW sh R) {p q : Nat} (hr : Mr I B n p 0) (hpn : p ≤ n) (hq : skp B n p = q) (v0x : nV I u) (hw : WfU u) {i : Nat} {st : Bool} (hst : I 290 57 = bI st) (hi : i ≤ 40) (h2x : i ≠ 0 → 2 ≤ cn u 0) : Ec X 7 219 [.ref 290, .int (nI i)] (sh, I, L, R) (fun r h' => r = none ∧ ∃ (J : Nat → Nat → Int32) (p' : Nat), h' = (sh, J, L, R) ∧ Mr J B n p' (sCF B n i q u st) ∧ p' ≤ n ∧ (sCF B n i q u st = 0 → skp B n p' = sPP B n u (sKd B n q) (nxt B n q) ∧ nV J (sPU B n u (sKd B n q) (nxt B n q)) ∧ J 290 57 = bI (st || sKd B n q == 6)) ∧ NF I J) := by
  have hn := hr.1.1
  have hb := hw.1.2
  have hqn : q ≤ n := by rw [← hq]; exact (skp_le (B := B) (n := n) (p := p)).2 hpn
  have hbb : ∀ j, j < n → B j < 256 := fun j hj => (hr.1.2.2 j hj).1
  refine Ec.of (Nat.le_of_ble_eq_true rfl) ?_
  refine e_aload rfl rfl ?_
  refine Eg.c1 rfl (by decide) (by decide) rfl (Nat.le_of_ble_eq_true rfl) (xrcv_of rfl hM.1 rfl) ((ms_blanks hM hr (by omega)).mono (by decide)) (fun r1x h1x hq => ?_)
  obtain ⟨rfl, J, rfl, a1x, a2x⟩ := hq
  rw [hq] at a1x
  have v1x : nV J u := v0x.fr (fun i k q1x q2x => a2x i k (by omega))
  refine e_aload rfl rfl ?_
  refine e_getIv rfl hM.1 a1x.2.1 ?_
  refine e_istore rfl ?_
  refine e_ipush rfl ?_
  refine e_istore rfl ?_
  refine Eg.pk [0, 1, 2, 3] [3, 2, 0, 1] rfl (by decide) ?_
  have k7x := sKd_le (B := B) (n := n) (p := q)
  have rest : Eg X xTc 6 219 34 [(0, .ref 290), (1, .int (nI i)), (2, .int (nI q)), (3, .int (nI (sKd B n q)))] [] (sh, J, L, R) (fun r h' => r = none ∧ ∃ (J : Nat → Nat → Int32) (p' : Nat), h' = (sh, J, L, R) ∧ Mr J B n p' (sCF B n i q u st) ∧ p' ≤ n ∧ (sCF B n i q u st = 0 → skp B n p' = sPP B n u (sKd B n q) (nxt B n q) ∧ nV J (sPU B n u (sKd B n q) (nxt B n q)) ∧ J 290 57 = bI (st || sKd B n q == 6)) ∧ NF I J) := by
    refine e_iload rfl rfl ?_
    refine e_ipush rfl ?_
    refine e_cne_b rfl (fun b37x => ?_) (fun b37x => ?_)
    · have e7x : ¬ sKd B n q = 7 := fun e => b37x (by rw [e]; rfl)
      have kk7x : sKd B n q < 7 := by omega
      refine e_aload rfl rfl ?_
      refine e_iload rfl rfl ?_
      refine e_iload rfl rfl ?_
      refine Eg.p3 rfl (by decide) (by decide) rfl (Nat.le_of_ble_eq_true rfl) (xrcv_of rfl hM.1 rfl) ((ms_isFull hM v1x hw (by omega) hi ((a2x 290 57 (by decide)).trans hst)).mono (by decide)) ?_
      refine e_ifeq_b rfl (fun b53x => ?_) (fun b53x => ?_)
      · replace b53x := yn_0.mp b53x
        have wi := (sKd_iff kk7x).mp (rfl : sKd B n q = sKd B n q)
        have wn := wIs_nxt (by omega) wi
        obtain ⟨x1x, x2x, x3x⟩ := txw_ok (sKd B n q + 1) (by omega) (by omega)
        have etx : ∀ w, w < 7 → txw.getD (w + 1) 0 = w := by decide
        rw [etx _ kk7x] at x2x
        have elen : nI (xlen.getD (sKd B n q + 1) 0) = nI (wln (sKd B n q)) := by rw [x2x]
        have nb2x := fun x => b53x (decide_eq_true x)
        have nfl : ¬ sFull u st (sKd B n q) = true := fun q => nb2x (Or.inr (Or.inr q))
        have io : i = 0 ↔ sKd B n q = 0 := Decidable.byContradiction (fun q => nb2x (Or.inr (Or.inl q)))
        refine e_aload rfl rfl ?_
        refine e_dupr rfl ?_
        refine e_getIv rfl hM.1 a1x.2.1 ?_
        refine e_iload rfl rfl ?_
        refine Eg.p1 rfl (by decide) (by decide) rfl (Nat.le_of_ble_eq_true rfl) (xrcv_ofs (Or.inl rfl)) ((ms_seaWord (w := sKd B n q) (by omega)).mono (by decide)) ?_
        refine Eg.p1 rfl (by decide) (by decide) rfl (Nat.le_of_ble_eq_true rfl) (xrcv_oft rfl (by omega)) ((tx_len (j := sKd B n q + 1) (by omega)).mono (by decide)) ?_
        rw [elen]
        refine e_iadd rfl ?_
        rw [show (nI q) + (nI (wln (sKd B n q))) = nI (q + wln (sKd B n q)) from nI_add _ _]
        refine e_putIJ rfl hM.1 (fun J21x g21x f21x => ?_)
        have r9x : Mr J21x B n (q + wln (sKd B n q)) 0 := a1x.fr (fun i k q => f21x i k (by omega)) g21x ((f21x 290 49 (by decide)).trans a1x.2.2)
        refine e_aload rfl rfl ?_
        refine e_iload rfl rfl ?_
        refine Eg.c2 rfl (by decide) (by decide) rfl (Nat.le_of_ble_eq_true rfl) (xrcv_of rfl hM.1 rfl) ((ms_seaPart hM r9x wn.1 wn.2 (v1x.fr (fun i k q1x q2x => f21x i k (by omega))) hw (w := sKd B n q) kk7x (st := st) nfl (fun e => h2x (fun e0x => e (io.mp e0x))) (fun e => ms_readsTrain hM r9x wn.1 wn.2 (v1x.fr (fun i k q1x q2x => f21x i k (by omega))) hw ((sFull_n nfl).1 e))).mono (by decide)) (fun r1x h1x hq => ?_)
        obtain ⟨rfl, K, p', rfl, b1x, b2x, b3x, b4x, b5x⟩ := hq
        have eF : sCF B n i q u st = sPF B n u (sKd B n q) (nxt B n q) := by unfold sCF; rw [if_neg e7x, if_neg b53x]
        refine Eg.ret rfl (by decide) rfl ⟨rfl, K, p', rfl, by rw [eF]; exact b1x, b2x, fun e => ?_, ((NF.of a2x).tr (fun i t q1x q2x => f21x i t (by omega))).tr b4x⟩
        rw [eF] at e
        refine ⟨(b3x e).1, (b3x e).2, b5x.trans ?_⟩
        by_cases e6x : sKd B n q = 6
        · rw [if_pos e6x, e6x]; cases st <;> rfl
        · rw [if_neg e6x, show (sKd B n q == 6) = false from beq_false_of_ne e6x, Bool.or_false]; exact (f21x 290 57 (by decide)).trans ((a2x 290 57 (by decide)).trans hst)
      · replace b53x := yn_n0.mp b53x
        refine e_aload rfl rfl ?_
        refine e_ipush rfl ?_
        refine e_iload rfl rfl ?_
        refine Eg.c3 rfl (by decide) (by decide) rfl (Nat.le_of_ble_eq_true rfl) (xrcv_of rfl hM.1 rfl) ((ms_fails hM a1x (k := 4) (q := q)).mono (by decide)) (fun r1x h1x hq => ?_)
        obtain ⟨rfl, K, rfl, b1x, b2x⟩ := hq
        have eF : sCF B n i q u st = fl 0 q 4 := by unfold sCF; rw [if_neg e7x, if_pos b53x]
        exact Eg.ret rfl (by decide) rfl ⟨rfl, K, q, rfl, by rw [eF]; exact b1x, hqn, by rw [eF]; exact (fun e => absurd e (fl_ne (by omega))), NF.of (a2x.tr b2x)⟩
    · have e7x : sKd B n q = 7 := (nI_eq (b := 7) (by omega) (by decide)).mp b37x
      refine e_aload rfl rfl ?_
      refine e_ipush rfl ?_
      refine e_iload rfl rfl ?_
      refine Eg.c3 rfl (by decide) (by decide) rfl (Nat.le_of_ble_eq_true rfl) (xrcv_of rfl hM.1 rfl) ((ms_fails hM a1x (k := 0) (q := q)).mono (by decide)) (fun r1x h1x hq => ?_)
      obtain ⟨rfl, K, rfl, b1x, b2x⟩ := hq
      have eF : sCF B n i q u st = fl 0 q 0 := if_pos e7x
      exact Eg.ret rfl (by decide) rfl ⟨rfl, K, q, rfl, by rw [eF]; exact b1x, hqn, by rw [eF]; exact (fun e => absurd e (fl_ne (by omega))), NF.of (a2x.tr b2x)⟩
  refine up_ind (p := fun j => (∀ t, t < j → ¬ wIs B n q t = true) → Eg X xTc 6 219 11 [(0, .ref 290), (1, .int (nI i)), (2, .int (nI q)), (3, .int (nI j))] [] (sh, J, L, R) (fun r h' => r = none ∧ ∃ (J : Nat → Nat → Int32) (p' : Nat), h' = (sh, J, L, R) ∧ Mr J B n p' (sCF B n i q u st) ∧ p' ≤ n ∧ (sCF B n i q u st = 0 → skp B n p' = sPP B n u (sKd B n q) (nxt B n q) ∧ nV J (sPU B n u (sKd B n q) (nxt B n q)) ∧ J 290 57 = bI (st || sKd B n q == 6)) ∧ NF I J)) (n := 7) (j := 0) (fun j hj ih => ?_) ?_ (Nat.zero_le _) (fun t ht => absurd ht (by omega))
  · intro hm
    have etx : ∀ w, w < 7 → txw.getD (w + 1) 0 = w := by decide
    have etj := etx j hj
    refine e_iload rfl rfl ?_
    refine e_ipush rfl ?_
    refine e_cge_f rfl (nI_ge (b := 7) hj (by decide)) ?_
    refine e_aload rfl rfl ?_
    refine e_iload rfl rfl ?_
    refine Eg.p1 rfl (by decide) (by decide) rfl (Nat.le_of_ble_eq_true rfl) (xrcv_ofs (Or.inl rfl)) ((ms_seaWord (w := j) hj).mono (by decide)) ?_
    refine Eg.p2 rfl (by decide) (by decide) rfl (Nat.le_of_ble_eq_true rfl) (xrcv_of rfl hM.1 rfl) ((ms_stood hM a1x (by omega) (j := j + 1) (w := j) (by omega) (by omega) etj).mono (by decide)) ?_
    refine e_ifne_b rfl (fun b25x => ?_) (fun b25x => ?_)
    · replace b25x := yn_n0.mp b25x
      refine Eg.pk [0, 1, 2, 3] [0, 1, 2, 3] rfl (by decide) ?_
      rw [← (sKd_iff (B := B) (n := n) (p := q) hj).mpr b25x]
      exact rest
    · replace b25x := yn_0.mp b25x
      refine e_iinc rfl rfl ?_
      refine e_goto rfl ?_
      refine Eg.pk [0, 1, 2, 3] [3, 0, 1, 2] rfl (by decide) ?_
      rw [nI_1]
      exact ih (lt_snoc hm b25x)
  · intro hm
    have e7x : sKd B n q = 7 := Decidable.byContradiction (fun e => hm (sKd B n q) (by omega) ((sKd_iff (by omega)).mp rfl))
    refine e_iload rfl rfl ?_
    refine e_ipush rfl ?_
    refine e_cge_t rfl (Int32.le_refl _) ?_
    refine Eg.pk [0, 1, 2, 3] [0, 1, 2, 3] rfl (by decide) ?_
    rw [show nI 7 = nI (sKd B n q) by rw [e7x]]
    exact rest
end MS3x
