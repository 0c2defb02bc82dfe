/-! IMAGES, the other side -/
section IM
variable {X : xX} {h : xH} {sh : List (Nat × Nat)} {I : Nat → Nat → Int32} {L : Nat → Nat → Int64} {R : Nat → Nat → Option Nat} {v : Nat → Nat → Int32} {w s m : Nat}
def cTab : List (Nat × Nat) := [(349, 1), (291, 14), (292, 12), (293, 3), (294, 3), (295, 3), (296, 60), (297, 4), (298, 4), (299, 4), (300, 4), (301, 4), (302, 4), (303, 4), (304, 4), (305, 4), (306, 4), (307, 4), (308, 4), (310, 8), (311, 8), (312, 8), (313, 8), (314, 10), (315, 10), (316, 10), (317, 10), (318, 10), (319, 6), (320, 6), (321, 6), (348, 1020)]
def cel (m : Nat) : Nat := (cTab.getD m (0, 0)).1
def cln (m : Nat) : Nat := (cTab.getD m (0, 0)).2
def ofs (m : Nat) : Nat := ((cTab.take m).map (fun q => q.2)).sum
theorem ofs_s : ∀ m, m < 32 → ofs (m + 1) = ofs m + cln m := by decide
theorem ofs_32 : ofs 32 = 1264 := by decide
theorem ofs_le {p m : Nat} (h : p < m) (hm : m ≤ 32) : ofs p + cln p ≤ ofs m := by
  induction m with
  | zero => omega
  | succ m ih =>
    rw [ofs_s m (by omega)]
    by_cases e : p = m
    · subst e; exact Nat.le_refl _
    · have := ih (by omega) (by omega); omega
theorem ofs_bd {m : Nat} (hm : m < 32) : ofs m + cln m ≤ 1264 := by
  have := ofs_le hm (Nat.le_refl _); rw [ofs_32] at this; exact this
theorem cel_in : ∀ m, m < 32 → cel m ≠ 358 ∧ cel m ≠ 290 ∧ 291 ≤ cel m ∧ cel m ≤ 349 := by decide
theorem cel_inj : ∀ m, m < 32 → ∀ p, p < 32 → cel m = cel p → m = p := by decide +kernel
theorem ms_carryS (hM : MW sh R) {b c n : Nat} (h86x : I 290 86 = nI b) (h87x : I 290 87 = 0) (hc : sh[c]? = some (20, n)) (hn : b + n ≤ 7000) (hc1x : c ≠ 358) (hc2x : c ≠ 290) : Ec X 1 308 [.ref 290, .ref c] (sh, I, L, R) (fun r h' => r = none ∧ ∃ J : Nat → Nat → Int32, h' = (sh, J, L, R) ∧ (∀ i, i < n → J 358 (b + i) = I c i) ∧ (∀ x, x < b ∨ b + n ≤ x → J 358 x = I 358 x) ∧ J 290 86 = nI (b + n) ∧ ∀ i x, i ≠ 358 → (i ≠ 290 ∨ x ≠ 86) → J i x = I i x) := by
  refine Ec.of (Nat.le_of_ble_eq_true rfl) ?_
  refine e_ipush rfl ?_
  refine e_istore rfl ?_
  refine Eg.pk [0, 1, 2] [2, 0, 1] rfl (by decide) ?_
  refine up_ind (p := fun j => ∀ J : Nat → Nat → Int32, (∀ i, i < j → J 358 (b + i) = I c i) → (∀ x, x < b ∨ b + j ≤ x → J 358 x = I 358 x) → J 290 86 = nI (b + j) → (∀ i x, i ≠ 358 → (i ≠ 290 ∨ x ≠ 86) → J i x = I i x) → Eg X xTc 0 308 2 [(0, .ref 290), (1, .ref c), (2, .int (nI j))] [] (sh, J, L, R) (fun r h' => r = none ∧ ∃ J : Nat → Nat → Int32, h' = (sh, J, L, R) ∧ (∀ i, i < n → J 358 (b + i) = I c i) ∧ (∀ x, x < b ∨ b + n ≤ x → J 358 x = I 358 x) ∧ J 290 86 = nI (b + n) ∧ ∀ i x, i ≠ 358 → (i ≠ 290 ∨ x ≠ 86) → J i x = I i x)) (n := n) (j := 0) (fun j hj ih => ?_) ?_ (Nat.zero_le _) I (fun i hi => absurd hi (by omega)) (fun x _ => rfl) h86x (fun i x _ _ => rfl)
  · intro J a1x a2x a3x a4x
    have j87x : J 290 87 = 0 := (a4x 290 87 (by decide) (by decide)).trans h87x
    have jc : J c j = I c j := a4x c j hc1x (Or.inl hc2x)
    refine e_iload rfl rfl ?_
    refine e_aload rfl rfl ?_
    refine e_alen rfl hc (by decide) ?_
    refine e_cge_f rfl (nI_ge hj (by omega)) ?_
    refine e_aload rfl rfl ?_
    refine e_getIv rfl hM.1 j87x ?_
    refine e_ifeq_t rfl rfl ?_
    refine e_aload rfl rfl ?_
    refine e_getR rfl hM.1 (show R 290 84 = some 358 from (hM.2 67 _ rfl).2) ?_
    refine e_aload rfl rfl ?_
    refine e_getIv rfl hM.1 a3x ?_
    refine e_aload rfl rfl ?_
    refine e_iload rfl rfl ?_
    refine e_ialv (t := j) (n := n) rfl hc rfl (by omega) (by omega) jc ?_
    refine e_iasJ (t := b + j) (n := 7000) rfl (show sh[358]? = some (20, 7000) from (hM.2 67 _ rfl).1) rfl (by omega) (by decide) (fun J1x g1x f1x => ?_)
    refine e_aload rfl rfl ?_
    refine e_dupr rfl ?_
    refine e_getIv rfl hM.1 ((f1x 290 86 (Or.inl (by omega))).trans a3x) ?_
    refine e_ipush rfl ?_
    refine e_iadd rfl ?_
    rw [show (nI (b + j)) + 1 = nI (b + j + 1) from nI_1 _]
    refine e_putIJ rfl hM.1 (fun J2x g2x f2x => ?_)
    refine e_iinc rfl rfl ?_
    refine e_goto rfl ?_
    refine Eg.pk [0, 1, 2] [2, 0, 1] rfl (by decide) ?_
    rw [nI_1]
    refine ih J2x (fun i hi => ?_) (fun x hx => ?_) g2x (fun i x h1x h2x => ?_)
    · refine (f2x 358 (b + i) (by omega)).trans ?_
      by_cases e : i = j
      · subst e; exact g1x
      · exact (f1x 358 (b + i) (by omega)).trans (a1x i (by omega))
    · exact (f2x 358 x (by omega)).trans ((f1x 358 x (by omega)).trans (a2x x (by omega)))
    · exact (f2x i x (by omega)).trans ((f1x i x (by omega)).trans (a4x i x h1x h2x))
  · intro J a1x a2x a3x a4x
    refine e_iload rfl rfl ?_
    refine e_aload rfl rfl ?_
    refine e_alen rfl hc (by decide) ?_
    refine e_cge_t rfl (Int32.le_refl _) ?_
    exact Eg.ret rfl (by decide) rfl ⟨rfl, J, rfl, a1x, a2x, a3x, a4x⟩
theorem ms_carryL (hM : MW sh R) {b c n : Nat} (h86x : I 290 86 = nI b) (h87x : I 290 87 = 1) (hc : sh[c]? = some (20, n)) (hn : b + n ≤ 7000) (hc1x : c ≠ 358) (hc2x : c ≠ 290) : Ec X 1 308 [.ref 290, .ref c] (sh, I, L, R) (fun r h' => r = none ∧ ∃ J : Nat → Nat → Int32, h' = (sh, J, L, R) ∧ (∀ i, i < n → J c i = I 358 (b + i)) ∧ (∀ i, n ≤ i → J c i = I c i) ∧ J 290 86 = nI (b + n) ∧ ∀ i x, i ≠ c → (i ≠ 290 ∨ x ≠ 86) → J i x = I i x) := by
  refine Ec.of (Nat.le_of_ble_eq_true rfl) ?_
  refine e_ipush rfl ?_
  refine e_istore rfl ?_
  refine Eg.pk [0, 1, 2] [2, 0, 1] rfl (by decide) ?_
  refine up_ind (p := fun j => ∀ J : Nat → Nat → Int32, (∀ i, i < j → J c i = I 358 (b + i)) → (∀ i, j ≤ i → J c i = I c i) → J 290 86 = nI (b + j) → (∀ i x, i ≠ c → (i ≠ 290 ∨ x ≠ 86) → J i x = I i x) → Eg X xTc 0 308 2 [(0, .ref 290), (1, .ref c), (2, .int (nI j))] [] (sh, J, L, R) (fun r h' => r = none ∧ ∃ J : Nat → Nat → Int32, h' = (sh, J, L, R) ∧ (∀ i, i < n → J c i = I 358 (b + i)) ∧ (∀ i, n ≤ i → J c i = I c i) ∧ J 290 86 = nI (b + n) ∧ ∀ i x, i ≠ c → (i ≠ 290 ∨ x ≠ 86) → J i x = I i x)) (n := n) (j := 0) (fun j hj ih => ?_) ?_ (Nat.zero_le _) I (fun i hi => absurd hi (by omega)) (fun i _ => rfl) h86x (fun i x _ _ => rfl)
  · intro J a1x a2x a3x a4x
    have j87x : J 290 87 = 1 := (a4x 290 87 (by omega) (by decide)).trans h87x
    have jv : J 358 (b + j) = I 358 (b + j) := a4x 358 (b + j) (by omega) (Or.inl (by decide))
    refine e_iload rfl rfl ?_
    refine e_aload rfl rfl ?_
    refine e_alen rfl hc (by decide) ?_
    refine e_cge_f rfl (nI_ge hj (by omega)) ?_
    refine e_aload rfl rfl ?_
    refine e_getIv rfl hM.1 j87x ?_
    refine e_ifeq_f rfl (by decide) ?_
    refine e_aload rfl rfl ?_
    refine e_iload rfl rfl ?_
    refine e_aload rfl rfl ?_
    refine e_getR rfl hM.1 (show R 290 84 = some 358 from (hM.2 67 _ rfl).2) ?_
    refine e_aload rfl rfl ?_
    refine e_getIv rfl hM.1 a3x ?_
    refine e_ialv (t := b + j) (n := 7000) rfl (show sh[358]? = some (20, 7000) from (hM.2 67 _ rfl).1) rfl (by omega) (by decide) jv ?_
    refine e_iasJ (t := j) (n := n) rfl hc rfl (by omega) (by omega) (fun J1x g1x f1x => ?_)
    refine e_goto rfl ?_
    refine e_aload rfl rfl ?_
    refine e_dupr rfl ?_
    refine e_getIv rfl hM.1 ((f1x 290 86 (Or.inl (by omega))).trans a3x) ?_
    refine e_ipush rfl ?_
    refine e_iadd rfl ?_
    rw [show (nI (b + j)) + 1 = nI (b + j + 1) from nI_1 _]
    refine e_putIJ rfl hM.1 (fun J2x g2x f2x => ?_)
    refine e_iinc rfl rfl ?_
    refine e_goto rfl ?_
    refine Eg.pk [0, 1, 2] [2, 0, 1] rfl (by decide) ?_
    rw [nI_1]
    refine ih J2x (fun i hi => ?_) (fun i hi => ?_) g2x (fun i x h1x h2x => ?_)
    · refine (f2x c i (by omega)).trans ?_
      by_cases e : i = j
      · subst e; exact g1x
      · exact (f1x c i (by omega)).trans (a1x i (by omega))
    · exact (f2x c i (by omega)).trans ((f1x c i (by omega)).trans (a2x i (by omega)))
    · exact (f2x i x (by omega)).trans ((f1x i x (by omega)).trans (a4x i x h1x h2x))
  · intro J a1x a2x a3x a4x
    refine e_iload rfl rfl ?_
    refine e_aload rfl rfl ?_
    refine e_alen rfl hc (by decide) ?_
    refine e_cge_t rfl (Int32.le_refl _) ?_
    exact Eg.ret rfl (by decide) rfl ⟨rfl, J, rfl, a1x, a2x, a3x, a4x⟩
def CSt (K J : Nat → Nat → Int32) (b m : Nat) : Prop := (∀ p i, p < m → i < cln p → J 358 (b + ofs p + i) = K (cel p) i) ∧ (∀ x, x < b ∨ b + ofs m ≤ x → J 358 x = K 358 x) ∧ J 290 86 = nI (b + ofs m) ∧ J 290 87 = 0 ∧ ∀ i x, i ≠ 358 → (i ≠ 290 ∨ x ≠ 86) → J i x = K i x
def CLd (K J : Nat → Nat → Int32) (b m : Nat) : Prop := (∀ p i, p < m → i < cln p → J (cel p) i = K 358 (b + ofs p + i)) ∧ (∀ p i, p < 32 → (m ≤ p ∨ cln p ≤ i) → J (cel p) i = K (cel p) i) ∧ J 290 86 = nI (b + ofs m) ∧ J 290 87 = 1 ∧ ∀ i x, (∀ p, p < 32 → i ≠ cel p) → (i ≠ 290 ∨ x ≠ 86) → J i x = K i x
theorem CSt.call {K J : Nat → Nat → Int32} {b m c n : Nat} (s : CSt K J b m) (hM : MW sh R) (hb : b + 1264 ≤ 7000) (hm : m < 32) (hc : cel m = c) (hn : cln m = n) (hsh : sh[c]? = some (20, n)) : Ec X 1 308 [.ref 290, .ref c] (sh, J, L, R) (fun r h' => r = none ∧ ∃ J' : Nat → Nat → Int32, h' = (sh, J', L, R) ∧ CSt K J' b (m + 1)) := by
  obtain ⟨s1x, s2x, s3x, s4x, s5x⟩ := s
  have hi := cel_in m hm
  have hbd := ofs_bd hm
  rw [hc] at hi
  rw [hn] at hbd
  refine (ms_carryS hM s3x s4x hsh (by omega) hi.1 hi.2.1).imp ?_
  rintro r h' ⟨rfl, J', rfl, q1x, q2x, q3x, q4x⟩
  refine ⟨rfl, J', rfl, fun p i hp hi => ?_, fun x hx => ?_, ?_, (q4x 290 87 (by decide) (by decide)).trans s4x, fun i x h1x h2x => (q4x i x h1x h2x).trans (s5x i x h1x h2x)⟩
  · by_cases e : p = m
    · subst e; rw [q1x i (by omega), hc]; exact s5x c i (by omega) (by omega)
    · have := ofs_le (p := p) (m := m) (by omega) (by omega)
      rw [q2x _ (by omega)]; exact s1x p i (by omega) hi
  · rw [ofs_s m hm, hn] at hx
    rw [q2x x (by omega)]; exact s2x x (by omega)
  · rw [ofs_s m hm, hn, ← Nat.add_assoc]; exact q3x
theorem CLd.call {K J : Nat → Nat → Int32} {b m c n : Nat} (s : CLd K J b m) (hM : MW sh R) (hb : b + 1264 ≤ 7000) (hm : m < 32) (hc : cel m = c) (hn : cln m = n) (hsh : sh[c]? = some (20, n)) : Ec X 1 308 [.ref 290, .ref c] (sh, J, L, R) (fun r h' => r = none ∧ ∃ J' : Nat → Nat → Int32, h' = (sh, J', L, R) ∧ CLd K J' b (m + 1)) := by
  obtain ⟨s1x, s2x, s3x, s4x, s5x⟩ := s
  have hi := cel_in m hm
  have hbd := ofs_bd hm
  rw [hc] at hi
  rw [hn] at hbd
  have n358x : ∀ p, p < 32 → 358 ≠ cel p := fun p hp q => (cel_in p hp).1 q.symm
  have n290x : ∀ p, p < 32 → 290 ≠ cel p := fun p hp q => (cel_in p hp).2.1 q.symm
  refine (ms_carryL hM s3x s4x hsh (by omega) hi.1 hi.2.1).imp ?_
  rintro r h' ⟨rfl, J', rfl, q1x, q2x, q3x, q4x⟩
  refine ⟨rfl, J', rfl, fun p i hp hi => ?_, fun p i hp hx => ?_, ?_, (q4x 290 87 (by omega) (by decide)).trans s4x, fun i x h1x h2x => (q4x i x (fun q => h1x m hm (q.trans hc.symm)) (by omega)).trans (s5x i x h1x h2x)⟩
  · by_cases e : p = m
    · subst e; rw [hc, q1x i (by omega)]; exact s5x 358 _ n358x (Or.inl (by decide))
    · have hne : cel p ≠ c := fun q => e (cel_inj p (by omega) m hm (q.trans hc.symm))
      have h290x := (cel_in p (by omega)).2.1
      rw [q4x _ _ hne (Or.inl h290x)]; exact s1x p i (by omega) hi
  · by_cases e : p = m
    · subst e
      have hx : cln p ≤ i := by omega
      rw [hc, q2x i (by omega), ← hc]; exact s2x p i hp (Or.inr hx)
    · have hne : cel p ≠ c := fun q => e (cel_inj p (by omega) m hm (q.trans hc.symm))
      have h290x := (cel_in p (by omega)).2.1
      rw [q4x _ _ hne (Or.inl h290x)]; exact s2x p i hp (by omega)
  · rw [ofs_s m hm, hn, ← Nat.add_assoc]; exact q3x
/-- after an image's making -/
def CSP (I J : Nat → Nat → Int32) (k : Nat) : Prop := (∀ m i, 1 ≤ m → m < 32 → i < cln m → J 358 (1400 * k + ofs m + i) = I (cel m) i) ∧ J 358 (1400 * k) = I 290 71 ∧ (∀ x, x < 1400 * k ∨ 1400 * k + 1264 ≤ x → J 358 x = I 358 x) ∧ ∀ i x, i ≠ 358 → i ≠ 349 → (i ≠ 290 ∨ (x ≠ 86 ∧ x ≠ 87)) → J i x = I i x
def CLP (I J : Nat → Nat → Int32) (k : Nat) : Prop := (∀ m i, 1 ≤ m → m < 32 → i < cln m → J (cel m) i = I 358 (1400 * k + ofs m + i)) ∧ (∀ m i, 1 ≤ m → m < 32 → cln m ≤ i → J (cel m) i = I (cel m) i) ∧ J 290 71 = I 358 (1400 * k) ∧ ∀ i x, (∀ p, p < 32 → i ≠ cel p) → (i ≠ 290 ∨ (x ≠ 86 ∧ x ≠ 87 ∧ x ≠ 71)) → J i x = I i x
theorem ms_carriesS (hM : MW sh R) {k : Nat} (hk : k < 5) : Ec X 2 309 [.ref 290, .int (nI k), .int 0] (sh, I, L, R) (fun r h' => r = none ∧ ∃ J : Nat → Nat → Int32, h' = (sh, J, L, R) ∧ CSP I J k) := by
  refine Ec.of (Nat.le_of_ble_eq_true rfl) ?_
  refine e_aload rfl rfl ?_
  refine e_ipush rfl ?_
  refine e_iload rfl rfl ?_
  refine e_imul rfl ?_
  rw [show 1400 * (nI k) = nI (1400 * k) from nI_times 1400 k]
  refine e_putIJ rfl hM.1 (fun J1x g1x f1x => ?_)
  refine e_aload rfl rfl ?_
  refine e_iload rfl rfl ?_
  refine e_putZJ rfl hM.1 (by decide) (fun J2x g2x f2x => ?_)
  refine e_aload rfl rfl ?_
  refine e_getR rfl hM.1 (show R 290 70 = some 349 from (hM.2 58 _ rfl).2) ?_
  refine e_ipush rfl ?_
  refine e_aload rfl rfl ?_
  refine e_getIv rfl hM.1 ((f2x 290 71 (Or.inr (by decide))).trans (f1x 290 71 (Or.inr (by decide)))) ?_
  refine e_iasJ (t := 0) (n := 1) rfl (show sh[349]? = some (20, 1) from (hM.2 58 _ rfl).1) rfl (by decide) (by decide) (fun J3x g3x f3x => ?_)
  refine e_aload rfl rfl ?_
  refine e_aload rfl rfl ?_
  refine e_getR rfl hM.1 (show R 290 70 = some 349 from (hM.2 58 _ rfl).2) ?_
  have s : CSt J3x J3x (1400 * k) 0 := ⟨fun p i hp => absurd hp (by omega), fun x hx => rfl, (f3x 290 86 (by decide)).trans ((f2x 290 86 (by decide)).trans g1x), (f3x 290 87 (by decide)).trans g2x, fun i x h1x h2x => rfl⟩
  refine Eg.c2 rfl (by decide) (by decide) rfl (Nat.le_of_ble_eq_true rfl) (xrcv_of rfl hM.1 rfl) ((s.call hM (by omega) (m := 0) (c := 349) (n := 1) (by decide) rfl rfl (show sh[349]? = some (20, 1) from (hM.2 58 _ rfl).1)).mono (by decide)) (fun r1x h1x hq => ?_)
  obtain ⟨rfl, Jr, rfl, sr⟩ := hq
  refine e_aload rfl rfl ?_
  refine e_aload rfl rfl ?_
  refine e_getR rfl hM.1 (show R 290 70 = some 349 from (hM.2 58 _ rfl).2) ?_
  refine e_ipush rfl ?_
  have k71x : J3x 290 71 = I 290 71 := (f3x 290 71 (by decide)).trans ((f2x 290 71 (by decide)).trans (f1x 290 71 (by decide)))
  have r0x : Jr 349 0 = I 290 71 := (sr.2.2.2.2 349 0 (by decide) (by decide)).trans g3x
  refine e_ialv (t := 0) (n := 1) rfl (show sh[349]? = some (20, 1) from (hM.2 58 _ rfl).1) rfl (by decide) (by decide) r0x ?_
  refine e_putIJ rfl hM.1 (fun J4x g4x f4x => ?_)
  have s : CSt J3x J4x (1400 * k) 1 := ⟨fun p i hp hi => (f4x 358 _ (by omega)).trans (sr.1 p i hp hi), fun x hx => (f4x 358 x (by omega)).trans (sr.2.1 x hx), (f4x 290 86 (by decide)).trans sr.2.2.1, (f4x 290 87 (by decide)).trans sr.2.2.2.1, fun i x h1x h2x => by
    by_cases e : i = 290 ∧ x = 71
    · obtain ⟨rfl, rfl⟩ := e; exact g4x.trans k71x.symm
    · exact (f4x i x (by omega)).trans (sr.2.2.2.2 i x h1x h2x)⟩
  refine e_aload rfl rfl ?_
  refine e_aload rfl rfl ?_
  refine e_getR rfl hM.1 (show R 290 1 = some 291 from (hM.2 0 _ rfl).2) ?_
  refine Eg.c2 rfl (by decide) (by decide) rfl (Nat.le_of_ble_eq_true rfl) (xrcv_of rfl hM.1 rfl) ((s.call hM (by omega) (m := 1) (c := 291) (n := 14) (by decide) rfl rfl (show sh[291]? = some (20, 14) from (hM.2 0 _ rfl).1)).mono (by decide)) (fun r1x h1x hq => ?_)
  obtain ⟨rfl, J, rfl, s⟩ := hq
  refine e_aload rfl rfl ?_
  refine e_aload rfl rfl ?_
  refine e_getR rfl hM.1 (show R 290 2 = some 292 from (hM.2 1 _ rfl).2) ?_
  refine Eg.c2 rfl (by decide) (by decide) rfl (Nat.le_of_ble_eq_true rfl) (xrcv_of rfl hM.1 rfl) ((s.call hM (by omega) (m := 2) (c := 292) (n := 12) (by decide) rfl rfl (show sh[292]? = some (20, 12) from (hM.2 1 _ rfl).1)).mono (by decide)) (fun r1x h1x hq => ?_)
  obtain ⟨rfl, J, rfl, s⟩ := hq
  refine e_aload rfl rfl ?_
  refine e_aload rfl rfl ?_
  refine e_getR rfl hM.1 (show R 290 3 = some 293 from (hM.2 2 _ rfl).2) ?_
  refine Eg.c2 rfl (by decide) (by decide) rfl (Nat.le_of_ble_eq_true rfl) (xrcv_of rfl hM.1 rfl) ((s.call hM (by omega) (m := 3) (c := 293) (n := 3) (by decide) rfl rfl (show sh[293]? = some (20, 3) from (hM.2 2 _ rfl).1)).mono (by decide)) (fun r1x h1x hq => ?_)
  obtain ⟨rfl, J, rfl, s⟩ := hq
  refine e_aload rfl rfl ?_
  refine e_aload rfl rfl ?_
  refine e_getR rfl hM.1 (show R 290 4 = some 294 from (hM.2 3 _ rfl).2) ?_
  refine Eg.c2 rfl (by decide) (by decide) rfl (Nat.le_of_ble_eq_true rfl) (xrcv_of rfl hM.1 rfl) ((s.call hM (by omega) (m := 4) (c := 294) (n := 3) (by decide) rfl rfl (show sh[294]? = some (20, 3) from (hM.2 3 _ rfl).1)).mono (by decide)) (fun r1x h1x hq => ?_)
  obtain ⟨rfl, J, rfl, s⟩ := hq
  refine e_aload rfl rfl ?_
  refine e_aload rfl rfl ?_
  refine e_getR rfl hM.1 (show R 290 5 = some 295 from (hM.2 4 _ rfl).2) ?_
  refine Eg.c2 rfl (by decide) (by decide) rfl (Nat.le_of_ble_eq_true rfl) (xrcv_of rfl hM.1 rfl) ((s.call hM (by omega) (m := 5) (c := 295) (n := 3) (by decide) rfl rfl (show sh[295]? = some (20, 3) from (hM.2 4 _ rfl).1)).mono (by decide)) (fun r1x h1x hq => ?_)
  obtain ⟨rfl, J, rfl, s⟩ := hq
  refine e_aload rfl rfl ?_
  refine e_aload rfl rfl ?_
  refine e_getR rfl hM.1 (show R 290 6 = some 296 from (hM.2 5 _ rfl).2) ?_
  refine Eg.c2 rfl (by decide) (by decide) rfl (Nat.le_of_ble_eq_true rfl) (xrcv_of rfl hM.1 rfl) ((s.call hM (by omega) (m := 6) (c := 296) (n := 60) (by decide) rfl rfl (show sh[296]? = some (20, 60) from (hM.2 5 _ rfl).1)).mono (by decide)) (fun r1x h1x hq => ?_)
  obtain ⟨rfl, J, rfl, s⟩ := hq
  refine e_aload rfl rfl ?_
  refine e_aload rfl rfl ?_
  refine e_getR rfl hM.1 (show R 290 7 = some 297 from (hM.2 6 _ rfl).2) ?_
  refine Eg.c2 rfl (by decide) (by decide) rfl (Nat.le_of_ble_eq_true rfl) (xrcv_of rfl hM.1 rfl) ((s.call hM (by omega) (m := 7) (c := 297) (n := 4) (by decide) rfl rfl (show sh[297]? = some (20, 4) from (hM.2 6 _ rfl).1)).mono (by decide)) (fun r1x h1x hq => ?_)
  obtain ⟨rfl, J, rfl, s⟩ := hq
  refine e_aload rfl rfl ?_
  refine e_aload rfl rfl ?_
  refine e_getR rfl hM.1 (show R 290 8 = some 298 from (hM.2 7 _ rfl).2) ?_
  refine Eg.c2 rfl (by decide) (by decide) rfl (Nat.le_of_ble_eq_true rfl) (xrcv_of rfl hM.1 rfl) ((s.call hM (by omega) (m := 8) (c := 298) (n := 4) (by decide) rfl rfl (show sh[298]? = some (20, 4) from (hM.2 7 _ rfl).1)).mono (by decide)) (fun r1x h1x hq => ?_)
  obtain ⟨rfl, J, rfl, s⟩ := hq
  refine e_aload rfl rfl ?_
  refine e_aload rfl rfl ?_
  refine e_getR rfl hM.1 (show R 290 9 = some 299 from (hM.2 8 _ rfl).2) ?_
  refine Eg.c2 rfl (by decide) (by decide) rfl (Nat.le_of_ble_eq_true rfl) (xrcv_of rfl hM.1 rfl) ((s.call hM (by omega) (m := 9) (c := 299) (n := 4) (by decide) rfl rfl (show sh[299]? = some (20, 4) from (hM.2 8 _ rfl).1)).mono (by decide)) (fun r1x h1x hq => ?_)
  obtain ⟨rfl, J, rfl, s⟩ := hq
  refine e_aload rfl rfl ?_
  refine e_aload rfl rfl ?_
  refine e_getR rfl hM.1 (show R 290 10 = some 300 from (hM.2 9 _ rfl).2) ?_
  refine Eg.c2 rfl (by decide) (by decide) rfl (Nat.le_of_ble_eq_true rfl) (xrcv_of rfl hM.1 rfl) ((s.call hM (by omega) (m := 10) (c := 300) (n := 4) (by decide) rfl rfl (show sh[300]? = some (20, 4) from (hM.2 9 _ rfl).1)).mono (by decide)) (fun r1x h1x hq => ?_)
  obtain ⟨rfl, J, rfl, s⟩ := hq
  refine e_aload rfl rfl ?_
  refine e_aload rfl rfl ?_
  refine e_getR rfl hM.1 (show R 290 11 = some 301 from (hM.2 10 _ rfl).2) ?_
  refine Eg.c2 rfl (by decide) (by decide) rfl (Nat.le_of_ble_eq_true rfl) (xrcv_of rfl hM.1 rfl) ((s.call hM (by omega) (m := 11) (c := 301) (n := 4) (by decide) rfl rfl (show sh[301]? = some (20, 4) from (hM.2 10 _ rfl).1)).mono (by decide)) (fun r1x h1x hq => ?_)
  obtain ⟨rfl, J, rfl, s⟩ := hq
  refine e_aload rfl rfl ?_
  refine e_aload rfl rfl ?_
  refine e_getR rfl hM.1 (show R 290 12 = some 302 from (hM.2 11 _ rfl).2) ?_
  refine Eg.c2 rfl (by decide) (by decide) rfl (Nat.le_of_ble_eq_true rfl) (xrcv_of rfl hM.1 rfl) ((s.call hM (by omega) (m := 12) (c := 302) (n := 4) (by decide) rfl rfl (show sh[302]? = some (20, 4) from (hM.2 11 _ rfl).1)).mono (by decide)) (fun r1x h1x hq => ?_)
  obtain ⟨rfl, J, rfl, s⟩ := hq
  refine e_aload rfl rfl ?_
  refine e_aload rfl rfl ?_
  refine e_getR rfl hM.1 (show R 290 13 = some 303 from (hM.2 12 _ rfl).2) ?_
  refine Eg.c2 rfl (by decide) (by decide) rfl (Nat.le_of_ble_eq_true rfl) (xrcv_of rfl hM.1 rfl) ((s.call hM (by omega) (m := 13) (c := 303) (n := 4) (by decide) rfl rfl (show sh[303]? = some (20, 4) from (hM.2 12 _ rfl).1)).mono (by decide)) (fun r1x h1x hq => ?_)
  obtain ⟨rfl, J, rfl, s⟩ := hq
  refine e_aload rfl rfl ?_
  refine e_aload rfl rfl ?_
  refine e_getR rfl hM.1 (show R 290 14 = some 304 from (hM.2 13 _ rfl).2) ?_
  refine Eg.c2 rfl (by decide) (by decide) rfl (Nat.le_of_ble_eq_true rfl) (xrcv_of rfl hM.1 rfl) ((s.call hM (by omega) (m := 14) (c := 304) (n := 4) (by decide) rfl rfl (show sh[304]? = some (20, 4) from (hM.2 13 _ rfl).1)).mono (by decide)) (fun r1x h1x hq => ?_)
  obtain ⟨rfl, J, rfl, s⟩ := hq
  refine e_aload rfl rfl ?_
  refine e_aload rfl rfl ?_
  refine e_getR rfl hM.1 (show R 290 15 = some 305 from (hM.2 14 _ rfl).2) ?_
  refine Eg.c2 rfl (by decide) (by decide) rfl (Nat.le_of_ble_eq_true rfl) (xrcv_of rfl hM.1 rfl) ((s.call hM (by omega) (m := 15) (c := 305) (n := 4) (by decide) rfl rfl (show sh[305]? = some (20, 4) from (hM.2 14 _ rfl).1)).mono (by decide)) (fun r1x h1x hq => ?_)
  obtain ⟨rfl, J, rfl, s⟩ := hq
  refine e_aload rfl rfl ?_
  refine e_aload rfl rfl ?_
  refine e_getR rfl hM.1 (show R 290 16 = some 306 from (hM.2 15 _ rfl).2) ?_
  refine Eg.c2 rfl (by decide) (by decide) rfl (Nat.le_of_ble_eq_true rfl) (xrcv_of rfl hM.1 rfl) ((s.call hM (by omega) (m := 16) (c := 306) (n := 4) (by decide) rfl rfl (show sh[306]? = some (20, 4) from (hM.2 15 _ rfl).1)).mono (by decide)) (fun r1x h1x hq => ?_)
  obtain ⟨rfl, J, rfl, s⟩ := hq
  refine e_aload rfl rfl ?_
  refine e_aload rfl rfl ?_
  refine e_getR rfl hM.1 (show R 290 17 = some 307 from (hM.2 16 _ rfl).2) ?_
  refine Eg.c2 rfl (by decide) (by decide) rfl (Nat.le_of_ble_eq_true rfl) (xrcv_of rfl hM.1 rfl) ((s.call hM (by omega) (m := 17) (c := 307) (n := 4) (by decide) rfl rfl (show sh[307]? = some (20, 4) from (hM.2 16 _ rfl).1)).mono (by decide)) (fun r1x h1x hq => ?_)
  obtain ⟨rfl, J, rfl, s⟩ := hq
  refine e_aload rfl rfl ?_
  refine e_aload rfl rfl ?_
  refine e_getR rfl hM.1 (show R 290 18 = some 308 from (hM.2 17 _ rfl).2) ?_
  refine Eg.c2 rfl (by decide) (by decide) rfl (Nat.le_of_ble_eq_true rfl) (xrcv_of rfl hM.1 rfl) ((s.call hM (by omega) (m := 18) (c := 308) (n := 4) (by decide) rfl rfl (show sh[308]? = some (20, 4) from (hM.2 17 _ rfl).1)).mono (by decide)) (fun r1x h1x hq => ?_)
  obtain ⟨rfl, J, rfl, s⟩ := hq
  refine e_aload rfl rfl ?_
  refine e_aload rfl rfl ?_
  refine e_getR rfl hM.1 (show R 290 20 = some 310 from (hM.2 19 _ rfl).2) ?_
  refine Eg.c2 rfl (by decide) (by decide) rfl (Nat.le_of_ble_eq_true rfl) (xrcv_of rfl hM.1 rfl) ((s.call hM (by omega) (m := 19) (c := 310) (n := 8) (by decide) rfl rfl (show sh[310]? = some (20, 8) from (hM.2 19 _ rfl).1)).mono (by decide)) (fun r1x h1x hq => ?_)
  obtain ⟨rfl, J, rfl, s⟩ := hq
  refine e_aload rfl rfl ?_
  refine e_aload rfl rfl ?_
  refine e_getR rfl hM.1 (show R 290 21 = some 311 from (hM.2 20 _ rfl).2) ?_
  refine Eg.c2 rfl (by decide) (by decide) rfl (Nat.le_of_ble_eq_true rfl) (xrcv_of rfl hM.1 rfl) ((s.call hM (by omega) (m := 20) (c := 311) (n := 8) (by decide) rfl rfl (show sh[311]? = some (20, 8) from (hM.2 20 _ rfl).1)).mono (by decide)) (fun r1x h1x hq => ?_)
  obtain ⟨rfl, J, rfl, s⟩ := hq
  refine e_aload rfl rfl ?_
  refine e_aload rfl rfl ?_
  refine e_getR rfl hM.1 (show R 290 22 = some 312 from (hM.2 21 _ rfl).2) ?_
  refine Eg.c2 rfl (by decide) (by decide) rfl (Nat.le_of_ble_eq_true rfl) (xrcv_of rfl hM.1 rfl) ((s.call hM (by omega) (m := 21) (c := 312) (n := 8) (by decide) rfl rfl (show sh[312]? = some (20, 8) from (hM.2 21 _ rfl).1)).mono (by decide)) (fun r1x h1x hq => ?_)
  obtain ⟨rfl, J, rfl, s⟩ := hq
  refine e_aload rfl rfl ?_
  refine e_aload rfl rfl ?_
  refine e_getR rfl hM.1 (show R 290 23 = some 313 from (hM.2 22 _ rfl).2) ?_
  refine Eg.c2 rfl (by decide) (by decide) rfl (Nat.le_of_ble_eq_true rfl) (xrcv_of rfl hM.1 rfl) ((s.call hM (by omega) (m := 22) (c := 313) (n := 8) (by decide) rfl rfl (show sh[313]? = some (20, 8) from (hM.2 22 _ rfl).1)).mono (by decide)) (fun r1x h1x hq => ?_)
  obtain ⟨rfl, J, rfl, s⟩ := hq
  refine e_aload rfl rfl ?_
  refine e_aload rfl rfl ?_
  refine e_getR rfl hM.1 (show R 290 24 = some 314 from (hM.2 23 _ rfl).2) ?_
  refine Eg.c2 rfl (by decide) (by decide) rfl (Nat.le_of_ble_eq_true rfl) (xrcv_of rfl hM.1 rfl) ((s.call hM (by omega) (m := 23) (c := 314) (n := 10) (by decide) rfl rfl (show sh[314]? = some (20, 10) from (hM.2 23 _ rfl).1)).mono (by decide)) (fun r1x h1x hq => ?_)
  obtain ⟨rfl, J, rfl, s⟩ := hq
  refine e_aload rfl rfl ?_
  refine e_aload rfl rfl ?_
  refine e_getR rfl hM.1 (show R 290 25 = some 315 from (hM.2 24 _ rfl).2) ?_
  refine Eg.c2 rfl (by decide) (by decide) rfl (Nat.le_of_ble_eq_true rfl) (xrcv_of rfl hM.1 rfl) ((s.call hM (by omega) (m := 24) (c := 315) (n := 10) (by decide) rfl rfl (show sh[315]? = some (20, 10) from (hM.2 24 _ rfl).1)).mono (by decide)) (fun r1x h1x hq => ?_)
  obtain ⟨rfl, J, rfl, s⟩ := hq
  refine e_aload rfl rfl ?_
  refine e_aload rfl rfl ?_
  refine e_getR rfl hM.1 (show R 290 26 = some 316 from (hM.2 25 _ rfl).2) ?_
  refine Eg.c2 rfl (by decide) (by decide) rfl (Nat.le_of_ble_eq_true rfl) (xrcv_of rfl hM.1 rfl) ((s.call hM (by omega) (m := 25) (c := 316) (n := 10) (by decide) rfl rfl (show sh[316]? = some (20, 10) from (hM.2 25 _ rfl).1)).mono (by decide)) (fun r1x h1x hq => ?_)
  obtain ⟨rfl, J, rfl, s⟩ := hq
  refine e_aload rfl rfl ?_
  refine e_aload rfl rfl ?_
  refine e_getR rfl hM.1 (show R 290 27 = some 317 from (hM.2 26 _ rfl).2) ?_
  refine Eg.c2 rfl (by decide) (by decide) rfl (Nat.le_of_ble_eq_true rfl) (xrcv_of rfl hM.1 rfl) ((s.call hM (by omega) (m := 26) (c := 317) (n := 10) (by decide) rfl rfl (show sh[317]? = some (20, 10) from (hM.2 26 _ rfl).1)).mono (by decide)) (fun r1x h1x hq => ?_)
  obtain ⟨rfl, J, rfl, s⟩ := hq
  refine e_aload rfl rfl ?_
  refine e_aload rfl rfl ?_
  refine e_getR rfl hM.1 (show R 290 28 = some 318 from (hM.2 27 _ rfl).2) ?_
  refine Eg.c2 rfl (by decide) (by decide) rfl (Nat.le_of_ble_eq_true rfl) (xrcv_of rfl hM.1 rfl) ((s.call hM (by omega) (m := 27) (c := 318) (n := 10) (by decide) rfl rfl (show sh[318]? = some (20, 10) from (hM.2 27 _ rfl).1)).mono (by decide)) (fun r1x h1x hq => ?_)
  obtain ⟨rfl, J, rfl, s⟩ := hq
  refine e_aload rfl rfl ?_
  refine e_aload rfl rfl ?_
  refine e_getR rfl hM.1 (show R 290 29 = some 319 from (hM.2 28 _ rfl).2) ?_
  refine Eg.c2 rfl (by decide) (by decide) rfl (Nat.le_of_ble_eq_true rfl) (xrcv_of rfl hM.1 rfl) ((s.call hM (by omega) (m := 28) (c := 319) (n := 6) (by decide) rfl rfl (show sh[319]? = some (20, 6) from (hM.2 28 _ rfl).1)).mono (by decide)) (fun r1x h1x hq => ?_)
  obtain ⟨rfl, J, rfl, s⟩ := hq
  refine e_aload rfl rfl ?_
  refine e_aload rfl rfl ?_
  refine e_getR rfl hM.1 (show R 290 30 = some 320 from (hM.2 29 _ rfl).2) ?_
  refine Eg.c2 rfl (by decide) (by decide) rfl (Nat.le_of_ble_eq_true rfl) (xrcv_of rfl hM.1 rfl) ((s.call hM (by omega) (m := 29) (c := 320) (n := 6) (by decide) rfl rfl (show sh[320]? = some (20, 6) from (hM.2 29 _ rfl).1)).mono (by decide)) (fun r1x h1x hq => ?_)
  obtain ⟨rfl, J, rfl, s⟩ := hq
  refine e_aload rfl rfl ?_
  refine e_aload rfl rfl ?_
  refine e_getR rfl hM.1 (show R 290 31 = some 321 from (hM.2 30 _ rfl).2) ?_
  refine Eg.c2 rfl (by decide) (by decide) rfl (Nat.le_of_ble_eq_true rfl) (xrcv_of rfl hM.1 rfl) ((s.call hM (by omega) (m := 30) (c := 321) (n := 6) (by decide) rfl rfl (show sh[321]? = some (20, 6) from (hM.2 30 _ rfl).1)).mono (by decide)) (fun r1x h1x hq => ?_)
  obtain ⟨rfl, J, rfl, s⟩ := hq
  refine e_aload rfl rfl ?_
  refine e_aload rfl rfl ?_
  refine e_getR rfl hM.1 (show R 290 69 = some 348 from (hM.2 57 _ rfl).2) ?_
  refine Eg.c2 rfl (by decide) (by decide) rfl (Nat.le_of_ble_eq_true rfl) (xrcv_of rfl hM.1 rfl) ((s.call hM (by omega) (m := 31) (c := 348) (n := 1020) (by decide) rfl rfl (show sh[348]? = some (20, 1020) from (hM.2 57 _ rfl).1)).mono (by decide)) (fun r1x h1x hq => ?_)
  obtain ⟨rfl, J, rfl, s⟩ := hq
  have ef : ∀ i x, i ≠ 349 → (i ≠ 290 ∨ (x ≠ 86 ∧ x ≠ 87)) → J3x i x = I i x := fun i x h1x h2x => (f3x i x (by omega)).trans ((f2x i x (by omega)).trans (f1x i x (by omega)))
  refine Eg.ret rfl (by decide) rfl ⟨rfl, J, rfl, fun m i h1x h2x h3x => ?_, ?_, fun x hx => ?_, fun i x h1x h2x h3x => (s.2.2.2.2 i x h1x (by omega)).trans (ef i x h2x h3x)⟩
  · have := cel_in m h2x
    have h9x : cel m ≠ 349 := fun q => by have := cel_inj m h2x 0 (by decide) q; omega
    exact (s.1 m i h2x h3x).trans (ef _ i h9x (Or.inl this.2.1))
  · exact (s.1 0 0 (by decide) (by decide)).trans g3x
  · exact (s.2.1 x (by rw [ofs_32]; exact hx)).trans (ef 358 x (by decide) (Or.inl (by decide)))
theorem ms_carriesL (hM : MW sh R) {k : Nat} (hk : k < 5) : Ec X 2 309 [.ref 290, .int (nI k), .int 1] (sh, I, L, R) (fun r h' => r = none ∧ ∃ J : Nat → Nat → Int32, h' = (sh, J, L, R) ∧ CLP I J k) := by
  refine Ec.of (Nat.le_of_ble_eq_true rfl) ?_
  refine e_aload rfl rfl ?_
  refine e_ipush rfl ?_
  refine e_iload rfl rfl ?_
  refine e_imul rfl ?_
  rw [show 1400 * (nI k) = nI (1400 * k) from nI_times 1400 k]
  refine e_putIJ rfl hM.1 (fun J1x g1x f1x => ?_)
  refine e_aload rfl rfl ?_
  refine e_iload rfl rfl ?_
  refine e_putZJ rfl hM.1 (by decide) (fun J2x g2x f2x => ?_)
  refine e_aload rfl rfl ?_
  refine e_getR rfl hM.1 (show R 290 70 = some 349 from (hM.2 58 _ rfl).2) ?_
  refine e_ipush rfl ?_
  refine e_aload rfl rfl ?_
  refine e_getIv rfl hM.1 ((f2x 290 71 (Or.inr (by decide))).trans (f1x 290 71 (Or.inr (by decide)))) ?_
  refine e_iasJ (t := 0) (n := 1) rfl (show sh[349]? = some (20, 1) from (hM.2 58 _ rfl).1) rfl (by decide) (by decide) (fun J3x g3x f3x => ?_)
  refine e_aload rfl rfl ?_
  refine e_aload rfl rfl ?_
  refine e_getR rfl hM.1 (show R 290 70 = some 349 from (hM.2 58 _ rfl).2) ?_
  have s : CLd J3x J3x (1400 * k) 0 := ⟨fun p i hp => absurd hp (by omega), fun p i h1x h2x => rfl, (f3x 290 86 (by decide)).trans ((f2x 290 86 (by decide)).trans g1x), (f3x 290 87 (by decide)).trans g2x, fun i x h1x h2x => rfl⟩
  refine Eg.c2 rfl (by decide) (by decide) rfl (Nat.le_of_ble_eq_true rfl) (xrcv_of rfl hM.1 rfl) ((s.call hM (by omega) (m := 0) (c := 349) (n := 1) (by decide) rfl rfl (show sh[349]? = some (20, 1) from (hM.2 58 _ rfl).1)).mono (by decide)) (fun r1x h1x hq => ?_)
  obtain ⟨rfl, Jr, rfl, sr⟩ := hq
  refine e_aload rfl rfl ?_
  refine e_aload rfl rfl ?_
  refine e_getR rfl hM.1 (show R 290 70 = some 349 from (hM.2 58 _ rfl).2) ?_
  refine e_ipush rfl ?_
  have r0x : Jr 349 0 = J3x 358 (1400 * k) := sr.1 0 0 (by decide) (by decide)
  refine e_ialv (t := 0) (n := 1) rfl (show sh[349]? = some (20, 1) from (hM.2 58 _ rfl).1) rfl (by decide) (by decide) r0x ?_
  refine e_putIJ rfl hM.1 (fun J4x g4x f4x => ?_)
  have s : CLd J4x J4x (1400 * k) 1 := ⟨fun p i hp hi => by
    have e : p = 0 := by omega
    subst e; exact (f4x _ i (Or.inl (by decide))).trans ((sr.1 0 i hp hi).trans ((f4x 358 _ (by omega)).trans (sr.2.2.2.2 358 _ (fun p hp q => (cel_in p hp).1 q.symm) (Or.inl (by decide)))).symm), fun p i hp hx => rfl, (f4x 290 86 (by decide)).trans sr.2.2.1, (f4x 290 87 (by decide)).trans sr.2.2.2.1, fun i x h1x h2x => rfl⟩
  refine e_aload rfl rfl ?_
  refine e_aload rfl rfl ?_
  refine e_getR rfl hM.1 (show R 290 1 = some 291 from (hM.2 0 _ rfl).2) ?_
  refine Eg.c2 rfl (by decide) (by decide) rfl (Nat.le_of_ble_eq_true rfl) (xrcv_of rfl hM.1 rfl) ((s.call hM (by omega) (m := 1) (c := 291) (n := 14) (by decide) rfl rfl (show sh[291]? = some (20, 14) from (hM.2 0 _ rfl).1)).mono (by decide)) (fun r1x h1x hq => ?_)
  obtain ⟨rfl, J, rfl, s⟩ := hq
  refine e_aload rfl rfl ?_
  refine e_aload rfl rfl ?_
  refine e_getR rfl hM.1 (show R 290 2 = some 292 from (hM.2 1 _ rfl).2) ?_
  refine Eg.c2 rfl (by decide) (by decide) rfl (Nat.le_of_ble_eq_true rfl) (xrcv_of rfl hM.1 rfl) ((s.call hM (by omega) (m := 2) (c := 292) (n := 12) (by decide) rfl rfl (show sh[292]? = some (20, 12) from (hM.2 1 _ rfl).1)).mono (by decide)) (fun r1x h1x hq => ?_)
  obtain ⟨rfl, J, rfl, s⟩ := hq
  refine e_aload rfl rfl ?_
  refine e_aload rfl rfl ?_
  refine e_getR rfl hM.1 (show R 290 3 = some 293 from (hM.2 2 _ rfl).2) ?_
  refine Eg.c2 rfl (by decide) (by decide) rfl (Nat.le_of_ble_eq_true rfl) (xrcv_of rfl hM.1 rfl) ((s.call hM (by omega) (m := 3) (c := 293) (n := 3) (by decide) rfl rfl (show sh[293]? = some (20, 3) from (hM.2 2 _ rfl).1)).mono (by decide)) (fun r1x h1x hq => ?_)
  obtain ⟨rfl, J, rfl, s⟩ := hq
  refine e_aload rfl rfl ?_
  refine e_aload rfl rfl ?_
  refine e_getR rfl hM.1 (show R 290 4 = some 294 from (hM.2 3 _ rfl).2) ?_
  refine Eg.c2 rfl (by decide) (by decide) rfl (Nat.le_of_ble_eq_true rfl) (xrcv_of rfl hM.1 rfl) ((s.call hM (by omega) (m := 4) (c := 294) (n := 3) (by decide) rfl rfl (show sh[294]? = some (20, 3) from (hM.2 3 _ rfl).1)).mono (by decide)) (fun r1x h1x hq => ?_)
  obtain ⟨rfl, J, rfl, s⟩ := hq
  refine e_aload rfl rfl ?_
  refine e_aload rfl rfl ?_
  refine e_getR rfl hM.1 (show R 290 5 = some 295 from (hM.2 4 _ rfl).2) ?_
  refine Eg.c2 rfl (by decide) (by decide) rfl (Nat.le_of_ble_eq_true rfl) (xrcv_of rfl hM.1 rfl) ((s.call hM (by omega) (m := 5) (c := 295) (n := 3) (by decide) rfl rfl (show sh[295]? = some (20, 3) from (hM.2 4 _ rfl).1)).mono (by decide)) (fun r1x h1x hq => ?_)
  obtain ⟨rfl, J, rfl, s⟩ := hq
  refine e_aload rfl rfl ?_
  refine e_aload rfl rfl ?_
  refine e_getR rfl hM.1 (show R 290 6 = some 296 from (hM.2 5 _ rfl).2) ?_
  refine Eg.c2 rfl (by decide) (by decide) rfl (Nat.le_of_ble_eq_true rfl) (xrcv_of rfl hM.1 rfl) ((s.call hM (by omega) (m := 6) (c := 296) (n := 60) (by decide) rfl rfl (show sh[296]? = some (20, 60) from (hM.2 5 _ rfl).1)).mono (by decide)) (fun r1x h1x hq => ?_)
  obtain ⟨rfl, J, rfl, s⟩ := hq
  refine e_aload rfl rfl ?_
  refine e_aload rfl rfl ?_
  refine e_getR rfl hM.1 (show R 290 7 = some 297 from (hM.2 6 _ rfl).2) ?_
  refine Eg.c2 rfl (by decide) (by decide) rfl (Nat.le_of_ble_eq_true rfl) (xrcv_of rfl hM.1 rfl) ((s.call hM (by omega) (m := 7) (c := 297) (n := 4) (by decide) rfl rfl (show sh[297]? = some (20, 4) from (hM.2 6 _ rfl).1)).mono (by decide)) (fun r1x h1x hq => ?_)
  obtain ⟨rfl, J, rfl, s⟩ := hq
  refine e_aload rfl rfl ?_
  refine e_aload rfl rfl ?_
  refine e_getR rfl hM.1 (show R 290 8 = some 298 from (hM.2 7 _ rfl).2) ?_
  refine Eg.c2 rfl (by decide) (by decide) rfl (Nat.le_of_ble_eq_true rfl) (xrcv_of rfl hM.1 rfl) ((s.call hM (by omega) (m := 8) (c := 298) (n := 4) (by decide) rfl rfl (show sh[298]? = some (20, 4) from (hM.2 7 _ rfl).1)).mono (by decide)) (fun r1x h1x hq => ?_)
  obtain ⟨rfl, J, rfl, s⟩ := hq
  refine e_aload rfl rfl ?_
  refine e_aload rfl rfl ?_
  refine e_getR rfl hM.1 (show R 290 9 = some 299 from (hM.2 8 _ rfl).2) ?_
  refine Eg.c2 rfl (by decide) (by decide) rfl (Nat.le_of_ble_eq_true rfl) (xrcv_of rfl hM.1 rfl) ((s.call hM (by omega) (m := 9) (c := 299) (n := 4) (by decide) rfl rfl (show sh[299]? = some (20, 4) from (hM.2 8 _ rfl).1)).mono (by decide)) (fun r1x h1x hq => ?_)
  obtain ⟨rfl, J, rfl, s⟩ := hq
  refine e_aload rfl rfl ?_
  refine e_aload rfl rfl ?_
  refine e_getR rfl hM.1 (show R 290 10 = some 300 from (hM.2 9 _ rfl).2) ?_
  refine Eg.c2 rfl (by decide) (by decide) rfl (Nat.le_of_ble_eq_true rfl) (xrcv_of rfl hM.1 rfl) ((s.call hM (by omega) (m := 10) (c := 300) (n := 4) (by decide) rfl rfl (show sh[300]? = some (20, 4) from (hM.2 9 _ rfl).1)).mono (by decide)) (fun r1x h1x hq => ?_)
  obtain ⟨rfl, J, rfl, s⟩ := hq
  refine e_aload rfl rfl ?_
  refine e_aload rfl rfl ?_
  refine e_getR rfl hM.1 (show R 290 11 = some 301 from (hM.2 10 _ rfl).2) ?_
  refine Eg.c2 rfl (by decide) (by decide) rfl (Nat.le_of_ble_eq_true rfl) (xrcv_of rfl hM.1 rfl) ((s.call hM (by omega) (m := 11) (c := 301) (n := 4) (by decide) rfl rfl (show sh[301]? = some (20, 4) from (hM.2 10 _ rfl).1)).mono (by decide)) (fun r1x h1x hq => ?_)
  obtain ⟨rfl, J, rfl, s⟩ := hq
  refine e_aload rfl rfl ?_
  refine e_aload rfl rfl ?_
  refine e_getR rfl hM.1 (show R 290 12 = some 302 from (hM.2 11 _ rfl).2) ?_
  refine Eg.c2 rfl (by decide) (by decide) rfl (Nat.le_of_ble_eq_true rfl) (xrcv_of rfl hM.1 rfl) ((s.call hM (by omega) (m := 12) (c := 302) (n := 4) (by decide) rfl rfl (show sh[302]? = some (20, 4) from (hM.2 11 _ rfl).1)).mono (by decide)) (fun r1x h1x hq => ?_)
  obtain ⟨rfl, J, rfl, s⟩ := hq
  refine e_aload rfl rfl ?_
  refine e_aload rfl rfl ?_
  refine e_getR rfl hM.1 (show R 290 13 = some 303 from (hM.2 12 _ rfl).2) ?_
  refine Eg.c2 rfl (by decide) (by decide) rfl (Nat.le_of_ble_eq_true rfl) (xrcv_of rfl hM.1 rfl) ((s.call hM (by omega) (m := 13) (c := 303) (n := 4) (by decide) rfl rfl (show sh[303]? = some (20, 4) from (hM.2 12 _ rfl).1)).mono (by decide)) (fun r1x h1x hq => ?_)
  obtain ⟨rfl, J, rfl, s⟩ := hq
  refine e_aload rfl rfl ?_
  refine e_aload rfl rfl ?_
  refine e_getR rfl hM.1 (show R 290 14 = some 304 from (hM.2 13 _ rfl).2) ?_
  refine Eg.c2 rfl (by decide) (by decide) rfl (Nat.le_of_ble_eq_true rfl) (xrcv_of rfl hM.1 rfl) ((s.call hM (by omega) (m := 14) (c := 304) (n := 4) (by decide) rfl rfl (show sh[304]? = some (20, 4) from (hM.2 13 _ rfl).1)).mono (by decide)) (fun r1x h1x hq => ?_)
  obtain ⟨rfl, J, rfl, s⟩ := hq
  refine e_aload rfl rfl ?_
  refine e_aload rfl rfl ?_
  refine e_getR rfl hM.1 (show R 290 15 = some 305 from (hM.2 14 _ rfl).2) ?_
  refine Eg.c2 rfl (by decide) (by decide) rfl (Nat.le_of_ble_eq_true rfl) (xrcv_of rfl hM.1 rfl) ((s.call hM (by omega) (m := 15) (c := 305) (n := 4) (by decide) rfl rfl (show sh[305]? = some (20, 4) from (hM.2 14 _ rfl).1)).mono (by decide)) (fun r1x h1x hq => ?_)
  obtain ⟨rfl, J, rfl, s⟩ := hq
  refine e_aload rfl rfl ?_
  refine e_aload rfl rfl ?_
  refine e_getR rfl hM.1 (show R 290 16 = some 306 from (hM.2 15 _ rfl).2) ?_
  refine Eg.c2 rfl (by decide) (by decide) rfl (Nat.le_of_ble_eq_true rfl) (xrcv_of rfl hM.1 rfl) ((s.call hM (by omega) (m := 16) (c := 306) (n := 4) (by decide) rfl rfl (show sh[306]? = some (20, 4) from (hM.2 15 _ rfl).1)).mono (by decide)) (fun r1x h1x hq => ?_)
  obtain ⟨rfl, J, rfl, s⟩ := hq
  refine e_aload rfl rfl ?_
  refine e_aload rfl rfl ?_
  refine e_getR rfl hM.1 (show R 290 17 = some 307 from (hM.2 16 _ rfl).2) ?_
  refine Eg.c2 rfl (by decide) (by decide) rfl (Nat.le_of_ble_eq_true rfl) (xrcv_of rfl hM.1 rfl) ((s.call hM (by omega) (m := 17) (c := 307) (n := 4) (by decide) rfl rfl (show sh[307]? = some (20, 4) from (hM.2 16 _ rfl).1)).mono (by decide)) (fun r1x h1x hq => ?_)
  obtain ⟨rfl, J, rfl, s⟩ := hq
  refine e_aload rfl rfl ?_
  refine e_aload rfl rfl ?_
  refine e_getR rfl hM.1 (show R 290 18 = some 308 from (hM.2 17 _ rfl).2) ?_
  refine Eg.c2 rfl (by decide) (by decide) rfl (Nat.le_of_ble_eq_true rfl) (xrcv_of rfl hM.1 rfl) ((s.call hM (by omega) (m := 18) (c := 308) (n := 4) (by decide) rfl rfl (show sh[308]? = some (20, 4) from (hM.2 17 _ rfl).1)).mono (by decide)) (fun r1x h1x hq => ?_)
  obtain ⟨rfl, J, rfl, s⟩ := hq
  refine e_aload rfl rfl ?_
  refine e_aload rfl rfl ?_
  refine e_getR rfl hM.1 (show R 290 20 = some 310 from (hM.2 19 _ rfl).2) ?_
  refine Eg.c2 rfl (by decide) (by decide) rfl (Nat.le_of_ble_eq_true rfl) (xrcv_of rfl hM.1 rfl) ((s.call hM (by omega) (m := 19) (c := 310) (n := 8) (by decide) rfl rfl (show sh[310]? = some (20, 8) from (hM.2 19 _ rfl).1)).mono (by decide)) (fun r1x h1x hq => ?_)
  obtain ⟨rfl, J, rfl, s⟩ := hq
  refine e_aload rfl rfl ?_
  refine e_aload rfl rfl ?_
  refine e_getR rfl hM.1 (show R 290 21 = some 311 from (hM.2 20 _ rfl).2) ?_
  refine Eg.c2 rfl (by decide) (by decide) rfl (Nat.le_of_ble_eq_true rfl) (xrcv_of rfl hM.1 rfl) ((s.call hM (by omega) (m := 20) (c := 311) (n := 8) (by decide) rfl rfl (show sh[311]? = some (20, 8) from (hM.2 20 _ rfl).1)).mono (by decide)) (fun r1x h1x hq => ?_)
  obtain ⟨rfl, J, rfl, s⟩ := hq
  refine e_aload rfl rfl ?_
  refine e_aload rfl rfl ?_
  refine e_getR rfl hM.1 (show R 290 22 = some 312 from (hM.2 21 _ rfl).2) ?_
  refine Eg.c2 rfl (by decide) (by decide) rfl (Nat.le_of_ble_eq_true rfl) (xrcv_of rfl hM.1 rfl) ((s.call hM (by omega) (m := 21) (c := 312) (n := 8) (by decide) rfl rfl (show sh[312]? = some (20, 8) from (hM.2 21 _ rfl).1)).mono (by decide)) (fun r1x h1x hq => ?_)
  obtain ⟨rfl, J, rfl, s⟩ := hq
  refine e_aload rfl rfl ?_
  refine e_aload rfl rfl ?_
  refine e_getR rfl hM.1 (show R 290 23 = some 313 from (hM.2 22 _ rfl).2) ?_
  refine Eg.c2 rfl (by decide) (by decide) rfl (Nat.le_of_ble_eq_true rfl) (xrcv_of rfl hM.1 rfl) ((s.call hM (by omega) (m := 22) (c := 313) (n := 8) (by decide) rfl rfl (show sh[313]? = some (20, 8) from (hM.2 22 _ rfl).1)).mono (by decide)) (fun r1x h1x hq => ?_)
  obtain ⟨rfl, J, rfl, s⟩ := hq
  refine e_aload rfl rfl ?_
  refine e_aload rfl rfl ?_
  refine e_getR rfl hM.1 (show R 290 24 = some 314 from (hM.2 23 _ rfl).2) ?_
  refine Eg.c2 rfl (by decide) (by decide) rfl (Nat.le_of_ble_eq_true rfl) (xrcv_of rfl hM.1 rfl) ((s.call hM (by omega) (m := 23) (c := 314) (n := 10) (by decide) rfl rfl (show sh[314]? = some (20, 10) from (hM.2 23 _ rfl).1)).mono (by decide)) (fun r1x h1x hq => ?_)
  obtain ⟨rfl, J, rfl, s⟩ := hq
  refine e_aload rfl rfl ?_
  refine e_aload rfl rfl ?_
  refine e_getR rfl hM.1 (show R 290 25 = some 315 from (hM.2 24 _ rfl).2) ?_
  refine Eg.c2 rfl (by decide) (by decide) rfl (Nat.le_of_ble_eq_true rfl) (xrcv_of rfl hM.1 rfl) ((s.call hM (by omega) (m := 24) (c := 315) (n := 10) (by decide) rfl rfl (show sh[315]? = some (20, 10) from (hM.2 24 _ rfl).1)).mono (by decide)) (fun r1x h1x hq => ?_)
  obtain ⟨rfl, J, rfl, s⟩ := hq
  refine e_aload rfl rfl ?_
  refine e_aload rfl rfl ?_
  refine e_getR rfl hM.1 (show R 290 26 = some 316 from (hM.2 25 _ rfl).2) ?_
  refine Eg.c2 rfl (by decide) (by decide) rfl (Nat.le_of_ble_eq_true rfl) (xrcv_of rfl hM.1 rfl) ((s.call hM (by omega) (m := 25) (c := 316) (n := 10) (by decide) rfl rfl (show sh[316]? = some (20, 10) from (hM.2 25 _ rfl).1)).mono (by decide)) (fun r1x h1x hq => ?_)
  obtain ⟨rfl, J, rfl, s⟩ := hq
  refine e_aload rfl rfl ?_
  refine e_aload rfl rfl ?_
  refine e_getR rfl hM.1 (show R 290 27 = some 317 from (hM.2 26 _ rfl).2) ?_
  refine Eg.c2 rfl (by decide) (by decide) rfl (Nat.le_of_ble_eq_true rfl) (xrcv_of rfl hM.1 rfl) ((s.call hM (by omega) (m := 26) (c := 317) (n := 10) (by decide) rfl rfl (show sh[317]? = some (20, 10) from (hM.2 26 _ rfl).1)).mono (by decide)) (fun r1x h1x hq => ?_)
  obtain ⟨rfl, J, rfl, s⟩ := hq
  refine e_aload rfl rfl ?_
  refine e_aload rfl rfl ?_
  refine e_getR rfl hM.1 (show R 290 28 = some 318 from (hM.2 27 _ rfl).2) ?_
  refine Eg.c2 rfl (by decide) (by decide) rfl (Nat.le_of_ble_eq_true rfl) (xrcv_of rfl hM.1 rfl) ((s.call hM (by omega) (m := 27) (c := 318) (n := 10) (by decide) rfl rfl (show sh[318]? = some (20, 10) from (hM.2 27 _ rfl).1)).mono (by decide)) (fun r1x h1x hq => ?_)
  obtain ⟨rfl, J, rfl, s⟩ := hq
  refine e_aload rfl rfl ?_
  refine e_aload rfl rfl ?_
  refine e_getR rfl hM.1 (show R 290 29 = some 319 from (hM.2 28 _ rfl).2) ?_
  refine Eg.c2 rfl (by decide) (by decide) rfl (Nat.le_of_ble_eq_true rfl) (xrcv_of rfl hM.1 rfl) ((s.call hM (by omega) (m := 28) (c := 319) (n := 6) (by decide) rfl rfl (show sh[319]? = some (20, 6) from (hM.2 28 _ rfl).1)).mono (by decide)) (fun r1x h1x hq => ?_)
  obtain ⟨rfl, J, rfl, s⟩ := hq
  refine e_aload rfl rfl ?_
  refine e_aload rfl rfl ?_
  refine e_getR rfl hM.1 (show R 290 30 = some 320 from (hM.2 29 _ rfl).2) ?_
  refine Eg.c2 rfl (by decide) (by decide) rfl (Nat.le_of_ble_eq_true rfl) (xrcv_of rfl hM.1 rfl) ((s.call hM (by omega) (m := 29) (c := 320) (n := 6) (by decide) rfl rfl (show sh[320]? = some (20, 6) from (hM.2 29 _ rfl).1)).mono (by decide)) (fun r1x h1x hq => ?_)
  obtain ⟨rfl, J, rfl, s⟩ := hq
  refine e_aload rfl rfl ?_
  refine e_aload rfl rfl ?_
  refine e_getR rfl hM.1 (show R 290 31 = some 321 from (hM.2 30 _ rfl).2) ?_
  refine Eg.c2 rfl (by decide) (by decide) rfl (Nat.le_of_ble_eq_true rfl) (xrcv_of rfl hM.1 rfl) ((s.call hM (by omega) (m := 30) (c := 321) (n := 6) (by decide) rfl rfl (show sh[321]? = some (20, 6) from (hM.2 30 _ rfl).1)).mono (by decide)) (fun r1x h1x hq => ?_)
  obtain ⟨rfl, J, rfl, s⟩ := hq
  refine e_aload rfl rfl ?_
  refine e_aload rfl rfl ?_
  refine e_getR rfl hM.1 (show R 290 69 = some 348 from (hM.2 57 _ rfl).2) ?_
  refine Eg.c2 rfl (by decide) (by decide) rfl (Nat.le_of_ble_eq_true rfl) (xrcv_of rfl hM.1 rfl) ((s.call hM (by omega) (m := 31) (c := 348) (n := 1020) (by decide) rfl rfl (show sh[348]? = some (20, 1020) from (hM.2 57 _ rfl).1)).mono (by decide)) (fun r1x h1x hq => ?_)
  obtain ⟨rfl, J, rfl, s⟩ := hq
  have ef : ∀ i x, i ≠ 349 → (i ≠ 290 ∨ (x ≠ 86 ∧ x ≠ 87)) → J3x i x = I i x := fun i x h1x h2x => (f3x i x (by omega)).trans ((f2x i x (by omega)).trans (f1x i x (by omega)))
  have n358x : ∀ p, p < 32 → 358 ≠ cel p := fun p hp q => (cel_in p hp).1 q.symm
  have n290x : ∀ p, p < 32 → 290 ≠ cel p := fun p hp q => (cel_in p hp).2.1 q.symm
  refine Eg.ret rfl (by decide) rfl ⟨rfl, J, rfl, fun m i h1x h2x h3x => (s.1 m i h2x h3x).trans ((f4x 358 _ (by omega)).trans ((sr.2.2.2.2 358 _ n358x (Or.inl (by decide))).trans (ef 358 _ (by decide) (Or.inl (by decide))))), fun m i h1x h2x h3x => ?_, (s.2.2.2.2 290 71 n290x (by decide)).trans (g4x.trans (ef 358 _ (by decide) (Or.inl (by decide)))), fun i x h1x h2x => (s.2.2.2.2 i x h1x (by omega)).trans ((f4x i x (by omega)).trans ((sr.2.2.2.2 i x h1x (by omega)).trans (ef i x (h1x 0 (by decide)) (by omega))))⟩
  have := cel_in m h2x
  have h9x : cel m ≠ 349 := fun q => by have := cel_inj m h2x 0 (by decide) q; omega
  exact (s.2.1 m i h2x (Or.inr h3x)).trans ((f4x _ i (Or.inl this.2.1)).trans ((sr.2.1 m i h2x (Or.inl h1x)).trans (ef _ i h9x (Or.inl this.2.1))))
/-- which of them is the field f -/
def mfo (f : Nat) : Nat := if f < 19 then f else f - 1
theorem mfo_c : ∀ f, f < 32 → 1 ≤ f ∧ f ≠ 19 → cel (mfo f) = 290 + f ∧ 1 ≤ mfo f ∧ mfo f < 31 := by decide
def fln (f : Nat) : Nat := cln (mfo f)
def fof (f : Nat) : Nat := ofs (mfo f)
/-- what lies in an image -/
def ImgV (G : Nat → Int32) (v : Nat → Nat → Int32) (P : Nat → Int32) (a : Nat) : Prop := G 0 = nI a ∧ (∀ f i, 1 ≤ f ∧ f < 32 ∧ f ≠ 19 → i < fln f → G (fof f + i) = v f i) ∧ ∀ x, x < 1020 → G (244 + x) = P x
/-- nothing lies beyond the arrays' ends -/
def vz (v : Nat → Nat → Int32) : Prop := ∀ f i, 1 ≤ f ∧ f < 32 ∧ f ≠ 19 → fln f ≤ i → v f i = 0
def pz (P : Nat → Int32) : Prop := ∀ x, 1020 ≤ x → P x = 0
theorem CSP.img {J : Nat → Nat → Int32} {k a : Nat} {P : Nat → Int32} (h : CSP I J k) (hv : mV I v) (hP : ∀ x, I 348 x = P x) (h71x : I 290 71 = nI a) : ImgV (fun x => J 358 (1400 * k + x)) v P a := by
  obtain ⟨h1x, h2x, h3x, h4x⟩ := h
  refine ⟨h2x.trans h71x, fun f i hf hi => ?_, fun x hx => ?_⟩
  · obtain ⟨c1x, c2x, c3x⟩ := mfo_c f hf.2.1 ⟨hf.1, hf.2.2⟩
    have := h1x (mfo f) i c2x (by omega) hi
    rw [c1x, Nat.add_assoc] at this
    exact this.trans (hv f i hf)
  · have := h1x 31 x (by decide) (by decide) hx
    rw [Nat.add_assoc] at this
    exact this.trans (hP x)
theorem CLP.img {J : Nat → Nat → Int32} {k a : Nat} {P Q : Nat → Int32} {V : Nat → Nat → Int32} (h : CLP I J k) (hv : mV I V) (hQ : ∀ x, I 348 x = Q x) (hz : vz v) (hz2x : vz V) (hp : pz P) (hp2x : pz Q) (hi : ImgV (fun x => I 358 (1400 * k + x)) v P a) : mV J v ∧ (∀ x, J 348 x = P x) ∧ J 290 71 = nI a := by
  obtain ⟨h1x, h2x, h3x, h4x⟩ := h
  obtain ⟨i1x, i2x, i3x⟩ := hi
  refine ⟨fun f i hf => ?_, fun x => ?_, h3x.trans i1x⟩
  · obtain ⟨c1x, c2x, c3x⟩ := mfo_c f hf.2.1 ⟨hf.1, hf.2.2⟩
    by_cases hi : i < fln f
    · have := h1x (mfo f) i c2x (by omega) hi
      rw [c1x, Nat.add_assoc] at this
      exact this.trans (i2x f i hf hi)
    · have := h2x (mfo f) i c2x (by omega) (Nat.le_of_not_lt hi)
      rw [c1x] at this
      rw [this, hv f i hf, hz f i hf (by omega), hz2x f i hf (by omega)]
  · by_cases hx : x < 1020
    · have := h1x 31 x (by decide) (by decide) hx
      rw [Nat.add_assoc] at this
      exact this.trans (i3x x hx)
    · have := h2x 31 x (by decide) (by decide) (Nat.le_of_not_lt hx)
      exact this.trans ((hQ x).trans ((hp2x x (by omega)).trans (hp x (by omega)).symm))
theorem im_get {x : Int32} (h : ¬ (x < 0 ∨ 3 < x)) : ∃ t, t < 4 ∧ x = nI t := town_get h
theorem md_image (hM : MW sh R) (hv : mV I v) (hw : Wf v) {x : Int32} : Ec X 3 310 [.ref 290, .int x] (sh, I, L, R) (fun r h' => ((x < 0 ∨ 3 < x) ∧ r = some (.int (-1)) ∧ h' = (sh, I, L, R)) ∨ ∃ t, t < 4 ∧ x = nI t ∧ r = some (.int (nI (cn v 7))) ∧ ∃ I1x J : Nat → Nat → Int32, h' = (sh, J, L, R) ∧ I1x 359 t = 1 ∧ (∀ p r, p ≠ 359 ∨ r ≠ t → I1x p r = I p r) ∧ CSP I1x J t) := by
  have hb := hw.1.2
  refine Ec.of (Nat.le_of_ble_eq_true rfl) ?_
  refine e_iload rfl rfl ?_
  refine e_i2l rfl ?_
  refine e_lpush rfl ?_
  refine e_lpush rfl ?_
  refine Eg.p3 rfl (by decide) (by decide) rfl (Nat.le_of_ble_eq_true rfl) (xrcv_ofs (Or.inl rfl)) ((ms_inv (x := x) (y := 0) (z := 3) rfl (by decide) (by decide)).mono (by decide)) ?_
  refine e_ifne_b rfl (fun b9x => ?_) (fun b9x => ?_)
  · replace b9x := yn_n0.mp b9x
    obtain ⟨t, ht, et⟩ := im_get b9x
    subst et
    refine e_aload rfl rfl ?_
    refine e_getR rfl hM.1 (show R 290 85 = some 359 from (hM.2 68 _ rfl).2) ?_
    refine e_iload rfl rfl ?_
    refine e_ipush rfl ?_
    refine e_zasJ (t := t) (n := 4) rfl (show sh[359]? = some (22, 4) from (hM.2 68 _ rfl).1) rfl (by omega) (by decide) (by decide) (fun J1x g1x f1x => ?_)
    refine e_aload rfl rfl ?_
    refine e_iload rfl rfl ?_
    refine e_ipush rfl ?_
    refine Eg.c3 rfl (by decide) (by decide) rfl (Nat.le_of_ble_eq_true rfl) (xrcv_of rfl hM.1 rfl) ((ms_carriesS hM (k := t) (by omega)).mono (by decide)) (fun r1x h1x hq => ?_)
    obtain ⟨rfl, K, rfl, cp⟩ := hq
    refine e_aload rfl rfl ?_
    refine e_getR rfl hM.1 (show R 290 1 = some 291 from (hM.2 0 _ rfl).2) ?_
    refine e_ipush rfl ?_
    have k7x : K 291 7 = nI (cn v 7) := (cp.2.2.2 291 7 (by decide) (by decide) (by decide)).trans ((f1x 291 7 (Or.inl (by decide))).trans (hv.n hw (j := 7) (by decide)))
    refine e_ialv (t := 7) (n := 14) rfl (show sh[291]? = some (20, 14) from (hM.2 0 _ rfl).1) rfl (by decide) (by decide) k7x ?_
    exact Eg.ret rfl (by decide) rfl (Or.inr ⟨t, ht, rfl, rfl, J1x, K, rfl, g1x, f1x, cp⟩)
  · replace b9x := yn_0.mp b9x
    refine e_ipush rfl ?_
    exact Eg.ret rfl (by decide) rfl (Or.inl ⟨Decidable.not_not.mp b9x, rfl, rfl⟩)
theorem md_back (hM : MW sh R) {Q : Nat → Int32} (hv : mV I v) (hQ : ∀ x, I 348 x = Q x) (hz : vz v) (hpq : pz Q) {V : Nat → Nat → Nat → Int32} {P : Nat → Nat → Int32} {a : Nat → Nat} (hm : ∀ t, t < 4 → I 359 t = 0 ∨ (I 359 t = 1 ∧ vz (V t) ∧ pz (P t) ∧ V t 1 7 = nI (cn (V t) 7) ∧ ImgV (fun x => I 358 (1400 * t + x)) (V t) (P t) (a t))) {x : Int32} : Ec X 3 311 [.ref 290, .int x] (sh, I, L, R) (fun r h' => ((x < 0 ∨ 3 < x) ∧ r = some (.int (-1)) ∧ h' = (sh, I, L, R)) ∨ ∃ t, t < 4 ∧ x = nI t ∧ ((I 359 t = 0 ∧ r = some (.int (-1)) ∧ h' = (sh, I, L, R)) ∨ (I 359 t = 1 ∧ r = some (.int (nI (cn (V t) 7))) ∧ ∃ J : Nat → Nat → Int32, h' = (sh, J, L, R) ∧ mV J (V t) ∧ (∀ x, J 348 x = P t x) ∧ J 290 71 = nI (a t) ∧ ∀ i x, (∀ p, p < 32 → i ≠ cel p) → (i ≠ 290 ∨ (x ≠ 86 ∧ x ≠ 87 ∧ x ≠ 71)) → J i x = I i x))) := by
  refine Ec.of (Nat.le_of_ble_eq_true rfl) ?_
  refine e_iload rfl rfl ?_
  refine e_i2l rfl ?_
  refine e_lpush rfl ?_
  refine e_lpush rfl ?_
  refine Eg.p3 rfl (by decide) (by decide) rfl (Nat.le_of_ble_eq_true rfl) (xrcv_ofs (Or.inl rfl)) ((ms_inv (x := x) (y := 0) (z := 3) rfl (by decide) (by decide)).mono (by decide)) ?_
  refine e_ifeq_b rfl (fun b9x => ?_) (fun b9x => ?_)
  · replace b9x := yn_0.mp b9x
    refine e_ipush rfl ?_
    exact Eg.ret rfl (by decide) rfl (Or.inl ⟨Decidable.not_not.mp b9x, rfl, rfl⟩)
  · replace b9x := yn_n0.mp b9x
    obtain ⟨t, ht, et⟩ := im_get b9x
    subst et
    refine e_aload rfl rfl ?_
    refine e_getR rfl hM.1 (show R 290 85 = some 359 from (hM.2 68 _ rfl).2) ?_
    refine e_iload rfl rfl ?_
    refine e_zaln (t := t) (n := 4) rfl (show sh[359]? = some (22, 4) from (hM.2 68 _ rfl).1) rfl (by omega) (by decide) ?_
    refine e_ifne_b rfl (fun b18x => ?_) (fun b18x => ?_)
    · obtain ⟨m1x, m2x, m3x, m4x, m5x⟩ := (hm t ht).resolve_left b18x
      refine e_aload rfl rfl ?_
      refine e_iload rfl rfl ?_
      refine e_ipush rfl ?_
      refine Eg.c3 rfl (by decide) (by decide) rfl (Nat.le_of_ble_eq_true rfl) (xrcv_of rfl hM.1 rfl) ((ms_carriesL hM (k := t) (by omega)).mono (by decide)) (fun r1x h1x hq => ?_)
      obtain ⟨rfl, K, rfl, cp⟩ := hq
      refine e_aload rfl rfl ?_
      refine e_getR rfl hM.1 (show R 290 1 = some 291 from (hM.2 0 _ rfl).2) ?_
      obtain ⟨k1x, k2x, k3x⟩ := cp.img hv hQ m2x hz m3x hpq m5x
      refine e_ipush rfl ?_
      refine e_ialv (t := 7) (n := 14) rfl (show sh[291]? = some (20, 14) from (hM.2 0 _ rfl).1) rfl (by decide) (by decide) ((k1x 1 7 (by decide)).trans m4x) ?_
      exact Eg.ret rfl (by decide) rfl (Or.inr ⟨t, ht, rfl, Or.inr ⟨m1x, rfl, K, rfl, k1x, k2x, k3x, cp.2.2.2⟩⟩)
    · refine e_ipush rfl ?_
      exact Eg.ret rfl (by decide) rfl (Or.inr ⟨t, ht, rfl, Or.inl ⟨b18x, rfl, rfl⟩⟩)
end IM
