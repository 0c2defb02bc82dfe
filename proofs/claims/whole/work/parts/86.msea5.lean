/-! sea, the other side: what stands then -/
section MS5x
variable {X : xX} {h : xH} {sh : List (Nat × Nat)} {I : Nat → Nat → Int32} {L : Nat → Nat → Int64} {R : Nat → Nat → Option Nat} {B : Nat → Nat} {n : Nat} {u : Nat → Nat → Int32} {s : Nat} {v : Nat → Nat → Int32}
def cpyV (W : Nat → Nat → Int32) (f m : Nat) (x : Nat → Int32) : Nat → Nat → Int32 := fun g k => if g = f ∧ k < m then x k else W g k
theorem cpyV_s {W : Nat → Nat → Int32} {f j : Nat} {x : Nat → Int32} : xu (cpyV W f j x) f j (x j) = cpyV W f (j + 1) x := by
  funext a b
  by_cases e : a = f ∧ b = j
  · obtain ⟨rfl, rfl⟩ := e; rw [xu_at]; unfold cpyV; rw [if_pos ⟨rfl, by omega⟩]
  · rw [xu_o (by omega)]; unfold cpyV
    by_cases e2x : a = f ∧ b < j
    · rw [if_pos e2x, if_pos (by omega)]
    · rw [if_neg e2x, if_neg (by omega)]
theorem cpyV_0 {W : Nat → Nat → Int32} {f : Nat} {x : Nat → Int32} : cpyV W f 0 x = W := by
  funext a b; unfold cpyV; rw [if_neg (by omega)]
theorem mV.cpy {J W : Nat → Nat → Int32} {f m : Nat} {x : Nat → Int32} (h : mV I W) (hf : 1 ≤ f ∧ f < 32 ∧ f ≠ 19) (e1x : ∀ k, k < m → J (290 + f) k = x k) (e2x : ∀ i k, (i ≠ 290 + f ∨ m ≤ k) → J i k = I i k) : mV J (cpyV W f m x) := by
  intro g k hg
  unfold cpyV
  by_cases e : g = f ∧ k < m
  · rw [if_pos e, e.1]; exact e1x k e.2
  · rw [if_neg e, e2x _ _ (by omega)]; exact h g k hg
/-- a sea's beginning: U has been read, v was there -/
def finV (U v : Nat → Nat → Int32) : Nat → Nat → Int32 := cpyV (cpyV (cpyV (cpyV (cpyV (cpyV (cpyV (cpyV (cpyV (cpyV (cpyV (cpyV (cpyV (cpyV (cpyV (cpyV (cpyV (cpyV v 1 13 (fun k => if k < 7 then U 1 k else 0)) 2 12 (U 2)) 3 3 (U 3)) 4 3 (U 4)) 5 3 (U 5)) 6 60 (U 6)) 7 4 (U 7)) 8 4 (U 8)) 9 4 (U 9)) 10 4 (U 10)) 11 4 (U 11)) 12 4 (U 12)) 13 4 (U 13)) 15 4 (U 15)) 14 4 (U 15)) 16 4 (U 16)) 17 4 (fun _ => 0)) 18 4 (fun _ => -1)
/-- faults are above 0 -/
def isFt (F : Int32) : Prop := F = 0 ∨ ∃ e, 0 < e ∧ e < 5000 ∧ F = nI e
theorem fl_ft {f : Int32} {p k : Nat} (hp : p ≤ 400) (hk : k < 8) (h : isFt f) : isFt (fl f p k) := by
  unfold fl; split
  · exact Or.inr ⟨1 + 8 * p + k, by omega, by omega, rfl⟩
  · exact h
theorem kF_ft {f : Int32} {q a b : Nat} (hq : q ≤ 400) (h : isFt f) : isFt (kF B n q f a b) := by
  unfold kF tkF; split
  · exact h
  · split
    · exact fl_ft hq (by decide) h
    · exact fl_ft hq (by decide) h
theorem rwF_ft {f : Int32} {q : Nat} (hq : q ≤ 400) (h : isFt f) : isFt (rwF B n q f) := by
  unfold rwF; split
  · exact fl_ft hq (by decide) h
  · split
    · exact fl_ft hq (by decide) h
    · exact h
theorem goF_ft {q : Nat} (hq : q ≤ 400) : isFt (goF B n q 0) := by
  unfold goF; split
  · exact fl_ft hq (by decide) (Or.inl rfl)
  · exact Or.inl rfl
theorem sPF_ft {w q : Nat} (hw : w < 7) (hq : q ≤ n) (hn : n ≤ 400) : isFt (sPF B n u w q) := by
  have z : isFt 0 := Or.inl rfl
  have cases7 : w = 0 ∨ w = 1 ∨ w = 2 ∨ w = 3 ∨ w = 4 ∨ w = 5 ∨ w = 6 := by omega
  have kp : ∀ {q a b : Nat} {f : Int32}, q ≤ n → kP B n q f a b ≤ n := fun h => kP_le h
  have k1x : ∀ {a b : Nat}, isFt (kF B n q 0 a b) := fun {a b} => kF_ft (by omega) z
  have k2x : ∀ {q1x a b : Nat} {f : Int32}, q1x ≤ n → isFt f → isFt (kF B n q1x f a b) := fun h1x h2x => kF_ft (by omega) h2x
  rcases cases7 with rfl | rfl | rfl | rfl | rfl | rfl | rfl
  · rw [sPF_0]; exact k1x
  · rw [sPF_1]; exact rwF_ft (Nat.le_trans (kp (kp hq)) hn) (k2x (kp hq) k1x)
  · rw [sPF_2]; exact k2x (kp hq) k1x
  · rw [sPF_3]; exact k2x (kp (kp hq)) (k2x (kp hq) k1x)
  · rw [sPF_4]; exact k2x (kp (kp hq)) (k2x (kp hq) k1x)
  · rw [sPF_5]; exact k2x (kp (kp hq)) (k2x (kp hq) k1x)
  · rw [sPF_6]; exact k2x (kp hq) k1x
theorem sPP_le {w q : Nat} (hw : w < 7) (hq : q ≤ n) : sPP B n u w q ≤ n := by
  have cases7 : w = 0 ∨ w = 1 ∨ w = 2 ∨ w = 3 ∨ w = 4 ∨ w = 5 ∨ w = 6 := by omega
  rcases cases7 with rfl | rfl | rfl | rfl | rfl | rfl | rfl
  · rw [sPP_0]; exact kP_le hq
  · rw [sPP_1]; exact (nxt_le (kP_le (kP_le hq))).2.1
  · rw [sPP_2]; exact kP_le (kP_le hq)
  · rw [sPP_3]; exact kP_le (kP_le (kP_le hq))
  · rw [sPP_4]; exact kP_le (kP_le (kP_le hq))
  · rw [sPP_5]; exact kP_le (kP_le (kP_le hq))
  · rw [sPP_6]; exact kP_le (kP_le hq)
theorem sCF_ft {i p : Nat} {st : Bool} (hp : p ≤ n) (hn : n ≤ 400) : isFt (sCF B n i p u st) := by
  unfold sCF; split
  · exact fl_ft (by omega) (by decide) (Or.inl rfl)
  · rename_i h7x
    have := sKd_le (B := B) (n := n) (p := p)
    split
    · exact fl_ft (by omega) (by decide) (Or.inl rfl)
    · exact sPF_ft (by omega) (nxt_le hp).2.1 hn
theorem sRd_ft (hn : n ≤ 400) : ∀ (k i p : Nat) (u : Nat → Nat → Int32) (st : Bool), p ≤ n → isFt (sRd B n k i p u st).1 := by
  intro k
  induction k with
  | zero => intro i p u st hp; exact Or.inl rfl
  | succ k ih =>
    intro i p u st hp
    rw [sRd]
    split
    · exact sCF_ft hp hn
    · rename_i h0x
      have k7x : sKd B n p < 7 := by
        have := sKd_le (B := B) (n := n) (p := p)
        apply Decidable.byContradiction; intro hc
        have e7x : sKd B n p = 7 := by omega
        exact h0x (fun e => by unfold sCF at e; rw [if_pos e7x] at e; exact fl_ne (by omega) e)
      have hl := sPP_le (B := B) (u := u) k7x (nxt_le (B := B) hp).2.1
      split
      · exact goF_ft (Nat.le_trans hl hn)
      · split
        · exact ih _ _ _ _ (nxt_le hl).2.1
        · exact Or.inl rfl
theorem md_sea (hM : MW sh R) (hB : MB I B n) (hv : mV I v) {F : Int32} {U : Nat → Nat → Int32} (eF : (sRd B n 41 0 (skp B n 0) (u0F I) false).1 = F) (eU : (sRd B n 41 0 (skp B n 0) (u0F I) false).2 = U) (h0x : F = 0 → U 1 0 = nI (cn U 0)) : Ec X 10 224 [.ref 290] (sh, I, L, R) (fun r h' => (¬ F = 0 ∧ r = some (.int (-2 - F)) ∧ ∃ J : Nat → Nat → Int32, h' = (sh, J, L, R) ∧ J 290 47 = nI 0 ∧ ∀ a b, (a ≠ 290 ∨ (b ≠ 47 ∧ b ≠ 48 ∧ b ≠ 49 ∧ b ≠ 52 ∧ b ≠ 53 ∧ b ≠ 54 ∧ b ≠ 57)) → (a < 322 ∨ 336 < a) → J a b = I a b) ∨ (F = 0 ∧ r = some (.int (nI (cn U 0))) ∧ ∃ J : Nat → Nat → Int32, h' = (sh, J, L, R) ∧ mV J (finV U v) ∧ J 290 71 = nI 0 ∧ J 290 47 = nI 0 ∧ ∀ a b, (a ≠ 290 ∨ (b ≠ 47 ∧ b ≠ 48 ∧ b ≠ 49 ∧ b ≠ 52 ∧ b ≠ 53 ∧ b ≠ 54 ∧ b ≠ 57 ∧ b ≠ 71)) → (a < 291 ∨ 336 < a ∨ a = 309) → J a b = I a b)) := by
  have hft : isFt F := by rw [← eF]; exact sRd_ft hB.1 _ _ _ _ _ (skp_le.2 (Nat.zero_le _))
  refine Ec.of (Nat.le_of_ble_eq_true rfl) ?_
  refine e_aload rfl rfl ?_
  refine Eg.c1 rfl (by decide) (by decide) rfl (Nat.le_of_ble_eq_true rfl) (xrcv_of rfl hM.1 rfl) ((ms_readsAll hM hB).mono (by decide)) (fun r1x h1x hq => ?_)
  obtain ⟨rfl, J, rfl, a1x, a2x, a3x, a4x⟩ := hq
  rw [eF, eU] at a2x
  rw [eF] at a1x
  refine e_aload rfl rfl ?_
  refine e_getIv rfl hM.1 a1x ?_
  refine e_ifle_b rfl (fun b8x => ?_) (fun b8x => ?_)
  · have f0x : F = 0 := hft.resolve_right (fun ⟨e, e1x, e2x, e3x⟩ => by rw [e3x] at b8x; have := (nI_le0 (by omega)).mp b8x; omega)
    refine e_ipush rfl ?_
    refine e_istore rfl ?_
    refine Eg.pk [0, 1] [1, 0] rfl (by decide) ?_
    have nU := a2x f0x
    have vJ : mV J v := fun f k hf => (a4x _ _ (by omega) (by omega)).trans (hv f k hf)
    refine up_ind (p := fun j => ∀ K : Nat → Nat → Int32, mV K (cpyV v 1 j (fun k => if k < 7 then U 1 k else 0)) → (∀ a b, a ≠ 291 → K a b = J a b) → Eg X xTc 9 224 21 [(0, .ref 290), (1, .int (nI j))] [] (sh, K, L, R) (fun r h' => (¬ F = 0 ∧ r = some (.int (-2 - F)) ∧ ∃ J : Nat → Nat → Int32, h' = (sh, J, L, R) ∧ J 290 47 = nI 0 ∧ ∀ a b, (a ≠ 290 ∨ (b ≠ 47 ∧ b ≠ 48 ∧ b ≠ 49 ∧ b ≠ 52 ∧ b ≠ 53 ∧ b ≠ 54 ∧ b ≠ 57)) → (a < 322 ∨ 336 < a) → J a b = I a b) ∨ (F = 0 ∧ r = some (.int (nI (cn U 0))) ∧ ∃ J : Nat → Nat → Int32, h' = (sh, J, L, R) ∧ mV J (finV U v) ∧ J 290 71 = nI 0 ∧ J 290 47 = nI 0 ∧ ∀ a b, (a ≠ 290 ∨ (b ≠ 47 ∧ b ≠ 48 ∧ b ≠ 49 ∧ b ≠ 52 ∧ b ≠ 53 ∧ b ≠ 54 ∧ b ≠ 57 ∧ b ≠ 71)) → (a < 291 ∨ 336 < a ∨ a = 309) → J a b = I a b))) (n := 13) (j := 0) (fun j hj ih => ?_) ?_ (Nat.zero_le _) J (by rw [cpyV_0]; exact vJ) (fun a b _ => rfl)
    · intro K k1x k2x
      have kn : K 322 j = U 1 j := (k2x 322 j (by decide)).trans (nU.1 1 j (by decide) (by decide))
      refine e_iload rfl rfl ?_
      refine e_ipush rfl ?_
      refine e_cge_f rfl (nI_ge (b := 13) hj (by decide)) ?_
      refine e_aload rfl rfl ?_
      refine e_getR rfl hM.1 (show R 290 1 = some 291 from (hM.2 0 _ rfl).2) ?_
      refine e_iload rfl rfl ?_
      refine e_iload rfl rfl ?_
      refine e_ipush rfl ?_
      refine e_cge_b rfl (fun b35x => ?_) (fun b35x => ?_)
      · have b35x := (nI_lei (a := 7) (by decide) (by omega)).mp b35x
        refine e_ipush rfl ?_
        refine e_iasJ (t := j) (n := 14) rfl (show sh[291]? = some (20, 14) from (hM.2 0 _ rfl).1) rfl (by omega) (by decide) (fun J21x g21x f21x => ?_)
        refine e_iinc rfl rfl ?_
        refine e_goto rfl ?_
        refine Eg.pk [0, 1] [1, 0] rfl (by decide) ?_
        rw [nI_1]
        have ex : (0 : Int32) = (fun k => if k < 7 then U 1 k else 0) j := (if_neg (by omega)).symm
        have k3x : mV J21x (cpyV v 1 (j + 1) (fun k => if k < 7 then U 1 k else 0)) := by rw [← cpyV_s]; exact k1x.up (f := 1) (by decide) (g21x.trans ex) f21x
        exact ih J21x k3x (fun a b q => (f21x a b (by omega)).trans (k2x a b q))
      · have b35x := nle (a := 7) (by decide) (by omega) b35x
        refine e_aload rfl rfl ?_
        refine e_getR rfl hM.1 (show R 290 32 = some 322 from (hM.2 31 _ rfl).2) ?_
        refine e_iload rfl rfl ?_
        refine e_ialv (t := j) (n := 7) rfl (show sh[322]? = some (20, 7) from (hM.2 31 _ rfl).1) rfl (by omega) (by decide) kn ?_
        refine e_goto rfl ?_
        refine e_iasJ (t := j) (n := 14) rfl (show sh[291]? = some (20, 14) from (hM.2 0 _ rfl).1) rfl (by omega) (by decide) (fun J22x g22x f22x => ?_)
        refine e_iinc rfl rfl ?_
        refine e_goto rfl ?_
        refine Eg.pk [0, 1] [1, 0] rfl (by decide) ?_
        rw [nI_1]
        have ex : U 1 j = (fun k => if k < 7 then U 1 k else 0) j := (if_pos b35x).symm
        have k3x : mV J22x (cpyV v 1 (j + 1) (fun k => if k < 7 then U 1 k else 0)) := by rw [← cpyV_s]; exact k1x.up (f := 1) (by decide) (g22x.trans ex) f22x
        exact ih J22x k3x (fun a b q => (f22x a b (by omega)).trans (k2x a b q))
    · intro K k1x k2x
      have nK : nV K U := nU.fr (fun i k q1x q2x => k2x i k (by omega))
      have kf : ∀ a b, a < 291 ∨ 321 < a ∨ a = 309 → K a b = J a b := fun a b q => k2x a b (by omega)
      refine e_iload rfl rfl ?_
      refine e_ipush rfl ?_
      refine e_cge_t rfl (Int32.le_refl _) ?_
      refine e_aload rfl rfl ?_
      refine e_getR rfl hM.1 (show R 290 33 = some 323 from (hM.2 32 _ rfl).2) ?_
      refine e_aload rfl rfl ?_
      refine e_getR rfl hM.1 (show R 290 2 = some 292 from (hM.2 1 _ rfl).2) ?_
      refine Eg.c2 rfl (by decide) (by decide) rfl (Nat.le_of_ble_eq_true rfl) (xrcv_ofs (Or.inl rfl)) ((ms_copies (a := 323) (b := 292) (m := 12) (show sh[323]? = some (20, 12) from (hM.2 32 _ rfl).1) (show sh[292]? = some (20, 12) from (hM.2 1 _ rfl).1) (by decide) (by decide)).mono (by decide)) (fun r1x h1x hq => ?_)
      obtain ⟨rfl, K1x, rfl, x1x, y1x⟩ := hq
      have v1x : mV K1x (cpyV (cpyV v 1 13 (fun k => if k < 7 then U 1 k else 0)) 2 12 (U 2)) := k1x.cpy (f := 2) (m := 12) (by decide) (fun k hk => (x1x k hk).trans (nK.1 2 k (by decide) (by decide))) y1x
      have n1x : nV K1x U := nK.fr (fun i k q1x q2x => y1x i k (by omega))
      have f1x : ∀ a b, a < 291 ∨ 321 < a ∨ a = 309 → K1x a b = J a b := fun a b q => (y1x a b (by omega)).trans (kf a b q)
      refine e_aload rfl rfl ?_
      refine e_getR rfl hM.1 (show R 290 34 = some 324 from (hM.2 33 _ rfl).2) ?_
      refine e_aload rfl rfl ?_
      refine e_getR rfl hM.1 (show R 290 3 = some 293 from (hM.2 2 _ rfl).2) ?_
      refine Eg.c2 rfl (by decide) (by decide) rfl (Nat.le_of_ble_eq_true rfl) (xrcv_ofs (Or.inl rfl)) ((ms_copies (a := 324) (b := 293) (m := 3) (show sh[324]? = some (20, 3) from (hM.2 33 _ rfl).1) (show sh[293]? = some (20, 3) from (hM.2 2 _ rfl).1) (by decide) (by decide)).mono (by decide)) (fun r1x h1x hq => ?_)
      obtain ⟨rfl, K2x, rfl, x2x, y2x⟩ := hq
      have v2x : mV K2x (cpyV (cpyV (cpyV v 1 13 (fun k => if k < 7 then U 1 k else 0)) 2 12 (U 2)) 3 3 (U 3)) := v1x.cpy (f := 3) (m := 3) (by decide) (fun k hk => (x2x k hk).trans (n1x.1 3 k (by decide) (by decide))) y2x
      have n2x : nV K2x U := n1x.fr (fun i k q1x q2x => y2x i k (by omega))
      have f2x : ∀ a b, a < 291 ∨ 321 < a ∨ a = 309 → K2x a b = J a b := fun a b q => (y2x a b (by omega)).trans (f1x a b q)
      refine e_aload rfl rfl ?_
      refine e_getR rfl hM.1 (show R 290 35 = some 325 from (hM.2 34 _ rfl).2) ?_
      refine e_aload rfl rfl ?_
      refine e_getR rfl hM.1 (show R 290 4 = some 294 from (hM.2 3 _ rfl).2) ?_
      refine Eg.c2 rfl (by decide) (by decide) rfl (Nat.le_of_ble_eq_true rfl) (xrcv_ofs (Or.inl rfl)) ((ms_copies (a := 325) (b := 294) (m := 3) (show sh[325]? = some (20, 3) from (hM.2 34 _ rfl).1) (show sh[294]? = some (20, 3) from (hM.2 3 _ rfl).1) (by decide) (by decide)).mono (by decide)) (fun r1x h1x hq => ?_)
      obtain ⟨rfl, K3x, rfl, x3x, y3x⟩ := hq
      have v3x : mV K3x (cpyV (cpyV (cpyV (cpyV v 1 13 (fun k => if k < 7 then U 1 k else 0)) 2 12 (U 2)) 3 3 (U 3)) 4 3 (U 4)) := v2x.cpy (f := 4) (m := 3) (by decide) (fun k hk => (x3x k hk).trans (n2x.1 4 k (by decide) (by decide))) y3x
      have n3x : nV K3x U := n2x.fr (fun i k q1x q2x => y3x i k (by omega))
      have f3x : ∀ a b, a < 291 ∨ 321 < a ∨ a = 309 → K3x a b = J a b := fun a b q => (y3x a b (by omega)).trans (f2x a b q)
      refine e_aload rfl rfl ?_
      refine e_getR rfl hM.1 (show R 290 36 = some 326 from (hM.2 35 _ rfl).2) ?_
      refine e_aload rfl rfl ?_
      refine e_getR rfl hM.1 (show R 290 5 = some 295 from (hM.2 4 _ rfl).2) ?_
      refine Eg.c2 rfl (by decide) (by decide) rfl (Nat.le_of_ble_eq_true rfl) (xrcv_ofs (Or.inl rfl)) ((ms_copies (a := 326) (b := 295) (m := 3) (show sh[326]? = some (20, 3) from (hM.2 35 _ rfl).1) (show sh[295]? = some (20, 3) from (hM.2 4 _ rfl).1) (by decide) (by decide)).mono (by decide)) (fun r1x h1x hq => ?_)
      obtain ⟨rfl, K4x, rfl, x4x, y4x⟩ := hq
      have v4x : mV K4x (cpyV (cpyV (cpyV (cpyV (cpyV v 1 13 (fun k => if k < 7 then U 1 k else 0)) 2 12 (U 2)) 3 3 (U 3)) 4 3 (U 4)) 5 3 (U 5)) := v3x.cpy (f := 5) (m := 3) (by decide) (fun k hk => (x4x k hk).trans (n3x.1 5 k (by decide) (by decide))) y4x
      have n4x : nV K4x U := n3x.fr (fun i k q1x q2x => y4x i k (by omega))
      have f4x : ∀ a b, a < 291 ∨ 321 < a ∨ a = 309 → K4x a b = J a b := fun a b q => (y4x a b (by omega)).trans (f3x a b q)
      refine e_aload rfl rfl ?_
      refine e_getR rfl hM.1 (show R 290 37 = some 327 from (hM.2 36 _ rfl).2) ?_
      refine e_aload rfl rfl ?_
      refine e_getR rfl hM.1 (show R 290 6 = some 296 from (hM.2 5 _ rfl).2) ?_
      refine Eg.c2 rfl (by decide) (by decide) rfl (Nat.le_of_ble_eq_true rfl) (xrcv_ofs (Or.inl rfl)) ((ms_copies (a := 327) (b := 296) (m := 60) (show sh[327]? = some (20, 60) from (hM.2 36 _ rfl).1) (show sh[296]? = some (20, 60) from (hM.2 5 _ rfl).1) (by decide) (by decide)).mono (by decide)) (fun r1x h1x hq => ?_)
      obtain ⟨rfl, K5x, rfl, x5x, y5x⟩ := hq
      have v5x : mV K5x (cpyV (cpyV (cpyV (cpyV (cpyV (cpyV v 1 13 (fun k => if k < 7 then U 1 k else 0)) 2 12 (U 2)) 3 3 (U 3)) 4 3 (U 4)) 5 3 (U 5)) 6 60 (U 6)) := v4x.cpy (f := 6) (m := 60) (by decide) (fun k hk => (x5x k hk).trans (n4x.1 6 k (by decide) (by decide))) y5x
      have n5x : nV K5x U := n4x.fr (fun i k q1x q2x => y5x i k (by omega))
      have f5x : ∀ a b, a < 291 ∨ 321 < a ∨ a = 309 → K5x a b = J a b := fun a b q => (y5x a b (by omega)).trans (f4x a b q)
      refine e_aload rfl rfl ?_
      refine e_getR rfl hM.1 (show R 290 38 = some 328 from (hM.2 37 _ rfl).2) ?_
      refine e_aload rfl rfl ?_
      refine e_getR rfl hM.1 (show R 290 7 = some 297 from (hM.2 6 _ rfl).2) ?_
      refine Eg.c2 rfl (by decide) (by decide) rfl (Nat.le_of_ble_eq_true rfl) (xrcv_ofs (Or.inl rfl)) ((ms_copies (a := 328) (b := 297) (m := 4) (show sh[328]? = some (20, 4) from (hM.2 37 _ rfl).1) (show sh[297]? = some (20, 4) from (hM.2 6 _ rfl).1) (by decide) (by decide)).mono (by decide)) (fun r1x h1x hq => ?_)
      obtain ⟨rfl, K6x, rfl, x6x, y6x⟩ := hq
      have v6x : mV K6x (cpyV (cpyV (cpyV (cpyV (cpyV (cpyV (cpyV v 1 13 (fun k => if k < 7 then U 1 k else 0)) 2 12 (U 2)) 3 3 (U 3)) 4 3 (U 4)) 5 3 (U 5)) 6 60 (U 6)) 7 4 (U 7)) := v5x.cpy (f := 7) (m := 4) (by decide) (fun k hk => (x6x k hk).trans (n5x.1 7 k (by decide) (by decide))) y6x
      have n6x : nV K6x U := n5x.fr (fun i k q1x q2x => y6x i k (by omega))
      have f6x : ∀ a b, a < 291 ∨ 321 < a ∨ a = 309 → K6x a b = J a b := fun a b q => (y6x a b (by omega)).trans (f5x a b q)
      refine e_aload rfl rfl ?_
      refine e_getR rfl hM.1 (show R 290 39 = some 329 from (hM.2 38 _ rfl).2) ?_
      refine e_aload rfl rfl ?_
      refine e_getR rfl hM.1 (show R 290 8 = some 298 from (hM.2 7 _ rfl).2) ?_
      refine Eg.c2 rfl (by decide) (by decide) rfl (Nat.le_of_ble_eq_true rfl) (xrcv_ofs (Or.inl rfl)) ((ms_copies (a := 329) (b := 298) (m := 4) (show sh[329]? = some (20, 4) from (hM.2 38 _ rfl).1) (show sh[298]? = some (20, 4) from (hM.2 7 _ rfl).1) (by decide) (by decide)).mono (by decide)) (fun r1x h1x hq => ?_)
      obtain ⟨rfl, K7x, rfl, x7x, y7x⟩ := hq
      have v7x : mV K7x (cpyV (cpyV (cpyV (cpyV (cpyV (cpyV (cpyV (cpyV v 1 13 (fun k => if k < 7 then U 1 k else 0)) 2 12 (U 2)) 3 3 (U 3)) 4 3 (U 4)) 5 3 (U 5)) 6 60 (U 6)) 7 4 (U 7)) 8 4 (U 8)) := v6x.cpy (f := 8) (m := 4) (by decide) (fun k hk => (x7x k hk).trans (n6x.1 8 k (by decide) (by decide))) y7x
      have n7x : nV K7x U := n6x.fr (fun i k q1x q2x => y7x i k (by omega))
      have f7x : ∀ a b, a < 291 ∨ 321 < a ∨ a = 309 → K7x a b = J a b := fun a b q => (y7x a b (by omega)).trans (f6x a b q)
      refine e_aload rfl rfl ?_
      refine e_getR rfl hM.1 (show R 290 40 = some 330 from (hM.2 39 _ rfl).2) ?_
      refine e_aload rfl rfl ?_
      refine e_getR rfl hM.1 (show R 290 9 = some 299 from (hM.2 8 _ rfl).2) ?_
      refine Eg.c2 rfl (by decide) (by decide) rfl (Nat.le_of_ble_eq_true rfl) (xrcv_ofs (Or.inl rfl)) ((ms_copies (a := 330) (b := 299) (m := 4) (show sh[330]? = some (20, 4) from (hM.2 39 _ rfl).1) (show sh[299]? = some (20, 4) from (hM.2 8 _ rfl).1) (by decide) (by decide)).mono (by decide)) (fun r1x h1x hq => ?_)
      obtain ⟨rfl, K8x, rfl, x8x, y8x⟩ := hq
      have v8x : mV K8x (cpyV (cpyV (cpyV (cpyV (cpyV (cpyV (cpyV (cpyV (cpyV v 1 13 (fun k => if k < 7 then U 1 k else 0)) 2 12 (U 2)) 3 3 (U 3)) 4 3 (U 4)) 5 3 (U 5)) 6 60 (U 6)) 7 4 (U 7)) 8 4 (U 8)) 9 4 (U 9)) := v7x.cpy (f := 9) (m := 4) (by decide) (fun k hk => (x8x k hk).trans (n7x.1 9 k (by decide) (by decide))) y8x
      have n8x : nV K8x U := n7x.fr (fun i k q1x q2x => y8x i k (by omega))
      have f8x : ∀ a b, a < 291 ∨ 321 < a ∨ a = 309 → K8x a b = J a b := fun a b q => (y8x a b (by omega)).trans (f7x a b q)
      refine e_aload rfl rfl ?_
      refine e_getR rfl hM.1 (show R 290 41 = some 331 from (hM.2 40 _ rfl).2) ?_
      refine e_aload rfl rfl ?_
      refine e_getR rfl hM.1 (show R 290 10 = some 300 from (hM.2 9 _ rfl).2) ?_
      refine Eg.c2 rfl (by decide) (by decide) rfl (Nat.le_of_ble_eq_true rfl) (xrcv_ofs (Or.inl rfl)) ((ms_copies (a := 331) (b := 300) (m := 4) (show sh[331]? = some (20, 4) from (hM.2 40 _ rfl).1) (show sh[300]? = some (20, 4) from (hM.2 9 _ rfl).1) (by decide) (by decide)).mono (by decide)) (fun r1x h1x hq => ?_)
      obtain ⟨rfl, K9x, rfl, x9x, y9x⟩ := hq
      have v9x : mV K9x (cpyV (cpyV (cpyV (cpyV (cpyV (cpyV (cpyV (cpyV (cpyV (cpyV v 1 13 (fun k => if k < 7 then U 1 k else 0)) 2 12 (U 2)) 3 3 (U 3)) 4 3 (U 4)) 5 3 (U 5)) 6 60 (U 6)) 7 4 (U 7)) 8 4 (U 8)) 9 4 (U 9)) 10 4 (U 10)) := v8x.cpy (f := 10) (m := 4) (by decide) (fun k hk => (x9x k hk).trans (n8x.1 10 k (by decide) (by decide))) y9x
      have n9x : nV K9x U := n8x.fr (fun i k q1x q2x => y9x i k (by omega))
      have f9x : ∀ a b, a < 291 ∨ 321 < a ∨ a = 309 → K9x a b = J a b := fun a b q => (y9x a b (by omega)).trans (f8x a b q)
      refine e_aload rfl rfl ?_
      refine e_getR rfl hM.1 (show R 290 42 = some 332 from (hM.2 41 _ rfl).2) ?_
      refine e_aload rfl rfl ?_
      refine e_getR rfl hM.1 (show R 290 11 = some 301 from (hM.2 10 _ rfl).2) ?_
      refine Eg.c2 rfl (by decide) (by decide) rfl (Nat.le_of_ble_eq_true rfl) (xrcv_ofs (Or.inl rfl)) ((ms_copies (a := 332) (b := 301) (m := 4) (show sh[332]? = some (20, 4) from (hM.2 41 _ rfl).1) (show sh[301]? = some (20, 4) from (hM.2 10 _ rfl).1) (by decide) (by decide)).mono (by decide)) (fun r1x h1x hq => ?_)
      obtain ⟨rfl, K10x, rfl, x10x, y10x⟩ := hq
      have v10x : mV K10x (cpyV (cpyV (cpyV (cpyV (cpyV (cpyV (cpyV (cpyV (cpyV (cpyV (cpyV v 1 13 (fun k => if k < 7 then U 1 k else 0)) 2 12 (U 2)) 3 3 (U 3)) 4 3 (U 4)) 5 3 (U 5)) 6 60 (U 6)) 7 4 (U 7)) 8 4 (U 8)) 9 4 (U 9)) 10 4 (U 10)) 11 4 (U 11)) := v9x.cpy (f := 11) (m := 4) (by decide) (fun k hk => (x10x k hk).trans (n9x.1 11 k (by decide) (by decide))) y10x
      have n10x : nV K10x U := n9x.fr (fun i k q1x q2x => y10x i k (by omega))
      have f10x : ∀ a b, a < 291 ∨ 321 < a ∨ a = 309 → K10x a b = J a b := fun a b q => (y10x a b (by omega)).trans (f9x a b q)
      refine e_aload rfl rfl ?_
      refine e_getR rfl hM.1 (show R 290 43 = some 333 from (hM.2 42 _ rfl).2) ?_
      refine e_aload rfl rfl ?_
      refine e_getR rfl hM.1 (show R 290 12 = some 302 from (hM.2 11 _ rfl).2) ?_
      refine Eg.c2 rfl (by decide) (by decide) rfl (Nat.le_of_ble_eq_true rfl) (xrcv_ofs (Or.inl rfl)) ((ms_copies (a := 333) (b := 302) (m := 4) (show sh[333]? = some (20, 4) from (hM.2 42 _ rfl).1) (show sh[302]? = some (20, 4) from (hM.2 11 _ rfl).1) (by decide) (by decide)).mono (by decide)) (fun r1x h1x hq => ?_)
      obtain ⟨rfl, K11x, rfl, x11x, y11x⟩ := hq
      have v11x : mV K11x (cpyV (cpyV (cpyV (cpyV (cpyV (cpyV (cpyV (cpyV (cpyV (cpyV (cpyV (cpyV v 1 13 (fun k => if k < 7 then U 1 k else 0)) 2 12 (U 2)) 3 3 (U 3)) 4 3 (U 4)) 5 3 (U 5)) 6 60 (U 6)) 7 4 (U 7)) 8 4 (U 8)) 9 4 (U 9)) 10 4 (U 10)) 11 4 (U 11)) 12 4 (U 12)) := v10x.cpy (f := 12) (m := 4) (by decide) (fun k hk => (x11x k hk).trans (n10x.1 12 k (by decide) (by decide))) y11x
      have n11x : nV K11x U := n10x.fr (fun i k q1x q2x => y11x i k (by omega))
      have f11x : ∀ a b, a < 291 ∨ 321 < a ∨ a = 309 → K11x a b = J a b := fun a b q => (y11x a b (by omega)).trans (f10x a b q)
      refine e_aload rfl rfl ?_
      refine e_getR rfl hM.1 (show R 290 44 = some 334 from (hM.2 43 _ rfl).2) ?_
      refine e_aload rfl rfl ?_
      refine e_getR rfl hM.1 (show R 290 13 = some 303 from (hM.2 12 _ rfl).2) ?_
      refine Eg.c2 rfl (by decide) (by decide) rfl (Nat.le_of_ble_eq_true rfl) (xrcv_ofs (Or.inl rfl)) ((ms_copies (a := 334) (b := 303) (m := 4) (show sh[334]? = some (20, 4) from (hM.2 43 _ rfl).1) (show sh[303]? = some (20, 4) from (hM.2 12 _ rfl).1) (by decide) (by decide)).mono (by decide)) (fun r1x h1x hq => ?_)
      obtain ⟨rfl, K12x, rfl, x12x, y12x⟩ := hq
      have v12x : mV K12x (cpyV (cpyV (cpyV (cpyV (cpyV (cpyV (cpyV (cpyV (cpyV (cpyV (cpyV (cpyV (cpyV v 1 13 (fun k => if k < 7 then U 1 k else 0)) 2 12 (U 2)) 3 3 (U 3)) 4 3 (U 4)) 5 3 (U 5)) 6 60 (U 6)) 7 4 (U 7)) 8 4 (U 8)) 9 4 (U 9)) 10 4 (U 10)) 11 4 (U 11)) 12 4 (U 12)) 13 4 (U 13)) := v11x.cpy (f := 13) (m := 4) (by decide) (fun k hk => (x12x k hk).trans (n11x.1 13 k (by decide) (by decide))) y12x
      have n12x : nV K12x U := n11x.fr (fun i k q1x q2x => y12x i k (by omega))
      have f12x : ∀ a b, a < 291 ∨ 321 < a ∨ a = 309 → K12x a b = J a b := fun a b q => (y12x a b (by omega)).trans (f11x a b q)
      refine e_aload rfl rfl ?_
      refine e_getR rfl hM.1 (show R 290 45 = some 335 from (hM.2 44 _ rfl).2) ?_
      refine e_aload rfl rfl ?_
      refine e_getR rfl hM.1 (show R 290 15 = some 305 from (hM.2 14 _ rfl).2) ?_
      refine Eg.c2 rfl (by decide) (by decide) rfl (Nat.le_of_ble_eq_true rfl) (xrcv_ofs (Or.inl rfl)) ((ms_copies (a := 335) (b := 305) (m := 4) (show sh[335]? = some (20, 4) from (hM.2 44 _ rfl).1) (show sh[305]? = some (20, 4) from (hM.2 14 _ rfl).1) (by decide) (by decide)).mono (by decide)) (fun r1x h1x hq => ?_)
      obtain ⟨rfl, K13x, rfl, x13x, y13x⟩ := hq
      have v13x : mV K13x (cpyV (cpyV (cpyV (cpyV (cpyV (cpyV (cpyV (cpyV (cpyV (cpyV (cpyV (cpyV (cpyV (cpyV v 1 13 (fun k => if k < 7 then U 1 k else 0)) 2 12 (U 2)) 3 3 (U 3)) 4 3 (U 4)) 5 3 (U 5)) 6 60 (U 6)) 7 4 (U 7)) 8 4 (U 8)) 9 4 (U 9)) 10 4 (U 10)) 11 4 (U 11)) 12 4 (U 12)) 13 4 (U 13)) 15 4 (U 15)) := v12x.cpy (f := 15) (m := 4) (by decide) (fun k hk => (x13x k hk).trans (n12x.2.1 k)) y13x
      have n13x : nV K13x U := n12x.fr (fun i k q1x q2x => y13x i k (by omega))
      have f13x : ∀ a b, a < 291 ∨ 321 < a ∨ a = 309 → K13x a b = J a b := fun a b q => (y13x a b (by omega)).trans (f12x a b q)
      refine e_aload rfl rfl ?_
      refine e_getR rfl hM.1 (show R 290 45 = some 335 from (hM.2 44 _ rfl).2) ?_
      refine e_aload rfl rfl ?_
      refine e_getR rfl hM.1 (show R 290 14 = some 304 from (hM.2 13 _ rfl).2) ?_
      refine Eg.c2 rfl (by decide) (by decide) rfl (Nat.le_of_ble_eq_true rfl) (xrcv_ofs (Or.inl rfl)) ((ms_copies (a := 335) (b := 304) (m := 4) (show sh[335]? = some (20, 4) from (hM.2 44 _ rfl).1) (show sh[304]? = some (20, 4) from (hM.2 13 _ rfl).1) (by decide) (by decide)).mono (by decide)) (fun r1x h1x hq => ?_)
      obtain ⟨rfl, K14x, rfl, x14x, y14x⟩ := hq
      have v14x : mV K14x (cpyV (cpyV (cpyV (cpyV (cpyV (cpyV (cpyV (cpyV (cpyV (cpyV (cpyV (cpyV (cpyV (cpyV (cpyV v 1 13 (fun k => if k < 7 then U 1 k else 0)) 2 12 (U 2)) 3 3 (U 3)) 4 3 (U 4)) 5 3 (U 5)) 6 60 (U 6)) 7 4 (U 7)) 8 4 (U 8)) 9 4 (U 9)) 10 4 (U 10)) 11 4 (U 11)) 12 4 (U 12)) 13 4 (U 13)) 15 4 (U 15)) 14 4 (U 15)) := v13x.cpy (f := 14) (m := 4) (by decide) (fun k hk => (x14x k hk).trans (n13x.2.1 k)) y14x
      have n14x : nV K14x U := n13x.fr (fun i k q1x q2x => y14x i k (by omega))
      have f14x : ∀ a b, a < 291 ∨ 321 < a ∨ a = 309 → K14x a b = J a b := fun a b q => (y14x a b (by omega)).trans (f13x a b q)
      refine e_aload rfl rfl ?_
      refine e_getR rfl hM.1 (show R 290 46 = some 336 from (hM.2 45 _ rfl).2) ?_
      refine e_aload rfl rfl ?_
      refine e_getR rfl hM.1 (show R 290 16 = some 306 from (hM.2 15 _ rfl).2) ?_
      refine Eg.c2 rfl (by decide) (by decide) rfl (Nat.le_of_ble_eq_true rfl) (xrcv_ofs (Or.inl rfl)) ((ms_copies (a := 336) (b := 306) (m := 4) (show sh[336]? = some (20, 4) from (hM.2 45 _ rfl).1) (show sh[306]? = some (20, 4) from (hM.2 15 _ rfl).1) (by decide) (by decide)).mono (by decide)) (fun r1x h1x hq => ?_)
      obtain ⟨rfl, K15x, rfl, x15x, y15x⟩ := hq
      have v15x : mV K15x (cpyV (cpyV (cpyV (cpyV (cpyV (cpyV (cpyV (cpyV (cpyV (cpyV (cpyV (cpyV (cpyV (cpyV (cpyV (cpyV v 1 13 (fun k => if k < 7 then U 1 k else 0)) 2 12 (U 2)) 3 3 (U 3)) 4 3 (U 4)) 5 3 (U 5)) 6 60 (U 6)) 7 4 (U 7)) 8 4 (U 8)) 9 4 (U 9)) 10 4 (U 10)) 11 4 (U 11)) 12 4 (U 12)) 13 4 (U 13)) 15 4 (U 15)) 14 4 (U 15)) 16 4 (U 16)) := v14x.cpy (f := 16) (m := 4) (by decide) (fun k hk => (x15x k hk).trans (n14x.2.2 k)) y15x
      have n15x : nV K15x U := n14x.fr (fun i k q1x q2x => y15x i k (by omega))
      have f15x : ∀ a b, a < 291 ∨ 321 < a ∨ a = 309 → K15x a b = J a b := fun a b q => (y15x a b (by omega)).trans (f14x a b q)
      refine e_ipush rfl ?_
      refine e_istore rfl ?_
      refine Eg.pk [0, 1] [1, 0] rfl (by decide) ?_
      refine up_ind (p := fun j => ∀ G : Nat → Nat → Int32, mV G (cpyV (cpyV (cpyV (cpyV (cpyV (cpyV (cpyV (cpyV (cpyV (cpyV (cpyV (cpyV (cpyV (cpyV (cpyV (cpyV (cpyV (cpyV v 1 13 (fun k => if k < 7 then U 1 k else 0)) 2 12 (U 2)) 3 3 (U 3)) 4 3 (U 4)) 5 3 (U 5)) 6 60 (U 6)) 7 4 (U 7)) 8 4 (U 8)) 9 4 (U 9)) 10 4 (U 10)) 11 4 (U 11)) 12 4 (U 12)) 13 4 (U 13)) 15 4 (U 15)) 14 4 (U 15)) 16 4 (U 16)) 17 j (fun _ => 0)) 18 j (fun _ => -1)) → (∀ a b, a < 291 ∨ 321 < a ∨ a = 309 → G a b = J a b) → Eg X xTc 9 224 222 [(0, .ref 290), (1, .int (nI j))] [] (sh, G, L, R) (fun r h' => (¬ F = 0 ∧ r = some (.int (-2 - F)) ∧ ∃ J : Nat → Nat → Int32, h' = (sh, J, L, R) ∧ J 290 47 = nI 0 ∧ ∀ a b, (a ≠ 290 ∨ (b ≠ 47 ∧ b ≠ 48 ∧ b ≠ 49 ∧ b ≠ 52 ∧ b ≠ 53 ∧ b ≠ 54 ∧ b ≠ 57)) → (a < 322 ∨ 336 < a) → J a b = I a b) ∨ (F = 0 ∧ r = some (.int (nI (cn U 0))) ∧ ∃ J : Nat → Nat → Int32, h' = (sh, J, L, R) ∧ mV J (finV U v) ∧ J 290 71 = nI 0 ∧ J 290 47 = nI 0 ∧ ∀ a b, (a ≠ 290 ∨ (b ≠ 47 ∧ b ≠ 48 ∧ b ≠ 49 ∧ b ≠ 52 ∧ b ≠ 53 ∧ b ≠ 54 ∧ b ≠ 57 ∧ b ≠ 71)) → (a < 291 ∨ 336 < a ∨ a = 309) → J a b = I a b))) (n := 4) (j := 0) (fun j hj ih => ?_) ?_ (Nat.zero_le _) K15x (by rw [cpyV_0, cpyV_0]; exact v15x) f15x
      · intro G g1x g2x
        refine e_iload rfl rfl ?_
        refine e_ipush rfl ?_
        refine e_cge_f rfl (nI_ge (b := 4) hj (by decide)) ?_
        refine e_aload rfl rfl ?_
        refine e_getR rfl hM.1 (show R 290 17 = some 307 from (hM.2 16 _ rfl).2) ?_
        refine e_iload rfl rfl ?_
        refine e_ipush rfl ?_
        refine e_iasJ (t := j) (n := 4) rfl (show sh[307]? = some (20, 4) from (hM.2 16 _ rfl).1) rfl (by omega) (by decide) (fun J51x g51x f51x => ?_)
        refine e_aload rfl rfl ?_
        refine e_getR rfl hM.1 (show R 290 18 = some 308 from (hM.2 17 _ rfl).2) ?_
        refine e_iload rfl rfl ?_
        refine e_ipush rfl ?_
        refine e_iasJ (t := j) (n := 4) rfl (show sh[308]? = some (20, 4) from (hM.2 17 _ rfl).1) rfl (by omega) (by decide) (fun J52x g52x f52x => ?_)
        refine e_iinc rfl rfl ?_
        refine e_goto rfl ?_
        refine Eg.pk [0, 1] [1, 0] rfl (by decide) ?_
        rw [nI_1]
        have m1x := (g1x.up (f := 17) (by decide) g51x f51x).up (f := 18) (by decide) g52x f52x
        refine ih J52x ?_ (fun p q r => (f52x p q (by omega)).trans ((f51x p q (by omega)).trans (g2x p q r)))
        refine cast (congrArg _ ?_) m1x
        rw [← cpyV_s (f := 18) (x := fun _ => (-1 : Int32)), ← cpyV_s (f := 17) (x := fun _ => (0 : Int32))]
        funext p q
        by_cases e : p = 18 ∧ q = j
        · obtain ⟨rfl, rfl⟩ := e; rw [xu_at, xu_at]
        · rw [xu_o (by omega), xu_o (i := 18) (by omega)]
          by_cases e2x : p = 17 ∧ q = j
          · obtain ⟨rfl, rfl⟩ := e2x; rw [xu_at]; unfold cpyV; rw [if_neg (by omega)]; exact xu_at.symm
          · rw [xu_o (by omega)]; unfold cpyV
            by_cases e3x : p = 18 ∧ q < j
            · rw [if_pos e3x, if_pos e3x]
            · rw [if_neg e3x, if_neg e3x, xu_o (by omega)]
      · intro G g1x g2x
        have gs : G 291 0 = nI (cn U 0) := (g1x 1 0 (by decide)).trans (show _ = _ from h0x f0x)
        refine e_iload rfl rfl ?_
        refine e_ipush rfl ?_
        refine e_cge_t rfl (Int32.le_refl _) ?_
        refine e_aload rfl rfl ?_
        refine e_ipush rfl ?_
        refine e_putIJ rfl hM.1 (fun J61x g61x f61x => ?_)
        refine e_aload rfl rfl ?_
        refine e_getR rfl hM.1 (show R 290 1 = some 291 from (hM.2 0 _ rfl).2) ?_
        refine e_ipush rfl ?_
        refine e_ialv (t := 0) (n := 14) rfl (show sh[291]? = some (20, 14) from (hM.2 0 _ rfl).1) rfl (by decide) (by decide) ((f61x 291 0 (Or.inl (by omega))).trans gs) ?_
        exact Eg.ret rfl (by decide) rfl (Or.inr ⟨f0x, rfl, J61x, rfl, g1x.fr (fun i x q1x q2x q3x => f61x i x (by omega)), g61x, (f61x 290 47 (by decide)).trans ((g2x 290 47 (by decide)).trans a3x), fun a b q1x q2x => (f61x a b (by omega)).trans ((g2x a b (by omega)).trans (a4x a b (by omega) (by omega)))⟩)
  · have f0x : ¬ F = 0 := fun e => b8x (by rw [e]; decide)
    refine e_ipush rfl ?_
    refine e_aload rfl rfl ?_
    refine e_getIv rfl hM.1 a1x ?_
    refine e_isub rfl ?_
    exact Eg.ret rfl (by decide) rfl (Or.inl ⟨f0x, rfl, J, rfl, a3x, a4x⟩)
end MS5x
