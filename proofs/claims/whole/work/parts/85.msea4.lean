/-! A SEA read, the other side: the call -/
section MS4x
variable {X : xX} {h : xH} {sh : List (Nat × Nat)} {I : Nat → Nat → Int32} {L : Nat → Nat → Int64} {R : Nat → Nat → Option Nat} {B : Nat → Nat} {n : Nat} {u : Nat → Nat → Int32} {s : Nat} {v : Nat → Nat → Int32}
theorem nxt_p {p : Nat} (h : p < n) : nxt B n p = skp B n (tend B n p) := if_pos h
/-- what stands in the new arrays as a reading begins -/
def u0F (I : Nat → Nat → Int32) (f k : Nat) : Int32 := if f = 1 ∧ k < 7 then (if k = 6 then 1 else 0) else if f = 2 ∧ k < 12 then 0 else if f = 15 then I 335 k else if f = 16 then I 336 k else I (321 + f) k
theorem u0F_U0 : U0x (u0F I) := by
  refine ⟨fun j hj => ?_, ?_, fun c hc => ?_⟩
  · unfold u0F; rw [if_pos ⟨rfl, by omega⟩, if_neg (by omega)]; rfl
  · unfold u0F; rw [if_pos ⟨rfl, by omega⟩, if_pos rfl]; rfl
  · unfold u0F; rw [if_neg (by omega), if_pos ⟨rfl, hc⟩]; rfl
theorem u0F_ext {J : Nat → Nat → Int32} (h : ∀ i k, 322 ≤ i → i ≤ 336 → J i k = I i k) : ∀ f k, 1 ≤ f → f ≤ 16 → f ≠ 14 → u0F J f k = u0F I f k := by
  intro f k h1x h2x h3x
  unfold u0F
  rw [h 335 k (by omega) (by omega), h 336 k (by omega) (by omega)]
  by_cases e : f = 15 ∨ f = 16
  · rcases e with rfl | rfl <;> simp
  · rw [h (321 + f) k (by omega) (by omega)]
theorem ms_seaLoop (hM : MW sh R) : ∀ (k i p : Nat) (u : Nat → Nat → Int32) (st : Bool) (I : Nat → Nat → Int32), i + k = 41 → i ≤ 40 → Mr I B n p 0 → p ≤ n → nV I u → WfU u → I 290 57 = bI st → (i ≠ 0 → 2 ≤ cn u 0) → (i = 0 → cn u 0 = 0) → Eg X xTc 8 223 65 [(0, .ref 290), (1, .int (nI i)), (2, .int 1)] [] (sh, I, L, R) (fun r h' => r = none ∧ ∃ J : Nat → Nat → Int32, h' = (sh, J, L, R) ∧ J 290 49 = (sRd B n k i (skp B n p) u st).1 ∧ ((sRd B n k i (skp B n p) u st).1 = 0 → nV J (sRd B n k i (skp B n p) u st).2) ∧ J 290 47 = nI 0 ∧ ∀ a b, (a ≠ 290 ∨ (b ≠ 47 ∧ b ≠ 48 ∧ b ≠ 49 ∧ b ≠ 57)) → (a < 322 ∨ 336 < a) → J a b = I a b) := by
  intro k
  induction k with
  | zero => intro i p u st I hk hi; omega
  | succ k ih =>
    intro i p u st I hk hi hr hp v0x hw hst h2x h0x
    have hn := hr.1.1
    have hbb : ∀ j, j < n → B j < 256 := fun j hj => (hr.1.2.2 j hj).1
    obtain ⟨q, hq⟩ : ∃ q, skp B n p = q := ⟨_, rfl⟩
    have hqn : q ≤ n := by rw [← hq]; exact (skp_le (B := B) (n := n) (p := p)).2 hp
    rw [hq]
    refine e_iload rfl rfl ?_
    refine e_ifeq_f rfl (by decide) ?_
    refine e_aload rfl rfl ?_
    refine e_iload rfl rfl ?_
    refine Eg.c2 rfl (by decide) (by decide) rfl (Nat.le_of_ble_eq_true rfl) (xrcv_of rfl hM.1 rfl) ((ms_seaClause hM hr hp hq v0x hw hst hi h2x).mono (by decide)) (fun r1x h1x hq => ?_)
    obtain ⟨rfl, J, p', rfl, a1x, a2x, a3x, a4x⟩ := hq
    refine e_iinc rfl rfl ?_
    refine e_aload rfl rfl ?_
    refine Eg.c1 rfl (by decide) (by decide) rfl (Nat.le_of_ble_eq_true rfl) (xrcv_of rfl hM.1 rfl) ((ms_goesOn hM a1x a2x).mono (by decide)) (fun r1x h1x hq => ?_)
    obtain ⟨rfl, K, rfl, b1x, b2x⟩ := hq
    refine e_istore rfl ?_
    refine e_goto rfl ?_
    refine Eg.pk [0, 1, 2] [2, 1, 0] rfl (by decide) ?_
    rw [nI_1]
    by_cases hg : goB B n (skp B n p') (sCF B n i q u st) = true
    · have eF : sCF B n i q u st = 0 := (of_decide_eq_true hg).1
      obtain ⟨e1x, e2x, e3x⟩ := a3x eF
      rw [eF, e1x] at hg b1x
      rw [eF, e1x, yn_t hg]
      have nF : goF B n (sPP B n u (sKd B n q) (nxt B n q)) 0 = 0 := if_neg (fun q => q.2.2 (of_decide_eq_true hg).2.2)
      rw [nF] at b1x
      have g59x := (go_59 hbb).mp hg
      have k7x : ¬ sKd B n q = 7 := fun r => by unfold sCF at eF; rw [if_pos r] at eF; exact fl_ne (by omega) eF
      have kk7x : sKd B n q < 7 := (sKd_get (fun r => k7x (sKd_7.mpr r))).2
      have nb : ¬ sBad u st i (sKd B n q) = true := fun r => by unfold sCF at eF; rw [if_neg k7x, if_pos r] at eF; exact fl_ne (by omega) eF
      have nb2x := fun x => nb (decide_eq_true x)
      have i40x : ¬ 40 ≤ i := fun r => nb2x (Or.inl r)
      have io : i = 0 ↔ sKd B n q = 0 := Decidable.byContradiction (fun r => nb2x (Or.inr (Or.inl r)))
      have eP : sPF B n u (sKd B n q) (nxt B n q) = 0 := by unfold sCF at eF; rw [if_neg k7x, if_neg nb] at eF; exact eF
      have wf := sPU_wf (st := st) hw (nxt_le hqn).2.1 hn kk7x (fun r => nb2x (Or.inr (Or.inr r))) (fun r => h2x (fun e => r (io.mp e))) (fun r => h0x (io.mpr r)) eP
      have te : tend B n (sPP B n u (sKd B n q) (nxt B n q)) = sPP B n u (sKd B n q) (nxt B n q) + 1 := tend_c (by rw [g59x.2.2]; decide) (by rw [g59x.2.2]; decide) (by rw [g59x.2.2]; decide)
      have ek : skp B n (sPP B n u (sKd B n q) (nxt B n q) + 1) = nxt B n (sPP B n u (sKd B n q) (nxt B n q)) := by rw [nxt_p g59x.2.1, te]
      have key := ih (i + 1) (sPP B n u (sKd B n q) (nxt B n q) + 1) (sPU B n u (sKd B n q) (nxt B n q)) (st || sKd B n q == 6) K (by omega) (by omega) b1x (by omega) (e2x.fr (fun i k q1x q2x => b2x i k (by omega))) wf.1 ((b2x 290 57 (by decide)).trans e3x) (fun _ => wf.2) (fun r => by omega)
      rw [ek] at key
      have eD : sRd B n (k + 1) i q u st = sRd B n k (i + 1) (nxt B n (sPP B n u (sKd B n q) (nxt B n q))) (sPU B n u (sKd B n q) (nxt B n q)) (st || sKd B n q == 6) := by rw [sRd, if_neg (fun r => r eF), if_neg (fun r => r nF), if_pos hg]
      rw [eD]
      refine key.imp ?_
      rintro r h' ⟨c1x, G, c2x, c3x, c4x, c5x, c6x⟩
      exact ⟨c1x, G, c2x, c3x, c4x, c5x, fun a b q1x q2x => (c6x a b q1x q2x).trans ((b2x a b (by omega)).trans (a4x a b (by omega) q2x))⟩
    · rw [yn_f hg]
      refine e_iload rfl rfl ?_
      refine e_ifeq_t rfl rfl ?_
      refine e_aload rfl rfl ?_
      refine e_ipush rfl ?_
      refine e_putIJ rfl hM.1 (fun J21x g21x f21x => ?_)
      by_cases eF : sCF B n i q u st = 0
      · obtain ⟨e1x, e2x, e3x⟩ := a3x eF
        rw [eF, e1x] at hg b1x
        have v2x : nV J21x (sPU B n u (sKd B n q) (nxt B n q)) := e2x.fr (fun i k q1x q2x => (f21x i k (by omega)).trans (b2x i k (by omega)))
        by_cases nF : goF B n (sPP B n u (sKd B n q) (nxt B n q)) 0 = 0
        · have eD : sRd B n (k + 1) i q u st = (0, sPU B n u (sKd B n q) (nxt B n q)) := by rw [sRd, if_neg (fun r => r eF), if_neg (fun r => r nF), if_neg hg]
          rw [eD]
          exact Eg.ret rfl (by decide) rfl ⟨rfl, J21x, rfl, (f21x 290 49 (by decide)).trans (b1x.2.2.trans nF), fun _ => v2x, g21x, fun a b q1x q2x => (f21x a b (by omega)).trans ((b2x a b (by omega)).trans (a4x a b (by omega) q2x))⟩
        · have eD : sRd B n (k + 1) i q u st = (goF B n (sPP B n u (sKd B n q) (nxt B n q)) 0, u) := by rw [sRd, if_neg (fun r => r eF), if_pos nF]
          rw [eD]
          exact Eg.ret rfl (by decide) rfl ⟨rfl, J21x, rfl, (f21x 290 49 (by decide)).trans b1x.2.2, fun e => absurd e nF, g21x, fun a b q1x q2x => (f21x a b (by omega)).trans ((b2x a b (by omega)).trans (a4x a b (by omega) q2x))⟩
      · have eD : sRd B n (k + 1) i q u st = (sCF B n i q u st, u) := by rw [sRd, if_pos eF]
        have eG : goF B n (skp B n p') (sCF B n i q u st) = sCF B n i q u st := if_neg (fun r => eF r.1)
        rw [eD]
        exact Eg.ret rfl (by decide) rfl ⟨rfl, J21x, rfl, (f21x 290 49 (by decide)).trans (b1x.2.2.trans eG), fun e => absurd e eF, g21x, fun a b q1x q2x => (f21x a b (by omega)).trans ((b2x a b (by omega)).trans (a4x a b (by omega) q2x))⟩
theorem ms_readsAll (hM : MW sh R) (hB : MB I B n) : Ec X 9 223 [.ref 290] (sh, I, L, R) (fun r h' => r = none ∧ ∃ J : Nat → Nat → Int32, h' = (sh, J, L, R) ∧ J 290 49 = (sRd B n 41 0 (skp B n 0) (u0F I) false).1 ∧ ((sRd B n 41 0 (skp B n 0) (u0F I) false).1 = 0 → nV J (sRd B n 41 0 (skp B n 0) (u0F I) false).2) ∧ J 290 47 = nI 0 ∧ ∀ a b, (a ≠ 290 ∨ (b ≠ 47 ∧ b ≠ 48 ∧ b ≠ 49 ∧ b ≠ 52 ∧ b ≠ 53 ∧ b ≠ 54 ∧ b ≠ 57)) → (a < 322 ∨ 336 < a) → J a b = I a b) := by
  refine Ec.of (Nat.le_of_ble_eq_true rfl) ?_
  refine e_aload rfl rfl ?_
  refine Eg.c1 rfl (by decide) (by decide) rfl (Nat.le_of_ble_eq_true rfl) (xrcv_of rfl hM.1 rfl) ((ms_starts hM hB).mono (by decide)) (fun r1x h1x hq => ?_)
  obtain ⟨rfl, J, rfl, a1x, a52x, a53x, a54x, a2x⟩ := hq
  refine e_aload rfl rfl ?_
  refine e_ipush rfl ?_
  refine e_putZJ rfl hM.1 (by decide) (fun J11x g11x f11x => ?_)
  refine e_ipush rfl ?_
  refine e_istore rfl ?_
  refine Eg.pk [0, 1] [1, 0] rfl (by decide) ?_
  have b1x : Mr J11x B n 0 0 := a1x.any (fun k hk => f11x 290 k (by omega)) (fun k => f11x 337 k (by omega))
  have b2x : ∀ a b, (a ≠ 290 ∨ (b ≠ 48 ∧ b ≠ 49 ∧ b ≠ 52 ∧ b ≠ 53 ∧ b ≠ 54 ∧ b ≠ 57)) → J11x a b = I a b := fun a b q => (f11x a b (by omega)).trans (a2x a b (by omega))
  refine up_ind (p := fun j => ∀ K : Nat → Nat → Int32, (∀ i, i < j → K 322 i = (if i = 6 then 1 else 0)) → (∀ a b, ¬ (a = 322 ∧ b < j) → K a b = J11x a b) → Eg X xTc 8 223 11 [(0, .ref 290), (1, .int (nI j))] [] (sh, K, L, R) (fun r h' => r = none ∧ ∃ J : Nat → Nat → Int32, h' = (sh, J, L, R) ∧ J 290 49 = (sRd B n 41 0 (skp B n 0) (u0F I) false).1 ∧ ((sRd B n 41 0 (skp B n 0) (u0F I) false).1 = 0 → nV J (sRd B n 41 0 (skp B n 0) (u0F I) false).2) ∧ J 290 47 = nI 0 ∧ ∀ a b, (a ≠ 290 ∨ (b ≠ 47 ∧ b ≠ 48 ∧ b ≠ 49 ∧ b ≠ 52 ∧ b ≠ 53 ∧ b ≠ 54 ∧ b ≠ 57)) → (a < 322 ∨ 336 < a) → J a b = I a b)) (n := 7) (j := 0) (fun j hj ih => ?_) ?_ (Nat.zero_le _) J11x (fun i hi => absurd hi (by omega)) (fun a b _ => rfl)
  · intro K k1x k2x
    refine e_iload rfl rfl ?_
    refine e_ipush rfl ?_
    refine e_cge_f rfl (nI_ge (b := 7) hj (by decide)) ?_
    refine e_aload rfl rfl ?_
    refine e_getR rfl hM.1 (show R 290 32 = some 322 from (hM.2 31 _ rfl).2) ?_
    refine e_iload rfl rfl ?_
    refine e_iload rfl rfl ?_
    refine e_ipush rfl ?_
    refine e_cne_b rfl (fun b25x => ?_) (fun b25x => ?_)
    · have b25x : ¬ j = 6 := fun e => b25x (by rw [e]; rfl)
      refine e_ipush rfl ?_
      refine e_iasJ (t := j) (n := 7) rfl (show sh[322]? = some (20, 7) from (hM.2 31 _ rfl).1) rfl (by omega) (by decide) (fun J21x g21x f21x => ?_)
      refine e_iinc rfl rfl ?_
      refine e_goto rfl ?_
      refine Eg.pk [0, 1] [1, 0] rfl (by decide) ?_
      rw [nI_1]
      refine ih J21x (fun i hi => ?_) (fun a b q => (f21x a b (by omega)).trans (k2x a b (by omega)))
      by_cases e : i = j
      · subst e; rw [g21x, if_neg b25x]
      · rw [f21x 322 i (Or.inr e)]; exact k1x i (by omega)
    · have b25x : j = 6 := (nI_eq (b := 6) (by omega) (by decide)).mp b25x
      refine e_ipush rfl ?_
      refine e_goto rfl ?_
      refine e_iasJ (t := j) (n := 7) rfl (show sh[322]? = some (20, 7) from (hM.2 31 _ rfl).1) rfl (by omega) (by decide) (fun J22x g22x f22x => ?_)
      refine e_iinc rfl rfl ?_
      refine e_goto rfl ?_
      refine Eg.pk [0, 1] [1, 0] rfl (by decide) ?_
      rw [nI_1]
      refine ih J22x (fun i hi => ?_) (fun a b q => (f22x a b (by omega)).trans (k2x a b (by omega)))
      by_cases e : i = j
      · subst e; rw [g22x, if_pos b25x]
      · rw [f22x 322 i (Or.inr e)]; exact k1x i (by omega)
  · intro K k1x k2x
    refine e_iload rfl rfl ?_
    refine e_ipush rfl ?_
    refine e_cge_t rfl (Int32.le_refl _) ?_
    refine e_ipush rfl ?_
    refine e_istore rfl ?_
    refine Eg.pk [0, 1] [1, 0] rfl (by decide) ?_
    refine up_ind (p := fun j => ∀ G : Nat → Nat → Int32, (∀ i, i < j → G 323 i = 0) → (∀ a b, ¬ (a = 323 ∧ b < j) → G a b = K a b) → Eg X xTc 8 223 42 [(0, .ref 290), (1, .int (nI j))] [] (sh, G, L, R) (fun r h' => r = none ∧ ∃ J : Nat → Nat → Int32, h' = (sh, J, L, R) ∧ J 290 49 = (sRd B n 41 0 (skp B n 0) (u0F I) false).1 ∧ ((sRd B n 41 0 (skp B n 0) (u0F I) false).1 = 0 → nV J (sRd B n 41 0 (skp B n 0) (u0F I) false).2) ∧ J 290 47 = nI 0 ∧ ∀ a b, (a ≠ 290 ∨ (b ≠ 47 ∧ b ≠ 48 ∧ b ≠ 49 ∧ b ≠ 52 ∧ b ≠ 53 ∧ b ≠ 54 ∧ b ≠ 57)) → (a < 322 ∨ 336 < a) → J a b = I a b)) (n := 12) (j := 0) (fun j hj ih => ?_) ?_ (Nat.zero_le _) K (fun i hi => absurd hi (by omega)) (fun a b _ => rfl)
    · intro G h1x h2x
      refine e_iload rfl rfl ?_
      refine e_ipush rfl ?_
      refine e_cge_f rfl (nI_ge (b := 12) hj (by decide)) ?_
      refine e_aload rfl rfl ?_
      refine e_getR rfl hM.1 (show R 290 33 = some 323 from (hM.2 32 _ rfl).2) ?_
      refine e_iload rfl rfl ?_
      refine e_ipush rfl ?_
      refine e_iasJ (t := j) (n := 12) rfl (show sh[323]? = some (20, 12) from (hM.2 32 _ rfl).1) rfl (by omega) (by decide) (fun J31x g31x f31x => ?_)
      refine e_iinc rfl rfl ?_
      refine e_goto rfl ?_
      refine Eg.pk [0, 1] [1, 0] rfl (by decide) ?_
      rw [nI_1]
      refine ih J31x (fun i hi => ?_) (fun a b q => (f31x a b (by omega)).trans (h2x a b (by omega)))
      by_cases e : i = j
      · subst e; exact g31x
      · rw [f31x 323 i (Or.inr e)]; exact h1x i (by omega)
    · intro G h1x h2x
      refine e_iload rfl rfl ?_
      refine e_ipush rfl ?_
      refine e_cge_t rfl (Int32.le_refl _) ?_
      refine e_ipush rfl ?_
      refine e_istore rfl ?_
      refine e_ipush rfl ?_
      refine e_istore rfl ?_
      refine Eg.pk [0, 1, 2] [2, 1, 0] rfl (by decide) ?_
      have g3x : ∀ a b, a ≠ 322 → a ≠ 323 → G a b = J11x a b := fun a b q1x q2x => (h2x a b (by omega)).trans (k2x a b (by omega))
      have vG : nV G (u0F I) := by
        refine ⟨fun f k q1x q2x => ?_, fun k => ?_, fun k => ?_⟩
        · unfold u0F
          by_cases e1x : f = 1 ∧ k < 7
          · rw [if_pos e1x, e1x.1, h2x _ _ (by omega)]; exact k1x k e1x.2
          · rw [if_neg e1x]
            by_cases e2x : f = 2 ∧ k < 12
            · rw [if_pos e2x, e2x.1]; exact h1x k e2x.2
            · rw [if_neg e2x, if_neg (by omega), if_neg (by omega), h2x _ _ (by omega), k2x _ _ (by omega)]; exact b2x _ _ (by omega)
        · unfold u0F; rw [if_neg (by omega), if_neg (by omega), if_pos rfl, g3x _ _ (by decide) (by decide)]; exact b2x _ _ (by omega)
        · unfold u0F; rw [if_neg (by omega), if_neg (by omega), if_neg (by decide), if_pos rfl, g3x _ _ (by decide) (by decide)]; exact b2x _ _ (by omega)
      have rG : Mr G B n 0 0 := b1x.any (fun k hk => g3x 290 k (by decide) (by decide)) (fun k => g3x 337 k (by decide) (by decide))
      have g57x : G 290 57 = bI false := (g3x 290 57 (by decide) (by decide)).trans g11x
      refine (ms_seaLoop hM 41 0 0 (u0F I) false G (by omega) (by omega) rG (Nat.zero_le _) vG u0F_U0.wf g57x (fun e => absurd rfl e) (fun _ => u0F_U0.c (by decide))).imp ?_
      rintro r h' ⟨rfl, Z, rfl, c3x, c4x, c5x, c6x⟩
      exact ⟨rfl, Z, rfl, c3x, c4x, c5x, fun a b q1x q2x => (c6x a b (by omega) q2x).trans ((g3x a b (by omega) (by omega)).trans (b2x a b (by omega)))⟩
theorem ms_copies {a b m : Nat} (ha : sh[a]? = some (20, m)) (hb : sh[b]? = some (20, m)) (hab : a ≠ b) (hm : m < 2 ^ 31) : Ec X 1 220 [.ref a, .ref b] (sh, I, L, R) (fun r h' => r = none ∧ ∃ J : Nat → Nat → Int32, h' = (sh, J, L, R) ∧ (∀ k, k < m → J b k = I a k) ∧ ∀ i k, (i ≠ b ∨ m ≤ k) → J i k = I i k) := by
  refine Ec.of (Nat.le_of_ble_eq_true rfl) ?_
  refine e_ipush rfl ?_
  refine e_istore rfl ?_
  refine Eg.pk [0, 1, 2] [2, 0, 1] rfl (by decide) ?_
  refine up_ind (p := fun j => ∀ J : Nat → Nat → Int32, (∀ k, k < j → J b k = I a k) → (∀ i k, (i ≠ b ∨ j ≤ k) → J i k = I i k) → Eg X xTc 0 220 2 [(0, .ref a), (1, .ref b), (2, .int (nI j))] [] (sh, J, L, R) (fun r h' => r = none ∧ ∃ J : Nat → Nat → Int32, h' = (sh, J, L, R) ∧ (∀ k, k < m → J b k = I a k) ∧ ∀ i k, (i ≠ b ∨ m ≤ k) → J i k = I i k)) (n := m) (j := 0) (fun j hj ih => ?_) ?_ (Nat.zero_le _) I (fun k hk => absurd hk (by omega)) (fun i k _ => rfl)
  · intro J k1x k2x
    have ja : J a j = I a j := k2x a j (Or.inl hab)
    refine e_iload rfl rfl ?_
    refine e_aload rfl rfl ?_
    refine e_alen rfl ha (by decide) ?_
    refine e_cge_f rfl (nI_ge hj hm) ?_
    refine e_aload rfl rfl ?_
    refine e_iload rfl rfl ?_
    refine e_aload rfl rfl ?_
    refine e_iload rfl rfl ?_
    refine e_ialv (t := j) (n := m) rfl ha rfl (by omega) hm ja ?_
    refine e_iasJ (t := j) (n := m) rfl hb rfl (by omega) hm (fun J11x g11x f11x => ?_)
    refine e_iinc rfl rfl ?_
    refine e_goto rfl ?_
    refine Eg.pk [0, 1, 2] [2, 0, 1] rfl (by decide) ?_
    rw [nI_1]
    refine ih J11x (fun k hk => ?_) (fun i k q => (f11x i k (by omega)).trans (k2x i k (by omega)))
    by_cases e : k = j
    · subst e; exact g11x
    · rw [f11x b k (Or.inr e)]; exact k1x k (by omega)
  · intro J k1x k2x
    refine e_iload rfl rfl ?_
    refine e_aload rfl rfl ?_
    refine e_alen rfl ha (by decide) ?_
    refine e_cge_t rfl (Int32.le_refl _) ?_
    exact Eg.ret rfl (by decide) rfl ⟨rfl, J, rfl, k1x, k2x⟩
end MS4x
