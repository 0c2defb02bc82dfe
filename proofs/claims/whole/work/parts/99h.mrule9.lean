/-! A RULE read, the other side: tests, all of them -/
section MU9x
variable {X : xX} {h : xH} {sh : List (Nat × Nat)} {I : Nat → Nat → Int32} {L : Nat → Nat → Int64} {R : Nat → Nat → Option Nat} {B : Nat → Nat} {n ri p : Nat} {st : rS}
/-- a fact: what pends behind it are its NOTs -/
def CA (X : xX) (sh : List (Nat × Nat)) (L : Nat → Nat → Int64) (R : Nat → Nat → Option Nat) (B : Nat → Nat) (n ri m : Nat) : Prop := ∀ (d p : Nat) (st : rS) (S : List Nat) (I : Nat → Nat → Int32) (Q : Option Value → xH → Prop), d + m = 10 → Cf0x I B n ri p st S d → S.length + 2 ≤ st.1 →
  (∀ (J : Nat → Nat → Int32) (k p' : Nat) (st' : rS), (rFact B n m st).1 = 0 → MqT I J ri → Cf0x J B n ri p' st' (List.replicate k 9 ++ S) (d + k) → adN k 9 st' = (rFact B n m st).2 → Eg X xTc 10 212 9 [(0, .ref 290), (1, .int 0), (2, .int 1)] [] (sh, J, L, R) Q) →
  (∀ J : Nat → Nat → Int32, MqT I J ri → Msx J B n ri (rFact B n m st).1 → Q none (sh, J, L, R)) → Eg X xTc 10 212 9 [(0, .ref 290), (1, .int 1), (2, .int 1)] [] (sh, I, L, R) Q
/-- facts joined -/
def CB (X : xX) (sh : List (Nat × Nat)) (L : Nat → Nat → Int64) (R : Nat → Nat → Option Nat) (B : Nat → Nat) (n ri m : Nat) : Prop := ∀ (N kf : Nat) (an o : Bool) (d p : Nat) (st : rS) (base : List Nat) (I : Nat → Nat → Int32) (Q : Option Value → xH → Prop), d + m = 10 → n - st.1 = N → n - st.1 < kf → (¬ tpS base = nI 9 ∧ ¬ tpS base = nI 10 ∧ ¬ tpS base = nI 11) → Cf0x I B n ri p st (List.replicate (nb an) 10 ++ (List.replicate (nb o) 11 ++ base)) d → nb an + nb o + base.length + 2 ≤ st.1 → 2 * (st.2.2.length + pdn an o) ≤ 2 * st.2.1 + st.1 →
  (∀ J : Nat → Nat → Int32, (rTL B n (rFact B n m) kf an o st).1 = 0 → MqT I J ri → Cf0x J B n ri (rTL B n (rFact B n m) kf an o st).2.1 (rTL B n (rFact B n m) kf an o st).2 base d → Eg X xTc 10 212 137 [(0, .ref 290), (1, .int 0), (2, .int 1), (3, .int 0), (4, .int 0)] [] (sh, J, L, R) Q) →
  (∀ J : Nat → Nat → Int32, MqT I J ri → Msx J B n ri (rTL B n (rFact B n m) kf an o st).1 → Q none (sh, J, L, R)) → Eg X xTc 10 212 9 [(0, .ref 290), (1, .int 1), (2, .int 1)] [] (sh, I, L, R) Q
theorem ms_CB (hM : MW sh R) {m : Nat} (hA : CA X sh L R B n ri m) : CB X sh L R B n ri m := by
  intro N
  induction N using Nat.strongRecOn with
  | _ N ih =>
  intro kf an o d p st base I Q hd hN hk ht hr hl hb hok hbad
  obtain ⟨hsn, hn, hps, htk⟩ := hr.1.le
  obtain ⟨k, rfl⟩ : ∃ k', kf = k' + 1 := ⟨kf - 1, by omega⟩
  have hno : nb o ≤ 1 := by unfold nb; split <;> omega
  have hlen : (List.replicate (nb an) 10 ++ (List.replicate (nb o) 11 ++ base)).length = nb an + nb o + base.length := by simp; omega
  refine hA d p st (List.replicate (nb an) 10 ++ (List.replicate (nb o) 11 ++ base)) I Q hd hr (by rw [hlen]; exact hl) ?_ ?_
  · intro J j p' st' e0x q1x cf es
    have gG := rFact_G hn m st htk e0x
    have hle := gG.le
    have hb1x : 2 * ((rFact B n m st).2.2.2.length + pdn an o) ≤ 2 * (rFact B n m st).2.2.1 + (rFact B n m st).2.1 := gG.bd (by decide) hb
    obtain ⟨y1x, y2x, y3x⟩ := adN_1 (x := 10) (nb an) (rFact B n m st).2
    obtain ⟨x1x, x2x, x3x⟩ := adN_1 (x := 11) (nb o) (adN (nb an) 10 (rFact B n m st).2)
    have hpd : pdn an o = nb an + nb o := rfl
    refine ms_it0 hM cf es ht.1 ht.2.1 ht.2.2 hb1x (by omega) ?_ ?_ ?_
    · intro w J2x p2x q2x f2x
      obtain ⟨n1x, n2x, n3x⟩ := nxt_w (B := B) (n := n) (p := (rFact B n m st).2.1) (w := 11) (by decide) w
      have eD := rTL_a (n := n) (k := k) (an := an) (o := o) e0x w
      rw [← bAd_N (x := 10)] at eD
      have l1x : (goN B n (adN (nb an) 10 (rFact B n m st).2)).1 = nxt B n (rFact B n m st).2.1 := by show nxt B n (adN (nb an) 10 (rFact B n m st).2).1 = _; rw [y1x]
      have l2x : (goN B n (adN (nb an) 10 (rFact B n m st).2)).2.1 = (rFact B n m st).2.2.1 := y2x
      have l3x : (goN B n (adN (nb an) 10 (rFact B n m st).2)).2.2.length = (rFact B n m st).2.2.2.length + nb an := y3x
      refine ih _ (by rw [← hN, l1x]; omega) k true o d p2x _ base J2x Q hd rfl (by rw [l1x]; omega) ht f2x (by rw [l1x]; show 1 + nb o + base.length + 2 ≤ _; omega) (by rw [l1x, l2x, l3x]; show 2 * (_ + (1 + nb o)) ≤ _; omega) ?_ ?_
      · intro J3x a b c; rw [← eD] at a c; exact hok J3x a ((q1x.tr q2x).tr b) c
      · intro J3x a b; rw [← eD] at b; exact hbad J3x ((q1x.tr q2x).tr a) b
    · intro w w2x J2x p2x q2x f2x
      obtain ⟨n1x, n2x, n3x⟩ := nxt_w (B := B) (n := n) (p := (rFact B n m st).2.1) (w := 10) (by decide) w2x
      have eD := rTL_o (n := n) (k := k) (an := an) (o := o) e0x w w2x
      rw [← bAd_N (x := 10), ← bAd_N (x := 11)] at eD
      have l1x : (goN B n (adN (nb o) 11 (adN (nb an) 10 (rFact B n m st).2))).1 = nxt B n (rFact B n m st).2.1 := by show nxt B n (adN (nb o) 11 (adN (nb an) 10 (rFact B n m st).2)).1 = _; rw [x1x, y1x]
      have l2x : (goN B n (adN (nb o) 11 (adN (nb an) 10 (rFact B n m st).2))).2.1 = (rFact B n m st).2.2.1 := x2x.trans y2x
      have l3x : (goN B n (adN (nb o) 11 (adN (nb an) 10 (rFact B n m st).2))).2.2.length = (rFact B n m st).2.2.2.length + nb an + nb o := x3x.trans (by rw [y3x])
      refine ih _ (by rw [← hN, l1x]; omega) k false true d p2x _ base J2x Q hd rfl (by rw [l1x]; omega) ht f2x (by rw [l1x]; show 0 + 1 + base.length + 2 ≤ _; omega) (by rw [l1x, l2x, l3x]; show 2 * (_ + (0 + 1)) ≤ _; omega) ?_ ?_
      · intro J3x a b c; rw [← eD] at a c; exact hok J3x a ((q1x.tr q2x).tr b) c
      · intro J3x a b; rw [← eD] at b; exact hbad J3x ((q1x.tr q2x).tr a) b
    · intro w w2x J2x q2x f2x
      have eD := rTL_e (n := n) (k := k) (an := an) (o := o) e0x w w2x
      rw [← bAd_N (x := 10), ← bAd_N (x := 11)] at eD
      refine hok J2x (by rw [eD]) (q1x.tr q2x) ?_
      rw [eD]
      show Cf0x J2x B n ri (adN (nb o) 11 (adN (nb an) 10 (rFact B n m st).2)).1 _ base d
      rw [x1x, y1x]; exact f2x
  · intro J q1x v1x
    have eD := rTL_f (B := B) (n := n) (k := k) (an := an) (o := o) (Fn := rFact B n m) (st := st) v1x.1
    exact hbad J q1x (by rw [eD]; exact v1x)
theorem ms_CA (hM : MW sh R) : ∀ m, CA X sh L R B n ri m := by
  intro m
  induction m with
  | zero =>
    intro d p st S I Q hd hr hl hok hbad
    obtain ⟨hsn, hn, hps, htk⟩ := hr.1.le
    have h10x : d = 10 := by omega
    refine ms_tw1 hM hr (by omega) ?_ ?_
    · intro J q1x ha hz
      rcases hz with ⟨-, v⟩ | ⟨h, -⟩
      · have eD : rFact B n 0 st = (fl 0 st.1 2, st) := by rw [rFact, if_pos ha]
        exact ms_tx hM v.toX (hbad J q1x (by rw [eD]; exact v.toX))
      · omega
    · intro J q1x ha hz
      have eD : rFact B n 0 st = rCmp B n st := by rw [rFact, if_neg (fun q => q.elim ha.1 ha.2)]
      rcases hz with ⟨e, c⟩ | v
      · exact hok J 0 _ _ (by rw [eD]; exact e) q1x c (by rw [eD]; rfl)
      · exact ms_tx hM v.toX (hbad J q1x (by rw [eD]; exact v.toX))
  | succ m ihm =>
    intro d p st S I Q hd hr hl hok hbad
    obtain ⟨hsn, hn, hps, htk⟩ := hr.1.le
    have hbd := hr.1.2.2.2.2.2.2.1
    refine ms_tw1 hM hr (by omega) ?_ ?_
    · intro J q1x ha hz
      rcases hz with ⟨h, -⟩ | ⟨-, p', cf⟩
      · omega
      · by_cases h12x : wdH B n st.1 = 12
        · rw [if_pos h12x] at cf
          obtain ⟨n1x, n2x, n3x⟩ := nxt_w (B := B) (n := n) (p := st.1) (w := 12) (by decide) h12x
          refine ihm (d + 1) p' _ (9 :: S) J Q (by omega) cf (by show S.length + 1 + 2 ≤ nxt B n st.1; omega) ?_ ?_
          · intro J2x k p2x st2x e q2x c2x es
            have eD : rFact B n (m + 1) st = (0, adE 9 (rFact B n m (goN B n st)).2) := by rw [rFact, if_pos h12x, if_neg (fun q => q e)]
            refine hok J2x (k + 1) p2x st2x (by rw [eD]) (q1x.tr q2x) ?_ (by rw [eD, adN_s, es])
            have e1x : List.replicate (k + 1) 9 ++ S = List.replicate k 9 ++ 9 :: S := by rw [List.replicate_succ']; simp
            rw [e1x, show d + (k + 1) = d + 1 + k by omega]; exact c2x
          · intro J2x q2x v2x
            have eD : (rFact B n (m + 1) st).1 = (rFact B n m (goN B n st)).1 := by rw [rFact, if_pos h12x, if_pos v2x.1]
            exact hbad J2x (q1x.tr q2x) (by rw [eD]; exact v2x)
        · rw [if_neg h12x] at cf
          have h91x := ha.resolve_left h12x
          have lt9x : st.1 < n := sgH_lt (B := B) (by rw [h91x]; decide)
          have nl := nxt_le (B := B) (n := n) (p := st.1) hsn
          have nl3x := nl.2.2 lt9x
          have bd2x : 2 * (st.2.2.length + 0) ≤ 2 * st.2.1 + nxt B n st.1 := by omega
          refine ms_CB hM ihm _ 401 false false (d + 1) p' (goN B n st) (12 :: S) J Q (by omega) rfl (by omega) ⟨by show ¬ nI 12 = nI 9; decide, by show ¬ nI 12 = nI 10; decide, by show ¬ nI 12 = nI 11; decide⟩ cf (by show 0 + 0 + (S.length + 1) + 2 ≤ nxt B n st.1; omega) bd2x ?_ ?_
          · intro J2x e q2x c2x
            have e' : (rTL B n (rFact B n m) 401 false false (goN B n st)).1 = 0 := e
            refine ms_tcl hM c2x ?_ ?_
            · intro e93x J3x p3x q3x c3x
              have eD : rFact B n (m + 1) st = (0, goN B n (rTL B n (rFact B n m) 401 false false (goN B n st)).2) := by rw [rFact, if_neg h12x, if_pos h91x, if_neg (fun q => q e'), if_pos e93x]
              exact hok J3x 0 p3x _ (by rw [eD]) ((q1x.tr q2x).tr q3x) c3x (by rw [eD]; rfl)
            · intro e93x J3x q3x v3x
              have eD : (rFact B n (m + 1) st).1 = fl 0 (rTL B n (rFact B n m) 401 false false (goN B n st)).2.1 0 := by rw [rFact, if_neg h12x, if_pos h91x, if_neg (fun q => q e'), if_neg e93x]
              exact hbad J3x ((q1x.tr q2x).tr q3x) (by rw [eD]; exact v3x)
          · intro J2x q2x v2x
            have eD : (rFact B n (m + 1) st).1 = (rTL B n (rFact B n m) 401 false false (goN B n st)).1 := by rw [rFact, if_neg h12x, if_pos h91x, if_pos v2x.1]
            exact hbad J2x (q1x.tr q2x) (by rw [eD]; exact v2x)
    · intro J q1x ha hz
      have eD : rFact B n (m + 1) st = rCmp B n st := by rw [rFact, if_neg ha.1, if_neg ha.2]
      rcases hz with ⟨e, c⟩ | v
      · exact hok J 0 _ _ (by rw [eD]; exact e) q1x c (by rw [eD]; rfl)
      · exact ms_tx hM v.toX (hbad J q1x (by rw [eD]; exact v.toX))
theorem ms_test (hM : MW sh R) (hr : Mst I B n ri p st) (h53x : I 290 53 = nI 0) (h2x : 2 ≤ st.1) : Ec X 11 212 [.ref 290] (sh, I, L, R) (fun r h' => r = none ∧ ∃ J : Nat → Nat → Int32, h' = (sh, J, L, R) ∧ MqT I J ri ∧ (((rTest B n 10 st).1 = 0 ∧ Mst J B n ri (rTest B n 10 st).2.1 (rTest B n 10 st).2 ∧ J 290 53 = nI 0) ∨ Msx J B n ri (rTest B n 10 st).1)) := by
  obtain ⟨hsn, hn, hps, htk⟩ := hr.le
  have hbd := hr.2.2.2.2.2.2.1
  refine Ec.of (Nat.le_of_ble_eq_true rfl) ?_
  refine e_aload rfl rfl ?_
  refine e_ipush rfl ?_
  refine e_putIJ rfl hM.1 (fun J21x g21x f21x => ?_)
  refine e_ipush rfl ?_
  refine e_istore rfl ?_
  refine e_ipush rfl ?_
  refine e_istore rfl ?_
  refine Eg.pk [0, 1, 2] [2, 1, 0] rfl (by decide) ?_
  have cf : Cf0x J21x B n ri p st [] 0 := ⟨hr.fr (fun i k q => f21x i k (by omega)), g21x, (f21x 290 53 (by omega)).trans h53x, trivial, by decide, by decide⟩
  have m0x : MqT I J21x ri := fun i k a b c => f21x i k (by omega)
  refine ms_CB hM (ms_CA hM 10) _ 401 false false 0 p st [] J21x _ rfl rfl (by omega) ⟨by decide, by decide, by decide⟩ cf h2x hbd ?_ ?_
  · intro J2x e q2x c2x
    exact ms_tend hM c2x ⟨rfl, J2x, rfl, m0x.tr q2x, Or.inl ⟨e, c2x.1, c2x.2.2.1⟩⟩
  · intro J2x q2x v2x
    exact ⟨rfl, J2x, rfl, m0x.tr q2x, Or.inr v2x⟩
end MU9x
