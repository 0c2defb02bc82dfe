/-! A RULE read, the one side: facts and tests, without a fault -/
section CR5x
variable {X : xX} {h : xH} {sh : List (Nat × Nat)} {I : Nat → Nat → Int32} {L : Nat → Nat → Int64} {R : Nat → Nat → Option Nat} {B : Nat → Nat} {n E ru : Nat} {st : rS}
theorem cs_raddA {j : Nat} (hA : RRAt sh R ru) (hU : RuAt sh R ru) (h : Cst I B n E ru st) (hb : 2 * (st.2.2.length + 1) ≤ 2 * st.2.1 + st.1) {x : Int32} (hx : x = pcE (j, 0)) : Ec X 1 67 [.ref ru, .int x] (sh, I, L, R) (fun r h' => r = none ∧ ∃ J : Nat → Nat → Int32, h' = (sh, J, L, R) ∧ Cst J B n E ru (adE j st) ∧ QFr I J ru) := cs_raddS hA hU h hb hx
theorem bdA {j k : Nat} {st : rS} (h : 2 * (st.2.2.length + (k + 1)) ≤ 2 * st.2.1 + st.1) : 2 * ((adE j st).2.2.length + k) ≤ 2 * (adE j st).2.1 + (adE j st).1 := by
  show 2 * ((st.2.2 ++ [(j, 0)]).length + k) ≤ 2 * st.2.1 + st.1
  rw [List.length_append]; simp; omega
theorem bdN {k : Nat} {st : rS} (h : 2 * (st.2.2.length + k) ≤ 2 * st.2.1 + st.1) (g : st.1 + 2 ≤ nxt B n st.1) : 2 * ((goN B n st).2.2.length + (k + 1)) ≤ 2 * (goN B n st).2.1 + (goN B n st).1 := by
  show 2 * (st.2.2.length + (k + 1)) ≤ 2 * st.2.1 + nxt B n st.1; omega
theorem rG.b2 {a b : rS} {k : Int} {x y : List Bool} {j : Nat} (h : rG B n a b k x y) (hk : 2 * j ≤ k) (q : 2 * a.2.2.length ≤ 2 * a.2.1 + a.1) : 2 * (b.2.2.length + j) ≤ 2 * b.2.1 + b.1 := by
  obtain ⟨s1x, h1x, h2x, h3x, h4x, h5x, h6x, h7x, h8x, h9x⟩ := h
  rw [h1x, List.length_append]; omega
theorem nxt_w {p w : Nat} (hw : w < 22) (h : wdH B n p = nI w) : p + 2 ≤ nxt B n p ∧ p < n ∧ nxt B n p ≤ n := by
  obtain ⟨g, l1x, l2x⟩ := rG.gow (B := B) (n := n) (a := (p, 0, [])) (x := []) hw h
  obtain ⟨sg, s1x, s2x, s3x, s4x, s5x⟩ := g
  have e : sg = [] := by simpa [goN] using s1x.symm
  subst e
  have g2x := (nxt_le (B := B) (n := n) (p := p) (by have : p < n := l1x; omega)).2.1
  have s4' : 2 * ((0 : Nat) : Int) + 2 + 2 * ((0 : Nat) : Int) + (p : Int) ≤ 2 * ((0 : Nat) : Int) + (nxt B n p : Int) := s4x
  have l1' : p < n := l1x
  exact ⟨by omega, l1', g2x⟩
def bAd (b : Bool) (j : Nat) (s : rS) : rS := if b then adE j s else s
theorem rTL_f {Fn : rS → Int32 × rS} {k : Nat} {an o : Bool} (h : ¬ (Fn st).1 = 0) : rTL B n Fn (k + 1) an o st = Fn st := by rw [rTL, if_pos h]
theorem rTL_a {Fn : rS → Int32 × rS} {k : Nat} {an o : Bool} (h : (Fn st).1 = 0) (h2x : wdH B n (Fn st).2.1 = 11) : rTL B n Fn (k + 1) an o st = rTL B n Fn k true o (goN B n (bAd an 10 (Fn st).2)) := by
  rw [rTL, if_neg (fun q => q h), if_pos h2x, bAd]
theorem rTL_o {Fn : rS → Int32 × rS} {k : Nat} {an o : Bool} (h : (Fn st).1 = 0) (h2x : ¬ wdH B n (Fn st).2.1 = 11) (h3x : wdH B n (Fn st).2.1 = 10) : rTL B n Fn (k + 1) an o st = rTL B n Fn k false true (goN B n (bAd o 11 (bAd an 10 (Fn st).2))) := by
  rw [rTL, if_neg (fun q => q h), if_neg h2x, if_pos h3x, bAd, bAd]
theorem rTL_e {Fn : rS → Int32 × rS} {k : Nat} {an o : Bool} (h : (Fn st).1 = 0) (h2x : ¬ wdH B n (Fn st).2.1 = 11) (h3x : ¬ wdH B n (Fn st).2.1 = 10) : rTL B n Fn (k + 1) an o st = (0, bAd o 11 (bAd an 10 (Fn st).2)) := by
  rw [rTL, if_neg (fun q => q h), if_neg h2x, if_neg h3x, bAd, bAd]
theorem cs_testLoop (hT : TpAt sh R) (hA : RRAt sh R ru) (hU : RuAt sh R ru) {m d : Nat} (hd : d + m = 10) (hF : (∀ (I : Nat → Nat → Int32) (d : Nat) (st : rS), d + m = 10 → Cst I B n E ru st → Ec X (2 * m + 3 + 1) 74 [.ref 7, .int (nI d)] (sh, I, L, R) (fun r h' => r = none ∧ ∃ J : Nat → Nat → Int32, h' = (sh, J, L, R) ∧ rRes I J B n E ru (rFact B n m st)))) : ∀ (N k : Nat) (an o : Bool) (i : Nat) (st : rS) (I : Nat → Nat → Int32), n - st.1 = N → n - st.1 < k → 2 * i ≤ st.1 → 2 * (st.2.2.length + pdn an o) ≤ 2 * st.2.1 + st.1 → Cst I B n E ru st → Eg X xTc (2 * m + 4) 73 10 [(0, .ref 7), (1, .int (nI d)), (2, .int (bI an)), (3, .int (bI o)), (4, .int 1), (5, .int (nI i))] [] (sh, I, L, R) (fun r h' => r = none ∧ ∃ J : Nat → Nat → Int32, h' = (sh, J, L, R) ∧ rRes I J B n E ru (rTL B n (rFact B n m) k an o st)) := by
  have h9x := hA.2.2.2
  intro N
  induction N using Nat.strongRecOn with
  | _ N ih =>
  intro k an o i st I hN hk hi hbd hr
  obtain ⟨hp, hn⟩ := hr.le
  obtain ⟨k, rfl⟩ : ∃ k', k = k' + 1 := ⟨k - 1, by omega⟩
  cases an with
  | false =>
    cases o with
    | false =>
      refine e_iload rfl rfl ?_
      refine e_ifeq_f rfl (by decide) ?_
      refine e_iload rfl rfl ?_
      refine e_ipush rfl ?_
      refine e_cge_f rfl (by intro q; have := (nI_lei (a := 400) (by decide) (by omega)).mp q; omega) ?_
      refine e_aload rfl rfl ?_
      refine e_iload rfl rfl ?_
      refine Eg.c2 rfl (by decide) (by decide) rfl (Nat.le_of_ble_eq_true rfl) (xrcv_of rfl hA.1 rfl) (((hF _ d st hd hr).mono (by omega))) (fun r1x h1x hq => ?_)
      obtain ⟨rfl, K1x, rfl, q1x, hc⟩ := hq
      rcases hc with ⟨e1x, c1x⟩ | v1x
      · have q1' := QFr.tr (QFr.rf) q1x
        have gG := rFact_G hn m st hr.1.tok e1x
        have hle := gG.le
        have hb1x : 2 * ((rFact B n m st).2.2.2.length + 0) ≤ 2 * (rFact B n m st).2.2.1 + (rFact B n m st).2.1 := gG.bd (j := 0) (by decide) hbd
        refine e_iload rfl rfl ?_
        refine e_ifeq_t rfl rfl ?_
        refine e_aload rfl rfl ?_
        refine e_getR rfl hA.1 hA.2.1 ?_
        refine Eg.p1 rfl (by decide) (by decide) rfl (Nat.le_of_ble_eq_true rfl) (xrcv_of rfl hT.1 rfl) (((cs_wordHere hT c1x.1).mono (by omega))) ?_
        refine e_ipush rfl ?_
        refine e_cne_b rfl (fun b50x => ?_) (fun b50x => ?_)
        · refine e_ipush rfl ?_
          refine e_istore rfl ?_
          refine e_iload rfl rfl ?_
          refine e_ifne_f rfl rfl ?_
          refine e_iload rfl rfl ?_
          refine e_ifeq_t rfl rfl ?_
          refine e_aload rfl rfl ?_
          refine e_getR rfl hA.1 hA.2.1 ?_
          refine Eg.p1 rfl (by decide) (by decide) rfl (Nat.le_of_ble_eq_true rfl) (xrcv_of rfl hT.1 rfl) (((cs_wordHere hT c1x.1).mono (by omega))) ?_
          refine e_ipush rfl ?_
          refine e_cne_b rfl (fun b85x => ?_) (fun b85x => ?_)
          · refine e_ipush rfl ?_
            refine e_istore rfl ?_
            refine e_aload rfl rfl ?_
            refine e_getR rfl hA.1 hA.2.1 ?_
            refine e_getIv rfl hT.1 c1x.1.2.2.1 ?_
            refine e_ifne_f rfl rfl ?_
            refine e_iload rfl rfl ?_
            refine e_ifne_f rfl rfl ?_
            refine e_iload rfl rfl ?_
            refine e_ifeq_t rfl rfl ?_
            refine e_ipush rfl ?_
            refine e_istore rfl ?_
            refine e_iload rfl rfl ?_
            refine e_ifeq_t rfl rfl ?_
            refine e_iinc rfl rfl ?_
            refine e_goto rfl ?_
            refine e_iload rfl rfl ?_
            refine e_ifeq_t rfl rfl ?_
            exact Eg.ret rfl (by decide) rfl ⟨rfl, K1x, rfl, by rw [rTL_e e1x b50x b85x]; exact ⟨q1', Or.inl ⟨rfl, c1x⟩⟩⟩
          · refine e_ipush rfl ?_
            refine e_goto rfl ?_
            refine e_istore rfl ?_
            refine e_aload rfl rfl ?_
            refine e_getR rfl hA.1 hA.2.1 ?_
            refine e_getIv rfl hT.1 c1x.1.2.2.1 ?_
            refine e_ifne_f rfl rfl ?_
            refine e_iload rfl rfl ?_
            refine e_ifne_f rfl rfl ?_
            refine e_iload rfl rfl ?_
            refine e_ifeq_f rfl (by decide) ?_
            refine e_ipush rfl ?_
            refine e_goto rfl ?_
            refine e_istore rfl ?_
            refine e_iload rfl rfl ?_
            refine e_ifeq_f rfl (by decide) ?_
            refine e_aload rfl rfl ?_
            refine e_getR rfl hA.1 hA.2.1 ?_
            refine Eg.c1 rfl (by decide) (by decide) rfl (Nat.le_of_ble_eq_true rfl) (xrcv_of rfl hT.1 rfl) (((cs_step hT c1x.1).mono (by omega))) (fun r1x h1x hq => ?_)
            obtain ⟨rfl, G, rfl, g1x, g2x⟩ := hq
            refine e_iinc rfl rfl ?_
            refine e_goto rfl ?_
            refine Eg.pk [0, 1, 2, 3, 4, 5] [5, 4, 3, 2, 0, 1] rfl (by decide) ?_
            rw [nI_1]
            obtain ⟨n1x, n2x, n3x⟩ := nxt_w (B := B) (n := n) (p := (rFact B n m st).2.1) (w := 10) (by decide) b85x
            have cg : Cst G B n E ru (goN B n (rFact B n m st).2) := c1x.go h9x g1x g2x
            have hg : 2 * ((goN B n (rFact B n m st).2).2.2.length + 1) ≤ 2 * (goN B n (rFact B n m st).2).2.1 + (goN B n (rFact B n m st).2).1 := bdN hb1x n1x
            have l1x : (goN B n (rFact B n m st).2).1 = nxt B n (rFact B n m st).2.1 := rfl
            refine (ih _ (by rw [← hN, l1x]; omega) k false true (i + 1) (goN B n (rFact B n m st).2) G rfl (by rw [l1x]; omega) (by rw [l1x]; omega) hg cg).imp ?_
            rintro r h' ⟨rfl, T, rfl, t1x⟩
            exact ⟨rfl, T, rfl, by rw [rTL_o e1x b50x b85x]; exact rRes.tr (q1'.tr (QFr.of g2x)) t1x⟩
        · refine e_ipush rfl ?_
          refine e_goto rfl ?_
          refine e_istore rfl ?_
          refine e_iload rfl rfl ?_
          refine e_ifne_t rfl (by decide) ?_
          refine e_aload rfl rfl ?_
          refine e_getR rfl hA.1 hA.2.1 ?_
          refine e_getIv rfl hT.1 c1x.1.2.2.1 ?_
          refine e_ifne_f rfl rfl ?_
          refine e_iload rfl rfl ?_
          refine e_ifne_t rfl (by decide) ?_
          refine e_ipush rfl ?_
          refine e_goto rfl ?_
          refine e_istore rfl ?_
          refine e_iload rfl rfl ?_
          refine e_ifeq_f rfl (by decide) ?_
          refine e_aload rfl rfl ?_
          refine e_getR rfl hA.1 hA.2.1 ?_
          refine Eg.c1 rfl (by decide) (by decide) rfl (Nat.le_of_ble_eq_true rfl) (xrcv_of rfl hT.1 rfl) (((cs_step hT c1x.1).mono (by omega))) (fun r1x h1x hq => ?_)
          obtain ⟨rfl, G, rfl, g1x, g2x⟩ := hq
          refine e_iinc rfl rfl ?_
          refine e_goto rfl ?_
          refine Eg.pk [0, 1, 2, 3, 4, 5] [5, 4, 2, 0, 1, 3] rfl (by decide) ?_
          rw [nI_1]
          obtain ⟨n1x, n2x, n3x⟩ := nxt_w (B := B) (n := n) (p := (rFact B n m st).2.1) (w := 11) (by decide) b50x
          have cg : Cst G B n E ru (goN B n (rFact B n m st).2) := c1x.go h9x g1x g2x
          have hg : 2 * ((goN B n (rFact B n m st).2).2.2.length + 1) ≤ 2 * (goN B n (rFact B n m st).2).2.1 + (goN B n (rFact B n m st).2).1 := bdN hb1x n1x
          have l1x : (goN B n (rFact B n m st).2).1 = nxt B n (rFact B n m st).2.1 := rfl
          refine (ih _ (by rw [← hN, l1x]; omega) k true false (i + 1) (goN B n (rFact B n m st).2) G rfl (by rw [l1x]; omega) (by rw [l1x]; omega) hg cg).imp ?_
          rintro r h' ⟨rfl, T, rfl, t1x⟩
          exact ⟨rfl, T, rfl, by rw [rTL_a e1x b50x]; exact rRes.tr (q1'.tr (QFr.of g2x)) t1x⟩
      · obtain ⟨z1x, p1x, -, -, r1x, -⟩ := id v1x
        have q1' := QFr.tr (QFr.rf) q1x
        refine e_iload rfl rfl ?_
        refine e_ifeq_t rfl rfl ?_
        refine e_aload rfl rfl ?_
        refine e_getR rfl hA.1 hA.2.1 ?_
        refine Eg.p1 rfl (by decide) (by decide) rfl (Nat.le_of_ble_eq_true rfl) (xrcv_of rfl hT.1 rfl) (((cs_wordHere hT r1x).mono (by omega))) ?_
        refine e_ipush rfl ?_
        refine e_cne_b rfl (fun b50x => ?_) (fun b50x => ?_)
        · refine e_ipush rfl ?_
          refine e_istore rfl ?_
          refine e_iload rfl rfl ?_
          refine e_ifne_f rfl rfl ?_
          refine e_iload rfl rfl ?_
          refine e_ifeq_t rfl rfl ?_
          refine e_aload rfl rfl ?_
          refine e_getR rfl hA.1 hA.2.1 ?_
          refine Eg.p1 rfl (by decide) (by decide) rfl (Nat.le_of_ble_eq_true rfl) (xrcv_of rfl hT.1 rfl) (((cs_wordHere hT r1x).mono (by omega))) ?_
          refine e_ipush rfl ?_
          refine e_cne_b rfl (fun b85x => ?_) (fun b85x => ?_)
          · refine e_ipush rfl ?_
            refine e_istore rfl ?_
            refine e_aload rfl rfl ?_
            refine e_getR rfl hA.1 hA.2.1 ?_
            refine e_getIv rfl hT.1 r1x.2.2.1 ?_
            refine e_ifne_t rfl z1x ?_
            refine e_ipush rfl ?_
            refine e_istore rfl ?_
            refine e_iload rfl rfl ?_
            refine e_ifeq_t rfl rfl ?_
            refine e_iinc rfl rfl ?_
            refine e_goto rfl ?_
            refine e_iload rfl rfl ?_
            refine e_ifeq_t rfl rfl ?_
            exact Eg.ret rfl (by decide) rfl ⟨rfl, K1x, rfl, rRes.wk q1' (by rw [rTL_f z1x]; exact v1x)⟩
          · refine e_ipush rfl ?_
            refine e_goto rfl ?_
            refine e_istore rfl ?_
            refine e_aload rfl rfl ?_
            refine e_getR rfl hA.1 hA.2.1 ?_
            refine e_getIv rfl hT.1 r1x.2.2.1 ?_
            refine e_ifne_t rfl z1x ?_
            refine e_ipush rfl ?_
            refine e_istore rfl ?_
            refine e_iload rfl rfl ?_
            refine e_ifeq_t rfl rfl ?_
            refine e_iinc rfl rfl ?_
            refine e_goto rfl ?_
            refine e_iload rfl rfl ?_
            refine e_ifeq_t rfl rfl ?_
            exact Eg.ret rfl (by decide) rfl ⟨rfl, K1x, rfl, rRes.wk q1' (by rw [rTL_f z1x]; exact v1x)⟩
        · refine e_ipush rfl ?_
          refine e_goto rfl ?_
          refine e_istore rfl ?_
          refine e_iload rfl rfl ?_
          refine e_ifne_t rfl (by decide) ?_
          refine e_aload rfl rfl ?_
          refine e_getR rfl hA.1 hA.2.1 ?_
          refine e_getIv rfl hT.1 r1x.2.2.1 ?_
          refine e_ifne_t rfl z1x ?_
          refine e_ipush rfl ?_
          refine e_istore rfl ?_
          refine e_iload rfl rfl ?_
          refine e_ifeq_t rfl rfl ?_
          refine e_iinc rfl rfl ?_
          refine e_goto rfl ?_
          refine e_iload rfl rfl ?_
          refine e_ifeq_t rfl rfl ?_
          exact Eg.ret rfl (by decide) rfl ⟨rfl, K1x, rfl, rRes.wk q1' (by rw [rTL_f z1x]; exact v1x)⟩
    | true =>
      refine e_iload rfl rfl ?_
      refine e_ifeq_f rfl (by decide) ?_
      refine e_iload rfl rfl ?_
      refine e_ipush rfl ?_
      refine e_cge_f rfl (by intro q; have := (nI_lei (a := 400) (by decide) (by omega)).mp q; omega) ?_
      refine e_aload rfl rfl ?_
      refine e_iload rfl rfl ?_
      refine Eg.c2 rfl (by decide) (by decide) rfl (Nat.le_of_ble_eq_true rfl) (xrcv_of rfl hA.1 rfl) (((hF _ d st hd hr).mono (by omega))) (fun r1x h1x hq => ?_)
      obtain ⟨rfl, K1x, rfl, q1x, hc⟩ := hq
      rcases hc with ⟨e1x, c1x⟩ | v1x
      · have q1' := QFr.tr (QFr.rf) q1x
        have gG := rFact_G hn m st hr.1.tok e1x
        have hle := gG.le
        have hb1x : 2 * ((rFact B n m st).2.2.2.length + 1) ≤ 2 * (rFact B n m st).2.2.1 + (rFact B n m st).2.1 := gG.bd (j := 1) (by decide) hbd
        refine e_iload rfl rfl ?_
        refine e_ifeq_t rfl rfl ?_
        refine e_aload rfl rfl ?_
        refine e_getR rfl hA.1 hA.2.1 ?_
        refine Eg.p1 rfl (by decide) (by decide) rfl (Nat.le_of_ble_eq_true rfl) (xrcv_of rfl hT.1 rfl) (((cs_wordHere hT c1x.1).mono (by omega))) ?_
        refine e_ipush rfl ?_
        refine e_cne_b rfl (fun b50x => ?_) (fun b50x => ?_)
        · refine e_ipush rfl ?_
          refine e_istore rfl ?_
          refine e_iload rfl rfl ?_
          refine e_ifne_f rfl rfl ?_
          refine e_iload rfl rfl ?_
          refine e_ifeq_f rfl (by decide) ?_
          refine e_aload rfl rfl ?_
          refine e_getR rfl hA.1 hA.2.2.1 ?_
          refine e_ipush rfl ?_
          refine Eg.c2 rfl (by decide) (by decide) rfl (Nat.le_of_ble_eq_true rfl) (xrcv_of rfl hU.1 rfl) (((cs_raddA (j := 11) hA hU c1x (by omega) (by decide)).mono (by omega))) (fun r1x h1x hq => ?_)
          obtain ⟨rfl, K2x, rfl, c2x, q2x⟩ := hq
          have q2' := QFr.tr (q1') q2x
          have hb2x : 2 * ((adE 11 (rFact B n m st).2).2.2.length + 0) ≤ 2 * (adE 11 (rFact B n m st).2).2.1 + (adE 11 (rFact B n m st).2).1 := bdA (hb1x)
          refine e_aload rfl rfl ?_
          refine e_getR rfl hA.1 hA.2.1 ?_
          refine Eg.p1 rfl (by decide) (by decide) rfl (Nat.le_of_ble_eq_true rfl) (xrcv_of rfl hT.1 rfl) (((cs_wordHere hT c2x.1).mono (by omega))) ?_
          refine e_ipush rfl ?_
          refine e_cne_b rfl (fun b85x => ?_) (fun b85x => ?_)
          · refine e_ipush rfl ?_
            refine e_istore rfl ?_
            refine e_aload rfl rfl ?_
            refine e_getR rfl hA.1 hA.2.1 ?_
            refine e_getIv rfl hT.1 c2x.1.2.2.1 ?_
            refine e_ifne_f rfl rfl ?_
            refine e_iload rfl rfl ?_
            refine e_ifne_f rfl rfl ?_
            refine e_iload rfl rfl ?_
            refine e_ifeq_t rfl rfl ?_
            refine e_ipush rfl ?_
            refine e_istore rfl ?_
            refine e_iload rfl rfl ?_
            refine e_ifeq_t rfl rfl ?_
            refine e_iinc rfl rfl ?_
            refine e_goto rfl ?_
            refine e_iload rfl rfl ?_
            refine e_ifeq_t rfl rfl ?_
            exact Eg.ret rfl (by decide) rfl ⟨rfl, K2x, rfl, by rw [rTL_e e1x b50x b85x]; exact ⟨q2', Or.inl ⟨rfl, c2x⟩⟩⟩
          · refine e_ipush rfl ?_
            refine e_goto rfl ?_
            refine e_istore rfl ?_
            refine e_aload rfl rfl ?_
            refine e_getR rfl hA.1 hA.2.1 ?_
            refine e_getIv rfl hT.1 c2x.1.2.2.1 ?_
            refine e_ifne_f rfl rfl ?_
            refine e_iload rfl rfl ?_
            refine e_ifne_f rfl rfl ?_
            refine e_iload rfl rfl ?_
            refine e_ifeq_f rfl (by decide) ?_
            refine e_ipush rfl ?_
            refine e_goto rfl ?_
            refine e_istore rfl ?_
            refine e_iload rfl rfl ?_
            refine e_ifeq_f rfl (by decide) ?_
            refine e_aload rfl rfl ?_
            refine e_getR rfl hA.1 hA.2.1 ?_
            refine Eg.c1 rfl (by decide) (by decide) rfl (Nat.le_of_ble_eq_true rfl) (xrcv_of rfl hT.1 rfl) (((cs_step hT c2x.1).mono (by omega))) (fun r1x h1x hq => ?_)
            obtain ⟨rfl, G, rfl, g1x, g2x⟩ := hq
            refine e_iinc rfl rfl ?_
            refine e_goto rfl ?_
            refine Eg.pk [0, 1, 2, 3, 4, 5] [5, 4, 3, 2, 0, 1] rfl (by decide) ?_
            rw [nI_1]
            obtain ⟨n1x, n2x, n3x⟩ := nxt_w (B := B) (n := n) (p := (rFact B n m st).2.1) (w := 10) (by decide) b85x
            have cg : Cst G B n E ru (goN B n (adE 11 (rFact B n m st).2)) := c2x.go h9x g1x g2x
            have hg : 2 * ((goN B n (adE 11 (rFact B n m st).2)).2.2.length + 1) ≤ 2 * (goN B n (adE 11 (rFact B n m st).2)).2.1 + (goN B n (adE 11 (rFact B n m st).2)).1 := bdN hb2x n1x
            have l1x : (goN B n (adE 11 (rFact B n m st).2)).1 = nxt B n (rFact B n m st).2.1 := rfl
            refine (ih _ (by rw [← hN, l1x]; omega) k false true (i + 1) (goN B n (adE 11 (rFact B n m st).2)) G rfl (by rw [l1x]; omega) (by rw [l1x]; omega) hg cg).imp ?_
            rintro r h' ⟨rfl, T, rfl, t1x⟩
            exact ⟨rfl, T, rfl, by rw [rTL_o e1x b50x b85x]; exact rRes.tr (q2'.tr (QFr.of g2x)) t1x⟩
        · refine e_ipush rfl ?_
          refine e_goto rfl ?_
          refine e_istore rfl ?_
          refine e_iload rfl rfl ?_
          refine e_ifne_t rfl (by decide) ?_
          refine e_aload rfl rfl ?_
          refine e_getR rfl hA.1 hA.2.1 ?_
          refine e_getIv rfl hT.1 c1x.1.2.2.1 ?_
          refine e_ifne_f rfl rfl ?_
          refine e_iload rfl rfl ?_
          refine e_ifne_t rfl (by decide) ?_
          refine e_ipush rfl ?_
          refine e_goto rfl ?_
          refine e_istore rfl ?_
          refine e_iload rfl rfl ?_
          refine e_ifeq_f rfl (by decide) ?_
          refine e_aload rfl rfl ?_
          refine e_getR rfl hA.1 hA.2.1 ?_
          refine Eg.c1 rfl (by decide) (by decide) rfl (Nat.le_of_ble_eq_true rfl) (xrcv_of rfl hT.1 rfl) (((cs_step hT c1x.1).mono (by omega))) (fun r1x h1x hq => ?_)
          obtain ⟨rfl, G, rfl, g1x, g2x⟩ := hq
          refine e_iinc rfl rfl ?_
          refine e_goto rfl ?_
          refine Eg.pk [0, 1, 2, 3, 4, 5] [5, 4, 2, 0, 1, 3] rfl (by decide) ?_
          rw [nI_1]
          obtain ⟨n1x, n2x, n3x⟩ := nxt_w (B := B) (n := n) (p := (rFact B n m st).2.1) (w := 11) (by decide) b50x
          have cg : Cst G B n E ru (goN B n (rFact B n m st).2) := c1x.go h9x g1x g2x
          have hg : 2 * ((goN B n (rFact B n m st).2).2.2.length + 2) ≤ 2 * (goN B n (rFact B n m st).2).2.1 + (goN B n (rFact B n m st).2).1 := bdN hb1x n1x
          have l1x : (goN B n (rFact B n m st).2).1 = nxt B n (rFact B n m st).2.1 := rfl
          refine (ih _ (by rw [← hN, l1x]; omega) k true true (i + 1) (goN B n (rFact B n m st).2) G rfl (by rw [l1x]; omega) (by rw [l1x]; omega) hg cg).imp ?_
          rintro r h' ⟨rfl, T, rfl, t1x⟩
          exact ⟨rfl, T, rfl, by rw [rTL_a e1x b50x]; exact rRes.tr (q1'.tr (QFr.of g2x)) t1x⟩
      · obtain ⟨z1x, p1x, -, -, r1x, -⟩ := id v1x
        have q1' := QFr.tr (QFr.rf) q1x
        refine e_iload rfl rfl ?_
        refine e_ifeq_t rfl rfl ?_
        refine e_aload rfl rfl ?_
        refine e_getR rfl hA.1 hA.2.1 ?_
        refine Eg.p1 rfl (by decide) (by decide) rfl (Nat.le_of_ble_eq_true rfl) (xrcv_of rfl hT.1 rfl) (((cs_wordHere hT r1x).mono (by omega))) ?_
        refine e_ipush rfl ?_
        refine e_cne_b rfl (fun b50x => ?_) (fun b50x => ?_)
        · refine e_ipush rfl ?_
          refine e_istore rfl ?_
          refine e_iload rfl rfl ?_
          refine e_ifne_f rfl rfl ?_
          refine e_iload rfl rfl ?_
          refine e_ifeq_f rfl (by decide) ?_
          refine e_aload rfl rfl ?_
          refine e_getR rfl hA.1 hA.2.2.1 ?_
          refine e_ipush rfl ?_
          refine Eg.c2 rfl (by decide) (by decide) rfl (Nat.le_of_ble_eq_true rfl) (xrcv_of rfl hU.1 rfl) (((cs_raddW hA hU v1x).mono (by omega))) (fun r1x h1x hq => ?_)
          obtain ⟨rfl, K2x, rfl, v2x, k2x⟩ := hq
          replace k2x := QFr.tr (q1') k2x
          obtain ⟨-, p2x, -, -, r2x, -⟩ := id v2x
          refine e_aload rfl rfl ?_
          refine e_getR rfl hA.1 hA.2.1 ?_
          refine Eg.p1 rfl (by decide) (by decide) rfl (Nat.le_of_ble_eq_true rfl) (xrcv_of rfl hT.1 rfl) (((cs_wordHere hT r2x).mono (by omega))) ?_
          refine e_ipush rfl ?_
          refine e_cne_b rfl (fun b85x => ?_) (fun b85x => ?_)
          · refine e_ipush rfl ?_
            refine e_istore rfl ?_
            refine e_aload rfl rfl ?_
            refine e_getR rfl hA.1 hA.2.1 ?_
            refine e_getIv rfl hT.1 r2x.2.2.1 ?_
            refine e_ifne_t rfl z1x ?_
            refine e_ipush rfl ?_
            refine e_istore rfl ?_
            refine e_iload rfl rfl ?_
            refine e_ifeq_t rfl rfl ?_
            refine e_iinc rfl rfl ?_
            refine e_goto rfl ?_
            refine e_iload rfl rfl ?_
            refine e_ifeq_t rfl rfl ?_
            exact Eg.ret rfl (by decide) rfl ⟨rfl, K2x, rfl, rRes.wk k2x (by rw [rTL_f z1x]; exact v2x)⟩
          · refine e_ipush rfl ?_
            refine e_goto rfl ?_
            refine e_istore rfl ?_
            refine e_aload rfl rfl ?_
            refine e_getR rfl hA.1 hA.2.1 ?_
            refine e_getIv rfl hT.1 r2x.2.2.1 ?_
            refine e_ifne_t rfl z1x ?_
            refine e_ipush rfl ?_
            refine e_istore rfl ?_
            refine e_iload rfl rfl ?_
            refine e_ifeq_t rfl rfl ?_
            refine e_iinc rfl rfl ?_
            refine e_goto rfl ?_
            refine e_iload rfl rfl ?_
            refine e_ifeq_t rfl rfl ?_
            exact Eg.ret rfl (by decide) rfl ⟨rfl, K2x, rfl, rRes.wk k2x (by rw [rTL_f z1x]; exact v2x)⟩
        · refine e_ipush rfl ?_
          refine e_goto rfl ?_
          refine e_istore rfl ?_
          refine e_iload rfl rfl ?_
          refine e_ifne_t rfl (by decide) ?_
          refine e_aload rfl rfl ?_
          refine e_getR rfl hA.1 hA.2.1 ?_
          refine e_getIv rfl hT.1 r1x.2.2.1 ?_
          refine e_ifne_t rfl z1x ?_
          refine e_ipush rfl ?_
          refine e_istore rfl ?_
          refine e_iload rfl rfl ?_
          refine e_ifeq_t rfl rfl ?_
          refine e_iinc rfl rfl ?_
          refine e_goto rfl ?_
          refine e_iload rfl rfl ?_
          refine e_ifeq_t rfl rfl ?_
          exact Eg.ret rfl (by decide) rfl ⟨rfl, K1x, rfl, rRes.wk q1' (by rw [rTL_f z1x]; exact v1x)⟩
  | true =>
    cases o with
    | false =>
      refine e_iload rfl rfl ?_
      refine e_ifeq_f rfl (by decide) ?_
      refine e_iload rfl rfl ?_
      refine e_ipush rfl ?_
      refine e_cge_f rfl (by intro q; have := (nI_lei (a := 400) (by decide) (by omega)).mp q; omega) ?_
      refine e_aload rfl rfl ?_
      refine e_iload rfl rfl ?_
      refine Eg.c2 rfl (by decide) (by decide) rfl (Nat.le_of_ble_eq_true rfl) (xrcv_of rfl hA.1 rfl) (((hF _ d st hd hr).mono (by omega))) (fun r1x h1x hq => ?_)
      obtain ⟨rfl, K1x, rfl, q1x, hc⟩ := hq
      rcases hc with ⟨e1x, c1x⟩ | v1x
      · have q1' := QFr.tr (QFr.rf) q1x
        have gG := rFact_G hn m st hr.1.tok e1x
        have hle := gG.le
        have hb1x : 2 * ((rFact B n m st).2.2.2.length + 1) ≤ 2 * (rFact B n m st).2.2.1 + (rFact B n m st).2.1 := gG.bd (j := 1) (by decide) hbd
        refine e_iload rfl rfl ?_
        refine e_ifeq_f rfl (by decide) ?_
        refine e_aload rfl rfl ?_
        refine e_getR rfl hA.1 hA.2.2.1 ?_
        refine e_ipush rfl ?_
        refine Eg.c2 rfl (by decide) (by decide) rfl (Nat.le_of_ble_eq_true rfl) (xrcv_of rfl hU.1 rfl) (((cs_raddA (j := 10) hA hU c1x (by omega) (by decide)).mono (by omega))) (fun r1x h1x hq => ?_)
        obtain ⟨rfl, K2x, rfl, c2x, q2x⟩ := hq
        have q2' := QFr.tr (q1') q2x
        have hb2x : 2 * ((adE 10 (rFact B n m st).2).2.2.length + 0) ≤ 2 * (adE 10 (rFact B n m st).2).2.1 + (adE 10 (rFact B n m st).2).1 := bdA (hb1x)
        refine e_aload rfl rfl ?_
        refine e_getR rfl hA.1 hA.2.1 ?_
        refine Eg.p1 rfl (by decide) (by decide) rfl (Nat.le_of_ble_eq_true rfl) (xrcv_of rfl hT.1 rfl) (((cs_wordHere hT c2x.1).mono (by omega))) ?_
        refine e_ipush rfl ?_
        refine e_cne_b rfl (fun b50x => ?_) (fun b50x => ?_)
        · refine e_ipush rfl ?_
          refine e_istore rfl ?_
          refine e_iload rfl rfl ?_
          refine e_ifne_f rfl rfl ?_
          refine e_iload rfl rfl ?_
          refine e_ifeq_t rfl rfl ?_
          refine e_aload rfl rfl ?_
          refine e_getR rfl hA.1 hA.2.1 ?_
          refine Eg.p1 rfl (by decide) (by decide) rfl (Nat.le_of_ble_eq_true rfl) (xrcv_of rfl hT.1 rfl) (((cs_wordHere hT c2x.1).mono (by omega))) ?_
          refine e_ipush rfl ?_
          refine e_cne_b rfl (fun b85x => ?_) (fun b85x => ?_)
          · refine e_ipush rfl ?_
            refine e_istore rfl ?_
            refine e_aload rfl rfl ?_
            refine e_getR rfl hA.1 hA.2.1 ?_
            refine e_getIv rfl hT.1 c2x.1.2.2.1 ?_
            refine e_ifne_f rfl rfl ?_
            refine e_iload rfl rfl ?_
            refine e_ifne_f rfl rfl ?_
            refine e_iload rfl rfl ?_
            refine e_ifeq_t rfl rfl ?_
            refine e_ipush rfl ?_
            refine e_istore rfl ?_
            refine e_iload rfl rfl ?_
            refine e_ifeq_t rfl rfl ?_
            refine e_iinc rfl rfl ?_
            refine e_goto rfl ?_
            refine e_iload rfl rfl ?_
            refine e_ifeq_t rfl rfl ?_
            exact Eg.ret rfl (by decide) rfl ⟨rfl, K2x, rfl, by rw [rTL_e e1x b50x b85x]; exact ⟨q2', Or.inl ⟨rfl, c2x⟩⟩⟩
          · refine e_ipush rfl ?_
            refine e_goto rfl ?_
            refine e_istore rfl ?_
            refine e_aload rfl rfl ?_
            refine e_getR rfl hA.1 hA.2.1 ?_
            refine e_getIv rfl hT.1 c2x.1.2.2.1 ?_
            refine e_ifne_f rfl rfl ?_
            refine e_iload rfl rfl ?_
            refine e_ifne_f rfl rfl ?_
            refine e_iload rfl rfl ?_
            refine e_ifeq_f rfl (by decide) ?_
            refine e_ipush rfl ?_
            refine e_goto rfl ?_
            refine e_istore rfl ?_
            refine e_iload rfl rfl ?_
            refine e_ifeq_f rfl (by decide) ?_
            refine e_aload rfl rfl ?_
            refine e_getR rfl hA.1 hA.2.1 ?_
            refine Eg.c1 rfl (by decide) (by decide) rfl (Nat.le_of_ble_eq_true rfl) (xrcv_of rfl hT.1 rfl) (((cs_step hT c2x.1).mono (by omega))) (fun r1x h1x hq => ?_)
            obtain ⟨rfl, G, rfl, g1x, g2x⟩ := hq
            refine e_iinc rfl rfl ?_
            refine e_goto rfl ?_
            refine Eg.pk [0, 1, 2, 3, 4, 5] [5, 4, 3, 2, 0, 1] rfl (by decide) ?_
            rw [nI_1]
            obtain ⟨n1x, n2x, n3x⟩ := nxt_w (B := B) (n := n) (p := (rFact B n m st).2.1) (w := 10) (by decide) b85x
            have cg : Cst G B n E ru (goN B n (adE 10 (rFact B n m st).2)) := c2x.go h9x g1x g2x
            have hg : 2 * ((goN B n (adE 10 (rFact B n m st).2)).2.2.length + 1) ≤ 2 * (goN B n (adE 10 (rFact B n m st).2)).2.1 + (goN B n (adE 10 (rFact B n m st).2)).1 := bdN hb2x n1x
            have l1x : (goN B n (adE 10 (rFact B n m st).2)).1 = nxt B n (rFact B n m st).2.1 := rfl
            refine (ih _ (by rw [← hN, l1x]; omega) k false true (i + 1) (goN B n (adE 10 (rFact B n m st).2)) G rfl (by rw [l1x]; omega) (by rw [l1x]; omega) hg cg).imp ?_
            rintro r h' ⟨rfl, T, rfl, t1x⟩
            exact ⟨rfl, T, rfl, by rw [rTL_o e1x b50x b85x]; exact rRes.tr (q2'.tr (QFr.of g2x)) t1x⟩
        · refine e_ipush rfl ?_
          refine e_goto rfl ?_
          refine e_istore rfl ?_
          refine e_iload rfl rfl ?_
          refine e_ifne_t rfl (by decide) ?_
          refine e_aload rfl rfl ?_
          refine e_getR rfl hA.1 hA.2.1 ?_
          refine e_getIv rfl hT.1 c2x.1.2.2.1 ?_
          refine e_ifne_f rfl rfl ?_
          refine e_iload rfl rfl ?_
          refine e_ifne_t rfl (by decide) ?_
          refine e_ipush rfl ?_
          refine e_goto rfl ?_
          refine e_istore rfl ?_
          refine e_iload rfl rfl ?_
          refine e_ifeq_f rfl (by decide) ?_
          refine e_aload rfl rfl ?_
          refine e_getR rfl hA.1 hA.2.1 ?_
          refine Eg.c1 rfl (by decide) (by decide) rfl (Nat.le_of_ble_eq_true rfl) (xrcv_of rfl hT.1 rfl) (((cs_step hT c2x.1).mono (by omega))) (fun r1x h1x hq => ?_)
          obtain ⟨rfl, G, rfl, g1x, g2x⟩ := hq
          refine e_iinc rfl rfl ?_
          refine e_goto rfl ?_
          refine Eg.pk [0, 1, 2, 3, 4, 5] [5, 4, 2, 0, 1, 3] rfl (by decide) ?_
          rw [nI_1]
          obtain ⟨n1x, n2x, n3x⟩ := nxt_w (B := B) (n := n) (p := (rFact B n m st).2.1) (w := 11) (by decide) b50x
          have cg : Cst G B n E ru (goN B n (adE 10 (rFact B n m st).2)) := c2x.go h9x g1x g2x
          have hg : 2 * ((goN B n (adE 10 (rFact B n m st).2)).2.2.length + 1) ≤ 2 * (goN B n (adE 10 (rFact B n m st).2)).2.1 + (goN B n (adE 10 (rFact B n m st).2)).1 := bdN hb2x n1x
          have l1x : (goN B n (adE 10 (rFact B n m st).2)).1 = nxt B n (rFact B n m st).2.1 := rfl
          refine (ih _ (by rw [← hN, l1x]; omega) k true false (i + 1) (goN B n (adE 10 (rFact B n m st).2)) G rfl (by rw [l1x]; omega) (by rw [l1x]; omega) hg cg).imp ?_
          rintro r h' ⟨rfl, T, rfl, t1x⟩
          exact ⟨rfl, T, rfl, by rw [rTL_a e1x b50x]; exact rRes.tr (q2'.tr (QFr.of g2x)) t1x⟩
      · obtain ⟨z1x, p1x, -, -, r1x, -⟩ := id v1x
        have q1' := QFr.tr (QFr.rf) q1x
        refine e_iload rfl rfl ?_
        refine e_ifeq_f rfl (by decide) ?_
        refine e_aload rfl rfl ?_
        refine e_getR rfl hA.1 hA.2.2.1 ?_
        refine e_ipush rfl ?_
        refine Eg.c2 rfl (by decide) (by decide) rfl (Nat.le_of_ble_eq_true rfl) (xrcv_of rfl hU.1 rfl) (((cs_raddW hA hU v1x).mono (by omega))) (fun r1x h1x hq => ?_)
        obtain ⟨rfl, K2x, rfl, v2x, k2x⟩ := hq
        replace k2x := QFr.tr (q1') k2x
        obtain ⟨-, p2x, -, -, r2x, -⟩ := id v2x
        refine e_aload rfl rfl ?_
        refine e_getR rfl hA.1 hA.2.1 ?_
        refine Eg.p1 rfl (by decide) (by decide) rfl (Nat.le_of_ble_eq_true rfl) (xrcv_of rfl hT.1 rfl) (((cs_wordHere hT r2x).mono (by omega))) ?_
        refine e_ipush rfl ?_
        refine e_cne_b rfl (fun b50x => ?_) (fun b50x => ?_)
        · refine e_ipush rfl ?_
          refine e_istore rfl ?_
          refine e_iload rfl rfl ?_
          refine e_ifne_f rfl rfl ?_
          refine e_iload rfl rfl ?_
          refine e_ifeq_t rfl rfl ?_
          refine e_aload rfl rfl ?_
          refine e_getR rfl hA.1 hA.2.1 ?_
          refine Eg.p1 rfl (by decide) (by decide) rfl (Nat.le_of_ble_eq_true rfl) (xrcv_of rfl hT.1 rfl) (((cs_wordHere hT r2x).mono (by omega))) ?_
          refine e_ipush rfl ?_
          refine e_cne_b rfl (fun b85x => ?_) (fun b85x => ?_)
          · refine e_ipush rfl ?_
            refine e_istore rfl ?_
            refine e_aload rfl rfl ?_
            refine e_getR rfl hA.1 hA.2.1 ?_
            refine e_getIv rfl hT.1 r2x.2.2.1 ?_
            refine e_ifne_t rfl z1x ?_
            refine e_ipush rfl ?_
            refine e_istore rfl ?_
            refine e_iload rfl rfl ?_
            refine e_ifeq_t rfl rfl ?_
            refine e_iinc rfl rfl ?_
            refine e_goto rfl ?_
            refine e_iload rfl rfl ?_
            refine e_ifeq_t rfl rfl ?_
            exact Eg.ret rfl (by decide) rfl ⟨rfl, K2x, rfl, rRes.wk k2x (by rw [rTL_f z1x]; exact v2x)⟩
          · refine e_ipush rfl ?_
            refine e_goto rfl ?_
            refine e_istore rfl ?_
            refine e_aload rfl rfl ?_
            refine e_getR rfl hA.1 hA.2.1 ?_
            refine e_getIv rfl hT.1 r2x.2.2.1 ?_
            refine e_ifne_t rfl z1x ?_
            refine e_ipush rfl ?_
            refine e_istore rfl ?_
            refine e_iload rfl rfl ?_
            refine e_ifeq_t rfl rfl ?_
            refine e_iinc rfl rfl ?_
            refine e_goto rfl ?_
            refine e_iload rfl rfl ?_
            refine e_ifeq_t rfl rfl ?_
            exact Eg.ret rfl (by decide) rfl ⟨rfl, K2x, rfl, rRes.wk k2x (by rw [rTL_f z1x]; exact v2x)⟩
        · refine e_ipush rfl ?_
          refine e_goto rfl ?_
          refine e_istore rfl ?_
          refine e_iload rfl rfl ?_
          refine e_ifne_t rfl (by decide) ?_
          refine e_aload rfl rfl ?_
          refine e_getR rfl hA.1 hA.2.1 ?_
          refine e_getIv rfl hT.1 r2x.2.2.1 ?_
          refine e_ifne_t rfl z1x ?_
          refine e_ipush rfl ?_
          refine e_istore rfl ?_
          refine e_iload rfl rfl ?_
          refine e_ifeq_t rfl rfl ?_
          refine e_iinc rfl rfl ?_
          refine e_goto rfl ?_
          refine e_iload rfl rfl ?_
          refine e_ifeq_t rfl rfl ?_
          exact Eg.ret rfl (by decide) rfl ⟨rfl, K2x, rfl, rRes.wk k2x (by rw [rTL_f z1x]; exact v2x)⟩
    | true =>
      refine e_iload rfl rfl ?_
      refine e_ifeq_f rfl (by decide) ?_
      refine e_iload rfl rfl ?_
      refine e_ipush rfl ?_
      refine e_cge_f rfl (by intro q; have := (nI_lei (a := 400) (by decide) (by omega)).mp q; omega) ?_
      refine e_aload rfl rfl ?_
      refine e_iload rfl rfl ?_
      refine Eg.c2 rfl (by decide) (by decide) rfl (Nat.le_of_ble_eq_true rfl) (xrcv_of rfl hA.1 rfl) (((hF _ d st hd hr).mono (by omega))) (fun r1x h1x hq => ?_)
      obtain ⟨rfl, K1x, rfl, q1x, hc⟩ := hq
      rcases hc with ⟨e1x, c1x⟩ | v1x
      · have q1' := QFr.tr (QFr.rf) q1x
        have gG := rFact_G hn m st hr.1.tok e1x
        have hle := gG.le
        have hb1x : 2 * ((rFact B n m st).2.2.2.length + 2) ≤ 2 * (rFact B n m st).2.2.1 + (rFact B n m st).2.1 := gG.bd (j := 2) (by decide) hbd
        refine e_iload rfl rfl ?_
        refine e_ifeq_f rfl (by decide) ?_
        refine e_aload rfl rfl ?_
        refine e_getR rfl hA.1 hA.2.2.1 ?_
        refine e_ipush rfl ?_
        refine Eg.c2 rfl (by decide) (by decide) rfl (Nat.le_of_ble_eq_true rfl) (xrcv_of rfl hU.1 rfl) (((cs_raddA (j := 10) hA hU c1x (by omega) (by decide)).mono (by omega))) (fun r1x h1x hq => ?_)
        obtain ⟨rfl, K2x, rfl, c2x, q2x⟩ := hq
        have q2' := QFr.tr (q1') q2x
        have hb2x : 2 * ((adE 10 (rFact B n m st).2).2.2.length + 1) ≤ 2 * (adE 10 (rFact B n m st).2).2.1 + (adE 10 (rFact B n m st).2).1 := bdA (hb1x)
        refine e_aload rfl rfl ?_
        refine e_getR rfl hA.1 hA.2.1 ?_
        refine Eg.p1 rfl (by decide) (by decide) rfl (Nat.le_of_ble_eq_true rfl) (xrcv_of rfl hT.1 rfl) (((cs_wordHere hT c2x.1).mono (by omega))) ?_
        refine e_ipush rfl ?_
        refine e_cne_b rfl (fun b50x => ?_) (fun b50x => ?_)
        · refine e_ipush rfl ?_
          refine e_istore rfl ?_
          refine e_iload rfl rfl ?_
          refine e_ifne_f rfl rfl ?_
          refine e_iload rfl rfl ?_
          refine e_ifeq_f rfl (by decide) ?_
          refine e_aload rfl rfl ?_
          refine e_getR rfl hA.1 hA.2.2.1 ?_
          refine e_ipush rfl ?_
          refine Eg.c2 rfl (by decide) (by decide) rfl (Nat.le_of_ble_eq_true rfl) (xrcv_of rfl hU.1 rfl) (((cs_raddA (j := 11) hA hU c2x (by omega) (by decide)).mono (by omega))) (fun r1x h1x hq => ?_)
          obtain ⟨rfl, K3x, rfl, c3x, q3x⟩ := hq
          have q3' := QFr.tr (q2') q3x
          have hb3x : 2 * ((adE 11 (adE 10 (rFact B n m st).2)).2.2.length + 0) ≤ 2 * (adE 11 (adE 10 (rFact B n m st).2)).2.1 + (adE 11 (adE 10 (rFact B n m st).2)).1 := bdA (hb2x)
          refine e_aload rfl rfl ?_
          refine e_getR rfl hA.1 hA.2.1 ?_
          refine Eg.p1 rfl (by decide) (by decide) rfl (Nat.le_of_ble_eq_true rfl) (xrcv_of rfl hT.1 rfl) (((cs_wordHere hT c3x.1).mono (by omega))) ?_
          refine e_ipush rfl ?_
          refine e_cne_b rfl (fun b85x => ?_) (fun b85x => ?_)
          · refine e_ipush rfl ?_
            refine e_istore rfl ?_
            refine e_aload rfl rfl ?_
            refine e_getR rfl hA.1 hA.2.1 ?_
            refine e_getIv rfl hT.1 c3x.1.2.2.1 ?_
            refine e_ifne_f rfl rfl ?_
            refine e_iload rfl rfl ?_
            refine e_ifne_f rfl rfl ?_
            refine e_iload rfl rfl ?_
            refine e_ifeq_t rfl rfl ?_
            refine e_ipush rfl ?_
            refine e_istore rfl ?_
            refine e_iload rfl rfl ?_
            refine e_ifeq_t rfl rfl ?_
            refine e_iinc rfl rfl ?_
            refine e_goto rfl ?_
            refine e_iload rfl rfl ?_
            refine e_ifeq_t rfl rfl ?_
            exact Eg.ret rfl (by decide) rfl ⟨rfl, K3x, rfl, by rw [rTL_e e1x b50x b85x]; exact ⟨q3', Or.inl ⟨rfl, c3x⟩⟩⟩
          · refine e_ipush rfl ?_
            refine e_goto rfl ?_
            refine e_istore rfl ?_
            refine e_aload rfl rfl ?_
            refine e_getR rfl hA.1 hA.2.1 ?_
            refine e_getIv rfl hT.1 c3x.1.2.2.1 ?_
            refine e_ifne_f rfl rfl ?_
            refine e_iload rfl rfl ?_
            refine e_ifne_f rfl rfl ?_
            refine e_iload rfl rfl ?_
            refine e_ifeq_f rfl (by decide) ?_
            refine e_ipush rfl ?_
            refine e_goto rfl ?_
            refine e_istore rfl ?_
            refine e_iload rfl rfl ?_
            refine e_ifeq_f rfl (by decide) ?_
            refine e_aload rfl rfl ?_
            refine e_getR rfl hA.1 hA.2.1 ?_
            refine Eg.c1 rfl (by decide) (by decide) rfl (Nat.le_of_ble_eq_true rfl) (xrcv_of rfl hT.1 rfl) (((cs_step hT c3x.1).mono (by omega))) (fun r1x h1x hq => ?_)
            obtain ⟨rfl, G, rfl, g1x, g2x⟩ := hq
            refine e_iinc rfl rfl ?_
            refine e_goto rfl ?_
            refine Eg.pk [0, 1, 2, 3, 4, 5] [5, 4, 3, 2, 0, 1] rfl (by decide) ?_
            rw [nI_1]
            obtain ⟨n1x, n2x, n3x⟩ := nxt_w (B := B) (n := n) (p := (rFact B n m st).2.1) (w := 10) (by decide) b85x
            have cg : Cst G B n E ru (goN B n (adE 11 (adE 10 (rFact B n m st).2))) := c3x.go h9x g1x g2x
            have hg : 2 * ((goN B n (adE 11 (adE 10 (rFact B n m st).2))).2.2.length + 1) ≤ 2 * (goN B n (adE 11 (adE 10 (rFact B n m st).2))).2.1 + (goN B n (adE 11 (adE 10 (rFact B n m st).2))).1 := bdN hb3x n1x
            have l1x : (goN B n (adE 11 (adE 10 (rFact B n m st).2))).1 = nxt B n (rFact B n m st).2.1 := rfl
            refine (ih _ (by rw [← hN, l1x]; omega) k false true (i + 1) (goN B n (adE 11 (adE 10 (rFact B n m st).2))) G rfl (by rw [l1x]; omega) (by rw [l1x]; omega) hg cg).imp ?_
            rintro r h' ⟨rfl, T, rfl, t1x⟩
            exact ⟨rfl, T, rfl, by rw [rTL_o e1x b50x b85x]; exact rRes.tr (q3'.tr (QFr.of g2x)) t1x⟩
        · refine e_ipush rfl ?_
          refine e_goto rfl ?_
          refine e_istore rfl ?_
          refine e_iload rfl rfl ?_
          refine e_ifne_t rfl (by decide) ?_
          refine e_aload rfl rfl ?_
          refine e_getR rfl hA.1 hA.2.1 ?_
          refine e_getIv rfl hT.1 c2x.1.2.2.1 ?_
          refine e_ifne_f rfl rfl ?_
          refine e_iload rfl rfl ?_
          refine e_ifne_t rfl (by decide) ?_
          refine e_ipush rfl ?_
          refine e_goto rfl ?_
          refine e_istore rfl ?_
          refine e_iload rfl rfl ?_
          refine e_ifeq_f rfl (by decide) ?_
          refine e_aload rfl rfl ?_
          refine e_getR rfl hA.1 hA.2.1 ?_
          refine Eg.c1 rfl (by decide) (by decide) rfl (Nat.le_of_ble_eq_true rfl) (xrcv_of rfl hT.1 rfl) (((cs_step hT c2x.1).mono (by omega))) (fun r1x h1x hq => ?_)
          obtain ⟨rfl, G, rfl, g1x, g2x⟩ := hq
          refine e_iinc rfl rfl ?_
          refine e_goto rfl ?_
          refine Eg.pk [0, 1, 2, 3, 4, 5] [5, 4, 2, 0, 1, 3] rfl (by decide) ?_
          rw [nI_1]
          obtain ⟨n1x, n2x, n3x⟩ := nxt_w (B := B) (n := n) (p := (rFact B n m st).2.1) (w := 11) (by decide) b50x
          have cg : Cst G B n E ru (goN B n (adE 10 (rFact B n m st).2)) := c2x.go h9x g1x g2x
          have hg : 2 * ((goN B n (adE 10 (rFact B n m st).2)).2.2.length + 2) ≤ 2 * (goN B n (adE 10 (rFact B n m st).2)).2.1 + (goN B n (adE 10 (rFact B n m st).2)).1 := bdN hb2x n1x
          have l1x : (goN B n (adE 10 (rFact B n m st).2)).1 = nxt B n (rFact B n m st).2.1 := rfl
          refine (ih _ (by rw [← hN, l1x]; omega) k true true (i + 1) (goN B n (adE 10 (rFact B n m st).2)) G rfl (by rw [l1x]; omega) (by rw [l1x]; omega) hg cg).imp ?_
          rintro r h' ⟨rfl, T, rfl, t1x⟩
          exact ⟨rfl, T, rfl, by rw [rTL_a e1x b50x]; exact rRes.tr (q2'.tr (QFr.of g2x)) t1x⟩
      · obtain ⟨z1x, p1x, -, -, r1x, -⟩ := id v1x
        have q1' := QFr.tr (QFr.rf) q1x
        refine e_iload rfl rfl ?_
        refine e_ifeq_f rfl (by decide) ?_
        refine e_aload rfl rfl ?_
        refine e_getR rfl hA.1 hA.2.2.1 ?_
        refine e_ipush rfl ?_
        refine Eg.c2 rfl (by decide) (by decide) rfl (Nat.le_of_ble_eq_true rfl) (xrcv_of rfl hU.1 rfl) (((cs_raddW hA hU v1x).mono (by omega))) (fun r1x h1x hq => ?_)
        obtain ⟨rfl, K2x, rfl, v2x, k2x⟩ := hq
        replace k2x := QFr.tr (q1') k2x
        obtain ⟨-, p2x, -, -, r2x, -⟩ := id v2x
        refine e_aload rfl rfl ?_
        refine e_getR rfl hA.1 hA.2.1 ?_
        refine Eg.p1 rfl (by decide) (by decide) rfl (Nat.le_of_ble_eq_true rfl) (xrcv_of rfl hT.1 rfl) (((cs_wordHere hT r2x).mono (by omega))) ?_
        refine e_ipush rfl ?_
        refine e_cne_b rfl (fun b50x => ?_) (fun b50x => ?_)
        · refine e_ipush rfl ?_
          refine e_istore rfl ?_
          refine e_iload rfl rfl ?_
          refine e_ifne_f rfl rfl ?_
          refine e_iload rfl rfl ?_
          refine e_ifeq_f rfl (by decide) ?_
          refine e_aload rfl rfl ?_
          refine e_getR rfl hA.1 hA.2.2.1 ?_
          refine e_ipush rfl ?_
          refine Eg.c2 rfl (by decide) (by decide) rfl (Nat.le_of_ble_eq_true rfl) (xrcv_of rfl hU.1 rfl) (((cs_raddW hA hU v2x).mono (by omega))) (fun r1x h1x hq => ?_)
          obtain ⟨rfl, K3x, rfl, v3x, k3x⟩ := hq
          replace k3x := QFr.tr (k2x) k3x
          obtain ⟨-, p3x, -, -, r3x, -⟩ := id v3x
          refine e_aload rfl rfl ?_
          refine e_getR rfl hA.1 hA.2.1 ?_
          refine Eg.p1 rfl (by decide) (by decide) rfl (Nat.le_of_ble_eq_true rfl) (xrcv_of rfl hT.1 rfl) (((cs_wordHere hT r3x).mono (by omega))) ?_
          refine e_ipush rfl ?_
          refine e_cne_b rfl (fun b85x => ?_) (fun b85x => ?_)
          · refine e_ipush rfl ?_
            refine e_istore rfl ?_
            refine e_aload rfl rfl ?_
            refine e_getR rfl hA.1 hA.2.1 ?_
            refine e_getIv rfl hT.1 r3x.2.2.1 ?_
            refine e_ifne_t rfl z1x ?_
            refine e_ipush rfl ?_
            refine e_istore rfl ?_
            refine e_iload rfl rfl ?_
            refine e_ifeq_t rfl rfl ?_
            refine e_iinc rfl rfl ?_
            refine e_goto rfl ?_
            refine e_iload rfl rfl ?_
            refine e_ifeq_t rfl rfl ?_
            exact Eg.ret rfl (by decide) rfl ⟨rfl, K3x, rfl, rRes.wk k3x (by rw [rTL_f z1x]; exact v3x)⟩
          · refine e_ipush rfl ?_
            refine e_goto rfl ?_
            refine e_istore rfl ?_
            refine e_aload rfl rfl ?_
            refine e_getR rfl hA.1 hA.2.1 ?_
            refine e_getIv rfl hT.1 r3x.2.2.1 ?_
            refine e_ifne_t rfl z1x ?_
            refine e_ipush rfl ?_
            refine e_istore rfl ?_
            refine e_iload rfl rfl ?_
            refine e_ifeq_t rfl rfl ?_
            refine e_iinc rfl rfl ?_
            refine e_goto rfl ?_
            refine e_iload rfl rfl ?_
            refine e_ifeq_t rfl rfl ?_
            exact Eg.ret rfl (by decide) rfl ⟨rfl, K3x, rfl, rRes.wk k3x (by rw [rTL_f z1x]; exact v3x)⟩
        · refine e_ipush rfl ?_
          refine e_goto rfl ?_
          refine e_istore rfl ?_
          refine e_iload rfl rfl ?_
          refine e_ifne_t rfl (by decide) ?_
          refine e_aload rfl rfl ?_
          refine e_getR rfl hA.1 hA.2.1 ?_
          refine e_getIv rfl hT.1 r2x.2.2.1 ?_
          refine e_ifne_t rfl z1x ?_
          refine e_ipush rfl ?_
          refine e_istore rfl ?_
          refine e_iload rfl rfl ?_
          refine e_ifeq_t rfl rfl ?_
          refine e_iinc rfl rfl ?_
          refine e_goto rfl ?_
          refine e_iload rfl rfl ?_
          refine e_ifeq_t rfl rfl ?_
          exact Eg.ret rfl (by decide) rfl ⟨rfl, K2x, rfl, rRes.wk k2x (by rw [rTL_f z1x]; exact v2x)⟩
theorem cs_readTest (hT : TpAt sh R) (hA : RRAt sh R ru) (hU : RuAt sh R ru) {m : Nat} (hF : (∀ (I : Nat → Nat → Int32) (d : Nat) (st : rS), d + m = 10 → Cst I B n E ru st → Ec X (2 * m + 3 + 1) 74 [.ref 7, .int (nI d)] (sh, I, L, R) (fun r h' => r = none ∧ ∃ J : Nat → Nat → Int32, h' = (sh, J, L, R) ∧ rRes I J B n E ru (rFact B n m st)))) : (∀ (I : Nat → Nat → Int32) (d : Nat) (st : rS), d + m = 10 → Cst I B n E ru st → Ec X (2 * m + 4 + 1) 73 [.ref 7, .int (nI d)] (sh, I, L, R) (fun r h' => r = none ∧ ∃ J : Nat → Nat → Int32, h' = (sh, J, L, R) ∧ rRes I J B n E ru (rTest B n m st))) := by
  intro I d st hd hr
  obtain ⟨hp, hn⟩ := hr.le
  have hbd := hr.2.2.2.2.1
  refine Ec.of (Nat.le_of_ble_eq_true rfl) ?_
  refine e_ipush rfl ?_
  refine e_istore rfl ?_
  refine e_ipush rfl ?_
  refine e_istore rfl ?_
  refine e_ipush rfl ?_
  refine e_istore rfl ?_
  refine e_ipush rfl ?_
  refine e_istore rfl ?_
  refine Eg.pk [0, 1, 2, 3, 4, 5] [5, 4, 3, 2, 0, 1] rfl (by decide) ?_
  exact cs_testLoop hT hA hU hd hF _ 401 false false 0 st I rfl (by omega) (by omega) hbd hr
end CR5x
