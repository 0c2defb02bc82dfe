/-! the first state, looked up -/
section IN
def cs_0 : List (Nat × Nat) := [(11, 13), (9, 8), (20, 400), (20, 401), (20, 401), (20, 401), (8, 3), (6, 3), (24, 6), (7, 20), (20, 3), (20, 3), (20, 3), (20, 3), (20, 60), (20, 12), (20, 8), (20, 8), (20, 8), (20, 4), (20, 4), (20, 4), (7, 20), (20, 3), (20, 3), (20, 3), (20, 3), (20, 60), (20, 12), (20, 8), (20, 8), (20, 8), (20, 4), (20, 4), (20, 4), (10, 12), (26, 20), (20, 10), (20, 10), (20, 10), (20, 10), (20, 10), (2, 5), (20, 6), (20, 6), (20, 6), (20, 64), (3, 12), (20, 4), (20, 4), (20, 4), (20, 4), (20, 8), (20, 8), (20, 8), (20, 8), (3, 12), (20, 4), (20, 4), (20, 4), (20, 4), (20, 8), (20, 8), (20, 8), (20, 8), (3, 12), (20, 4), (20, 4), (20, 4), (20, 4), (20, 8), (20, 8), (20, 8), (20, 8), (3, 12), (20, 4), (20, 4), (20, 4), (20, 4), (20, 8), (20, 8), (20, 8), (20, 8), (3, 12), (20, 4), (20, 4), (20, 4), (20, 4), (20, 8), (20, 8), (20, 8), (20, 8), (3, 12), (20, 4), (20, 4), (20, 4), (20, 4), (20, 8), (20, 8), (20, 8), (20, 8), (3, 12), (20, 4), (20, 4), (20, 4), (20, 4), (20, 8), (20, 8), (20, 8), (20, 8), (3, 12), (20, 4), (20, 4), (20, 4), (20, 4), (20, 8), (20, 8), (20, 8), (20, 8), (3, 12), (20, 4), (20, 4), (20, 4), (20, 4), (20, 8), (20, 8), (20, 8), (20, 8), (3, 12), (20, 4), (20, 4), (20, 4), (20, 4), (20, 8), (20, 8), (20, 8), (20, 8), (3, 12), (20, 4), (20, 4), (20, 4), (20, 4), (20, 8), (20, 8), (20, 8), (20, 8), (3, 12), (20, 4), (20, 4), (20, 4), (20, 4), (20, 8), (20, 8), (20, 8), (20, 8), (3, 12), (20, 4), (20, 4), (20, 4), (20, 4), (20, 8), (20, 8), (20, 8), (20, 8), (3, 12), (20, 4), (20, 4), (20, 4), (20, 4), (20, 8), (20, 8), (20, 8), (20, 8), (3, 12), (20, 4), (20, 4), (20, 4), (20, 4), (20, 8), (20, 8), (20, 8), (20, 8), (3, 12), (20, 4), (20, 4), (20, 4), (20, 4), (20, 8), (20, 8), (20, 8), (20, 8), (3, 12), (20, 4), (20, 4), (20, 4), (20, 4), (20, 8), (20, 8), (20, 8), (20, 8), (3, 12), (20, 4), (20, 4), (20, 4), (20, 4), (20, 8), (20, 8), (20, 8), (20, 8), (3, 12), (20, 4), (20, 4), (20, 4), (20, 4), (20, 8), (20, 8), (20, 8), (20, 8), (3, 12), (20, 4), (20, 4), (20, 4), (20, 4), (20, 8), (20, 8), (20, 8), (20, 8), (3, 12), (20, 4), (20, 4), (20, 4), (20, 4), (20, 8), (20, 8), (20, 8), (20, 8), (25, 4), (0, 9), (21, 64), (21, 22), (20, 4), (3, 12), (20, 4), (20, 4), (20, 4), (20, 4), (20, 8), (20, 8), (20, 8), (20, 8), (4, 10), (20, 12), (20, 12), (20, 12), (20, 12), (20, 12), (20, 372), (20, 372), (1, 4), (20, 4), (5, 6), (20, 400), (20, 12), (20, 12), (20, 12), (5, 6), (20, 400), (20, 12), (20, 12), (20, 12), (5, 6), (20, 400), (20, 12), (20, 12), (20, 12), (5, 6), (20, 400), (20, 12), (20, 12), (20, 12), (5, 6), (20, 400), (20, 12), (20, 12), (20, 12), (5, 6), (20, 400), (20, 12), (20, 12), (20, 12), (12, 88), (20, 14), (20, 12), (20, 3), (20, 3), (20, 3), (20, 60), (20, 4), (20, 4), (20, 4), (20, 4), (20, 4), (20, 4), (20, 4), (20, 4), (20, 4), (20, 4), (20, 4), (20, 4), (20, 4), (20, 8), (20, 8), (20, 8), (20, 8), (20, 10), (20, 10), (20, 10), (20, 10), (20, 10), (20, 6), (20, 6), (20, 6), (20, 7), (20, 12), (20, 3), (20, 3), (20, 3), (20, 60), (20, 4), (20, 4), (20, 4), (20, 4), (20, 4), (20, 4), (20, 4), (20, 4), (20, 4), (23, 400), (20, 1800), (20, 1800), (20, 6), (20, 72), (20, 72), (20, 72), (20, 402), (22, 72), (21, 11), (21, 300), (20, 1020), (20, 1), (20, 372), (20, 372), (20, 12), (20, 12), (20, 12), (20, 4), (20, 6), (20, 6), (20, 7000), (22, 4)]
theorem cr_sh : cr_m.1 = cs_0 := by decide +kernel
def cs_R : List (Nat × Nat × Nat) := [(0, 0, 1), (0, 1, 6), (0, 2, 7), (0, 3, 8), (0, 5, 9), (0, 6, 22), (0, 7, 35), (0, 8, 236), (0, 9, 237), (0, 10, 250), (0, 11, 258), (0, 12, 259), (1, 0, 2), (1, 3, 3), (1, 4, 4), (1, 5, 5), (6, 0, 1), (7, 0, 1), (8, 0, 260), (8, 1, 265), (8, 2, 270), (8, 3, 275), (8, 4, 280), (8, 5, 285), (9, 5, 10), (9, 6, 11), (9, 7, 12), (9, 8, 13), (9, 9, 14), (9, 10, 15), (9, 11, 16), (9, 12, 17), (9, 13, 18), (9, 14, 19), (9, 15, 20), (9, 16, 21), (22, 5, 23), (22, 6, 24), (22, 7, 25), (22, 8, 26), (22, 9, 27), (22, 10, 28), (22, 11, 29), (22, 12, 30), (22, 13, 31), (22, 14, 32), (22, 15, 33), (22, 16, 34), (35, 0, 47), (35, 1, 36), (35, 4, 37), (35, 5, 38), (35, 7, 39), (35, 8, 40), (35, 9, 41), (35, 10, 42), (36, 0, 56), (36, 1, 65), (36, 2, 74), (36, 3, 83), (36, 4, 92), (36, 5, 101), (36, 6, 110), (36, 7, 119), (36, 8, 128), (36, 9, 137), (36, 10, 146), (36, 11, 155), (36, 12, 164), (36, 13, 173), (36, 14, 182), (36, 15, 191), (36, 16, 200), (36, 17, 209), (36, 18, 218), (36, 19, 227), (42, 1, 43), (42, 2, 44), (42, 3, 45), (42, 4, 46), (47, 0, 9), (47, 3, 48), (47, 4, 49), (47, 5, 50), (47, 6, 51), (47, 8, 52), (47, 9, 53), (47, 10, 54), (47, 11, 55), (56, 0, 9), (56, 3, 57), (56, 4, 58), (56, 5, 59), (56, 6, 60), (56, 8, 61), (56, 9, 62), (56, 10, 63), (56, 11, 64), (65, 0, 9), (65, 3, 66), (65, 4, 67), (65, 5, 68), (65, 6, 69), (65, 8, 70), (65, 9, 71), (65, 10, 72), (65, 11, 73), (74, 0, 9), (74, 3, 75), (74, 4, 76), (74, 5, 77), (74, 6, 78), (74, 8, 79), (74, 9, 80), (74, 10, 81), (74, 11, 82), (83, 0, 9), (83, 3, 84), (83, 4, 85), (83, 5, 86), (83, 6, 87), (83, 8, 88), (83, 9, 89), (83, 10, 90), (83, 11, 91), (92, 0, 9), (92, 3, 93), (92, 4, 94), (92, 5, 95), (92, 6, 96), (92, 8, 97), (92, 9, 98), (92, 10, 99), (92, 11, 100), (101, 0, 9), (101, 3, 102), (101, 4, 103), (101, 5, 104), (101, 6, 105), (101, 8, 106), (101, 9, 107), (101, 10, 108), (101, 11, 109), (110, 0, 9), (110, 3, 111), (110, 4, 112), (110, 5, 113), (110, 6, 114), (110, 8, 115), (110, 9, 116), (110, 10, 117), (110, 11, 118), (119, 0, 9), (119, 3, 120), (119, 4, 121), (119, 5, 122), (119, 6, 123), (119, 8, 124), (119, 9, 125), (119, 10, 126), (119, 11, 127), (128, 0, 9), (128, 3, 129), (128, 4, 130), (128, 5, 131), (128, 6, 132), (128, 8, 133), (128, 9, 134), (128, 10, 135), (128, 11, 136), (137, 0, 9), (137, 3, 138), (137, 4, 139), (137, 5, 140), (137, 6, 141), (137, 8, 142), (137, 9, 143), (137, 10, 144), (137, 11, 145), (146, 0, 9), (146, 3, 147), (146, 4, 148), (146, 5, 149), (146, 6, 150), (146, 8, 151), (146, 9, 152), (146, 10, 153), (146, 11, 154), (155, 0, 9), (155, 3, 156), (155, 4, 157), (155, 5, 158), (155, 6, 159), (155, 8, 160), (155, 9, 161), (155, 10, 162), (155, 11, 163), (164, 0, 9), (164, 3, 165), (164, 4, 166), (164, 5, 167), (164, 6, 168), (164, 8, 169), (164, 9, 170), (164, 10, 171), (164, 11, 172), (173, 0, 9), (173, 3, 174), (173, 4, 175), (173, 5, 176), (173, 6, 177), (173, 8, 178), (173, 9, 179), (173, 10, 180), (173, 11, 181), (182, 0, 9), (182, 3, 183), (182, 4, 184), (182, 5, 185), (182, 6, 186), (182, 8, 187), (182, 9, 188), (182, 10, 189), (182, 11, 190), (191, 0, 9), (191, 3, 192), (191, 4, 193), (191, 5, 194), (191, 6, 195), (191, 8, 196), (191, 9, 197), (191, 10, 198), (191, 11, 199), (200, 0, 9), (200, 3, 201), (200, 4, 202), (200, 5, 203), (200, 6, 204), (200, 8, 205), (200, 9, 206), (200, 10, 207), (200, 11, 208), (209, 0, 9), (209, 3, 210), (209, 4, 211), (209, 5, 212), (209, 6, 213), (209, 8, 214), (209, 9, 215), (209, 10, 216), (209, 11, 217), (218, 0, 9), (218, 3, 219), (218, 4, 220), (218, 5, 221), (218, 6, 222), (218, 8, 223), (218, 9, 224), (218, 10, 225), (218, 11, 226), (227, 0, 9), (227, 3, 228), (227, 4, 229), (227, 5, 230), (227, 6, 231), (227, 8, 232), (227, 9, 233), (227, 10, 234), (227, 11, 235), (237, 0, 238), (237, 1, 239), (237, 2, 240), (237, 3, 241), (241, 0, 9), (241, 3, 242), (241, 4, 243), (241, 5, 244), (241, 6, 245), (241, 8, 246), (241, 9, 247), (241, 10, 248), (241, 11, 249), (250, 3, 251), (250, 4, 252), (250, 5, 253), (250, 6, 254), (250, 7, 255), (250, 8, 256), (250, 9, 257), (260, 0, 261), (260, 3, 262), (260, 4, 263), (260, 5, 264), (265, 0, 266), (265, 3, 267), (265, 4, 268), (265, 5, 269), (270, 0, 271), (270, 3, 272), (270, 4, 273), (270, 5, 274), (275, 0, 276), (275, 3, 277), (275, 4, 278), (275, 5, 279), (280, 0, 281), (280, 3, 282), (280, 4, 283), (280, 5, 284), (285, 0, 286), (285, 3, 287), (285, 4, 288), (285, 5, 289), (290, 1, 291), (290, 2, 292), (290, 3, 293), (290, 4, 294), (290, 5, 295), (290, 6, 296), (290, 7, 297), (290, 8, 298), (290, 9, 299), (290, 10, 300), (290, 11, 301), (290, 12, 302), (290, 13, 303), (290, 14, 304), (290, 15, 305), (290, 16, 306), (290, 17, 307), (290, 18, 308), (290, 19, 309), (290, 20, 310), (290, 21, 311), (290, 22, 312), (290, 23, 313), (290, 24, 314), (290, 25, 315), (290, 26, 316), (290, 27, 317), (290, 28, 318), (290, 29, 319), (290, 30, 320), (290, 31, 321), (290, 32, 322), (290, 33, 323), (290, 34, 324), (290, 35, 325), (290, 36, 326), (290, 37, 327), (290, 38, 328), (290, 39, 329), (290, 40, 330), (290, 41, 331), (290, 42, 332), (290, 43, 333), (290, 44, 334), (290, 45, 335), (290, 46, 336), (290, 58, 337), (290, 59, 338), (290, 60, 339), (290, 61, 340), (290, 62, 341), (290, 63, 342), (290, 64, 343), (290, 65, 344), (290, 66, 345), (290, 67, 346), (290, 68, 347), (290, 69, 348), (290, 70, 349), (290, 74, 350), (290, 75, 351), (290, 76, 352), (290, 77, 353), (290, 78, 354), (290, 81, 355), (290, 82, 356), (290, 83, 357), (290, 84, 358), (290, 85, 359)]
theorem cr_R : cs_R.all (fun q => decide (cr_m.2.2.2 q.1 q.2.1 = some q.2.2)) = true := by decide +kernel

def csR (i k : Nat) : Option Nat := (cs_R.find? (fun q => q.1 == i && q.2.1 == k)).map (fun q => q.2.2)
theorem csR_ok {i k t : Nat} (h : csR i k = some t) : cr_m.2.2.2 i k = some t := by
  unfold csR at h
  cases e : cs_R.find? (fun q => q.1 == i && q.2.1 == k) with
  | none => rw [e] at h; exact absurd h (by simp)
  | some q =>
    rw [e] at h
    have h1x := List.find?_some e
    have h2x := List.mem_of_find?_eq_some e
    have h3x := of_decide_eq_true (List.all_eq_true.mp cr_R q h2x)
    rw [Bool.and_eq_true] at h1x
    have e1x : q.1 = i := eq_of_beq h1x.1
    have e2x : q.2.1 = k := eq_of_beq h1x.2
    have e3x : q.2.2 = t := Option.some.inj h
    rw [e1x, e2x, e3x] at h3x; exact h3x
theorem cs_ok {i : Nat} {q : Nat × Nat} (h : cs_0[i]? = some q) : cr_m.1[i]? = some q := by rw [cr_sh]; exact h
def fsB (fs : List (Nat × Nat × Nat)) (o b : Nat) : Bool := (List.range fs.length).all (fun j => match fs[j]? with
  | some q => decide (cs_0[b + j]? = some (q.2.1, q.2.2)) && decide (csR o q.1 = some (b + j))
  | none => true)
theorem fsB_ok {fs : List (Nat × Nat × Nat)} {o b : Nat} (h : fsB fs o b = true) : ∀ j q, fs[j]? = some q → cr_m.1[b + j]? = some (q.2.1, q.2.2) ∧ cr_m.2.2.2 o q.1 = some (b + j) := by
  intro j q hq
  have hj : j < fs.length := (List.getElem?_eq_some_iff.mp hq).1
  have z := rgA h hj
  rw [hq] at z
  have z2x := (Bool.and_eq_true _ _).mp z
  exact ⟨cs_ok (of_decide_eq_true z2x.1), csR_ok (of_decide_eq_true z2x.2)⟩
theorem in_mom : ∀ i, i < 20 → MomAt cr_m.1 cr_m.2.2.2 (35 + 21 + 9 * i) := by
  intro i hi
  have h : (List.range 20).all (fun i => decide (cs_0[35 + 21 + 9 * i]? = some (3, 12)) && fsB fs_mom (35 + 21 + 9 * i) (35 + 21 + 9 * i + 1)) = true := by decide +kernel
  have z := (Bool.and_eq_true _ _).mp (rgA h hi)
  exact ⟨cs_ok (of_decide_eq_true z.1), fsB_ok z.2⟩
theorem in_m47 : MomAt cr_m.1 cr_m.2.2.2 47 := ⟨cs_ok (by decide +kernel), fsB_ok (b := 48) (by decide +kernel)⟩
theorem in_m241 : MomAt cr_m.1 cr_m.2.2.2 241 := ⟨cs_ok (by decide +kernel), fsB_ok (b := 242) (by decide +kernel)⟩
theorem in_s9 : SeaAt cr_m.1 cr_m.2.2.2 9 := ⟨cs_ok (by decide +kernel), fsB_ok (b := 10) (by decide +kernel)⟩
theorem in_s22 : SeaAt cr_m.1 cr_m.2.2.2 22 := ⟨cs_ok (by decide +kernel), fsB_ok (b := 23) (by decide +kernel)⟩
theorem in_ru : ∀ r, r < 6 → cr_m.2.2.2 8 r = some (260 + 5 * r) ∧ RuAt cr_m.1 cr_m.2.2.2 (260 + 5 * r) := by
  intro r hr
  have h : (List.range 6).all (fun i => decide (csR 8 i = some (260 + 5 * i)) && (decide (cs_0[260 + 5 * i]? = some (5, 6)) && fsB fs_rule (260 + 5 * i) (260 + 5 * i + 1))) = true := by decide +kernel
  have z := (Bool.and_eq_true _ _).mp (rgA h hr)
  have z2x := (Bool.and_eq_true _ _).mp z.2
  exact ⟨csR_ok (of_decide_eq_true z.1), cs_ok (of_decide_eq_true z2x.1), fsB_ok z2x.2⟩
theorem in_mw : MW cr_m.1 cr_m.2.2.2 := by
  refine ⟨cs_ok (by decide +kernel), fun j q hq => ?_⟩
  have h : (List.range mTab.length).all (fun j => match mTab[j]? with
    | some q => decide (cs_0[q.2.1]? = some (q.2.2.1, q.2.2.2)) && decide (csR 290 q.1 = some q.2.1)
    | none => true) = true := by decide +kernel
  have hj : j < mTab.length := (List.getElem?_eq_some_iff.mp hq).1
  have z := rgA h hj
  rw [hq] at z
  have z2x := (Bool.and_eq_true _ _).mp z
  exact ⟨cs_ok (of_decide_eq_true z2x.1), csR_ok (of_decide_eq_true z2x.2)⟩
theorem in_past : ∀ i, i < 20 → cr_m.2.2.2 36 i = some (35 + 21 + 9 * i) := by
  intro i hi
  have h : (List.range 20).all (fun i => decide (csR 36 i = some (35 + 21 + 9 * i))) = true := by decide +kernel
  exact csR_ok (of_decide_eq_true (rgA h hi))
theorem in_236 : ∀ t, t < 4 → cr_m.2.2.2 236 t = none := by
  intro t ht
  have h : (List.range 4).all (fun t => decide (cr_m.2.2.2 236 t = none)) = true := by decide +kernel
  exact of_decide_eq_true (rgA h ht)
theorem in_ks : KS cr_m.1 cr_m.2.2.2 := ⟨cs_ok (by decide +kernel), ⟨csR_ok (by decide +kernel), csR_ok (by decide +kernel), csR_ok (by decide +kernel), csR_ok (by decide +kernel), csR_ok (by decide +kernel), csR_ok (by decide +kernel), csR_ok (by decide +kernel), csR_ok (by decide +kernel), csR_ok (by decide +kernel), csR_ok (by decide +kernel), csR_ok (by decide +kernel)⟩, ⟨cs_ok (by decide +kernel), cs_ok (by decide +kernel), cs_ok (by decide +kernel), cs_ok (by decide +kernel), cs_ok (by decide +kernel), csR_ok (by decide +kernel), csR_ok (by decide +kernel), csR_ok (by decide +kernel), csR_ok (by decide +kernel)⟩, ⟨cs_ok (by decide +kernel), csR_ok (by decide +kernel)⟩, ⟨cs_ok (by decide +kernel), csR_ok (by decide +kernel)⟩, ⟨cs_ok (by decide +kernel), in_ru⟩, cs_ok (by decide +kernel), ⟨cs_ok (by decide +kernel), cs_ok (by decide +kernel), cs_ok (by decide +kernel), cs_ok (by decide +kernel), csR_ok (by decide +kernel), csR_ok (by decide +kernel), csR_ok (by decide +kernel), csR_ok (by decide +kernel), in_m241⟩, cs_ok (by decide +kernel), cs_ok (by decide +kernel)⟩
theorem in_pa : PA cr_m.1 cr_m.2.2.2 254 255 256 257 := ⟨cs_ok (by decide +kernel), ⟨cs_ok (by decide +kernel), csR_ok (by decide +kernel)⟩, ⟨cs_ok (by decide +kernel), csR_ok (by decide +kernel)⟩, ⟨cs_ok (by decide +kernel), csR_ok (by decide +kernel)⟩, ⟨cs_ok (by decide +kernel), csR_ok (by decide +kernel)⟩, ⟨cs_ok (by decide +kernel), csR_ok (by decide +kernel)⟩, ⟨cs_ok (by decide +kernel), csR_ok (by decide +kernel)⟩, ⟨cs_ok (by decide +kernel), csR_ok (by decide +kernel)⟩, Or.inl ⟨rfl, rfl⟩, Or.inl ⟨rfl, rfl⟩⟩
theorem in_wa : WorldAt cr_m.1 cr_m.2.2.2 35 := ⟨cs_ok (by decide +kernel), csR_ok (by decide +kernel), ⟨cs_ok (by decide +kernel), csR_ok (by decide +kernel)⟩, ⟨cs_ok (by decide +kernel), csR_ok (by decide +kernel)⟩, ⟨cs_ok (by decide +kernel), csR_ok (by decide +kernel)⟩, ⟨cs_ok (by decide +kernel), csR_ok (by decide +kernel)⟩, ⟨cs_ok (by decide +kernel), csR_ok (by decide +kernel)⟩, ⟨cs_ok (by decide +kernel), csR_ok (by decide +kernel)⟩, ⟨cs_ok (by decide +kernel), csR_ok (by decide +kernel)⟩, ⟨cs_ok (by decide +kernel), csR_ok (by decide +kernel)⟩, ⟨cs_ok (by decide +kernel), csR_ok (by decide +kernel)⟩, ⟨cs_ok (by decide +kernel), csR_ok (by decide +kernel)⟩, ⟨cs_ok (by decide +kernel), csR_ok (by decide +kernel)⟩⟩
/-! numbers -/
def cs_I : List (Nat × Nat × Int32) := [(9, 0, 0), (9, 1, 0), (9, 2, 0), (9, 3, 0), (9, 4, 0), (9, 17, 0), (9, 18, 1), (9, 19, 1), (15, 0, 0), (15, 1, 0), (15, 2, 0), (15, 3, 0), (15, 4, 0), (15, 5, 0), (15, 6, 0), (15, 7, 0), (15, 8, 0), (15, 9, 0), (15, 10, 0), (15, 11, 0), (47, 1, 0), (47, 2, 0), (47, 7, 0), (35, 2, 0), (35, 3, 0), (35, 6, 0), (35, 11, 0), (42, 0, 0), (1, 1, 0), (0, 4, 0), (290, 71, 0), (290, 47, 0), (290, 51, 0), (290, 56, 11), (291, 0, 0), (291, 1, 0), (291, 2, 0), (291, 3, 0), (291, 4, 0), (291, 5, 0), (291, 6, 1), (291, 7, 0), (291, 8, 0), (291, 9, 0), (291, 10, 0), (291, 11, 0), (291, 12, 0), (291, 13, 0)]
theorem cr_I : cs_I.all (fun q => decide (cr_m.2.1 q.1 q.2.1 = q.2.2)) = true := by decide +kernel
theorem cr_i {j i k : Nat} {x : Int32} (h : cs_I[j]? = some (i, k, x)) : cr_m.2.1 i k = x := of_decide_eq_true (List.all_eq_true.mp cr_I (i, k, x) (List.mem_of_getElem? h))
theorem mo_z {h : xH} {k : Nat} (hk : 14 ≤ k) : (mo_sc h).2.1 h.1.length k = 0 := by
  show xu (xu (xu (xu (xu (xu (xu (xu (xu (xu (xu (xu (xu (xu (xz h.2.1 h.1.length 0) h.1.length 0 0) h.1.length 1 0) h.1.length 2 0) h.1.length 3 0) h.1.length 4 0) h.1.length 5 0) h.1.length 6 1) h.1.length 7 0) h.1.length 8 0) h.1.length 9 0) h.1.length 10 0) h.1.length 11 0) h.1.length 12 0) h.1.length 13 0 h.1.length k = 0
  rw [xu_o (by omega), xu_o (by omega), xu_o (by omega), xu_o (by omega), xu_o (by omega), xu_o (by omega), xu_o (by omega), xu_o (by omega), xu_o (by omega), xu_o (by omega), xu_o (by omega), xu_o (by omega), xu_o (by omega), xu_o (by omega)]
  exact if_pos rfl
theorem in_len : (xob 12 88 cr_h).1.length = 291 ∧ fs_mA.length = 45 ∧ fs_mB.length = 23 := by
  refine ⟨?_, by decide, by decide⟩
  show (cr_h.1 ++ [(12, 88)]).length = 291
  rw [List.length_append, cr_len.2.2.2.2.2.2.2.2.2.2]; rfl
theorem xpR_I {i t u : Nat} {h : xH} : (xpR i t u h).2.1 = h.2.1 := rfl
theorem xpI_I {i t : Nat} {x : Int32} {h : xH} : (xpI i t x h).2.1 = xu h.2.1 i t x := rfl
theorem xpI_1 {i t : Nat} {x : Int32} {h : xH} : (xpI i t x h).1 = h.1 := rfl
theorem xpR_1 {i t u : Nat} {h : xH} : (xpR i t u h).1 = h.1 := rfl
theorem mo_1 {h : xH} : (mo_sc h).1 = h.1 ++ [(20, 14)] := rfl
theorem mi_len {h : xH} (hl : h.1.length = 291) : (xpR 290 1 h.1.length (mo_sc h)).1.length = 292 := by rw [xpR_1, mo_1, List.length_append, hl]; rfl
theorem mi_z {h : xH} (hl : h.1.length = 291) {p k : Nat} (h1x : 292 ≤ p) (h2x : p < 360) : (model_init 290 h).2.1 p k = 0 := by
  have l0x := in_len
  have l1x := mi_len hl
  unfold model_init
  generalize xpR 290 1 h.1.length (mo_sc h) = H at l1x ⊢
  have l2x : (xadd 290 fs_mA H).1.length = 337 := by rw [xadd_len, l1x, l0x.2.1]
  by_cases c : p < 337
  · rw [(xadd_old 290 fs_mB (xpI 290 56 11 (xadd 290 fs_mA H)) p (by rw [xpI_1]; omega)).1, xpI_I, xu_o (by omega), (xadd_new 290 fs_mA H p (by omega) (by omega) (by omega)).1]
  · rw [(xadd_new 290 fs_mB (xpI 290 56 11 (xadd 290 fs_mA H)) p (by rw [xpI_1]; omega) (by rw [xpI_1]; omega) (by rw [xpI_1]; omega)).1]
theorem mi_z1 {h : xH} (hl : h.1.length = 291) {k : Nat} (hk : 14 ≤ k) : (model_init 290 h).2.1 291 k = 0 := by
  have l0x := in_len
  have l1x := mi_len hl
  have z := mo_z (h := h) hk
  rw [hl] at z
  unfold model_init
  rw [← xpR_I (i := 290) (t := 1) (u := h.1.length)] at z
  generalize xpR 290 1 h.1.length (mo_sc h) = H at l1x z ⊢
  have l2x : (xadd 290 fs_mA H).1.length = 337 := by rw [xadd_len, l1x, l0x.2.1]
  rw [(xadd_old 290 fs_mB (xpI 290 56 11 (xadd 290 fs_mA H)) 291 (by rw [xpI_1]; omega)).1, xpI_I, xu_o (by omega), (xadd_old 290 fs_mA H 291 (by omega)).1]
  exact z
theorem in_z : ∀ p k, 292 ≤ p → p < 360 → cr_m.2.1 p k = 0 := fun p k h1x h2x => mi_z in_len.1 h1x h2x
theorem in_z1 : ∀ k, 14 ≤ k → cr_m.2.1 291 k = 0 := fun k hk => mi_z1 in_len.1 hk
end IN
