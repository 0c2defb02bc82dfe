/-! THE LOOKING UP itself -/
theorem xg_27 : (List.range' 172 9).all (fun k => xallf k 0 (xTN k)) = true := by decide +kernel
theorem xb_181_0 : xallf 181 0 170 = true := by decide +kernel
theorem xb_181_170 : xallf 181 170 170 = true := by decide +kernel
theorem xb_181_340 : xallf 181 340 170 = true := by decide +kernel
theorem xb_181_510 : xallf 181 510 95 = true := by decide +kernel
set_option maxRecDepth 50000 in
theorem xg_28 : (List.range' 181 1).all (fun k => xallf k 0 (xTN k)) = true := by
  have h0 : xallf 181 0 170 = true := xb_181_0
  have h1 : xallf 181 0 340 = true := xallf_app (n := 170) (m := 170) h0 xb_181_170
  have h2 : xallf 181 0 510 = true := xallf_app (n := 340) (m := 170) h1 xb_181_340
  have h3 : xallf 181 0 605 = true := xallf_app (n := 510) (m := 95) h2 xb_181_510
  rw [List.all_eq_true]
  intro z hz
  have hz2 : z = 181 := by rw [List.mem_range'_1] at hz; omega
  subst hz2
  exact h3
theorem xg_29 : (List.range' 182 16).all (fun k => xallf k 0 (xTN k)) = true := by decide +kernel
theorem xg_30 : (List.range' 198 7).all (fun k => xallf k 0 (xTN k)) = true := by decide +kernel
theorem xg_31 : (List.range' 205 6).all (fun k => xallf k 0 (xTN k)) = true := by decide +kernel
