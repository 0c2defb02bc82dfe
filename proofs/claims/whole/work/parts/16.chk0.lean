/-! THE LOOKING UP itself -/
theorem xb_0_0 : xallf 0 0 170 = true := by decide +kernel
theorem xb_0_170 : xallf 0 170 170 = true := by decide +kernel
theorem xb_0_340 : xallf 0 340 170 = true := by decide +kernel
theorem xb_0_510 : xallf 0 510 170 = true := by decide +kernel
theorem xb_0_680 : xallf 0 680 170 = true := by decide +kernel
theorem xb_0_850 : xallf 0 850 170 = true := by decide +kernel
theorem xb_0_1020 : xallf 0 1020 170 = true := by decide +kernel
theorem xb_0_1190 : xallf 0 1190 154 = true := by decide +kernel
set_option maxRecDepth 50000 in
theorem xg_0 : (List.range' 0 1).all (fun k => xallf k 0 (xTN k)) = true := by
  have h0 : xallf 0 0 170 = true := xb_0_0
  have h1 : xallf 0 0 340 = true := xallf_app (n := 170) (m := 170) h0 xb_0_170
  have h2 : xallf 0 0 510 = true := xallf_app (n := 340) (m := 170) h1 xb_0_340
  have h3 : xallf 0 0 680 = true := xallf_app (n := 510) (m := 170) h2 xb_0_510
  have h4 : xallf 0 0 850 = true := xallf_app (n := 680) (m := 170) h3 xb_0_680
  have h5 : xallf 0 0 1020 = true := xallf_app (n := 850) (m := 170) h4 xb_0_850
  have h6 : xallf 0 0 1190 = true := xallf_app (n := 1020) (m := 170) h5 xb_0_1020
  have h7 : xallf 0 0 1344 = true := xallf_app (n := 1190) (m := 154) h6 xb_0_1190
  rw [List.all_eq_true]
  intro z hz
  have hz2 : z = 0 := by rw [List.mem_range'_1] at hz; omega
  subst hz2
  exact h7
theorem xg_1 : (List.range' 1 4).all (fun k => xallf k 0 (xTN k)) = true := by decide +kernel
