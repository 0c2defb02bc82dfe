/-! THE LOOKING UP itself -/
theorem xb_0_0 : xallf 0 0 170 = true := by decide +kernel
theorem xb_0_170 : xallf 0 170 170 = true := by decide +kernel
theorem xb_0_340 : xallf 0 340 170 = true := by decide +kernel
theorem xb_0_510 : xallf 0 510 170 = true := by decide +kernel
theorem xb_0_680 : xallf 0 680 170 = true := by decide +kernel
theorem xb_0_850 : xallf 0 850 170 = true := by decide +kernel
theorem xb_0_1020 : xallf 0 1020 170 = true := by decide +kernel
theorem xb_0_1190 : xallf 0 1190 154 = true := by decide +kernel
theorem xg_0 : (List.range' 0 1).all (fun k => xallf k 0 (xTN k)) = true := by
  have h : xallf 0 0 1344 = true := (xallf_app (xallf_app (xallf_app (xallf_app (xallf_app (xallf_app (xallf_app xb_0_0 xb_0_170) xb_0_340) xb_0_510) xb_0_680) xb_0_850) xb_0_1020) xb_0_1190)
  have e1 : xTN 0 = 1344 := rfl
  simp only [List.range'_one, List.all_cons, List.all_nil, Bool.and_true, e1, h]
theorem xg_1 : (List.range' 1 4).all (fun k => xallf k 0 (xTN k)) = true := by decide +kernel
