/-! THE LOOKING UP itself -/
theorem xg_27 : (List.range' 172 9).all (fun k => xallf k 0 (xTN k)) = true := by decide +kernel
theorem xb_181_0 : xallf 181 0 170 = true := by decide +kernel
theorem xb_181_170 : xallf 181 170 170 = true := by decide +kernel
theorem xb_181_340 : xallf 181 340 170 = true := by decide +kernel
theorem xb_181_510 : xallf 181 510 95 = true := by decide +kernel
theorem xg_28 : (List.range' 181 1).all (fun k => xallf k 0 (xTN k)) = true := by
  have h : xallf 181 0 605 = true := (xallf_app (xallf_app (xallf_app xb_181_0 xb_181_170) xb_181_340) xb_181_510)
  have e1 : xTN 181 = 605 := rfl
  simp only [List.range'_one, List.all_cons, List.all_nil, Bool.and_true, e1, h]
theorem xg_29 : (List.range' 182 16).all (fun k => xallf k 0 (xTN k)) = true := by decide +kernel
theorem xg_30 : (List.range' 198 7).all (fun k => xallf k 0 (xTN k)) = true := by decide +kernel
theorem xg_31 : (List.range' 205 6).all (fun k => xallf k 0 (xTN k)) = true := by decide +kernel
