/-! THE LOOKING UP itself -/
theorem xg_43 : (List.range' 262 3).all (fun k => xallf k 0 (xTN k)) = true := by decide +kernel
theorem xg_44 : (List.range' 265 7).all (fun k => xallf k 0 (xTN k)) = true := by decide +kernel
theorem xg_45 : (List.range' 272 5).all (fun k => xallf k 0 (xTN k)) = true := by decide +kernel
theorem xg_46 : (List.range' 277 3).all (fun k => xallf k 0 (xTN k)) = true := by decide +kernel
theorem xg_47 : (List.range' 280 5).all (fun k => xallf k 0 (xTN k)) = true := by decide +kernel
