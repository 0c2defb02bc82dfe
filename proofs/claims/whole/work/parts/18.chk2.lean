/-! THE LOOKING UP itself -/
theorem xg_7 : (List.range' 37 6).all (fun k => xallf k 0 (xTN k)) = true := by decide +kernel
theorem xg_8 : (List.range' 43 6).all (fun k => xallf k 0 (xTN k)) = true := by decide +kernel
theorem xg_9 : (List.range' 49 8).all (fun k => xallf k 0 (xTN k)) = true := by decide +kernel
theorem xg_10 : (List.range' 57 4).all (fun k => xallf k 0 (xTN k)) = true := by decide +kernel
theorem xg_11 : (List.range' 61 6).all (fun k => xallf k 0 (xTN k)) = true := by decide +kernel
