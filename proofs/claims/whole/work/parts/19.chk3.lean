/-! THE LOOKING UP itself -/
theorem xg_12 : (List.range' 67 7).all (fun k => xallf k 0 (xTN k)) = true := by decide +kernel
theorem xg_13 : (List.range' 74 5).all (fun k => xallf k 0 (xTN k)) = true := by decide +kernel
theorem xg_14 : (List.range' 79 9).all (fun k => xallf k 0 (xTN k)) = true := by decide +kernel
theorem xg_15 : (List.range' 88 11).all (fun k => xallf k 0 (xTN k)) = true := by decide +kernel
theorem xg_16 : (List.range' 99 6).all (fun k => xallf k 0 (xTN k)) = true := by decide +kernel
