/-! THE LOOKING UP itself -/
theorem xg_17 : (List.range' 105 6).all (fun k => xallf k 0 (xTN k)) = true := by decide +kernel
theorem xg_18 : (List.range' 111 9).all (fun k => xallf k 0 (xTN k)) = true := by decide +kernel
theorem xg_19 : (List.range' 120 13).all (fun k => xallf k 0 (xTN k)) = true := by decide +kernel
theorem xg_20 : (List.range' 133 5).all (fun k => xallf k 0 (xTN k)) = true := by decide +kernel
theorem xg_21 : (List.range' 138 6).all (fun k => xallf k 0 (xTN k)) = true := by decide +kernel
