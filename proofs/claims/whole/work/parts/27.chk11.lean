/-! THE LOOKING UP itself -/
theorem xg_54 : (List.range' 309 7).all (fun k => xallf k 0 (xTN k)) = true := by decide +kernel
theorem xg_55 : (List.range' 316 11).all (fun k => xallf k 0 (xTN k)) = true := by decide +kernel
