/-! THE LOOKING UP itself -/
theorem xg_54 : (List.range' 309 8).all (fun k => xallf k 0 (xTN k)) = true := by decide +kernel
theorem xg_55 : (List.range' 317 10).all (fun k => xallf k 0 (xTN k)) = true := by decide +kernel
