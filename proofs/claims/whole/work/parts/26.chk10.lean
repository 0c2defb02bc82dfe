/-! THE LOOKING UP itself -/
theorem xg_48 : (List.range' 285 7).all (fun k => xallf k 0 (xTN k)) = true := by decide +kernel
theorem xg_49 : (List.range' 292 3).all (fun k => xallf k 0 (xTN k)) = true := by decide +kernel
theorem xg_50 : (List.range' 295 3).all (fun k => xallf k 0 (xTN k)) = true := by decide +kernel
theorem xg_51 : (List.range' 298 6).all (fun k => xallf k 0 (xTN k)) = true := by decide +kernel
theorem xg_52 : (List.range' 304 3).all (fun k => xallf k 0 (xTN k)) = true := by decide +kernel
theorem xg_53 : (List.range' 307 2).all (fun k => xallf k 0 (xTN k)) = true := by decide +kernel
