/-! THE LOOKING UP itself -/
theorem xg_32 : (List.range' 211 4).all (fun k => xallf k 0 (xTN k)) = true := by decide +kernel
theorem xg_33 : (List.range' 215 2).all (fun k => xallf k 0 (xTN k)) = true := by decide +kernel
theorem xg_34 : (List.range' 217 2).all (fun k => xallf k 0 (xTN k)) = true := by decide +kernel
theorem xg_35 : (List.range' 219 5).all (fun k => xallf k 0 (xTN k)) = true := by decide +kernel
theorem xg_36 : (List.range' 224 2).all (fun k => xallf k 0 (xTN k)) = true := by decide +kernel
theorem xg_37 : (List.range' 226 6).all (fun k => xallf k 0 (xTN k)) = true := by decide +kernel
