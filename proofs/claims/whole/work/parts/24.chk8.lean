/-! THE LOOKING UP itself -/
theorem xg_38 : (List.range' 232 6).all (fun k => xallf k 0 (xTN k)) = true := by decide +kernel
theorem xg_39 : (List.range' 238 9).all (fun k => xallf k 0 (xTN k)) = true := by decide +kernel
theorem xg_40 : (List.range' 247 4).all (fun k => xallf k 0 (xTN k)) = true := by decide +kernel
theorem xg_41 : (List.range' 251 7).all (fun k => xallf k 0 (xTN k)) = true := by decide +kernel
theorem xg_42 : (List.range' 258 4).all (fun k => xallf k 0 (xTN k)) = true := by decide +kernel
