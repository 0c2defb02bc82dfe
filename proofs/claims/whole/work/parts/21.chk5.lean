/-! THE LOOKING UP itself -/
theorem xg_22 : (List.range' 144 5).all (fun k => xallf k 0 (xTN k)) = true := by decide +kernel
theorem xg_23 : (List.range' 149 8).all (fun k => xallf k 0 (xTN k)) = true := by decide +kernel
theorem xg_24 : (List.range' 157 6).all (fun k => xallf k 0 (xTN k)) = true := by decide +kernel
theorem xg_25 : (List.range' 163 5).all (fun k => xallf k 0 (xTN k)) = true := by decide +kernel
theorem xg_26 : (List.range' 168 4).all (fun k => xallf k 0 (xTN k)) = true := by decide +kernel
