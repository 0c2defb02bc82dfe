/-! THE LOOKING UP itself -/
theorem xg_2 : (List.range' 5 4).all (fun k => xallf k 0 (xTN k)) = true := by decide +kernel
theorem xg_3 : (List.range' 9 9).all (fun k => xallf k 0 (xTN k)) = true := by decide +kernel
theorem xg_4 : (List.range' 18 7).all (fun k => xallf k 0 (xTN k)) = true := by decide +kernel
theorem xg_5 : (List.range' 25 7).all (fun k => xallf k 0 (xTN k)) = true := by decide +kernel
theorem xg_6 : (List.range' 32 5).all (fun k => xallf k 0 (xTN k)) = true := by decide +kernel
