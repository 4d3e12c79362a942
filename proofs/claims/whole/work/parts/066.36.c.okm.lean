theorem ax_okM_55 : ((ax_pr.zip ax_mm).drop 55 |>.take 5).all (fun q => ax_okM q.1 q.2) = true := by decide +kernel
theorem ax_okM_60 : ((ax_pr.zip ax_mm).drop 60 |>.take 5).all (fun q => ax_okM q.1 q.2) = true := by decide +kernel
theorem ax_okM_65 : ((ax_pr.zip ax_mm).drop 65 |>.take 5).all (fun q => ax_okM q.1 q.2) = true := by decide +kernel
theorem ax_okM_70 : ((ax_pr.zip ax_mm).drop 70 |>.take 5).all (fun q => ax_okM q.1 q.2) = true := by decide +kernel
theorem ax_okM_75 : ((ax_pr.zip ax_mm).drop 75 |>.take 5).all (fun q => ax_okM q.1 q.2) = true := by decide +kernel
