theorem ax_okM_0 : ((ax_pr.zip ax_mm).drop 0 |>.take 5).all (fun q => ax_okM q.1 q.2) = true := by decide +kernel
theorem ax_okM_5 : ((ax_pr.zip ax_mm).drop 5 |>.take 5).all (fun q => ax_okM q.1 q.2) = true := by decide +kernel
theorem ax_okM_10 : ((ax_pr.zip ax_mm).drop 10 |>.take 5).all (fun q => ax_okM q.1 q.2) = true := by decide +kernel
theorem ax_okM_15 : ((ax_pr.zip ax_mm).drop 15 |>.take 5).all (fun q => ax_okM q.1 q.2) = true := by decide +kernel
theorem ax_okM_20 : ((ax_pr.zip ax_mm).drop 20 |>.take 5).all (fun q => ax_okM q.1 q.2) = true := by decide +kernel
theorem ax_okM_25 : ((ax_pr.zip ax_mm).drop 25 |>.take 5).all (fun q => ax_okM q.1 q.2) = true := by decide +kernel
