theorem ax_okM_30 : ((ax_pr.zip ax_mm).drop 30 |>.take 5).all (fun q => ax_okM q.1 q.2) = true := by decide +kernel
theorem ax_okM_35 : ((ax_pr.zip ax_mm).drop 35 |>.take 5).all (fun q => ax_okM q.1 q.2) = true := by decide +kernel
theorem ax_okM_40 : ((ax_pr.zip ax_mm).drop 40 |>.take 5).all (fun q => ax_okM q.1 q.2) = true := by decide +kernel
theorem ax_okM_45 : ((ax_pr.zip ax_mm).drop 45 |>.take 5).all (fun q => ax_okM q.1 q.2) = true := by decide +kernel
theorem ax_okM_50 : ((ax_pr.zip ax_mm).drop 50 |>.take 5).all (fun q => ax_okM q.1 q.2) = true := by decide +kernel
