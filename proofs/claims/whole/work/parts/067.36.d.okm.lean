theorem ax_okM_80 : ((ax_pr.zip ax_mm).drop 80 |>.take 5).all (fun q => ax_okM q.1 q.2) = true := by decide +kernel
theorem ax_okM_85 : ((ax_pr.zip ax_mm).drop 85 |>.take 5).all (fun q => ax_okM q.1 q.2) = true := by decide +kernel
theorem ax_okM_90 : ((ax_pr.zip ax_mm).drop 90 |>.take 5).all (fun q => ax_okM q.1 q.2) = true := by decide +kernel
theorem ax_okM_95 : ((ax_pr.zip ax_mm).drop 95 |>.take 5).all (fun q => ax_okM q.1 q.2) = true := by decide +kernel
theorem ax_okM_100 : ((ax_pr.zip ax_mm).drop 100 |>.take 5).all (fun q => ax_okM q.1 q.2) = true := by decide +kernel
