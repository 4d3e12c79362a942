theorem ax_okM_105 : ((ax_pr.zip ax_mm).drop 105 |>.take 5).all (fun q => ax_okM q.1 q.2) = true := by decide +kernel
theorem ax_okM_110 : ((ax_pr.zip ax_mm).drop 110 |>.take 5).all (fun q => ax_okM q.1 q.2) = true := by decide +kernel
theorem ax_okM_115 : ((ax_pr.zip ax_mm).drop 115 |>.take 5).all (fun q => ax_okM q.1 q.2) = true := by decide +kernel
theorem ax_okM_120 : ((ax_pr.zip ax_mm).drop 120 |>.take 5).all (fun q => ax_okM q.1 q.2) = true := by decide +kernel
theorem ax_okM_125 : ((ax_pr.zip ax_mm).drop 125 |>.take 5).all (fun q => ax_okM q.1 q.2) = true := by decide +kernel
