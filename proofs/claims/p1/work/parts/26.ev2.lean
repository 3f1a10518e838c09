set_option maxRecDepth 100000 in
theorem k9_0 : fk_9 (xg 0 0 0) vX vM (fun _ => 0) = some () := by decide +kernel
set_option maxRecDepth 100000 in
theorem k9_1 : fk_9 (xg 1 0 0) vX vM (fun _ => 0) = some () := by decide +kernel
set_option maxRecDepth 100000 in
theorem k9_2 : fk_9 (xg 2 0 0) vX vM (fun _ => 0) = some () := by decide +kernel
set_option maxRecDepth 100000 in
theorem k9_3 : fk_9 (xg 3 0 0) vX vM (fun _ => 0) = some () := by decide +kernel
set_option maxRecDepth 100000 in
theorem k9_4 : fk_9 (xg 4 0 0) vX vM (fun _ => 0) = some () := by decide +kernel
set_option maxRecDepth 100000 in
theorem k9_11 : fk_9 (xg 11 0 0) vX vM (fun _ => 0) = some () := by decide +kernel
set_option maxRecDepth 100000 in
theorem k9_12 : fk_9 (xg 12 0 0) vX vM (fun _ => 0) = some () := by decide +kernel
set_option maxRecDepth 100000 in
theorem k9_13 : fk_9 (xg 13 0 0) vX vM (fun _ => 0) = some () := by decide +kernel
set_option maxRecDepth 100000 in
theorem k9_14 : fk_9 (xg 14 0 0) vX vM (fun _ => 0) = some () := by decide +kernel
set_option maxRecDepth 100000 in
theorem k9_15 : fk_9 (xg 15 0 0) vX vM (fun _ => 0) = some () := by decide +kernel
set_option maxRecDepth 100000 in
theorem k9_16 : fk_9 (xg 16 0 0) vX vM (fun _ => 0) = some () := by decide +kernel
set_option maxRecDepth 100000 in
theorem k9_17 : fk_9 (xg 17 0 0) vX vM (fun _ => 0) = some () := by decide +kernel
set_option maxRecDepth 100000 in
theorem k9_18 : fk_9 (xg 18 0 0) vX vM (fun _ => 0) = some () := by decide +kernel
set_option maxRecDepth 100000 in
theorem k9_19 : fk_9 (xg 19 0 0) vX vM (fun _ => 0) = some () := by decide +kernel
set_option maxRecDepth 100000 in
theorem k9_20 : fk_9 (xg 20 0 0) vX vM (fun _ => 0) = some () := by decide +kernel
set_option maxRecDepth 100000 in
theorem k9_21 : fk_9 (xg 21 0 0) vX vM (fun _ => 0) = some () := by decide +kernel
set_option maxRecDepth 100000 in
theorem k9_22 : fk_9 (xg 22 0 0) vX vM (fun _ => 0) = some () := by decide +kernel
set_option maxRecDepth 100000 in
theorem k9_23 : fk_9 (xg 23 0 0) vX vM (fun _ => 0) = some () := by decide +kernel
set_option maxRecDepth 100000 in
theorem k9_24 : fk_9 (xg 24 0 0) vX vM (fun _ => 0) = some () := by decide +kernel
set_option maxRecDepth 100000 in
theorem k9_25 : fk_9 (xg 25 0 0) vX vM (fun _ => 0) = some () := by decide +kernel
set_option maxRecDepth 100000 in
theorem k10_0_0 : fk_10 (xg 0 0 0) vX vM (fun _ => 0) = some () := by decide +kernel
set_option maxRecDepth 100000 in
theorem k10_0_1 : fk_10 (xg 0 1 0) vX vM (fun _ => 0) = some () := by decide +kernel
set_option maxRecDepth 100000 in
theorem k10_1_0 : fk_10 (xg 1 0 0) vX vM (fun _ => 0) = some () := by decide +kernel
set_option maxRecDepth 100000 in
theorem k10_1_1 : fk_10 (xg 1 1 0) vX vM (fun _ => 0) = some () := by decide +kernel
