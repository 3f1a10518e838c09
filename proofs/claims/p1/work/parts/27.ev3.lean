set_option maxRecDepth 100000 in
theorem k21_0 : fk_21 (xg 0 0 0) vX vM (fun _ => 0) = some () := by decide +kernel
set_option maxRecDepth 100000 in
theorem k21_1 : fk_21 (xg 1 0 0) vX vM (fun _ => 0) = some () := by decide +kernel
set_option maxRecDepth 100000 in
theorem k21_2 : fk_21 (xg 2 0 0) vX vM (fun _ => 0) = some () := by decide +kernel
set_option maxRecDepth 100000 in
theorem k21_3 : fk_21 (xg 3 0 0) vX vM (fun _ => 0) = some () := by decide +kernel
set_option maxRecDepth 100000 in
theorem k21_4 : fk_21 (xg 4 0 0) vX vM (fun _ => 0) = some () := by decide +kernel
set_option maxRecDepth 100000 in
theorem k25_8 : fk_25 (xg 8 0 0) vX vM (fun _ => 0) = some () := by decide +kernel
set_option maxRecDepth 100000 in
theorem k25_9 : fk_25 (xg 9 0 0) vX vM (fun _ => 0) = some () := by decide +kernel
set_option maxRecDepth 100000 in
theorem k25_10 : fk_25 (xg 10 0 0) vX vM (fun _ => 0) = some () := by decide +kernel
set_option maxRecDepth 100000 in
theorem k25_11 : fk_25 (xg 11 0 0) vX vM (fun _ => 0) = some () := by decide +kernel
set_option maxRecDepth 100000 in
theorem k25_12 : fk_25 (xg 12 0 0) vX vM (fun _ => 0) = some () := by decide +kernel
set_option maxRecDepth 100000 in
theorem k25_13 : fk_25 (xg 13 0 0) vX vM (fun _ => 0) = some () := by decide +kernel
set_option maxRecDepth 100000 in
theorem k25_14 : fk_25 (xg 14 0 0) vX vM (fun _ => 0) = some () := by decide +kernel
set_option maxRecDepth 100000 in
theorem k25_15 : fk_25 (xg 15 0 0) vX vM (fun _ => 0) = some () := by decide +kernel
set_option maxRecDepth 100000 in
theorem k26 : fk_26 (xg 0 0 0) vX vM (fun _ => 0) = some () := by decide +kernel
set_option maxRecDepth 100000 in
theorem k27 : fk_27 (xg 0 0 0) vX vM (fun _ => 0) = some () := by decide +kernel
set_option maxRecDepth 100000 in
theorem k28_0 : fk_28 (xg 0 0 0) vX vM (fun _ => 0) = some () := by decide +kernel
set_option maxRecDepth 100000 in
theorem k28_1 : fk_28 (xg 1 0 0) vX vM (fun _ => 0) = some () := by decide +kernel
set_option maxRecDepth 100000 in
theorem k28_2 : fk_28 (xg 2 0 0) vX vM (fun _ => 0) = some () := by decide +kernel
set_option maxRecDepth 100000 in
theorem k8_0 : fk_8 (xg 0 0 0) vX vM (fun _ => 0) = some () := by decide +kernel
set_option maxRecDepth 100000 in
theorem k8_1 : fk_8 (xg 1 0 0) vX vM (fun _ => 0) = some () := by decide +kernel
set_option maxRecDepth 100000 in
theorem k8_2 : fk_8 (xg 2 0 0) vX vM (fun _ => 0) = some () := by decide +kernel
set_option maxRecDepth 100000 in
theorem k8_3 : fk_8 (xg 3 0 0) vX vM (fun _ => 0) = some () := by decide +kernel
set_option maxRecDepth 100000 in
theorem k8_4 : fk_8 (xg 4 0 0) vX vM (fun _ => 0) = some () := by decide +kernel
set_option maxRecDepth 100000 in
theorem k8_5 : fk_8 (xg 5 0 0) vX vM (fun _ => 0) = some () := by decide +kernel
set_option maxRecDepth 100000 in
theorem k8_6 : fk_8 (xg 6 0 0) vX vM (fun _ => 0) = some () := by decide +kernel
set_option maxRecDepth 100000 in
theorem k8_7 : fk_8 (xg 7 0 0) vX vM (fun _ => 0) = some () := by decide +kernel
set_option maxRecDepth 100000 in
theorem k8_8 : fk_8 (xg 8 0 0) vX vM (fun _ => 0) = some () := by decide +kernel
set_option maxRecDepth 100000 in
theorem k8_9 : fk_8 (xg 9 0 0) vX vM (fun _ => 0) = some () := by decide +kernel
set_option maxRecDepth 100000 in
theorem k8_10 : fk_8 (xg 10 0 0) vX vM (fun _ => 0) = some () := by decide +kernel
set_option maxRecDepth 100000 in
theorem k8_11 : fk_8 (xg 11 0 0) vX vM (fun _ => 0) = some () := by decide +kernel
set_option maxRecDepth 100000 in
theorem k8_12 : fk_8 (xg 12 0 0) vX vM (fun _ => 0) = some () := by decide +kernel
set_option maxRecDepth 100000 in
theorem k8_13 : fk_8 (xg 13 0 0) vX vM (fun _ => 0) = some () := by decide +kernel
set_option maxRecDepth 100000 in
theorem k8_14 : fk_8 (xg 14 0 0) vX vM (fun _ => 0) = some () := by decide +kernel
set_option maxRecDepth 100000 in
theorem k8_15 : fk_8 (xg 15 0 0) vX vM (fun _ => 0) = some () := by decide +kernel
set_option maxRecDepth 100000 in
theorem k8_16 : fk_8 (xg 16 0 0) vX vM (fun _ => 0) = some () := by decide +kernel
set_option maxRecDepth 100000 in
theorem k8_17 : fk_8 (xg 17 0 0) vX vM (fun _ => 0) = some () := by decide +kernel
set_option maxRecDepth 100000 in
theorem k8_18 : fk_8 (xg 18 0 0) vX vM (fun _ => 0) = some () := by decide +kernel
set_option maxRecDepth 100000 in
theorem k8_19 : fk_8 (xg 19 0 0) vX vM (fun _ => 0) = some () := by decide +kernel
set_option maxRecDepth 100000 in
theorem k8_20 : fk_8 (xg 20 0 0) vX vM (fun _ => 0) = some () := by decide +kernel
set_option maxRecDepth 100000 in
theorem k8_21 : fk_8 (xg 21 0 0) vX vM (fun _ => 0) = some () := by decide +kernel
set_option maxRecDepth 100000 in
theorem k8_22 : fk_8 (xg 22 0 0) vX vM (fun _ => 0) = some () := by decide +kernel
set_option maxRecDepth 100000 in
theorem k8_23 : fk_8 (xg 23 0 0) vX vM (fun _ => 0) = some () := by decide +kernel
set_option maxRecDepth 100000 in
theorem k8_24 : fk_8 (xg 24 0 0) vX vM (fun _ => 0) = some () := by decide +kernel
set_option maxRecDepth 100000 in
theorem k8_25 : fk_8 (xg 25 0 0) vX vM (fun _ => 0) = some () := by decide +kernel
set_option maxRecDepth 100000 in
theorem k8_26 : fk_8 (xg 26 0 0) vX vM (fun _ => 0) = some () := by decide +kernel
set_option maxRecDepth 100000 in
theorem k8_27 : fk_8 (xg 27 0 0) vX vM (fun _ => 0) = some () := by decide +kernel
set_option maxRecDepth 100000 in
theorem k8_28 : fk_8 (xg 28 0 0) vX vM (fun _ => 0) = some () := by decide +kernel
