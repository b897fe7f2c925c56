/-! ===== the same, in each shape ===== -/
theorem xk_log_0 : xOK 248 1 0 := xk_log (tw := 4) (by decide) xl_V0
set_option maxRecDepth 100000 in
theorem xk_image_0 : xIm 0 := xIm_of (c := 0) (e0 := cc0_X_image_1071_e) (e1 := cc0_X_image_1072_e) (e2 := cc_X_image_1073_e) (cc0_X_image_1071_ok 60 (by decide)) (cc0_X_image_1072_ok 60 (by decide)) (cc_X_image_1073_ok 60 (by decide)) rfl rfl rfl rfl rfl rfl rfl rfl rfl (by decide +kernel) (by decide +kernel) rfl rfl
theorem xk_log_1 : xOK 248 1 1 := xk_log (tw := 17) (by decide) xl_V1
set_option maxRecDepth 100000 in
theorem xk_image_1 : xIm 1 := xIm_of (c := 1) (e0 := cc1_X_image_1074_e) (e1 := cc1_X_image_1075_e) (e2 := cc_X_image_1073_e) (cc1_X_image_1074_ok 60 (by decide)) (cc1_X_image_1075_ok 60 (by decide)) (cc_X_image_1073_ok 60 (by decide)) rfl rfl rfl rfl rfl rfl rfl rfl rfl (by decide +kernel) (by decide +kernel) rfl rfl
theorem xk_log_2 : xOK 248 1 2 := xk_log (tw := 4) (by decide) xl_V2
set_option maxRecDepth 100000 in
theorem xk_image_2 : xIm 2 := xIm_of (c := 2) (e0 := cc2_X_image_1076_e) (e1 := cc2_X_image_1077_e) (e2 := cc_X_image_1073_e) (cc2_X_image_1076_ok 60 (by decide)) (cc2_X_image_1077_ok 60 (by decide)) (cc_X_image_1073_ok 60 (by decide)) rfl rfl rfl rfl rfl rfl rfl rfl rfl (by decide +kernel) (by decide +kernel) rfl rfl
theorem xk_log_3 : xOK 248 1 3 := xk_log (tw := 17) (by decide) xl_V3
set_option maxRecDepth 100000 in
theorem xk_image_3 : xIm 3 := xIm_of (c := 3) (e0 := cc3_X_image_1078_e) (e1 := cc3_X_image_1079_e) (e2 := cc_X_image_1073_e) (cc3_X_image_1078_ok 60 (by decide)) (cc3_X_image_1079_ok 60 (by decide)) (cc_X_image_1073_ok 60 (by decide)) rfl rfl rfl rfl rfl rfl rfl rfl rfl (by decide +kernel) (by decide +kernel) rfl rfl
