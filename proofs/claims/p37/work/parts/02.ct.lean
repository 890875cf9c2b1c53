set_option maxRecDepth 16384 in
theorem ct_w_0 : ((tables_1.drop 0).take 80).all (ct_light start1.args0) = true := by decide +kernel
set_option maxRecDepth 16384 in
theorem ct_w_1 : ((tables_1.drop 80).take 80).all (ct_light start1.args0) = true := by decide +kernel
set_option maxRecDepth 16384 in
theorem ct_w_2 : ((tables_1.drop 160).take 80).all (ct_light start1.args0) = true := by decide +kernel
set_option maxRecDepth 16384 in
theorem ct_w_3 : ((tables_1.drop 240).take 80).all (ct_light start1.args0) = true := by decide +kernel
set_option maxRecDepth 16384 in
theorem ct_w_4 : ((tables_1.drop 320).take 80).all (ct_light start1.args0) = true := by decide +kernel
set_option maxRecDepth 16384 in
theorem ct_w_5 : ((tables_1.drop 400).take 80).all (ct_light start1.args0) = true := by decide +kernel
set_option maxRecDepth 16384 in
theorem ct_w_6 : ((tables_1.drop 480).take 80).all (ct_light start1.args0) = true := by decide +kernel
set_option maxRecDepth 16384 in
theorem ct_w_7 : ((tables_1.drop 560).take 80).all (ct_light start1.args0) = true := by decide +kernel
set_option maxRecDepth 16384 in
theorem ct_w_8 : ((tables_1.drop 640).take 80).all (ct_light start1.args0) = true := by decide +kernel
