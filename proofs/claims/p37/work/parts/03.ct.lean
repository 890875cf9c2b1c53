set_option maxRecDepth 16384 in
theorem ct_w_9 : ((tables_1.drop 720).take 80).all (ct_light start1.args0) = true := by decide +kernel
set_option maxRecDepth 16384 in
theorem ct_w_10 : ((tables_1.drop 800).take 80).all (ct_light start1.args0) = true := by decide +kernel
set_option maxRecDepth 16384 in
theorem ct_w_11 : ((tables_1.drop 880).take 80).all (ct_light start1.args0) = true := by decide +kernel
set_option maxRecDepth 16384 in
theorem ct_w_12 : ((tables_1.drop 960).take 80).all (ct_light start1.args0) = true := by decide +kernel
set_option maxRecDepth 16384 in
theorem ct_w_13 : ((tables_1.drop 1040).take 80).all (ct_light start1.args0) = true := by decide +kernel
set_option maxRecDepth 16384 in
theorem ct_w_14 : ((tables_1.drop 1120).take 80).all (ct_light start1.args0) = true := by decide +kernel
set_option maxRecDepth 16384 in
theorem ct_w_15 : ((tables_1.drop 1200).take 80).all (ct_light start1.args0) = true := by decide +kernel
set_option maxRecDepth 16384 in
theorem ct_w_16 : ((tables_1.drop 1280).take 80).all (ct_light start1.args0) = true := by decide +kernel
