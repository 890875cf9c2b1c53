set_option maxRecDepth 16384 in
theorem ct_w_17 : ((tables_1.drop 680).take 40).all (fun c => su_isCode c || c.before start1.args0 ct_s) = true := by decide +kernel
set_option maxRecDepth 16384 in
theorem ct_w_18 : ((tables_1.drop 720).take 40).all (fun c => su_isCode c || c.before start1.args0 ct_s) = true := by decide +kernel
set_option maxRecDepth 16384 in
theorem ct_w_19 : ((tables_1.drop 760).take 40).all (fun c => su_isCode c || c.before start1.args0 ct_s) = true := by decide +kernel
set_option maxRecDepth 16384 in
theorem ct_w_20 : ((tables_1.drop 800).take 40).all (fun c => su_isCode c || c.before start1.args0 ct_s) = true := by decide +kernel
set_option maxRecDepth 16384 in
theorem ct_w_21 : ((tables_1.drop 840).take 40).all (fun c => su_isCode c || c.before start1.args0 ct_s) = true := by decide +kernel
set_option maxRecDepth 16384 in
theorem ct_w_22 : ((tables_1.drop 880).take 40).all (fun c => su_isCode c || c.before start1.args0 ct_s) = true := by decide +kernel
set_option maxRecDepth 16384 in
theorem ct_w_23 : ((tables_1.drop 920).take 40).all (fun c => su_isCode c || c.before start1.args0 ct_s) = true := by decide +kernel
set_option maxRecDepth 16384 in
theorem ct_w_24 : ((tables_1.drop 960).take 40).all (fun c => su_isCode c || c.before start1.args0 ct_s) = true := by decide +kernel
set_option maxRecDepth 16384 in
theorem ct_w_25 : ((tables_1.drop 1000).take 40).all (fun c => su_isCode c || c.before start1.args0 ct_s) = true := by decide +kernel
set_option maxRecDepth 16384 in
theorem ct_w_26 : ((tables_1.drop 1040).take 40).all (fun c => su_isCode c || c.before start1.args0 ct_s) = true := by decide +kernel
set_option maxRecDepth 16384 in
theorem ct_w_27 : ((tables_1.drop 1080).take 40).all (fun c => su_isCode c || c.before start1.args0 ct_s) = true := by decide +kernel
set_option maxRecDepth 16384 in
theorem ct_w_28 : ((tables_1.drop 1120).take 40).all (fun c => su_isCode c || c.before start1.args0 ct_s) = true := by decide +kernel
set_option maxRecDepth 16384 in
theorem ct_w_29 : ((tables_1.drop 1160).take 40).all (fun c => su_isCode c || c.before start1.args0 ct_s) = true := by decide +kernel
set_option maxRecDepth 16384 in
theorem ct_w_30 : ((tables_1.drop 1200).take 40).all (fun c => su_isCode c || c.before start1.args0 ct_s) = true := by decide +kernel
set_option maxRecDepth 16384 in
theorem ct_w_31 : ((tables_1.drop 1240).take 40).all (fun c => su_isCode c || c.before start1.args0 ct_s) = true := by decide +kernel
set_option maxRecDepth 16384 in
theorem ct_w_32 : ((tables_1.drop 1280).take 40).all (fun c => su_isCode c || c.before start1.args0 ct_s) = true := by decide +kernel
set_option maxRecDepth 16384 in
theorem ct_w_33 : ((tables_1.drop 1320).take 40).all (fun c => su_isCode c || c.before start1.args0 ct_s) = true := by decide +kernel
