set_option maxRecDepth 16384 in
theorem ct_w_0 : ((tables_1.drop 0).take 40).all (fun c => su_isCode c || c.before start1.args0 ct_s) = true := by decide +kernel
set_option maxRecDepth 16384 in
theorem ct_w_1 : ((tables_1.drop 40).take 40).all (fun c => su_isCode c || c.before start1.args0 ct_s) = true := by decide +kernel
set_option maxRecDepth 16384 in
theorem ct_w_2 : ((tables_1.drop 80).take 40).all (fun c => su_isCode c || c.before start1.args0 ct_s) = true := by decide +kernel
set_option maxRecDepth 16384 in
theorem ct_w_3 : ((tables_1.drop 120).take 40).all (fun c => su_isCode c || c.before start1.args0 ct_s) = true := by decide +kernel
set_option maxRecDepth 16384 in
theorem ct_w_4 : ((tables_1.drop 160).take 40).all (fun c => su_isCode c || c.before start1.args0 ct_s) = true := by decide +kernel
set_option maxRecDepth 16384 in
theorem ct_w_5 : ((tables_1.drop 200).take 40).all (fun c => su_isCode c || c.before start1.args0 ct_s) = true := by decide +kernel
set_option maxRecDepth 16384 in
theorem ct_w_6 : ((tables_1.drop 240).take 40).all (fun c => su_isCode c || c.before start1.args0 ct_s) = true := by decide +kernel
set_option maxRecDepth 16384 in
theorem ct_w_7 : ((tables_1.drop 280).take 40).all (fun c => su_isCode c || c.before start1.args0 ct_s) = true := by decide +kernel
set_option maxRecDepth 16384 in
theorem ct_w_8 : ((tables_1.drop 320).take 40).all (fun c => su_isCode c || c.before start1.args0 ct_s) = true := by decide +kernel
set_option maxRecDepth 16384 in
theorem ct_w_9 : ((tables_1.drop 360).take 40).all (fun c => su_isCode c || c.before start1.args0 ct_s) = true := by decide +kernel
set_option maxRecDepth 16384 in
theorem ct_w_10 : ((tables_1.drop 400).take 40).all (fun c => su_isCode c || c.before start1.args0 ct_s) = true := by decide +kernel
set_option maxRecDepth 16384 in
theorem ct_w_11 : ((tables_1.drop 440).take 40).all (fun c => su_isCode c || c.before start1.args0 ct_s) = true := by decide +kernel
set_option maxRecDepth 16384 in
theorem ct_w_12 : ((tables_1.drop 480).take 40).all (fun c => su_isCode c || c.before start1.args0 ct_s) = true := by decide +kernel
set_option maxRecDepth 16384 in
theorem ct_w_13 : ((tables_1.drop 520).take 40).all (fun c => su_isCode c || c.before start1.args0 ct_s) = true := by decide +kernel
set_option maxRecDepth 16384 in
theorem ct_w_14 : ((tables_1.drop 560).take 40).all (fun c => su_isCode c || c.before start1.args0 ct_s) = true := by decide +kernel
set_option maxRecDepth 16384 in
theorem ct_w_15 : ((tables_1.drop 600).take 40).all (fun c => su_isCode c || c.before start1.args0 ct_s) = true := by decide +kernel
set_option maxRecDepth 16384 in
theorem ct_w_16 : ((tables_1.drop 640).take 40).all (fun c => su_isCode c || c.before start1.args0 ct_s) = true := by decide +kernel
