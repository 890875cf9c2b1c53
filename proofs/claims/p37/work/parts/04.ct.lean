set_option maxRecDepth 16384 in
theorem ct_runs : ct_scan start1.p0.tables start1.e0 60 ct_s = true := by decide +kernel
set_option maxRecDepth 16384 in
theorem ct_tail : (tables_1.drop 1360).all (ct_light start1.args0) = true := by decide +kernel
theorem ct_r_16 : (tables_1.drop 1280).all (ct_light start1.args0) = true := ct_join tables_1 _ 1280 80 ct_w_16 ct_tail
theorem ct_r_15 : (tables_1.drop 1200).all (ct_light start1.args0) = true := ct_join tables_1 _ 1200 80 ct_w_15 ct_r_16
theorem ct_r_14 : (tables_1.drop 1120).all (ct_light start1.args0) = true := ct_join tables_1 _ 1120 80 ct_w_14 ct_r_15
theorem ct_r_13 : (tables_1.drop 1040).all (ct_light start1.args0) = true := ct_join tables_1 _ 1040 80 ct_w_13 ct_r_14
theorem ct_r_12 : (tables_1.drop 960).all (ct_light start1.args0) = true := ct_join tables_1 _ 960 80 ct_w_12 ct_r_13
theorem ct_r_11 : (tables_1.drop 880).all (ct_light start1.args0) = true := ct_join tables_1 _ 880 80 ct_w_11 ct_r_12
theorem ct_r_10 : (tables_1.drop 800).all (ct_light start1.args0) = true := ct_join tables_1 _ 800 80 ct_w_10 ct_r_11
theorem ct_r_9 : (tables_1.drop 720).all (ct_light start1.args0) = true := ct_join tables_1 _ 720 80 ct_w_9 ct_r_10
theorem ct_r_8 : (tables_1.drop 640).all (ct_light start1.args0) = true := ct_join tables_1 _ 640 80 ct_w_8 ct_r_9
theorem ct_r_7 : (tables_1.drop 560).all (ct_light start1.args0) = true := ct_join tables_1 _ 560 80 ct_w_7 ct_r_8
theorem ct_r_6 : (tables_1.drop 480).all (ct_light start1.args0) = true := ct_join tables_1 _ 480 80 ct_w_6 ct_r_7
theorem ct_r_5 : (tables_1.drop 400).all (ct_light start1.args0) = true := ct_join tables_1 _ 400 80 ct_w_5 ct_r_6
theorem ct_r_4 : (tables_1.drop 320).all (ct_light start1.args0) = true := ct_join tables_1 _ 320 80 ct_w_4 ct_r_5
theorem ct_r_3 : (tables_1.drop 240).all (ct_light start1.args0) = true := ct_join tables_1 _ 240 80 ct_w_3 ct_r_4
theorem ct_r_2 : (tables_1.drop 160).all (ct_light start1.args0) = true := ct_join tables_1 _ 160 80 ct_w_2 ct_r_3
theorem ct_r_1 : (tables_1.drop 80).all (ct_light start1.args0) = true := ct_join tables_1 _ 80 80 ct_w_1 ct_r_2
theorem ct_r_0 : (tables_1.drop 0).all (ct_light start1.args0) = true := ct_join tables_1 _ 0 80 ct_w_0 ct_r_1
theorem ct_words : ∀ c ∈ (Cond.code x code maxLocals ret :: tables_1), c.before start1.args0 ct_s = true := by
  intro c hc
  refine ct_up (start1.words c hc) ?_
  rcases List.mem_cons.mp hc with h | h
  · rw [h]; rfl
  · exact List.all_eq_true.mp (show (tables_1.drop 0).all _ = true from ct_r_0) c h
set_option maxRecDepth 16384 in
theorem ct_atStart : AtStart classFile x code maxLocals ret World_1 tables_1 room_1 Calls_1 rest_1 Pre_1 launch0 start1.p0 start1.e0 ct_s ⟨0, 0⟩ start1.args0 Lib.HandBits.below0 :=
  ⟨lists_1, trivial, launch0.admits_env _ _ _, launch0.least_env, fairChoices_fair.cas, fairChoices_fair.clock, rfl, by decide +kernel, by decide +kernel,
    (Spec.applies_iff rfl).mpr ⟨rfl, rfl, rfl, by decide +kernel, by decide +kernel, by decide +kernel, launch0.hasRoom_least _ room_1 (by decide +kernel) (by decide +kernel) (by decide +kernel) (by decide +kernel) (by decide +kernel) (by decide +kernel), atoms_intro ct_words⟩,
    trivial, (show rest_1_c.before start1.args0 ct_s = true by decide +kernel), (show (Cond.and given_1 narrow_1).before start1.args0 ct_s = true by decide +kernel)⟩
/-- THE STATEMENT IS FALSE AS IT IS PRINTED: from the counter-start the law's run never comes to its end. -/
theorem ct_not_1 : ¬ Claimed_1_1 := by
  intro h
  have hs := ct_atStart
  unfold AtStart at hs
  obtain ⟨hl, hw, ha, _, hc, hk, hf, haf, hh, hap, h1, h2, h3⟩ := hs
  obtain ⟨n, o, _, hr, he, _⟩ := h launch0 rfl hl hw start1.p0 start1.e0 ha hc hk ct_s ⟨0, 0⟩ start1.args0 Lib.HandBits.below0 hf haf hh hap ⟨h1, h2, h3⟩
  exact ct_scan_not 60 ct_s ct_runs n o hr he
theorem ct_not_2 : ¬ Claimed_1_2 := by
  intro h
  have hs := ct_atStart
  unfold AtStart at hs
  obtain ⟨hl, hw, ha, _, hc, hk, hf, haf, hh, hap, h1, h2, h3⟩ := hs
  obtain ⟨n, o, _, hr, he, _⟩ := h launch0 rfl hl hw start1.p0 start1.e0 ha hc hk ct_s ⟨0, 0⟩ start1.args0 Lib.HandBits.below0 hf haf hh hap ⟨h1, h2, h3⟩
  exact ct_scan_not 60 ct_s ct_runs n o hr he
theorem ct_refuted : ¬ (Claimed_1_1 ∧ Claimed_1_2) := fun h => ct_not_1 h.1
/-! the control: at the witness's own start (the array in the class "[I") the same sixty steps go on running -/
set_option maxRecDepth 16384 in
theorem ct_control : ct_run (stepsAlone start1.p0.tables start1.e0 60 start1.about) = true := by decide +kernel
