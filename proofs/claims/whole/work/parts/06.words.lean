/-! words: where they stand in the tables -/
def sg_gw : List Cond := lw_tbl.filter goodWord
def sg_ck (p : Nat) (w : Cond) : Bool := decide (lw_tbl[p]? = some w) && goodWord w
theorem sg_ck_mem {p : Nat} {w : Cond} (h : sg_ck p w = true) : w ∈ sg_gw := by
  simp only [sg_ck, Bool.and_eq_true, decide_eq_true_eq] at h
  exact List.mem_filter.mpr ⟨List.mem_of_getElem? h.1, h.2⟩
def sg_cT (c : Nat) : vw_C := vwCl.getD c ("", TX0, 0)
def sg_tT (c : Nat) : Nat → FieldType := match c with
  | 0 => tyX0
  | 1 => tyX1
  | 2 => tyX2
  | 3 => tyX3
  | 4 => tyX4
  | 5 => tyX5
  | 6 => tyX6
  | 7 => tyX7
  | 8 => tyX8
  | 9 => tyX9
  | _ => tyX10
theorem sg_vw {c : Nat} (h : c < 11) : vwCl[c]? = some ((sg_cT c).1, (sg_cT c).2.1, (sg_cT c).2.2) := by
  unfold sg_cT
  rw [List.getD_eq_getElem?_getD]
  have hl : c < vwCl.length := h
  rw [List.getElem?_eq_getElem hl]
  rfl
theorem sg_vn : ∀ c, c < 11 → (sg_cT c).2.2 = sg_nf c := by decide +kernel
/-- places of the words on fields -/
def sg_UP : List (List Nat) := [[322, 324, 326, 328, 330, 332, 334, 336, 338, 340, 342, 344, 346, 348, 350, 352], [201, 203, 205, 207, 209, 211, 213, 215, 217, 219, 221, 223, 225, 227, 229, 231, 233], [130, 132, 134, 136, 138, 140, 142, 144, 146], [284, 286, 288, 290, 292], [367, 369, 371], [412, 414, 416, 418, 420], [388, 390, 392, 394], [248, 250, 252, 254], [846, 848, 850, 852], [430, 432, 434, 436, 438, 440, 442], [1004, 1006, 1008, 1010, 1012, 1014, 1016, 1018, 1020, 1022, 1024, 1026, 1028, 1030, 1032, 1034, 1036, 1038, 1040, 1042, 1044, 1046, 1048, 1050, 1052, 1054, 1056, 1058, 1060, 1062, 1064, 1066, 1068, 1070, 1072, 1074, 1076, 1078, 1080, 1082, 1084, 1086, 1088, 1090, 1092, 1094, 1096, 1098, 1100]]
def sg_lays (c j : Nat) : Cond := u_lay (sg_cT c).1 (sg_cT c).2.1 j
theorem sg_lw0 : ∀ j, j < 16 → sg_ck ((sg_UP.getD 0 []).getD j 0) (sg_lays 0 j) = true := by decide +kernel
theorem sg_lw1 : ∀ j, j < 17 → sg_ck ((sg_UP.getD 1 []).getD j 0) (sg_lays 1 j) = true := by decide +kernel
theorem sg_lw2 : ∀ j, j < 9 → sg_ck ((sg_UP.getD 2 []).getD j 0) (sg_lays 2 j) = true := by decide +kernel
theorem sg_lw3 : ∀ j, j < 5 → sg_ck ((sg_UP.getD 3 []).getD j 0) (sg_lays 3 j) = true := by decide +kernel
theorem sg_lw4 : ∀ j, j < 3 → sg_ck ((sg_UP.getD 4 []).getD j 0) (sg_lays 4 j) = true := by decide +kernel
theorem sg_lw5 : ∀ j, j < 5 → sg_ck ((sg_UP.getD 5 []).getD j 0) (sg_lays 5 j) = true := by decide +kernel
theorem sg_lw6 : ∀ j, j < 4 → sg_ck ((sg_UP.getD 6 []).getD j 0) (sg_lays 6 j) = true := by decide +kernel
theorem sg_lw7 : ∀ j, j < 4 → sg_ck ((sg_UP.getD 7 []).getD j 0) (sg_lays 7 j) = true := by decide +kernel
theorem sg_lw8 : ∀ j, j < 4 → sg_ck ((sg_UP.getD 8 []).getD j 0) (sg_lays 8 j) = true := by decide +kernel
theorem sg_lw9 : ∀ j, j < 7 → sg_ck ((sg_UP.getD 9 []).getD j 0) (sg_lays 9 j) = true := by decide +kernel
theorem sg_lw10 : ∀ j, j < 49 → sg_ck ((sg_UP.getD 10 []).getD j 0) (sg_lays 10 j) = true := by decide +kernel
theorem sg_lw : ∀ c, c < 11 → ∀ j, j < sg_nf c → sg_ck ((sg_UP.getD c []).getD j 0) (sg_lays c j) = true
  | 0, _ => sg_lw0
  | 1, _ => sg_lw1
  | 2, _ => sg_lw2
  | 3, _ => sg_lw3
  | 4, _ => sg_lw4
  | 5, _ => sg_lw5
  | 6, _ => sg_lw6
  | 7, _ => sg_lw7
  | 8, _ => sg_lw8
  | 9, _ => sg_lw9
  | 10, _ => sg_lw10
  | _ + 11, h => by omega
theorem sg_uws {c : Nat} (hc : c < 11) : ∀ w ∈ u_ws (sg_cT c).1 (sg_cT c).2.1 (sg_cT c).2.2, w ∈ sg_gw := by
  intro w hw
  unfold u_ws at hw
  obtain ⟨j, hj, rfl⟩ := List.mem_map.mp hw
  rw [List.mem_range, sg_vn c hc] at hj
  exact sg_ck_mem (sg_lw c hc j hj)
theorem sg_tys {c : Nat} (hc : c < 11) : ∀ k, k < (sg_cT c).2.2 → parseFieldDescriptor ((sg_cT c).2.1 k).2.2.1 = some (sg_tT c k) := by
  match c, hc with
  | 0, _ => exact tyX0_ok
  | 1, _ => exact tyX1_ok
  | 2, _ => exact tyX2_ok
  | 3, _ => exact tyX3_ok
  | 4, _ => exact tyX4_ok
  | 5, _ => exact tyX5_ok
  | 6, _ => exact tyX6_ok
  | 7, _ => exact tyX7_ok
  | 8, _ => exact tyX8_ok
  | 9, _ => exact tyX9_ok
  | 10, _ => exact tyX10_ok
  | _ + 11, h => omega
theorem sg_nms {c : Nat} (hc : c < 11) : ∀ a, a < (sg_cT c).2.2 → ∀ b, b < (sg_cT c).2.2 → a ≠ b → ((sg_cT c).2.1 a).2.1 ≠ ((sg_cT c).2.1 b).2.1 := by
  match c, hc with
  | 0, _ => exact nmX0
  | 1, _ => exact nmX1
  | 2, _ => exact nmX2
  | 3, _ => exact nmX3
  | 4, _ => exact nmX4
  | 5, _ => exact nmX5
  | 6, _ => exact nmX6
  | 7, _ => exact nmX7
  | 8, _ => exact nmX8
  | 9, _ => exact nmX9
  | 10, _ => exact nmX10
  | _ + 11, h => omega
/-- a field's kind, and whether it is final -/
theorem sg_fk : ∀ c, c < 11 → ∀ j, j < sg_nf c → ((sg_cT c).2.1 j).1 = (sg_cT c).1 ∧ ((sg_cT c).2.1 j).2.2.2 = sg_fb c j ∧ (sg_rb c j = false → sg_tT c j = .int) ∧ (sg_rb c j = true → defaultValue (sg_tT c j) = .null) ∧ (sg_cT c).1 = sg_cn c := by decide +kernel
theorem sg_rk : ∀ c, c < 11 → ∀ j, j < sg_nf c → sg_rb c j = true → (sg_tT c j = .array .int ∨ sg_tT c j = .array .boolean ∨ (List.range 11).any (fun d => decide (sg_tT c j = .object (sg_cn d))) = true ∨ sg_tT c j = .array (.object RX2)) := by decide +kernel
def sg_fck (o : Nat) (e : Nat × Nat × Nat × Nat) : Bool := sg_ck e.2.2.2 (.fieldLink (sg_cn o) e.1 (sg_cn e.2.1) ((sg_cT e.2.1).2.1 e.2.2.1).2.1 ((sg_cT e.2.1).2.1 e.2.2.1).2.2.1) && decide (e.2.1 < 11) && decide (e.2.2.1 < sg_nf e.2.1)
theorem sg_fw0 : (sg_FT.getD 0 []).all (sg_fck 0) = true := by decide +kernel
theorem sg_fw1 : (sg_FT.getD 1 []).all (sg_fck 1) = true := by decide +kernel
theorem sg_fw2 : (sg_FT.getD 2 []).all (sg_fck 2) = true := by decide +kernel
theorem sg_fw3 : (sg_FT.getD 3 []).all (sg_fck 3) = true := by decide +kernel
theorem sg_fw4 : (sg_FT.getD 4 []).all (sg_fck 4) = true := by decide +kernel
theorem sg_fw5 : (sg_FT.getD 5 []).all (sg_fck 5) = true := by decide +kernel
theorem sg_fw6 : (sg_FT.getD 6 []).all (sg_fck 6) = true := by decide +kernel
theorem sg_fw7 : (sg_FT.getD 7 []).all (sg_fck 7) = true := by decide +kernel
theorem sg_fw8 : (sg_FT.getD 8 []).all (sg_fck 8) = true := by decide +kernel
theorem sg_fw9 : (sg_FT.getD 9 []).all (sg_fck 9) = true := by decide +kernel
theorem sg_fw10 : (sg_FT.getD 10 []).all (sg_fck 10) = true := by decide +kernel
theorem sg_fw : ∀ o, (sg_FT.getD o []).all (sg_fck o) = true
  | 0 => sg_fw0
  | 1 => sg_fw1
  | 2 => sg_fw2
  | 3 => sg_fw3
  | 4 => sg_fw4
  | 5 => sg_fw5
  | 6 => sg_fw6
  | 7 => sg_fw7
  | 8 => sg_fw8
  | 9 => sg_fw9
  | 10 => sg_fw10
  | 11 => rfl
  | 12 => rfl
  | 13 => rfl
  | 14 => rfl
  | _ + 15 => rfl
theorem sg_fl_ok {o i c j p : Nat} (h : sg_fl o i = some (c, j, p)) : Cond.fieldLink (sg_cn o) i (sg_cn c) ((sg_cT c).2.1 j).2.1 ((sg_cT c).2.1 j).2.2.1 ∈ sg_gw ∧ c < 11 ∧ j < sg_nf c := by
  unfold sg_fl at h
  cases hf : (sg_FT.getD o []).find? (fun e => e.1 == i) with
  | none => rw [hf] at h; cases h
  | some e =>
    rw [hf] at h
    have hm := List.mem_of_find?_eq_some hf
    have he := List.find?_some hf
    have hk := List.all_eq_true.mp (sg_fw o) e hm
    obtain ⟨e1, e2, e3, e4⟩ := e
    cases h
    simp only [beq_iff_eq] at he
    subst he
    simp only [sg_fck, Bool.and_eq_true, decide_eq_true_eq] at hk
    exact ⟨sg_ck_mem hk.1.1, hk.1.2, hk.2⟩
def sg_IP : List (Nat × Nat) := [(258, 71), (90, 67), (109, 69), (264, 72), (356, 73), (398, 75), (375, 74), (237, 70), (837, 80), (82, 66), (950, 76)]
theorem sg_iw : ∀ c, c < 11 → sg_ck (sg_IP.getD c (0, 0)).1 (.instantiable (sg_cT c).1 (sg_cT c).2.2) = true ∧ sg_ck (sg_IP.getD c (0, 0)).2 (.initialized (sg_cT c).1) = true := by decide +kernel
def sg_nck (o : Nat) (e : Nat × Nat × Nat) : Bool := sg_ck e.2.2 (.classLink (sg_cn o) e.1 (sg_cT e.2.1).1) && decide (e.2.1 < 11)
theorem sg_nw0 : ∀ o, o < 15 → (sg_NT.getD o []).all (sg_nck o) = true := by decide +kernel
theorem sg_nl_ok {o i c p : Nat} (ho : o < 15) (h : sg_nl o i = some (c, p)) : Cond.classLink (sg_cn o) i (sg_cT c).1 ∈ sg_gw ∧ c < 11 := by
  unfold sg_nl at h
  cases hf : (sg_NT.getD o []).find? (fun e => e.1 == i) with
  | none => rw [hf] at h; cases h
  | some e =>
    rw [hf] at h
    have hm := List.mem_of_find?_eq_some hf
    have he := List.find?_some hf
    have hk := List.all_eq_true.mp (sg_nw0 o ho) e hm
    obtain ⟨e1, e2, e3⟩ := e
    cases h
    simp only [beq_iff_eq] at he
    subst he
    simp only [sg_nck, Bool.and_eq_true, decide_eq_true_eq] at hk
    exact ⟨sg_ck_mem hk.1, hk.2⟩
theorem sg_icw0 : ∀ o, o < 15 → (sg_IT.getD o []).all (fun e => sg_ck e.2.2 (.constant (sg_cn o) e.1 e.2.1)) = true := by decide +kernel
theorem sg_il_ok {o i p : Nat} {v : Int32} (ho : o < 15) (h : sg_il o i = some (v, p)) : Cond.constant (sg_cn o) i v ∈ sg_gw := by
  unfold sg_il at h
  cases hf : (sg_IT.getD o []).find? (fun e => e.1 == i) with
  | none => rw [hf] at h; cases h
  | some e =>
    rw [hf] at h
    have hm := List.mem_of_find?_eq_some hf
    have he := List.find?_some hf
    have hk := List.all_eq_true.mp (sg_icw0 o ho) e hm
    obtain ⟨e1, e2, e3⟩ := e
    cases h
    simp only [beq_iff_eq] at he
    subst he
    exact sg_ck_mem hk
theorem sg_jcw0 : ∀ o, o < 15 → (sg_JT.getD o []).all (fun e => sg_ck e.2.2 (.constantLong (sg_cn o) e.1 e.2.1)) = true := by decide +kernel
theorem sg_jl_ok {o i p : Nat} {v : Int64} (ho : o < 15) (h : sg_jl o i = some (v, p)) : Cond.constantLong (sg_cn o) i v ∈ sg_gw := by
  unfold sg_jl at h
  cases hf : (sg_JT.getD o []).find? (fun e => e.1 == i) with
  | none => rw [hf] at h; cases h
  | some e =>
    rw [hf] at h
    have hm := List.mem_of_find?_eq_some hf
    have he := List.find?_some hf
    have hk := List.all_eq_true.mp (sg_jcw0 o ho) e hm
    obtain ⟨e1, e2, e3⟩ := e
    cases h
    simp only [beq_iff_eq] at he
    subst he
    exact sg_ck_mem hk
theorem sg_gw0 : sg_ck 504 (.fieldLink (sg_cn 9) 110 RX9 (sg_Rn 0) "[I") = true ∧ sg_ck 506 (.fieldLink (sg_cn 9) 113 RX9 (sg_Rn 1) "[I") = true := by decide +kernel
/-- words that aren't kept by the tables alone: nest mates and their like -/
def sg_nw : List Cond := [.methodLinkNest (sg_cn 9) 37 yX4_init RX9, .methodLinkNest (sg_cn 9) 44 yX6_init RX9, .methodLinkNest (sg_cn 9) 51 yX5_init RX9, .methodLinkNest (sg_cn 9) 298 yX8_init RX9, .methodLinkNest (sg_cn 0) 11 yX3_init RX9, .methodLinkNest (sg_cn 0) 203 yX9_isLastInRow RX9, .methodLinkNest (sg_cn 1) 65 yX2_init RX9, .methodLinkNest (sg_cn 7) 27 yX9_isWithin RX9, .fieldLinkNest (sg_cn 1) 18 RX9 (sg_Rn 2) "[I" RX9, .castable "[I" "java/lang/Cloneable", .arrayOver (.object RX2)]
def sg_nwp : List Nat := [357, 376, 399, 838, 265, 660, 110, 462, 95, 102, 105]
theorem sg_nw_tbl : sg_nw = sg_nwp.filterMap (fun p => lw_tbl[p]?) := by decide +kernel
theorem sg_nw_of {A : Array Value} {s : State} (h : ∀ w ∈ sg_nw, w.before A s = true) : ∀ w ∈ sg_nw, va_Nw w s := by
  simp only [sg_nw, List.forall_mem_cons] at h ⊢
  obtain ⟨h0, h1, h2, h3, h4, h5, h6, h7, h8, h9, h10, h99⟩ := h
  exact ⟨va_Nw.of rfl h0, va_Nw.of rfl h1, va_Nw.of rfl h2, va_Nw.of rfl h3, va_Nw.of rfl h4, va_Nw.of rfl h5, va_Nw.of rfl h6, va_Nw.of rfl h7, va_Nw.of rfl h8, va_Nw.of rfl h9, va_AO.of h10, fun _ hn => absurd hn List.not_mem_nil⟩
theorem sg_nw_warm {s U : State} (hW : s.WarmedH U.vm) (h : ∀ w ∈ sg_nw, va_Nw w s) : ∀ w ∈ sg_nw, va_Nw w U := by
  simp only [sg_nw, List.forall_mem_cons] at h ⊢
  obtain ⟨h0, h1, h2, h3, h4, h5, h6, h7, h8, h9, h10, h99⟩ := h
  exact ⟨va_Nw.warmM hW h0, va_Nw.warmM hW h1, va_Nw.warmM hW h2, va_Nw.warmM hW h3, va_Nw.warmM hW h4, va_Nw.warmM hW h5, va_Nw.warmM hW h6, va_Nw.warmM hW h7, va_Nw.warmF hW h8, va_Nw.warmC hW h9, va_AO.moved hW.alike h10, fun _ hn => absurd hn List.not_mem_nil⟩
/-! methods -/
def sg_ss : List Bool := [false, true, false, true, false, false, false, true, false, false, false, false, true, true, false, false, true, false, true, true, false, false, false, false, false, false, false, false, false, false, false, false, true, false, false, false, false, false, false, false, false, false, false, false, false, false, true, false, false, false, false, false, false, false, false, false, false, false, false, false, false, false, false, false, false, false, false, false, false, false, false, false, false, false, false, false, true, true, true, true, true, true, true, false, false, false, false, false, false, false, false, false, false, false, false, false, false, false, false, false, false, false, false, false, false, false, false, false, false, false, false, false, false, false, false, false, false, false, false, false, false, false, false, false, false, false, false, true, true, false, false, false, false, false, false, false, false, false, false, false, false, false, false, false, false, false, false, false, false, false, false, false, false, false, false, false, false, false, false, false, false, false, false, false, false, false, false, false, false, false, false, false, false, false, false, false, false, false, false, false, true, true, true, true, true, true, true, false, false, false, false, false, false, false, false, false, false, false, false, false, false, false, false, false]
def sg_sb (m : Nat) : Bool := sg_ss.getD m false
def sg_mck (m : Nat) : Bool := sg_ck (sg_pt m).2.2.2 (.initialized (sg_my m).cls) && cond (sg_sb m) (sg_ck (sg_pt m).2.1 (.static (sg_my m))) (sg_ck (sg_pt m).2.1 (.instanceMethod (sg_my m))) && decide ((sg_my m).cls = sg_cn (sg_mo m)) && decide ((sg_my m).cls ≠ "java/lang/invoke/MethodHandle" ∧ (sg_my m).cls ≠ "java/lang/invoke/VarHandle") && decide ((parseMethodDescriptor (sg_my m).desc).map (fun d => d.parameters.length + cond (sg_sb m) 0 1) = some (sg_ac m)) && plainFor (sg_my m) && decide (sg_mo m < 15)
theorem sg_mw_0 : ∀ k, k < 26 → sg_mck (0 + k) = true := by decide +kernel
theorem sg_mw_26 : ∀ k, k < 26 → sg_mck (26 + k) = true := by decide +kernel
theorem sg_mw_52 : ∀ k, k < 26 → sg_mck (52 + k) = true := by decide +kernel
theorem sg_mw_78 : ∀ k, k < 26 → sg_mck (78 + k) = true := by decide +kernel
theorem sg_mw_104 : ∀ k, k < 26 → sg_mck (104 + k) = true := by decide +kernel
theorem sg_mw_130 : ∀ k, k < 26 → sg_mck (130 + k) = true := by decide +kernel
theorem sg_mw_156 : ∀ k, k < 26 → sg_mck (156 + k) = true := by decide +kernel
theorem sg_mw_182 : ∀ k, k < 21 → sg_mck (182 + k) = true := by decide +kernel
theorem sg_mw (m : Nat) (h : m < 203) : sg_mck m = true := by
  by_cases h0 : m < 26
  · have := sg_mw_0 (m - 0) (by omega)
    rwa [show 0 + (m - 0) = m by omega] at this
  by_cases h26 : m < 52
  · have := sg_mw_26 (m - 26) (by omega)
    rwa [show 26 + (m - 26) = m by omega] at this
  by_cases h52 : m < 78
  · have := sg_mw_52 (m - 52) (by omega)
    rwa [show 52 + (m - 52) = m by omega] at this
  by_cases h78 : m < 104
  · have := sg_mw_78 (m - 78) (by omega)
    rwa [show 78 + (m - 78) = m by omega] at this
  by_cases h104 : m < 130
  · have := sg_mw_104 (m - 104) (by omega)
    rwa [show 104 + (m - 104) = m by omega] at this
  by_cases h130 : m < 156
  · have := sg_mw_130 (m - 130) (by omega)
    rwa [show 130 + (m - 130) = m by omega] at this
  by_cases h156 : m < 182
  · have := sg_mw_156 (m - 156) (by omega)
    rwa [show 156 + (m - 156) = m by omega] at this
  by_cases h182 : m < 203
  · have := sg_mw_182 (m - 182) (by omega)
    rwa [show 182 + (m - 182) = m by omega] at this
  omega
theorem sg_mo_lt (m : Nat) : sg_mo m < 15 := by
  by_cases h : m < 203
  · have := sg_mw m h
    simp only [sg_mck, Bool.and_eq_true, decide_eq_true_eq] at this
    exact this.2
  · by_cases h2 : m = 203
    · subst h2
      decide +kernel
    · have : sg_mt m = sg_m0 := by
        unfold sg_mt
        rw [List.getD_eq_getElem?_getD, List.getElem?_eq_none (by show 204 ≤ m; omega)]
        rfl
      rw [show sg_mo m = (sg_mt m).2.2.2.2.1 from rfl, this]
      decide
theorem sg_cw0 : Cond.code (sg_my 0) (sg_mc 0) (sg_ml 0) (sg_mr 0) ∈ lw_tbl := List.mem_append_right _ (List.mem_append_right _ (List.mem_append_right _ (List.mem_append_right _ (List.mem_append_left _ (List.mem_of_getElem? (i := 168) rfl)))))
theorem sg_cw1 : Cond.code (sg_my 1) (sg_mc 1) (sg_ml 1) (sg_mr 1) ∈ lw_tbl := List.mem_append_right _ (List.mem_append_right _ (List.mem_append_right _ (List.mem_append_right _ (List.mem_append_right _ (List.mem_append_left _ (List.mem_of_getElem? (i := 88) rfl))))))
theorem sg_cw2 : Cond.code (sg_my 2) (sg_mc 2) (sg_ml 2) (sg_mr 2) ∈ lw_tbl := List.mem_append_right _ (List.mem_append_right _ (List.mem_append_right _ (List.mem_append_right _ (List.mem_append_right _ (List.mem_append_left _ (List.mem_of_getElem? (i := 93) rfl))))))
theorem sg_cw3 : Cond.code (sg_my 3) (sg_mc 3) (sg_ml 3) (sg_mr 3) ∈ lw_tbl := List.mem_append_right _ (List.mem_append_right _ (List.mem_append_right _ (List.mem_append_right _ (List.mem_append_right _ (List.mem_append_left _ (List.mem_of_getElem? (i := 84) rfl))))))
theorem sg_cw4 : Cond.code (sg_my 4) (sg_mc 4) (sg_ml 4) (sg_mr 4) ∈ lw_tbl := List.mem_append_right _ (List.mem_append_right _ (List.mem_append_right _ (List.mem_append_right _ (List.mem_append_right _ (List.mem_append_left _ (List.mem_of_getElem? (i := 81) rfl))))))
theorem sg_cw5 : Cond.code (sg_my 5) (sg_mc 5) (sg_ml 5) (sg_mr 5) ∈ lw_tbl := List.mem_append_right _ (List.mem_append_right _ (List.mem_append_right _ (List.mem_append_right _ (List.mem_append_right _ (List.mem_append_left _ (List.mem_of_getElem? (i := 97) rfl))))))
theorem sg_cw6 : Cond.code (sg_my 6) (sg_mc 6) (sg_ml 6) (sg_mr 6) ∈ lw_tbl := List.mem_append_right _ (List.mem_append_right _ (List.mem_append_right _ (List.mem_append_right _ (List.mem_append_right _ (List.mem_append_left _ (List.mem_of_getElem? (i := 105) rfl))))))
theorem sg_cw7 : Cond.code (sg_my 7) (sg_mc 7) (sg_ml 7) (sg_mr 7) ∈ lw_tbl := List.mem_append_right _ (List.mem_append_right _ (List.mem_append_right _ (List.mem_append_right _ (List.mem_append_right _ (List.mem_append_left _ (List.mem_of_getElem? (i := 108) rfl))))))
theorem sg_cw8 : Cond.code (sg_my 8) (sg_mc 8) (sg_ml 8) (sg_mr 8) ∈ lw_tbl := List.mem_append_right _ (List.mem_append_right _ (List.mem_append_right _ (List.mem_append_right _ (List.mem_append_right _ (List.mem_append_left _ (List.mem_of_getElem? (i := 101) rfl))))))
theorem sg_cw9 : Cond.code (sg_my 9) (sg_mc 9) (sg_ml 9) (sg_mr 9) ∈ lw_tbl := List.mem_append_right _ (List.mem_append_right _ (List.mem_append_right _ (List.mem_append_right _ (List.mem_append_right _ (List.mem_append_left _ (List.mem_of_getElem? (i := 112) rfl))))))
theorem sg_cw10 : Cond.code (sg_my 10) (sg_mc 10) (sg_ml 10) (sg_mr 10) ∈ lw_tbl := List.mem_append_right _ (List.mem_append_right _ (List.mem_append_right _ (List.mem_append_right _ (List.mem_append_right _ (List.mem_append_left _ (List.mem_of_getElem? (i := 117) rfl))))))
theorem sg_cw11 : Cond.code (sg_my 11) (sg_mc 11) (sg_ml 11) (sg_mr 11) ∈ lw_tbl := List.mem_append_right _ (List.mem_append_right _ (List.mem_append_right _ (List.mem_append_right _ (List.mem_append_right _ (List.mem_append_left _ (List.mem_of_getElem? (i := 137) rfl))))))
theorem sg_cw12 : Cond.code (sg_my 12) (sg_mc 12) (sg_ml 12) (sg_mr 12) ∈ lw_tbl := List.mem_append_right _ (List.mem_append_right _ (List.mem_append_right _ (List.mem_append_right _ (List.mem_append_right _ (List.mem_append_left _ (List.mem_of_getElem? (i := 124) rfl))))))
theorem sg_cw13 : Cond.code (sg_my 13) (sg_mc 13) (sg_ml 13) (sg_mr 13) ∈ lw_tbl := List.mem_append_right _ (List.mem_append_right _ (List.mem_append_right _ (List.mem_append_right _ (List.mem_append_right _ (List.mem_append_left _ (List.mem_of_getElem? (i := 128) rfl))))))
theorem sg_cw14 : Cond.code (sg_my 14) (sg_mc 14) (sg_ml 14) (sg_mr 14) ∈ lw_tbl := List.mem_append_right _ (List.mem_append_right _ (List.mem_append_right _ (List.mem_append_right _ (List.mem_append_right _ (List.mem_append_left _ (List.mem_of_getElem? (i := 121) rfl))))))
theorem sg_cw15 : Cond.code (sg_my 15) (sg_mc 15) (sg_ml 15) (sg_mr 15) ∈ lw_tbl := List.mem_append_right _ (List.mem_append_right _ (List.mem_append_right _ (List.mem_append_right _ (List.mem_append_right _ (List.mem_append_left _ (List.mem_of_getElem? (i := 133) rfl))))))
theorem sg_cw16 : Cond.code (sg_my 16) (sg_mc 16) (sg_ml 16) (sg_mr 16) ∈ lw_tbl := List.mem_append_right _ (List.mem_append_right _ (List.mem_append_right _ (List.mem_append_right _ (List.mem_append_right _ (List.mem_append_left _ (List.mem_of_getElem? (i := 145) rfl))))))
theorem sg_cw17 : Cond.code (sg_my 17) (sg_mc 17) (sg_ml 17) (sg_mr 17) ∈ lw_tbl := List.mem_append_right _ (List.mem_append_right _ (List.mem_append_right _ (List.mem_append_right _ (List.mem_append_right _ (List.mem_append_left _ (List.mem_of_getElem? (i := 142) rfl))))))
theorem sg_cw18 : Cond.code (sg_my 18) (sg_mc 18) (sg_ml 18) (sg_mr 18) ∈ lw_tbl := List.mem_append_right _ (List.mem_append_right _ (List.mem_append_right _ (List.mem_append_right _ (List.mem_append_right _ (List.mem_append_left _ (List.mem_of_getElem? (i := 153) rfl))))))
theorem sg_cw19 : Cond.code (sg_my 19) (sg_mc 19) (sg_ml 19) (sg_mr 19) ∈ lw_tbl := List.mem_append_right _ (List.mem_append_right _ (List.mem_append_right _ (List.mem_append_right _ (List.mem_append_right _ (List.mem_append_left _ (List.mem_of_getElem? (i := 156) rfl))))))
theorem sg_cw20 : Cond.code (sg_my 20) (sg_mc 20) (sg_ml 20) (sg_mr 20) ∈ lw_tbl := List.mem_append_right _ (List.mem_append_right _ (List.mem_append_right _ (List.mem_append_right _ (List.mem_append_right _ (List.mem_append_left _ (List.mem_of_getElem? (i := 149) rfl))))))
theorem sg_cw21 : Cond.code (sg_my 21) (sg_mc 21) (sg_ml 21) (sg_mr 21) ∈ lw_tbl := List.mem_append_right _ (List.mem_append_right _ (List.mem_append_right _ (List.mem_append_right _ (List.mem_append_right _ (List.mem_append_left _ (List.mem_of_getElem? (i := 168) rfl))))))
theorem sg_cw22 : Cond.code (sg_my 22) (sg_mc 22) (sg_ml 22) (sg_mr 22) ∈ lw_tbl := List.mem_append_right _ (List.mem_append_right _ (List.mem_append_right _ (List.mem_append_right _ (List.mem_append_right _ (List.mem_append_left _ (List.mem_of_getElem? (i := 160) rfl))))))
theorem sg_cw23 : Cond.code (sg_my 23) (sg_mc 23) (sg_ml 23) (sg_mr 23) ∈ lw_tbl := List.mem_append_right _ (List.mem_append_right _ (List.mem_append_right _ (List.mem_append_right _ (List.mem_append_right _ (List.mem_append_left _ (List.mem_of_getElem? (i := 164) rfl))))))
theorem sg_cw24 : Cond.code (sg_my 24) (sg_mc 24) (sg_ml 24) (sg_mr 24) ∈ lw_tbl := List.mem_append_right _ (List.mem_append_right _ (List.mem_append_right _ (List.mem_append_right _ (List.mem_append_right _ (List.mem_append_left _ (List.mem_of_getElem? (i := 172) rfl))))))
theorem sg_cw25 : Cond.code (sg_my 25) (sg_mc 25) (sg_ml 25) (sg_mr 25) ∈ lw_tbl := List.mem_append_right _ (List.mem_append_right _ (List.mem_append_right _ (List.mem_append_right _ (List.mem_append_right _ (List.mem_append_left _ (List.mem_of_getElem? (i := 177) rfl))))))
theorem sg_cw26 : Cond.code (sg_my 26) (sg_mc 26) (sg_ml 26) (sg_mr 26) ∈ lw_tbl := List.mem_append_right _ (List.mem_append_right _ (List.mem_append_right _ (List.mem_append_right _ (List.mem_append_right _ (List.mem_append_left _ (List.mem_of_getElem? (i := 193) rfl))))))
theorem sg_cw27 : Cond.code (sg_my 27) (sg_mc 27) (sg_ml 27) (sg_mr 27) ∈ lw_tbl := List.mem_append_right _ (List.mem_append_right _ (List.mem_append_right _ (List.mem_append_right _ (List.mem_append_right _ (List.mem_append_left _ (List.mem_of_getElem? (i := 189) rfl))))))
theorem sg_cw28 : Cond.code (sg_my 28) (sg_mc 28) (sg_ml 28) (sg_mr 28) ∈ lw_tbl := List.mem_append_right _ (List.mem_append_right _ (List.mem_append_right _ (List.mem_append_right _ (List.mem_append_right _ (List.mem_append_left _ (List.mem_of_getElem? (i := 185) rfl))))))
theorem sg_cw29 : Cond.code (sg_my 29) (sg_mc 29) (sg_ml 29) (sg_mr 29) ∈ lw_tbl := List.mem_append_right _ (List.mem_append_right _ (List.mem_append_right _ (List.mem_append_right _ (List.mem_append_right _ (List.mem_append_left _ (List.mem_of_getElem? (i := 181) rfl))))))
theorem sg_cw30 : Cond.code (sg_my 30) (sg_mc 30) (sg_ml 30) (sg_mr 30) ∈ lw_tbl := List.mem_append_right _ (List.mem_append_right _ (List.mem_append_right _ (List.mem_append_right _ (List.mem_append_right _ (List.mem_append_left _ (List.mem_of_getElem? (i := 213) rfl))))))
theorem sg_cw31 : Cond.code (sg_my 31) (sg_mc 31) (sg_ml 31) (sg_mr 31) ∈ lw_tbl := List.mem_append_right _ (List.mem_append_right _ (List.mem_append_right _ (List.mem_append_right _ (List.mem_append_right _ (List.mem_append_right _ (List.mem_of_getElem? (i := 101) rfl))))))
theorem sg_cw32 : Cond.code (sg_my 32) (sg_mc 32) (sg_ml 32) (sg_mr 32) ∈ lw_tbl := List.mem_append_right _ (List.mem_append_right _ (List.mem_append_right _ (List.mem_append_right _ (List.mem_append_right _ (List.mem_append_left _ (List.mem_of_getElem? (i := 203) rfl))))))
theorem sg_cw33 : Cond.code (sg_my 33) (sg_mc 33) (sg_ml 33) (sg_mr 33) ∈ lw_tbl := List.mem_append_right _ (List.mem_append_right _ (List.mem_append_right _ (List.mem_append_right _ (List.mem_append_right _ (List.mem_append_left _ (List.mem_of_getElem? (i := 200) rfl))))))
theorem sg_cw34 : Cond.code (sg_my 34) (sg_mc 34) (sg_ml 34) (sg_mr 34) ∈ lw_tbl := List.mem_append_right _ (List.mem_append_right _ (List.mem_append_right _ (List.mem_append_right _ (List.mem_append_right _ (List.mem_append_left _ (List.mem_of_getElem? (i := 209) rfl))))))
theorem sg_cw35 : Cond.code (sg_my 35) (sg_mc 35) (sg_ml 35) (sg_mr 35) ∈ lw_tbl := List.mem_append_right _ (List.mem_append_right _ (List.mem_append_right _ (List.mem_append_right _ (List.mem_append_right _ (List.mem_append_right _ (List.mem_of_getElem? (i := 3) rfl))))))
theorem sg_cw36 : Cond.code (sg_my 36) (sg_mc 36) (sg_ml 36) (sg_mr 36) ∈ lw_tbl := List.mem_append_right _ (List.mem_append_right _ (List.mem_append_right _ (List.mem_append_right _ (List.mem_append_right _ (List.mem_append_left _ (List.mem_of_getElem? (i := 235) rfl))))))
theorem sg_cw37 : Cond.code (sg_my 37) (sg_mc 37) (sg_ml 37) (sg_mr 37) ∈ lw_tbl := List.mem_append_right _ (List.mem_append_right _ (List.mem_append_right _ (List.mem_append_right _ (List.mem_append_right _ (List.mem_append_left _ (List.mem_of_getElem? (i := 231) rfl))))))
theorem sg_cw38 : Cond.code (sg_my 38) (sg_mc 38) (sg_ml 38) (sg_mr 38) ∈ lw_tbl := List.mem_append_right _ (List.mem_append_right _ (List.mem_append_right _ (List.mem_append_right _ (List.mem_append_right _ (List.mem_append_right _ (List.mem_of_getElem? (i := 15) rfl))))))
theorem sg_cw39 : Cond.code (sg_my 39) (sg_mc 39) (sg_ml 39) (sg_mr 39) ∈ lw_tbl := List.mem_append_right _ (List.mem_append_right _ (List.mem_append_right _ (List.mem_append_right _ (List.mem_append_right _ (List.mem_append_right _ (List.mem_of_getElem? (i := 11) rfl))))))
theorem sg_cw40 : Cond.code (sg_my 40) (sg_mc 40) (sg_ml 40) (sg_mr 40) ∈ lw_tbl := List.mem_append_right _ (List.mem_append_right _ (List.mem_append_right _ (List.mem_append_right _ (List.mem_append_right _ (List.mem_append_right _ (List.mem_of_getElem? (i := 7) rfl))))))
theorem sg_cw41 : Cond.code (sg_my 41) (sg_mc 41) (sg_ml 41) (sg_mr 41) ∈ lw_tbl := List.mem_append_right _ (List.mem_append_right _ (List.mem_append_right _ (List.mem_append_right _ (List.mem_append_right _ (List.mem_append_left _ (List.mem_of_getElem? (i := 239) rfl))))))
theorem sg_cw42 : Cond.code (sg_my 42) (sg_mc 42) (sg_ml 42) (sg_mr 42) ∈ lw_tbl := List.mem_append_right _ (List.mem_append_right _ (List.mem_append_right _ (List.mem_append_right _ (List.mem_append_right _ (List.mem_append_right _ (List.mem_of_getElem? (i := 19) rfl))))))
theorem sg_cw43 : Cond.code (sg_my 43) (sg_mc 43) (sg_ml 43) (sg_mr 43) ∈ lw_tbl := List.mem_append_right _ (List.mem_append_right _ (List.mem_append_right _ (List.mem_append_right _ (List.mem_append_right _ (List.mem_append_left _ (List.mem_of_getElem? (i := 227) rfl))))))
theorem sg_cw44 : Cond.code (sg_my 44) (sg_mc 44) (sg_ml 44) (sg_mr 44) ∈ lw_tbl := List.mem_append_right _ (List.mem_append_right _ (List.mem_append_right _ (List.mem_append_right _ (List.mem_append_right _ (List.mem_append_left _ (List.mem_of_getElem? (i := 223) rfl))))))
theorem sg_cw45 : Cond.code (sg_my 45) (sg_mc 45) (sg_ml 45) (sg_mr 45) ∈ lw_tbl := List.mem_append_right _ (List.mem_append_right _ (List.mem_append_right _ (List.mem_append_right _ (List.mem_append_right _ (List.mem_append_left _ (List.mem_of_getElem? (i := 218) rfl))))))
theorem sg_cw46 : Cond.code (sg_my 46) (sg_mc 46) (sg_ml 46) (sg_mr 46) ∈ lw_tbl := List.mem_append_right _ (List.mem_append_right _ (List.mem_append_right _ (List.mem_append_right _ (List.mem_append_right _ (List.mem_append_right _ (List.mem_of_getElem? (i := 26) rfl))))))
theorem sg_cw47 : Cond.code (sg_my 47) (sg_mc 47) (sg_ml 47) (sg_mr 47) ∈ lw_tbl := List.mem_append_right _ (List.mem_append_right _ (List.mem_append_right _ (List.mem_append_right _ (List.mem_append_right _ (List.mem_append_right _ (List.mem_of_getElem? (i := 23) rfl))))))
theorem sg_cw48 : Cond.code (sg_my 48) (sg_mc 48) (sg_ml 48) (sg_mr 48) ∈ lw_tbl := List.mem_append_right _ (List.mem_append_right _ (List.mem_append_right _ (List.mem_append_right _ (List.mem_append_right _ (List.mem_append_right _ (List.mem_of_getElem? (i := 31) rfl))))))
theorem sg_cw49 : Cond.code (sg_my 49) (sg_mc 49) (sg_ml 49) (sg_mr 49) ∈ lw_tbl := List.mem_append_right _ (List.mem_append_right _ (List.mem_append_right _ (List.mem_append_right _ (List.mem_append_right _ (List.mem_append_right _ (List.mem_of_getElem? (i := 39) rfl))))))
theorem sg_cw50 : Cond.code (sg_my 50) (sg_mc 50) (sg_ml 50) (sg_mr 50) ∈ lw_tbl := List.mem_append_right _ (List.mem_append_right _ (List.mem_append_right _ (List.mem_append_right _ (List.mem_append_right _ (List.mem_append_right _ (List.mem_of_getElem? (i := 47) rfl))))))
theorem sg_cw51 : Cond.code (sg_my 51) (sg_mc 51) (sg_ml 51) (sg_mr 51) ∈ lw_tbl := List.mem_append_right _ (List.mem_append_right _ (List.mem_append_right _ (List.mem_append_right _ (List.mem_append_right _ (List.mem_append_right _ (List.mem_of_getElem? (i := 35) rfl))))))
theorem sg_cw52 : Cond.code (sg_my 52) (sg_mc 52) (sg_ml 52) (sg_mr 52) ∈ lw_tbl := List.mem_append_right _ (List.mem_append_right _ (List.mem_append_right _ (List.mem_append_right _ (List.mem_append_right _ (List.mem_append_right _ (List.mem_of_getElem? (i := 43) rfl))))))
theorem sg_cw53 : Cond.code (sg_my 53) (sg_mc 53) (sg_ml 53) (sg_mr 53) ∈ lw_tbl := List.mem_append_right _ (List.mem_append_right _ (List.mem_append_right _ (List.mem_append_right _ (List.mem_append_right _ (List.mem_append_right _ (List.mem_of_getElem? (i := 55) rfl))))))
theorem sg_cw54 : Cond.code (sg_my 54) (sg_mc 54) (sg_ml 54) (sg_mr 54) ∈ lw_tbl := List.mem_append_right _ (List.mem_append_right _ (List.mem_append_right _ (List.mem_append_right _ (List.mem_append_right _ (List.mem_append_right _ (List.mem_of_getElem? (i := 51) rfl))))))
theorem sg_cw55 : Cond.code (sg_my 55) (sg_mc 55) (sg_ml 55) (sg_mr 55) ∈ lw_tbl := List.mem_append_right _ (List.mem_append_right _ (List.mem_append_right _ (List.mem_append_right _ (List.mem_append_right _ (List.mem_append_right _ (List.mem_of_getElem? (i := 59) rfl))))))
theorem sg_cw56 : Cond.code (sg_my 56) (sg_mc 56) (sg_ml 56) (sg_mr 56) ∈ lw_tbl := List.mem_append_right _ (List.mem_append_right _ (List.mem_append_right _ (List.mem_append_right _ (List.mem_append_right _ (List.mem_append_right _ (List.mem_of_getElem? (i := 67) rfl))))))
theorem sg_cw57 : Cond.code (sg_my 57) (sg_mc 57) (sg_ml 57) (sg_mr 57) ∈ lw_tbl := List.mem_append_right _ (List.mem_append_right _ (List.mem_append_right _ (List.mem_append_right _ (List.mem_append_right _ (List.mem_append_right _ (List.mem_of_getElem? (i := 63) rfl))))))
theorem sg_cw58 : Cond.code (sg_my 58) (sg_mc 58) (sg_ml 58) (sg_mr 58) ∈ lw_tbl := List.mem_append_right _ (List.mem_append_right _ (List.mem_append_right _ (List.mem_append_right _ (List.mem_append_right _ (List.mem_append_right _ (List.mem_of_getElem? (i := 75) rfl))))))
theorem sg_cw59 : Cond.code (sg_my 59) (sg_mc 59) (sg_ml 59) (sg_mr 59) ∈ lw_tbl := List.mem_append_right _ (List.mem_append_right _ (List.mem_append_right _ (List.mem_append_right _ (List.mem_append_right _ (List.mem_append_right _ (List.mem_of_getElem? (i := 71) rfl))))))
theorem sg_cw60 : Cond.code (sg_my 60) (sg_mc 60) (sg_ml 60) (sg_mr 60) ∈ lw_tbl := List.mem_append_right _ (List.mem_append_right _ (List.mem_append_right _ (List.mem_append_right _ (List.mem_append_right _ (List.mem_append_right _ (List.mem_of_getElem? (i := 84) rfl))))))
theorem sg_cw61 : Cond.code (sg_my 61) (sg_mc 61) (sg_ml 61) (sg_mr 61) ∈ lw_tbl := List.mem_append_right _ (List.mem_append_right _ (List.mem_append_right _ (List.mem_append_right _ (List.mem_append_right _ (List.mem_append_right _ (List.mem_of_getElem? (i := 79) rfl))))))
theorem sg_cw62 : Cond.code (sg_my 62) (sg_mc 62) (sg_ml 62) (sg_mr 62) ∈ lw_tbl := List.mem_append_right _ (List.mem_append_right _ (List.mem_append_right _ (List.mem_append_right _ (List.mem_append_right _ (List.mem_append_right _ (List.mem_of_getElem? (i := 93) rfl))))))
theorem sg_cw63 : Cond.code (sg_my 63) (sg_mc 63) (sg_ml 63) (sg_mr 63) ∈ lw_tbl := List.mem_append_right _ (List.mem_append_right _ (List.mem_append_right _ (List.mem_append_right _ (List.mem_append_right _ (List.mem_append_right _ (List.mem_of_getElem? (i := 88) rfl))))))
theorem sg_cw64 : Cond.code (sg_my 64) (sg_mc 64) (sg_ml 64) (sg_mr 64) ∈ lw_tbl := List.mem_append_right _ (List.mem_append_right _ (List.mem_append_right _ (List.mem_append_right _ (List.mem_append_right _ (List.mem_append_right _ (List.mem_of_getElem? (i := 97) rfl))))))
theorem sg_cw65 : Cond.code (sg_my 65) (sg_mc 65) (sg_ml 65) (sg_mr 65) ∈ lw_tbl := List.mem_append_right _ (List.mem_append_right _ (List.mem_append_right _ (List.mem_append_right _ (List.mem_append_right _ (List.mem_append_right _ (List.mem_of_getElem? (i := 105) rfl))))))
theorem sg_cw66 : Cond.code (sg_my 66) (sg_mc 66) (sg_ml 66) (sg_mr 66) ∈ lw_tbl := List.mem_append_right _ (List.mem_append_right _ (List.mem_append_right _ (List.mem_append_right _ (List.mem_append_right _ (List.mem_append_right _ (List.mem_of_getElem? (i := 113) rfl))))))
theorem sg_cw67 : Cond.code (sg_my 67) (sg_mc 67) (sg_ml 67) (sg_mr 67) ∈ lw_tbl := List.mem_append_right _ (List.mem_append_right _ (List.mem_append_right _ (List.mem_append_right _ (List.mem_append_right _ (List.mem_append_right _ (List.mem_of_getElem? (i := 121) rfl))))))
theorem sg_cw68 : Cond.code (sg_my 68) (sg_mc 68) (sg_ml 68) (sg_mr 68) ∈ lw_tbl := List.mem_append_right _ (List.mem_append_right _ (List.mem_append_right _ (List.mem_append_right _ (List.mem_append_right _ (List.mem_append_right _ (List.mem_of_getElem? (i := 117) rfl))))))
theorem sg_cw69 : Cond.code (sg_my 69) (sg_mc 69) (sg_ml 69) (sg_mr 69) ∈ lw_tbl := List.mem_append_right _ (List.mem_append_right _ (List.mem_append_right _ (List.mem_append_right _ (List.mem_append_right _ (List.mem_append_right _ (List.mem_of_getElem? (i := 109) rfl))))))
theorem sg_cw70 : Cond.code (sg_my 70) (sg_mc 70) (sg_ml 70) (sg_mr 70) ∈ lw_tbl := List.mem_append_right _ (List.mem_append_right _ (List.mem_append_right _ (List.mem_append_right _ (List.mem_append_right _ (List.mem_append_right _ (List.mem_of_getElem? (i := 125) rfl))))))
theorem sg_cw71 : Cond.code (sg_my 71) (sg_mc 71) (sg_ml 71) (sg_mr 71) ∈ lw_tbl := List.mem_append_right _ (List.mem_append_right _ (List.mem_append_right _ (List.mem_append_right _ (List.mem_append_right _ (List.mem_append_right _ (List.mem_of_getElem? (i := 129) rfl))))))
theorem sg_cw72 : Cond.code (sg_my 72) (sg_mc 72) (sg_ml 72) (sg_mr 72) ∈ lw_tbl := List.mem_append_right _ (List.mem_append_right _ (List.mem_append_right _ (List.mem_append_right _ (List.mem_append_right _ (List.mem_append_right _ (List.mem_of_getElem? (i := 134) rfl))))))
theorem sg_cw73 : Cond.code (sg_my 73) (sg_mc 73) (sg_ml 73) (sg_mr 73) ∈ lw_tbl := List.mem_append_right _ (List.mem_append_right _ (List.mem_append_right _ (List.mem_append_right _ (List.mem_append_right _ (List.mem_append_right _ (List.mem_of_getElem? (i := 138) rfl))))))
theorem sg_cw74 : Cond.code (sg_my 74) (sg_mc 74) (sg_ml 74) (sg_mr 74) ∈ lw_tbl := List.mem_append_right _ (List.mem_append_right _ (List.mem_append_right _ (List.mem_append_right _ (List.mem_append_right _ (List.mem_append_right _ (List.mem_of_getElem? (i := 142) rfl))))))
theorem sg_cw75 : Cond.code (sg_my 75) (sg_mc 75) (sg_ml 75) (sg_mr 75) ∈ lw_tbl := List.mem_append_right _ (List.mem_append_right _ (List.mem_append_right _ (List.mem_append_right _ (List.mem_append_right _ (List.mem_append_right _ (List.mem_of_getElem? (i := 146) rfl))))))
theorem sg_cw76 : Cond.code (sg_my 76) (sg_mc 76) (sg_ml 76) (sg_mr 76) ∈ lw_tbl := List.mem_append_right _ (List.mem_append_right _ (List.mem_append_right _ (List.mem_append_right _ (List.mem_append_left _ (List.mem_of_getElem? (i := 23) rfl)))))
theorem sg_cw77 : Cond.code (sg_my 77) (sg_mc 77) (sg_ml 77) (sg_mr 77) ∈ lw_tbl := List.mem_append_right _ (List.mem_append_right _ (List.mem_append_right _ (List.mem_append_left _ (List.mem_of_getElem? (i := 122) rfl))))
theorem sg_cw78 : Cond.code (sg_my 78) (sg_mc 78) (sg_ml 78) (sg_mr 78) ∈ lw_tbl := List.mem_append_right _ (List.mem_append_right _ (List.mem_append_left _ (List.mem_of_getElem? (i := 183) rfl)))
theorem sg_cw79 : Cond.code (sg_my 79) (sg_mc 79) (sg_ml 79) (sg_mr 79) ∈ lw_tbl := List.mem_append_right _ (List.mem_append_right _ (List.mem_append_left _ (List.mem_of_getElem? (i := 172) rfl)))
theorem sg_cw80 : Cond.code (sg_my 80) (sg_mc 80) (sg_ml 80) (sg_mr 80) ∈ lw_tbl := List.mem_append_right _ (List.mem_append_right _ (List.mem_append_right _ (List.mem_append_right _ (List.mem_append_left _ (List.mem_of_getElem? (i := 96) rfl)))))
theorem sg_cw81 : Cond.code (sg_my 81) (sg_mc 81) (sg_ml 81) (sg_mr 81) ∈ lw_tbl := List.mem_append_right _ (List.mem_append_left _ (List.mem_of_getElem? (i := 43) rfl))
theorem sg_cw82 : Cond.code (sg_my 82) (sg_mc 82) (sg_ml 82) (sg_mr 82) ∈ lw_tbl := List.mem_append_right _ (List.mem_append_right _ (List.mem_append_right _ (List.mem_append_right _ (List.mem_append_left _ (List.mem_of_getElem? (i := 93) rfl)))))
theorem sg_cw83 : Cond.code (sg_my 83) (sg_mc 83) (sg_ml 83) (sg_mr 83) ∈ lw_tbl := List.mem_append_right _ (List.mem_append_left _ (List.mem_of_getElem? (i := 196) rfl))
theorem sg_cw84 : Cond.code (sg_my 84) (sg_mc 84) (sg_ml 84) (sg_mr 84) ∈ lw_tbl := List.mem_append_right _ (List.mem_append_right _ (List.mem_append_right _ (List.mem_append_left _ (List.mem_of_getElem? (i := 61) rfl))))
theorem sg_cw85 : Cond.code (sg_my 85) (sg_mc 85) (sg_ml 85) (sg_mr 85) ∈ lw_tbl := List.mem_append_right _ (List.mem_append_right _ (List.mem_append_right _ (List.mem_append_left _ (List.mem_of_getElem? (i := 65) rfl))))
theorem sg_cw86 : Cond.code (sg_my 86) (sg_mc 86) (sg_ml 86) (sg_mr 86) ∈ lw_tbl := List.mem_append_right _ (List.mem_append_right _ (List.mem_append_right _ (List.mem_append_left _ (List.mem_of_getElem? (i := 71) rfl))))
theorem sg_cw87 : Cond.code (sg_my 87) (sg_mc 87) (sg_ml 87) (sg_mr 87) ∈ lw_tbl := List.mem_append_right _ (List.mem_append_right _ (List.mem_append_right _ (List.mem_append_left _ (List.mem_of_getElem? (i := 75) rfl))))
theorem sg_cw88 : Cond.code (sg_my 88) (sg_mc 88) (sg_ml 88) (sg_mr 88) ∈ lw_tbl := List.mem_append_right _ (List.mem_append_right _ (List.mem_append_right _ (List.mem_append_left _ (List.mem_of_getElem? (i := 80) rfl))))
theorem sg_cw89 : Cond.code (sg_my 89) (sg_mc 89) (sg_ml 89) (sg_mr 89) ∈ lw_tbl := List.mem_append_right _ (List.mem_append_right _ (List.mem_append_right _ (List.mem_append_left _ (List.mem_of_getElem? (i := 88) rfl))))
theorem sg_cw90 : Cond.code (sg_my 90) (sg_mc 90) (sg_ml 90) (sg_mr 90) ∈ lw_tbl := List.mem_append_right _ (List.mem_append_right _ (List.mem_append_right _ (List.mem_append_left _ (List.mem_of_getElem? (i := 84) rfl))))
theorem sg_cw91 : Cond.code (sg_my 91) (sg_mc 91) (sg_ml 91) (sg_mr 91) ∈ lw_tbl := List.mem_append_right _ (List.mem_append_right _ (List.mem_append_right _ (List.mem_append_left _ (List.mem_of_getElem? (i := 92) rfl))))
theorem sg_cw92 : Cond.code (sg_my 92) (sg_mc 92) (sg_ml 92) (sg_mr 92) ∈ lw_tbl := List.mem_append_right _ (List.mem_append_right _ (List.mem_append_right _ (List.mem_append_left _ (List.mem_of_getElem? (i := 98) rfl))))
theorem sg_cw93 : Cond.code (sg_my 93) (sg_mc 93) (sg_ml 93) (sg_mr 93) ∈ lw_tbl := List.mem_append_right _ (List.mem_append_right _ (List.mem_append_right _ (List.mem_append_left _ (List.mem_of_getElem? (i := 102) rfl))))
theorem sg_cw94 : Cond.code (sg_my 94) (sg_mc 94) (sg_ml 94) (sg_mr 94) ∈ lw_tbl := List.mem_append_right _ (List.mem_append_right _ (List.mem_append_right _ (List.mem_append_left _ (List.mem_of_getElem? (i := 106) rfl))))
theorem sg_cw95 : Cond.code (sg_my 95) (sg_mc 95) (sg_ml 95) (sg_mr 95) ∈ lw_tbl := List.mem_append_right _ (List.mem_append_right _ (List.mem_append_right _ (List.mem_append_left _ (List.mem_of_getElem? (i := 110) rfl))))
theorem sg_cw96 : Cond.code (sg_my 96) (sg_mc 96) (sg_ml 96) (sg_mr 96) ∈ lw_tbl := List.mem_append_right _ (List.mem_append_right _ (List.mem_append_right _ (List.mem_append_left _ (List.mem_of_getElem? (i := 114) rfl))))
theorem sg_cw97 : Cond.code (sg_my 97) (sg_mc 97) (sg_ml 97) (sg_mr 97) ∈ lw_tbl := List.mem_append_right _ (List.mem_append_right _ (List.mem_append_right _ (List.mem_append_left _ (List.mem_of_getElem? (i := 119) rfl))))
theorem sg_cw98 : Cond.code (sg_my 98) (sg_mc 98) (sg_ml 98) (sg_mr 98) ∈ lw_tbl := List.mem_append_right _ (List.mem_append_right _ (List.mem_append_right _ (List.mem_append_left _ (List.mem_of_getElem? (i := 129) rfl))))
theorem sg_cw99 : Cond.code (sg_my 99) (sg_mc 99) (sg_ml 99) (sg_mr 99) ∈ lw_tbl := List.mem_append_right _ (List.mem_append_right _ (List.mem_append_right _ (List.mem_append_left _ (List.mem_of_getElem? (i := 135) rfl))))
theorem sg_cw100 : Cond.code (sg_my 100) (sg_mc 100) (sg_ml 100) (sg_mr 100) ∈ lw_tbl := List.mem_append_right _ (List.mem_append_right _ (List.mem_append_right _ (List.mem_append_left _ (List.mem_of_getElem? (i := 171) rfl))))
theorem sg_cw101 : Cond.code (sg_my 101) (sg_mc 101) (sg_ml 101) (sg_mr 101) ∈ lw_tbl := List.mem_append_right _ (List.mem_append_left _ (List.mem_of_getElem? (i := 28) rfl))
theorem sg_cw102 : Cond.code (sg_my 102) (sg_mc 102) (sg_ml 102) (sg_mr 102) ∈ lw_tbl := List.mem_append_right _ (List.mem_append_right _ (List.mem_append_left _ (List.mem_of_getElem? (i := 190) rfl)))
theorem sg_cw103 : Cond.code (sg_my 103) (sg_mc 103) (sg_ml 103) (sg_mr 103) ∈ lw_tbl := List.mem_append_right _ (List.mem_append_right _ (List.mem_append_left _ (List.mem_of_getElem? (i := 194) rfl)))
theorem sg_cw104 : Cond.code (sg_my 104) (sg_mc 104) (sg_ml 104) (sg_mr 104) ∈ lw_tbl := List.mem_append_right _ (List.mem_append_right _ (List.mem_append_right _ (List.mem_append_right _ (List.mem_append_left _ (List.mem_of_getElem? (i := 153) rfl)))))
theorem sg_cw105 : Cond.code (sg_my 105) (sg_mc 105) (sg_ml 105) (sg_mr 105) ∈ lw_tbl := List.mem_append_right _ (List.mem_append_right _ (List.mem_append_right _ (List.mem_append_left _ (List.mem_of_getElem? (i := 199) rfl))))
theorem sg_cw106 : Cond.code (sg_my 106) (sg_mc 106) (sg_ml 106) (sg_mr 106) ∈ lw_tbl := List.mem_append_right _ (List.mem_append_left _ (List.mem_of_getElem? (i := 47) rfl))
theorem sg_cw107 : Cond.code (sg_my 107) (sg_mc 107) (sg_ml 107) (sg_mr 107) ∈ lw_tbl := List.mem_append_right _ (List.mem_append_right _ (List.mem_append_right _ (List.mem_append_left _ (List.mem_of_getElem? (i := 14) rfl))))
theorem sg_cw108 : Cond.code (sg_my 108) (sg_mc 108) (sg_ml 108) (sg_mr 108) ∈ lw_tbl := List.mem_append_right _ (List.mem_append_right _ (List.mem_append_left _ (List.mem_of_getElem? (i := 222) rfl)))
theorem sg_cw109 : Cond.code (sg_my 109) (sg_mc 109) (sg_ml 109) (sg_mr 109) ∈ lw_tbl := List.mem_append_right _ (List.mem_append_right _ (List.mem_append_right _ (List.mem_append_left _ (List.mem_of_getElem? (i := 22) rfl))))
theorem sg_cw110 : Cond.code (sg_my 110) (sg_mc 110) (sg_ml 110) (sg_mr 110) ∈ lw_tbl := List.mem_append_right _ (List.mem_append_right _ (List.mem_append_left _ (List.mem_of_getElem? (i := 226) rfl)))
theorem sg_cw111 : Cond.code (sg_my 111) (sg_mc 111) (sg_ml 111) (sg_mr 111) ∈ lw_tbl := List.mem_append_right _ (List.mem_append_right _ (List.mem_append_left _ (List.mem_of_getElem? (i := 230) rfl)))
theorem sg_cw112 : Cond.code (sg_my 112) (sg_mc 112) (sg_ml 112) (sg_mr 112) ∈ lw_tbl := List.mem_append_right _ (List.mem_append_right _ (List.mem_append_left _ (List.mem_of_getElem? (i := 234) rfl)))
theorem sg_cw113 : Cond.code (sg_my 113) (sg_mc 113) (sg_ml 113) (sg_mr 113) ∈ lw_tbl := List.mem_append_right _ (List.mem_append_right _ (List.mem_append_left _ (List.mem_of_getElem? (i := 238) rfl)))
theorem sg_cw114 : Cond.code (sg_my 114) (sg_mc 114) (sg_ml 114) (sg_mr 114) ∈ lw_tbl := List.mem_append_right _ (List.mem_append_right _ (List.mem_append_right _ (List.mem_append_left _ (List.mem_of_getElem? (i := 2) rfl))))
theorem sg_cw115 : Cond.code (sg_my 115) (sg_mc 115) (sg_ml 115) (sg_mr 115) ∈ lw_tbl := List.mem_append_right _ (List.mem_append_right _ (List.mem_append_right _ (List.mem_append_left _ (List.mem_of_getElem? (i := 6) rfl))))
theorem sg_cw116 : Cond.code (sg_my 116) (sg_mc 116) (sg_ml 116) (sg_mr 116) ∈ lw_tbl := List.mem_append_right _ (List.mem_append_left _ (List.mem_of_getElem? (i := 202) rfl))
theorem sg_cw117 : Cond.code (sg_my 117) (sg_mc 117) (sg_ml 117) (sg_mr 117) ∈ lw_tbl := List.mem_append_right _ (List.mem_append_right _ (List.mem_append_right _ (List.mem_append_left _ (List.mem_of_getElem? (i := 54) rfl))))
theorem sg_cw118 : Cond.code (sg_my 118) (sg_mc 118) (sg_ml 118) (sg_mr 118) ∈ lw_tbl := List.mem_append_right _ (List.mem_append_right _ (List.mem_append_left _ (List.mem_of_getElem? (i := 54) rfl)))
theorem sg_cw119 : Cond.code (sg_my 119) (sg_mc 119) (sg_ml 119) (sg_mr 119) ∈ lw_tbl := List.mem_append_right _ (List.mem_append_right _ (List.mem_append_left _ (List.mem_of_getElem? (i := 96) rfl)))
theorem sg_cw120 : Cond.code (sg_my 120) (sg_mc 120) (sg_ml 120) (sg_mr 120) ∈ lw_tbl := List.mem_append_right _ (List.mem_append_right _ (List.mem_append_right _ (List.mem_append_left _ (List.mem_of_getElem? (i := 222) rfl))))
theorem sg_cw121 : Cond.code (sg_my 121) (sg_mc 121) (sg_ml 121) (sg_mr 121) ∈ lw_tbl := List.mem_append_right _ (List.mem_append_right _ (List.mem_append_right _ (List.mem_append_left _ (List.mem_of_getElem? (i := 227) rfl))))
theorem sg_cw122 : Cond.code (sg_my 122) (sg_mc 122) (sg_ml 122) (sg_mr 122) ∈ lw_tbl := List.mem_append_right _ (List.mem_append_right _ (List.mem_append_right _ (List.mem_append_left _ (List.mem_of_getElem? (i := 232) rfl))))
theorem sg_cw123 : Cond.code (sg_my 123) (sg_mc 123) (sg_ml 123) (sg_mr 123) ∈ lw_tbl := List.mem_append_right _ (List.mem_append_right _ (List.mem_append_right _ (List.mem_append_left _ (List.mem_of_getElem? (i := 236) rfl))))
theorem sg_cw124 : Cond.code (sg_my 124) (sg_mc 124) (sg_ml 124) (sg_mr 124) ∈ lw_tbl := List.mem_append_right _ (List.mem_append_right _ (List.mem_append_left _ (List.mem_of_getElem? (i := 73) rfl)))
theorem sg_cw125 : Cond.code (sg_my 125) (sg_mc 125) (sg_ml 125) (sg_mr 125) ∈ lw_tbl := List.mem_append_right _ (List.mem_append_right _ (List.mem_append_right _ (List.mem_append_left _ (List.mem_of_getElem? (i := 210) rfl))))
theorem sg_cw126 : Cond.code (sg_my 126) (sg_mc 126) (sg_ml 126) (sg_mr 126) ∈ lw_tbl := List.mem_append_right _ (List.mem_append_left _ (List.mem_of_getElem? (i := 175) rfl))
theorem sg_cw127 : Cond.code (sg_my 127) (sg_mc 127) (sg_ml 127) (sg_mr 127) ∈ lw_tbl := List.mem_append_right _ (List.mem_append_right _ (List.mem_append_left _ (List.mem_of_getElem? (i := 156) rfl)))
theorem sg_cw128 : Cond.code (sg_my 128) (sg_mc 128) (sg_ml 128) (sg_mr 128) ∈ lw_tbl := List.mem_append_right _ (List.mem_append_right _ (List.mem_append_right _ (List.mem_append_right _ (List.mem_append_left _ (List.mem_of_getElem? (i := 86) rfl)))))
theorem sg_cw129 : Cond.code (sg_my 129) (sg_mc 129) (sg_ml 129) (sg_mr 129) ∈ lw_tbl := List.mem_append_right _ (List.mem_append_right _ (List.mem_append_left _ (List.mem_of_getElem? (i := 165) rfl)))
theorem sg_cw130 : Cond.code (sg_my 130) (sg_mc 130) (sg_ml 130) (sg_mr 130) ∈ lw_tbl := List.mem_append_right _ (List.mem_append_right _ (List.mem_append_left _ (List.mem_of_getElem? (i := 161) rfl)))
theorem sg_cw131 : Cond.code (sg_my 131) (sg_mc 131) (sg_ml 131) (sg_mr 131) ∈ lw_tbl := List.mem_append_right _ (List.mem_append_right _ (List.mem_append_left _ (List.mem_of_getElem? (i := 169) rfl)))
theorem sg_cw132 : Cond.code (sg_my 132) (sg_mc 132) (sg_ml 132) (sg_mr 132) ∈ lw_tbl := List.mem_append_right _ (List.mem_append_right _ (List.mem_append_left _ (List.mem_of_getElem? (i := 176) rfl)))
theorem sg_cw133 : Cond.code (sg_my 133) (sg_mc 133) (sg_ml 133) (sg_mr 133) ∈ lw_tbl := List.mem_append_right _ (List.mem_append_right _ (List.mem_append_right _ (List.mem_append_right _ (List.mem_append_left _ (List.mem_of_getElem? (i := 121) rfl)))))
theorem sg_cw134 : Cond.code (sg_my 134) (sg_mc 134) (sg_ml 134) (sg_mr 134) ∈ lw_tbl := List.mem_append_right _ (List.mem_append_right _ (List.mem_append_right _ (List.mem_append_right _ (List.mem_append_left _ (List.mem_of_getElem? (i := 90) rfl)))))
theorem sg_cw135 : Cond.code (sg_my 135) (sg_mc 135) (sg_ml 135) (sg_mr 135) ∈ lw_tbl := List.mem_append_right _ (List.mem_append_right _ (List.mem_append_right _ (List.mem_append_right _ (List.mem_append_left _ (List.mem_of_getElem? (i := 104) rfl)))))
theorem sg_cw136 : Cond.code (sg_my 136) (sg_mc 136) (sg_ml 136) (sg_mr 136) ∈ lw_tbl := List.mem_append_right _ (List.mem_append_right _ (List.mem_append_right _ (List.mem_append_right _ (List.mem_append_left _ (List.mem_of_getElem? (i := 112) rfl)))))
theorem sg_cw137 : Cond.code (sg_my 137) (sg_mc 137) (sg_ml 137) (sg_mr 137) ∈ lw_tbl := List.mem_append_right _ (List.mem_append_right _ (List.mem_append_right _ (List.mem_append_right _ (List.mem_append_left _ (List.mem_of_getElem? (i := 134) rfl)))))
theorem sg_cw138 : Cond.code (sg_my 138) (sg_mc 138) (sg_ml 138) (sg_mr 138) ∈ lw_tbl := List.mem_append_right _ (List.mem_append_right _ (List.mem_append_right _ (List.mem_append_right _ (List.mem_append_left _ (List.mem_of_getElem? (i := 117) rfl)))))
theorem sg_cw139 : Cond.code (sg_my 139) (sg_mc 139) (sg_ml 139) (sg_mr 139) ∈ lw_tbl := List.mem_append_right _ (List.mem_append_right _ (List.mem_append_right _ (List.mem_append_right _ (List.mem_append_left _ (List.mem_of_getElem? (i := 139) rfl)))))
theorem sg_cw140 : Cond.code (sg_my 140) (sg_mc 140) (sg_ml 140) (sg_mr 140) ∈ lw_tbl := List.mem_append_right _ (List.mem_append_right _ (List.mem_append_right _ (List.mem_append_right _ (List.mem_append_left _ (List.mem_of_getElem? (i := 55) rfl)))))
theorem sg_cw141 : Cond.code (sg_my 141) (sg_mc 141) (sg_ml 141) (sg_mr 141) ∈ lw_tbl := List.mem_append_right _ (List.mem_append_right _ (List.mem_append_right _ (List.mem_append_right _ (List.mem_append_left _ (List.mem_of_getElem? (i := 73) rfl)))))
theorem sg_cw142 : Cond.code (sg_my 142) (sg_mc 142) (sg_ml 142) (sg_mr 142) ∈ lw_tbl := List.mem_append_right _ (List.mem_append_right _ (List.mem_append_right _ (List.mem_append_right _ (List.mem_append_left _ (List.mem_of_getElem? (i := 79) rfl)))))
theorem sg_cw143 : Cond.code (sg_my 143) (sg_mc 143) (sg_ml 143) (sg_mr 143) ∈ lw_tbl := List.mem_append_right _ (List.mem_append_left _ (List.mem_of_getElem? (i := 20) rfl))
theorem sg_cw144 : Cond.code (sg_my 144) (sg_mc 144) (sg_ml 144) (sg_mr 144) ∈ lw_tbl := List.mem_append_right _ (List.mem_append_right _ (List.mem_append_left _ (List.mem_of_getElem? (i := 143) rfl)))
theorem sg_cw145 : Cond.code (sg_my 145) (sg_mc 145) (sg_ml 145) (sg_mr 145) ∈ lw_tbl := List.mem_append_right _ (List.mem_append_right _ (List.mem_append_left _ (List.mem_of_getElem? (i := 153) rfl)))
theorem sg_cw146 : Cond.code (sg_my 146) (sg_mc 146) (sg_ml 146) (sg_mr 146) ∈ lw_tbl := List.mem_append_right _ (List.mem_append_right _ (List.mem_append_left _ (List.mem_of_getElem? (i := 180) rfl)))
theorem sg_cw147 : Cond.code (sg_my 147) (sg_mc 147) (sg_ml 147) (sg_mr 147) ∈ lw_tbl := List.mem_append_right _ (List.mem_append_right _ (List.mem_append_left _ (List.mem_of_getElem? (i := 198) rfl)))
theorem sg_cw148 : Cond.code (sg_my 148) (sg_mc 148) (sg_ml 148) (sg_mr 148) ∈ lw_tbl := List.mem_append_right _ (List.mem_append_right _ (List.mem_append_left _ (List.mem_of_getElem? (i := 206) rfl)))
theorem sg_cw149 : Cond.code (sg_my 149) (sg_mc 149) (sg_ml 149) (sg_mr 149) ∈ lw_tbl := List.mem_append_right _ (List.mem_append_right _ (List.mem_append_left _ (List.mem_of_getElem? (i := 210) rfl)))
theorem sg_cw150 : Cond.code (sg_my 150) (sg_mc 150) (sg_ml 150) (sg_mr 150) ∈ lw_tbl := List.mem_append_right _ (List.mem_append_right _ (List.mem_append_left _ (List.mem_of_getElem? (i := 218) rfl)))
theorem sg_cw151 : Cond.code (sg_my 151) (sg_mc 151) (sg_ml 151) (sg_mr 151) ∈ lw_tbl := List.mem_append_right _ (List.mem_append_right _ (List.mem_append_right _ (List.mem_append_left _ (List.mem_of_getElem? (i := 10) rfl))))
theorem sg_cw152 : Cond.code (sg_my 152) (sg_mc 152) (sg_ml 152) (sg_mr 152) ∈ lw_tbl := List.mem_append_right _ (List.mem_append_right _ (List.mem_append_right _ (List.mem_append_left _ (List.mem_of_getElem? (i := 18) rfl))))
theorem sg_cw153 : Cond.code (sg_my 153) (sg_mc 153) (sg_ml 153) (sg_mr 153) ∈ lw_tbl := List.mem_append_right _ (List.mem_append_right _ (List.mem_append_right _ (List.mem_append_left _ (List.mem_of_getElem? (i := 26) rfl))))
theorem sg_cw154 : Cond.code (sg_my 154) (sg_mc 154) (sg_ml 154) (sg_mr 154) ∈ lw_tbl := List.mem_append_right _ (List.mem_append_right _ (List.mem_append_right _ (List.mem_append_left _ (List.mem_of_getElem? (i := 33) rfl))))
theorem sg_cw155 : Cond.code (sg_my 155) (sg_mc 155) (sg_ml 155) (sg_mr 155) ∈ lw_tbl := List.mem_append_right _ (List.mem_append_right _ (List.mem_append_right _ (List.mem_append_left _ (List.mem_of_getElem? (i := 46) rfl))))
theorem sg_cw156 : Cond.code (sg_my 156) (sg_mc 156) (sg_ml 156) (sg_mr 156) ∈ lw_tbl := List.mem_append_right _ (List.mem_append_right _ (List.mem_append_right _ (List.mem_append_left _ (List.mem_of_getElem? (i := 139) rfl))))
theorem sg_cw157 : Cond.code (sg_my 157) (sg_mc 157) (sg_ml 157) (sg_mr 157) ∈ lw_tbl := List.mem_append_right _ (List.mem_append_right _ (List.mem_append_right _ (List.mem_append_left _ (List.mem_of_getElem? (i := 146) rfl))))
theorem sg_cw158 : Cond.code (sg_my 158) (sg_mc 158) (sg_ml 158) (sg_mr 158) ∈ lw_tbl := List.mem_append_right _ (List.mem_append_right _ (List.mem_append_right _ (List.mem_append_left _ (List.mem_of_getElem? (i := 150) rfl))))
theorem sg_cw159 : Cond.code (sg_my 159) (sg_mc 159) (sg_ml 159) (sg_mr 159) ∈ lw_tbl := List.mem_append_right _ (List.mem_append_right _ (List.mem_append_right _ (List.mem_append_left _ (List.mem_of_getElem? (i := 154) rfl))))
theorem sg_cw160 : Cond.code (sg_my 160) (sg_mc 160) (sg_ml 160) (sg_mr 160) ∈ lw_tbl := List.mem_append_right _ (List.mem_append_right _ (List.mem_append_right _ (List.mem_append_left _ (List.mem_of_getElem? (i := 158) rfl))))
theorem sg_cw161 : Cond.code (sg_my 161) (sg_mc 161) (sg_ml 161) (sg_mr 161) ∈ lw_tbl := List.mem_append_right _ (List.mem_append_right _ (List.mem_append_right _ (List.mem_append_left _ (List.mem_of_getElem? (i := 167) rfl))))
theorem sg_cw162 : Cond.code (sg_my 162) (sg_mc 162) (sg_ml 162) (sg_mr 162) ∈ lw_tbl := List.mem_append_right _ (List.mem_append_right _ (List.mem_append_right _ (List.mem_append_left _ (List.mem_of_getElem? (i := 175) rfl))))
theorem sg_cw163 : Cond.code (sg_my 163) (sg_mc 163) (sg_ml 163) (sg_mr 163) ∈ lw_tbl := List.mem_append_right _ (List.mem_append_right _ (List.mem_append_right _ (List.mem_append_left _ (List.mem_of_getElem? (i := 183) rfl))))
theorem sg_cw164 : Cond.code (sg_my 164) (sg_mc 164) (sg_ml 164) (sg_mr 164) ∈ lw_tbl := List.mem_append_right _ (List.mem_append_right _ (List.mem_append_right _ (List.mem_append_left _ (List.mem_of_getElem? (i := 195) rfl))))
theorem sg_cw165 : Cond.code (sg_my 165) (sg_mc 165) (sg_ml 165) (sg_mr 165) ∈ lw_tbl := List.mem_append_right _ (List.mem_append_right _ (List.mem_append_right _ (List.mem_append_left _ (List.mem_of_getElem? (i := 214) rfl))))
theorem sg_cw166 : Cond.code (sg_my 166) (sg_mc 166) (sg_ml 166) (sg_mr 166) ∈ lw_tbl := List.mem_append_right _ (List.mem_append_right _ (List.mem_append_right _ (List.mem_append_right _ (List.mem_append_left _ (List.mem_of_getElem? (i := 0) rfl)))))
theorem sg_cw167 : Cond.code (sg_my 167) (sg_mc 167) (sg_ml 167) (sg_mr 167) ∈ lw_tbl := List.mem_append_right _ (List.mem_append_right _ (List.mem_append_right _ (List.mem_append_right _ (List.mem_append_left _ (List.mem_of_getElem? (i := 8) rfl)))))
theorem sg_cw168 : Cond.code (sg_my 168) (sg_mc 168) (sg_ml 168) (sg_mr 168) ∈ lw_tbl := List.mem_append_right _ (List.mem_append_right _ (List.mem_append_right _ (List.mem_append_right _ (List.mem_append_left _ (List.mem_of_getElem? (i := 12) rfl)))))
theorem sg_cw169 : Cond.code (sg_my 169) (sg_mc 169) (sg_ml 169) (sg_mr 169) ∈ lw_tbl := List.mem_append_right _ (List.mem_append_right _ (List.mem_append_right _ (List.mem_append_right _ (List.mem_append_left _ (List.mem_of_getElem? (i := 31) rfl)))))
theorem sg_cw170 : Cond.code (sg_my 170) (sg_mc 170) (sg_ml 170) (sg_mr 170) ∈ lw_tbl := List.mem_append_right _ (List.mem_append_right _ (List.mem_append_right _ (List.mem_append_right _ (List.mem_append_left _ (List.mem_of_getElem? (i := 40) rfl)))))
theorem sg_cw171 : Cond.code (sg_my 171) (sg_mc 171) (sg_ml 171) (sg_mr 171) ∈ lw_tbl := List.mem_append_right _ (List.mem_append_right _ (List.mem_append_right _ (List.mem_append_right _ (List.mem_append_left _ (List.mem_of_getElem? (i := 46) rfl)))))
theorem sg_cw172 : Cond.code (sg_my 172) (sg_mc 172) (sg_ml 172) (sg_mr 172) ∈ lw_tbl := List.mem_append_right _ (List.mem_append_right _ (List.mem_append_right _ (List.mem_append_right _ (List.mem_append_left _ (List.mem_of_getElem? (i := 83) rfl)))))
theorem sg_cw173 : Cond.code (sg_my 173) (sg_mc 173) (sg_ml 173) (sg_mr 173) ∈ lw_tbl := List.mem_append_right _ (List.mem_append_right _ (List.mem_append_right _ (List.mem_append_right _ (List.mem_append_left _ (List.mem_of_getElem? (i := 100) rfl)))))
theorem sg_cw174 : Cond.code (sg_my 174) (sg_mc 174) (sg_ml 174) (sg_mr 174) ∈ lw_tbl := List.mem_append_right _ (List.mem_append_right _ (List.mem_append_right _ (List.mem_append_right _ (List.mem_append_left _ (List.mem_of_getElem? (i := 108) rfl)))))
theorem sg_cw175 : Cond.code (sg_my 175) (sg_mc 175) (sg_ml 175) (sg_mr 175) ∈ lw_tbl := List.mem_append_right _ (List.mem_append_right _ (List.mem_append_right _ (List.mem_append_right _ (List.mem_append_left _ (List.mem_of_getElem? (i := 125) rfl)))))
theorem sg_cw176 : Cond.code (sg_my 176) (sg_mc 176) (sg_ml 176) (sg_mr 176) ∈ lw_tbl := List.mem_append_right _ (List.mem_append_right _ (List.mem_append_right _ (List.mem_append_right _ (List.mem_append_left _ (List.mem_of_getElem? (i := 130) rfl)))))
theorem sg_cw177 : Cond.code (sg_my 177) (sg_mc 177) (sg_ml 177) (sg_mr 177) ∈ lw_tbl := List.mem_append_right _ (List.mem_append_right _ (List.mem_append_right _ (List.mem_append_right _ (List.mem_append_left _ (List.mem_of_getElem? (i := 144) rfl)))))
theorem sg_cw178 : Cond.code (sg_my 178) (sg_mc 178) (sg_ml 178) (sg_mr 178) ∈ lw_tbl := List.mem_append_right _ (List.mem_append_right _ (List.mem_append_right _ (List.mem_append_right _ (List.mem_append_left _ (List.mem_of_getElem? (i := 148) rfl)))))
theorem sg_cw179 : Cond.code (sg_my 179) (sg_mc 179) (sg_ml 179) (sg_mr 179) ∈ lw_tbl := List.mem_append_right _ (List.mem_append_right _ (List.mem_append_right _ (List.mem_append_right _ (List.mem_append_left _ (List.mem_of_getElem? (i := 157) rfl)))))
theorem sg_cw180 : Cond.code (sg_my 180) (sg_mc 180) (sg_ml 180) (sg_mr 180) ∈ lw_tbl := List.mem_append_right _ (List.mem_append_right _ (List.mem_append_right _ (List.mem_append_right _ (List.mem_append_left _ (List.mem_of_getElem? (i := 163) rfl)))))
theorem sg_cw181 : Cond.code (sg_my 181) (sg_mc 181) (sg_ml 181) (sg_mr 181) ∈ lw_tbl := List.mem_append_right _ (List.mem_append_right _ (List.mem_append_left _ (List.mem_of_getElem? (i := 149) rfl)))
theorem sg_cw182 : Cond.code (sg_my 182) (sg_mc 182) (sg_ml 182) (sg_mr 182) ∈ lw_tbl := List.mem_append_right _ (List.mem_append_right _ (List.mem_append_left _ (List.mem_of_getElem? (i := 146) rfl)))
theorem sg_cw183 : Cond.code (sg_my 183) (sg_mc 183) (sg_ml 183) (sg_mr 183) ∈ lw_tbl := List.mem_append_right _ (List.mem_append_right _ (List.mem_append_left _ (List.mem_of_getElem? (i := 186) rfl)))
theorem sg_cw184 : Cond.code (sg_my 184) (sg_mc 184) (sg_ml 184) (sg_mr 184) ∈ lw_tbl := List.mem_append_right _ (List.mem_append_right _ (List.mem_append_right _ (List.mem_append_left _ (List.mem_of_getElem? (i := 142) rfl))))
theorem sg_cw185 : Cond.code (sg_my 185) (sg_mc 185) (sg_ml 185) (sg_mr 185) ∈ lw_tbl := List.mem_append_right _ (List.mem_append_right _ (List.mem_append_right _ (List.mem_append_left _ (List.mem_of_getElem? (i := 29) rfl))))
theorem sg_cw186 : Cond.code (sg_my 186) (sg_mc 186) (sg_ml 186) (sg_mr 186) ∈ lw_tbl := List.mem_append_right _ (List.mem_append_right _ (List.mem_append_right _ (List.mem_append_left _ (List.mem_of_getElem? (i := 206) rfl))))
theorem sg_cw187 : Cond.code (sg_my 187) (sg_mc 187) (sg_ml 187) (sg_mr 187) ∈ lw_tbl := List.mem_append_right _ (List.mem_append_right _ (List.mem_append_left _ (List.mem_of_getElem? (i := 214) rfl)))
theorem sg_cw188 : Cond.code (sg_my 188) (sg_mc 188) (sg_ml 188) (sg_mr 188) ∈ lw_tbl := List.mem_append_right _ (List.mem_append_right _ (List.mem_append_right _ (List.mem_append_left _ (List.mem_of_getElem? (i := 37) rfl))))
theorem sg_cw189 : Cond.code (sg_my 189) (sg_mc 189) (sg_ml 189) (sg_mr 189) ∈ lw_tbl := List.mem_append_right _ (List.mem_append_right _ (List.mem_append_right _ (List.mem_append_right _ (List.mem_append_left _ (List.mem_of_getElem? (i := 4) rfl)))))
theorem sg_cw190 : Cond.code (sg_my 190) (sg_mc 190) (sg_ml 190) (sg_mr 190) ∈ lw_tbl := List.mem_append_right _ (List.mem_append_right _ (List.mem_append_right _ (List.mem_append_left _ (List.mem_of_getElem? (i := 41) rfl))))
theorem sg_cw191 : Cond.code (sg_my 191) (sg_mc 191) (sg_ml 191) (sg_mr 191) ∈ lw_tbl := List.mem_append_right _ (List.mem_append_right _ (List.mem_append_right _ (List.mem_append_left _ (List.mem_of_getElem? (i := 50) rfl))))
theorem sg_cw192 : Cond.code (sg_my 192) (sg_mc 192) (sg_ml 192) (sg_mr 192) ∈ lw_tbl := List.mem_append_right _ (List.mem_append_right _ (List.mem_append_right _ (List.mem_append_left _ (List.mem_of_getElem? (i := 162) rfl))))
theorem sg_cw193 : Cond.code (sg_my 193) (sg_mc 193) (sg_ml 193) (sg_mr 193) ∈ lw_tbl := List.mem_append_right _ (List.mem_append_right _ (List.mem_append_right _ (List.mem_append_left _ (List.mem_of_getElem? (i := 179) rfl))))
theorem sg_cw194 : Cond.code (sg_my 194) (sg_mc 194) (sg_ml 194) (sg_mr 194) ∈ lw_tbl := List.mem_append_right _ (List.mem_append_right _ (List.mem_append_right _ (List.mem_append_left _ (List.mem_of_getElem? (i := 187) rfl))))
theorem sg_cw195 : Cond.code (sg_my 195) (sg_mc 195) (sg_ml 195) (sg_mr 195) ∈ lw_tbl := List.mem_append_right _ (List.mem_append_right _ (List.mem_append_right _ (List.mem_append_left _ (List.mem_of_getElem? (i := 191) rfl))))
theorem sg_cw196 : Cond.code (sg_my 196) (sg_mc 196) (sg_ml 196) (sg_mr 196) ∈ lw_tbl := List.mem_append_right _ (List.mem_append_right _ (List.mem_append_right _ (List.mem_append_left _ (List.mem_of_getElem? (i := 203) rfl))))
theorem sg_cw197 : Cond.code (sg_my 197) (sg_mc 197) (sg_ml 197) (sg_mr 197) ∈ lw_tbl := List.mem_append_right _ (List.mem_append_right _ (List.mem_append_right _ (List.mem_append_left _ (List.mem_of_getElem? (i := 218) rfl))))
theorem sg_cw198 : Cond.code (sg_my 198) (sg_mc 198) (sg_ml 198) (sg_mr 198) ∈ lw_tbl := List.mem_append_right _ (List.mem_append_right _ (List.mem_append_right _ (List.mem_append_right _ (List.mem_append_left _ (List.mem_of_getElem? (i := 16) rfl)))))
theorem sg_cw199 : Cond.code (sg_my 199) (sg_mc 199) (sg_ml 199) (sg_mr 199) ∈ lw_tbl := List.mem_append_right _ (List.mem_append_right _ (List.mem_append_right _ (List.mem_append_right _ (List.mem_append_left _ (List.mem_of_getElem? (i := 20) rfl)))))
theorem sg_cw200 : Cond.code (sg_my 200) (sg_mc 200) (sg_ml 200) (sg_mr 200) ∈ lw_tbl := List.mem_append_right _ (List.mem_append_right _ (List.mem_append_right _ (List.mem_append_right _ (List.mem_append_left _ (List.mem_of_getElem? (i := 27) rfl)))))
theorem sg_cw201 : Cond.code (sg_my 201) (sg_mc 201) (sg_ml 201) (sg_mr 201) ∈ lw_tbl := List.mem_append_right _ (List.mem_append_right _ (List.mem_append_right _ (List.mem_append_right _ (List.mem_append_left _ (List.mem_of_getElem? (i := 36) rfl)))))
theorem sg_cw202 : Cond.code (sg_my 202) (sg_mc 202) (sg_ml 202) (sg_mr 202) ∈ lw_tbl := List.mem_append_right _ (List.mem_append_right _ (List.mem_append_right _ (List.mem_append_right _ (List.mem_append_left _ (List.mem_of_getElem? (i := 50) rfl)))))
def sg_kck (o : Nat) (e : Nat × Nat × Nat × Nat) : Bool := match e.2.1 with
  | 1 => sg_ck e.2.2.2 (.methodLink (sg_cn o) e.1 (sg_my e.2.2.1)) && sg_sb e.2.2.1 && decide (e.2.2.1 < 203)
  | 2 => sg_ck e.2.2.2 (.methodLink (sg_cn o) e.1 (sg_my e.2.2.1)) && !(sg_sb e.2.2.1) && sg_ck (sg_pt e.2.2.1).2.2.1 (.selects (sg_my e.2.2.1).cls (sg_my e.2.2.1) (sg_my e.2.2.1)) && decide (e.2.2.1 < 203) && decide (sg_mo e.2.2.1 < 11)
  | 3 => sg_ck e.2.2.2 (.methodLink (sg_cn o) e.1 (sg_my e.2.2.1)) && !(sg_sb e.2.2.1) && decide ((sg_my e.2.2.1).name = "<init>") && decide (sg_mr e.2.2.1 = none) && decide (e.2.2.1 < 203)
  | 4 => decide (Cond.methodLinkNest (sg_cn o) e.1 (sg_my e.2.2.1) RX9 ∈ sg_nw) && sg_sb e.2.2.1 && decide (e.2.2.1 < 203)
  | 5 => decide (Cond.methodLinkNest (sg_cn o) e.1 (sg_my e.2.2.1) RX9 ∈ sg_nw) && !(sg_sb e.2.2.1) && decide ((sg_my e.2.2.1).name = "<init>") && decide (sg_mr e.2.2.1 = none) && decide (e.2.2.1 < 203)
  | 6 => sg_ck e.2.2.2 (.methodLink (sg_cn o) e.1 objectInit)
  | 7 => sg_ck e.2.2.2 (.methodLink (sg_cn o) e.1 arraycopyName)
  | 8 => sg_ck e.2.2.2 (.methodLink (sg_cn o) e.1 ⟨"[I", "clone", "()Ljava/lang/Object;"⟩)
  | _ => false
theorem sg_kw0 : (sg_KT.getD 0 []).all (sg_kck 0) = true := by decide +kernel
theorem sg_kw1 : (sg_KT.getD 1 []).all (sg_kck 1) = true := by decide +kernel
theorem sg_kw2 : (sg_KT.getD 2 []).all (sg_kck 2) = true := by decide +kernel
theorem sg_kw3 : (sg_KT.getD 3 []).all (sg_kck 3) = true := by decide +kernel
theorem sg_kw4 : (sg_KT.getD 4 []).all (sg_kck 4) = true := by decide +kernel
theorem sg_kw5 : (sg_KT.getD 5 []).all (sg_kck 5) = true := by decide +kernel
theorem sg_kw6 : (sg_KT.getD 6 []).all (sg_kck 6) = true := by decide +kernel
theorem sg_kw7 : (sg_KT.getD 7 []).all (sg_kck 7) = true := by decide +kernel
theorem sg_kw8 : (sg_KT.getD 8 []).all (sg_kck 8) = true := by decide +kernel
theorem sg_kw9 : (sg_KT.getD 9 []).all (sg_kck 9) = true := by decide +kernel
theorem sg_kw10 : (sg_KT.getD 10 []).all (sg_kck 10) = true := by decide +kernel
theorem sg_kw11 : (sg_KT.getD 11 []).all (sg_kck 11) = true := by decide +kernel
theorem sg_kw14 : (sg_KT.getD 14 []).all (sg_kck 14) = true := by decide +kernel
theorem sg_kw : ∀ o, (sg_KT.getD o []).all (sg_kck o) = true
  | 0 => sg_kw0
  | 1 => sg_kw1
  | 2 => sg_kw2
  | 3 => sg_kw3
  | 4 => sg_kw4
  | 5 => sg_kw5
  | 6 => sg_kw6
  | 7 => sg_kw7
  | 8 => sg_kw8
  | 9 => sg_kw9
  | 10 => sg_kw10
  | 11 => sg_kw11
  | 12 => rfl
  | 13 => rfl
  | 14 => sg_kw14
  | _ + 15 => rfl
theorem sg_kl_ok {o i k y p : Nat} (h : sg_kl o i = some (k, y, p)) : sg_kck o (i, k, y, p) = true := by
  unfold sg_kl at h
  cases hf : (sg_KT.getD o []).find? (fun e => e.1 == i) with
  | none => rw [hf] at h; cases h
  | some e =>
    rw [hf] at h
    have hm := List.mem_of_find?_eq_some hf
    have he := List.find?_some hf
    have hk := List.all_eq_true.mp (sg_kw o) e hm
    obtain ⟨e1, e2, e3, e4⟩ := e
    cases h
    simp only [beq_iff_eq] at he
    subst he
    exact hk
theorem sg_objw : sg_ck 87 (.instanceMethod objectInit) = true ∧ sg_ck 88 (.code objectInit ⟨#[0xb1]⟩ 1 none) = true := by decide +kernel
theorem sg_acw : sg_ck 602 (.native arraycopyName) = true ∧ sg_ck 601 (.static arraycopyName) = true ∧ sg_ck 78 (.initialized "java/lang/System") = true := by decide +kernel
theorem sg_clw : sg_ck 98 (.sameMethod "[I" "java/lang/Object" "clone" "()Ljava/lang/Object;") = true ∧ sg_ck 99 (.native ⟨"java/lang/Object", "clone", "()Ljava/lang/Object;"⟩) = true ∧ sg_ck 100 (.instanceMethod ⟨"java/lang/Object", "clone", "()Ljava/lang/Object;"⟩) = true ∧ sg_ck 101 (.selects "[I" ⟨"[I", "clone", "()Ljava/lang/Object;"⟩ ⟨"java/lang/Object", "clone", "()Ljava/lang/Object;"⟩) = true ∧ sg_ck 103 (.classLink (sg_cn 1) 22 "[I") = true := by decide +kernel
theorem sg_arw : sg_ck 149 (.arrayClass .int) = true ∧ sg_ck 150 (.arrayClass .boolean) = true := by decide +kernel
