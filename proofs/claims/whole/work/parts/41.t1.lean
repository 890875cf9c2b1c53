theorem tr_mm_sheet_0 {X : sg_X} {σ : sg_S} {Q : Option Value → sg_S → Prop} {x1 : Int32} {x2 : Int32} {x3 : Int32} {o4 : Option Value} (h : if 0 ≤ x1.toInt ∧ x1.toInt ≤ 3 then (if (0 : Int) ≤ x2.toInt ∧ x2.toInt ≤ (2 : Int) then (if nI 60 < x3 then (Q (some (.int (-2))) σ) else (if x3 < 0 then (Q (some (.int ((-10) - (nI 5)))) (sg_up σ cm_this 4 (nI 5))) else (sg_in x1 4 ∧ (sg_wq X sg_N mm_sheet 55 [some (.ref cm_this), some (.int x1), some (.int x2), some (.int x3), some (.int (nI 0))] [] (sg_up (sg_up σ cm_forms x1.toNatClampNeg x2) cm_sizes x1.toNatClampNeg x3) Q)))) else (Q (some (.int (-2))) σ)) else (Q (some (.int (-2))) σ)) : sg_wq X sg_N mm_sheet 0 [some (.ref cm_this), some (.int x1), some (.int x2), some (.int x3), o4] [] σ Q := by
  refine bk_mm_sheet_0 ?_
  refine md_isSheet fun b hb => ?_
  rcases hb with ⟨rfl, hb⟩ | ⟨rfl, hb⟩
  · rw [if_pos hb] at h
    refine bk_mm_sheet_4 ?_
    rw [if_neg (show ¬ (1 : Int32) = 0 by decide)]
    refine bk_mm_sheet_7 ?_
    refine md_in fun b hb => ?_
    replace hb : sg_B b ((0 : Int) ≤ x2.toInt ∧ x2.toInt ≤ (2 : Int)) := by
      simp only [sg_i64, sg_l0 (n := 0) (by decide), sg_l0 (n := 2) (by decide)] at hb
      exact hb
    rcases hb with ⟨rfl, hb⟩ | ⟨rfl, hb⟩
    · rw [if_pos hb] at h
      refine bk_mm_sheet_16 ?_
      rw [if_neg (show ¬ (1 : Int32) = 0 by decide)]
      refine bk_mm_sheet_19 ?_
      by_cases hc : nI 60 < x3
      · rw [if_pos hc] at h ⊢
        refine bk_mm_sheet_25 ?_
        exact h
      · rw [if_neg hc] at h ⊢
        refine bk_mm_sheet_28 ?_
        by_cases hc : x3 < 0
        · rw [if_pos hc] at h ⊢
          refine bk_mm_sheet_32 ?_
          refine md_met ?_
          refine bk_mm_sheet_37 ?_
          exact h
        · rw [if_neg hc] at h ⊢
          refine bk_mm_sheet_38 ?_
          refine ⟨h.1, h.1, ?_⟩
          replace h := h.2
          exact h
    · rw [if_neg hb] at h
      refine bk_mm_sheet_16 ?_
      rw [if_pos (show (0 : Int32) = 0 from rfl)]
      refine bk_mm_sheet_25 ?_
      exact h
  · rw [if_neg hb] at h
    refine bk_mm_sheet_4 ?_
    rw [if_pos (show (0 : Int32) = 0 from rfl)]
    refine bk_mm_sheet_25 ?_
    exact h
theorem tr_mm_sheet_55 {X : sg_X} {σ : sg_S} {Q : Option Value → sg_S → Prop} {x1 : Int32} {o2 : Option Value} {x3 : Int32} {x4 : Int32} (h : if x4 < x3 then (sg_in (((nI 60) * x1) + x4) 240 ∧ (sg_wq X sg_N mm_sheet 55 [some (.ref cm_this), some (.int x1), none, some (.int x3), some (.int (x4 + nI 1))] [] (sg_up σ cm_items (((nI 60) * x1) + x4).toNatClampNeg (nI 0)) Q)) else (Q (some (.int x3)) σ)) : sg_wq X sg_N mm_sheet 55 [some (.ref cm_this), some (.int x1), o2, some (.int x3), some (.int x4)] [] σ Q := by
  refine bk_mm_sheet_55 ?_
  by_cases hc : x4 < x3
  · rw [if_pos hc] at h ⊢
    refine bk_mm_sheet_61 ?_
    refine ⟨h.1, ?_⟩
    replace h := h.2
    exact h
  · rw [if_neg hc] at h ⊢
    refine bk_mm_sheet_80 ?_
    exact h
theorem tr_mm_lose_0 {X : sg_X} {σ : sg_S} {Q : Option Value → sg_S → Prop} {x1 : Int32} (h : if 0 ≤ x1.toInt ∧ x1.toInt ≤ 3 then (sg_in x1 4 ∧ (if σ cm_forms x1.toNatClampNeg < 0 then (Q (some (.int ((-10) - (nI 1)))) (sg_up σ cm_this 4 (nI 1))) else (sg_in x1 4 ∧ (Q (some (.int ((sg_up σ cm_forms x1.toNatClampNeg (-1)) cm_sizes x1.toNatClampNeg))) (sg_up σ cm_forms x1.toNatClampNeg (-1)))))) else (Q (some (.int (-2))) σ)) : sg_wq X sg_N mm_lose 0 [some (.ref cm_this), some (.int x1)] [] σ Q := by
  refine bk_mm_lose_0 ?_
  refine md_isSheet fun b hb => ?_
  rcases hb with ⟨rfl, hb⟩ | ⟨rfl, hb⟩
  · rw [if_pos hb] at h
    refine bk_mm_lose_4 ?_
    rw [if_neg (show ¬ (1 : Int32) = 0 by decide)]
    refine bk_mm_lose_10 ?_
    refine ⟨h.1, ?_⟩
    replace h := h.2
    by_cases hc : σ cm_forms x1.toNatClampNeg < 0
    · rw [if_pos hc] at h ⊢
      refine bk_mm_lose_19 ?_
      refine md_met ?_
      refine bk_mm_lose_24 ?_
      exact h
    · rw [if_neg hc] at h ⊢
      refine bk_mm_lose_25 ?_
      refine ⟨h.1, h.1, ?_⟩
      replace h := h.2
      exact h
  · rw [if_neg hb] at h
    refine bk_mm_lose_4 ?_
    rw [if_pos (show (0 : Int32) = 0 from rfl)]
    refine bk_mm_lose_7 ?_
    exact h
theorem tr_mm_lacks_0 {X : sg_X} {σ : sg_S} {Q : Option Value → sg_S → Prop} {x1 : Int32} {x2 : Int32} {x3 : Int32} (h : sg_in x1 4 ∧ (if σ cm_forms x1.toNatClampNeg < 0 then (Q (some (.int ((-10) - (nI 1)))) (sg_up σ cm_this 4 (nI 1))) else (sg_in x1 4 ∧ (if σ cm_forms x1.toNatClampNeg = x2 then (sg_in x1 4 ∧ (if (0 : Int) ≤ x3.toInt ∧ x3.toInt ≤ ((σ cm_sizes x1.toNatClampNeg) - (nI 1)).toInt then (Q (some (.int (nI 0))) σ) else (Q (some (.int ((-10) - (nI 2)))) (sg_up σ cm_this 4 (nI 2))))) else (Q (some (.int ((-10) - (nI 3)))) (sg_up σ cm_this 4 (nI 3))))))) : sg_wq X sg_N mm_lacks 0 [some (.ref cm_this), some (.int x1), some (.int x2), some (.int x3)] [] σ Q := by
  refine bk_mm_lacks_0 ?_
  refine ⟨h.1, ?_⟩
  replace h := h.2
  by_cases hc : σ cm_forms x1.toNatClampNeg < 0
  · rw [if_pos hc] at h ⊢
    refine bk_mm_lacks_9 ?_
    refine md_met ?_
    refine bk_mm_lacks_14 ?_
    exact h
  · rw [if_neg hc] at h ⊢
    refine bk_mm_lacks_15 ?_
    refine ⟨h.1, ?_⟩
    replace h := h.2
    by_cases hc : σ cm_forms x1.toNatClampNeg = x2
    · rw [if_pos hc] at h ⊢
      refine bk_mm_lacks_31 ?_
      refine ⟨h.1, ?_⟩
      replace h := h.2
      refine md_in fun b hb => ?_
      replace hb : sg_B b ((0 : Int) ≤ x3.toInt ∧ x3.toInt ≤ ((σ cm_sizes x1.toNatClampNeg) - (nI 1)).toInt) := by
        simp only [sg_i64, sg_l0 (n := 0) (by decide)] at hb
        exact hb
      rcases hb with ⟨rfl, hb⟩ | ⟨rfl, hb⟩
      · rw [if_pos hb] at h
        refine bk_mm_lacks_46 ?_
        rw [if_neg (show ¬ (1 : Int32) = 0 by decide)]
        refine bk_mm_lacks_49 ?_
        refine bk_mm_lacks_58 ?_
        exact h
      · rw [if_neg hb] at h
        refine bk_mm_lacks_46 ?_
        rw [if_pos (show (0 : Int32) = 0 from rfl)]
        refine bk_mm_lacks_53 ?_
        refine md_met ?_
        refine bk_mm_lacks_58 ?_
        exact h
    · rw [if_neg hc] at h ⊢
      refine bk_mm_lacks_25 ?_
      refine md_met ?_
      refine bk_mm_lacks_30 ?_
      exact h
theorem tr_mm_cut_0 {X : sg_X} {σ : sg_S} {Q : Option Value → sg_S → Prop} {x0 : Int32} {x1 : Int32} (h : if x0 = 0 then (Q (some (.int x1.toInt8.toInt32)) σ) else (if x0 = nI 1 then (Q (some (.int x1.toInt16.toInt32)) σ) else (Q (some (.int x1)) σ))) : sg_wq X sg_N mm_cut 0 [some (.int x0), some (.int x1)] [] σ Q := by
  refine bk_mm_cut_0 ?_
  by_cases hc : x0 = 0
  · rw [if_pos hc] at h ⊢
    refine bk_mm_cut_4 ?_
    refine bk_mm_cut_20 ?_
    exact h
  · rw [if_neg hc] at h ⊢
    refine bk_mm_cut_9 ?_
    by_cases hc : x0 = nI 1
    · rw [if_pos hc] at h ⊢
      refine bk_mm_cut_14 ?_
      refine bk_mm_cut_20 ?_
      exact h
    · rw [if_neg hc] at h ⊢
      refine bk_mm_cut_19 ?_
      refine bk_mm_cut_20 ?_
      exact h
theorem tr_mm_item_0 {X : sg_X} {σ : sg_S} {Q : Option Value → sg_S → Prop} {x1 : Int32} {x2 : Int32} (h : sg_in (((nI 60) * x1) + x2) 240 ∧ (Q (some (.int (σ cm_items (((nI 60) * x1) + x2).toNatClampNeg))) σ)) : sg_wq X sg_N mm_item 0 [some (.ref cm_this), some (.int x1), some (.int x2)] [] σ Q := by
  refine bk_mm_item_0 ?_
  refine ⟨h.1, ?_⟩
  replace h := h.2
  exact h
theorem tr_mm_cell_0 {X : sg_X} {σ : sg_S} {Q : Option Value → sg_S → Prop} {x1 : Int32} {x2 : Int32} {x3 : Int32} {o4 : Option Value} (h : if 0 ≤ x1.toInt ∧ x1.toInt ≤ 23 then (if 0 ≤ x2.toInt ∧ x2.toInt ≤ 1 then (if (0 : Int) ≤ x3.toInt ∧ x3.toInt ≤ (400 : Int) then (sg_in (((nI 24) * x2) + x1) 48 ∧ (Q (some (.int (σ cm_begins (((nI 24) * x2) + x1).toNatClampNeg))) (sg_up σ cm_begins (((nI 24) * x2) + x1).toNatClampNeg x3))) else (Q (some (.int (-2))) σ)) else (Q (some (.int (-2))) σ)) else (Q (some (.int (-2))) σ)) : sg_wq X sg_N mm_cell 0 [some (.ref cm_this), some (.int x1), some (.int x2), some (.int x3), o4] [] σ Q := by
  refine bk_mm_cell_0 ?_
  refine md_isCell fun b hb => ?_
  rcases hb with ⟨rfl, hb⟩ | ⟨rfl, hb⟩
  · rw [if_pos hb] at h
    refine bk_mm_cell_4 ?_
    rw [if_neg (show ¬ (1 : Int32) = 0 by decide)]
    refine bk_mm_cell_7 ?_
    refine md_isTwo fun b hb => ?_
    rcases hb with ⟨rfl, hb⟩ | ⟨rfl, hb⟩
    · rw [if_pos hb] at h
      refine bk_mm_cell_11 ?_
      rw [if_neg (show ¬ (1 : Int32) = 0 by decide)]
      refine bk_mm_cell_14 ?_
      refine md_in fun b hb => ?_
      replace hb : sg_B b ((0 : Int) ≤ x3.toInt ∧ x3.toInt ≤ (400 : Int)) := by
        simp only [sg_i64, sg_l0 (n := 0) (by decide), sg_l0 (n := 400) (by decide)] at hb
        exact hb
      rcases hb with ⟨rfl, hb⟩ | ⟨rfl, hb⟩
      · rw [if_pos hb] at h
        refine bk_mm_cell_23 ?_
        rw [if_neg (show ¬ (1 : Int32) = 0 by decide)]
        refine bk_mm_cell_29 ?_
        refine ⟨h.1, h.1, ?_⟩
        replace h := h.2
        exact h
      · rw [if_neg hb] at h
        refine bk_mm_cell_23 ?_
        rw [if_pos (show (0 : Int32) = 0 from rfl)]
        refine bk_mm_cell_26 ?_
        exact h
    · rw [if_neg hb] at h
      refine bk_mm_cell_11 ?_
      rw [if_pos (show (0 : Int32) = 0 from rfl)]
      refine bk_mm_cell_26 ?_
      exact h
  · rw [if_neg hb] at h
    refine bk_mm_cell_4 ?_
    rw [if_pos (show (0 : Int32) = 0 from rfl)]
    refine bk_mm_cell_26 ?_
    exact h
theorem tr_mm_isRight_0 {X : sg_X} {σ : sg_S} {Q : Option Value → sg_S → Prop} {x0 : Int32} {x1 : Int32} (h : if x1 = x0 + (nI 1) then (¬ nI 6 = 0 ∧ (if x0 - x0 / (nI 6) * (nI 6) < nI 5 then (Q (some (.int (nI 1))) σ) else (Q (some (.int (nI 0))) σ))) else (Q (some (.int (nI 0))) σ)) : sg_wq X sg_N mm_isRight 0 [some (.int x0), some (.int x1)] [] σ Q := by
  refine bk_mm_isRight_0 ?_
  by_cases hc : x1 = x0 + (nI 1)
  · rw [if_pos hc] at h ⊢
    refine bk_mm_isRight_7 ?_
    refine ⟨h.1, ?_⟩
    replace h := h.2
    by_cases hc : x0 - x0 / (nI 6) * (nI 6) < nI 5
    · rw [if_pos hc] at h ⊢
      refine bk_mm_isRight_15 ?_
      refine bk_mm_isRight_20 ?_
      refine ⟨Or.inr rfl, ?_⟩
      exact h
    · rw [if_neg hc] at h ⊢
      refine bk_mm_isRight_19 ?_
      refine bk_mm_isRight_20 ?_
      refine ⟨Or.inl rfl, ?_⟩
      exact h
  · rw [if_neg hc] at h ⊢
    refine bk_mm_isRight_19 ?_
    refine bk_mm_isRight_20 ?_
    refine ⟨Or.inl rfl, ?_⟩
    exact h
theorem tr_mm_leastOf_0 {X : sg_X} {σ : sg_S} {Q : Option Value → sg_S → Prop} {x0 : Int32} (h : if x0 = 0 then (Q (some (.int (-200))) σ) else (if x0 = nI 5 then (Q (some (.int (nI 1))) σ) else (Q (some (.int (nI 0))) σ))) : sg_wq X sg_N mm_leastOf 0 [some (.int x0)] [] σ Q := by
  refine bk_mm_leastOf_0 ?_
  by_cases hc : x0 = 0
  · rw [if_pos hc] at h ⊢
    refine bk_mm_leastOf_4 ?_
    refine bk_mm_leastOf_20 ?_
    exact h
  · rw [if_neg hc] at h ⊢
    refine bk_mm_leastOf_10 ?_
    by_cases hc : x0 = nI 5
    · rw [if_pos hc] at h ⊢
      refine bk_mm_leastOf_15 ?_
      refine bk_mm_leastOf_20 ?_
      exact h
    · rw [if_neg hc] at h ⊢
      refine bk_mm_leastOf_19 ?_
      refine bk_mm_leastOf_20 ?_
      exact h
theorem tr_mm_mostOf_0 {X : sg_X} {σ : sg_S} {Q : Option Value → sg_S → Prop} {x0 : Int32} (h : if x0 = 0 then (Q (some (.int (nI 400))) σ) else (if x0 = nI 3 then (Q (some (.int (nI 30))) σ) else (if x0 = nI 5 then (Q (some (.int (nI 60))) σ) else (Q (some (.int (nI 20))) σ)))) : sg_wq X sg_N mm_mostOf 0 [some (.int x0)] [] σ Q := by
  refine bk_mm_mostOf_0 ?_
  by_cases hc : x0 = 0
  · rw [if_pos hc] at h ⊢
    refine bk_mm_mostOf_4 ?_
    refine bk_mm_mostOf_32 ?_
    exact h
  · rw [if_neg hc] at h ⊢
    refine bk_mm_mostOf_10 ?_
    by_cases hc : x0 = nI 3
    · rw [if_pos hc] at h ⊢
      refine bk_mm_mostOf_15 ?_
      refine bk_mm_mostOf_32 ?_
      exact h
    · rw [if_neg hc] at h ⊢
      refine bk_mm_mostOf_20 ?_
      by_cases hc : x0 = nI 5
      · rw [if_pos hc] at h ⊢
        refine bk_mm_mostOf_25 ?_
        refine bk_mm_mostOf_32 ?_
        exact h
      · rw [if_neg hc] at h ⊢
        refine bk_mm_mostOf_30 ?_
        refine bk_mm_mostOf_32 ?_
        exact h
theorem tr_mm_isPerson_0 {X : sg_X} {σ : sg_S} {Q : Option Value → sg_S → Prop} {x1 : Int32} (h : if (0 : Int) ≤ x1.toInt ∧ x1.toInt ≤ ((σ cm_this 9) - (nI 1)).toInt then (Q (some (.int (1 : Int32))) σ) else (Q (some (.int (0 : Int32))) σ)) : sg_wq X sg_N mm_isPerson 0 [some (.ref cm_this), some (.int x1)] [] σ Q := by
  refine bk_mm_isPerson_0 ?_
  refine md_in fun b hb => ?_
  replace hb : sg_B b ((0 : Int) ≤ x1.toInt ∧ x1.toInt ≤ ((σ cm_this 9) - (nI 1)).toInt) := by
    simp only [sg_i64, sg_l0 (n := 0) (by decide)] at hb
    exact hb
  rcases hb with ⟨rfl, hb⟩ | ⟨rfl, hb⟩
  · rw [if_pos hb] at h
    refine bk_mm_isPerson_13 ?_
    refine ⟨Or.inr rfl, ?_⟩
    exact h
  · rw [if_neg hb] at h
    refine bk_mm_isPerson_13 ?_
    refine ⟨Or.inl rfl, ?_⟩
    exact h
theorem tr_mm_isDial_0 {X : sg_X} {σ : sg_S} {Q : Option Value → sg_S → Prop} {x1 : Int32} (h : if (0 : Int) ≤ x1.toInt ∧ x1.toInt ≤ ((σ cm_this 21) - (nI 1)).toInt then (Q (some (.int (1 : Int32))) σ) else (Q (some (.int (0 : Int32))) σ)) : sg_wq X sg_N mm_isDial 0 [some (.ref cm_this), some (.int x1)] [] σ Q := by
  refine bk_mm_isDial_0 ?_
  refine md_in fun b hb => ?_
  replace hb : sg_B b ((0 : Int) ≤ x1.toInt ∧ x1.toInt ≤ ((σ cm_this 21) - (nI 1)).toInt) := by
    simp only [sg_i64, sg_l0 (n := 0) (by decide)] at hb
    exact hb
  rcases hb with ⟨rfl, hb⟩ | ⟨rfl, hb⟩
  · rw [if_pos hb] at h
    refine bk_mm_isDial_13 ?_
    refine ⟨Or.inr rfl, ?_⟩
    exact h
  · rw [if_neg hb] at h
    refine bk_mm_isDial_13 ?_
    refine ⟨Or.inl rfl, ?_⟩
    exact h
theorem tr_mm_isNumber_0 {X : sg_X} {σ : sg_S} {Q : Option Value → sg_S → Prop} {x0 : Int32} {x1 : Int32} (h : if x0 = 0 then (if (100 : Int) ≤ x1.toInt ∧ x1.toInt ≤ (300 : Int) then (Q (some (.int (1 : Int32))) σ) else (Q (some (.int (0 : Int32))) σ)) else (if 0 ≤ x1.toInt ∧ x1.toInt ≤ 1 then (Q (some (.int (1 : Int32))) σ) else (Q (some (.int (0 : Int32))) σ))) : sg_wq X sg_N mm_isNumber 0 [some (.int x0), some (.int x1)] [] σ Q := by
  refine bk_mm_isNumber_0 ?_
  by_cases hc : x0 = 0
  · rw [if_pos hc] at h ⊢
    refine bk_mm_isNumber_4 ?_
    refine md_in fun b hb => ?_
    replace hb : sg_B b ((100 : Int) ≤ x1.toInt ∧ x1.toInt ≤ (300 : Int)) := by
      simp only [sg_i64, sg_l0 (n := 100) (by decide), sg_l0 (n := 300) (by decide)] at hb
      exact hb
    rcases hb with ⟨rfl, hb⟩ | ⟨rfl, hb⟩
    · rw [if_pos hb] at h
      refine bk_mm_isNumber_15 ?_
      refine bk_mm_isNumber_22 ?_
      refine ⟨Or.inr rfl, ?_⟩
      exact h
    · rw [if_neg hb] at h
      refine bk_mm_isNumber_15 ?_
      refine bk_mm_isNumber_22 ?_
      refine ⟨Or.inl rfl, ?_⟩
      exact h
  · rw [if_neg hc] at h ⊢
    refine bk_mm_isNumber_18 ?_
    refine md_isTwo fun b hb => ?_
    rcases hb with ⟨rfl, hb⟩ | ⟨rfl, hb⟩
    · rw [if_pos hb] at h
      refine bk_mm_isNumber_22 ?_
      refine ⟨Or.inr rfl, ?_⟩
      exact h
    · rw [if_neg hb] at h
      refine bk_mm_isNumber_22 ?_
      refine ⟨Or.inl rfl, ?_⟩
      exact h
theorem tr_mm_here_0 {X : sg_X} {σ : sg_S} {Q : Option Value → sg_S → Prop} {x1 : Int32} (h : sg_in x1 6 ∧ (if σ cm_this 15 < σ cm_typed x1.toNatClampNeg then (sg_in (((nI 40) * x1) + (σ cm_this 15)) 240 ∧ (Q (some (.int (σ cm_text (((nI 40) * x1) + (σ cm_this 15)).toNatClampNeg))) σ)) else (Q (some (.int (-1))) σ))) : sg_wq X sg_N mm_here 0 [some (.ref cm_this), some (.int x1)] [] σ Q := by
  refine bk_mm_here_0 ?_
  refine ⟨h.1, ?_⟩
  replace h := h.2
  by_cases hc : σ cm_this 15 < σ cm_typed x1.toNatClampNeg
  · rw [if_pos hc] at h ⊢
    refine bk_mm_here_13 ?_
    refine ⟨h.1, ?_⟩
    replace h := h.2
    refine bk_mm_here_31 ?_
    exact h
  · rw [if_neg hc] at h ⊢
    refine bk_mm_here_30 ?_
    refine bk_mm_here_31 ?_
    exact h
theorem tr_mm_isThere_0 {X : sg_X} {σ : sg_S} {Q : Option Value → sg_S → Prop} {x1 : Int32} {x2 : Int32} (h : if x1 = σ cm_this 38 then (Q (some (.int (nI 0))) σ) else (if x1 = σ cm_this 39 then (if x2 < σ cm_this 40 then (Q (some (.int (nI 0))) σ) else (Q (some (.int (nI 1))) σ)) else (Q (some (.int (nI 1))) σ))) : sg_wq X sg_N mm_isThere 0 [some (.ref cm_this), some (.int x1), some (.int x2)] [] σ Q := by
  refine bk_mm_isThere_0 ?_
  by_cases hc : x1 = σ cm_this 38
  · rw [if_pos hc] at h ⊢
    refine bk_mm_isThere_28 ?_
    refine bk_mm_isThere_29 ?_
    refine ⟨Or.inl rfl, ?_⟩
    exact h
  · rw [if_neg hc] at h ⊢
    refine bk_mm_isThere_8 ?_
    by_cases hc : x1 = σ cm_this 39
    · rw [if_pos hc] at h ⊢
      refine bk_mm_isThere_16 ?_
      by_cases hc : x2 < σ cm_this 40
      · rw [if_pos hc] at h ⊢
        refine bk_mm_isThere_28 ?_
        refine bk_mm_isThere_29 ?_
        refine ⟨Or.inl rfl, ?_⟩
        exact h
      · rw [if_neg hc] at h ⊢
        refine bk_mm_isThere_24 ?_
        refine bk_mm_isThere_29 ?_
        refine ⟨Or.inr rfl, ?_⟩
        exact h
    · rw [if_neg hc] at h ⊢
      refine bk_mm_isThere_24 ?_
      refine bk_mm_isThere_29 ?_
      refine ⟨Or.inr rfl, ?_⟩
      exact h
theorem tr_mm_gives_0 {X : sg_X} {σ : sg_S} {Q : Option Value → sg_S → Prop} {x1 : Int32} {o2 : Option Value} {x3 : Int32} {x4 : Int32} (h : sg_in (((nI 24) * x1) + x3) 192 ∧ sg_in x3 24 ∧ (Q none (sg_up (sg_up σ cm_gives (((nI 24) * x1) + x3).toNatClampNeg ((σ cm_gives (((nI 24) * x1) + x3).toNatClampNeg) + x4)) cm_more x3.toNatClampNeg (((sg_up σ cm_gives (((nI 24) * x1) + x3).toNatClampNeg ((σ cm_gives (((nI 24) * x1) + x3).toNatClampNeg) + x4)) cm_more x3.toNatClampNeg) + x4)))) : sg_wq X sg_N mm_gives 0 [some (.ref cm_this), some (.int x1), o2, some (.int x3), some (.int x4)] [] σ Q := by
  refine bk_mm_gives_0 ?_
  refine ⟨h.1, h.1, h.2.1, h.2.1, ?_⟩
  replace h := h.2.2
  exact h
theorem tr_mm_flows_0 {X : sg_X} {σ : sg_S} {Q : Option Value → sg_S → Prop} {x1 : Int32} {x2 : Int32} {x3 : Int32} {o4 : Option Value} (h : sg_in (((nI 24) * x1) + x2) 984 ∧ sg_in (((nI 24) * x1) + x3) 984 ∧ sg_in (nI 1) 6 ∧ ¬ nI 100 = 0 ∧ sg_in x2 24 ∧ sg_in x3 24 ∧ (Q none (sg_up (sg_up σ cm_more x2.toNatClampNeg ((σ cm_more x2.toNatClampNeg) - ((((σ cm_warm (((nI 24) * x1) + x2).toNatClampNeg) - (σ cm_warm (((nI 24) * x1) + x3).toNatClampNeg)) * (σ cm_sets (nI 1).toNatClampNeg)) / (nI 100)))) cm_more x3.toNatClampNeg (((sg_up σ cm_more x2.toNatClampNeg ((σ cm_more x2.toNatClampNeg) - ((((σ cm_warm (((nI 24) * x1) + x2).toNatClampNeg) - (σ cm_warm (((nI 24) * x1) + x3).toNatClampNeg)) * (σ cm_sets (nI 1).toNatClampNeg)) / (nI 100)))) cm_more x3.toNatClampNeg) + ((((σ cm_warm (((nI 24) * x1) + x2).toNatClampNeg) - (σ cm_warm (((nI 24) * x1) + x3).toNatClampNeg)) * (σ cm_sets (nI 1).toNatClampNeg)) / (nI 100)))))) : sg_wq X sg_N mm_flows 0 [some (.ref cm_this), some (.int x1), some (.int x2), some (.int x3), o4] [] σ Q := by
  refine bk_mm_flows_0 ?_
  refine ⟨h.1, h.2.1, h.2.2.1, h.2.2.2.1, h.2.2.2.2.1, h.2.2.2.2.1, h.2.2.2.2.2.1, h.2.2.2.2.2.1, ?_⟩
  replace h := h.2.2.2.2.2.2
  exact h
theorem tr_mm_isStep_0 {X : sg_X} {σ : sg_S} {Q : Option Value → sg_S → Prop} {x0 : Int32} (h : if (0 : Int) ≤ x0.toInt ∧ x0.toInt ≤ (39 : Int) then (Q (some (.int (1 : Int32))) σ) else (Q (some (.int (0 : Int32))) σ)) : sg_wq X sg_N mm_isStep 0 [some (.int x0)] [] σ Q := by
  refine bk_mm_isStep_0 ?_
  refine md_in fun b hb => ?_
  replace hb : sg_B b ((0 : Int) ≤ x0.toInt ∧ x0.toInt ≤ (39 : Int)) := by
    simp only [sg_i64, sg_l0 (n := 0) (by decide), sg_l0 (n := 39) (by decide)] at hb
    exact hb
  rcases hb with ⟨rfl, hb⟩ | ⟨rfl, hb⟩
  · rw [if_pos hb] at h
    refine bk_mm_isStep_9 ?_
    refine ⟨Or.inr rfl, ?_⟩
    exact h
  · rw [if_neg hb] at h
    refine bk_mm_isStep_9 ?_
    refine ⟨Or.inl rfl, ?_⟩
    exact h
