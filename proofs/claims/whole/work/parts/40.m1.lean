/-! the reference's methods: small ones -/
def sg_B (b : Int32) (p : Prop) : Prop := (b = 1 ∧ p) ∨ (b = 0 ∧ ¬ p)
theorem sg_B01 {b : Int32} {p : Prop} (h : sg_B b p) : b = 0 ∨ b = 1 := by
  rcases h with ⟨h, -⟩ | ⟨h, -⟩
  · exact Or.inr h
  · exact Or.inl h
theorem sg_B.mono {b : Int32} {p q : Prop} (h : sg_B b p) (e : p ↔ q) : sg_B b q := by
  rcases h with ⟨h, g⟩ | ⟨h, g⟩
  · exact Or.inl ⟨h, e.mp g⟩
  · exact Or.inr ⟨h, fun z => g (e.mpr z)⟩
theorem sg_lcmp0 (x y : Int64) : lg_cmp x y < 0 ↔ x.toInt < y.toInt := by
  unfold lg_cmp
  by_cases h1 : y < x
  · rw [if_pos h1]
    rw [Int64.lt_iff_toInt_lt] at h1
    exact ⟨fun h => absurd h (by decide), fun h => by omega⟩
  · rw [if_neg h1]
    rw [Int64.lt_iff_toInt_lt] at h1
    by_cases h2 : x = y
    · rw [if_pos h2]
      subst h2
      exact ⟨fun h => absurd h (by decide), fun h => by omega⟩
    · rw [if_neg h2]
      refine ⟨fun _ => ?_, fun _ => by decide⟩
      have : ¬ x.toInt = y.toInt := fun e => h2 (Int64.toInt_inj.mp e)
      omega
theorem sg_lcmp1 (x y : Int64) : 0 < lg_cmp x y ↔ y.toInt < x.toInt := by
  unfold lg_cmp
  by_cases h1 : y < x
  · rw [if_pos h1]
    rw [Int64.lt_iff_toInt_lt] at h1
    exact ⟨fun _ => h1, fun _ => by decide⟩
  · rw [if_neg h1]
    rw [Int64.lt_iff_toInt_lt] at h1
    by_cases h2 : x = y
    · rw [if_pos h2]
      exact ⟨fun h => absurd h (by decide), fun h => absurd h h1⟩
    · rw [if_neg h2]
      exact ⟨fun h => absurd h (by decide), fun h => absurd h h1⟩
theorem sg_i64 (x : Int32) : x.toInt64.toInt = x.toInt := Int32.toInt_toInt64 x
theorem sg_l0 {n : Nat} (h : n < 2 ^ 63) : (lN n).toInt = (n : Int) := pk_lT h
theorem md_in {X : sg_X} {σ : sg_S} {Q : Option Value → sg_S → Prop} {v lo hi : Int64} (hQ : ∀ b, sg_B b (lo.toInt ≤ v.toInt ∧ v.toInt ≤ hi.toInt) → Q (some (.int b)) σ) : sg_wq X sg_N mm_in 0 (sg_en [.long v, .long lo, .long hi] 6) [] σ Q := by
  refine bk_mm_in_0 ?_
  split
  · rename_i h
    rw [sg_lcmp0] at h
    exact bk_mm_in_17 (bk_mm_in_18 ⟨Or.inl rfl, hQ _ (Or.inr ⟨rfl, fun q => by omega⟩)⟩)
  · rename_i h
    rw [sg_lcmp0] at h
    refine bk_mm_in_6 ?_
    split
    · rename_i h2
      rw [sg_lcmp1] at h2
      exact bk_mm_in_17 (bk_mm_in_18 ⟨Or.inl rfl, hQ _ (Or.inr ⟨rfl, fun q => by omega⟩)⟩)
    · rename_i h2
      rw [sg_lcmp1] at h2
      exact bk_mm_in_13 (bk_mm_in_18 ⟨Or.inr rfl, hQ _ (Or.inl ⟨rfl, by omega, by omega⟩)⟩)
theorem md_isSheet {X : sg_X} {σ : sg_S} {Q : Option Value → sg_S → Prop} {s : Int32} (hQ : ∀ b, sg_B b (0 ≤ s.toInt ∧ s.toInt ≤ 3) → Q (some (.int b)) σ) : sg_wq X sg_N mm_isSheet 0 (sg_en [.int s] 1) [] σ Q :=
  bk_mm_isSheet_0 (md_in fun b hb => bk_mm_isSheet_9 ⟨sg_B01 hb, hQ b (hb.mono (by rw [sg_i64]; exact Iff.rfl))⟩)
theorem md_isCell {X : sg_X} {σ : sg_S} {Q : Option Value → sg_S → Prop} {c : Int32} (hQ : ∀ b, sg_B b (0 ≤ c.toInt ∧ c.toInt ≤ 23) → Q (some (.int b)) σ) : sg_wq X sg_N mm_isCell 0 (sg_en [.int c] 1) [] σ Q :=
  bk_mm_isCell_0 (md_in fun b hb => bk_mm_isCell_9 ⟨sg_B01 hb, hQ b (hb.mono (by rw [sg_i64]; exact Iff.rfl))⟩)
theorem md_isTwo {X : sg_X} {σ : sg_S} {Q : Option Value → sg_S → Prop} {c : Int32} (hQ : ∀ b, sg_B b (0 ≤ c.toInt ∧ c.toInt ≤ 1) → Q (some (.int b)) σ) : sg_wq X sg_N mm_isTwo 0 (sg_en [.int c] 1) [] σ Q :=
  bk_mm_isTwo_0 (md_in fun b hb => bk_mm_isTwo_7 ⟨sg_B01 hb, hQ b (hb.mono (by rw [sg_i64]; exact Iff.rfl))⟩)
theorem md_met {X : sg_X} {σ : sg_S} {Q : Option Value → sg_S → Prop} {f : Int32} (hQ : Q (some (.int (-10 - f))) (sg_up σ cm_this 4 f)) : sg_wq X sg_N mm_met 0 (sg_en [.ref cm_this, .int f] 2) [] σ Q := bk_mm_met_0 hQ
