/-! counters grow -/
theorem sg_mono1 {X : sg_X} {m pc pc' : Nat} {i : Instr} {ls ls' : sg_L} {st st' : List Value} {z z' : sg_Z} {σ σ' : sg_S} (h : sg_st X m i pc ls st z σ = some (.inl (pc', ls', st', z', σ'))) : z.1 ≤ z'.1 ∧ z.2.1 ≤ z'.2.1 ∧ z.2.2.1 ≤ z'.2.2.1 := by
  obtain ⟨n, kc, ks, lk⟩ := z
  cases i <;> simp only [sg_st, sg_nx, sg_ldi, sg_ldl, sg_lda, sg_sti, sg_stl, sg_sta, sg_i1, sg_i2, sg_l2, sg_jp, reduceCtorEq] at h <;>
    (repeat' split at h) <;>
    first
    | (cases h; done)
    | (simp only [Option.some.injEq, Sum.inl.injEq, Prod.mk.injEq] at h
       obtain ⟨-, -, -, rfl, -⟩ := h
       exact ⟨Nat.le_refl _, Nat.le_refl _, Nat.le_refl _⟩)
    | (simp only [Option.some.injEq, Sum.inl.injEq, Prod.mk.injEq] at h
       obtain ⟨-, -, -, rfl, -⟩ := h
       exact ⟨Nat.le_add_right _ _, Nat.le_add_right _ _, Nat.le_add_right _ _⟩)
theorem sg_mono {X : sg_X} : ∀ (f : Nat) {m pc : Nat} {ls : sg_L} {st : List Value} {z z' : sg_Z} {σ σ' : sg_S} {r : Option Value}, sg_ex X f m pc ls st z σ = some (r, z', σ') → z.1 ≤ z'.1 ∧ z.2.1 ≤ z'.2.1 ∧ z.2.2.1 ≤ z'.2.2.1
  | 0, m, pc, ls, st, z, z', σ, σ', r, h => by cases h
  | f + 1, m, pc, ls, st, z, z', σ, σ', r, h => by
    rw [sg_ex] at h
    split at h
    · rename_i i n hd
      split at h
      · split at h
        · rename_i pc1 ls1 st1 z1 σ1 h1
          have a := sg_mono1 h1
          have b := sg_mono f h
          omega
        · rename_i y as keep pc1 ls1 st1 h1
          split at h
          · rename_i r1 z1 σ1 h2
            split at h
            · rename_i hc
              have b := sg_mono f h
              dsimp only at b
              cases keep with
              | true => simp only [cond_true] at b; omega
              | false => simp only [cond_false] at b; omega
            · cases h
          · cases h
        · rename_i r1 h1
          simp only [Option.some.injEq, Prod.mk.injEq] at h
          obtain ⟨-, rfl, -⟩ := h
          exact ⟨Nat.le_refl _, Nat.le_refl _, Nat.le_refl _⟩
        · cases h
      · cases h
    · cases h
