theorem sg_licN : sg_lic sg_N sg_LK = true := by decide +kernel
abbrev sg_KC (X : sg_X) (n M : Nat) (Q : Option Value → sg_S → Prop) (σ : sg_S) : Nat → List Value → Nat → sg_L → List Value → Prop := fun y as pc ls st => sg_wq X n y 0 (sg_en as (sg_ml y)) [] σ (fun r σ1 => sg_wq X n M pc ls (r.toList ++ st) σ1 Q)
theorem sg_nlt {x y : Int32} (h : ¬ x < y) : y ≤ x := by
  rw [Int32.le_iff_toInt_le]
  rw [Int32.lt_iff_toInt_lt] at h
  omega
theorem sg_lt_nle {x y : Int32} (h : x < y) : ¬ y ≤ x := by
  rw [Int32.le_iff_toInt_le]
  rw [Int32.lt_iff_toInt_lt] at h
  omega
set_option maxHeartbeats 4000000 in
theorem sg_sp_wk {X : sg_X} {n M pc : Nat} {ls : sg_L} {st : List Value} {σ : sg_S} {Q : Option Value → sg_S → Prop} {i : Instr} (hlic : sg_lic n sg_LK = true)
    (h : sg_sp X n M i pc ls st σ (fun pc ls st σ => sg_wq X n M pc ls st σ Q) (sg_KC X n M Q σ) (fun r => Q r σ)) : sg_wk X n M σ Q (sg_st X M i pc ls st (sg_zn n) σ) := by
  cases i with
  | aaload =>
    simp only [sg_sp] at h
    split at h
    · split at h
      · rename_i hc
        simp only [sg_st]
        rw [if_pos ⟨hc.1, hc.2, h.1, rfl, h.2.1⟩]
        exact ⟨rfl, h.2.2⟩
      · exact h.elim
    · exact h.elim
  | arraylength =>
    simp only [sg_sp] at h
    split at h
    · split at h
      · rename_i h1
        split at h
        · rename_i h2
          simp only [sg_st]
          rw [if_pos h1, if_pos h2]
          exact ⟨rfl, h⟩
        · exact h.elim
      · rename_i h1
        split at h
        · rename_i h2
          simp only [sg_st]
          rw [if_neg h1, if_pos h2]
          exact ⟨rfl, h⟩
        · exact h.elim
    · exact h.elim
  | baload =>
    simp only [sg_sp] at h
    split at h
    · split at h
      · rename_i hc
        simp only [sg_st]
        rw [if_pos ⟨hc.1, hc.2, h.1⟩]
        exact ⟨rfl, h.2⟩
      · exact h.elim
    · exact h.elim
  | bastore =>
    simp only [sg_sp] at h
    split at h
    · split at h
      · rename_i hc
        simp only [sg_st]
        rw [if_pos ⟨hc.1, hc.2, h.1, h.2.1⟩]
        exact ⟨rfl, h.2.2⟩
      · exact h.elim
    · exact h.elim
  | iaload =>
    simp only [sg_sp] at h
    split at h
    · split at h
      · rename_i h1
        split at h
        · rename_i h2
          simp only [sg_st]
          rw [if_pos h1, if_pos ⟨h2, h.1⟩]
          exact ⟨rfl, h.2⟩
        · exact h.elim
      · rename_i h1
        split at h
        · rename_i h2
          simp only [sg_st]
          rw [if_neg h1, if_pos ⟨h2.1, h2.2, h.1⟩]
          exact ⟨rfl, h.2⟩
        · exact h.elim
    · exact h.elim
  | iastore =>
    simp only [sg_sp] at h
    split at h
    · split at h
      · rename_i hc
        simp only [sg_st]
        rw [if_pos ⟨hc.1, hc.2, h.1⟩]
        exact ⟨rfl, h.2⟩
      · exact h.elim
    · exact h.elim
  | ifCond cd off =>
    simp only [sg_sp] at h
    split at h
    · rename_i x r
      split at h
      · rename_i h0
        simp only [sg_st, sg_jp]
        rw [if_pos h0]
        refine ⟨rfl, ?_⟩
        cases cd <;> simp only [sg_cmp] at h ⊢ <;> split at h <;> rename_i hx
        · rw [decide_eq_true hx]; exact h
        · rw [decide_eq_false hx]; exact h
        · rw [decide_eq_true hx]; exact h
        · rw [decide_eq_false hx]; exact h
        · rw [decide_eq_true hx]; exact h
        · rw [decide_eq_false hx]; exact h
        · rw [decide_eq_false (sg_lt_nle hx)]; exact h
        · rw [decide_eq_true (sg_nlt hx)]; exact h
        · rw [decide_eq_true hx]; exact h
        · rw [decide_eq_false hx]; exact h
        · rw [decide_eq_false (sg_lt_nle hx)]; exact h
        · rw [decide_eq_true (sg_nlt hx)]; exact h
      · exact h.elim
    · exact h.elim
  | if_icmp cd off =>
    simp only [sg_sp] at h
    split at h
    · rename_i y x r
      split at h
      · rename_i h0
        simp only [sg_st, sg_jp]
        rw [if_pos h0]
        refine ⟨rfl, ?_⟩
        cases cd <;> simp only [sg_cmp] at h ⊢ <;> split at h <;> rename_i hx
        · rw [decide_eq_true hx]; exact h
        · rw [decide_eq_false hx]; exact h
        · rw [decide_eq_true hx]; exact h
        · rw [decide_eq_false hx]; exact h
        · rw [decide_eq_true hx]; exact h
        · rw [decide_eq_false hx]; exact h
        · rw [decide_eq_false (sg_lt_nle hx)]; exact h
        · rw [decide_eq_true (sg_nlt hx)]; exact h
        · rw [decide_eq_true hx]; exact h
        · rw [decide_eq_false hx]; exact h
        · rw [decide_eq_false (sg_lt_nle hx)]; exact h
        · rw [decide_eq_true (sg_nlt hx)]; exact h
      · exact h.elim
    · exact h.elim
  | invokestatic k =>
    simp only [sg_sp] at h
    simp only [sg_st]
    split at h
    · rename_i hk
      rw [hk]
      split at h
      · split at h
        · rename_i hc
          dsimp only
          rw [if_pos ⟨hc.1, hc.2.1, hc.2.2.1, hc.2.2.2.1, h.1, h.2.1, h.2.2.1, h.2.2.2.1, h.2.2.2.2.1, hc.2.2.2.2.1, hc.2.2.2.2.2.1, hc.2.2.2.2.2.2⟩]
          exact ⟨rfl, h.2.2.2.2.2⟩
        · exact h.elim
      · exact h.elim
    · rename_i kd y pl hne hk
      split at h
      · rename_i hc
        rw [hk]
        have hk7 : ¬ kd = 7 := by omega
        split
        · rename_i h7
          simp only [Option.some.injEq, Prod.mk.injEq] at h7
          exact absurd h7.1 hk7
        · rename_i kd' y' pl' hne' heq
          simp only [Option.some.injEq, Prod.mk.injEq] at heq
          obtain ⟨rfl, rfl, rfl⟩ := heq
          rw [if_pos ⟨hc.1, hc.2.1, hc.2.2.1, hc.2.2.2.1⟩]
          exact ⟨rfl, hlic, hc.2.2.2.2, h⟩
        · rename_i heq
          cases heq
      · exact h.elim
    · exact h.elim
  | invokevirtual k =>
    simp only [sg_sp] at h
    simp only [sg_st]
    split at h
    · rename_i y pl hk
      split at h
      · rename_i hc
        split at h
        · rename_i a as hrev
          split at h
          · rename_i hc2
            rw [hk]
            split
            · rename_i h8
              simp at h8
            · rename_i kd' y' pl' hne' heq
              simp only [Option.some.injEq, Prod.mk.injEq] at heq
              obtain ⟨rfl, rfl, rfl⟩ := heq
              rw [if_pos ⟨rfl, hc.1, hc.2.1, hc.2.2.1⟩, hrev]
              show sg_wk X n M σ Q (if a < n ∧ sg_kd a = 0 ∧ sg_ag a = sg_mo y then _ else none)
              rw [if_pos hc2]
              refine ⟨rfl, hlic, ?_, h⟩
              have := hc.2.2.2
              rw [hrev] at this
              exact this
            · rename_i heq
              cases heq
          · exact h.elim
        · exact h.elim
      · exact h.elim
    · exact h.elim
  | tableswitch d lo hi offs =>
    simp only [sg_sp] at h
    split at h
    · simp only [sg_st]
      split at h
      · rename_i hc
        rw [if_pos hc, if_pos h.1]
        exact ⟨rfl, h.2⟩
      · rename_i hc
        rw [if_neg hc]
        split at h
        · rename_i off ho
          rw [ho]
          dsimp only
          rw [if_pos h.1]
          exact ⟨rfl, h.2⟩
        · exact h.elim
    · exact h.elim
  | _ =>
    simp only [sg_sp] at h <;> first
    | exact h.elim
    | (simp only [sg_st, sg_nx, sg_ldi, sg_ldl, sg_lda, sg_sti, sg_stl, sg_sta, sg_i1, sg_i2, sg_l2, sg_jp]
       (repeat' split at h) <;> first
         | exact h.elim
         | (simp_all [sg_wk, sg_zn, sg_LK, sg_cmp, sg_wv]; done))
/-- instructions that go on to the next one -/
def sg_sf (i : Instr) : Bool := match i with
  | .goto _ | .ifCond _ _ | .if_icmp _ _ | .tableswitch _ _ _ _ | .invokestatic _ | .invokevirtual _ | .invokespecial _ | .ireturn | .lreturn | .areturn | .return_ => false
  | _ => true
set_option maxHeartbeats 4000000 in
theorem sg_sp_mono {X : sg_X} {n M pc len : Nat} {ls : sg_L} {st : List Value} {σ : sg_S} {i : Instr} {K K' : Nat → sg_L → List Value → sg_S → Prop} {KC : Nat → List Value → Nat → sg_L → List Value → Prop} {KR : Option Value → Prop} (hs : sg_sf i = true) (hl : sg_ln i len = true) (hK : ∀ ls st σ, K (pc + len) ls st σ → K' (pc + len) ls st σ)
    (h : sg_sp X n M i pc ls st σ K KC KR) : sg_sp X n M i pc ls st σ K' KC KR := by
  cases i with
  | aaload =>
    simp only [sg_ln, beq_iff_eq] at hl
    subst hl
    simp only [sg_sp] at h ⊢
    split at h
    · split at h
      · rename_i hc
        rw [if_pos hc]
        exact ⟨h.1, h.2.1, hK _ _ _ h.2.2⟩
      · exact h.elim
    · exact h.elim
  | baload =>
    simp only [sg_ln, beq_iff_eq] at hl
    subst hl
    simp only [sg_sp] at h ⊢
    split at h
    · split at h
      · rename_i hc
        rw [if_pos hc]
        exact ⟨h.1, hK _ _ _ h.2⟩
      · exact h.elim
    · exact h.elim
  | bastore =>
    simp only [sg_ln, beq_iff_eq] at hl
    subst hl
    simp only [sg_sp] at h ⊢
    split at h
    · split at h
      · rename_i hc
        rw [if_pos hc]
        exact ⟨h.1, h.2.1, hK _ _ _ h.2.2⟩
      · exact h.elim
    · exact h.elim
  | iastore =>
    simp only [sg_ln, beq_iff_eq] at hl
    subst hl
    simp only [sg_sp] at h ⊢
    split at h
    · split at h
      · rename_i hc
        rw [if_pos hc]
        exact ⟨h.1, hK _ _ _ h.2⟩
      · exact h.elim
    · exact h.elim
  | iaload =>
    simp only [sg_ln, beq_iff_eq] at hl
    subst hl
    simp only [sg_sp] at h ⊢
    split at h
    · split at h
      · rename_i h1
        rw [if_pos h1]
        split at h
        · rename_i h2
          rw [if_pos h2]
          exact ⟨h.1, hK _ _ _ h.2⟩
        · exact h.elim
      · rename_i h1
        rw [if_neg h1]
        split at h
        · rename_i h2
          rw [if_pos h2]
          exact ⟨h.1, hK _ _ _ h.2⟩
        · exact h.elim
    · exact h.elim
  | arraylength =>
    simp only [sg_ln, beq_iff_eq] at hl
    subst hl
    simp only [sg_sp] at h ⊢
    split at h
    · split at h
      · rename_i h1
        rw [if_pos h1]
        split at h
        · rename_i h2
          rw [if_pos h2]
          exact hK _ _ _ h
        · exact h.elim
      · rename_i h1
        rw [if_neg h1]
        split at h
        · rename_i h2
          rw [if_pos h2]
          exact hK _ _ _ h
        · exact h.elim
    · exact h.elim
  | _ =>
    first
    | (simp [sg_sf] at hs; done)
    | (simp only [sg_ln, beq_iff_eq] at hl
       subst hl
       simp only [sg_sp] at h ⊢ <;> first
       | exact h.elim
       | exact hK _ _ _ h
       | ((repeat' split at h) <;> first
           | exact h.elim
           | (simp_all; done)
           | exact hK _ _ _ h
           | exact ⟨h.1, hK _ _ _ h.2⟩
           | exact ⟨h.1, h.2.1, hK _ _ _ h.2.2⟩))
/-- a block: the instructions in a row -/
def sg_sq (X : sg_X) (n M : Nat) (Q : Option Value → sg_S → Prop) : List Instr → Nat → sg_L → List Value → sg_S → Prop
  | [], pc, ls, st, σ => sg_wq X n M pc ls st σ Q
  | i :: is, pc, ls, st, σ => sg_sp X n M i pc ls st σ (sg_sq X n M Q is) (sg_KC X n M Q σ) (fun r => Q r σ)
def sg_dq (b : ByteArray) : List Instr → Nat → Bool
  | [], _ => true
  | i :: is, pc => match decode b pc with
    | .ok (j, n) => decide (j = i) && sg_ln i n && (is.isEmpty || sg_sf i) && sg_dq b is (pc + n)
    | _ => false
theorem sg_sq_wq {X : sg_X} {n M : Nat} {Q : Option Value → sg_S → Prop} (hlic : sg_lic n sg_LK = true) : ∀ (is : List Instr) {pc : Nat} {ls : sg_L} {st : List Value} {σ : sg_S}, sg_dq (sg_mc M) is pc = true → sg_sq X n M Q is pc ls st σ → sg_wq X n M pc ls st σ Q
  | [], pc, ls, st, σ, _, h => h
  | i :: is, pc, ls, st, σ, hd, h => by
    rw [sg_dq] at hd
    split at hd
    · rename_i j len hdec
      simp only [Bool.and_eq_true, Bool.or_eq_true, decide_eq_true_eq] at hd
      obtain ⟨⟨⟨rfl, hln⟩, hsf⟩, hrest⟩ := hd
      refine sg_wq_one hdec hln (sg_sp_wk hlic ?_)
      rcases hsf with he | hsf
      · rw [List.isEmpty_iff] at he
        subst he
        exact h
      · exact sg_sp_mono hsf hln (fun ls st σ h => sg_sq_wq hlic is hrest h) h
    · cases hd
theorem sg_blk {X : sg_X} {M : Nat} {Q : Option Value → sg_S → Prop} (is : List Instr) {pc : Nat} {ls : sg_L} {st : List Value} {σ : sg_S} (hd : sg_dq (sg_mc M) is pc = true) (h : sg_sq X sg_N M Q is pc ls st σ) : sg_wq X sg_N M pc ls st σ Q := sg_sq_wq sg_licN is hd h
