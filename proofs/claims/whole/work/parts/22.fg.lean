/-! locals may be forgotten -/
def sg_lb : sg_L → sg_L → Prop
  | [], [] => True
  | a :: l, b :: l' => (a = none ∨ a = b) ∧ sg_lb l l'
  | _, _ => False
theorem sg_lb_rf : ∀ (l : sg_L), sg_lb l l
  | [] => trivial
  | _ :: l => ⟨Or.inr rfl, sg_lb_rf l⟩
theorem sg_lb_get : ∀ {l l' : sg_L} {k : Nat} {v : Value}, sg_lb l l' → l[k]? = some (some v) → l'[k]? = some (some v)
  | [], [], k, v, _, h => by simp at h
  | a :: l, b :: l', 0, v, hl, h => by
    simp only [List.getElem?_cons_zero, Option.some.injEq] at h ⊢
    rcases hl.1 with h1 | h1
    · rw [h1] at h; cases h
    · rw [← h1]; exact h
  | a :: l, b :: l', k + 1, v, hl, h => by
    simp only [List.getElem?_cons_succ] at h ⊢
    exact sg_lb_get hl.2 h
  | [], _ :: _, k, v, hl, h => hl.elim
  | _ :: _, [], k, v, hl, h => hl.elim
theorem sg_lb_none : ∀ {l l' : sg_L} {k : Nat}, sg_lb l l' → l'[k]? = none → l[k]? = none
  | [], [], k, _, h => by simp
  | a :: l, b :: l', 0, hl, h => by simp at h
  | a :: l, b :: l', k + 1, hl, h => by
    simp only [List.getElem?_cons_succ] at h ⊢
    exact sg_lb_none hl.2 h
  | [], _ :: _, k, hl, h => hl.elim
  | _ :: _, [], k, hl, h => hl.elim
theorem sg_lb_set : ∀ {l l' : sg_L} (k : Nat) (o : Option Value), sg_lb l l' → sg_lb (l.set k o) (l'.set k o)
  | [], [], k, o, h => by simpa using h
  | a :: l, b :: l', 0, o, hl => ⟨Or.inr rfl, hl.2⟩
  | a :: l, b :: l', k + 1, o, hl => ⟨hl.1, sg_lb_set k o hl.2⟩
  | [], _ :: _, k, o, hl => hl.elim
  | _ :: _, [], k, o, hl => hl.elim
theorem sg_lb_setn : ∀ {l l' : sg_L} (k : Nat), sg_lb l l' → (l[k]? = none ∨ l[k]? = some none) → sg_lb l (l'.set k none)
  | [], [], k, h, _ => by simpa using h
  | a :: l, b :: l', 0, hl, h => by
    simp only [List.getElem?_cons_zero, Option.some.injEq, reduceCtorEq, false_or] at h
    exact ⟨Or.inl h, hl.2⟩
  | a :: l, b :: l', k + 1, hl, h => by
    simp only [List.getElem?_cons_succ] at h
    exact ⟨hl.1, sg_lb_setn k hl.2 h⟩
  | [], _ :: _, k, hl, _ => hl.elim
  | _ :: _, [], k, hl, _ => hl.elim
theorem sg_lb_kill {l l' : sg_L} (k : Nat) (h : sg_lb l l') : sg_lb (sg_kill l k) (sg_kill l' k) := by
  unfold sg_kill
  cases k with
  | zero => exact h
  | succ k =>
    dsimp only
    cases hv : l[k]? with
    | none =>
      dsimp only
      split
      · split
        · exact sg_lb_setn k h (Or.inl hv)
        · exact h
      · exact h
    | some o =>
      cases o with
      | none =>
        dsimp only
        split
        · split
          · exact sg_lb_setn k h (Or.inr hv)
          · exact h
        · exact h
      | some v =>
        rw [sg_lb_get h hv]
        dsimp only
        split
        · exact sg_lb_set k none h
        · exact h
theorem sg_lb_s1 {l l' : sg_L} {k : Nat} {v : Value} (h : sg_lb l l') : sg_lb (sg_s1 l k v) (sg_s1 l' k v) := sg_lb_set k _ (sg_lb_kill k h)
theorem sg_lb_s2 {l l' : sg_L} {k : Nat} {v : Value} (h : sg_lb l l') : sg_lb (sg_s2 l k v) (sg_s2 l' k v) := sg_lb_set k _ (sg_lb_set _ _ (sg_lb_kill k h))
def sg_rr (o o' : sg_R) : Prop := match o, o' with
  | .inl (pc, ls, st, z, σ), .inl (pc', ls', st', z', σ') => pc = pc' ∧ st = st' ∧ z = z' ∧ σ = σ' ∧ sg_lb ls ls'
  | .inr (.inl (y, as, k, pc, ls, st)), .inr (.inl (y', as', k', pc', ls', st')) => y = y' ∧ as = as' ∧ k = k' ∧ pc = pc' ∧ st = st' ∧ sg_lb ls ls'
  | .inr (.inr r), .inr (.inr r') => r = r'
  | _, _ => False
theorem sg_rr_l {pc : Nat} {ls ls' : sg_L} {st : List Value} {z : sg_Z} {σ : sg_S} (h : sg_lb ls ls') : sg_rr (.inl (pc, ls, st, z, σ)) (.inl (pc, ls', st, z, σ)) := ⟨rfl, rfl, rfl, rfl, h⟩
set_option maxHeartbeats 4000000 in
theorem sg_fg1 {X : sg_X} {m pc : Nat} {i : Instr} {ls ls' : sg_L} {st : List Value} {z : sg_Z} {σ : sg_S} {o : sg_R} (hl : sg_lb ls ls') (h : sg_st X m i pc ls st z σ = some o) : ∃ o', sg_st X m i pc ls' st z σ = some o' ∧ sg_rr o o' := by
  cases i <;> simp only [sg_st, sg_nx, sg_ldi, sg_ldl, sg_lda, sg_sti, sg_stl, sg_sta, sg_i1, sg_i2, sg_l2, sg_jp, reduceCtorEq] at h ⊢ <;>
    (repeat' split at h) <;>
    first
    | (cases h; done)
    | (cases h
       refine ⟨_, rfl, ?_⟩
       first
       | exact sg_rr_l hl
       | exact sg_rr_l (sg_lb_s1 hl)
       | exact sg_rr_l (sg_lb_s2 hl)
       | exact ⟨rfl, rfl, rfl, rfl, rfl, hl⟩
       | rfl)
    | (rename_i hv
       cases h
       rw [sg_lb_get hl hv]
       exact ⟨_, rfl, sg_rr_l hl⟩)
    | (rename_i hv hk
       cases h
       rw [sg_lb_get hl hv]
       dsimp only
       rw [if_pos hk]
       exact ⟨_, rfl, sg_rr_l (sg_lb_s1 hl)⟩)
    | (cases h
       (repeat rw [if_pos (by assumption)])
       (try rw [if_neg (by assumption)])
       (repeat rw [if_pos (by assumption)])
       refine ⟨_, rfl, ?_⟩
       first
       | exact sg_rr_l hl
       | exact sg_rr_l (sg_lb_s1 hl)
       | exact sg_rr_l (sg_lb_s2 hl)
       | exact ⟨rfl, rfl, rfl, rfl, rfl, hl⟩
       | rfl)
    | (cases h
       simp only [*, sg_in, and_self, true_and, and_true, if_true, if_false]
       refine ⟨_, rfl, ?_⟩
       first
       | exact sg_rr_l hl
       | exact sg_rr_l (sg_lb_s1 hl)
       | exact sg_rr_l (sg_lb_s2 hl)
       | exact ⟨rfl, rfl, rfl, rfl, rfl, hl⟩
       | rfl)
theorem sg_fg {X : sg_X} : ∀ (f : Nat) {M pc : Nat} {ls ls' : sg_L} {st : List Value} {z : sg_Z} {σ : sg_S} {r : Option Value × sg_Z × sg_S}, sg_lb ls ls' → sg_ex X f M pc ls st z σ = some r → sg_ex X f M pc ls' st z σ = some r
  | 0, M, pc, ls, ls', st, z, σ, r, _, h => by cases h
  | f + 1, M, pc, ls, ls', st, z, σ, r, hl, h => by
    rw [sg_ex] at h ⊢
    split at h
    · rename_i i n hd
      split at h
      · rename_i hln
        rw [if_pos hln]
        split at h
        · rename_i pc1 ls1 st1 z1 σ1 h1
          obtain ⟨o', g1, g2⟩ := sg_fg1 hl h1
          rw [g1]
          match o', g2 with
          | .inl (pc2, ls2, st2, z2, σ2), g2 =>
            obtain ⟨rfl, rfl, rfl, rfl, g3⟩ := g2
            exact sg_fg f g3 h
        · rename_i y as keep pc1 ls1 st1 h1
          obtain ⟨o', g1, g2⟩ := sg_fg1 hl h1
          rw [g1]
          match o', g2 with
          | .inr (.inl (y2, as2, keep2, pc2, ls2, st2)), g2 =>
            obtain ⟨rfl, rfl, rfl, rfl, rfl, g3⟩ := g2
            dsimp only
            split at h
            · rename_i r1 z1 σ1 h2
              split at h
              · rename_i hc
                rw [if_pos hc]
                exact sg_fg f g3 h
              · cases h
            · cases h
        · rename_i r1 h1
          obtain ⟨o', g1, g2⟩ := sg_fg1 hl h1
          rw [g1]
          match o', g2 with
          | .inr (.inr r2), g2 =>
            cases g2
            exact h
        · cases h
      · cases h
    · cases h
theorem sg_wq_fg {X : sg_X} {n M pc : Nat} {ls ls' : sg_L} {st : List Value} {σ : sg_S} {Q : Option Value → sg_S → Prop} (hl : sg_lb ls ls') (h : sg_wq X n M pc ls st σ Q) : sg_wq X n M pc ls' st σ Q := by
  obtain ⟨f, r, σ', h1, h2⟩ := h
  exact ⟨f, r, σ', sg_fg f hl h1, h2⟩
