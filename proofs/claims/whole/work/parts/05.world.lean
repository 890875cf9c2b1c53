/-! the machine's heap holds the plain machine's cells -/
def sg_fv (ad : Nat → Nat) (lk : Nat → Nat → Bool) (σ : sg_S) (k j : Nat) : Value := if sg_rb (sg_ag k) j = true then (if lk k j = true then .ref (ad (sg_rf k j)) else .null) else .int (σ k j)
def sg_fs (ad : Nat → Nat) (lk : Nat → Nat → Bool) (σ : sg_S) (k : Nat) : List Value := (List.range (sg_nf (sg_ag k))).map (sg_fv ad lk σ k)
def sg_ra (ad : Nat → Nat) (lk : Nat → Nat → Bool) (k : Nat) : Nat → Option Nat := fun j => if j < sg_ag k ∧ lk k j = true then some (ad (sg_rf k j)) else none
abbrev sg_Ci : Type := ClassId × ClassId × ClassId
def sg_et (q : sg_Ci) (ad : Nat → Nat) (lk : Nat → Nat → Bool) (σ : sg_S) (k : Nat) : va_E :=
  if sg_kd k = 0 then .inr (sg_ag k, sg_fs ad lk σ k)
  else if sg_kd k = 1 then .inl (q.1, sg_ag k, .inl (σ k))
  else if sg_kd k = 2 then .inl (q.2.1, sg_ag k, .inl (σ k))
  else .inl (q.2.2, sg_ag k, .inr (.inr (.inr (.inr (sg_ra ad lk k)))))
def sg_wd (q : sg_Ci) (ad : Nat → Nat) (n : Nat) (lk : Nat → Nat → Bool) (σ : sg_S) : va_W := (List.range n).map (fun k => (ad k, sg_et q ad lk σ k))
theorem sg_wd_get {q : sg_Ci} {ad : Nat → Nat} {n : Nat} {lk : Nat → Nat → Bool} {σ : sg_S} {k : Nat} (h : k < n) : (sg_wd q ad n lk σ)[k]? = some (ad k, sg_et q ad lk σ k) := by
  simp [sg_wd, h]
theorem sg_wd_lt {q : sg_Ci} {ad : Nat → Nat} {n : Nat} {lk : Nat → Nat → Bool} {σ : sg_S} {k : Nat} {x : Nat × va_E} (h : (sg_wd q ad n lk σ)[k]? = some x) : k < n ∧ x = (ad k, sg_et q ad lk σ k) := by
  have hk : k < n := by
    have := (List.getElem?_eq_some_iff.mp h).1
    simpa [sg_wd] using this
  exact ⟨hk, by rw [sg_wd_get hk] at h; exact (Option.some.inj h).symm⟩
theorem sg_wd_set {q : sg_Ci} {ad : Nat → Nat} {n : Nat} {lk lk' : Nat → Nat → Bool} {σ σ' : sg_S} {k : Nat} {e : va_E} (h : k < n) (he : e = sg_et q ad lk' σ' k) (ho : ∀ j, j < n → j ≠ k → sg_et q ad lk' σ' j = sg_et q ad lk σ j) : (sg_wd q ad n lk σ).set k (ad k, e) = sg_wd q ad n lk' σ' := by
  apply List.ext_getElem?
  intro i
  by_cases hi : i < n
  · by_cases hik : i = k
    · subst hik
      rw [List.getElem?_set_self (by simpa [sg_wd] using hi), sg_wd_get hi, he]
    · rw [List.getElem?_set_ne (Ne.symm hik), sg_wd_get hi, sg_wd_get hi, ho i hi hik]
  · rw [List.getElem?_eq_none (by simpa [sg_wd] using hi), List.getElem?_eq_none (by simpa [sg_wd] using hi)]
theorem sg_wd_push {q : sg_Ci} {ad ad' : Nat → Nat} {n : Nat} {lk : Nat → Nat → Bool} {σ σ' : sg_S} {a : Nat} {e : va_E} (ha : ad' n = a) (he : sg_et q ad' lk σ' n = e) (ho : ∀ j, j < n → ad' j = ad j ∧ sg_et q ad' lk σ' j = sg_et q ad lk σ j) : sg_wd q ad n lk σ ++ [(a, e)] = sg_wd q ad' (n + 1) lk σ' := by
  unfold sg_wd
  rw [List.range_succ, List.map_append, List.map_singleton, ha, he]
  congr 1
  apply List.map_congr_left
  intro j hj
  have := ho j (List.mem_range.mp hj)
  rw [this.1, this.2]
theorem sg_wd_less {q : sg_Ci} {ad : Nat → Nat} {n n' : Nat} {lk : Nat → Nat → Bool} {σ : sg_S} (h : n ≤ n') {k : Nat} {x : Nat × va_E} (hk : (sg_wd q ad n lk σ)[k]? = some x) : (sg_wd q ad n' lk σ)[k]? = some x := by
  obtain ⟨h1, rfl⟩ := sg_wd_lt hk
  exact sg_wd_get (Nat.lt_of_lt_of_le h1 h)
theorem sg_kd_out {k : Nat} (h : 128 ≤ k) : sg_ag k = 0 := by
  have : sg_sh k = (9, 0, []) := by
    unfold sg_sh
    rw [List.getD_eq_getElem?_getD, List.getElem?_eq_none (by exact h)]
    rfl
  simp [sg_ag, this]
theorem sg_kd_all : ∀ k, k < 128 → sg_kd k = 0 ∨ sg_kd k = 1 ∨ sg_kd k = 2 ∨ sg_kd k = 3 := by decide +kernel
theorem sg_kd3 {k j : Nat} (h0 : ¬ sg_kd k = 0) (h1 : ¬ sg_kd k = 1) (h2 : ¬ sg_kd k = 2) (hj : j < sg_ag k) : sg_kd k = 3 := by
  by_cases hk : k < 128
  · rcases sg_kd_all k hk with h | h | h | h
    · exact absurd h h0
    · exact absurd h h1
    · exact absurd h h2
    · exact h
  · rw [sg_kd_out (by omega)] at hj
    omega
def sg_LI (n : Nat) (lk : Nat → Nat → Bool) : Prop := ∀ k j, k < n → lk k j = true → sg_is k j = true → sg_rf k j < n
theorem sg_et_ad {q : sg_Ci} {ad ad' : Nat → Nat} {n : Nat} {lk : Nat → Nat → Bool} {σ : sg_S} (hL : sg_LI n lk) (ha : ∀ j, j < n → ad' j = ad j) {k : Nat} (hk : k < n) : sg_et q ad' lk σ k = sg_et q ad lk σ k := by
  unfold sg_et
  by_cases h0 : sg_kd k = 0
  · have e : sg_fs ad' lk σ k = sg_fs ad lk σ k := by
      unfold sg_fs
      apply List.map_congr_left
      intro j _
      unfold sg_fv
      by_cases hr : sg_rb (sg_ag k) j = true
      · by_cases hl : lk k j = true
        · rw [if_pos hr, if_pos hr, if_pos hl, if_pos hl, ha _ (hL k j hk hl (by simp [sg_is, h0, hr]))]
        · rw [if_pos hr, if_pos hr, if_neg hl, if_neg hl]
      · rw [if_neg hr, if_neg hr]
    rw [if_pos h0, if_pos h0, e]
  · rw [if_neg h0, if_neg h0]
    by_cases h1 : sg_kd k = 1
    · rw [if_pos h1, if_pos h1]
    · rw [if_neg h1, if_neg h1]
      by_cases h2 : sg_kd k = 2
      · rw [if_pos h2, if_pos h2]
      · have e : sg_ra ad' lk k = sg_ra ad lk k := by
          unfold sg_ra
          funext j
          by_cases hc : j < sg_ag k ∧ lk k j = true
          · rw [if_pos hc, if_pos hc, ha _ (hL k j hk hc.2 (by simp [sg_is, sg_kd3 h0 h1 h2 hc.1, hc.1]))]
          · rw [if_neg hc, if_neg hc]
        rw [if_neg h2, if_neg h2, e]
/-! locals -/
def sg_vm (ad ra : Nat → Nat) (v : Value) : Value := match v with
  | .ref k => .ref (if k < 1000 then ad k else ra (k - 1000))
  | v => v
theorem sg_vm_cat (ad ra : Nat → Nat) (v : Value) : (sg_vm ad ra v).category = v.category := by cases v <;> rfl
def sg_LH (ad ra : Nat → Nat) (arr : Array Slot) (nL : Nat) (ls : sg_L) : Prop := arr.size = nL ∧ lv_wf arr ∧ ∀ (i : Nat) (v : Value), ls[i]? = some (some v) → arr[i]? = some (.val (sg_vm ad ra v))
def sg_al (ad ra : Nat → Nat) (ls : sg_L) : List (Nat × Value) := ls.zipIdx.filterMap (fun x => x.1.map (fun v => (x.2, sg_vm ad ra v)))
theorem sg_al_mem {ad ra : Nat → Nat} {ls : sg_L} {i : Nat} {w : Value} : (i, w) ∈ sg_al ad ra ls ↔ ∃ v, ls[i]? = some (some v) ∧ w = sg_vm ad ra v := by
  unfold sg_al
  rw [List.mem_filterMap]
  constructor
  · rintro ⟨⟨o, j⟩, hm, he⟩
    have hm' := List.mem_zipIdx_iff_getElem?.mp hm
    cases o with
    | none => simp at he
    | some v =>
      simp only [Option.map_some, Option.some.injEq, Prod.mk.injEq] at he
      obtain ⟨rfl, rfl⟩ := he
      exact ⟨v, hm', rfl⟩
  · rintro ⟨v, hv, rfl⟩
    exact ⟨(some v, i), List.mem_zipIdx_iff_getElem?.mpr hv, rfl⟩
theorem sg_LH.has {ad ra : Nat → Nat} {arr : Array Slot} {nL : Nat} {ls : sg_L} (h : sg_LH ad ra arr nL ls) : lv_has arr nL (sg_al ad ra ls) := by
  refine ⟨h.1, h.2.1, ?_⟩
  rintro ⟨i, w⟩ hm
  obtain ⟨v, hv, rfl⟩ := sg_al_mem.mp hm
  exact h.2.2 i v hv
theorem sg_kill_get {ls : sg_L} {k i : Nat} {w : Value} (h : (sg_kill ls k)[i]? = some (some w)) : ls[i]? = some (some w) ∧ ¬ (i + 1 = k ∧ w.category = 2) := by
  unfold sg_kill at h
  cases k with
  | zero => exact ⟨h, fun q => by omega⟩
  | succ k =>
    dsimp only at h
    cases hv : ls[k]? with
    | none =>
      rw [hv] at h
      refine ⟨h, fun q => ?_⟩
      have e : i = k := by omega
      subst e
      rw [hv] at h
      cases h
    | some o =>
      cases o with
      | none =>
        rw [hv] at h
        refine ⟨h, fun q => ?_⟩
        have e : i = k := by omega
        subst e
        rw [hv] at h
        cases h
      | some v =>
        rw [hv] at h
        dsimp only at h
        by_cases hc : v.category = 2
        · rw [if_pos hc] at h
          by_cases e : i = k
          · subst e
            rw [List.getElem?_set_self (List.getElem?_eq_some_iff.mp hv).1] at h
            cases h
          · rw [List.getElem?_set_ne (Ne.symm e)] at h
            exact ⟨h, fun q => by omega⟩
        · rw [if_neg hc] at h
          refine ⟨h, fun q => ?_⟩
          have e : i = k := by omega
          subst e
          rw [hv] at h
          cases h
          exact hc q.2
theorem sg_LH.s1 {ad ra : Nat → Nat} {arr : Array Slot} {nL k : Nat} {ls : sg_L} {v : Value} (h : lv_has arr nL ((k, sg_vm ad ra v) :: (sg_al ad ra ls).filter (fun q => !(q.1 == k) && !(q.1 + 1 == k && q.2.category == 2)))) : sg_LH ad ra arr nL (sg_s1 ls k v) := by
  refine ⟨h.1, h.2.1, ?_⟩
  intro i w hi
  by_cases e : i = k
  · subst e
    have : w = v := by
      unfold sg_s1 at hi
      by_cases hl : i < (sg_kill ls i).length
      · rw [List.getElem?_set_self hl] at hi
        cases hi
        rfl
      · rw [List.getElem?_eq_none (by simp; omega)] at hi
        cases hi
    subst this
    exact h.2.2 (i, _) List.mem_cons_self
  · unfold sg_s1 at hi
    rw [List.getElem?_set_ne (Ne.symm e)] at hi
    obtain ⟨h1, h2⟩ := sg_kill_get hi
    refine h.2.2 (i, sg_vm ad ra w) (List.mem_cons_of_mem _ (List.mem_filter.mpr ⟨sg_al_mem.mpr ⟨w, h1, rfl⟩, ?_⟩))
    simp only [Bool.and_eq_true, Bool.not_eq_true', beq_eq_false_iff_ne, Bool.and_eq_false_iff, ne_eq]
    refine ⟨e, ?_⟩
    have hcat := sg_vm_cat ad ra w
    rw [hcat]
    by_cases hk : i + 1 = k
    · exact Or.inr (fun q => h2 ⟨hk, q⟩)
    · exact Or.inl hk
theorem sg_LH.s2 {ad ra : Nat → Nat} {arr : Array Slot} {nL k : Nat} {ls : sg_L} {v : Value} (h : lv_has arr nL ((k, sg_vm ad ra v) :: (sg_al ad ra ls).filter (fun q => !(q.1 == k) && (!(q.1 == k + 1) && !(q.1 + 1 == k && q.2.category == 2))))) : sg_LH ad ra arr nL (sg_s2 ls k v) := by
  refine ⟨h.1, h.2.1, ?_⟩
  intro i w hi
  by_cases e : i = k
  · subst e
    have : w = v := by
      unfold sg_s2 at hi
      by_cases hl : i < ((sg_kill ls i).set (i + 1) none).length
      · rw [List.getElem?_set_self hl] at hi
        cases hi
        rfl
      · rw [List.getElem?_eq_none (by simp at hl ⊢; omega)] at hi
        cases hi
    subst this
    exact h.2.2 (i, _) List.mem_cons_self
  · unfold sg_s2 at hi
    rw [List.getElem?_set_ne (Ne.symm e)] at hi
    by_cases e2 : i = k + 1
    · subst e2
      by_cases hl : k + 1 < (sg_kill ls k).length
      · rw [List.getElem?_set_self hl] at hi
        cases hi
      · rw [List.getElem?_eq_none (by simp; omega)] at hi
        cases hi
    rw [List.getElem?_set_ne (Ne.symm e2)] at hi
    obtain ⟨h1, h2⟩ := sg_kill_get hi
    refine h.2.2 (i, sg_vm ad ra w) (List.mem_cons_of_mem _ (List.mem_filter.mpr ⟨sg_al_mem.mpr ⟨w, h1, rfl⟩, ?_⟩))
    simp only [Bool.and_eq_true, Bool.not_eq_true', beq_eq_false_iff_ne, Bool.and_eq_false_iff, ne_eq]
    refine ⟨e, e2, ?_⟩
    have hcat := sg_vm_cat ad ra w
    rw [hcat]
    by_cases hk : i + 1 = k
    · exact Or.inr (fun q => h2 ⟨hk, q⟩)
    · exact Or.inl hk
/-! the read-only arrays -/
def sg_T (t N : Nat) (f : Nat → Int32) (A : Nat → Prop) (U : State) (H : Heap) : Prop := ∃ cell : Cell, H[t]? = some cell ∧ U.isArrayOf cell .int ∧ cell.vm ≠ .unknown ∧ cell.vm.isStatics = false ∧ cell.slots.size = N ∧ (∀ j : Nat, j < N → cell.slots[j]? = some (.int (f j))) ∧ ¬ A t
theorem sg_T.moved {t N : Nat} {f : Nat → Int32} {A : Nat → Prop} {u U : State} {H : Heap} (hvm : u.vm.Alike U.vm) (h : sg_T t N f A u H) : sg_T t N f A U H := by
  obtain ⟨cell, h1, h2, h3⟩ := h
  exact ⟨cell, h1, State.isArrayOf_alike hvm h2, h3⟩
theorem sg_T.kept {t N : Nat} {f : Nat → Int32} {A : Nat → Prop} {U : State} {H H1 : Heap} (h : sg_T t N f A U H) (hq : ∀ a : Nat, a < H.size → ¬ A a → H1[a]? = H[a]?) : sg_T t N f A U H1 := by
  obtain ⟨cell, h1, h2, h3, h4, h5, h6, h7⟩ := h
  exact ⟨cell, by rw [hq t (Array.getElem?_eq_some_iff.mp h1).1 h7]; exact h1, h2, h3, h4, h5, h6, h7⟩
theorem sg_T.narrow {t N : Nat} {f : Nat → Int32} {A B : Nat → Prop} {U : State} {H : Heap} (h : sg_T t N f A U H) (hAB : ∀ q, B q → A q) : sg_T t N f B U H := by
  obtain ⟨cell, h1, h2, h3, h4, h5, h6, h7⟩ := h
  exact ⟨cell, h1, h2, h3, h4, h5, h6, fun z => h7 (hAB t z)⟩
def sg_Rn (i : Nat) : String := match i with
  | 0 => "LEAST_SETTING"
  | 1 => "MOST_SETTING"
  | _ => "FIRST_SETTING"
/-- the array that is cloned is of the plain kind "[I" (the Statement doesn't say so of a static array: NOTES.md) -/
def sg_Tc (t : Nat) (A : Nat → Prop) (U : State) (H : Heap) : Prop := ∃ cell : Cell, H[t]? = some cell ∧ U.vm.findClass "[I" = some cell.cls ∧ ¬ A t
def sg_RO (X : sg_X) (ra : Nat → Nat) (A : Nat → Prop) (U : State) (H : Heap) : Prop := (∀ i, i < 4 → sg_T (ra i) (sg_ro X i).1 (sg_ro X i).2 A U H) ∧ (∀ i, i < 3 → va_Z RX9 (sg_Rn i) "[I" (.ref (ra i)) A U H) ∧ sg_Tc (ra 2) A U H
theorem sg_Tc.moved {t : Nat} {A : Nat → Prop} {u U : State} {H : Heap} (hvm : u.vm.Alike U.vm) (h : sg_Tc t A u H) : sg_Tc t A U H := by
  obtain ⟨cell, h1, h2, h3⟩ := h
  exact ⟨cell, h1, by rw [hvm.findClass]; exact h2, h3⟩
theorem sg_Tc.kept {t : Nat} {A : Nat → Prop} {U : State} {H H1 : Heap} (h : sg_Tc t A U H) (hq : ∀ a : Nat, a < H.size → ¬ A a → H1[a]? = H[a]?) : sg_Tc t A U H1 := by
  obtain ⟨cell, h1, h2, h3⟩ := h
  exact ⟨cell, by rw [hq t (Array.getElem?_eq_some_iff.mp h1).1 h3]; exact h1, h2, h3⟩
theorem sg_Tc.narrow {t : Nat} {A B : Nat → Prop} {U : State} {H : Heap} (h : sg_Tc t A U H) (hAB : ∀ q, B q → A q) : sg_Tc t B U H := by
  obtain ⟨cell, h1, h2, h3⟩ := h
  exact ⟨cell, h1, h2, fun z => h3 (hAB t z)⟩
theorem sg_RO.moved {X : sg_X} {ra : Nat → Nat} {A : Nat → Prop} {u U : State} {H : Heap} (hvm : u.vm.Alike U.vm) (h : sg_RO X ra A u H) : sg_RO X ra A U H := ⟨fun i hi => (h.1 i hi).moved hvm, fun i hi => (h.2.1 i hi).moved hvm, h.2.2.moved hvm⟩
theorem sg_RO.kept {X : sg_X} {ra : Nat → Nat} {A : Nat → Prop} {U : State} {H H1 : Heap} (h : sg_RO X ra A U H) (hq : ∀ a : Nat, a < H.size → ¬ A a → H1[a]? = H[a]?) : sg_RO X ra A U H1 := ⟨fun i hi => (h.1 i hi).kept hq, fun i hi => (h.2.1 i hi).kept hq, h.2.2.kept hq⟩
theorem sg_RO.narrow {X : sg_X} {ra : Nat → Nat} {A B : Nat → Prop} {U : State} {H : Heap} (h : sg_RO X ra A U H) (hAB : ∀ q, B q → A q) : sg_RO X ra B U H := ⟨fun i hi => (h.1 i hi).narrow hAB, fun i hi => (h.2.1 i hi).narrow hAB, h.2.2.narrow hAB⟩
