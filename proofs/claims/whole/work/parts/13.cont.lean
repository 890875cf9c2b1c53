theorem sg_cw : ∀ m, m < 203 → Cond.code (sg_my m) (sg_mc m) (sg_ml m) (sg_mr m) ∈ lw_tbl
  | 0, _ => sg_cw0
  | 1, _ => sg_cw1
  | 2, _ => sg_cw2
  | 3, _ => sg_cw3
  | 4, _ => sg_cw4
  | 5, _ => sg_cw5
  | 6, _ => sg_cw6
  | 7, _ => sg_cw7
  | 8, _ => sg_cw8
  | 9, _ => sg_cw9
  | 10, _ => sg_cw10
  | 11, _ => sg_cw11
  | 12, _ => sg_cw12
  | 13, _ => sg_cw13
  | 14, _ => sg_cw14
  | 15, _ => sg_cw15
  | 16, _ => sg_cw16
  | 17, _ => sg_cw17
  | 18, _ => sg_cw18
  | 19, _ => sg_cw19
  | 20, _ => sg_cw20
  | 21, _ => sg_cw21
  | 22, _ => sg_cw22
  | 23, _ => sg_cw23
  | 24, _ => sg_cw24
  | 25, _ => sg_cw25
  | 26, _ => sg_cw26
  | 27, _ => sg_cw27
  | 28, _ => sg_cw28
  | 29, _ => sg_cw29
  | 30, _ => sg_cw30
  | 31, _ => sg_cw31
  | 32, _ => sg_cw32
  | 33, _ => sg_cw33
  | 34, _ => sg_cw34
  | 35, _ => sg_cw35
  | 36, _ => sg_cw36
  | 37, _ => sg_cw37
  | 38, _ => sg_cw38
  | 39, _ => sg_cw39
  | 40, _ => sg_cw40
  | 41, _ => sg_cw41
  | 42, _ => sg_cw42
  | 43, _ => sg_cw43
  | 44, _ => sg_cw44
  | 45, _ => sg_cw45
  | 46, _ => sg_cw46
  | 47, _ => sg_cw47
  | 48, _ => sg_cw48
  | 49, _ => sg_cw49
  | 50, _ => sg_cw50
  | 51, _ => sg_cw51
  | 52, _ => sg_cw52
  | 53, _ => sg_cw53
  | 54, _ => sg_cw54
  | 55, _ => sg_cw55
  | 56, _ => sg_cw56
  | 57, _ => sg_cw57
  | 58, _ => sg_cw58
  | 59, _ => sg_cw59
  | 60, _ => sg_cw60
  | 61, _ => sg_cw61
  | 62, _ => sg_cw62
  | 63, _ => sg_cw63
  | 64, _ => sg_cw64
  | 65, _ => sg_cw65
  | 66, _ => sg_cw66
  | 67, _ => sg_cw67
  | 68, _ => sg_cw68
  | 69, _ => sg_cw69
  | 70, _ => sg_cw70
  | 71, _ => sg_cw71
  | 72, _ => sg_cw72
  | 73, _ => sg_cw73
  | 74, _ => sg_cw74
  | 75, _ => sg_cw75
  | 76, _ => sg_cw76
  | 77, _ => sg_cw77
  | 78, _ => sg_cw78
  | 79, _ => sg_cw79
  | 80, _ => sg_cw80
  | 81, _ => sg_cw81
  | 82, _ => sg_cw82
  | 83, _ => sg_cw83
  | 84, _ => sg_cw84
  | 85, _ => sg_cw85
  | 86, _ => sg_cw86
  | 87, _ => sg_cw87
  | 88, _ => sg_cw88
  | 89, _ => sg_cw89
  | 90, _ => sg_cw90
  | 91, _ => sg_cw91
  | 92, _ => sg_cw92
  | 93, _ => sg_cw93
  | 94, _ => sg_cw94
  | 95, _ => sg_cw95
  | 96, _ => sg_cw96
  | 97, _ => sg_cw97
  | 98, _ => sg_cw98
  | 99, _ => sg_cw99
  | 100, _ => sg_cw100
  | 101, _ => sg_cw101
  | 102, _ => sg_cw102
  | 103, _ => sg_cw103
  | 104, _ => sg_cw104
  | 105, _ => sg_cw105
  | 106, _ => sg_cw106
  | 107, _ => sg_cw107
  | 108, _ => sg_cw108
  | 109, _ => sg_cw109
  | 110, _ => sg_cw110
  | 111, _ => sg_cw111
  | 112, _ => sg_cw112
  | 113, _ => sg_cw113
  | 114, _ => sg_cw114
  | 115, _ => sg_cw115
  | 116, _ => sg_cw116
  | 117, _ => sg_cw117
  | 118, _ => sg_cw118
  | 119, _ => sg_cw119
  | 120, _ => sg_cw120
  | 121, _ => sg_cw121
  | 122, _ => sg_cw122
  | 123, _ => sg_cw123
  | 124, _ => sg_cw124
  | 125, _ => sg_cw125
  | 126, _ => sg_cw126
  | 127, _ => sg_cw127
  | 128, _ => sg_cw128
  | 129, _ => sg_cw129
  | 130, _ => sg_cw130
  | 131, _ => sg_cw131
  | 132, _ => sg_cw132
  | 133, _ => sg_cw133
  | 134, _ => sg_cw134
  | 135, _ => sg_cw135
  | 136, _ => sg_cw136
  | 137, _ => sg_cw137
  | 138, _ => sg_cw138
  | 139, _ => sg_cw139
  | 140, _ => sg_cw140
  | 141, _ => sg_cw141
  | 142, _ => sg_cw142
  | 143, _ => sg_cw143
  | 144, _ => sg_cw144
  | 145, _ => sg_cw145
  | 146, _ => sg_cw146
  | 147, _ => sg_cw147
  | 148, _ => sg_cw148
  | 149, _ => sg_cw149
  | 150, _ => sg_cw150
  | 151, _ => sg_cw151
  | 152, _ => sg_cw152
  | 153, _ => sg_cw153
  | 154, _ => sg_cw154
  | 155, _ => sg_cw155
  | 156, _ => sg_cw156
  | 157, _ => sg_cw157
  | 158, _ => sg_cw158
  | 159, _ => sg_cw159
  | 160, _ => sg_cw160
  | 161, _ => sg_cw161
  | 162, _ => sg_cw162
  | 163, _ => sg_cw163
  | 164, _ => sg_cw164
  | 165, _ => sg_cw165
  | 166, _ => sg_cw166
  | 167, _ => sg_cw167
  | 168, _ => sg_cw168
  | 169, _ => sg_cw169
  | 170, _ => sg_cw170
  | 171, _ => sg_cw171
  | 172, _ => sg_cw172
  | 173, _ => sg_cw173
  | 174, _ => sg_cw174
  | 175, _ => sg_cw175
  | 176, _ => sg_cw176
  | 177, _ => sg_cw177
  | 178, _ => sg_cw178
  | 179, _ => sg_cw179
  | 180, _ => sg_cw180
  | 181, _ => sg_cw181
  | 182, _ => sg_cw182
  | 183, _ => sg_cw183
  | 184, _ => sg_cw184
  | 185, _ => sg_cw185
  | 186, _ => sg_cw186
  | 187, _ => sg_cw187
  | 188, _ => sg_cw188
  | 189, _ => sg_cw189
  | 190, _ => sg_cw190
  | 191, _ => sg_cw191
  | 192, _ => sg_cw192
  | 193, _ => sg_cw193
  | 194, _ => sg_cw194
  | 195, _ => sg_cw195
  | 196, _ => sg_cw196
  | 197, _ => sg_cw197
  | 198, _ => sg_cw198
  | 199, _ => sg_cw199
  | 200, _ => sg_cw200
  | 201, _ => sg_cw201
  | 202, _ => sg_cw202
  | _ + 203, h => by omega

/-- a method's words -/
def sg_wo (y : Nat) : List Cond := Cond.code (sg_my y) (sg_mc y) (sg_ml y) (sg_mr y) :: sg_gw
theorem sg_wo_in {y : Nat} (h : y < 203) : GoodIn sg_gw (sg_wo y) := by
  intro w hw
  rcases List.mem_cons.mp hw with rfl | hw
  · exact ⟨List.mem_filter.mpr ⟨sg_cw y h, rfl⟩, Or.inl rfl⟩
  · exact ⟨hw, good_of_word (List.mem_filter.mp hw).2⟩
theorem sg_nf49 (c : Nat) : sg_nf c ≤ 49 := by
  by_cases h : c < 11
  · exact (show ∀ c, c < 11 → sg_nf c ≤ 49 by decide +kernel) c h
  · unfold sg_nf
    rw [List.getD_eq_getElem?_getD, List.getElem?_eq_none (by show 11 ≤ c; omega)]
    decide
theorem sg_is49 {k j : Nat} (h : sg_is k j = true) : j < 49 := by
  unfold sg_is at h
  simp only [Bool.or_eq_true, Bool.and_eq_true, decide_eq_true_eq] at h
  rcases h with ⟨-, h⟩ | ⟨h0, h⟩
  · exact Nat.lt_of_lt_of_le (sg_rb_nf h) (sg_nf49 _)
  · by_cases hk : k < 128
    · have := (show ∀ k, k < 128 → sg_kd k = 3 → sg_ag k ≤ 49 by decide +kernel) k hk h0
      omega
    · rw [sg_kd_out (by omega)] at h
      omega
theorem sg_lic_LI {n : Nat} {lk : Nat → Nat → Bool} (h : sg_lic n lk = true) : sg_LI n lk := by
  intro k j hk hl hi
  have h1 := List.all_eq_true.mp (List.all_eq_true.mp h k (List.mem_range.mpr hk)) j (List.mem_range.mpr (sg_is49 hi))
  rw [hl, hi] at h1
  simpa using h1
/-! a method's contract, for one run of the plain machine -/
def sg_Pc (X : sg_X) (ra : Nat → Nat) (q : sg_Ci) (D : va_G) (ad : Nat → Nat) (n : Nat) (lk : Nat → Nat → Bool) (σ : sg_S) (as : List Value) (sz : Nat) : Array Value → State → Prop := fun v U =>
  v = (as.map (sg_vm ad ra)).toArray ∧ U.heap.size = sz ∧ va_P D vwCl (sg_wd q ad n lk σ) U.heap ∧ va_K D vwCl [(q.1, .int), (q.2.1, .boolean), (q.2.2, .object RX2)] U ∧ va_D (fun _ => True) (sg_wd q ad n lk σ) ∧ sg_RO X ra (va_A (sg_wd q ad n lk σ) sz) U U.heap ∧ ∀ w ∈ sg_nw, va_Nw w U
def sg_Qc (ra : Nat → Nat) (q : sg_Ci) (D : va_G) (ad : Nat → Nat) (n : Nat) (lk : Nat → Nat → Bool) (σ : sg_S) (sz : Nat) (r : Option Value) (z' : sg_Z) (σ' : sg_S) : Array Value → State → Outcome → State → Prop := fun _ st oc t =>
  (∃ ad' : Nat → Nat, (∀ k, k < n → ad' k = ad k) ∧ oc = .returned (r.map (sg_vm ad' ra)) ∧ va_P D vwCl (sg_wd q ad' z'.1 z'.2.2.2 σ') t.heap ∧ va_D (va_A (sg_wd q ad n lk σ) sz) (sg_wd q ad' z'.1 z'.2.2.2 σ') ∧ sg_LI z'.1 z'.2.2.2 ∧ z'.1 ≤ 1000) ∧ va_F (va_A (sg_wd q ad n lk σ) sz) st t
theorem sg_Pc_blind {X : sg_X} {ra : Nat → Nat} {q : sg_Ci} {D : va_G} {ad : Nat → Nat} {n : Nat} {lk : Nat → Nat → Bool} {σ : sg_S} {as : List Value} {sz : Nat} : FrameBlind (sg_Pc X ra q D ad n lk σ as sz) := by
  intro a U g mk h
  obtain ⟨h1, h2, h3, h4, h5, h6, h7⟩ := h
  exact ⟨h1, h2, h3, va_K.moved (u := U) (U := U.calling g mk a) (Vm.Alike.refl U.vm) h4, h5, sg_RO.moved (u := U) (U := U.calling g mk a) (Vm.Alike.refl U.vm) h6, sg_nw_warm (s := U) (U := U.calling g mk a) (State.WarmedH.refl U) h7⟩
section SGC
variable {p : Program} {l : Launch} {e : Env} {R : Room} {s : State} {m : MethodId} {args : Array Value} {below : List Frame} {meth : Method} {c : Code} {H : Heap} {locs : List Loc} {cells slots : Nat} {Q : State → Prop}
theorem sg_goes {pc : Nat} {arr : Array Slot} {rest st0 : List Value} {a : Array Value} {A : Nat → Prop} {mc ms : Nat} {ra : Nat → Nat} {q : sg_Ci} {D : va_G} {ad : Nat → Nat} {n : Nat} {lk : Nat → Nat → Bool} {σ : sg_S} {r : Option Value} {z' : sg_Z} {σ' : sg_S}
    (hr : va_Run p l e R s m args below meth c H locs cells slots mc ms (F0 m pc arr st0) rest (sg_Qc ra q D ad n lk σ H.size r z' σ' a) (va_A (sg_wd q ad n lk σ) H.size)) (hS : va_S A s.heap H locs) (hf : ∀ q', va_A (sg_wd q ad n lk σ) H.size q' → A q')
    (kk : ∀ (ad' : Nat → Nat) (H1 : Heap) (locs1 : List Loc), (∀ k, k < n → ad' k = ad k) → va_P D vwCl (sg_wd q ad' z'.1 z'.2.2.2 σ') H1 → va_D A (sg_wd q ad' z'.1 z'.2.2.2 σ') → sg_LI z'.1 z'.2.2.2 → z'.1 ≤ 1000 → va_S A s.heap H1 locs1 → W p l e R s m args below meth c H1 locs1 (cells + mc) (slots + ms) Q (F0 m (pc + 3) arr ((r.map (sg_vm ad' ra)).toList ++ rest))) : W p l e R s m args below meth c H locs cells slots Q (F0 m pc arr st0) := by
  intro T hT X
  obtain ⟨v, st₀, t, T', L, h0, X', hL, e1, e2, ⟨⟨ad', h1, h2, h3, h4, h5, h6⟩, hz, hk⟩, st⟩ := hr T hT X
  cases h2
  rw [h0] at hz hk
  obtain ⟨t2, a1, b1⟩ := kk ad' T'.heap (locs ++ L) h1 (by rw [e1]; exact h3) (h4.weaken (fun _ _ _ h => hf _ h)) h5 h6
    ⟨Nat.le_trans hS.1 (by rw [e1]; exact hz), fun q' g1 g2 => by rw [e1, hk q' (Nat.lt_of_lt_of_le g1 hS.1) (fun z => g2 (hf q' z))]; exact hS.2.1 q' g1 g2, fun q' hq => by
      rcases List.mem_append.mp hq with h | h
      · exact hS.2.2 q' h
      · exact hf _ (hL q' h)⟩ T' rfl X'
  exact ⟨t2, st t2 a1, b1⟩
end SGC
/-- what a run of the plain machine says of the machine -/
def sg_Snd (X : sg_X) (f : Nat) : Prop := ∀ (M pc : Nat) (ls : sg_L) (st : List Value) (z : sg_Z) (σ : sg_S) (r : Option Value) (z' : sg_Z) (σ' : sg_S), sg_ex X f M pc ls st z σ = some (r, z', σ') →
  ∀ (p : Program) (l : Launch) (e : Env) (R : Room) (s : State) (m : MethodId) (args : Array Value) (below : List Frame) (meth : Method) (c : Code) (A : Nat → Prop) (D : va_G) (q : sg_Ci) (ra : Nat → Nat) (n0 : Nat) (ad0 : Nat → Nat) (Q : State → Prop), sg_Cx p R s m args meth c M A D q X ra → z'.2.1 ≤ R.cells → z'.2.2.1 ≤ R.slots →
  (∀ (H : Heap) (locs : List Loc) (ad : Nat → Nat) (arr : Array Slot) (pcr : Nat) (i : Instr) (n : Nat) (lsr : sg_L) (str : List Value), sg_In s A D q n0 ad0 ad z' σ' H locs → decode (sg_mc M) pcr = .ok (i, n) → sg_ln i n = true → sg_st X M i pcr lsr str z' σ' = some (.inr (.inr r)) → sg_ws z'.1 str → W p l e R s m args below meth c H locs z'.2.1 z'.2.2.1 Q (F0 m pcr arr (str.map (sg_vm ad ra)))) →
  sg_OK p l e R s m args below meth c M A D q ra n0 ad0 Q pc ls st z σ
theorem sg_ret_inv {X : sg_X} {M pc : Nat} {i : Instr} {ls : sg_L} {st : List Value} {z : sg_Z} {σ : sg_S} {r : Option Value} (h : sg_st X M i pc ls st z σ = some (.inr (.inr r))) :
    (∃ v, i = .ireturn ∧ st = [.int v] ∧ r = some (.int v) ∧ (sg_mr M = some .int ∨ (sg_mr M = some .boolean ∧ (v = 0 ∨ v = 1)))) ∨ (∃ v, i = .lreturn ∧ st = [.long v] ∧ r = some (.long v) ∧ sg_mr M = some .long) ∨ (∃ a n, i = .areturn ∧ st = [.ref a] ∧ r = some (.ref a) ∧ sg_mr M = some (.object n)) ∨ (i = .return_ ∧ st = [] ∧ r = none ∧ sg_mr M = none) := by
  cases i with
  | ireturn =>
    simp only [sg_st] at h
    split at h
    · rename_i v h1
      simp only [Option.some.injEq, Sum.inr.injEq] at h
      exact Or.inl ⟨v, rfl, rfl, h.symm, Or.inl h1⟩
    · rename_i v h1
      split at h
      · rename_i hv
        simp only [Option.some.injEq, Sum.inr.injEq] at h
        exact Or.inl ⟨v, rfl, rfl, h.symm, Or.inr ⟨h1, hv⟩⟩
      · cases h
    · cases h
  | lreturn =>
    simp only [sg_st] at h
    split at h
    · rename_i v h1
      simp only [Option.some.injEq, Sum.inr.injEq] at h
      exact Or.inr (Or.inl ⟨v, rfl, rfl, h.symm, h1⟩)
    · cases h
  | areturn =>
    simp only [sg_st] at h
    split at h
    · rename_i a n h1
      simp only [Option.some.injEq, Sum.inr.injEq] at h
      exact Or.inr (Or.inr (Or.inl ⟨a, n, rfl, rfl, h.symm, h1⟩))
    · cases h
  | return_ =>
    simp only [sg_st] at h
    split at h
    · rename_i h1
      simp only [Option.some.injEq, Sum.inr.injEq] at h
      exact Or.inr (Or.inr (Or.inr ⟨rfl, rfl, h.symm, h1⟩))
    · cases h
  | _ =>
    simp only [sg_st, sg_nx, sg_ldi, sg_ldl, sg_lda, sg_sti, sg_stl, sg_sta, sg_i1, sg_i2, sg_l2, sg_jp, reduceCtorEq] at h <;>
    (repeat' split at h) <;> cases h
theorem sg_e1_or (a : Value) : (∃ x, a = .long x ∧ sg_e1 a = [some (.long x), none]) ∨ ((∀ x, a ≠ .long x) ∧ sg_e1 a = [some a]) := by
  cases a with
  | long x => exact Or.inl ⟨x, rfl, rfl⟩
  | _ => exact Or.inr ⟨fun x h => (by cases h), rfl⟩
theorem sg_en_get {ad ra : Nat → Nat} : ∀ (as : List Value) (k i : Nat) (v : Value), (as.flatMap sg_e1)[i]? = some (some v) → (∀ v ∈ as, v.category = 2 → ∃ x, v = .long x) → (k + i, sg_vm ad ra v) ∈ lv_args k (as.map (sg_vm ad ra))
  | [], k, i, v, h, _ => by simp at h
  | a :: as, k, i, v, h, hc => by
    rw [List.flatMap_cons] at h
    have hc' : ∀ v ∈ as, v.category = 2 → ∃ x, v = .long x := fun v hv => hc v (List.mem_cons_of_mem _ hv)
    rcases sg_e1_or a with ⟨x, rfl, e⟩ | ⟨ha, e⟩
    · rw [e] at h
      rw [List.map_cons, lv_args]
      match i, h with
      | 0, h =>
        simp only [List.cons_append, List.getElem?_cons_zero, Option.some.injEq] at h
        subst h
        exact List.mem_cons_self
      | 1, h => simp at h
      | i + 2, h =>
        simp only [List.cons_append, List.nil_append, List.getElem?_cons_succ] at h
        have h2 := sg_en_get (ad := ad) (ra := ra) as (k + 2) i v h hc'
        refine List.mem_cons_of_mem _ ?_
        rw [show k + (i + 2) = k + 2 + i by omega]
        exact h2
    · have hcat : a.category = 1 := by
        rcases lv_cat a with h1 | h1
        · exact h1
        · obtain ⟨x, hx⟩ := hc a List.mem_cons_self h1
          exact absurd hx (ha x)
      rw [e] at h
      rw [List.map_cons, lv_args]
      match i, h with
      | 0, h =>
        simp only [List.cons_append, List.nil_append, List.getElem?_cons_zero, Option.some.injEq] at h
        subst h
        exact List.mem_cons_self
      | i + 1, h =>
        simp only [List.cons_append, List.nil_append, List.getElem?_cons_succ] at h
        have h2 := sg_en_get (ad := ad) (ra := ra) as (k + 1) i v h hc'
        refine List.mem_cons_of_mem _ ?_
        rw [sg_vm_cat, hcat, if_neg (by decide), show k + (i + 1) = k + 1 + i by omega]
        exact h2
theorem sg_e1_len (ad ra : Nat → Nat) : ∀ (as : List Value), (∀ v ∈ as, v.category = 2 → ∃ x, v = .long x) → (lg_sl (as.map (sg_vm ad ra))).length = (as.flatMap sg_e1).length
  | [], _ => rfl
  | a :: as, hc => by
    have ih := sg_e1_len ad ra as (fun v hv => hc v (List.mem_cons_of_mem _ hv))
    rcases sg_e1_or a with ⟨x, rfl, e⟩ | ⟨ha, e⟩
    · simp only [lg_sl, List.map_cons, List.flatMap_cons, List.length_append, e] at ih ⊢
      rw [ih]
      rfl
    · have hcat : a.category = 1 := by
        rcases lv_cat a with h1 | h1
        · exact h1
        · obtain ⟨x, hx⟩ := hc a List.mem_cons_self h1
          exact absurd hx (ha x)
      simp only [lg_sl, List.map_cons, List.flatMap_cons, List.length_append, e] at ih ⊢
      rw [ih]
      cases a <;> first | rfl | (simp [Value.category] at hcat)

