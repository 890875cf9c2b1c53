/-! what holds while a method runs -/
def sg_Cx (p : Program) (R : Room) (s : State) (m : MethodId) (args : Array Value) (meth : Method) (c : Code) (M : Nat) (A : Nat → Prop) (D : va_G) (q : sg_Ci) (X : sg_X) (ra : Nat → Nat) : Prop :=
  p.tables.exec = Jvm.exec ∧ c.code = sg_mc M ∧ c.maxLocals = sg_ml M ∧ meth.sig.returnType = sg_mr M ∧ s.vm.findClass (sg_cn (sg_mo M)) = some m.cls ∧ (∀ w ∈ sg_gw, w.before args s = true) ∧ (∀ w ∈ sg_nw, va_Nw w s) ∧ va_K D vwCl [(q.1, .int), (q.2.1, .boolean), (q.2.2, .object RX2)] s ∧ sg_RO X ra A s s.heap ∧ (∀ a, s.heap.size ≤ a → A a) ∧ meth.locks = false ∧ meth.name = (sg_my M).name ∧ sg_fr M ≤ R.frames ∧ sg_lo M ≤ R.locals
def sg_In (s : State) (A : Nat → Prop) (D : va_G) (q : sg_Ci) (n0 : Nat) (ad0 ad : Nat → Nat) (z : sg_Z) (σ : sg_S) (H : Heap) (locs : List Loc) : Prop :=
  va_P D vwCl (sg_wd q ad z.1 z.2.2.2 σ) H ∧ va_D A (sg_wd q ad z.1 z.2.2.2 σ) ∧ va_S A s.heap H locs ∧ z.1 ≤ 1000 ∧ sg_LI z.1 z.2.2.2 ∧ n0 ≤ z.1 ∧ ∀ k, k < n0 → ad k = ad0 k
abbrev sg_ws (n : Nat) (st : List Value) : Prop := st.all (sg_wv n) = true
abbrev sg_wl (n : Nat) (ls : sg_L) : Prop := ls.all (fun o => o.all (sg_wv n)) = true
def sg_OK (p : Program) (l : Launch) (e : Env) (R : Room) (s : State) (m : MethodId) (args : Array Value) (below : List Frame) (meth : Method) (c : Code) (M : Nat) (A : Nat → Prop) (D : va_G) (q : sg_Ci) (ra : Nat → Nat) (n0 : Nat) (ad0 : Nat → Nat) (Q : State → Prop) (pc : Nat) (ls : sg_L) (st : List Value) (z : sg_Z) (σ : sg_S) : Prop :=
  ∀ (H : Heap) (locs : List Loc) (ad : Nat → Nat) (arr : Array Slot), sg_In s A D q n0 ad0 ad z σ H locs → sg_LH ad ra arr (sg_ml M) ls → sg_wl z.1 ls → sg_ws z.1 st → W p l e R s m args below meth c H locs z.2.1 z.2.2.1 Q (F0 m pc arr (st.map (sg_vm ad ra)))
theorem sg_wl_get {n : Nat} {ls : sg_L} {k : Nat} {v : Value} (h : sg_wl n ls) (hk : ls[k]? = some (some v)) : sg_wv n v = true := by
  have := List.all_eq_true.mp h _ (List.mem_of_getElem? hk)
  simpa using this
theorem sg_wl_kill {n : Nat} {ls : sg_L} {k : Nat} (h : sg_wl n ls) : sg_wl n (sg_kill ls k) := by
  apply List.all_eq_true.mpr
  intro o ho
  cases o with
  | none => rfl
  | some w =>
    obtain ⟨i, hi⟩ := List.getElem?_of_mem ho
    exact List.all_eq_true.mp h _ (List.mem_of_getElem? (sg_kill_get hi).1)
theorem sg_wl_set {n : Nat} {ls : sg_L} {k : Nat} {o : Option Value} (h : sg_wl n ls) (ho : o.all (sg_wv n) = true) : sg_wl n (ls.set k o) := by
  apply List.all_eq_true.mpr
  intro x hx
  rcases List.mem_or_eq_of_mem_set hx with h1 | h1
  · exact List.all_eq_true.mp h x h1
  · rw [h1]; exact ho
theorem sg_wl_s1 {n : Nat} {ls : sg_L} {k : Nat} {v : Value} (h : sg_wl n ls) (hv : sg_wv n v = true) : sg_wl n (sg_s1 ls k v) := sg_wl_set (sg_wl_kill h) hv
theorem sg_wl_s2 {n : Nat} {ls : sg_L} {k : Nat} {v : Value} (h : sg_wl n ls) (hv : sg_wv n v = true) : sg_wl n (sg_s2 ls k v) := sg_wl_set (sg_wl_set (sg_wl_kill h) rfl) hv
theorem sg_wv_le {n n' : Nat} (hn : n ≤ n') {v : Value} (h : sg_wv n v = true) : sg_wv n' v = true := by
  cases v with
  | ref k =>
    simp only [sg_wv, Bool.or_eq_true, decide_eq_true_eq] at h ⊢
    rcases h with h | h
    · exact Or.inl (Nat.lt_of_lt_of_le h hn)
    · exact Or.inr h
  | double b => exact h
  | _ => rfl
theorem sg_ws_le {n n' : Nat} (hn : n ≤ n') {st : List Value} (h : sg_ws n st) : sg_ws n' st := List.all_eq_true.mpr fun v hv => sg_wv_le hn (List.all_eq_true.mp h v hv)
theorem sg_wl_le {n n' : Nat} (hn : n ≤ n') {ls : sg_L} (h : sg_wl n ls) : sg_wl n' ls := List.all_eq_true.mpr fun o ho => by
  have := List.all_eq_true.mp h o ho
  cases o with
  | none => rfl
  | some v => exact sg_wv_le hn this
/-- values keep their meaning when a cell is made -/
theorem sg_vm_ad {n : Nat} {ad ad' ra : Nat → Nat} (hn : n ≤ 1000) (ha : ∀ j, j < n → ad' j = ad j) {v : Value} (h : sg_wv n v = true) : sg_vm ad' ra v = sg_vm ad ra v := by
  cases v with
  | ref k =>
    simp only [sg_wv, Bool.or_eq_true, decide_eq_true_eq] at h
    simp only [sg_vm]
    rcases h with h | h
    · have hk : k < 1000 := Nat.lt_of_lt_of_le h hn
      rw [if_pos hk, if_pos hk, ha k h]
    · have hk : ¬ k < 1000 := Nat.not_lt.mpr h
      rw [if_neg hk, if_neg hk]
  | _ => rfl
theorem sg_map_ad {n : Nat} {ad ad' ra : Nat → Nat} (hn : n ≤ 1000) (ha : ∀ j, j < n → ad' j = ad j) {st : List Value} (h : sg_ws n st) : st.map (sg_vm ad' ra) = st.map (sg_vm ad ra) := List.map_congr_left fun v hv => sg_vm_ad hn ha (List.all_eq_true.mp h v hv)
theorem sg_LH_ad {n : Nat} {ad ad' ra : Nat → Nat} (hn : n ≤ 1000) (ha : ∀ j, j < n → ad' j = ad j) {arr : Array Slot} {nL : Nat} {ls : sg_L} (hw : sg_wl n ls) (h : sg_LH ad ra arr nL ls) : sg_LH ad' ra arr nL ls := ⟨h.1, h.2.1, fun i v hi => by rw [sg_vm_ad hn ha (sg_wl_get hw hi)]; exact h.2.2 i v hi⟩
theorem sg_vm_ref {n : Nat} {ad ra : Nat → Nat} {k : Nat} (hn : n ≤ 1000) (h : k < n) : sg_vm ad ra (.ref k) = .ref (ad k) := by simp only [sg_vm]; rw [if_pos (Nat.lt_of_lt_of_le h hn)]
/-! entries of the four kinds -/
theorem sg_et0 {q : sg_Ci} {ad : Nat → Nat} {lk : Nat → Nat → Bool} {σ : sg_S} {k : Nat} (h : sg_kd k = 0) : sg_et q ad lk σ k = .inr (sg_ag k, sg_fs ad lk σ k) := by unfold sg_et; rw [if_pos h]
theorem sg_et1 {q : sg_Ci} {ad : Nat → Nat} {lk : Nat → Nat → Bool} {σ : sg_S} {k : Nat} (h : sg_kd k = 1) : sg_et q ad lk σ k = .inl (q.1, sg_ag k, .inl (σ k)) := by unfold sg_et; rw [if_neg (by omega), if_pos h]
theorem sg_et2 {q : sg_Ci} {ad : Nat → Nat} {lk : Nat → Nat → Bool} {σ : sg_S} {k : Nat} (h : sg_kd k = 2) : sg_et q ad lk σ k = .inl (q.2.1, sg_ag k, .inl (σ k)) := by unfold sg_et; rw [if_neg (by omega), if_neg (by omega), if_pos h]
theorem sg_et3 {q : sg_Ci} {ad : Nat → Nat} {lk : Nat → Nat → Bool} {σ : sg_S} {k : Nat} (h : sg_kd k = 3) : sg_et q ad lk σ k = .inl (q.2.2, sg_ag k, .inr (.inr (.inr (.inr (sg_ra ad lk k))))) := by unfold sg_et; rw [if_neg (by omega), if_neg (by omega), if_neg (by omega)]
theorem sg_et_row {q : sg_Ci} {ad : Nat → Nat} {lk lk' : Nat → Nat → Bool} {σ σ' : sg_S} {k : Nat} (h : σ' k = σ k) (hl : lk' k = lk k) : sg_et q ad lk' σ' k = sg_et q ad lk σ k := by
  have e1 : sg_fs ad lk' σ' k = sg_fs ad lk σ k := by
    unfold sg_fs
    apply List.map_congr_left
    intro j _
    simp only [sg_fv, h, hl]
  have e2 : sg_ra ad lk' k = sg_ra ad lk k := by
    unfold sg_ra
    rw [hl]
  simp only [sg_et, e1, e2, h]
theorem sg_fs_len {ad : Nat → Nat} {lk : Nat → Nat → Bool} {σ : sg_S} {k : Nat} : (sg_fs ad lk σ k).length = sg_nf (sg_ag k) := by simp [sg_fs]
theorem sg_fs_get {ad : Nat → Nat} {lk : Nat → Nat → Bool} {σ : sg_S} {k j : Nat} (h : j < sg_nf (sg_ag k)) : (sg_fs ad lk σ k)[j]? = some (sg_fv ad lk σ k j) := by simp [sg_fs, h]
theorem sg_fs_set {ad : Nat → Nat} {lk lk' : Nat → Nat → Bool} {σ σ' : sg_S} {k j : Nat} {v : Value} (h : j < sg_nf (sg_ag k)) (hv : v = sg_fv ad lk' σ' k j) (ho : ∀ i, i ≠ j → σ' k i = σ k i ∧ lk' k i = lk k i) : (sg_fs ad lk σ k).set j v = sg_fs ad lk' σ' k := by
  apply List.ext_getElem?
  intro i
  by_cases hi : i < sg_nf (sg_ag k)
  · by_cases e : i = j
    · subst e
      rw [List.getElem?_set_self (by rw [sg_fs_len]; exact hi), sg_fs_get hi, hv]
    · rw [List.getElem?_set_ne (Ne.symm e), sg_fs_get hi, sg_fs_get hi]
      simp only [sg_fv, (ho i e).1, (ho i e).2]
  · rw [List.getElem?_eq_none (by rw [List.length_set, sg_fs_len]; omega), List.getElem?_eq_none (by rw [sg_fs_len]; omega)]
theorem sg_up_row {σ : sg_S} {k j i : Nat} {v : Int32} (h : i ≠ k) : sg_up σ k j v i = σ i := va_up_ne _ _ h
theorem sg_up_self {σ : sg_S} {k j : Nat} {v : Int32} : sg_up σ k j v k = va_up (σ k) j v := va_up_self _ _ _
theorem sg_upd (f : Nat → Int32) (k : Nat) (v : Int32) : upd f k v = va_up f k v := rfl
theorem sg_in_vp {i : Int32} {n : Nat} (h : sg_in i n) : vp_in i n := by
  rintro (h1 | h1)
  · have : i.toInt < 0 := by simpa using Int32.lt_iff_toInt_lt.mp h1
    omega
  · have : (i.toNatClampNeg : Int) = i.toInt := by
      show ((i.toInt.toNat : Nat) : Int) = i.toInt
      omega
    omega
theorem sg_nn {i : Int32} (h : 0 ≤ i.toInt) : ¬ i < 0 := fun h1 => by
  have : i.toInt < 0 := by simpa using Int32.lt_iff_toInt_lt.mp h1
  omega
theorem sg_cl {i : Int32} (h : 0 ≤ i.toInt) : (i.toNatClampNeg : Int) = i.toInt := by
  show ((i.toInt.toNat : Nat) : Int) = i.toInt
  omega
