theorem sg_rty {c j : Nat} (hc : c < 11) (hj : j < sg_nf c) (hr : sg_rb c j = true) : (∃ n, sg_tT c j = .object n) ∨ ∃ t, sg_tT c j = .array t := by
  rcases sg_rk c hc j hj hr with h | h | h | h
  · exact Or.inr ⟨_, h⟩
  · exact Or.inr ⟨_, h⟩
  · obtain ⟨d, -, hd⟩ := List.any_eq_true.mp h
    exact Or.inl ⟨_, of_decide_eq_true hd⟩
  · exact Or.inr ⟨_, h⟩
theorem sg_rfit {ty : FieldType} (h : (∃ n, ty = .object n) ∨ ∃ t, ty = .array t) (x : Nat) : narrow ty (.ref x) = .ref x ∧ fits ty (.ref x) = true := by
  rcases h with ⟨n, rfl⟩ | ⟨t, rfl⟩ <;> exact ⟨rfl, rfl⟩
theorem sg_LI_new {n : Nat} {lk : Nat → Nat → Bool} (h : sg_LI n lk) (hn : ∀ j, sg_is n j = true → lk n j = false) : sg_LI (n + 1) lk := by
  intro k j hk hl hi
  by_cases e : k = n
  · subst e
    rw [hn j hi] at hl
    cases hl
  · exact Nat.lt_succ_of_lt (h k j (by omega) hl hi)
theorem sg_is0 {k j : Nat} (h : sg_kd k = 0) : sg_is k j = sg_rb (sg_ag k) j := by simp [sg_is, h]
theorem sg_is1 {k j : Nat} (h : sg_kd k = 1 ∨ sg_kd k = 2) : sg_is k j = false := by rcases h with h | h <;> simp [sg_is, h]
theorem sg_is3 {k j : Nat} (h : sg_kd k = 3) : sg_is k j = decide (j < sg_ag k) := by simp [sg_is, h]
theorem sg_rb_nf {c j : Nat} (h : sg_rb c j = true) : j < sg_nf c := by
  unfold sg_rb at h
  unfold sg_nf
  by_cases hj : j < (sg_RB.getD c []).length
  · exact hj
  · rw [List.getD_eq_getElem?_getD, List.getElem?_eq_none (by omega)] at h
    cases h
section SGH
variable {p : Program} {l : Launch} {e : Env} {R : Room} {s : State} {m : MethodId} {args : Array Value} {below : List Frame} {meth : Method} {c : Code} {M : Nat} {A : Nat → Prop} {D : va_G} {q : sg_Ci} {X : sg_X} {ra : Nat → Nat} {n0 : Nat} {ad0 : Nat → Nat} {Q : State → Prop}
variable {pc pc' : Nat} {ls ls' : sg_L} {st st' : List Value} {z z' : sg_Z} {σ σ' : sg_S}
theorem sg_p_getfield (C : sg_Cx p R s m args meth c M A D q X ra) {k : Nat} (hd : decode (sg_mc M) pc = .ok (.getfield k, 3)) (h : sg_st X M (.getfield k) pc ls st z σ = some (.inl (pc', ls', st', z', σ'))) (K : sg_OK p l e R s m args below meth c M A D q ra n0 ad0 Q pc' ls' st' z' σ') : sg_OK p l e R s m args below meth c M A D q ra n0 ad0 Q pc ls st z σ := by
  obtain ⟨hx, hb, hml, hr, hown, hts, hnw, hK, hRO, hA, hlk, hmn, hfr, hlo⟩ := C
  simp only [sg_st] at h
  split at h
  · rename_i a r
    split at h
    · rename_i ci j pl hf
      obtain ⟨hw1, hc, hj⟩ := sg_fl_ok hf
      split at h
      · rename_i hc0
        obtain ⟨ha, hk0, hag⟩ := hc0
        have hfk := sg_fk ci hc j hj
        have hsame : ∀ x, s.fieldFound? ((sg_cT ci).2.1 j).1 ((sg_cT ci).2.1 j).2.1 ((sg_cT ci).2.1 j).2.2.1 = some x → s.fieldFound? (sg_cn ci) ((sg_cT ci).2.1 j).2.1 ((sg_cT ci).2.1 j).2.2.1 = some x := by
          intro x hx
          rw [hfk.1, hfk.2.2.2.2] at hx
          exact hx
        split at h
        · rename_i hrb
          split at h
          · rename_i hlk2
            simp only [sg_nx, Option.some.injEq, Sum.inl.injEq, Prod.mk.injEq] at h
            obtain ⟨rfl, rfl, rfl, rfl, rfl⟩ := h
            intro H locs ad arr hI hL hw hs
            obtain ⟨hP, hD, hS, hn, hLI, hn0, had⟩ := hI
            have he := sg_wd_get (q := q) (ad := ad) (lk := z.2.2.2) (σ := σ) ha
            rw [sg_et0 hk0, hag] at he
            have e1 : sg_vm ad ra (.ref a) = .ref (ad a) := sg_vm_ref hn ha
            have e2 : sg_vm ad ra (.ref (sg_rf a j)) = .ref (ad (sg_rf a j)) := sg_vm_ref hn hlk2.2
            simp only [sg_ws, List.all_cons, Bool.and_eq_true] at hs
            have K1 := K H locs ad arr ⟨hP, hD, hS, hn, hLI, hn0, had⟩ hL hw (by simp only [sg_ws, List.all_cons, Bool.and_eq_true]; exact ⟨by simp [sg_wv, hlk2.2], hs.2⟩)
            rw [List.map_cons, e2] at K1
            rw [List.map_cons, e1]
            exact va_get hx hb hts (sg_uws hc) hown hK hP a he (sg_vw hc) j (by rw [sg_vn ci hc]; exact hj) (hts _ hw1) hsame (by rw [sg_fs_get (by rw [hag]; exact hj)]; simp only [sg_fv, hag, hrb, hlk2.1, if_true]) hd K1
          · cases h
        · rename_i hrb
          simp only [sg_nx, Option.some.injEq, Sum.inl.injEq, Prod.mk.injEq] at h
          obtain ⟨rfl, rfl, rfl, rfl, rfl⟩ := h
          intro H locs ad arr hI hL hw hs
          obtain ⟨hP, hD, hS, hn, hLI, hn0, had⟩ := hI
          have he := sg_wd_get (q := q) (ad := ad) (lk := z.2.2.2) (σ := σ) ha
          rw [sg_et0 hk0, hag] at he
          have e1 : sg_vm ad ra (.ref a) = .ref (ad a) := sg_vm_ref hn ha
          simp only [sg_ws, List.all_cons, Bool.and_eq_true] at hs
          have K1 := K H locs ad arr ⟨hP, hD, hS, hn, hLI, hn0, had⟩ hL hw (by simp only [sg_ws, List.all_cons, Bool.and_eq_true]; exact ⟨trivial, hs.2⟩)
          rw [List.map_cons, e1]
          exact va_get hx hb hts (sg_uws hc) hown hK hP a he (sg_vw hc) j (by rw [sg_vn ci hc]; exact hj) (hts _ hw1) hsame (by rw [sg_fs_get (by rw [hag]; exact hj)]; simp only [sg_fv, hag, hrb]; rfl) hd K1
      · cases h
    · cases h
  · cases h
theorem sg_p_putfield (C : sg_Cx p R s m args meth c M A D q X ra) {k : Nat} (hd : decode (sg_mc M) pc = .ok (.putfield k, 3)) (h : sg_st X M (.putfield k) pc ls st z σ = some (.inl (pc', ls', st', z', σ'))) (K : sg_OK p l e R s m args below meth c M A D q ra n0 ad0 Q pc' ls' st' z' σ') : sg_OK p l e R s m args below meth c M A D q ra n0 ad0 Q pc ls st z σ := by
  obtain ⟨hx, hb, hml, hr, hown, hts, hnw, hK, hRO, hA, hlk, hmn, hfr, hlo⟩ := C
  simp only [sg_st] at h
  split at h
  · rename_i v a r
    split at h
    · rename_i ci j pl hf
      obtain ⟨hw1, hc, hj⟩ := sg_fl_ok hf
      split at h
      · rename_i hc0
        have hfk := sg_fk ci hc j hj
        have hsame : ∀ x, s.fieldFound? ((sg_cT ci).2.1 j).1 ((sg_cT ci).2.1 j).2.1 ((sg_cT ci).2.1 j).2.2.1 = some x → s.fieldFound? (sg_cn ci) ((sg_cT ci).2.1 j).2.1 ((sg_cT ci).2.1 j).2.2.1 = some x := by
          intro x hx
          rw [hfk.1, hfk.2.2.2.2] at hx
          exact hx
        obtain ⟨ha, hk0, hag, hrb, hfb⟩ := hc0
        simp only [sg_nx, Option.some.injEq, Sum.inl.injEq, Prod.mk.injEq] at h
        obtain ⟨rfl, rfl, rfl, rfl, rfl⟩ := h
        intro H locs ad arr hI hL hw hs
        obtain ⟨hP, hD, hS, hn, hLI, hn0, had⟩ := hI
        have he := sg_wd_get (q := q) (ad := ad) (lk := z.2.2.2) (σ := σ) ha
        rw [sg_et0 hk0, hag] at he
        have e1 : sg_vm ad ra (.ref a) = .ref (ad a) := sg_vm_ref hn ha
        simp only [sg_ws, List.all_cons, Bool.and_eq_true] at hs
        rw [List.map_cons, List.map_cons, e1]
        have hset : ∀ e', e' = Sum.inr (ci, (sg_fs ad z.2.2.2 σ a).set j (.int v)) → (sg_wd q ad z.1 z.2.2.2 σ).set a (ad a, e') = sg_wd q ad z.1 z.2.2.2 (sg_up σ a j v) := by
          intro e' he'
          refine sg_wd_set ha ?_ (fun i _ hi => sg_et_row (sg_up_row hi) rfl)
          rw [he', sg_et0 hk0, hag, sg_fs_set (lk' := z.2.2.2) (σ' := sg_up σ a j v) (by rw [hag]; exact hj)]
          · simp only [sg_fv, hag, hrb, sg_up_self, va_up_self]; rfl
          · exact fun i hi => ⟨by rw [sg_up_self, va_up_ne _ _ hi], rfl⟩
        refine va_put (D := D) (ty := .int) (v := .int v) hx hb hts (sg_uws hc) (sg_tT ci) (sg_tys hc) (sg_nms hc) hown hK hP hD hS a he (sg_vw hc) j (by rw [sg_vn ci hc]; exact hj) (hts _ hw1) hsame (by rw [hfk.2.1]; exact hfb) (by rw [sg_tys hc j (by rw [sg_vn ci hc]; exact hj), hfk.2.2.1 hrb]) rfl rfl (by rw [sg_fs_len, hag]; exact hj) hd (fun H1 locs1 hP1 hD1 hS1 => ?_)
        rw [hset _ rfl] at hP1 hD1
        exact K H1 locs1 ad arr ⟨hP1, hD1, hS1, hn, hLI, hn0, had⟩ hL hw hs.2.2
      · cases h
    · cases h
  · rename_i b a r
    split at h
    · rename_i ci j pl hf
      obtain ⟨hw1, hc, hj⟩ := sg_fl_ok hf
      split at h
      · rename_i hc0
        have hfk := sg_fk ci hc j hj
        have hsame : ∀ x, s.fieldFound? ((sg_cT ci).2.1 j).1 ((sg_cT ci).2.1 j).2.1 ((sg_cT ci).2.1 j).2.2.1 = some x → s.fieldFound? (sg_cn ci) ((sg_cT ci).2.1 j).2.1 ((sg_cT ci).2.1 j).2.2.1 = some x := by
          intro x hx
          rw [hfk.1, hfk.2.2.2.2] at hx
          exact hx
        obtain ⟨ha, hk0, hag, hrb, hfb, hbr, hbn, hin, hmo⟩ := hc0
        simp only [sg_nx, Option.some.injEq, Sum.inl.injEq, Prod.mk.injEq] at h
        obtain ⟨rfl, rfl, rfl, rfl, rfl⟩ := h
        intro H locs ad arr hI hL hw hs
        obtain ⟨hP, hD, hS, hn, hLI, hn0, had⟩ := hI
        have he := sg_wd_get (q := q) (ad := ad) (lk := z.2.2.2) (σ := σ) ha
        rw [sg_et0 hk0, hag] at he
        have e1 : sg_vm ad ra (.ref a) = .ref (ad a) := sg_vm_ref hn ha
        have e2 : sg_vm ad ra (.ref b) = .ref (ad b) := sg_vm_ref hn hbn
        simp only [sg_ws, List.all_cons, Bool.and_eq_true] at hs
        rw [List.map_cons, List.map_cons, e1, e2]
        have hset : ∀ e', e' = Sum.inr (ci, (sg_fs ad z.2.2.2 σ a).set j (.ref (ad b))) → (sg_wd q ad z.1 z.2.2.2 σ).set a (ad a, e') = sg_wd q ad z.1 (sg_lk z.2.2.2 a j) σ := by
          intro e' he'
          refine sg_wd_set ha ?_ (fun i _ hi => sg_et_row rfl (va_up_ne _ _ hi))
          rw [he', sg_et0 hk0, hag, sg_fs_set (lk' := sg_lk z.2.2.2 a j) (σ' := σ) (by rw [hag]; exact hj)]
          · simp only [sg_fv, hag, hrb, sg_lk, va_up_self, if_true, hbr]
          · exact fun i hi => ⟨rfl, by simp only [sg_lk, va_up_self, va_up_ne _ _ hi]⟩
        have hrf := sg_rfit (sg_rty hc hj hrb) (ad b)
        refine va_putF (D := D) (ty := sg_tT ci j) (v := .ref (ad b)) hx hb hts (sg_uws hc) (sg_tT ci) (sg_tys hc) (sg_nms hc) hown hK hP hD hS a he (sg_vw hc) j (by rw [sg_vn ci hc]; exact hj) (hts _ hw1) hsame (by rw [hfk.2.1]; exact hfb) (by rw [hmn]; exact hin) (by rw [hmo, hfk.1, hfk.2.2.2.2]) (sg_tys hc j (by rw [sg_vn ci hc]; exact hj)) hrf.1 hrf.2 (by rw [sg_fs_len, hag]; exact hj) hd (fun H1 locs1 hP1 hD1 hS1 => ?_)
        rw [hset _ rfl] at hP1 hD1
        refine K H1 locs1 ad arr ⟨hP1, hD1, hS1, hn, ?_, hn0, had⟩ hL hw hs.2.2
        intro k' j' hk' hl' hi'
        by_cases hq : k' = a ∧ j' = j
        · obtain ⟨rfl, rfl⟩ := hq
          rw [← hbr]
          exact hbn
        · refine hLI k' j' hk' ?_ hi'
          simp only [sg_lk] at hl'
          by_cases e : k' = a
          · subst e
            rw [va_up_self, va_up_ne _ _ (fun z => hq ⟨rfl, z⟩)] at hl'
            exact hl'
          · rw [va_up_ne _ _ e] at hl'
            exact hl'
      · cases h
    · cases h
  · cases h
theorem sg_p_baload (C : sg_Cx p R s m args meth c M A D q X ra)  (hd : decode (sg_mc M) pc = .ok (.baload, 1)) (h : sg_st X M (.baload) pc ls st z σ = some (.inl (pc', ls', st', z', σ'))) (K : sg_OK p l e R s m args below meth c M A D q ra n0 ad0 Q pc' ls' st' z' σ') : sg_OK p l e R s m args below meth c M A D q ra n0 ad0 Q pc ls st z σ := by
  obtain ⟨hx, hb, hml, hr, hown, hts, hnw, hK, hRO, hA, hlk, hmn, hfr, hlo⟩ := C
  simp only [sg_st] at h
  split at h
  · rename_i i a r
    split at h
    · rename_i hc0
      obtain ⟨ha, hk1, hi⟩ := hc0
      simp only [sg_nx, Option.some.injEq, Sum.inl.injEq, Prod.mk.injEq] at h
      obtain ⟨rfl, rfl, rfl, rfl, rfl⟩ := h
      intro H locs ad arr hI hL hw hs
      obtain ⟨hP, hD, hS, hn, hLI, hn0, had⟩ := hI
      have he := sg_wd_get (q := q) (ad := ad) (lk := z.2.2.2) (σ := σ) ha
      rw [sg_et2 hk1] at he
      have e1 : sg_vm ad ra (.ref a) = .ref (ad a) := sg_vm_ref hn ha
      simp only [sg_ws, List.all_cons, Bool.and_eq_true] at hs
      rw [List.map_cons, List.map_cons, e1]
      exact va_zald hx hb hK hP a 1 he rfl (sg_in_vp hi) hd (K H locs ad arr ⟨hP, hD, hS, hn, hLI, hn0, had⟩ hL hw (by simp only [sg_ws, List.all_cons, Bool.and_eq_true]; exact ⟨trivial, hs.2.2⟩))
    · cases h
  · cases h
theorem sg_p_iaload (C : sg_Cx p R s m args meth c M A D q X ra)  (hd : decode (sg_mc M) pc = .ok (.iaload, 1)) (h : sg_st X M (.iaload) pc ls st z σ = some (.inl (pc', ls', st', z', σ'))) (K : sg_OK p l e R s m args below meth c M A D q ra n0 ad0 Q pc' ls' st' z' σ') : sg_OK p l e R s m args below meth c M A D q ra n0 ad0 Q pc ls st z σ := by
  obtain ⟨hx, hb, hml, hr, hown, hts, hnw, hK, hRO, hA, hlk, hmn, hfr, hlo⟩ := C
  simp only [sg_st] at h
  split at h
  · rename_i i a r
    split at h
    · rename_i hro
      split at h
      · rename_i hc0
        simp only [sg_nx, Option.some.injEq, Sum.inl.injEq, Prod.mk.injEq] at h
        obtain ⟨rfl, rfl, rfl, rfl, rfl⟩ := h
        intro H locs ad arr hI hL hw hs
        obtain ⟨hP, hD, hS, hn, hLI, hn0, had⟩ := hI
        simp only [sg_ws, List.all_cons, Bool.and_eq_true] at hs
        have e1 : sg_vm ad ra (.ref a) = .ref (ra (a - 1000)) := by simp only [sg_vm]; rw [if_neg (Nat.not_lt.mpr hro)]
        rw [List.map_cons, List.map_cons, e1]
        obtain ⟨cell, t1, t2, t3, t4, t5, t6, t7⟩ := hRO.1 (a - 1000) (by have := hc0.1; exact Nat.sub_lt_left_of_lt_add hro this)
        have hlt : i.toNatClampNeg < (sg_ro X (a - 1000)).1 := Nat.not_le.mp fun q => sg_in_vp hc0.2 (Or.inr q)
        exact W.iald (v := .int ((sg_ro X (a - 1000)).2 i.toNatClampNeg)) hx hb (by rw [hS.2.1 _ (Array.getElem?_eq_some_iff.mp t1).1 t7]; exact t1) t2 t3 (by rw [t5]; exact sg_in_vp hc0.2) (t6 _ hlt) rfl rfl hd (K H locs ad arr ⟨hP, hD, hS, hn, hLI, hn0, had⟩ hL hw (by simp only [sg_ws, List.all_cons, Bool.and_eq_true]; exact ⟨trivial, hs.2.2⟩))
      · cases h
    · split at h
      · rename_i hc0
        obtain ⟨ha, hk1, hi⟩ := hc0
        simp only [sg_nx, Option.some.injEq, Sum.inl.injEq, Prod.mk.injEq] at h
        obtain ⟨rfl, rfl, rfl, rfl, rfl⟩ := h
        intro H locs ad arr hI hL hw hs
        obtain ⟨hP, hD, hS, hn, hLI, hn0, had⟩ := hI
        have he := sg_wd_get (q := q) (ad := ad) (lk := z.2.2.2) (σ := σ) ha
        rw [sg_et1 hk1] at he
        have e1 : sg_vm ad ra (.ref a) = .ref (ad a) := sg_vm_ref hn ha
        simp only [sg_ws, List.all_cons, Bool.and_eq_true] at hs
        rw [List.map_cons, List.map_cons, e1]
        exact va_iald hx hb hK hP a 0 he rfl (sg_in_vp hi) hd (K H locs ad arr ⟨hP, hD, hS, hn, hLI, hn0, had⟩ hL hw (by simp only [sg_ws, List.all_cons, Bool.and_eq_true]; exact ⟨trivial, hs.2.2⟩))
      · cases h
  · cases h
theorem sg_p_aaload (C : sg_Cx p R s m args meth c M A D q X ra)  (hd : decode (sg_mc M) pc = .ok (.aaload, 1)) (h : sg_st X M (.aaload) pc ls st z σ = some (.inl (pc', ls', st', z', σ'))) (K : sg_OK p l e R s m args below meth c M A D q ra n0 ad0 Q pc' ls' st' z' σ') : sg_OK p l e R s m args below meth c M A D q ra n0 ad0 Q pc ls st z σ := by
  obtain ⟨hx, hb, hml, hr, hown, hts, hnw, hK, hRO, hA, hlk, hmn, hfr, hlo⟩ := C
  simp only [sg_st] at h
  split at h
  · rename_i i a r
    split at h
    · rename_i hc0
      obtain ⟨ha, hk1, hi, hl1, hrn⟩ := hc0
      simp only [sg_nx, Option.some.injEq, Sum.inl.injEq, Prod.mk.injEq] at h
      obtain ⟨rfl, rfl, rfl, rfl, rfl⟩ := h
      intro H locs ad arr hI hL hw hs
      obtain ⟨hP, hD, hS, hn, hLI, hn0, had⟩ := hI
      have he := sg_wd_get (q := q) (ad := ad) (lk := z.2.2.2) (σ := σ) ha
      rw [sg_et3 hk1] at he
      have e1 : sg_vm ad ra (.ref a) = .ref (ad a) := sg_vm_ref hn ha
      have e2 : sg_vm ad ra (.ref (sg_rf a i.toNatClampNeg)) = .ref (ad (sg_rf a i.toNatClampNeg)) := sg_vm_ref hn hrn
      simp only [sg_ws, List.all_cons, Bool.and_eq_true] at hs
      rw [List.map_cons, List.map_cons, e1]
      have K1 := K H locs ad arr ⟨hP, hD, hS, hn, hLI, hn0, had⟩ hL hw (by simp only [sg_ws, List.all_cons, Bool.and_eq_true]; exact ⟨by simp [sg_wv, hrn], hs.2.2⟩)
      rw [List.map_cons, e2] at K1
      have hlt : i.toNatClampNeg < sg_ag a := Nat.not_le.mp fun q => sg_in_vp hi (Or.inr q)
      refine va_aldq hx hb hK hP a 2 he rfl (sg_in_vp hi) hd ?_
      simp only [sg_ra, hlt, hl1, and_self, if_true, va_rf]
      exact K1
    · cases h
  · cases h
theorem sg_p_iastore (C : sg_Cx p R s m args meth c M A D q X ra)  (hd : decode (sg_mc M) pc = .ok (.iastore, 1)) (h : sg_st X M (.iastore) pc ls st z σ = some (.inl (pc', ls', st', z', σ'))) (K : sg_OK p l e R s m args below meth c M A D q ra n0 ad0 Q pc' ls' st' z' σ') : sg_OK p l e R s m args below meth c M A D q ra n0 ad0 Q pc ls st z σ := by
  obtain ⟨hx, hb, hml, hr, hown, hts, hnw, hK, hRO, hA, hlk, hmn, hfr, hlo⟩ := C
  simp only [sg_st] at h
  split at h
  · rename_i v i a r
    split at h
    · rename_i hc0
      obtain ⟨ha, hk1, hi⟩ := hc0
      simp only [sg_nx, Option.some.injEq, Sum.inl.injEq, Prod.mk.injEq] at h
      obtain ⟨rfl, rfl, rfl, rfl, rfl⟩ := h
      intro H locs ad arr hI hL hw hs
      obtain ⟨hP, hD, hS, hn, hLI, hn0, had⟩ := hI
      have he := sg_wd_get (q := q) (ad := ad) (lk := z.2.2.2) (σ := σ) ha
      rw [sg_et1 hk1] at he
      have e1 : sg_vm ad ra (.ref a) = .ref (ad a) := sg_vm_ref hn ha
      simp only [sg_ws, List.all_cons, Bool.and_eq_true] at hs
      rw [List.map_cons, List.map_cons, List.map_cons, e1]
      refine va_iast hx hb hK hP hD hS a 0 he rfl (sg_in_vp hi) hd (fun H1 locs1 hP1 hD1 hS1 => ?_)
      skip
      have hset := sg_wd_set (q := q) (ad := ad) (lk := z.2.2.2) (lk' := z.2.2.2) (σ := σ) (σ' := sg_up σ a i.toNatClampNeg v) ha (e := .inl (q.1, sg_ag a, .inl (upd (σ a) i.toNatClampNeg v))) (by rw [sg_et1 hk1, sg_up_self]; rfl) (fun i _ hi => sg_et_row (sg_up_row hi) rfl)
      rw [hset] at hP1 hD1
      exact K H1 locs1 ad arr ⟨hP1, hD1, hS1, hn, hLI, hn0, had⟩ hL hw hs.2.2.2
    · cases h
  · cases h
theorem sg_p_bastore (C : sg_Cx p R s m args meth c M A D q X ra)  (hd : decode (sg_mc M) pc = .ok (.bastore, 1)) (h : sg_st X M (.bastore) pc ls st z σ = some (.inl (pc', ls', st', z', σ'))) (K : sg_OK p l e R s m args below meth c M A D q ra n0 ad0 Q pc' ls' st' z' σ') : sg_OK p l e R s m args below meth c M A D q ra n0 ad0 Q pc ls st z σ := by
  obtain ⟨hx, hb, hml, hr, hown, hts, hnw, hK, hRO, hA, hlk, hmn, hfr, hlo⟩ := C
  simp only [sg_st] at h
  split at h
  · rename_i v i a r
    split at h
    · rename_i hc0
      obtain ⟨ha, hk1, hi, hv01⟩ := hc0
      simp only [sg_nx, Option.some.injEq, Sum.inl.injEq, Prod.mk.injEq] at h
      obtain ⟨rfl, rfl, rfl, rfl, rfl⟩ := h
      intro H locs ad arr hI hL hw hs
      obtain ⟨hP, hD, hS, hn, hLI, hn0, had⟩ := hI
      have he := sg_wd_get (q := q) (ad := ad) (lk := z.2.2.2) (σ := σ) ha
      rw [sg_et2 hk1] at he
      have e1 : sg_vm ad ra (.ref a) = .ref (ad a) := sg_vm_ref hn ha
      simp only [sg_ws, List.all_cons, Bool.and_eq_true] at hs
      rw [List.map_cons, List.map_cons, List.map_cons, e1]
      refine va_zast hx hb hK hP hD hS a 1 he rfl (sg_in_vp hi) hd (fun H1 locs1 hP1 hD1 hS1 => ?_)
      have hnar : vp_nar .boolean v = v := by rcases hv01 with rfl | rfl <;> decide
      rw [hnar] at hP1 hD1
      have hset := sg_wd_set (q := q) (ad := ad) (lk := z.2.2.2) (lk' := z.2.2.2) (σ := σ) (σ' := sg_up σ a i.toNatClampNeg v) ha (e := .inl (q.2.1, sg_ag a, .inl (upd (σ a) i.toNatClampNeg v))) (by rw [sg_et2 hk1, sg_up_self]; rfl) (fun i _ hi => sg_et_row (sg_up_row hi) rfl)
      rw [hset] at hP1 hD1
      exact K H1 locs1 ad arr ⟨hP1, hD1, hS1, hn, hLI, hn0, had⟩ hL hw hs.2.2.2
    · cases h
  · cases h
theorem sg_p_aastore (C : sg_Cx p R s m args meth c M A D q X ra)  (hd : decode (sg_mc M) pc = .ok (.aastore, 1)) (h : sg_st X M (.aastore) pc ls st z σ = some (.inl (pc', ls', st', z', σ'))) (K : sg_OK p l e R s m args below meth c M A D q ra n0 ad0 Q pc' ls' st' z' σ') : sg_OK p l e R s m args below meth c M A D q ra n0 ad0 Q pc ls st z σ := by
  obtain ⟨hx, hb, hml, hr, hown, hts, hnw, hK, hRO, hA, hlk, hmn, hfr, hlo⟩ := C
  simp only [sg_st] at h
  split at h
  · rename_i b i a r
    split at h
    · rename_i hc0
      obtain ⟨ha, hk1, hi, hbr, hbn, hbk, hbg⟩ := hc0
      simp only [sg_nx, Option.some.injEq, Sum.inl.injEq, Prod.mk.injEq] at h
      obtain ⟨rfl, rfl, rfl, rfl, rfl⟩ := h
      intro H locs ad arr hI hL hw hs
      obtain ⟨hP, hD, hS, hn, hLI, hn0, had⟩ := hI
      have he := sg_wd_get (q := q) (ad := ad) (lk := z.2.2.2) (σ := σ) ha
      rw [sg_et3 hk1] at he
      have hv := sg_wd_get (q := q) (ad := ad) (lk := z.2.2.2) (σ := σ) hbn
      rw [sg_et0 hbk, hbg] at hv
      have e1 : sg_vm ad ra (.ref a) = .ref (ad a) := sg_vm_ref hn ha
      have e2 : sg_vm ad ra (.ref b) = .ref (ad b) := sg_vm_ref hn hbn
      simp only [sg_ws, List.all_cons, Bool.and_eq_true] at hs
      rw [List.map_cons, List.map_cons, List.map_cons, e1, e2]
      have hlt : i.toNatClampNeg < sg_ag a := Nat.not_le.mp fun q => sg_in_vp hi (Or.inr q)
      refine va_astq (r := (RX2, TX2, 9)) hx hb hK hP hD hS a 2 b 2 he rfl hv rfl (sg_in_vp hi) hd (fun H1 locs1 hP1 hD1 hS1 => ?_)
      have hset := sg_wd_set (q := q) (ad := ad) (lk := z.2.2.2) (lk' := sg_lk z.2.2.2 a i.toNatClampNeg) (σ := σ) (σ' := σ) ha (e := .inl (q.2.2, sg_ag a, .inr (.inr (.inr (.inr (va_up (sg_ra ad z.2.2.2 a) i.toNatClampNeg (some (ad b)))))))) (by
        rw [sg_et3 hk1]
        have : va_up (sg_ra ad z.2.2.2 a) i.toNatClampNeg (some (ad b)) = sg_ra ad (sg_lk z.2.2.2 a i.toNatClampNeg) a := by
          funext j
          by_cases e : j = i.toNatClampNeg
          · subst e
            rw [va_up_self]
            simp only [sg_ra, sg_lk, va_up_self, hlt, and_self, if_true, hbr]
          · rw [va_up_ne _ _ e]
            simp only [sg_ra, sg_lk, va_up_self, va_up_ne _ _ e]
        rw [this]) (fun i _ hi => sg_et_row rfl (va_up_ne _ _ hi))
      rw [hset] at hP1 hD1
      refine K H1 locs1 ad arr ⟨hP1, hD1, hS1, hn, ?_, hn0, had⟩ hL hw hs.2.2.2
      intro k' j' hk' hl' hi'
      by_cases hq : k' = a ∧ j' = i.toNatClampNeg
      · obtain ⟨rfl, rfl⟩ := hq
        rw [← hbr]
        exact hbn
      · refine hLI k' j' hk' ?_ hi'
        simp only [sg_lk] at hl'
        by_cases e : k' = a
        · subst e
          rw [va_up_self, va_up_ne _ _ (fun z => hq ⟨rfl, z⟩)] at hl'
          exact hl'
        · rw [va_up_ne _ _ e] at hl'
          exact hl'
    · cases h
  · cases h
theorem sg_p_arraylength (C : sg_Cx p R s m args meth c M A D q X ra)  (hd : decode (sg_mc M) pc = .ok (.arraylength, 1)) (h : sg_st X M (.arraylength) pc ls st z σ = some (.inl (pc', ls', st', z', σ'))) (K : sg_OK p l e R s m args below meth c M A D q ra n0 ad0 Q pc' ls' st' z' σ') : sg_OK p l e R s m args below meth c M A D q ra n0 ad0 Q pc ls st z σ := by
  obtain ⟨hx, hb, hml, hr, hown, hts, hnw, hK, hRO, hA, hlk, hmn, hfr, hlo⟩ := C
  simp only [sg_st] at h
  split at h
  · rename_i a r
    split at h
    · rename_i hro
      split at h
      · rename_i hc0
        simp only [sg_nx, Option.some.injEq, Sum.inl.injEq, Prod.mk.injEq] at h
        obtain ⟨rfl, rfl, rfl, rfl, rfl⟩ := h
        intro H locs ad arr hI hL hw hs
        obtain ⟨hP, hD, hS, hn, hLI, hn0, had⟩ := hI
        simp only [sg_ws, List.all_cons, Bool.and_eq_true] at hs
        have e1 : sg_vm ad ra (.ref a) = .ref (ra (a - 1000)) := by simp only [sg_vm]; rw [if_neg (Nat.not_lt.mpr hro)]
        rw [List.map_cons, e1]
        obtain ⟨cell, t1, t2, t3, t4, t5, t6, t7⟩ := hRO.1 (a - 1000) (Nat.sub_lt_left_of_lt_add hro hc0)
        exact W.alen hx hb (by rw [hS.2.1 _ (Array.getElem?_eq_some_iff.mp t1).1 t7]; exact t1) t2 (by rw [t5]) rfl rfl hd (K H locs ad arr ⟨hP, hD, hS, hn, hLI, hn0, had⟩ hL hw (by simp only [sg_ws, List.all_cons, Bool.and_eq_true]; exact ⟨trivial, hs.2⟩))
      · cases h
    · split at h
      · rename_i hc0
        obtain ⟨ha, hk1⟩ := hc0
        simp only [sg_nx, Option.some.injEq, Sum.inl.injEq, Prod.mk.injEq] at h
        obtain ⟨rfl, rfl, rfl, rfl, rfl⟩ := h
        intro H locs ad arr hI hL hw hs
        obtain ⟨hP, hD, hS, hn, hLI, hn0, had⟩ := hI
        have he := sg_wd_get (q := q) (ad := ad) (lk := z.2.2.2) (σ := σ) ha
        rw [sg_et1 hk1] at he
        have e1 : sg_vm ad ra (.ref a) = .ref (ad a) := sg_vm_ref hn ha
        simp only [sg_ws, List.all_cons, Bool.and_eq_true] at hs
        rw [List.map_cons, e1]
        exact va_alen hx hb hK hP a 0 he (ty := .int) rfl rfl hd (K H locs ad arr ⟨hP, hD, hS, hn, hLI, hn0, had⟩ hL hw (by simp only [sg_ws, List.all_cons, Bool.and_eq_true]; exact ⟨trivial, hs.2⟩))
      · cases h
  · cases h
end SGH
