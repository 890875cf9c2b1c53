section SG
variable {p : Program} {l : Launch} {e : Env} {R : Room} {s : State} {m : MethodId} {args : Array Value} {below : List Frame} {meth : Method} {c : Code} {M : Nat} {A : Nat → Prop} {D : va_G} {q : sg_Ci} {X : sg_X} {ra : Nat → Nat} {n0 : Nat} {ad0 : Nat → Nat} {Q : State → Prop}
variable {pc pc' : Nat} {ls ls' : sg_L} {st st' : List Value} {z z' : sg_Z} {σ σ' : sg_S}
theorem sg_p_iconst (C : sg_Cx p R s m args meth c M A D q X ra) {k : Int} (hd : decode (sg_mc M) pc = .ok (.iconst k, 1)) (h : sg_st X M (.iconst k) pc ls st z σ = some (.inl (pc', ls', st', z', σ'))) (K : sg_OK p l e R s m args below meth c M A D q ra n0 ad0 Q pc' ls' st' z' σ') : sg_OK p l e R s m args below meth c M A D q ra n0 ad0 Q pc ls st z σ := by
  obtain ⟨hx, hb, hml, hr, hown, hts, hnw, hK, hRO, hA, hlk, hmn, hfr, hlo⟩ := C
  simp only [sg_st, sg_nx, Option.some.injEq, Sum.inl.injEq, Prod.mk.injEq] at h
  obtain ⟨rfl, rfl, rfl, rfl, rfl⟩ := h
  intro H locs ad arr hI hL hw hs
  exact lv_iconst hx hb hd rfl (K H locs ad arr hI hL hw (by simpa [sg_ws, sg_wv] using hs))
theorem sg_p_bipush (C : sg_Cx p R s m args meth c M A D q X ra) {k : Int} (hd : decode (sg_mc M) pc = .ok (.bipush k, 2)) (h : sg_st X M (.bipush k) pc ls st z σ = some (.inl (pc', ls', st', z', σ'))) (K : sg_OK p l e R s m args below meth c M A D q ra n0 ad0 Q pc' ls' st' z' σ') : sg_OK p l e R s m args below meth c M A D q ra n0 ad0 Q pc ls st z σ := by
  obtain ⟨hx, hb, hml, hr, hown, hts, hnw, hK, hRO, hA, hlk, hmn, hfr, hlo⟩ := C
  simp only [sg_st, sg_nx, Option.some.injEq, Sum.inl.injEq, Prod.mk.injEq] at h
  obtain ⟨rfl, rfl, rfl, rfl, rfl⟩ := h
  intro H locs ad arr hI hL hw hs
  exact lv_bipush hx hb hd rfl (K H locs ad arr hI hL hw (by simpa [sg_ws, sg_wv] using hs))
theorem sg_p_sipush (C : sg_Cx p R s m args meth c M A D q X ra) {k : Int} (hd : decode (sg_mc M) pc = .ok (.sipush k, 3)) (h : sg_st X M (.sipush k) pc ls st z σ = some (.inl (pc', ls', st', z', σ'))) (K : sg_OK p l e R s m args below meth c M A D q ra n0 ad0 Q pc' ls' st' z' σ') : sg_OK p l e R s m args below meth c M A D q ra n0 ad0 Q pc ls st z σ := by
  obtain ⟨hx, hb, hml, hr, hown, hts, hnw, hK, hRO, hA, hlk, hmn, hfr, hlo⟩ := C
  simp only [sg_st, sg_nx, Option.some.injEq, Sum.inl.injEq, Prod.mk.injEq] at h
  obtain ⟨rfl, rfl, rfl, rfl, rfl⟩ := h
  intro H locs ad arr hI hL hw hs
  exact lv_sipush hx hb hd rfl (K H locs ad arr hI hL hw (by simpa [sg_ws, sg_wv] using hs))
theorem sg_p_lconst (C : sg_Cx p R s m args meth c M A D q X ra) {k : Fin 2} (hd : decode (sg_mc M) pc = .ok (.lconst k, 1)) (h : sg_st X M (.lconst k) pc ls st z σ = some (.inl (pc', ls', st', z', σ'))) (K : sg_OK p l e R s m args below meth c M A D q ra n0 ad0 Q pc' ls' st' z' σ') : sg_OK p l e R s m args below meth c M A D q ra n0 ad0 Q pc ls st z σ := by
  obtain ⟨hx, hb, hml, hr, hown, hts, hnw, hK, hRO, hA, hlk, hmn, hfr, hlo⟩ := C
  simp only [sg_st, sg_nx, Option.some.injEq, Sum.inl.injEq, Prod.mk.injEq] at h
  obtain ⟨rfl, rfl, rfl, rfl, rfl⟩ := h
  intro H locs ad arr hI hL hw hs
  exact lv_lconst hx hb hd rfl (K H locs ad arr hI hL hw (by simpa [sg_ws, sg_wv] using hs))
theorem sg_p_ldc (C : sg_Cx p R s m args meth c M A D q X ra) {k : Nat} (hd : decode (sg_mc M) pc = .ok (.ldc k, 2)) (h : sg_st X M (.ldc k) pc ls st z σ = some (.inl (pc', ls', st', z', σ'))) (K : sg_OK p l e R s m args below meth c M A D q ra n0 ad0 Q pc' ls' st' z' σ') : sg_OK p l e R s m args below meth c M A D q ra n0 ad0 Q pc ls st z σ := by
  obtain ⟨hx, hb, hml, hr, hown, hts, hnw, hK, hRO, hA, hlk, hmn, hfr, hlo⟩ := C
  simp only [sg_st] at h
  cases hl : sg_il (sg_mo M) k with
  | none => rw [hl] at h; cases h
  | some v =>
    obtain ⟨v, pl⟩ := v
    rw [hl] at h
    simp only [sg_nx, Option.some.injEq, Sum.inl.injEq, Prod.mk.injEq] at h
    obtain ⟨rfl, rfl, rfl, rfl, rfl⟩ := h
    intro H locs ad arr hI hL hw hs
    exact lv_ldc hx hb hown (hts _ (sg_il_ok (sg_mo_lt M) hl)) hd (K H locs ad arr hI hL hw (by simpa [sg_ws, sg_wv] using hs))
theorem sg_p_ldc_w (C : sg_Cx p R s m args meth c M A D q X ra) {k : Nat} (hd : decode (sg_mc M) pc = .ok (.ldc_w k, 3)) (h : sg_st X M (.ldc_w k) pc ls st z σ = some (.inl (pc', ls', st', z', σ'))) (K : sg_OK p l e R s m args below meth c M A D q ra n0 ad0 Q pc' ls' st' z' σ') : sg_OK p l e R s m args below meth c M A D q ra n0 ad0 Q pc ls st z σ := by
  obtain ⟨hx, hb, hml, hr, hown, hts, hnw, hK, hRO, hA, hlk, hmn, hfr, hlo⟩ := C
  simp only [sg_st] at h
  cases hl : sg_il (sg_mo M) k with
  | none => rw [hl] at h; cases h
  | some v =>
    obtain ⟨v, pl⟩ := v
    rw [hl] at h
    simp only [sg_nx, Option.some.injEq, Sum.inl.injEq, Prod.mk.injEq] at h
    obtain ⟨rfl, rfl, rfl, rfl, rfl⟩ := h
    intro H locs ad arr hI hL hw hs
    exact lv_ldcw hx hb hown (hts _ (sg_il_ok (sg_mo_lt M) hl)) hd (K H locs ad arr hI hL hw (by simpa [sg_ws, sg_wv] using hs))
theorem sg_p_ldc2_w (C : sg_Cx p R s m args meth c M A D q X ra) {k : Nat} (hd : decode (sg_mc M) pc = .ok (.ldc2_w k, 3)) (h : sg_st X M (.ldc2_w k) pc ls st z σ = some (.inl (pc', ls', st', z', σ'))) (K : sg_OK p l e R s m args below meth c M A D q ra n0 ad0 Q pc' ls' st' z' σ') : sg_OK p l e R s m args below meth c M A D q ra n0 ad0 Q pc ls st z σ := by
  obtain ⟨hx, hb, hml, hr, hown, hts, hnw, hK, hRO, hA, hlk, hmn, hfr, hlo⟩ := C
  simp only [sg_st] at h
  cases hl : sg_jl (sg_mo M) k with
  | none => rw [hl] at h; cases h
  | some v =>
    obtain ⟨v, pl⟩ := v
    rw [hl] at h
    simp only [sg_nx, Option.some.injEq, Sum.inl.injEq, Prod.mk.injEq] at h
    obtain ⟨rfl, rfl, rfl, rfl, rfl⟩ := h
    intro H locs ad arr hI hL hw hs
    exact lv_ldc2 hx hb hown (hts _ (sg_jl_ok (sg_mo_lt M) hl)) hd (K H locs ad arr hI hL hw (by simpa [sg_ws, sg_wv] using hs))
theorem sg_p_iload (C : sg_Cx p R s m args meth c M A D q X ra) {k : Nat} (hd : decode (sg_mc M) pc = .ok (.iload k, 2)) (h : sg_st X M (.iload k) pc ls st z σ = some (.inl (pc', ls', st', z', σ'))) (K : sg_OK p l e R s m args below meth c M A D q ra n0 ad0 Q pc' ls' st' z' σ') : sg_OK p l e R s m args below meth c M A D q ra n0 ad0 Q pc ls st z σ := by
  obtain ⟨hx, hb, hml, hr, hown, hts, hnw, hK, hRO, hA, hlk, hmn, hfr, hlo⟩ := C
  simp only [sg_st, sg_ldi] at h
  split at h
  · rename_i x hv
    simp only [sg_nx, Option.some.injEq, Sum.inl.injEq, Prod.mk.injEq] at h
    obtain ⟨rfl, rfl, rfl, rfl, rfl⟩ := h
    intro H locs ad arr hI hL hw hs
    exact lv_iload hx hb hd (hL.2.2 _ _ hv) (K H locs ad arr hI hL hw (by simpa [sg_ws, sg_wv] using hs))
  · cases h
theorem sg_p_iload_n (C : sg_Cx p R s m args meth c M A D q X ra) {k : Fin 4} (hd : decode (sg_mc M) pc = .ok (.iload_n k, 1)) (h : sg_st X M (.iload_n k) pc ls st z σ = some (.inl (pc', ls', st', z', σ'))) (K : sg_OK p l e R s m args below meth c M A D q ra n0 ad0 Q pc' ls' st' z' σ') : sg_OK p l e R s m args below meth c M A D q ra n0 ad0 Q pc ls st z σ := by
  obtain ⟨hx, hb, hml, hr, hown, hts, hnw, hK, hRO, hA, hlk, hmn, hfr, hlo⟩ := C
  simp only [sg_st, sg_ldi] at h
  split at h
  · rename_i x hv
    simp only [sg_nx, Option.some.injEq, Sum.inl.injEq, Prod.mk.injEq] at h
    obtain ⟨rfl, rfl, rfl, rfl, rfl⟩ := h
    intro H locs ad arr hI hL hw hs
    exact lv_iload_n hx hb hd rfl (hL.2.2 _ _ hv) (K H locs ad arr hI hL hw (by simpa [sg_ws, sg_wv] using hs))
  · cases h
theorem sg_p_lload (C : sg_Cx p R s m args meth c M A D q X ra) {k : Nat} (hd : decode (sg_mc M) pc = .ok (.lload k, 2)) (h : sg_st X M (.lload k) pc ls st z σ = some (.inl (pc', ls', st', z', σ'))) (K : sg_OK p l e R s m args below meth c M A D q ra n0 ad0 Q pc' ls' st' z' σ') : sg_OK p l e R s m args below meth c M A D q ra n0 ad0 Q pc ls st z σ := by
  obtain ⟨hx, hb, hml, hr, hown, hts, hnw, hK, hRO, hA, hlk, hmn, hfr, hlo⟩ := C
  simp only [sg_st, sg_ldl] at h
  split at h
  · rename_i x hv
    simp only [sg_nx, Option.some.injEq, Sum.inl.injEq, Prod.mk.injEq] at h
    obtain ⟨rfl, rfl, rfl, rfl, rfl⟩ := h
    intro H locs ad arr hI hL hw hs
    exact lv_lload hx hb hd (hL.2.2 _ _ hv) (K H locs ad arr hI hL hw (by simpa [sg_ws, sg_wv] using hs))
  · cases h
theorem sg_p_lload_n (C : sg_Cx p R s m args meth c M A D q X ra) {k : Fin 4} (hd : decode (sg_mc M) pc = .ok (.lload_n k, 1)) (h : sg_st X M (.lload_n k) pc ls st z σ = some (.inl (pc', ls', st', z', σ'))) (K : sg_OK p l e R s m args below meth c M A D q ra n0 ad0 Q pc' ls' st' z' σ') : sg_OK p l e R s m args below meth c M A D q ra n0 ad0 Q pc ls st z σ := by
  obtain ⟨hx, hb, hml, hr, hown, hts, hnw, hK, hRO, hA, hlk, hmn, hfr, hlo⟩ := C
  simp only [sg_st, sg_ldl] at h
  split at h
  · rename_i x hv
    simp only [sg_nx, Option.some.injEq, Sum.inl.injEq, Prod.mk.injEq] at h
    obtain ⟨rfl, rfl, rfl, rfl, rfl⟩ := h
    intro H locs ad arr hI hL hw hs
    exact lv_lload_n hx hb hd rfl (hL.2.2 _ _ hv) (K H locs ad arr hI hL hw (by simpa [sg_ws, sg_wv] using hs))
  · cases h
theorem sg_p_aload (C : sg_Cx p R s m args meth c M A D q X ra) {k : Nat} (hd : decode (sg_mc M) pc = .ok (.aload k, 2)) (h : sg_st X M (.aload k) pc ls st z σ = some (.inl (pc', ls', st', z', σ'))) (K : sg_OK p l e R s m args below meth c M A D q ra n0 ad0 Q pc' ls' st' z' σ') : sg_OK p l e R s m args below meth c M A D q ra n0 ad0 Q pc ls st z σ := by
  obtain ⟨hx, hb, hml, hr, hown, hts, hnw, hK, hRO, hA, hlk, hmn, hfr, hlo⟩ := C
  simp only [sg_st, sg_lda] at h
  split at h
  · rename_i x hv
    simp only [sg_nx, Option.some.injEq, Sum.inl.injEq, Prod.mk.injEq] at h
    obtain ⟨rfl, rfl, rfl, rfl, rfl⟩ := h
    intro H locs ad arr hI hL hw hs
    exact lv_aload hx hb hd (hL.2.2 _ _ hv) (K H locs ad arr hI hL hw (by simp only [sg_ws, List.all_cons, Bool.and_eq_true]; exact ⟨sg_wl_get hw hv, hs⟩))
  · cases h
theorem sg_p_aload_n (C : sg_Cx p R s m args meth c M A D q X ra) {k : Fin 4} (hd : decode (sg_mc M) pc = .ok (.aload_n k, 1)) (h : sg_st X M (.aload_n k) pc ls st z σ = some (.inl (pc', ls', st', z', σ'))) (K : sg_OK p l e R s m args below meth c M A D q ra n0 ad0 Q pc' ls' st' z' σ') : sg_OK p l e R s m args below meth c M A D q ra n0 ad0 Q pc ls st z σ := by
  obtain ⟨hx, hb, hml, hr, hown, hts, hnw, hK, hRO, hA, hlk, hmn, hfr, hlo⟩ := C
  simp only [sg_st, sg_lda] at h
  split at h
  · rename_i x hv
    simp only [sg_nx, Option.some.injEq, Sum.inl.injEq, Prod.mk.injEq] at h
    obtain ⟨rfl, rfl, rfl, rfl, rfl⟩ := h
    intro H locs ad arr hI hL hw hs
    exact lv_aload_n hx hb hd rfl (hL.2.2 _ _ hv) (K H locs ad arr hI hL hw (by simp only [sg_ws, List.all_cons, Bool.and_eq_true]; exact ⟨sg_wl_get hw hv, hs⟩))
  · cases h
theorem sg_p_istore (C : sg_Cx p R s m args meth c M A D q X ra) {k : Nat} (hd : decode (sg_mc M) pc = .ok (.istore k, 2)) (h : sg_st X M (.istore k) pc ls st z σ = some (.inl (pc', ls', st', z', σ'))) (K : sg_OK p l e R s m args below meth c M A D q ra n0 ad0 Q pc' ls' st' z' σ') : sg_OK p l e R s m args below meth c M A D q ra n0 ad0 Q pc ls st z σ := by
  obtain ⟨hx, hb, hml, hr, hown, hts, hnw, hK, hRO, hA, hlk, hmn, hfr, hlo⟩ := C
  simp only [sg_st, sg_sti] at h
  split at h
  · rename_i x r
    split at h
    · rename_i hk
      simp only [sg_nx, Option.some.injEq, Sum.inl.injEq, Prod.mk.injEq] at h
      obtain ⟨rfl, rfl, rfl, rfl, rfl⟩ := h
      intro H locs ad arr hI hL hw hs
      simp only [sg_ws, List.all_cons, Bool.and_eq_true] at hs
      exact lv_istore (lv' := _) hx hb hd hL.has hk rfl (fun arr' hl' => K H locs ad arr' hI (sg_LH.s1 (v := .int x) hl') (sg_wl_s1 hw rfl) hs.2)
    · cases h
  · cases h
theorem sg_p_istore_n (C : sg_Cx p R s m args meth c M A D q X ra) {k : Fin 4} (hd : decode (sg_mc M) pc = .ok (.istore_n k, 1)) (h : sg_st X M (.istore_n k) pc ls st z σ = some (.inl (pc', ls', st', z', σ'))) (K : sg_OK p l e R s m args below meth c M A D q ra n0 ad0 Q pc' ls' st' z' σ') : sg_OK p l e R s m args below meth c M A D q ra n0 ad0 Q pc ls st z σ := by
  obtain ⟨hx, hb, hml, hr, hown, hts, hnw, hK, hRO, hA, hlk, hmn, hfr, hlo⟩ := C
  simp only [sg_st, sg_sti] at h
  split at h
  · rename_i x r
    split at h
    · rename_i hk
      simp only [sg_nx, Option.some.injEq, Sum.inl.injEq, Prod.mk.injEq] at h
      obtain ⟨rfl, rfl, rfl, rfl, rfl⟩ := h
      intro H locs ad arr hI hL hw hs
      simp only [sg_ws, List.all_cons, Bool.and_eq_true] at hs
      exact lv_istore_n (lv' := _) hx hb hd rfl hL.has hk rfl (fun arr' hl' => K H locs ad arr' hI (sg_LH.s1 (v := .int x) hl') (sg_wl_s1 hw rfl) hs.2)
    · cases h
  · cases h
theorem sg_p_lstore (C : sg_Cx p R s m args meth c M A D q X ra) {k : Nat} (hd : decode (sg_mc M) pc = .ok (.lstore k, 2)) (h : sg_st X M (.lstore k) pc ls st z σ = some (.inl (pc', ls', st', z', σ'))) (K : sg_OK p l e R s m args below meth c M A D q ra n0 ad0 Q pc' ls' st' z' σ') : sg_OK p l e R s m args below meth c M A D q ra n0 ad0 Q pc ls st z σ := by
  obtain ⟨hx, hb, hml, hr, hown, hts, hnw, hK, hRO, hA, hlk, hmn, hfr, hlo⟩ := C
  simp only [sg_st, sg_stl] at h
  split at h
  · rename_i x r
    split at h
    · rename_i hk
      simp only [sg_nx, Option.some.injEq, Sum.inl.injEq, Prod.mk.injEq] at h
      obtain ⟨rfl, rfl, rfl, rfl, rfl⟩ := h
      intro H locs ad arr hI hL hw hs
      simp only [sg_ws, List.all_cons, Bool.and_eq_true] at hs
      exact lv_lstore (lv' := _) hx hb hd hL.has hk rfl (fun arr' hl' => K H locs ad arr' hI (sg_LH.s2 (v := .long x) hl') (sg_wl_s2 hw rfl) hs.2)
    · cases h
  · cases h
theorem sg_p_lstore_n (C : sg_Cx p R s m args meth c M A D q X ra) {k : Fin 4} (hd : decode (sg_mc M) pc = .ok (.lstore_n k, 1)) (h : sg_st X M (.lstore_n k) pc ls st z σ = some (.inl (pc', ls', st', z', σ'))) (K : sg_OK p l e R s m args below meth c M A D q ra n0 ad0 Q pc' ls' st' z' σ') : sg_OK p l e R s m args below meth c M A D q ra n0 ad0 Q pc ls st z σ := by
  obtain ⟨hx, hb, hml, hr, hown, hts, hnw, hK, hRO, hA, hlk, hmn, hfr, hlo⟩ := C
  simp only [sg_st, sg_stl] at h
  split at h
  · rename_i x r
    split at h
    · rename_i hk
      simp only [sg_nx, Option.some.injEq, Sum.inl.injEq, Prod.mk.injEq] at h
      obtain ⟨rfl, rfl, rfl, rfl, rfl⟩ := h
      intro H locs ad arr hI hL hw hs
      simp only [sg_ws, List.all_cons, Bool.and_eq_true] at hs
      exact lv_lstore_n (lv' := _) hx hb hd rfl hL.has hk rfl (fun arr' hl' => K H locs ad arr' hI (sg_LH.s2 (v := .long x) hl') (sg_wl_s2 hw rfl) hs.2)
    · cases h
  · cases h
theorem sg_p_astore (C : sg_Cx p R s m args meth c M A D q X ra) {k : Nat} (hd : decode (sg_mc M) pc = .ok (.astore k, 2)) (h : sg_st X M (.astore k) pc ls st z σ = some (.inl (pc', ls', st', z', σ'))) (K : sg_OK p l e R s m args below meth c M A D q ra n0 ad0 Q pc' ls' st' z' σ') : sg_OK p l e R s m args below meth c M A D q ra n0 ad0 Q pc ls st z σ := by
  obtain ⟨hx, hb, hml, hr, hown, hts, hnw, hK, hRO, hA, hlk, hmn, hfr, hlo⟩ := C
  simp only [sg_st, sg_sta] at h
  split at h
  · rename_i x r
    split at h
    · rename_i hk
      simp only [sg_nx, Option.some.injEq, Sum.inl.injEq, Prod.mk.injEq] at h
      obtain ⟨rfl, rfl, rfl, rfl, rfl⟩ := h
      intro H locs ad arr hI hL hw hs
      simp only [sg_ws, List.all_cons, Bool.and_eq_true] at hs
      exact lv_astore (lv' := _) hx hb hd hL.has hk rfl (fun arr' hl' => K H locs ad arr' hI (sg_LH.s1 (v := .ref x) hl') (sg_wl_s1 hw hs.1) hs.2)
    · cases h
  · cases h
theorem sg_p_astore_n (C : sg_Cx p R s m args meth c M A D q X ra) {k : Fin 4} (hd : decode (sg_mc M) pc = .ok (.astore_n k, 1)) (h : sg_st X M (.astore_n k) pc ls st z σ = some (.inl (pc', ls', st', z', σ'))) (K : sg_OK p l e R s m args below meth c M A D q ra n0 ad0 Q pc' ls' st' z' σ') : sg_OK p l e R s m args below meth c M A D q ra n0 ad0 Q pc ls st z σ := by
  obtain ⟨hx, hb, hml, hr, hown, hts, hnw, hK, hRO, hA, hlk, hmn, hfr, hlo⟩ := C
  simp only [sg_st, sg_sta] at h
  split at h
  · rename_i x r
    split at h
    · rename_i hk
      simp only [sg_nx, Option.some.injEq, Sum.inl.injEq, Prod.mk.injEq] at h
      obtain ⟨rfl, rfl, rfl, rfl, rfl⟩ := h
      intro H locs ad arr hI hL hw hs
      simp only [sg_ws, List.all_cons, Bool.and_eq_true] at hs
      exact lv_astore_n (lv' := _) hx hb hd rfl hL.has hk rfl (fun arr' hl' => K H locs ad arr' hI (sg_LH.s1 (v := .ref x) hl') (sg_wl_s1 hw hs.1) hs.2)
    · cases h
  · cases h
theorem sg_p_iinc (C : sg_Cx p R s m args meth c M A D q X ra) {k : Nat} {d : Int} (hd : decode (sg_mc M) pc = .ok (.iinc k d, 3)) (h : sg_st X M (.iinc k d) pc ls st z σ = some (.inl (pc', ls', st', z', σ'))) (K : sg_OK p l e R s m args below meth c M A D q ra n0 ad0 Q pc' ls' st' z' σ') : sg_OK p l e R s m args below meth c M A D q ra n0 ad0 Q pc ls st z σ := by
  obtain ⟨hx, hb, hml, hr, hown, hts, hnw, hK, hRO, hA, hlk, hmn, hfr, hlo⟩ := C
  simp only [sg_st] at h
  split at h
  · rename_i x hv
    split at h
    · rename_i hk
      simp only [sg_nx, Option.some.injEq, Sum.inl.injEq, Prod.mk.injEq] at h
      obtain ⟨rfl, rfl, rfl, rfl, rfl⟩ := h
      intro H locs ad arr hI hL hw hs
      obtain ⟨j, hj⟩ := List.getElem?_of_mem (sg_al_mem (ad := ad) (ra := ra).mpr ⟨_, hv, rfl⟩)
      exact lv_iinc (lv' := _) (x := x) hx hb hd hL.has (k := j) hj rfl hk rfl (fun arr' hl' => K H locs ad arr' hI (sg_LH.s1 (v := .int (x + Int32.ofInt d)) hl') (sg_wl_s1 hw rfl) hs)
    · cases h
  · cases h
theorem sg_p_iadd (C : sg_Cx p R s m args meth c M A D q X ra)  (hd : decode (sg_mc M) pc = .ok (.iadd, 1)) (h : sg_st X M (.iadd) pc ls st z σ = some (.inl (pc', ls', st', z', σ'))) (K : sg_OK p l e R s m args below meth c M A D q ra n0 ad0 Q pc' ls' st' z' σ') : sg_OK p l e R s m args below meth c M A D q ra n0 ad0 Q pc ls st z σ := by
  obtain ⟨hx, hb, hml, hr, hown, hts, hnw, hK, hRO, hA, hlk, hmn, hfr, hlo⟩ := C
  simp only [sg_st, sg_i2] at h
  split at h
  · rename_i y x r
    simp only [sg_nx, Option.some.injEq, Sum.inl.injEq, Prod.mk.injEq] at h
    obtain ⟨rfl, rfl, rfl, rfl, rfl⟩ := h
    intro H locs ad arr hI hL hw hs
    exact lv_iadd hx hb hd (K H locs ad arr hI hL hw (by simpa [sg_ws, sg_wv] using hs))
  · cases h
theorem sg_p_isub (C : sg_Cx p R s m args meth c M A D q X ra)  (hd : decode (sg_mc M) pc = .ok (.isub, 1)) (h : sg_st X M (.isub) pc ls st z σ = some (.inl (pc', ls', st', z', σ'))) (K : sg_OK p l e R s m args below meth c M A D q ra n0 ad0 Q pc' ls' st' z' σ') : sg_OK p l e R s m args below meth c M A D q ra n0 ad0 Q pc ls st z σ := by
  obtain ⟨hx, hb, hml, hr, hown, hts, hnw, hK, hRO, hA, hlk, hmn, hfr, hlo⟩ := C
  simp only [sg_st, sg_i2] at h
  split at h
  · rename_i y x r
    simp only [sg_nx, Option.some.injEq, Sum.inl.injEq, Prod.mk.injEq] at h
    obtain ⟨rfl, rfl, rfl, rfl, rfl⟩ := h
    intro H locs ad arr hI hL hw hs
    exact lv_isub hx hb hd (K H locs ad arr hI hL hw (by simpa [sg_ws, sg_wv] using hs))
  · cases h
theorem sg_p_imul (C : sg_Cx p R s m args meth c M A D q X ra)  (hd : decode (sg_mc M) pc = .ok (.imul, 1)) (h : sg_st X M (.imul) pc ls st z σ = some (.inl (pc', ls', st', z', σ'))) (K : sg_OK p l e R s m args below meth c M A D q ra n0 ad0 Q pc' ls' st' z' σ') : sg_OK p l e R s m args below meth c M A D q ra n0 ad0 Q pc ls st z σ := by
  obtain ⟨hx, hb, hml, hr, hown, hts, hnw, hK, hRO, hA, hlk, hmn, hfr, hlo⟩ := C
  simp only [sg_st, sg_i2] at h
  split at h
  · rename_i y x r
    simp only [sg_nx, Option.some.injEq, Sum.inl.injEq, Prod.mk.injEq] at h
    obtain ⟨rfl, rfl, rfl, rfl, rfl⟩ := h
    intro H locs ad arr hI hL hw hs
    exact lv_imul hx hb hd (K H locs ad arr hI hL hw (by simpa [sg_ws, sg_wv] using hs))
  · cases h
theorem sg_p_iand (C : sg_Cx p R s m args meth c M A D q X ra)  (hd : decode (sg_mc M) pc = .ok (.iand, 1)) (h : sg_st X M (.iand) pc ls st z σ = some (.inl (pc', ls', st', z', σ'))) (K : sg_OK p l e R s m args below meth c M A D q ra n0 ad0 Q pc' ls' st' z' σ') : sg_OK p l e R s m args below meth c M A D q ra n0 ad0 Q pc ls st z σ := by
  obtain ⟨hx, hb, hml, hr, hown, hts, hnw, hK, hRO, hA, hlk, hmn, hfr, hlo⟩ := C
  simp only [sg_st, sg_i2] at h
  split at h
  · rename_i y x r
    simp only [sg_nx, Option.some.injEq, Sum.inl.injEq, Prod.mk.injEq] at h
    obtain ⟨rfl, rfl, rfl, rfl, rfl⟩ := h
    intro H locs ad arr hI hL hw hs
    exact lv_iand hx hb hd (K H locs ad arr hI hL hw (by simpa [sg_ws, sg_wv] using hs))
  · cases h
theorem sg_p_ior (C : sg_Cx p R s m args meth c M A D q X ra)  (hd : decode (sg_mc M) pc = .ok (.ior, 1)) (h : sg_st X M (.ior) pc ls st z σ = some (.inl (pc', ls', st', z', σ'))) (K : sg_OK p l e R s m args below meth c M A D q ra n0 ad0 Q pc' ls' st' z' σ') : sg_OK p l e R s m args below meth c M A D q ra n0 ad0 Q pc ls st z σ := by
  obtain ⟨hx, hb, hml, hr, hown, hts, hnw, hK, hRO, hA, hlk, hmn, hfr, hlo⟩ := C
  simp only [sg_st, sg_i2] at h
  split at h
  · rename_i y x r
    simp only [sg_nx, Option.some.injEq, Sum.inl.injEq, Prod.mk.injEq] at h
    obtain ⟨rfl, rfl, rfl, rfl, rfl⟩ := h
    intro H locs ad arr hI hL hw hs
    exact lv_ior hx hb hd (K H locs ad arr hI hL hw (by simpa [sg_ws, sg_wv] using hs))
  · cases h
theorem sg_p_ixor (C : sg_Cx p R s m args meth c M A D q X ra)  (hd : decode (sg_mc M) pc = .ok (.ixor, 1)) (h : sg_st X M (.ixor) pc ls st z σ = some (.inl (pc', ls', st', z', σ'))) (K : sg_OK p l e R s m args below meth c M A D q ra n0 ad0 Q pc' ls' st' z' σ') : sg_OK p l e R s m args below meth c M A D q ra n0 ad0 Q pc ls st z σ := by
  obtain ⟨hx, hb, hml, hr, hown, hts, hnw, hK, hRO, hA, hlk, hmn, hfr, hlo⟩ := C
  simp only [sg_st, sg_i2] at h
  split at h
  · rename_i y x r
    simp only [sg_nx, Option.some.injEq, Sum.inl.injEq, Prod.mk.injEq] at h
    obtain ⟨rfl, rfl, rfl, rfl, rfl⟩ := h
    intro H locs ad arr hI hL hw hs
    exact lv_ixor hx hb hd (K H locs ad arr hI hL hw (by simpa [sg_ws, sg_wv] using hs))
  · cases h
theorem sg_p_ishl (C : sg_Cx p R s m args meth c M A D q X ra)  (hd : decode (sg_mc M) pc = .ok (.ishl, 1)) (h : sg_st X M (.ishl) pc ls st z σ = some (.inl (pc', ls', st', z', σ'))) (K : sg_OK p l e R s m args below meth c M A D q ra n0 ad0 Q pc' ls' st' z' σ') : sg_OK p l e R s m args below meth c M A D q ra n0 ad0 Q pc ls st z σ := by
  obtain ⟨hx, hb, hml, hr, hown, hts, hnw, hK, hRO, hA, hlk, hmn, hfr, hlo⟩ := C
  simp only [sg_st, sg_i2] at h
  split at h
  · rename_i y x r
    simp only [sg_nx, Option.some.injEq, Sum.inl.injEq, Prod.mk.injEq] at h
    obtain ⟨rfl, rfl, rfl, rfl, rfl⟩ := h
    intro H locs ad arr hI hL hw hs
    exact lv_ishl hx hb hd (K H locs ad arr hI hL hw (by simpa [sg_ws, sg_wv] using hs))
  · cases h
theorem sg_p_ishr (C : sg_Cx p R s m args meth c M A D q X ra)  (hd : decode (sg_mc M) pc = .ok (.ishr, 1)) (h : sg_st X M (.ishr) pc ls st z σ = some (.inl (pc', ls', st', z', σ'))) (K : sg_OK p l e R s m args below meth c M A D q ra n0 ad0 Q pc' ls' st' z' σ') : sg_OK p l e R s m args below meth c M A D q ra n0 ad0 Q pc ls st z σ := by
  obtain ⟨hx, hb, hml, hr, hown, hts, hnw, hK, hRO, hA, hlk, hmn, hfr, hlo⟩ := C
  simp only [sg_st, sg_i2] at h
  split at h
  · rename_i y x r
    simp only [sg_nx, Option.some.injEq, Sum.inl.injEq, Prod.mk.injEq] at h
    obtain ⟨rfl, rfl, rfl, rfl, rfl⟩ := h
    intro H locs ad arr hI hL hw hs
    exact lv_ishr hx hb hd (K H locs ad arr hI hL hw (by simpa [sg_ws, sg_wv] using hs))
  · cases h
theorem sg_p_iushr (C : sg_Cx p R s m args meth c M A D q X ra)  (hd : decode (sg_mc M) pc = .ok (.iushr, 1)) (h : sg_st X M (.iushr) pc ls st z σ = some (.inl (pc', ls', st', z', σ'))) (K : sg_OK p l e R s m args below meth c M A D q ra n0 ad0 Q pc' ls' st' z' σ') : sg_OK p l e R s m args below meth c M A D q ra n0 ad0 Q pc ls st z σ := by
  obtain ⟨hx, hb, hml, hr, hown, hts, hnw, hK, hRO, hA, hlk, hmn, hfr, hlo⟩ := C
  simp only [sg_st, sg_i2] at h
  split at h
  · rename_i y x r
    simp only [sg_nx, Option.some.injEq, Sum.inl.injEq, Prod.mk.injEq] at h
    obtain ⟨rfl, rfl, rfl, rfl, rfl⟩ := h
    intro H locs ad arr hI hL hw hs
    exact lv_iushr hx hb hd rfl (K H locs ad arr hI hL hw (by simpa [sg_ws, sg_wv] using hs))
  · cases h
theorem sg_p_idiv (C : sg_Cx p R s m args meth c M A D q X ra)  (hd : decode (sg_mc M) pc = .ok (.idiv, 1)) (h : sg_st X M (.idiv) pc ls st z σ = some (.inl (pc', ls', st', z', σ'))) (K : sg_OK p l e R s m args below meth c M A D q ra n0 ad0 Q pc' ls' st' z' σ') : sg_OK p l e R s m args below meth c M A D q ra n0 ad0 Q pc ls st z σ := by
  obtain ⟨hx, hb, hml, hr, hown, hts, hnw, hK, hRO, hA, hlk, hmn, hfr, hlo⟩ := C
  simp only [sg_st] at h
  split at h
  · rename_i y x r
    split at h
    · rename_i hy
      simp only [sg_nx, Option.some.injEq, Sum.inl.injEq, Prod.mk.injEq] at h
      obtain ⟨rfl, rfl, rfl, rfl, rfl⟩ := h
      intro H locs ad arr hI hL hw hs
      exact lv_idiv hx hb hd hy (K H locs ad arr hI hL hw (by simpa [sg_ws, sg_wv] using hs))
    · cases h
  · cases h
theorem sg_p_irem (C : sg_Cx p R s m args meth c M A D q X ra)  (hd : decode (sg_mc M) pc = .ok (.irem, 1)) (h : sg_st X M (.irem) pc ls st z σ = some (.inl (pc', ls', st', z', σ'))) (K : sg_OK p l e R s m args below meth c M A D q ra n0 ad0 Q pc' ls' st' z' σ') : sg_OK p l e R s m args below meth c M A D q ra n0 ad0 Q pc ls st z σ := by
  obtain ⟨hx, hb, hml, hr, hown, hts, hnw, hK, hRO, hA, hlk, hmn, hfr, hlo⟩ := C
  simp only [sg_st] at h
  split at h
  · rename_i y x r
    split at h
    · rename_i hy
      simp only [sg_nx, Option.some.injEq, Sum.inl.injEq, Prod.mk.injEq] at h
      obtain ⟨rfl, rfl, rfl, rfl, rfl⟩ := h
      intro H locs ad arr hI hL hw hs
      exact lv_irem hx hb hd hy (K H locs ad arr hI hL hw (by simpa [sg_ws, sg_wv] using hs))
    · cases h
  · cases h
theorem sg_p_ineg (C : sg_Cx p R s m args meth c M A D q X ra)  (hd : decode (sg_mc M) pc = .ok (.ineg, 1)) (h : sg_st X M (.ineg) pc ls st z σ = some (.inl (pc', ls', st', z', σ'))) (K : sg_OK p l e R s m args below meth c M A D q ra n0 ad0 Q pc' ls' st' z' σ') : sg_OK p l e R s m args below meth c M A D q ra n0 ad0 Q pc ls st z σ := by
  obtain ⟨hx, hb, hml, hr, hown, hts, hnw, hK, hRO, hA, hlk, hmn, hfr, hlo⟩ := C
  simp only [sg_st, sg_i1] at h
  split at h
  · rename_i x r
    simp only [sg_nx, Option.some.injEq, Sum.inl.injEq, Prod.mk.injEq] at h
    obtain ⟨rfl, rfl, rfl, rfl, rfl⟩ := h
    intro H locs ad arr hI hL hw hs
    exact lv_ineg hx hb hd (K H locs ad arr hI hL hw (by simpa [sg_ws, sg_wv] using hs))
  · cases h
theorem sg_p_i2b (C : sg_Cx p R s m args meth c M A D q X ra)  (hd : decode (sg_mc M) pc = .ok (.i2b, 1)) (h : sg_st X M (.i2b) pc ls st z σ = some (.inl (pc', ls', st', z', σ'))) (K : sg_OK p l e R s m args below meth c M A D q ra n0 ad0 Q pc' ls' st' z' σ') : sg_OK p l e R s m args below meth c M A D q ra n0 ad0 Q pc ls st z σ := by
  obtain ⟨hx, hb, hml, hr, hown, hts, hnw, hK, hRO, hA, hlk, hmn, hfr, hlo⟩ := C
  simp only [sg_st, sg_i1] at h
  split at h
  · rename_i x r
    simp only [sg_nx, Option.some.injEq, Sum.inl.injEq, Prod.mk.injEq] at h
    obtain ⟨rfl, rfl, rfl, rfl, rfl⟩ := h
    intro H locs ad arr hI hL hw hs
    exact lv_i2b hx hb hd rfl (K H locs ad arr hI hL hw (by simpa [sg_ws, sg_wv] using hs))
  · cases h
theorem sg_p_i2s (C : sg_Cx p R s m args meth c M A D q X ra)  (hd : decode (sg_mc M) pc = .ok (.i2s, 1)) (h : sg_st X M (.i2s) pc ls st z σ = some (.inl (pc', ls', st', z', σ'))) (K : sg_OK p l e R s m args below meth c M A D q ra n0 ad0 Q pc' ls' st' z' σ') : sg_OK p l e R s m args below meth c M A D q ra n0 ad0 Q pc ls st z σ := by
  obtain ⟨hx, hb, hml, hr, hown, hts, hnw, hK, hRO, hA, hlk, hmn, hfr, hlo⟩ := C
  simp only [sg_st, sg_i1] at h
  split at h
  · rename_i x r
    simp only [sg_nx, Option.some.injEq, Sum.inl.injEq, Prod.mk.injEq] at h
    obtain ⟨rfl, rfl, rfl, rfl, rfl⟩ := h
    intro H locs ad arr hI hL hw hs
    exact lv_i2s hx hb hd rfl (K H locs ad arr hI hL hw (by simpa [sg_ws, sg_wv] using hs))
  · cases h
theorem sg_p_i2l (C : sg_Cx p R s m args meth c M A D q X ra)  (hd : decode (sg_mc M) pc = .ok (.i2l, 1)) (h : sg_st X M (.i2l) pc ls st z σ = some (.inl (pc', ls', st', z', σ'))) (K : sg_OK p l e R s m args below meth c M A D q ra n0 ad0 Q pc' ls' st' z' σ') : sg_OK p l e R s m args below meth c M A D q ra n0 ad0 Q pc ls st z σ := by
  obtain ⟨hx, hb, hml, hr, hown, hts, hnw, hK, hRO, hA, hlk, hmn, hfr, hlo⟩ := C
  simp only [sg_st] at h
  split at h
  · rename_i x r
    simp only [sg_nx, Option.some.injEq, Sum.inl.injEq, Prod.mk.injEq] at h
    obtain ⟨rfl, rfl, rfl, rfl, rfl⟩ := h
    intro H locs ad arr hI hL hw hs
    exact lv_i2l hx hb hd rfl (K H locs ad arr hI hL hw (by simpa [sg_ws, sg_wv] using hs))
  · cases h
theorem sg_p_ladd (C : sg_Cx p R s m args meth c M A D q X ra)  (hd : decode (sg_mc M) pc = .ok (.ladd, 1)) (h : sg_st X M (.ladd) pc ls st z σ = some (.inl (pc', ls', st', z', σ'))) (K : sg_OK p l e R s m args below meth c M A D q ra n0 ad0 Q pc' ls' st' z' σ') : sg_OK p l e R s m args below meth c M A D q ra n0 ad0 Q pc ls st z σ := by
  obtain ⟨hx, hb, hml, hr, hown, hts, hnw, hK, hRO, hA, hlk, hmn, hfr, hlo⟩ := C
  simp only [sg_st, sg_l2] at h
  split at h
  · rename_i y x r
    simp only [sg_nx, Option.some.injEq, Sum.inl.injEq, Prod.mk.injEq] at h
    obtain ⟨rfl, rfl, rfl, rfl, rfl⟩ := h
    intro H locs ad arr hI hL hw hs
    exact lv_ladd hx hb hd (K H locs ad arr hI hL hw (by simpa [sg_ws, sg_wv] using hs))
  · cases h
theorem sg_p_lmul (C : sg_Cx p R s m args meth c M A D q X ra)  (hd : decode (sg_mc M) pc = .ok (.lmul, 1)) (h : sg_st X M (.lmul) pc ls st z σ = some (.inl (pc', ls', st', z', σ'))) (K : sg_OK p l e R s m args below meth c M A D q ra n0 ad0 Q pc' ls' st' z' σ') : sg_OK p l e R s m args below meth c M A D q ra n0 ad0 Q pc ls st z σ := by
  obtain ⟨hx, hb, hml, hr, hown, hts, hnw, hK, hRO, hA, hlk, hmn, hfr, hlo⟩ := C
  simp only [sg_st, sg_l2] at h
  split at h
  · rename_i y x r
    simp only [sg_nx, Option.some.injEq, Sum.inl.injEq, Prod.mk.injEq] at h
    obtain ⟨rfl, rfl, rfl, rfl, rfl⟩ := h
    intro H locs ad arr hI hL hw hs
    exact lv_lmul hx hb hd (K H locs ad arr hI hL hw (by simpa [sg_ws, sg_wv] using hs))
  · cases h
theorem sg_p_lcmp (C : sg_Cx p R s m args meth c M A D q X ra)  (hd : decode (sg_mc M) pc = .ok (.lcmp, 1)) (h : sg_st X M (.lcmp) pc ls st z σ = some (.inl (pc', ls', st', z', σ'))) (K : sg_OK p l e R s m args below meth c M A D q ra n0 ad0 Q pc' ls' st' z' σ') : sg_OK p l e R s m args below meth c M A D q ra n0 ad0 Q pc ls st z σ := by
  obtain ⟨hx, hb, hml, hr, hown, hts, hnw, hK, hRO, hA, hlk, hmn, hfr, hlo⟩ := C
  simp only [sg_st] at h
  split at h
  · rename_i y x r
    simp only [sg_nx, Option.some.injEq, Sum.inl.injEq, Prod.mk.injEq] at h
    obtain ⟨rfl, rfl, rfl, rfl, rfl⟩ := h
    intro H locs ad arr hI hL hw hs
    exact W.lcmp hx hb hd (K H locs ad arr hI hL hw (by simpa [sg_ws, sg_wv] using hs))
  · cases h
theorem sg_p_pop (C : sg_Cx p R s m args meth c M A D q X ra)  (hd : decode (sg_mc M) pc = .ok (.pop, 1)) (h : sg_st X M (.pop) pc ls st z σ = some (.inl (pc', ls', st', z', σ'))) (K : sg_OK p l e R s m args below meth c M A D q ra n0 ad0 Q pc' ls' st' z' σ') : sg_OK p l e R s m args below meth c M A D q ra n0 ad0 Q pc ls st z σ := by
  obtain ⟨hx, hb, hml, hr, hown, hts, hnw, hK, hRO, hA, hlk, hmn, hfr, hlo⟩ := C
  simp only [sg_st] at h
  split at h
  · rename_i v r
    split at h
    · rename_i hv
      simp only [sg_nx, Option.some.injEq, Sum.inl.injEq, Prod.mk.injEq] at h
      obtain ⟨rfl, rfl, rfl, rfl, rfl⟩ := h
      intro H locs ad arr hI hL hw hs
      simp only [sg_ws, List.all_cons, Bool.and_eq_true] at hs
      exact lv_pop hx hb hd (by rw [sg_vm_cat]; exact hv) (K H locs ad arr hI hL hw hs.2)
    · cases h
  · cases h
theorem sg_p_dup (C : sg_Cx p R s m args meth c M A D q X ra)  (hd : decode (sg_mc M) pc = .ok (.dup, 1)) (h : sg_st X M (.dup) pc ls st z σ = some (.inl (pc', ls', st', z', σ'))) (K : sg_OK p l e R s m args below meth c M A D q ra n0 ad0 Q pc' ls' st' z' σ') : sg_OK p l e R s m args below meth c M A D q ra n0 ad0 Q pc ls st z σ := by
  obtain ⟨hx, hb, hml, hr, hown, hts, hnw, hK, hRO, hA, hlk, hmn, hfr, hlo⟩ := C
  simp only [sg_st] at h
  split at h
  · rename_i v r
    split at h
    · rename_i hv
      simp only [sg_nx, Option.some.injEq, Sum.inl.injEq, Prod.mk.injEq] at h
      obtain ⟨rfl, rfl, rfl, rfl, rfl⟩ := h
      intro H locs ad arr hI hL hw hs
      simp only [sg_ws, List.all_cons, Bool.and_eq_true] at hs
      exact lv_dup hx hb hd (by rw [sg_vm_cat]; exact hv) (K H locs ad arr hI hL hw (by simp only [sg_ws, List.all_cons, Bool.and_eq_true]; exact ⟨hs.1, hs.1, hs.2⟩))
    · cases h
  · cases h
theorem sg_p_dup2 (C : sg_Cx p R s m args meth c M A D q X ra)  (hd : decode (sg_mc M) pc = .ok (.dup2, 1)) (h : sg_st X M (.dup2) pc ls st z σ = some (.inl (pc', ls', st', z', σ'))) (K : sg_OK p l e R s m args below meth c M A D q ra n0 ad0 Q pc' ls' st' z' σ') : sg_OK p l e R s m args below meth c M A D q ra n0 ad0 Q pc ls st z σ := by
  obtain ⟨hx, hb, hml, hr, hown, hts, hnw, hK, hRO, hA, hlk, hmn, hfr, hlo⟩ := C
  simp only [sg_st] at h
  split at h
  · rename_i v v2 r
    split at h
    · rename_i hv
      simp only [sg_nx, Option.some.injEq, Sum.inl.injEq, Prod.mk.injEq] at h
      obtain ⟨rfl, rfl, rfl, rfl, rfl⟩ := h
      intro H locs ad arr hI hL hw hs
      simp only [sg_ws, List.all_cons, Bool.and_eq_true] at hs
      exact lv_dup2_11 hx hb hd (by rw [sg_vm_cat]; exact hv.1) (by rw [sg_vm_cat]; exact hv.2) (K H locs ad arr hI hL hw (by simp only [sg_ws, List.all_cons, Bool.and_eq_true]; exact ⟨hs.1, hs.2.1, hs.1, hs.2.1, hs.2.2⟩))
    · cases h
  · cases h
theorem sg_p_goto (C : sg_Cx p R s m args meth c M A D q X ra) {off : Int} (hd : decode (sg_mc M) pc = .ok (.goto off, 3)) (h : sg_st X M (.goto off) pc ls st z σ = some (.inl (pc', ls', st', z', σ'))) (K : sg_OK p l e R s m args below meth c M A D q ra n0 ad0 Q pc' ls' st' z' σ') : sg_OK p l e R s m args below meth c M A D q ra n0 ad0 Q pc ls st z σ := by
  obtain ⟨hx, hb, hml, hr, hown, hts, hnw, hK, hRO, hA, hlk, hmn, hfr, hlo⟩ := C
  simp only [sg_st] at h
  split at h
  · rename_i h0
    simp only [sg_nx, Option.some.injEq, Sum.inl.injEq, Prod.mk.injEq] at h
    obtain ⟨rfl, rfl, rfl, rfl, rfl⟩ := h
    intro H locs ad arr hI hL hw hs
    exact lv_goto hx hb hd (by show _ = ((((pc : Int) + off).toNat : Nat) : Int); omega) (K H locs ad arr hI hL hw hs)
  · cases h
theorem sg_p_ifCond (C : sg_Cx p R s m args meth c M A D q X ra) {cd : ClassFile.Cond} {off : Int} (hd : decode (sg_mc M) pc = .ok (.ifCond cd off, 3)) (h : sg_st X M (.ifCond cd off) pc ls st z σ = some (.inl (pc', ls', st', z', σ'))) (K : sg_OK p l e R s m args below meth c M A D q ra n0 ad0 Q pc' ls' st' z' σ') : sg_OK p l e R s m args below meth c M A D q ra n0 ad0 Q pc ls st z σ := by
  obtain ⟨hx, hb, hml, hr, hown, hts, hnw, hK, hRO, hA, hlk, hmn, hfr, hlo⟩ := C
  simp only [sg_st] at h
  split at h
  · rename_i x r
    simp only [sg_jp] at h
    split at h
    · rename_i h0
      simp only [sg_nx, Option.some.injEq, Sum.inl.injEq, Prod.mk.injEq] at h
      obtain ⟨rfl, rfl, rfl, rfl, rfl⟩ := h
      have ht : (pc : Int) + off = ((((pc : Int) + off).toNat : Nat) : Int) := by omega
      intro H locs ad arr hI hL hw hs
      have K1 := K H locs ad arr hI hL hw (by simpa [sg_ws, sg_wv] using hs)
      cases cd with
      | eq => exact lv_if_eq hx hb hd ht (fun hc => by simpa [sg_cmp, hc] using K1) (fun hc => by simpa [sg_cmp, hc] using K1)
      | ne => exact lv_if_ne hx hb hd ht (fun hc => by simpa [sg_cmp, hc] using K1) (fun hc => by simpa [sg_cmp, hc] using K1)
      | lt => exact lv_if_lt hx hb hd ht (fun hc => by simpa [sg_cmp, hc] using K1) (fun hc => by simpa [sg_cmp, hc] using K1)
      | ge => exact lv_if_ge hx hb hd ht (fun hc => by simpa [sg_cmp, hc] using K1) (fun hc => by simpa [sg_cmp, hc] using K1)
      | gt => exact lv_if_gt hx hb hd ht (fun hc => by simpa [sg_cmp, hc] using K1) (fun hc => by simpa [sg_cmp, hc] using K1)
      | le => exact lv_if_le hx hb hd ht (fun hc => by simpa [sg_cmp, hc] using K1) (fun hc => by simpa [sg_cmp, hc] using K1)
    · cases h
  · cases h
theorem sg_p_if_icmp (C : sg_Cx p R s m args meth c M A D q X ra) {cd : ClassFile.Cond} {off : Int} (hd : decode (sg_mc M) pc = .ok (.if_icmp cd off, 3)) (h : sg_st X M (.if_icmp cd off) pc ls st z σ = some (.inl (pc', ls', st', z', σ'))) (K : sg_OK p l e R s m args below meth c M A D q ra n0 ad0 Q pc' ls' st' z' σ') : sg_OK p l e R s m args below meth c M A D q ra n0 ad0 Q pc ls st z σ := by
  obtain ⟨hx, hb, hml, hr, hown, hts, hnw, hK, hRO, hA, hlk, hmn, hfr, hlo⟩ := C
  simp only [sg_st] at h
  split at h
  · rename_i y x r
    simp only [sg_jp] at h
    split at h
    · rename_i h0
      simp only [sg_nx, Option.some.injEq, Sum.inl.injEq, Prod.mk.injEq] at h
      obtain ⟨rfl, rfl, rfl, rfl, rfl⟩ := h
      have ht : (pc : Int) + off = ((((pc : Int) + off).toNat : Nat) : Int) := by omega
      intro H locs ad arr hI hL hw hs
      have K1 := K H locs ad arr hI hL hw (by simpa [sg_ws, sg_wv] using hs)
      cases cd with
      | eq => exact lv_icmp_eq hx hb hd ht (fun hc => by simpa [sg_cmp, hc] using K1) (fun hc => by simpa [sg_cmp, hc] using K1)
      | ne => exact lv_icmp_ne hx hb hd ht (fun hc => by simpa [sg_cmp, hc] using K1) (fun hc => by simpa [sg_cmp, hc] using K1)
      | lt => exact lv_icmp_lt hx hb hd ht (fun hc => by simpa [sg_cmp, hc] using K1) (fun hc => by simpa [sg_cmp, hc] using K1)
      | ge => exact lv_icmp_ge hx hb hd ht (fun hc => by simpa [sg_cmp, hc] using K1) (fun hc => by simpa [sg_cmp, hc] using K1)
      | gt => exact lv_icmp_gt hx hb hd ht (fun hc => by simpa [sg_cmp, hc] using K1) (fun hc => by simpa [sg_cmp, hc] using K1)
      | le => exact lv_icmp_le hx hb hd ht (fun hc => by simpa [sg_cmp, hc] using K1) (fun hc => by simpa [sg_cmp, hc] using K1)
    · cases h
  · cases h
theorem sg_p_tableswitch (C : sg_Cx p R s m args meth c M A D q X ra) {d lo hi : Int} {offs : Array Int} {n : Nat} (hd : decode (sg_mc M) pc = .ok (.tableswitch d lo hi offs, n)) (h : sg_st X M (.tableswitch d lo hi offs) pc ls st z σ = some (.inl (pc', ls', st', z', σ'))) (K : sg_OK p l e R s m args below meth c M A D q ra n0 ad0 Q pc' ls' st' z' σ') : sg_OK p l e R s m args below meth c M A D q ra n0 ad0 Q pc ls st z σ := by
  obtain ⟨hx, hb, hml, hr, hown, hts, hnw, hK, hRO, hA, hlk, hmn, hfr, hlo⟩ := C
  simp only [sg_st] at h
  split at h
  · rename_i x r
    split at h
    · rename_i hout
      split at h
      · rename_i h0
        simp only [sg_nx, Option.some.injEq, Sum.inl.injEq, Prod.mk.injEq] at h
        obtain ⟨rfl, rfl, rfl, rfl, rfl⟩ := h
        intro H locs ad arr hI hL hw hs
        exact lv_tableOut hx hb hd hout (by show _ = ((((pc : Int) + d).toNat : Nat) : Int); omega) (K H locs ad arr hI hL hw (by simpa [sg_ws, sg_wv] using hs))
      · cases h
    · rename_i hin
      split at h
      · rename_i off ho
        split at h
        · rename_i h0
          simp only [sg_nx, Option.some.injEq, Sum.inl.injEq, Prod.mk.injEq] at h
          obtain ⟨rfl, rfl, rfl, rfl, rfl⟩ := h
          intro H locs ad arr hI hL hw hs
          exact lv_tableIn hx hb hd (fun q => hin (Or.inl q)) (fun q => hin (Or.inr q)) ho (by show _ = ((((pc : Int) + off).toNat : Nat) : Int); omega) (K H locs ad arr hI hL hw (by simpa [sg_ws, sg_wv] using hs))
        · cases h
      · cases h
  · cases h
end SG
