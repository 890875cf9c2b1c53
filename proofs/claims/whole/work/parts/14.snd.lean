theorem sg_cat2 {n : Nat} {as : List Value} (h : sg_ws n as) : ∀ v ∈ as, v.category = 2 → ∃ x, v = .long x := by
  intro v hv hc
  have := List.all_eq_true.mp h v hv
  cases v <;> first | exact ⟨_, rfl⟩ | (simp [Value.category] at hc; done) | (simp [sg_wv] at this; done)
theorem sg_wl_en {n nL : Nat} {as : List Value} (h : sg_ws n as) : sg_wl n (sg_en as nL) := by
  unfold sg_en
  apply List.all_eq_true.mpr
  intro o ho
  rcases List.mem_append.mp ho with h1 | h1
  · obtain ⟨v, hv, hm⟩ := List.mem_flatMap.mp h1
    have hw := List.all_eq_true.mp h v hv
    rcases sg_e1_or v with ⟨x, rfl, e⟩ | ⟨-, e⟩
    · rw [e] at hm
      simp only [List.mem_cons, List.not_mem_nil, or_false] at hm
      rcases hm with rfl | rfl
      · rfl
      · rfl
    · rw [e] at hm
      simp only [List.mem_cons, List.not_mem_nil, or_false] at hm
      subst hm
      exact hw
  · rw [List.eq_of_mem_replicate h1]
    rfl
set_option maxHeartbeats 4000000 in
theorem sg_met {X : sg_X} {f : Nat} (IH : sg_Snd X f) {y n : Nat} {lk : Nat → Nat → Bool} {as : List Value} {σ σ' : sg_S} {r : Option Value} {z' : sg_Z} (hy : y < 203) (h : sg_ex X f y 0 (sg_en as (sg_ml y)) [] (n, 0, 0, lk) σ = some (r, z', σ')) (hw : sg_ws n as) (hn : n ≤ 1000) (hLI : sg_LI n lk) (hfit : (as.flatMap sg_e1).length ≤ sg_ml y)
    (l : Launch) (D : va_G) (q : sg_Ci) (ra ad : Nat → Nat) (sz : Nat) : Met l (sg_my y) (sg_wo y) { frames := sg_fr y, cells := z'.2.1, slots := z'.2.2.1, locals := sg_lo y } (sg_Pc X ra q D ad n lk σ as sz) (sg_Qc ra q D ad n lk σ sz r z' σ') z'.2.1 z'.2.2.1 (va_A (sg_wd q ad n lk σ) sz) := by
  have hmw := sg_mw y hy
  simp only [sg_mck, Bool.and_eq_true, decide_eq_true_eq] at hmw
  refine va_MetF (cc := sg_mc y) (maxL := sg_ml y) (ret := sg_mr y) hmw.1.2 rfl ?_
  intro p e s m args below meth c s₁ B hml hv
  obtain ⟨rfl, hsz, hP, hK, hD0, hRO, hnw⟩ := hv
  subst hsz
  have hx := B.exec
  have hb := B.bytes
  have hr := B.returns
  have hts0 := atoms_spec (ws := sg_wo y) B.pre
  have hts : ∀ w ∈ sg_gw, w.before (as.map (sg_vm ad ra)).toArray s = true := fun w hw => hts0 w (List.mem_cons_of_mem _ hw)
  have hown : s.vm.findClass (sg_cn (sg_mo y)) = some m.cls := by
    rw [← hmw.1.1.1.1.2]
    exact findClass_of_methodNamed B.named
  have hlocks := B.notSynchronized
  have hin : meth.name = (sg_my y).name := (name_of_methodNamed B.named B.method).1
  have hD := hD0.self (sz := s.heap.size)
  have hl := lv_entry (as.map (sg_vm ad ra)) (n := sg_ml y) (by rw [sg_e1_len ad ra as (sg_cat2 hw)]; exact hfit)
  rw [lg_entry_eq]
  generalize (lg_sl (as.map (sg_vm ad ra)) ++ List.replicate (sg_ml y - (lg_sl (as.map (sg_vm ad ra))).length) Slot.unset).toArray = arr at hl ⊢
  have hLH : sg_LH ad ra arr (sg_ml y) (sg_en as (sg_ml y)) := by
    refine ⟨hl.1, hl.2.1, fun i v hi => ?_⟩
    unfold sg_en at hi
    by_cases hlt : i < (as.flatMap sg_e1).length
    · rw [List.getElem?_append_left hlt] at hi
      have := hl.2.2 _ (sg_en_get (ad := ad) (ra := ra) as 0 i v hi (sg_cat2 hw))
      simpa using this
    · rw [List.getElem?_append_right (by omega)] at hi
      have := List.eq_of_mem_replicate (List.mem_of_getElem? hi)
      cases this
  have C : sg_Cx p { frames := sg_fr y, cells := z'.2.1, slots := z'.2.2.1, locals := sg_lo y } s m (as.map (sg_vm ad ra)).toArray meth c y (va_A (sg_wd q ad n lk σ) s.heap.size) D q X ra :=
    ⟨hx, hb, hml, hr, hown, hts, hnw, hK, hRO, fun a h => Or.inr h, hlocks, hin, Nat.le_refl _, Nat.le_refl _⟩
  refine IH y 0 _ [] (n, 0, 0, lk) σ r z' σ' h p l e _ s m _ below meth c (va_A (sg_wd q ad n lk σ) s.heap.size) D q ra n ad _ C (Nat.le_refl _) (Nat.le_refl _) ?_ s.heap [] ad arr ⟨hP, hD, va_S.rf, hn, hLI, Nat.le_refl _, fun _ _ => rfl⟩ hLH (sg_wl_en hw) rfl
  intro H locs ad' arr' pcr i nn lsr str hI hd hln hst hws
  obtain ⟨hP9, hD9, hS9, hn9, hL9, -, had9⟩ := hI
  have hq : ∀ (rv : Option Value), rv = r.map (sg_vm ad' ra) → ∀ t : State, t.heap = H → s.WarmedH t.vm → sg_Qc ra q D ad n lk σ s.heap.size r z' σ' (as.map (sg_vm ad ra)).toArray s (.returned rv) t := by
    intro rv hrv t ht _
    subst hrv
    exact ⟨⟨ad', had9, rfl, by rw [ht]; exact hP9, hD9, hL9, hn9⟩, hS9.F ht⟩
  rcases sg_ret_inv hst with ⟨v, rfl, rfl, rfl, h1 | ⟨h1, h2⟩⟩ | ⟨v, rfl, rfl, rfl, h1⟩ | ⟨a, nm, rfl, rfl, rfl, h1⟩ | ⟨rfl, rfl, rfl, h1⟩
  · simp only [sg_ln, beq_iff_eq] at hln
    subst hln
    exact W.iret hx hb (by rw [hr]; exact h1) (hq _ rfl) hS9.2.2 hd
  · simp only [sg_ln, beq_iff_eq] at hln
    subst hln
    exact W.zret hx hb (by rw [hr]; exact h1) (by rcases h2 with rfl | rfl <;> decide) (hq _ rfl) hS9.2.2 hd
  · simp only [sg_ln, beq_iff_eq] at hln
    subst hln
    exact W.lret hx hb (by rw [hr]; exact h1) (hq _ rfl) hS9.2.2 hd
  · simp only [sg_ln, beq_iff_eq] at hln
    subst hln
    exact W.aret hx hb (by rw [hr]; exact h1) (Or.inl ⟨_, rfl⟩) (Or.inr ⟨_, rfl⟩) (hq _ rfl) hS9.2.2 hd
  · simp only [sg_ln, beq_iff_eq] at hln
    subst hln
    exact W.vret hx hb (by rw [hr]; exact h1) (hq _ rfl) hS9.2.2 hd
