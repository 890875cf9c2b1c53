theorem sg_arrI {D : va_G} {q : sg_Ci} {s : State} (hK : va_K D vwCl [(q.1, .int), (q.2.1, .boolean), (q.2.2, .object RX2)] s) : s.vm.findClass "[I" = some q.1 := va_nm_int (hK.2 0 _ rfl).2
theorem sg_gl_ok {o i k p n : Nat} (h : sg_gl o i = some (k, p, n)) (hk : k < 3) : (Cond.fieldLink (sg_cn o) i RX9 (sg_Rn k) "[I" ∈ sg_gw) ∨ (Cond.fieldLinkNest (sg_cn o) i RX9 (sg_Rn k) "[I" RX9 ∈ sg_nw) := by
  unfold sg_gl at h
  cases hf : sg_GT.find? (fun e => e.1 == o && e.2.1 == i) with
  | none => rw [hf] at h; cases h
  | some e =>
    rw [hf] at h
    have hm := List.mem_of_find?_eq_some hf
    have he := List.find?_some hf
    simp only [Bool.and_eq_true, beq_iff_eq] at he
    obtain ⟨e1, e2, e3, e4, e5⟩ := e
    cases h
    obtain ⟨rfl, rfl⟩ := he
    simp only [sg_GT, List.mem_cons, List.not_mem_nil, or_false, Prod.mk.injEq] at hm
    rcases hm with ⟨rfl, rfl, rfl, rfl, rfl⟩ | ⟨rfl, rfl, rfl, rfl, rfl⟩ | ⟨rfl, rfl, rfl, rfl, rfl⟩
    · exact Or.inl (sg_ck_mem sg_gw0.1)
    · exact Or.inl (sg_ck_mem sg_gw0.2)
    · exact Or.inr (by decide +kernel)
theorem sg_nf_out {ad : Nat → Nat} {lk : Nat → Nat → Bool} {σ : sg_S} {k c : Nat} (hag : sg_ag k = c) (h : (List.range (sg_nf c)).all (fun j => !(sg_rb c j) || !(lk k j)) = true) (hz : σ k = fun _ => 0) : sg_fs ad lk σ k = (List.range (sg_nf c)).map (fun j => if sg_rb c j = true then .null else .int 0) := by
  unfold sg_fs
  rw [hag]
  apply List.map_congr_left
  intro j hj
  have := List.all_eq_true.mp h j hj
  simp only [Bool.or_eq_true, Bool.not_eq_true'] at this
  unfold sg_fv
  rw [hag, hz]
  rcases this with h1 | h1
  · rw [if_neg (by rw [h1]; decide), if_neg (by rw [h1]; decide)]
  · rw [h1]
    rfl
/-- a cell more -/
theorem sg_In_new {s : State} {A : Nat → Prop} {D : va_G} {q : sg_Ci} {n0 n kc ks kc' ks' : Nat} {ad0 ad : Nat → Nat} {lk : Nat → Nat → Bool} {σ σ' : sg_S} {H : Heap} {locs : List Loc} {H1 : Heap} {a : Nat} {e : va_E}
    (hI : sg_In s A D q n0 ad0 ad (n, kc, ks, lk) σ H locs) (hn : n < 1000) (hr : ∀ k, k < n → σ' k = σ k) (hl : ∀ j, sg_is n j = true → lk n j = false) (he : sg_et q (va_up ad n a) lk σ' n = e)
    (hP1 : va_P D vwCl (sg_wd q ad n lk σ ++ [(a, e)]) H1) (hD1 : va_D A (sg_wd q ad n lk σ ++ [(a, e)])) (hS1 : va_S A s.heap H1 locs) : sg_In s A D q n0 ad0 (va_up ad n a) (n + 1, kc', ks', lk) σ' H1 locs ∧ ∀ j, j < n → va_up ad n a j = ad j := by
  obtain ⟨hP, hD, hS, hn1, hLI, hn0, had⟩ := hI
  have hj : ∀ j, j < n → va_up ad n a j = ad j := fun j hj => va_up_ne _ _ (by omega)
  have hpush := sg_wd_push (q := q) (ad := ad) (ad' := va_up ad n a) (n := n) (lk := lk) (σ := σ) (σ' := σ') (va_up_self _ _ _) he (fun j h => ⟨hj j h, by rw [sg_et_ad hLI hj h]; exact sg_et_row (hr j h) rfl⟩)
  rw [hpush] at hP1 hD1
  have hn0' : n0 ≤ n := hn0
  exact ⟨⟨hP1, hD1, hS1, hn, sg_LI_new hLI hl, by show n0 ≤ n + 1; omega, fun k hk => by rw [hj k (by omega)]; exact had k hk⟩, hj⟩
section SGN
variable {p : Program} {l : Launch} {e : Env} {R : Room} {s : State} {m : MethodId} {args : Array Value} {below : List Frame} {meth : Method} {c : Code} {M : Nat} {A : Nat → Prop} {D : va_G} {q : sg_Ci} {X : sg_X} {ra : Nat → Nat} {n0 : Nat} {ad0 : Nat → Nat} {Q : State → Prop}
variable {pc pc' : Nat} {ls ls' : sg_L} {st st' : List Value} {z z' : sg_Z} {σ σ' : sg_S}
theorem sg_p_getstatic (C : sg_Cx p R s m args meth c M A D q X ra) {k : Nat} (hd : decode (sg_mc M) pc = .ok (.getstatic k, 3)) (h : sg_st X M (.getstatic k) pc ls st z σ = some (.inl (pc', ls', st', z', σ'))) (K : sg_OK p l e R s m args below meth c M A D q ra n0 ad0 Q pc' ls' st' z' σ') : sg_OK p l e R s m args below meth c M A D q ra n0 ad0 Q pc ls st z σ := by
  obtain ⟨hx, hb, hml, hr, hown, hts, hnw, hK, hRO, hA, hlk, hmn, hfr, hlo⟩ := C
  simp only [sg_st] at h
  split at h
  · rename_i i2 rest2 hg
    obtain ⟨pl, nn⟩ := rest2
    split at h
    · rename_i hk3
      simp only [sg_nx, Option.some.injEq, Sum.inl.injEq, Prod.mk.injEq] at h
      obtain ⟨rfl, rfl, rfl, rfl, rfl⟩ := h
      intro H locs ad arr hI hL hw hs
      obtain ⟨hP, hD, hS, hn, hLI, hn0, had⟩ := id hI
      have e1 : sg_vm ad ra (.ref (1000 + i2)) = .ref (ra i2) := by
        simp only [sg_vm]
        rw [if_neg (Nat.not_lt.mpr (Nat.le_add_right 1000 i2)), Nat.add_sub_cancel_left]
      have K1 := K H locs ad arr hI hL hw (by simp only [sg_ws, List.all_cons, Bool.and_eq_true]; exact ⟨by simp [sg_wv], hs⟩)
      rw [List.map_cons, e1] at K1
      rcases sg_gl_ok hg hk3 with hw1 | hw1
      · exact va_gets hx hb (hRO.2.1 i2 hk3) hS hown (hts _ hw1) (fun _ h => h) hd K1
      · exact va_getsN hx hb (hRO.2.1 i2 hk3) hS hown (va_Nw.use rfl (hnw _ hw1)) (fun _ h => h) hd K1
    · cases h
  · cases h
theorem sg_p_new (C : sg_Cx p R s m args meth c M A D q X ra) {k : Nat} (hd : decode (sg_mc M) pc = .ok (.new k, 3)) (h : sg_st X M (.new k) pc ls st z σ = some (.inl (pc', ls', st', z', σ'))) (hz : z'.2.1 ≤ R.cells ∧ z'.2.2.1 ≤ R.slots) (K : sg_OK p l e R s m args below meth c M A D q ra n0 ad0 Q pc' ls' st' z' σ') : sg_OK p l e R s m args below meth c M A D q ra n0 ad0 Q pc ls st z σ := by
  obtain ⟨hx, hb, hml, hr, hown, hts, hnw, hK, hRO, hA, hlk, hmn, hfr, hlo⟩ := C
  simp only [sg_st] at h
  split at h
  · rename_i ci pl hf
    obtain ⟨hw1, hc⟩ := sg_nl_ok (sg_mo_lt M) hf
    split at h
    · rename_i hc0
      obtain ⟨hlt, hk0, hag, hall⟩ := hc0
      simp only [sg_nx, Option.some.injEq, Sum.inl.injEq, Prod.mk.injEq] at h
      obtain ⟨rfl, rfl, rfl, rfl, rfl⟩ := h
      obtain ⟨n, kc, ks, lk⟩ := z
      dsimp only at hlt hk0 hag hall hz K ⊢
      intro H locs ad arr hI hL hw hs
      obtain ⟨hP, hD, hS, hn, hLI, hn0, had⟩ := id hI
      have hiw := sg_iw ci hc
      have hfs : ∀ j, j < (sg_cT ci).2.2 → defaultValue (sg_tT ci j) = vp_V ((List.range (sg_nf ci)).map (fun j => if sg_rb ci j = true then .null else .int 0)) j := by
        intro j hj
        rw [sg_vn ci hc] at hj
        have hfk := sg_fk ci hc j hj
        simp only [vp_V, List.getD_eq_getElem?_getD, List.getElem?_map, List.getElem?_range hj, Option.map_some, Option.getD_some]
        by_cases hrb : sg_rb ci j = true
        · rw [if_pos hrb, hfk.2.2.2.1 hrb]
        · rw [if_neg hrb, hfk.2.2.1 (by simpa using hrb)]
          rfl
      refine va_new hx hb hts (sg_uws hc) (sg_tT ci) (sg_tys hc) hown (hts _ hw1) (hts _ (sg_ck_mem hiw.1)) (hts _ (sg_ck_mem hiw.2)) hK hP hD hS hA (sg_vw hc) hfs hz.1 (by rw [sg_vn ci hc]; exact hz.2) hd (fun a H1 hP1 hD1 hS1 => ?_)
      rw [sg_vn ci hc]
      obtain ⟨hI1, hj⟩ := sg_In_new (kc' := kc + 1) (ks' := ks + sg_nf ci) (σ' := va_up σ n (fun _ => 0)) hI hlt (fun k hk => va_up_ne _ _ (by omega)) (fun j hi => by
        rw [sg_is0 hk0, hag] at hi
        have := List.all_eq_true.mp hall j (List.mem_range.mpr (sg_rb_nf hi))
        rw [hi] at this
        simpa using this) (by rw [sg_et0 hk0, hag, sg_nf_out hag hall (va_up_self _ _ _)]) hP1 hD1 hS1
      have K1 := K H1 locs (va_up ad n a) arr hI1 (sg_LH_ad (by omega) hj hw hL) (sg_wl_le (Nat.le_succ n) hw) (by simp only [sg_ws, List.all_cons, Bool.and_eq_true]; exact ⟨by simp [sg_wv], sg_ws_le (Nat.le_succ n) hs⟩)
      rw [List.map_cons, sg_map_ad (by omega) hj hs, sg_vm_ref (n := n + 1) (by omega) (by omega), va_up_self] at K1
      exact K1
    · cases h
  · cases h
theorem sg_p_newarray (C : sg_Cx p R s m args meth c M A D q X ra) {t : ArrayType} (hd : decode (sg_mc M) pc = .ok (.newarray t, 2)) (h : sg_st X M (.newarray t) pc ls st z σ = some (.inl (pc', ls', st', z', σ'))) (hz : z'.2.1 ≤ R.cells ∧ z'.2.2.1 ≤ R.slots) (K : sg_OK p l e R s m args below meth c M A D q ra n0 ad0 Q pc' ls' st' z' σ') : sg_OK p l e R s m args below meth c M A D q ra n0 ad0 Q pc ls st z σ := by
  obtain ⟨hx, hb, hml, hr, hown, hts, hnw, hK, hRO, hA, hlk, hmn, hfr, hlo⟩ := C
  simp only [sg_st] at h
  split at h
  · rename_i cnt r
    split at h
    · rename_i hc0
      obtain ⟨hlt, ht, hc1, hc2, hc3⟩ := hc0
      simp only [sg_nx, Option.some.injEq, Sum.inl.injEq, Prod.mk.injEq] at h
      obtain ⟨rfl, rfl, rfl, rfl, rfl⟩ := h
      obtain ⟨n, kc, ks, lk⟩ := z
      dsimp only at hlt ht hc1 hc2 hc3 hz K ⊢
      intro H locs ad arr hI hL hw hs
      obtain ⟨hP, hD, hS, hn, hLI, hn0, had⟩ := id hI
      have hNt : cnt.toNatClampNeg = sg_ag n := by have := sg_cl hc1; omega
      simp only [sg_ws, List.all_cons, Bool.and_eq_true] at hs
      have hfin : ∀ (a : Nat) (H1 : Heap) (x : va_E), (∀ ad', sg_et q ad' lk (va_up σ n (fun _ => 0)) n = x) → (∀ j, sg_is n j = true → lk n j = false) → va_P D vwCl (sg_wd q ad n lk σ ++ [(a, x)]) H1 → va_D A (sg_wd q ad n lk σ ++ [(a, x)]) → va_S A s.heap H1 locs → W p l e R s m args below meth c H1 locs (kc + 1) (ks + sg_ag n) Q (F0 m (pc + 2) arr (.ref a :: r.map (sg_vm ad ra))) := by
        intro a H1 x hx1 hi1 hP1 hD1 hS1
        obtain ⟨hI1, hj⟩ := sg_In_new (kc' := kc + 1) (ks' := ks + sg_ag n) (σ' := va_up σ n (fun _ => 0)) hI hlt (fun k hk => va_up_ne _ _ (by omega)) hi1 (hx1 _) hP1 hD1 hS1
        have K1 := K H1 locs (va_up ad n a) arr hI1 (sg_LH_ad (by omega) hj hw hL) (sg_wl_le (Nat.le_succ n) hw) (by simp only [sg_ws, List.all_cons, Bool.and_eq_true]; exact ⟨by simp [sg_wv], sg_ws_le (Nat.le_succ n) hs.2⟩)
        rw [List.map_cons, sg_map_ad (by omega) hj hs.2, sg_vm_ref (n := n + 1) (by omega) (by omega), va_up_self] at K1
        exact K1
      rcases ht with ⟨rfl, hk1⟩ | ⟨rfl, hk1⟩
      · refine va_newa (ty := .int) (a0 := (sg_ag n, .inl (fun _ => 0))) hx hb (hts _ (sg_ck_mem sg_arw.1)) rfl hK hP hD hS hA (fun cA => rfl) (sg_nn hc1) hNt (by show _ * 4 ≤ _; omega) hz.1 hz.2 hd (fun a cA H1 hK1 hP1 hD1 hS1 => ?_)
        have hcA : cA = q.1 := by
          have h1 := va_nm_int (hK1.2 3 (cA, .int) rfl).2
          rw [sg_arrI hK] at h1
          exact (Option.some.inj h1).symm
        subst hcA
        exact hfin a H1 _ (fun ad' => by rw [sg_et1 hk1, va_up_self]) (fun j hi => by rw [sg_is1 (Or.inl hk1)] at hi; cases hi) hP1 hD1 hS1
      · refine va_newa (ty := .boolean) (a0 := (sg_ag n, .inl (fun _ => 0))) hx hb (hts _ (sg_ck_mem sg_arw.2)) rfl hK hP hD hS hA (fun cA => rfl) (sg_nn hc1) hNt (by show _ * 1 ≤ _; omega) hz.1 hz.2 hd (fun a cA H1 hK1 hP1 hD1 hS1 => ?_)
        have hcA : cA = q.2.1 := by
          have h1 := va_nm_boolean (hK1.2 3 (cA, .boolean) rfl).2
          rw [va_nm_boolean (hK.2 1 _ rfl).2] at h1
          exact (Option.some.inj h1).symm
        subst hcA
        exact hfin a H1 _ (fun ad' => by rw [sg_et2 hk1, va_up_self]) (fun j hi => by rw [sg_is1 (Or.inr hk1)] at hi; cases hi) hP1 hD1 hS1
    · cases h
  · cases h
theorem sg_p_anewarray (C : sg_Cx p R s m args meth c M A D q X ra) {k : Nat} (hd : decode (sg_mc M) pc = .ok (.anewarray k, 3)) (h : sg_st X M (.anewarray k) pc ls st z σ = some (.inl (pc', ls', st', z', σ'))) (hz : z'.2.1 ≤ R.cells ∧ z'.2.2.1 ≤ R.slots) (K : sg_OK p l e R s m args below meth c M A D q ra n0 ad0 Q pc' ls' st' z' σ') : sg_OK p l e R s m args below meth c M A D q ra n0 ad0 Q pc ls st z σ := by
  obtain ⟨hx, hb, hml, hr, hown, hts, hnw, hK, hRO, hA, hlk, hmn, hfr, hlo⟩ := C
  simp only [sg_st] at h
  split at h
  · rename_i cnt r
    split at h
    · rename_i ci pl hf
      obtain ⟨hw1, hc⟩ := sg_nl_ok (sg_mo_lt M) hf
      split at h
      · rename_i hc0
        obtain ⟨hlt, rfl, hk3, hc1, hc2, hc3, hall⟩ := hc0
        simp only [sg_nx, Option.some.injEq, Sum.inl.injEq, Prod.mk.injEq] at h
        obtain ⟨rfl, rfl, rfl, rfl, rfl⟩ := h
        obtain ⟨n, kc, ks, lk⟩ := z
        dsimp only at hlt hk3 hc1 hc2 hc3 hall hz K ⊢
        intro H locs ad arr hI hL hw hs
        obtain ⟨hP, hD, hS, hn, hLI, hn0, had⟩ := id hI
        have hNt : cnt.toNatClampNeg = sg_ag n := by have := sg_cl hc1; omega
        simp only [sg_ws, List.all_cons, Bool.and_eq_true] at hs
        refine va_newq (C := RX2) hx hb hown (hts _ hw1) (hnw _ (by decide +kernel)) hK hP hD hS hA (sg_nn hc1) hNt (by omega) hz.1 hz.2 hd (fun a cA H1 hK1 hP1 hD1 hS1 => ?_)
        have hcA : cA = q.2.2 := by
          obtain ⟨_, _, _, _, _, h1⟩ := (hK1.2 3 (cA, .object RX2) rfl).2
          obtain ⟨_, _, _, _, _, h2⟩ := (hK.2 2 _ rfl).2
          rw [h2] at h1
          exact (Option.some.inj h1).symm
        subst hcA
        have hlf : ∀ j, j < sg_ag n → lk n j = false := fun j hj => by simpa using List.all_eq_true.mp hall j (List.mem_range.mpr hj)
        obtain ⟨hI1, hj⟩ := sg_In_new (kc' := kc + 1) (ks' := ks + sg_ag n) (σ' := σ) hI hlt (fun k hk => rfl) (fun j hi => by
          rw [sg_is3 hk3] at hi
          exact hlf j (of_decide_eq_true hi)) (by
            rw [sg_et3 hk3]
            have : sg_ra (va_up ad n a) lk n = fun _ => none := by
              funext j
              unfold sg_ra
              rw [if_neg (fun hh => by rw [hlf j hh.1] at hh; cases hh.2)]
            rw [this]) hP1 hD1 hS1
        have K1 := K H1 locs (va_up ad n a) arr hI1 (sg_LH_ad (by omega) hj hw hL) (sg_wl_le (Nat.le_succ n) hw) (by simp only [sg_ws, List.all_cons, Bool.and_eq_true]; exact ⟨by simp [sg_wv], sg_ws_le (Nat.le_succ n) hs.2⟩)
        rw [List.map_cons, sg_map_ad (by omega) hj hs.2, sg_vm_ref (n := n + 1) (by omega) (by omega), va_up_self] at K1
        exact K1
      · cases h
    · cases h
  · cases h
theorem sg_p_checkcast (C : sg_Cx p R s m args meth c M A D q X ra) {k : Nat} (hd : decode (sg_mc M) pc = .ok (.checkcast k, 3)) (h : sg_st X M (.checkcast k) pc ls st z σ = some (.inl (pc', ls', st', z', σ'))) (K : sg_OK p l e R s m args below meth c M A D q ra n0 ad0 Q pc' ls' st' z' σ') : sg_OK p l e R s m args below meth c M A D q ra n0 ad0 Q pc ls st z σ := by
  obtain ⟨hx, hb, hml, hr, hown, hts, hnw, hK, hRO, hA, hlk, hmn, hfr, hlo⟩ := C
  simp only [sg_st] at h
  split at h
  · rename_i a r
    split at h
    · rename_i hc0
      obtain ⟨hmo, rfl, ha, hk1⟩ := hc0
      simp only [sg_nx, Option.some.injEq, Sum.inl.injEq, Prod.mk.injEq] at h
      obtain ⟨rfl, rfl, rfl, rfl, rfl⟩ := h
      intro H locs ad arr hI hL hw hs
      obtain ⟨hP, hD, hS, hn, hLI, hn0, had⟩ := id hI
      have he := sg_wd_get (q := q) (ad := ad) (lk := z.2.2.2) (σ := σ) ha
      rw [sg_et1 hk1] at he
      have e1 : sg_vm ad ra (.ref a) = .ref (ad a) := sg_vm_ref hn ha
      have K1 := K H locs ad arr hI hL hw hs
      rw [List.map_cons, e1] at K1 ⊢
      exact va_castA hx hb hown (by rw [hmo]; exact hts _ (sg_ck_mem sg_clw.2.2.2.2)) hP a he (sg_arrI hK) hd K1
    · cases h
  · cases h
theorem sg_p_invokestatic (C : sg_Cx p R s m args meth c M A D q X ra) {k : Nat} (hd : decode (sg_mc M) pc = .ok (.invokestatic k, 3)) (h : sg_st X M (.invokestatic k) pc ls st z σ = some (.inl (pc', ls', st', z', σ'))) (K : sg_OK p l e R s m args below meth c M A D q ra n0 ad0 Q pc' ls' st' z' σ') : sg_OK p l e R s m args below meth c M A D q ra n0 ad0 Q pc ls st z σ := by
  obtain ⟨hx, hb, hml, hr, hown, hts, hnw, hK, hRO, hA, hlk, hmn, hfr, hlo⟩ := C
  simp only [sg_st] at h
  split at h
  · rename_i y1 y2 hf
    have hkk := sg_kl_ok hf
    simp only [sg_kck] at hkk
    split at h
    · rename_i cnt dp d sp s0 r
      split at h
      · rename_i hc0
        obtain ⟨hs0, hd0, hk1, hk2, h1, h2, h3, h4, h5, h6, h7, h8⟩ := hc0
        simp only [sg_nx, Option.some.injEq, Sum.inl.injEq, Prod.mk.injEq] at h
        obtain ⟨rfl, rfl, rfl, rfl, rfl⟩ := h
        intro H locs ad arr hI hL hw hs
        obtain ⟨hP, hD, hS, hn, hLI, hn0, had⟩ := id hI
        have he0 := sg_wd_get (q := q) (ad := ad) (lk := z.2.2.2) (σ := σ) hs0
        rw [sg_et1 hk1] at he0
        have he1 := sg_wd_get (q := q) (ad := ad) (lk := z.2.2.2) (σ := σ) hd0
        rw [sg_et1 hk2] at he1
        have e1 : sg_vm ad ra (.ref s0) = .ref (ad s0) := sg_vm_ref hn hs0
        have e2 : sg_vm ad ra (.ref d) = .ref (ad d) := sg_vm_ref hn hd0
        have c1 := sg_cl h1
        have c2 := sg_cl h2
        have c3 := sg_cl h3
        simp only [sg_ws, List.all_cons, Bool.and_eq_true] at hs
        simp only [List.map_cons, e1, e2]
        have hwd : ((r.map (sg_vm ad ra)).map fun v => v.category).sum ≤ 8 := by
          rw [List.map_map]
          have : ((fun v : Value => v.category) ∘ sg_vm ad ra) = fun v => v.category := by funext v; exact sg_vm_cat ad ra v
          rw [this]
          exact h6
        refine va_copyi (ty := .int) hx hb (by rw [hml]; exact hL.1.symm) hown (hts _ (sg_ck_mem hkk)) (hts _ (sg_ck_mem sg_acw.1)) (hts _ (sg_ck_mem sg_acw.2.1)) (hts _ (sg_ck_mem sg_acw.2.2)) hK hP hD hS s0 d 0 0 he0 he1 rfl rfl rfl (sg_nn h1) (sg_nn h2) (sg_nn h3) (by omega) (by omega) (fun i _ => rfl) (Nat.le_trans h7 hfr) (by
          have : nativeFrameWords "java/lang/System" "arraycopy" 5 = 7 := by decide +kernel
          rw [this]
          omega) hd (fun H1 locs1 hP1 hD1 hS1 => ?_)
        have hset := sg_wd_set (q := q) (ad := ad) (lk := z.2.2.2) (lk' := z.2.2.2) (σ := σ) (σ' := va_up σ d (va_cpy (σ s0) (σ d) sp.toNatClampNeg dp.toNatClampNeg cnt.toNatClampNeg)) hd0 (e := .inl (q.1, sg_ag d, .inl (va_cpy (σ s0) (σ d) sp.toNatClampNeg dp.toNatClampNeg cnt.toNatClampNeg))) (by rw [sg_et1 hk2, va_up_self]) (fun i _ hi => sg_et_row (va_up_ne _ _ hi) rfl)
        rw [hset] at hP1 hD1
        exact K H1 locs1 ad arr ⟨hP1, hD1, hS1, hn, hLI, hn0, had⟩ hL hw hs.2.2.2.2.2
      · cases h
    · cases h
  · split at h
    · cases h
    · cases h
  · cases h
theorem sg_p_invokespecial (C : sg_Cx p R s m args meth c M A D q X ra) {k : Nat} (hd : decode (sg_mc M) pc = .ok (.invokespecial k, 3)) (h : sg_st X M (.invokespecial k) pc ls st z σ = some (.inl (pc', ls', st', z', σ'))) (K : sg_OK p l e R s m args below meth c M A D q ra n0 ad0 Q pc' ls' st' z' σ') : sg_OK p l e R s m args below meth c M A D q ra n0 ad0 Q pc ls st z σ := by
  obtain ⟨hx, hb, hml, hr, hown, hts, hnw, hK, hRO, hA, hlk, hmn, hfr, hlo⟩ := C
  simp only [sg_st] at h
  split at h
  · rename_i y1 y2 hf
    have hkk := sg_kl_ok hf
    simp only [sg_kck] at hkk
    split at h
    · rename_i a r
      split at h
      · rename_i hc0
        obtain ⟨h6, h7, h8⟩ := hc0
        simp only [sg_nx, Option.some.injEq, Sum.inl.injEq, Prod.mk.injEq] at h
        obtain ⟨rfl, rfl, rfl, rfl, rfl⟩ := h
        intro H locs ad arr hI hL hw hs
        obtain ⟨hP, hD, hS, hn, hLI, hn0, had⟩ := id hI
        simp only [sg_ws, List.all_cons, Bool.and_eq_true] at hs
        have hwd : ((r.map (sg_vm ad ra)).map fun v => v.category).sum ≤ 8 := by
          rw [List.map_map]
          have : ((fun v : Value => v.category) ∘ sg_vm ad ra) = fun v => v.category := by funext v; exact sg_vm_cat ad ra v
          rw [this]
          exact h6
        exact W.objInit hx hb hown (hts _ (sg_ck_mem hkk)) (hts _ (sg_ck_mem sg_objw.1)) (hts _ (sg_ck_mem sg_objw.2)) (g := F0 m pc arr (List.map (sg_vm ad ra) (.ref a :: r))) rfl (by rw [hml]; exact hL.1) rfl hd (Nat.le_trans h7 hfr) (by show 2 * 0 + _ + 12 ≤ _; omega) (K H locs ad arr hI hL hw hs.2)
      · cases h
    · cases h
  · split at h
    · split at h
      · cases h
      · cases h
    · cases h
  · cases h
theorem sg_p_invokevirtual (C : sg_Cx p R s m args meth c M A D q X ra) {k : Nat} (hd : decode (sg_mc M) pc = .ok (.invokevirtual k, 3)) (h : sg_st X M (.invokevirtual k) pc ls st z σ = some (.inl (pc', ls', st', z', σ'))) (hz : z'.2.1 ≤ R.cells ∧ z'.2.2.1 ≤ R.slots) (K : sg_OK p l e R s m args below meth c M A D q ra n0 ad0 Q pc' ls' st' z' σ') : sg_OK p l e R s m args below meth c M A D q ra n0 ad0 Q pc ls st z σ := by
  obtain ⟨hx, hb, hml, hr, hown, hts, hnw, hK, hRO, hA, hlk, hmn, hfr, hlo⟩ := C
  simp only [sg_st] at h
  split at h
  · rename_i y1 y2 hf
    have hkk := sg_kl_ok hf
    simp only [sg_kck] at hkk
    split at h
    · rename_i a r
      split at h
      · rename_i hc0
        obtain ⟨rfl, hmo, hlt, hk1, hag, h6, h7, h8⟩ := hc0
        simp only [sg_nx, Option.some.injEq, Sum.inl.injEq, Prod.mk.injEq] at h
        obtain ⟨rfl, rfl, rfl, rfl, rfl⟩ := h
        obtain ⟨n, kc, ks, lk⟩ := z
        dsimp only at hlt hk1 hag hz K ⊢
        intro H locs ad arr hI hL hw hs
        obtain ⟨hP, hD, hS, hn, hLI, hn0, had⟩ := id hI
        simp only [sg_ws, List.all_cons, Bool.and_eq_true] at hs
        have hwd : ((r.map (sg_vm ad ra)).map fun v => v.category).sum ≤ 8 := by
          rw [List.map_map]
          have : ((fun v : Value => v.category) ∘ sg_vm ad ra) = fun v => v.category := by funext v; exact sg_vm_cat ad ra v
          rw [this]
          exact h6
        have e1 : sg_vm ad ra (.ref 1002) = .ref (ra 2) := by simp only [sg_vm]; rfl
        rw [List.map_cons, e1]
        obtain ⟨cell, t1, t2, t3, t4, t5, t6, t7⟩ := hRO.1 2 (by decide)
        obtain ⟨c0, t0', f1, f2, f3⟩ := Cond.castable_spec (va_Nw.use (A := args) rfl (hnw (.castable "[I" "java/lang/Cloneable") (by decide +kernel)))
        have hqI := sg_arrI hK
        cases hqI.symm.trans f1
        have hcls : cell.cls = q.1 := by
          obtain ⟨cell2, u1, u2, u3⟩ := hRO.2.2
          cases t1.symm.trans u1
          rw [hqI] at u2
          exact (Option.some.inj u2).symm
        have hsz : cell.slots.size = 6 := t5
        have hcellH : H[ra 2]? = some cell := by rw [hS.2.1 _ (Array.getElem?_eq_some_iff.mp t1).1 t7]; exact t1
        have hcellE : ({ cls := cell.cls, slots := cell.slots } : Cell) = arrV q.1 6 (fun j => .int ((sg_ro X 2).2 j)) := by
          rw [hcls]
          have : cell.slots = Array.ofFn (n := 6) fun j => Value.int ((sg_ro X 2).2 j.val) := by
            apply Array.ext_getElem?
            intro i
            by_cases hi : i < 6
            · rw [t6 i hi, Array.getElem?_ofFn]
              simp [hi]
            · rw [Array.getElem?_eq_none (by omega), Array.getElem?_eq_none (by simpa using hi)]
          rw [this]
          rfl
        intro T hT XX
        have hcellT : T.heap[ra 2]? = some cell := by rw [hT]; exact hcellH
        obtain ⟨-, kA, hkA, comp, hkind⟩ := State.isArrayOf_alike XX.warmed.alike t2
        obtain ⟨-, kS, hkS, compS, hkindS⟩ := t2
        obtain ⟨vm', X', st⟩ := XX.cloneArray hx hown (hts _ (sg_ck_mem hkk)) (hts _ (sg_ck_mem sg_clw.1)) (hts _ (sg_ck_mem sg_clw.2.1)) (hts _ (sg_ck_mem sg_clw.2.2.1)) (hts _ (sg_ck_mem sg_clw.2.2.2.1)) (a := ra 2) (cell := cell) hcellT (fun k h => by rw [h] at t4; cases t4) t3 (by rw [hcls]; exact hqI) f2 (by rw [hcls]; exact f3)
          (fun i v hv => by
            have hi : i < 6 := by rw [← hsz]; exact (Array.getElem?_eq_some_iff.mp hv).1
            have hk' : T.vm.classes[cell.cls]? = some kA := hkA
            have hv2 := t6 i hi
            rw [hv] at hv2
            cases hv2
            simp [State.fitsSlot, State.slotType?, hk', hkind, fits])
          (g := F0 m pc arr (.ref (ra 2) :: r.map (sg_vm ad ra))) rfl (by rw [hml]; exact hL.1) rfl (by rw [hb]; exact hd) (Nat.le_trans h7 hfr) (by show 2 * 0 + _ + 14 ≤ _; omega) hz.1 (by rw [hsz]; exact hz.2) (hloader := Vm.clonesLoader_of_array hkS hkindS)
        rw [hcellE, hsz] at X'
        generalize hH1 : H.push (arrV q.1 6 (fun j => .int ((sg_ro X 2).2 j))) = H1
        have z1 : H1.size = H.size + 1 := by rw [← hH1, Array.size_push]
        have e1 : H1[H.size]? = some (arrV q.1 6 (fun j => .int ((sg_ro X 2).2 j))) := by rw [← hH1, Array.getElem?_push_size]
        have o1 : ∀ q : Nat, q < H.size → H1[q]? = H[q]? := fun q hq => by rw [← hH1, Array.getElem?_push, if_neg (Nat.ne_of_lt hq)]
        have hk : ∀ (k : Nat) (y : Nat × va_E), (sg_wd q ad n lk σ)[k]? = some y → H1[y.1]? = H[y.1]? := fun k y hy => o1 y.1 ((hP k y hy).lt)
        have hP1 : va_P D vwCl (sg_wd q ad n lk σ ++ [(H.size, .inl (q.1, 6, .inl (sg_ro X 2).2))]) H1 := (hP.kept hk).app (fun k y hy => by
          have hz : k < 1 := (List.getElem?_eq_some_iff.mp hy).1
          rw [show k = 0 by omega] at hy
          cases hy
          exact e1)
        have hD1 : va_D A (sg_wd q ad n lk σ ++ [(H.size, .inl (q.1, 6, .inl (sg_ro X 2).2))]) := hD.push hP rfl (hA _ hS.1)
        have hS1 : va_S A s.heap H1 locs := ⟨Nat.le_trans hS.1 (by omega), fun y h1 h2 => (o1 y (Nat.lt_of_lt_of_le h1 hS.1)).trans (hS.2.1 y h1 h2), hS.2.2⟩
        obtain ⟨hI1, hj⟩ := sg_In_new (kc' := kc + 1) (ks' := ks + 6) (σ' := va_up σ n (sg_ro X 2).2) hI hlt (fun k hk => va_up_ne _ _ (by omega)) (fun j hi => by rw [sg_is1 (Or.inl hk1)] at hi; cases hi) (by rw [sg_et1 hk1, va_up_self, hag]) hP1 hD1 hS1
        have K1 := K H1 locs (va_up ad n H.size) arr hI1 (sg_LH_ad (by omega) hj hw hL) (sg_wl_le (Nat.le_succ n) hw) (by simp only [sg_ws, List.all_cons, Bool.and_eq_true]; exact ⟨by simp [sg_wv], sg_ws_le (Nat.le_succ n) hs.2⟩)
        rw [List.map_cons, sg_map_ad (by omega) hj hs.2, sg_vm_ref (n := n + 1) (by omega) (by omega), va_up_self] at K1
        obtain ⟨t, b1, b2⟩ := K1 ((T.setVm vm').pushCell (arrV q.1 6 (fun j => .int ((sg_ro X 2).2 j)))) (by rw [← hH1, ← hT]; rfl) X'
        refine ⟨t, st t ?_, b2⟩
        rw [hcellE, hT]
        exact b1
      · cases h
    · cases h
  · split at h
    · split at h
      · split at h
        · cases h
        · cases h
      · cases h
    · cases h
  · cases h
end SGN
