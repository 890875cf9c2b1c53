theorem sg_wds_vm (ad ra : Nat → Nat) (r : List Value) : ((r.map (sg_vm ad ra)).map fun v => v.category).sum = sg_wds r := by
  rw [List.map_map]
  have : ((fun v : Value => v.category) ∘ sg_vm ad ra) = fun v => v.category := by funext v; exact sg_vm_cat ad ra v
  rw [this]
set_option maxHeartbeats 4000000 in
theorem sg_call {X : sg_X} {f : Nat} (IH : sg_Snd X f) {p : Program} {l : Launch} {e : Env} {R : Room} {s : State} {m : MethodId} {args : Array Value} {below : List Frame} {meth : Method} {c : Code} {M : Nat} {A : Nat → Prop} {D : va_G} {q : sg_Ci} {ra : Nat → Nat} {n0 : Nat} {ad0 : Nat → Nat} {Q : State → Prop}
    {pc pc' y nn : Nat} {ls ls' : sg_L} {st as st' : List Value} {n kc ks : Nat} {lk : Nat → Nat → Bool} {σ σ1 : sg_S} {keep : Bool} {i : Instr} {r : Option Value} {z1 : sg_Z}
    (C : sg_Cx p R s m args meth c M A D q X ra) (hd : decode (sg_mc M) pc = .ok (i, nn)) (hn : sg_ln i nn = true) (h : sg_st X M i pc ls st (n, kc, ks, lk) σ = some (.inr (.inl (y, as, keep, pc', ls', st'))))
    (h1 : sg_ex X f y 0 (sg_en as (sg_ml y)) [] (n, 0, 0, lk) σ = some (r, z1, σ1)) (hr : r.all (sg_wv n) = true) (hnz : n ≤ z1.1) (hlic : (keep || sg_lic n z1.2.2.2) = true) (hfit : (as.flatMap sg_e1).length ≤ sg_ml y)
    (hc1 : kc + z1.2.1 ≤ R.cells) (hc2 : ks + z1.2.2.1 ≤ R.slots)
    (K : sg_OK p l e R s m args below meth c M A D q ra n0 ad0 Q pc' ls' (r.toList ++ st') (cond keep z1.1 n, kc + z1.2.1, ks + z1.2.2.1, z1.2.2.2) σ1) : sg_OK p l e R s m args below meth c M A D q ra n0 ad0 Q pc ls st (n, kc, ks, lk) σ := by
  obtain ⟨hx, hb, hml, hret, hown, hts, hnw, hK, hRO, hA, hlk, hmn, hfr, hlo⟩ := id C
  obtain ⟨rfl, rfl, ⟨hm1, hm2, hy⟩, hwd, hst, hlen, hkind⟩ := sg_call_inv h
  have hmw := sg_mw y hy
  simp only [sg_mck, Bool.and_eq_true, decide_eq_true_eq] at hmw
  obtain ⟨⟨⟨⟨⟨⟨hini, hsi⟩, hcl⟩, hmh⟩, hdesc⟩, hpf⟩, ho⟩ := hmw
  intro H locs ad arr hI hL hw hs
  obtain ⟨hP, hD, hS, hn1, hLI, hn0, had⟩ := id hI
  dsimp only at hP hD hn1 hLI hn0
  have hsa : sg_ws n as ∧ sg_ws n st' := by
    rw [hst, sg_ws, List.all_append, Bool.and_eq_true, List.all_reverse] at hs
    exact hs
  have hfree : ∀ q', va_A (sg_wd q ad n lk σ) H.size q' → A q' := by
    intro q' h
    rcases h with ⟨k, x, h⟩ | h
    · exact hD.2 k _ h
    · exact hA q' (Nat.le_trans hS.1 h)
  have hM := sg_met IH hy h1 hsa.1 hn1 hLI hfit l D q ra ad H.size
  have hRO' : ∀ U : State, U.heap = H → s.WarmedH U.vm → sg_Pc X ra q D ad n lk σ as H.size (as.map (sg_vm ad ra)).toArray U := by
    intro U hU hW
    refine ⟨rfl, by rw [hU], by rw [hU]; exact hP, va_K.moved hW.alike hK, hD.weaken (fun _ _ _ _ => trivial), ?_, sg_nw_warm hW hnw⟩
    rw [hU]
    exact ((hRO.moved hW.alike).kept (fun a h1 h2 => hS.2.1 a h1 h2)).narrow hfree
  have hS5 : CallFix p m c (sg_mc M) (sg_ml M) s args sg_gw (sg_cn (sg_mo M)) := ⟨hx, hb, hml, hown, hts⟩
  have hroom : sg_fr y + 1 ≤ R.frames ∧ 8 + (sg_ml y + 11) + sg_lo y ≤ R.locals := ⟨Nat.le_trans hm1 hfr, Nat.le_trans hm2 hlo⟩
  have hstk : st.map (sg_vm ad ra) = (as.map (sg_vm ad ra)).reverse ++ st'.map (sg_vm ad ra) := by rw [hst, List.map_append, List.map_reverse]
  have hmrm : 2 * (F0 m pc arr (st.map (sg_vm ad ra))).monitorRoom + ((st'.map (sg_vm ad ra)).map fun v => v.category).sum ≤ 8 := by
    rw [sg_wds_vm]
    show 2 * 0 + _ ≤ 8
    omega
  have hkk : ∀ (ad' : Nat → Nat) (H1 : Heap) (locs1 : List Loc), (∀ k, k < n → ad' k = ad k) → va_P D vwCl (sg_wd q ad' z1.1 z1.2.2.2 σ1) H1 → va_D A (sg_wd q ad' z1.1 z1.2.2.2 σ1) → sg_LI z1.1 z1.2.2.2 → z1.1 ≤ 1000 → va_S A s.heap H1 locs1 → W p l e R s m args below meth c H1 locs1 (kc + z1.2.1) (ks + z1.2.2.1) Q (F0 m (pc + 3) arr ((r.map (sg_vm ad' ra)).toList ++ st'.map (sg_vm ad ra))) := by
    intro ad' H1 locs1 hj hP1 hD1 hLI1 hz1 hS1
    have hI1 : sg_In s A D q n0 ad0 ad' (cond keep z1.1 n, kc + z1.2.1, ks + z1.2.2.1, z1.2.2.2) σ1 H1 locs1 := by
      cases keep with
      | true => exact ⟨hP1, hD1, hS1, hz1, hLI1, Nat.le_trans hn0 hnz, fun k hk => by rw [hj k (by omega)]; exact had k hk⟩
      | false =>
        refine ⟨fun k x hk => hP1 k x (sg_wd_less hnz hk), ⟨fun i j a b ha hb => hD1.1 i j a b (sg_wd_less hnz ha) (sg_wd_less hnz hb), fun k x hk => hD1.2 k x (sg_wd_less hnz hk)⟩, hS1, hn1, sg_lic_LI ?_, hn0, fun k hk => by rw [hj k (by omega)]; exact had k hk⟩
        simpa using hlic
    have hle : n ≤ (cond keep z1.1 n) := by cases keep <;> simp <;> omega
    have K1 := K H1 locs1 ad' arr hI1 (sg_LH_ad hn1 hj hw hL) (sg_wl_le hle hw) (by
      rw [sg_ws, List.all_append, Bool.and_eq_true]
      refine ⟨?_, sg_ws_le hle hsa.2⟩
      cases r with
      | none => rfl
      | some v =>
        simp only [Option.toList_some, List.all_cons, List.all_nil, Bool.and_true]
        exact sg_wv_le hle (by simpa using hr))
    rw [List.map_append, sg_map_ad hn1 hj hsa.2] at K1
    cases r <;> exact K1
  have hd3 : decode (sg_mc M) pc = .ok (i, 3) := by
    rcases hkind with ⟨k, kd, pl, rfl, _⟩ | ⟨k, pl, a, as', rfl, _⟩ | ⟨k, kd, pl, a, as', rfl, _⟩ <;>
      (simp only [sg_ln, beq_iff_eq] at hn; subst hn; exact hd)
  rcases hkind with ⟨k, kd, pl, rfl, hf, hkd, rfl⟩ | ⟨k, pl, a, as', rfl, hf, rfl, ha, hk0, hag, rfl⟩ | ⟨k, kd, pl, a, as', rfl, hf, hkd, rfl, rfl⟩
  · have hkc := sg_kl_ok hf
    rcases hkd with rfl | rfl
    · simp only [sg_kck, Bool.and_eq_true, decide_eq_true_eq] at hkc
      obtain ⟨⟨hlink, hsb⟩, -⟩ := hkc
      rw [hsb] at hsi hdesc
      have hn' : (parseMethodDescriptor (sg_my y).desc).map (fun d => d.parameters.length) = some (as.map (sg_vm ad ra)).length := by rw [List.length_map, hlen]; simpa using hdesc
      have cb := callB_of (mc := z1.2.1) (ms := z1.2.2.1) (rm := { frames := sg_fr y, cells := z1.2.1, slots := z1.2.2.1, locals := sg_lo y }) _ hts (sg_wo_in hy) rfl rfl rfl (hts _ (sg_ck_mem hini)) (hts _ (sg_ck_mem hlink)) ⟨hmh.1, hmh.2, hn'⟩ hroom
      exact sg_goes (va_runS (As := as.map (sg_vm ad ra)) hS5 hM ⟨cb, hts _ (sg_ck_mem hsi)⟩ ⟨sg_Pc_blind, hRO'⟩ rfl rfl hL.1 hstk hmrm hd3 ⟨hc1, hc2⟩) hS hfree hkk
    · simp only [sg_kck, Bool.and_eq_true, decide_eq_true_eq] at hkc
      obtain ⟨⟨hlink, hsb⟩, -⟩ := hkc
      rw [hsb] at hsi hdesc
      have hn' : (parseMethodDescriptor (sg_my y).desc).map (fun d => d.parameters.length) = some (as.map (sg_vm ad ra)).length := by rw [List.length_map, hlen]; simpa using hdesc
      have cb := va_cnB (mc := z1.2.1) (ms := z1.2.2.1) (rm := { frames := sg_fr y, cells := z1.2.1, slots := z1.2.2.1, locals := sg_lo y }) _ hts (sg_wo_in hy) rfl rfl rfl (hnw _ hlink) (hts _ (sg_ck_mem hini)) ⟨hmh.1, hmh.2, hn'⟩ hroom
      exact sg_goes (va_runSN (As := as.map (sg_vm ad ra)) hS5 hM ⟨cb, hts _ (sg_ck_mem hsi), trivial⟩ ⟨sg_Pc_blind, hRO'⟩ rfl rfl hL.1 hstk hmrm hd3 ⟨hc1, hc2⟩) hS hfree hkk
  · have hkc := sg_kl_ok hf
    simp only [sg_kck, Bool.and_eq_true, decide_eq_true_eq, Bool.not_eq_true'] at hkc
    obtain ⟨⟨⟨⟨hlink, hsb⟩, hsel⟩, -⟩, hmo⟩ := hkc
    rw [hsb] at hsi hdesc
    have hn' : (parseMethodDescriptor (sg_my y).desc).map (fun d => d.parameters.length) = some (as'.map (sg_vm ad ra)).length := by
      rw [List.length_map]
      rw [← hlen, List.length_cons] at hdesc
      cases hp : parseMethodDescriptor (sg_my y).desc with
      | none => rw [hp] at hdesc; cases hdesc
      | some d => rw [hp] at hdesc; simpa using hdesc
    have cb := callB_of (mc := z1.2.1) (ms := z1.2.2.1) (rm := { frames := sg_fr y, cells := z1.2.1, slots := z1.2.2.1, locals := sg_lo y }) _ hts (sg_wo_in hy) rfl rfl rfl (hts _ (sg_ck_mem hini)) (hts _ (sg_ck_mem hlink)) ⟨hmh.1, hmh.2, hn'⟩ hroom
    have e1 : sg_vm ad ra (.ref a) = .ref (ad a) := sg_vm_ref hn1 ha
    rw [List.map_cons, e1] at hRO'
    rw [List.map_cons, e1, List.reverse_cons, List.append_assoc] at hstk
    have he := sg_wd_get (q := q) (ad := ad) (lk := lk) (σ := σ) ha
    rw [sg_et0 hk0, hag] at he
    have hrecv := va_recv hK hP (sg_vw hmo) he
    have hcn : (sg_cT (sg_mo y)).1 = (sg_my y).cls := by
      rw [hcl]
      exact (show ∀ c, c < 11 → (sg_cT c).1 = sg_cn c by decide +kernel) _ hmo
    rw [hcn] at hrecv
    exact sg_goes (va_runV (As := as'.map (sg_vm ad ra)) hS5 hM ⟨cb, hts _ (sg_ck_mem hsi), hts _ (sg_ck_mem hsel)⟩ ⟨sg_Pc_blind, hrecv, hRO'⟩ rfl rfl hL.1 hstk hmrm hd3 ⟨hc1, hc2⟩) hS hfree hkk
  · have hkc := sg_kl_ok hf
    have hra : n ≤ 1000 ∧ ∃ b, sg_vm ad ra (.ref a) = .ref b := ⟨hn1, _, rfl⟩
    obtain ⟨-, b, e1⟩ := hra
    rw [List.map_cons, e1] at hRO'
    rw [List.map_cons, e1, List.reverse_cons, List.append_assoc] at hstk
    rcases hkd with rfl | rfl
    · simp only [sg_kck, Bool.and_eq_true, decide_eq_true_eq, Bool.not_eq_true'] at hkc
      obtain ⟨⟨⟨⟨hlink, hsb⟩, hnm⟩, hmr⟩, -⟩ := hkc
      rw [hsb] at hsi hdesc
      have hn' : (parseMethodDescriptor (sg_my y).desc).map (fun d => d.parameters.length) = some (as'.map (sg_vm ad ra)).length := by
        rw [List.length_map]
        rw [← hlen, List.length_cons] at hdesc
        cases hp : parseMethodDescriptor (sg_my y).desc with
        | none => rw [hp] at hdesc; cases hdesc
        | some d => rw [hp] at hdesc; simpa using hdesc
      have hw0 : sg_wo y = Cond.code (sg_my y) (sg_mc y) (sg_ml y) none :: sg_gw := by rw [← hmr]; rfl
      have cb := callB_of (mc := z1.2.1) (ms := z1.2.2.1) (rm := { frames := sg_fr y, cells := z1.2.1, slots := z1.2.2.1, locals := sg_lo y }) _ hts (sg_wo_in hy) hw0 rfl rfl (hts _ (sg_ck_mem hini)) (hts _ (sg_ck_mem hlink)) ⟨hmh.1, hmh.2, hn'⟩ hroom
      exact sg_goes (va_runI (As := as'.map (sg_vm ad ra)) hS5 hM ⟨cb, hnm, hts _ (sg_ck_mem hsi)⟩ ⟨sg_Pc_blind, hRO'⟩ rfl rfl hL.1 hstk hmrm hd3 ⟨hc1, hc2⟩) hS hfree hkk
    · simp only [sg_kck, Bool.and_eq_true, decide_eq_true_eq, Bool.not_eq_true'] at hkc
      obtain ⟨⟨⟨⟨hlink, hsb⟩, hnm⟩, hmr⟩, -⟩ := hkc
      rw [hsb] at hsi hdesc
      have hn' : (parseMethodDescriptor (sg_my y).desc).map (fun d => d.parameters.length) = some (as'.map (sg_vm ad ra)).length := by
        rw [List.length_map]
        rw [← hlen, List.length_cons] at hdesc
        cases hp : parseMethodDescriptor (sg_my y).desc with
        | none => rw [hp] at hdesc; cases hdesc
        | some d => rw [hp] at hdesc; simpa using hdesc
      have hw0 : sg_wo y = Cond.code (sg_my y) (sg_mc y) (sg_ml y) none :: sg_gw := by rw [← hmr]; rfl
      have cb := va_cnB (mc := z1.2.1) (ms := z1.2.2.1) (rm := { frames := sg_fr y, cells := z1.2.1, slots := z1.2.2.1, locals := sg_lo y }) _ hts (sg_wo_in hy) hw0 rfl rfl (hnw _ hlink) (hts _ (sg_ck_mem hini)) ⟨hmh.1, hmh.2, hn'⟩ hroom
      exact sg_goes (va_runIN (As := as'.map (sg_vm ad ra)) hS5 hM ⟨cb, hnm, hts _ (sg_ck_mem hsi)⟩ ⟨sg_Pc_blind, hRO'⟩ rfl rfl hL.1 hstk hmrm hd3 ⟨hc1, hc2⟩) hS hfree hkk
set_option maxHeartbeats 4000000 in
/-- THE PLAIN MACHINE IS THE MACHINE -/
theorem sg_main (X : sg_X) : ∀ f, sg_Snd X f
  | 0 => by
    intro M pc ls st z σ r z' σ' h
    cases h
  | f + 1 => by
    have IH := sg_main X f
    intro M pc ls st z σ r z' σ' h p l e R s m args below meth c A D q ra n0 ad0 Q C hc hs hend
    rw [sg_ex] at h
    split at h
    · rename_i i n hd
      split at h
      · rename_i hln
        split at h
        · rename_i pc1 ls1 st1 z1 σ1 h1
          have b := sg_mono f h
          exact sg_step C hd hln h1 ⟨by omega, by omega⟩ (IH M pc1 ls1 st1 z1 σ1 r z' σ' h p l e R s m args below meth c A D q ra n0 ad0 Q C hc hs hend)
        · rename_i y as keep pc1 ls1 st1 h1
          split at h
          · rename_i r1 z1 σ1 h2
            split at h
            · rename_i hcd
              obtain ⟨g1, g2, g3, g4⟩ := hcd
              have b := sg_mono f h
              dsimp only at b
              obtain ⟨nz, kc, ks, lk⟩ := z
              exact sg_call IH C hd hln h1 h2 g1 g2 g3 g4 (by dsimp only at b; omega) (by dsimp only at b; omega) (IH M pc1 ls1 _ _ σ1 r z' σ' h p l e R s m args below meth c A D q ra n0 ad0 Q C hc hs hend)
            · cases h
          · cases h
        · rename_i r1 h1
          simp only [Option.some.injEq, Prod.mk.injEq] at h
          obtain ⟨rfl, rfl, rfl⟩ := h
          intro H locs ad arr hI hL hw hst
          exact hend H locs ad arr pc i n ls st hI hd hln h1 hst
        · cases h
      · cases h
    · cases h
