/-! the law, out of a run of the plain machine -/
def sg_Pure : Prop := ∀ (L : Nat) (xs : Nat → Int32), L ≤ 3072 → ∃ (f : Nat) (z' : sg_Z) (σ' : sg_S), sg_ex (L, xs) f m_law 0 (sg_en [.ref 1003] 4) [] (0, 0, 0, fun _ _ => false) (fun _ _ => 0) = some (some (.int 1), z', σ') ∧ z'.2.1 ≤ 600000 ∧ z'.2.2.1 ≤ 7302250
/-- the fact that the Statement doesn't give: REPORT.md, S1 -/
def sg_Gap (s : State) (args : Array Value) : Prop := ∀ (t : Nat) (cell : Cell), (Term.static "WarmFloor" "FIRST_SETTING" "[I").eval args s none [] s = some (.ref t) → s.heap[t]? = some cell → s.vm.findClass "[I" = some cell.cls
theorem sg_len6 {args : Array Value} {s : State} {tm : Term} {t : Nat} {cell : Cell} (ht : tm.eval args s none [] s = some (.ref t)) (hc : s.heap[t]? = some cell) (hl : (Cond.eq (.length tm) (.int 6)).before args s = true) : cell.slots.size = 6 ∧ cell.vm.isStatics = false ∧ cell.vm ≠ .unknown := by
  have hv := va_eqt hl
  obtain ⟨t', cell', h1, h2, h3⟩ := Term.length_spec hv
  cases ht.symm.trans h1
  obtain ⟨g1, g2, g3, -⟩ := State.arrayAt?_spec h2
  cases hc.symm.trans g1
  refine ⟨?_, g3, g2⟩
  simp only [Term.eval, ht, h2, Option.bind_eq_bind, Option.bind_some] at hv
  by_cases hlt : cell.slots.size < 2147483648
  · simp only [hlt, if_true] at hv
    have e : Int32.ofNat cell.slots.size = Int32.ofNat 6 := by
      have := Value.int.inj (Option.some.inj hv)
      exact this
    have e2 := congrArg Int32.toInt e
    rw [nI_toInt (n := cell.slots.size) (by omega) |> (fun h => show (Int32.ofNat cell.slots.size).toInt = _ from h), nI_toInt (n := 6) (by omega) |> (fun h => show (Int32.ofNat 6).toInt = _ from h)] at e2
    omega
  · simp [hlt] at hv
theorem sg_stat {args : Array Value} {s : State} {nm : String} {f : Nat → Int32} {A : Nat → Prop} (hls : (Cond.laysStatic "WarmFloor" nm "[I").before args s = true) (hini : (Cond.initialized "WarmFloor").before args s = true)
    (harr : (Cond.arrayOf (.static "WarmFloor" nm "[I") .int).before args s = true) (hl : (Cond.eq (.length (.static "WarmFloor" nm "[I")) (.int 6)).before args s = true) (hel : ∀ j, j < 6 → (Cond.eq (.elem (.static "WarmFloor" nm "[I") (.int (Int32.ofNat j))) (.int (f j))).before args s = true) (hA : ∀ a : Nat, a < s.heap.size → ¬ A a) :
    ∃ t : Nat, (Term.static "WarmFloor" nm "[I").eval args s none [] s = some (.ref t) ∧ sg_T t 6 f A s s.heap ∧ va_Z "WarmFloor" nm "[I" (.ref t) A s s.heap := by
  obtain ⟨t, h1, cell, g1, g2, g3, g4, g5, g6, g7⟩ := va_Tof (N := 6) (ty := .int) (f := fun j => .int (f j)) (A := A) (by decide) harr (va_eqt hl) (fun j hj => va_eqt (hel j hj)) hA
  obtain ⟨e1, e2, e3⟩ := sg_len6 h1 g1 hl
  exact ⟨t, h1, ⟨cell, g1, g2, g3, e2, e1, g6, g7⟩, va_Zref hls hini h1 hA⟩
theorem sg_statics {b : Nat} {s : State} {A : Nat → Prop} (hts : ∀ w ∈ lw_tbl, w.before #[Value.ref b] s = true) (hgv : (Jvm.Cond.and given_1 narrow_1).before #[Value.ref b] s = true) (hA : ∀ a : Nat, a < s.heap.size → ¬ A a) {X : sg_X} :
    ∃ ts : Nat → Nat, (∀ i, i < 3 → sg_T (ts i) (sg_ro X i).1 (sg_ro X i).2 A s s.heap ∧ va_Z RX9 (sg_Rn i) "[I" (.ref (ts i)) A s s.heap) ∧ (Term.static "WarmFloor" "FIRST_SETTING" "[I").eval #[Value.ref b] s none [] s = some (.ref (ts 2)) := by
  have hs := flat_of_before _ hgv
  have six : ∀ (P : Nat → Prop), P 0 → P 1 → P 2 → P 3 → P 4 → P 5 → ∀ j, j < 6 → P j := by
    intro P h0 h1 h2 h3 h4 h5 j hj
    match j, hj with
    | 0, _ => exact h0
    | 1, _ => exact h1
    | 2, _ => exact h2
    | 3, _ => exact h3
    | 4, _ => exact h4
    | 5, _ => exact h5
    | j + 6, h => omega
  obtain ⟨t0, a1, a2, a3⟩ := sg_stat (nm := "LEAST_SETTING") (f := (sg_ro (0, fun _ => 0) 0).2) (A := A) (hts _ (by decide +kernel)) (hts _ (by decide +kernel)) (hs _ (by decide +kernel)) (hs _ (by decide +kernel)) (six _ (hs _ (by decide +kernel)) (hs _ (by decide +kernel)) (hs _ (by decide +kernel)) (hs _ (by decide +kernel)) (hs _ (by decide +kernel)) (hs _ (by decide +kernel))) hA
  obtain ⟨t1, b1, b2, b3⟩ := sg_stat (nm := "MOST_SETTING") (f := (sg_ro (0, fun _ => 0) 1).2) (A := A) (hts _ (by decide +kernel)) (hts _ (by decide +kernel)) (hs _ (by decide +kernel)) (hs _ (by decide +kernel)) (six _ (hs _ (by decide +kernel)) (hs _ (by decide +kernel)) (hs _ (by decide +kernel)) (hs _ (by decide +kernel)) (hs _ (by decide +kernel)) (hs _ (by decide +kernel))) hA
  obtain ⟨t2, c1, c2, c3⟩ := sg_stat (nm := "FIRST_SETTING") (f := (sg_ro (0, fun _ => 0) 2).2) (A := A) (hts _ (by decide +kernel)) (hts _ (by decide +kernel)) (hs _ (by decide +kernel)) (hs _ (by decide +kernel)) (six _ (hs _ (by decide +kernel)) (hs _ (by decide +kernel)) (hs _ (by decide +kernel)) (hs _ (by decide +kernel)) (hs _ (by decide +kernel)) (hs _ (by decide +kernel))) hA
  refine ⟨fun i => match i with | 0 => t0 | 1 => t1 | _ => t2, fun i hi => ?_, c1⟩
  match i, hi with
  | 0, _ => exact ⟨a2, a3⟩
  | 1, _ => exact ⟨b2, b3⟩
  | 2, _ => exact ⟨c2, c3⟩
  | i + 3, h => omega
theorem sg_kinds {b : Nat} {s : State} (hts : ∀ w ∈ sg_gw, w.before #[Value.ref b] s = true) (hAO : va_AO RX2 s) : ∃ (D : va_G) (q : sg_Ci), va_K D vwCl [(q.1, .int), (q.2.1, .boolean), (q.2.2, .object RX2)] s := by
  have hk : ∀ c, ∃ x : ClassId × (Nat → Nat), c < 11 → u_Kn s (sg_cT c).1 (sg_cT c).2.1 (sg_cT c).2.2 x.1 x.2 := by
    intro c
    by_cases hc : c < 11
    · obtain ⟨cC, iS, h⟩ := u_known hts (sg_uws hc) (hts _ (sg_ck_mem (sg_iw c hc).1))
      exact ⟨(cC, iS), fun _ => h⟩
    · exact ⟨(0, fun _ => 0), fun h => absurd h hc⟩
  obtain ⟨cI, kI, compI, i1, i2, i3⟩ := Cond.arrayClass_spec (hts _ (sg_ck_mem sg_arw.1))
  obtain ⟨cZ, kZ, compZ, j1, j2, j3⟩ := Cond.arrayClass_spec (hts _ (sg_ck_mem sg_arw.2))
  obtain ⟨comp, cH, kH, h1, h2, h3, h4, h5⟩ := Cond.arrayOver_spec hAO
  refine ⟨(fun c => (Classical.choose (hk c)).1, fun c => (Classical.choose (hk c)).2), (cI, cZ, cH), ?_, ?_⟩
  · intro c r hr
    have hc : c < 11 := (List.getElem?_eq_some_iff.mp hr).1
    rw [sg_vw hc] at hr
    cases hr
    exact Classical.choose_spec (hk c) hc
  · intro k r hr
    match k, hr with
    | 0, hr => cases hr; exact ⟨fun n z => ⟨fun k h => (by cases h), kI, i2, compI, i3⟩, i1⟩
    | 1, hr => cases hr; exact ⟨fun n z => ⟨fun k h => (by cases h), kZ, j2, compZ, j3⟩, j1⟩
    | 2, hr => cases hr; exact ⟨fun n z => ⟨fun k h => (by cases h), kH, h3, comp, h4⟩, kH, comp, h3, h4, h1, h5⟩
    | k + 3, hr => simp at hr
set_option maxHeartbeats 4000000 in
/-- the law's body, out of sg_Pure and the one fact that is wanting -/
theorem whole_start_open (hp : sg_Pure) {p : Program} {e : Env} {s : State} {m : MethodId} {below : List Frame} {meth : Method} {c : Code} (l : Launch) {b L : Nat} {xs : Nat → Int32} (hL : L ≤ 3072) (C0 : lw_At p s m meth c b L xs) (hmn : meth.name = "law") (gap : sg_Gap s #[Value.ref b]) : W p l e room_1 s m #[Value.ref b] below meth c s.heap [] 0 0 (lw_Z below #[Value.ref b] s) (entryFrame m ([Value.ref b] : List Value).toArray 4) := by
  obtain ⟨hx, hb, hr, hml, hown, hts, hX, hbl, hlocks, hgv⟩ := id C0
  have hgw : ∀ w ∈ sg_gw, w.before #[Value.ref b] s = true := fun w hw => hts w (List.mem_filter.mp hw).1
  have hnw : ∀ w ∈ sg_nw, va_Nw w s := sg_nw_of (A := #[Value.ref b]) (fun w hw => hts w (by
    rw [sg_nw_tbl] at hw
    obtain ⟨i, -, hi⟩ := List.mem_filterMap.mp hw
    exact List.mem_of_getElem? hi))
  have hA : ∀ q : Nat, s.heap.size ≤ q → (fun q : Nat => s.heap.size ≤ q) q := fun _ h => h
  have hA' : ∀ a : Nat, a < s.heap.size → ¬ (fun q : Nat => s.heap.size ≤ q) a := fun a h => Nat.not_le.mpr h
  obtain ⟨D, q, hK⟩ := sg_kinds hgw (hnw _ (by decide +kernel))
  obtain ⟨ts, ht1, ht2⟩ := sg_statics (X := (L, xs)) hts hgv hA'
  obtain ⟨f, z', σ', h1, h2, h3⟩ := hp L xs hL
  have hRO : sg_RO (L, xs) (fun i => if i < 3 then ts i else b) (fun q : Nat => s.heap.size ≤ q) s s.heap := by
    refine ⟨fun i hi => ?_, fun i hi => ?_, ?_⟩
    · dsimp only
      by_cases h : i < 3
      · rw [if_pos h]
        exact (ht1 i h).1
      · rw [if_neg h]
        have : i = 3 := by omega
        subst this
        obtain ⟨scr, g1, g2, g3, g4, g5⟩ := hX
        refine ⟨scr, g1, g2, g3, ?_, g4, g5, Nat.not_le.mpr hbl⟩
        cases hv : scr.vm with
        | statics k => exact absurd hv (g2.1 k)
        | _ => rfl
    · dsimp only
      rw [if_pos hi]
      exact (ht1 i hi).2
    · show sg_Tc (ts 2) _ s s.heap
      obtain ⟨cell, g1, -⟩ := (ht1 2 (by decide)).1
      exact ⟨cell, g1, gap _ _ ht2 g1, hA' _ (Array.getElem?_eq_some_iff.mp g1).1⟩
  have C : sg_Cx p room_1 s m #[Value.ref b] meth c m_law (fun q : Nat => s.heap.size ≤ q) D q (L, xs) (fun i => if i < 3 then ts i else b) :=
    ⟨hx, hb, hml, hr, hown, hgw, hnw, hK, hRO, hA, hlocks, hmn, by decide +kernel, by decide +kernel⟩
  have hl := lv_entry ([.ref b]) (n := 4) (Nat.le_of_ble_eq_true rfl)
  rw [lg_entry_eq]
  generalize (lg_sl ([.ref b]) ++ List.replicate (4 - (lg_sl ([.ref b])).length) Slot.unset).toArray = arr at hl ⊢
  have hLH : sg_LH (fun _ => 0) (fun i => if i < 3 then ts i else b) arr (sg_ml m_law) (sg_en [.ref 1003] 4) := by
    refine ⟨hl.1, hl.2.1, fun i v hi => ?_⟩
    match i, hi with
    | 0, hi =>
      cases hi
      exact hl.2.2 (0, .ref b) List.mem_cons_self
    | 1, hi => cases hi
    | 2, hi => cases hi
    | 3, hi => cases hi
    | i + 4, hi => simp [sg_en, sg_e1] at hi
  refine sg_main (L, xs) f m_law 0 _ [] (0, 0, 0, fun _ _ => false) (fun _ _ => 0) _ z' σ' h1 p l e room_1 s m _ below meth c (fun q : Nat => s.heap.size ≤ q) D q (fun i => if i < 3 then ts i else b) 0 (fun _ => 0) _ C h2 h3 ?_ s.heap [] (fun _ => 0) arr ⟨fun k x hk => by simp [sg_wd] at hk, ⟨fun i j a b h => by simp [sg_wd] at h, fun k x h => by simp [sg_wd] at h⟩, va_S.rf, Nat.zero_le _, fun k j hk => by omega, Nat.le_refl _, fun _ _ => rfl⟩ hLH rfl rfl
  intro H locs ad arr' pcr i nn lsr str hI hd hln hst hws
  obtain ⟨hP9, hD9, hS9, hn9, hL9, -, had9⟩ := hI
  rcases sg_ret_inv hst with ⟨v, rfl, rfl, hv, -⟩ | ⟨v, rfl, rfl, hv, -⟩ | ⟨a, nm, rfl, rfl, hv, -⟩ | ⟨rfl, rfl, hv, -⟩
  · cases hv
    simp only [sg_ln, beq_iff_eq] at hln
    subst hln
    refine va_forget (fun q hq => hS9.2.2 q hq) ?_
    exact W.widen h2 h3 (lw_ret hx hb hr hlocks hd)
  · cases hv
  · cases hv
  · cases hv
