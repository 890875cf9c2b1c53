section
/-! THE COUNTER-START (REPORT.md, S1): the witness's own start, with one more class ('Odd', of kind array of int, with a 'clone' of its own that has no instruction) at the tables' end, under the array of FIRST_SETTING.
Every premise of the Statement holds there, and the machine stops in that 'clone': Claimed_1_1 is false as it is printed. -/
def ct_odd : Class := { start1.cArr "Odd" 18 .int with methods := #[{ name := "clone", desc := "()Ljava/lang/Object;", sig := { parameters := [], returnType := some (.object "java/lang/Object") }, accessFlags := 0x1, code := some { maxStack := 8, maxLocals := 1, code := ⟨#[]⟩, exceptionTable := #[], attributes := #[] } }] }
def ct_vm : Vm := { start1.about.vm with classes := start1.about.vm.classes.push ct_odd }
def ct_s : State := { start1.about with vm := ct_vm, heap := start1.about.heap.modify 2 fun c => { c with cls := start1.about.vm.classes.size } }
/-! what the kernel reads off a run: it isn't at its end, step by step, until the machine no longer runs -/
def ct_run (s : State) : Bool := match s.status with
  | .running => true
  | _ => false
def ct_on (s : State) : Bool := match s.frames with
  | [] => false
  | [_] => false
  | .throwing _ :: _ => false
  | _ => true
def ct_scan (tb : Tables) (e : Env) : Nat → State → Bool
  | 0, s => !ct_run s
  | n + 1, s => !ct_run s || (ct_on s && match s.curStatus?, s.alone with
    | some .runnable, true => ct_scan tb e n (stepThread tb e s).1
    | _, _ => true)
theorem ct_not_run {s : State} (h : s.status = .running) : ct_run s = true := by
  unfold ct_run; rw [h]
theorem ct_not_end {s : State} (h : ct_on s = true) (o : Outcome) : ¬ Ended s Lib.HandBits.below0 o := by
  intro he
  unfold ct_on at h
  cases o with
  | threw a =>
    have he' : s.frames = .throwing a :: Lib.HandBits.below0 := he
    rw [he'] at h; cases h
  | returned v =>
    have he' : s.frames = [.native { method := ⟨0, 0⟩, args := #[], awaiting := false, answer := some (.returned v) }] := he
    rw [he'] at h; cases h
theorem ct_scan_not {tb : Tables} {e : Env} : ∀ (n : Nat) (s : State), ct_scan tb e n s = true → ∀ (k : Nat) (o : Outcome),
    (stepsAlone tb e k s).status = .running → ¬ Ended (stepsAlone tb e k s) Lib.HandBits.below0 o := by
  intro n
  induction n with
  | zero =>
    intro s h k o hr
    have hs : ct_run s = false := by simpa [ct_scan] using h
    have hst : ∀ k, stepsAlone tb e k s = s := by
      intro k
      cases k with
      | zero => rfl
      | succ k =>
        unfold stepsAlone
        split
        · rename_i h1 _ _
          rw [ct_not_run h1] at hs; cases hs
        · rfl
    rw [hst k] at hr
    rw [ct_not_run hr] at hs; cases hs
  | succ n ih =>
    intro s h k o
    have hk0 : s.status = .running → ¬ Ended s Lib.HandBits.below0 o := by
      intro hr
      have h' := h
      unfold ct_scan at h'
      rw [ct_not_run hr] at h'
      have := (Bool.and_eq_true _ _).mp (by simpa using h')
      exact ct_not_end this.1 o
    cases k with
    | zero => exact hk0
    | succ k =>
      unfold stepsAlone
      split
      · rename_i h1 h2 h3
        unfold ct_scan at h
        rw [ct_not_run h1, h2, h3] at h
        have h' := (Bool.and_eq_true _ _).mp (by simpa using h)
        exact ih _ h'.2 k o
      · exact hk0
/-! the words: those of code go over by the tables (the new class stands behind all others), the others are read off anew -/
theorem ct_join {α : Type} (L : List α) (p : α → Bool) (m n : Nat) (h1 : ((L.drop m).take n).all p = true) (h2 : (L.drop (m + n)).all p = true) : (L.drop m).all p = true := by
  have h : ((L.drop m).take n ++ (L.drop m).drop n).all p = true := by
    rw [List.all_append, h1, List.drop_drop, h2]; rfl
  rwa [List.take_append_drop] at h
theorem ct_classes : ct_s.vm.classes = start1.about.vm.classes.push ct_odd := rfl
theorem ct_at {c : Nat} {k : Class} (h : start1.about.vm.classes[c]? = some k) : ct_s.vm.classes[c]? = some k := by
  rw [ct_classes]
  obtain ⟨hlt, hk⟩ := Array.getElem?_eq_some_iff.mp h
  rw [Array.getElem?_push_lt hlt, hk]
theorem ct_find {n : String} {c : Nat} (h : start1.about.vm.findClass n = some c) : ct_s.vm.findClass n = some c := by
  unfold Vm.findClass at h ⊢
  rw [ct_classes, Array.findIdx?_push, h]
  rfl
theorem ct_named {y : MethodName} {m : MethodId} (h : start1.about.methodNamed? y = some m) : ct_s.methodNamed? y = some m := by
  unfold State.methodNamed? at h ⊢
  simp only [Option.bind_eq_bind, Option.bind_eq_some_iff] at h ⊢
  obtain ⟨c, hc, k, hk, i, hi, hm⟩ := h
  exact ⟨c, ct_find hc, k, ct_at hk, i, hi, hm⟩
theorem ct_meth {m : MethodId} {x : Method} (h : start1.about.vm.method? m = some x) : ct_s.vm.method? m = some x := by
  unfold Vm.method? at h ⊢
  simp only [Option.bind_eq_bind, Option.bind_eq_some_iff] at h ⊢
  obtain ⟨k, hk, hx⟩ := h
  exact ⟨k, ct_at hk, hx⟩
theorem ct_code {c : Jvm.Cond} {a : Array Value} (hc : su_isCode c = true) (h : c.before a start1.about = true) : c.before a ct_s = true := by
  cases c <;> first | (cases hc; done) | skip
  rename_i y bytes maxL r
  unfold Cond.before Cond.holds at h ⊢
  simp only [Cond.value, beq_iff_eq, Option.map_eq_some_iff] at h ⊢
  obtain ⟨meth, hm, hq⟩ := h
  obtain ⟨m, hn, hm⟩ := Option.bind_eq_some_iff.mp hm
  exact ⟨meth, Option.bind_eq_some_iff.mpr ⟨m, ct_named hn, ct_meth hm⟩, hq⟩
end
section
set_option maxRecDepth 16384 in
theorem ct_w_0 : ((tables_1.drop 0).take 40).all (fun c => su_isCode c || c.before start1.args0 ct_s) = true := by decide +kernel
set_option maxRecDepth 16384 in
theorem ct_w_1 : ((tables_1.drop 40).take 40).all (fun c => su_isCode c || c.before start1.args0 ct_s) = true := by decide +kernel
set_option maxRecDepth 16384 in
theorem ct_w_2 : ((tables_1.drop 80).take 40).all (fun c => su_isCode c || c.before start1.args0 ct_s) = true := by decide +kernel
set_option maxRecDepth 16384 in
theorem ct_w_3 : ((tables_1.drop 120).take 40).all (fun c => su_isCode c || c.before start1.args0 ct_s) = true := by decide +kernel
set_option maxRecDepth 16384 in
theorem ct_w_4 : ((tables_1.drop 160).take 40).all (fun c => su_isCode c || c.before start1.args0 ct_s) = true := by decide +kernel
set_option maxRecDepth 16384 in
theorem ct_w_5 : ((tables_1.drop 200).take 40).all (fun c => su_isCode c || c.before start1.args0 ct_s) = true := by decide +kernel
set_option maxRecDepth 16384 in
theorem ct_w_6 : ((tables_1.drop 240).take 40).all (fun c => su_isCode c || c.before start1.args0 ct_s) = true := by decide +kernel
set_option maxRecDepth 16384 in
theorem ct_w_7 : ((tables_1.drop 280).take 40).all (fun c => su_isCode c || c.before start1.args0 ct_s) = true := by decide +kernel
set_option maxRecDepth 16384 in
theorem ct_w_8 : ((tables_1.drop 320).take 40).all (fun c => su_isCode c || c.before start1.args0 ct_s) = true := by decide +kernel
set_option maxRecDepth 16384 in
theorem ct_w_9 : ((tables_1.drop 360).take 40).all (fun c => su_isCode c || c.before start1.args0 ct_s) = true := by decide +kernel
set_option maxRecDepth 16384 in
theorem ct_w_10 : ((tables_1.drop 400).take 40).all (fun c => su_isCode c || c.before start1.args0 ct_s) = true := by decide +kernel
set_option maxRecDepth 16384 in
theorem ct_w_11 : ((tables_1.drop 440).take 40).all (fun c => su_isCode c || c.before start1.args0 ct_s) = true := by decide +kernel
set_option maxRecDepth 16384 in
theorem ct_w_12 : ((tables_1.drop 480).take 40).all (fun c => su_isCode c || c.before start1.args0 ct_s) = true := by decide +kernel
set_option maxRecDepth 16384 in
theorem ct_w_13 : ((tables_1.drop 520).take 40).all (fun c => su_isCode c || c.before start1.args0 ct_s) = true := by decide +kernel
set_option maxRecDepth 16384 in
theorem ct_w_14 : ((tables_1.drop 560).take 40).all (fun c => su_isCode c || c.before start1.args0 ct_s) = true := by decide +kernel
set_option maxRecDepth 16384 in
theorem ct_w_15 : ((tables_1.drop 600).take 40).all (fun c => su_isCode c || c.before start1.args0 ct_s) = true := by decide +kernel
set_option maxRecDepth 16384 in
theorem ct_w_16 : ((tables_1.drop 640).take 40).all (fun c => su_isCode c || c.before start1.args0 ct_s) = true := by decide +kernel
end
section
set_option maxRecDepth 16384 in
theorem ct_w_17 : ((tables_1.drop 680).take 40).all (fun c => su_isCode c || c.before start1.args0 ct_s) = true := by decide +kernel
set_option maxRecDepth 16384 in
theorem ct_w_18 : ((tables_1.drop 720).take 40).all (fun c => su_isCode c || c.before start1.args0 ct_s) = true := by decide +kernel
set_option maxRecDepth 16384 in
theorem ct_w_19 : ((tables_1.drop 760).take 40).all (fun c => su_isCode c || c.before start1.args0 ct_s) = true := by decide +kernel
set_option maxRecDepth 16384 in
theorem ct_w_20 : ((tables_1.drop 800).take 40).all (fun c => su_isCode c || c.before start1.args0 ct_s) = true := by decide +kernel
set_option maxRecDepth 16384 in
theorem ct_w_21 : ((tables_1.drop 840).take 40).all (fun c => su_isCode c || c.before start1.args0 ct_s) = true := by decide +kernel
set_option maxRecDepth 16384 in
theorem ct_w_22 : ((tables_1.drop 880).take 40).all (fun c => su_isCode c || c.before start1.args0 ct_s) = true := by decide +kernel
set_option maxRecDepth 16384 in
theorem ct_w_23 : ((tables_1.drop 920).take 40).all (fun c => su_isCode c || c.before start1.args0 ct_s) = true := by decide +kernel
set_option maxRecDepth 16384 in
theorem ct_w_24 : ((tables_1.drop 960).take 40).all (fun c => su_isCode c || c.before start1.args0 ct_s) = true := by decide +kernel
set_option maxRecDepth 16384 in
theorem ct_w_25 : ((tables_1.drop 1000).take 40).all (fun c => su_isCode c || c.before start1.args0 ct_s) = true := by decide +kernel
set_option maxRecDepth 16384 in
theorem ct_w_26 : ((tables_1.drop 1040).take 40).all (fun c => su_isCode c || c.before start1.args0 ct_s) = true := by decide +kernel
set_option maxRecDepth 16384 in
theorem ct_w_27 : ((tables_1.drop 1080).take 40).all (fun c => su_isCode c || c.before start1.args0 ct_s) = true := by decide +kernel
set_option maxRecDepth 16384 in
theorem ct_w_28 : ((tables_1.drop 1120).take 40).all (fun c => su_isCode c || c.before start1.args0 ct_s) = true := by decide +kernel
set_option maxRecDepth 16384 in
theorem ct_w_29 : ((tables_1.drop 1160).take 40).all (fun c => su_isCode c || c.before start1.args0 ct_s) = true := by decide +kernel
set_option maxRecDepth 16384 in
theorem ct_w_30 : ((tables_1.drop 1200).take 40).all (fun c => su_isCode c || c.before start1.args0 ct_s) = true := by decide +kernel
set_option maxRecDepth 16384 in
theorem ct_w_31 : ((tables_1.drop 1240).take 40).all (fun c => su_isCode c || c.before start1.args0 ct_s) = true := by decide +kernel
set_option maxRecDepth 16384 in
theorem ct_w_32 : ((tables_1.drop 1280).take 40).all (fun c => su_isCode c || c.before start1.args0 ct_s) = true := by decide +kernel
set_option maxRecDepth 16384 in
theorem ct_w_33 : ((tables_1.drop 1320).take 40).all (fun c => su_isCode c || c.before start1.args0 ct_s) = true := by decide +kernel
end
section
set_option maxRecDepth 16384 in
theorem ct_runs : ct_scan start1.p0.tables start1.e0 60 ct_s = true := by decide +kernel
set_option maxRecDepth 16384 in
theorem ct_tail : (tables_1.drop 1360).all (fun c => su_isCode c || c.before start1.args0 ct_s) = true := by decide +kernel
theorem ct_r_33 : (tables_1.drop 1320).all (fun c => su_isCode c || c.before start1.args0 ct_s) = true := ct_join tables_1 _ 1320 40 ct_w_33 ct_tail
theorem ct_r_32 : (tables_1.drop 1280).all (fun c => su_isCode c || c.before start1.args0 ct_s) = true := ct_join tables_1 _ 1280 40 ct_w_32 ct_r_33
theorem ct_r_31 : (tables_1.drop 1240).all (fun c => su_isCode c || c.before start1.args0 ct_s) = true := ct_join tables_1 _ 1240 40 ct_w_31 ct_r_32
theorem ct_r_30 : (tables_1.drop 1200).all (fun c => su_isCode c || c.before start1.args0 ct_s) = true := ct_join tables_1 _ 1200 40 ct_w_30 ct_r_31
theorem ct_r_29 : (tables_1.drop 1160).all (fun c => su_isCode c || c.before start1.args0 ct_s) = true := ct_join tables_1 _ 1160 40 ct_w_29 ct_r_30
theorem ct_r_28 : (tables_1.drop 1120).all (fun c => su_isCode c || c.before start1.args0 ct_s) = true := ct_join tables_1 _ 1120 40 ct_w_28 ct_r_29
theorem ct_r_27 : (tables_1.drop 1080).all (fun c => su_isCode c || c.before start1.args0 ct_s) = true := ct_join tables_1 _ 1080 40 ct_w_27 ct_r_28
theorem ct_r_26 : (tables_1.drop 1040).all (fun c => su_isCode c || c.before start1.args0 ct_s) = true := ct_join tables_1 _ 1040 40 ct_w_26 ct_r_27
theorem ct_r_25 : (tables_1.drop 1000).all (fun c => su_isCode c || c.before start1.args0 ct_s) = true := ct_join tables_1 _ 1000 40 ct_w_25 ct_r_26
theorem ct_r_24 : (tables_1.drop 960).all (fun c => su_isCode c || c.before start1.args0 ct_s) = true := ct_join tables_1 _ 960 40 ct_w_24 ct_r_25
theorem ct_r_23 : (tables_1.drop 920).all (fun c => su_isCode c || c.before start1.args0 ct_s) = true := ct_join tables_1 _ 920 40 ct_w_23 ct_r_24
theorem ct_r_22 : (tables_1.drop 880).all (fun c => su_isCode c || c.before start1.args0 ct_s) = true := ct_join tables_1 _ 880 40 ct_w_22 ct_r_23
theorem ct_r_21 : (tables_1.drop 840).all (fun c => su_isCode c || c.before start1.args0 ct_s) = true := ct_join tables_1 _ 840 40 ct_w_21 ct_r_22
theorem ct_r_20 : (tables_1.drop 800).all (fun c => su_isCode c || c.before start1.args0 ct_s) = true := ct_join tables_1 _ 800 40 ct_w_20 ct_r_21
theorem ct_r_19 : (tables_1.drop 760).all (fun c => su_isCode c || c.before start1.args0 ct_s) = true := ct_join tables_1 _ 760 40 ct_w_19 ct_r_20
theorem ct_r_18 : (tables_1.drop 720).all (fun c => su_isCode c || c.before start1.args0 ct_s) = true := ct_join tables_1 _ 720 40 ct_w_18 ct_r_19
theorem ct_r_17 : (tables_1.drop 680).all (fun c => su_isCode c || c.before start1.args0 ct_s) = true := ct_join tables_1 _ 680 40 ct_w_17 ct_r_18
theorem ct_r_16 : (tables_1.drop 640).all (fun c => su_isCode c || c.before start1.args0 ct_s) = true := ct_join tables_1 _ 640 40 ct_w_16 ct_r_17
theorem ct_r_15 : (tables_1.drop 600).all (fun c => su_isCode c || c.before start1.args0 ct_s) = true := ct_join tables_1 _ 600 40 ct_w_15 ct_r_16
theorem ct_r_14 : (tables_1.drop 560).all (fun c => su_isCode c || c.before start1.args0 ct_s) = true := ct_join tables_1 _ 560 40 ct_w_14 ct_r_15
theorem ct_r_13 : (tables_1.drop 520).all (fun c => su_isCode c || c.before start1.args0 ct_s) = true := ct_join tables_1 _ 520 40 ct_w_13 ct_r_14
theorem ct_r_12 : (tables_1.drop 480).all (fun c => su_isCode c || c.before start1.args0 ct_s) = true := ct_join tables_1 _ 480 40 ct_w_12 ct_r_13
theorem ct_r_11 : (tables_1.drop 440).all (fun c => su_isCode c || c.before start1.args0 ct_s) = true := ct_join tables_1 _ 440 40 ct_w_11 ct_r_12
theorem ct_r_10 : (tables_1.drop 400).all (fun c => su_isCode c || c.before start1.args0 ct_s) = true := ct_join tables_1 _ 400 40 ct_w_10 ct_r_11
theorem ct_r_9 : (tables_1.drop 360).all (fun c => su_isCode c || c.before start1.args0 ct_s) = true := ct_join tables_1 _ 360 40 ct_w_9 ct_r_10
theorem ct_r_8 : (tables_1.drop 320).all (fun c => su_isCode c || c.before start1.args0 ct_s) = true := ct_join tables_1 _ 320 40 ct_w_8 ct_r_9
theorem ct_r_7 : (tables_1.drop 280).all (fun c => su_isCode c || c.before start1.args0 ct_s) = true := ct_join tables_1 _ 280 40 ct_w_7 ct_r_8
theorem ct_r_6 : (tables_1.drop 240).all (fun c => su_isCode c || c.before start1.args0 ct_s) = true := ct_join tables_1 _ 240 40 ct_w_6 ct_r_7
theorem ct_r_5 : (tables_1.drop 200).all (fun c => su_isCode c || c.before start1.args0 ct_s) = true := ct_join tables_1 _ 200 40 ct_w_5 ct_r_6
theorem ct_r_4 : (tables_1.drop 160).all (fun c => su_isCode c || c.before start1.args0 ct_s) = true := ct_join tables_1 _ 160 40 ct_w_4 ct_r_5
theorem ct_r_3 : (tables_1.drop 120).all (fun c => su_isCode c || c.before start1.args0 ct_s) = true := ct_join tables_1 _ 120 40 ct_w_3 ct_r_4
theorem ct_r_2 : (tables_1.drop 80).all (fun c => su_isCode c || c.before start1.args0 ct_s) = true := ct_join tables_1 _ 80 40 ct_w_2 ct_r_3
theorem ct_r_1 : (tables_1.drop 40).all (fun c => su_isCode c || c.before start1.args0 ct_s) = true := ct_join tables_1 _ 40 40 ct_w_1 ct_r_2
theorem ct_r_0 : (tables_1.drop 0).all (fun c => su_isCode c || c.before start1.args0 ct_s) = true := ct_join tables_1 _ 0 40 ct_w_0 ct_r_1
theorem ct_words : ∀ c ∈ (Cond.code x code maxLocals ret :: tables_1), c.before start1.args0 ct_s = true := by
  intro c hc
  cases hq : su_isCode c with
  | true => exact ct_code hq (start1.words c hc)
  | false =>
    rcases List.mem_cons.mp hc with h | h
    · rw [h] at hq; cases hq
    · have h1 := List.all_eq_true.mp (show (tables_1.drop 0).all _ = true from ct_r_0) c h
      simpa [hq] using h1
set_option maxRecDepth 16384 in
theorem ct_atStart : AtStart classFile x code maxLocals ret World_1 tables_1 room_1 Calls_1 rest_1 Pre_1 launch0 start1.p0 start1.e0 ct_s ⟨0, 0⟩ start1.args0 Lib.HandBits.below0 :=
  ⟨lists_1, trivial, launch0.admits_env _ _ _, launch0.least_env, fairChoices_fair.cas, fairChoices_fair.clock, rfl, by decide +kernel, by decide +kernel,
    (Spec.applies_iff rfl).mpr ⟨rfl, rfl, rfl, by decide +kernel, by decide +kernel, by decide +kernel, launch0.hasRoom_least _ room_1 (by decide +kernel) (by decide +kernel) (by decide +kernel) (by decide +kernel) (by decide +kernel) (by decide +kernel), atoms_intro ct_words⟩,
    trivial, (show rest_1_c.before start1.args0 ct_s = true by decide +kernel), (show (Cond.and given_1 narrow_1).before start1.args0 ct_s = true by decide +kernel)⟩
/-- THE STATEMENT IS FALSE AS IT IS PRINTED: from the counter-start the law's run never comes to its end. -/
theorem ct_not_1 : ¬ Claimed_1_1 := by
  intro h
  have hs := ct_atStart
  unfold AtStart at hs
  obtain ⟨hl, hw, ha, _, hc, hk, hf, haf, hh, hap, h1, h2, h3⟩ := hs
  obtain ⟨n, o, _, hr, he, _⟩ := h launch0 rfl hl hw start1.p0 start1.e0 ha hc hk ct_s ⟨0, 0⟩ start1.args0 Lib.HandBits.below0 hf haf hh hap ⟨h1, h2, h3⟩
  exact ct_scan_not 60 ct_s ct_runs n o hr he
theorem ct_not_2 : ¬ Claimed_1_2 := by
  intro h
  have hs := ct_atStart
  unfold AtStart at hs
  obtain ⟨hl, hw, ha, _, hc, hk, hf, haf, hh, hap, h1, h2, h3⟩ := hs
  obtain ⟨n, o, _, hr, he, _⟩ := h launch0 rfl hl hw start1.p0 start1.e0 ha hc hk ct_s ⟨0, 0⟩ start1.args0 Lib.HandBits.below0 hf haf hh hap ⟨h1, h2, h3⟩
  exact ct_scan_not 60 ct_s ct_runs n o hr he
theorem ct_refuted : ¬ (Claimed_1_1 ∧ Claimed_1_2) := fun h => ct_not_1 h.1
/-! the control: at the witness's own start (the array in the class "[I") the same sixty steps go on running -/
set_option maxRecDepth 16384 in
theorem ct_control : ct_run (stepsAlone start1.p0.tables start1.e0 60 start1.about) = true := by decide +kernel
end
