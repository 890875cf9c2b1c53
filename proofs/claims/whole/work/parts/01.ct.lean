/-! THE COUNTER-START (REPORT.md, S1): the witness's own start, with one more class ('Odd', of kind array of int, with a 'clone' of its own that has no instruction) at the tables' end, under the array of FIRST_SETTING.
Every premise of the Statement holds there, and the machine stops in that 'clone': Claimed_1_1 is false as it is printed. -/
def ct_odd : Class := { start1.cArr "Odd" 18 .int with methods := #[{ name := "clone", desc := "()Ljava/lang/Object;", sig := { parameters := [], returnType := some (.object "java/lang/Object") }, accessFlags := 0x1, code := some { maxStack := 8, maxLocals := 1, code := ⟨#[]⟩, exceptionTable := #[], attributes := #[] } }] }
def ct_vm : Vm := { start1.about.vm with classes := start1.about.vm.classes.push ct_odd }
def ct_s : State := { start1.about with vm := ct_vm, heap := start1.about.heap.modify 2 fun c => { c with cls := start1.about.vm.classes.size } }
/-! what the kernel reads off a run: it isn't at its end, step by step, until the machine no longer runs -/
def ct_run (s : State) : Bool := match s.status with
  | .running => true
  | _ => false
def ct_on (s : State) : Bool := match s.frames with
  | [] => false
  | [_] => false
  | .throwing _ :: _ => false
  | _ => true
def ct_scan (tb : Tables) (e : Env) : Nat → State → Bool
  | 0, s => !ct_run s
  | n + 1, s => !ct_run s || (ct_on s && match s.curStatus?, s.alone with
    | some .runnable, true => ct_scan tb e n (stepThread tb e s).1
    | _, _ => true)
theorem ct_not_run {s : State} (h : s.status = .running) : ct_run s = true := by
  unfold ct_run; rw [h]
theorem ct_not_end {s : State} (h : ct_on s = true) (o : Outcome) : ¬ Ended s Lib.HandBits.below0 o := by
  intro he
  unfold ct_on at h
  cases o with
  | threw a =>
    have he' : s.frames = .throwing a :: Lib.HandBits.below0 := he
    rw [he'] at h; cases h
  | returned v =>
    have he' : s.frames = [.native { method := ⟨0, 0⟩, args := #[], awaiting := false, answer := some (.returned v) }] := he
    rw [he'] at h; cases h
theorem ct_scan_not {tb : Tables} {e : Env} : ∀ (n : Nat) (s : State), ct_scan tb e n s = true → ∀ (k : Nat) (o : Outcome),
    (stepsAlone tb e k s).status = .running → ¬ Ended (stepsAlone tb e k s) Lib.HandBits.below0 o := by
  intro n
  induction n with
  | zero =>
    intro s h k o hr
    have hs : ct_run s = false := by simpa [ct_scan] using h
    have hst : ∀ k, stepsAlone tb e k s = s := by
      intro k
      cases k with
      | zero => rfl
      | succ k =>
        unfold stepsAlone
        split
        · rename_i h1 _ _
          rw [ct_not_run h1] at hs; cases hs
        · rfl
    rw [hst k] at hr
    rw [ct_not_run hr] at hs; cases hs
  | succ n ih =>
    intro s h k o
    have hk0 : s.status = .running → ¬ Ended s Lib.HandBits.below0 o := by
      intro hr
      have h' := h
      unfold ct_scan at h'
      rw [ct_not_run hr] at h'
      have := (Bool.and_eq_true _ _).mp (by simpa using h')
      exact ct_not_end this.1 o
    cases k with
    | zero => exact hk0
    | succ k =>
      unfold stepsAlone
      split
      · rename_i h1 h2 h3
        unfold ct_scan at h
        rw [ct_not_run h1, h2, h3] at h
        have h' := (Bool.and_eq_true _ _).mp (by simpa using h)
        exact ih _ h'.2 k o
      · exact hk0
/-! the words: those of code go over by the tables (the new class stands behind all others), the others are read off anew -/
theorem ct_join {α : Type} (L : List α) (p : α → Bool) (m n : Nat) (h1 : ((L.drop m).take n).all p = true) (h2 : (L.drop (m + n)).all p = true) : (L.drop m).all p = true := by
  have h : ((L.drop m).take n ++ (L.drop m).drop n).all p = true := by
    rw [List.all_append, h1, List.drop_drop, h2]; rfl
  rwa [List.take_append_drop] at h
theorem ct_classes : ct_s.vm.classes = start1.about.vm.classes.push ct_odd := rfl
theorem ct_at {c : Nat} {k : Class} (h : start1.about.vm.classes[c]? = some k) : ct_s.vm.classes[c]? = some k := by
  rw [ct_classes]
  obtain ⟨hlt, hk⟩ := Array.getElem?_eq_some_iff.mp h
  rw [Array.getElem?_push_lt hlt, hk]
theorem ct_find {n : String} {c : Nat} (h : start1.about.vm.findClass n = some c) : ct_s.vm.findClass n = some c := by
  unfold Vm.findClass at h ⊢
  rw [ct_classes, Array.findIdx?_push, h]
  rfl
theorem ct_named {y : MethodName} {m : MethodId} (h : start1.about.methodNamed? y = some m) : ct_s.methodNamed? y = some m := by
  unfold State.methodNamed? at h ⊢
  simp only [Option.bind_eq_bind, Option.bind_eq_some_iff] at h ⊢
  obtain ⟨c, hc, k, hk, i, hi, hm⟩ := h
  exact ⟨c, ct_find hc, k, ct_at hk, i, hi, hm⟩
theorem ct_meth {m : MethodId} {x : Method} (h : start1.about.vm.method? m = some x) : ct_s.vm.method? m = some x := by
  unfold Vm.method? at h ⊢
  simp only [Option.bind_eq_bind, Option.bind_eq_some_iff] at h ⊢
  obtain ⟨k, hk, hx⟩ := h
  exact ⟨k, ct_at hk, hx⟩
theorem ct_code {c : Jvm.Cond} {a : Array Value} (hc : su_isCode c = true) (h : c.before a start1.about = true) : c.before a ct_s = true := by
  cases c <;> first | (cases hc; done) | skip
  rename_i y bytes maxL r
  unfold Cond.before Cond.holds at h ⊢
  simp only [Cond.value, beq_iff_eq, Option.map_eq_some_iff] at h ⊢
  obtain ⟨meth, hm, hq⟩ := h
  obtain ⟨m, hn, hm⟩ := Option.bind_eq_some_iff.mp hm
  exact ⟨meth, Option.bind_eq_some_iff.mpr ⟨m, ct_named hn, ct_meth hm⟩, hq⟩
