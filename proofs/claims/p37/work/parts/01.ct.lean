/-! THE COUNTER-START (REPORT.md, S1): the witness's own start, with one more class ('Odd', of kind array of int, with a 'clone' of its own that has no instruction) at the tables' end, under the array of FIRST_SETTING.
Every premise of the Statement holds there, and the machine stops in that 'clone': Claimed_1_1 is false as it is printed. -/
def ct_odd : Class := { start1.cArr "Odd" 18 .int with methods := #[{ name := "clone", desc := "()Ljava/lang/Object;", sig := { parameters := [], returnType := some (.object "java/lang/Object") }, accessFlags := 0x1, code := some { maxStack := 8, maxLocals := 1, code := ⟨#[]⟩, exceptionTable := #[], attributes := #[] } }] }
def ct_vm : Vm := { start1.about.vm with classes := start1.about.vm.classes.push ct_odd }
def ct_s : State := { start1.about with vm := ct_vm, heap := start1.about.heap.modify 2 fun c => { c with cls := start1.about.vm.classes.size } }
/-! what the kernel reads off a run: it isn't at its end, step by step, until the machine no longer runs -/
def ct_run (s : State) : Bool := match s.status with
  | .running => true
  | _ => false
def ct_on (s : State) : Bool := match s.frames with
  | [] => false
  | [_] => false
  | .throwing _ :: _ => false
  | _ => true
def ct_scan (tb : Tables) (e : Env) : Nat → State → Bool
  | 0, s => !ct_run s
  | n + 1, s => !ct_run s || (ct_on s && match s.curStatus?, s.alone with
    | some .runnable, true => ct_scan tb e n (stepThread tb e s).1
    | _, _ => true)
theorem ct_not_run {s : State} (h : s.status = .running) : ct_run s = true := by
  unfold ct_run; rw [h]
theorem ct_not_end {s : State} (h : ct_on s = true) (o : Outcome) : ¬ Ended s Lib.HandBits.below0 o := by
  intro he
  unfold ct_on at h
  cases o with
  | threw a =>
    have he' : s.frames = .throwing a :: Lib.HandBits.below0 := he
    rw [he'] at h; cases h
  | returned v =>
    have he' : s.frames = [.native { method := ⟨0, 0⟩, args := #[], awaiting := false, answer := some (.returned v) }] := he
    rw [he'] at h; cases h
theorem ct_scan_not {tb : Tables} {e : Env} : ∀ (n : Nat) (s : State), ct_scan tb e n s = true → ∀ (k : Nat) (o : Outcome),
    (stepsAlone tb e k s).status = .running → ¬ Ended (stepsAlone tb e k s) Lib.HandBits.below0 o := by
  intro n
  induction n with
  | zero =>
    intro s h k o hr
    have hs : ct_run s = false := by simpa [ct_scan] using h
    have hst : ∀ k, stepsAlone tb e k s = s := by
      intro k
      cases k with
      | zero => rfl
      | succ k =>
        unfold stepsAlone
        split
        · rename_i h1 _ _
          rw [ct_not_run h1] at hs; cases hs
        · rfl
    rw [hst k] at hr
    rw [ct_not_run hr] at hs; cases hs
  | succ n ih =>
    intro s h k o
    have hk0 : s.status = .running → ¬ Ended s Lib.HandBits.below0 o := by
      intro hr
      have h' := h
      unfold ct_scan at h'
      rw [ct_not_run hr] at h'
      have := (Bool.and_eq_true _ _).mp (by simpa using h')
      exact ct_not_end this.1 o
    cases k with
    | zero => exact hk0
    | succ k =>
      unfold stepsAlone
      split
      · rename_i h1 h2 h3
        unfold ct_scan at h
        rw [ct_not_run h1, h2, h3] at h
        have h' := (Bool.and_eq_true _ _).mp (by simpa using h)
        exact ih _ h'.2 k o
      · exact hk0
/-! the words: those of code go over by the tables (the new class stands behind all others), the others are read off anew -/
theorem ct_join {α : Type} (L : List α) (p : α → Bool) (m n : Nat) (h1 : ((L.drop m).take n).all p = true) (h2 : (L.drop (m + n)).all p = true) : (L.drop m).all p = true := by
  have h : ((L.drop m).take n ++ (L.drop m).drop n).all p = true := by
    rw [List.all_append, h1, List.drop_drop, h2]; rfl
  rwa [List.take_append_drop] at h
theorem ct_classes : ct_s.vm.classes = start1.about.vm.classes.push ct_odd := rfl
theorem ct_at {c : Nat} {k : Class} (h : start1.about.vm.classes[c]? = some k) : ct_s.vm.classes[c]? = some k := by
  rw [ct_classes]
  obtain ⟨hlt, hk⟩ := Array.getElem?_eq_some_iff.mp h
  rw [Array.getElem?_push_lt hlt, hk]
theorem ct_find {n : String} {c : Nat} (h : start1.about.vm.findClass n = some c) : ct_s.vm.findClass n = some c := by
  unfold Vm.findClass at h ⊢
  rw [ct_classes, Array.findIdx?_push, h]
  rfl
theorem ct_named {y : MethodName} {m : MethodId} (h : start1.about.methodNamed? y = some m) : ct_s.methodNamed? y = some m := by
  unfold State.methodNamed? at h ⊢
  simp only [Option.bind_eq_bind, Option.bind_eq_some_iff] at h ⊢
  obtain ⟨c, hc, k, hk, i, hi, hm⟩ := h
  exact ⟨c, ct_find hc, k, ct_at hk, i, hi, hm⟩
theorem ct_meth {m : MethodId} {x : Method} (h : start1.about.vm.method? m = some x) : ct_s.vm.method? m = some x := by
  unfold Vm.method? at h ⊢
  simp only [Option.bind_eq_bind, Option.bind_eq_some_iff] at h ⊢
  obtain ⟨k, hk, hx⟩ := h
  exact ⟨k, ct_at hk, hx⟩
theorem ct_code {c : Jvm.Cond} {a : Array Value} (hc : su_isCode c = true) (h : c.before a start1.about = true) : c.before a ct_s = true := by
  cases c <;> first | (cases hc; done) | skip
  rename_i y bytes maxL r
  unfold Cond.before Cond.holds at h ⊢
  simp only [Cond.value, beq_iff_eq, Option.map_eq_some_iff] at h ⊢
  obtain ⟨meth, hm, hq⟩ := h
  obtain ⟨m, hn, hm⟩ := Option.bind_eq_some_iff.mp hm
  exact ⟨meth, Option.bind_eq_some_iff.mpr ⟨m, ct_named hn, ct_meth hm⟩, hq⟩
/-! what a pool's entry names goes over too (it is dear to read off anew) -/
theorem ct_pool {n : String} {p : ConstantPool} (h : start1.about.poolOf? n = some p) : ct_s.poolOf? n = some p := by
  unfold State.poolOf? at h ⊢
  simp only [Option.bind_eq_bind, Option.bind_eq_some_iff] at h ⊢
  obtain ⟨c, hc, k, hk, f, hf, hp⟩ := h
  exact ⟨c, ct_find hc, k, ct_at hk, f, hf, hp⟩
theorem ct_names {n : String} {i : Nat} {w : Names} (h : start1.about.names n i w = true) : ct_s.names n i w = true := by
  unfold State.names at h ⊢
  have h' := of_decide_eq_true h
  obtain ⟨p, hp, hq⟩ := Option.bind_eq_some_iff.mp h'
  exact decide_eq_true (Option.bind_eq_some_iff.mpr ⟨p, ct_pool hp, hq⟩)
theorem ct_entry {n : String} {i : Nat} {r : Nat × Bool} (h : start1.about.memberEntry? n i = some r) : ct_s.memberEntry? n i = some r := by
  unfold State.memberEntry? at h ⊢
  simp only [Option.bind_eq_bind, Option.bind_eq_some_iff] at h ⊢
  obtain ⟨p, hp, hq⟩ := h
  exact ⟨p, ct_pool hp, hq⟩
def ct_cl (s : State) (cls : String) (index : Nat) (name : String) : Option Bool :=
  match s.vm.findClass cls, s.vm.findClass name with
  | some d, some c => (s.vm.classes[d]?).bind fun dk => (s.vm.classes[c]?).bind fun ck => some (s.openOr cls index (.cls c) && s.vm.classAccessible {} ck dk)
  | _, _ => none
theorem ct_cl_up {s : State} {cls : String} {index : Nat} {name : String} (hn : s.names cls index (.cls name) = true) (h : ct_cl s cls index name = some true) : s.classLinks cls index name = some true := by
  unfold ct_cl at h
  unfold State.classLinks
  split at h
  · rename_i d c hd hc
    rw [hd, hc]
    obtain ⟨dk, hdk, h⟩ := Option.bind_eq_some_iff.mp h
    obtain ⟨ck, hck, h⟩ := Option.bind_eq_some_iff.mp h
    simp only [Option.some.injEq, Bool.and_eq_true] at h
    simp [hdk, hck, hn, h.1, h.2]
  · cases h
theorem ct_cl_names {s : State} {cls : String} {index : Nat} {name : String} {b : Bool} (h : s.classLinks cls index name = some b) (hb : b = true) : s.names cls index (.cls name) = true := by
  subst hb
  unfold State.classLinks at h
  split at h
  · simp only [Option.bind_eq_bind, Option.bind_eq_some_iff] at h
    obtain ⟨dk, hdk, ck, hck, h⟩ := h
    simp at h
    exact h.1.1
  · cases h
def ct_fl (s : State) (cls : String) (index : Nat) (ref name desc : String) : Option Bool :=
  match s.memberEntry? cls index, s.vm.findClass cls, s.fieldFound? ref name desc, s.vm.findClass ref with
  | some (ci, _), some d, some (c, k, i, f), some t => (ct_cl s cls ci ref).bind fun linked => (s.vm.classes[d]?).bind fun dk =>
      some (linked && s.openOr cls index (.field c i) && k.loader.isNone && plainAccess s.vm f.accessFlags c k t d dk)
  | _, _, _, _ => none
theorem ct_fl_up {a : Array Value} {cls : String} {index : Nat} {ref name desc : String} (h : (Cond.fieldLink cls index ref name desc).before a start1.about = true)
    (hg : ct_fl ct_s cls index ref name desc = some true) : (Cond.fieldLink cls index ref name desc).before a ct_s = true := by
  unfold Cond.before Cond.holds at h ⊢
  simp only [Cond.value, beq_iff_eq] at h ⊢
  split at h
  · rename_i ci v d c k i f t hm hd hf ht
    simp only [Option.bind_eq_bind, Option.bind_eq_some_iff] at h
    obtain ⟨linked, hl, dk, hdk, h⟩ := h
    simp only [Option.pure_def, Option.some.injEq, Bool.and_eq_true] at h
    obtain ⟨⟨⟨⟨h1, h2⟩, _⟩, _⟩, _⟩ := h
    have n1 := ct_names (ct_cl_names hl h1)
    have n2 := ct_names h2
    have m1 := ct_entry hm
    unfold ct_fl at hg
    rw [m1] at hg ⊢
    split at hg
    · rename_i ci' v' d' c' k' i' f' t' hm' hd' hf' ht'
      cases hm'
      obtain ⟨linked', hl', hg⟩ := Option.bind_eq_some_iff.mp hg
      obtain ⟨dk', hdk', hg⟩ := Option.bind_eq_some_iff.mp hg
      simp only [Option.some.injEq, Bool.and_eq_true] at hg
      obtain ⟨⟨⟨g1, g2⟩, g3⟩, g4⟩ := hg
      rw [g1] at hl'
      rw [hd', hf', ht']
      simp [ct_cl_up n1 hl', hdk', n2, g2, g3, g4]
    · cases hg
  · cases h
def ct_ml (s : State) (cls : String) (index : Nat) (x : MethodName) : Option Bool :=
  match s.memberEntry? cls index, s.vm.findClass cls, s.vm.findClass x.cls, s.methodFound? x.cls x.name x.desc with
  | some (ci, via), some d, some c, some m => (ct_cl s cls ci x.cls).bind fun linked => (s.vm.classes[d]?).bind fun dk => (s.vm.classes[c]?).bind fun ck => (s.vm.classes[m.cls]?).bind fun mk => (s.vm.method? m).bind fun meth =>
      some (linked && s.openOr cls index (.method m) && ck.isInterface == via && x.cls != "java/lang/invoke/MethodHandle" && x.cls != "java/lang/invoke/VarHandle" && mk.loader.isNone &&
        (plainAccess s.vm meth.accessFlags m.cls mk c d dk || (ck.isArray && x.name == "clone" && m.cls != c)))
  | _, _, _, _ => none
theorem ct_ml_up {a : Array Value} {cls : String} {index : Nat} {x : MethodName} (h : (Cond.methodLink cls index x).before a start1.about = true)
    (hg : ct_ml ct_s cls index x = some true) : (Cond.methodLink cls index x).before a ct_s = true := by
  unfold Cond.before Cond.holds at h ⊢
  simp only [Cond.value, beq_iff_eq] at h ⊢
  split at h
  · rename_i ci v d c m hm hd hc hf
    simp only [Option.bind_eq_bind, Option.bind_eq_some_iff] at h
    obtain ⟨linked, hl, dk, hdk, ck, hck, mk, hmk, meth, hmeth, h⟩ := h
    simp only [Option.pure_def, Option.some.injEq, Bool.and_eq_true] at h
    obtain ⟨⟨⟨⟨⟨⟨⟨h1, h2⟩, _⟩, _⟩, _⟩, _⟩, _⟩, _⟩ := h
    have n1 := ct_names (ct_cl_names hl h1)
    have n2 := ct_names h2
    have m1 := ct_entry hm
    unfold ct_ml at hg
    rw [m1] at hg ⊢
    split at hg
    · rename_i ci' v' d' c' m' hm' hd' hc' hf'
      cases hm'
      obtain ⟨linked', hl', hg⟩ := Option.bind_eq_some_iff.mp hg
      obtain ⟨dk', hdk', hg⟩ := Option.bind_eq_some_iff.mp hg
      obtain ⟨ck', hck', hg⟩ := Option.bind_eq_some_iff.mp hg
      obtain ⟨mk', hmk', hg⟩ := Option.bind_eq_some_iff.mp hg
      obtain ⟨meth', hmeth', hg⟩ := Option.bind_eq_some_iff.mp hg
      simp only [Option.some.injEq, Bool.and_eq_true] at hg
      obtain ⟨⟨⟨⟨⟨⟨g1, g2⟩, g3⟩, g4⟩, g5⟩, g6⟩, g7⟩ := hg
      rw [g1] at hl'
      rw [hd', hc', hf']
      have q := ct_cl_up n1 hl'
      simp only [Option.bind_eq_bind, q, hdk', hck', hmk', hmeth', Option.bind_some, Option.pure_def, Option.some.injEq, Bool.and_eq_true]
      exact ⟨⟨⟨⟨⟨⟨⟨trivial, n2⟩, g2⟩, g3⟩, g4⟩, g5⟩, g6⟩, g7⟩
    · cases hg
  · cases h
theorem ct_long_up {a : Array Value} {cls : String} {index : Nat} {v : Int64} (h : (Cond.constantLong cls index v).before a start1.about = true) : (Cond.constantLong cls index v).before a ct_s = true := by
  unfold Cond.before Cond.holds at h ⊢
  simp only [Cond.value, beq_iff_eq, Option.map_eq_some_iff] at h ⊢
  obtain ⟨c, hc, h⟩ := h
  exact ⟨c, ct_find hc, ct_names h⟩
def ct_light (a : Array Value) : Jvm.Cond → Bool
  | .code .. => true
  | .constantLong .. => true
  | .fieldLink cls index ref name desc => ct_fl ct_s cls index ref name desc == some true
  | .methodLink cls index x => ct_ml ct_s cls index x == some true
  | c => c.before a ct_s
theorem ct_up {a : Array Value} {c : Jvm.Cond} (h : c.before a start1.about = true) (hl : ct_light a c = true) : c.before a ct_s = true := by
  unfold ct_light at hl
  split at hl
  · exact ct_code rfl h
  · exact ct_long_up h
  · exact ct_fl_up h (beq_iff_eq.mp hl)
  · exact ct_ml_up h (beq_iff_eq.mp hl)
  · exact hl
