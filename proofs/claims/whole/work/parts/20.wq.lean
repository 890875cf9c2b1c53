/-! the plain machine, backwards: what must hold so that a run comes to Q; nothing is made on the way -/
def sg_LK : Nat → Nat → Bool := fun _ _ => true
abbrev sg_zn (n : Nat) : sg_Z := (n, 0, 0, sg_LK)
def sg_wq (X : sg_X) (n M pc : Nat) (ls : sg_L) (st : List Value) (σ : sg_S) (Q : Option Value → sg_S → Prop) : Prop :=
  ∃ (f : Nat) (r : Option Value) (σ' : sg_S), sg_ex X f M pc ls st (sg_zn n) σ = some (r, sg_zn n, σ') ∧ r.all (sg_wv n) = true ∧ Q r σ'
theorem sg_fuel {X : sg_X} : ∀ (f : Nat) {M pc : Nat} {ls : sg_L} {st : List Value} {z : sg_Z} {σ : sg_S} {r : Option Value × sg_Z × sg_S}, sg_ex X f M pc ls st z σ = some r → ∀ g, f ≤ g → sg_ex X g M pc ls st z σ = some r
  | 0, M, pc, ls, st, z, σ, r, h, g, _ => by cases h
  | f + 1, M, pc, ls, st, z, σ, r, h, 0, hg => by omega
  | f + 1, M, pc, ls, st, z, σ, r, h, g + 1, hg => by
    rw [sg_ex] at h ⊢
    split at h
    · rename_i i n hd
      split at h
      · rename_i hln
        rw [if_pos hln]
        split at h
        · rename_i h1
          exact sg_fuel f h g (by omega)
        · rename_i y as keep pc1 ls1 st1 h1
          split at h
          · rename_i r1 z1 σ1 h2
            rw [sg_fuel f h2 g (by omega)]
            dsimp only
            split at h
            · rename_i hc
              rw [if_pos hc]
              exact sg_fuel f h g (by omega)
            · cases h
          · cases h
        · exact h
        · cases h
      · cases h
    · cases h
/-- what one step leaves to show -/
def sg_wk (X : sg_X) (n M : Nat) (σ : sg_S) (Q : Option Value → sg_S → Prop) (o : Option sg_R) : Prop := match o with
  | some (.inl (pc, ls, st, z, σ')) => z = sg_zn n ∧ sg_wq X n M pc ls st σ' Q
  | some (.inr (.inl (y, as, keep, pc, ls, st))) => keep = false ∧ sg_lic n sg_LK = true ∧ (as.flatMap sg_e1).length ≤ sg_ml y ∧ sg_wq X n y 0 (sg_en as (sg_ml y)) [] σ (fun r σ1 => sg_wq X n M pc ls (r.toList ++ st) σ1 Q)
  | some (.inr (.inr r)) => r.all (sg_wv n) = true ∧ Q r σ
  | none => False
theorem sg_wq_one {X : sg_X} {n M pc : Nat} {ls : sg_L} {st : List Value} {σ : sg_S} {Q : Option Value → sg_S → Prop} {i : Instr} {len : Nat} (hd : decode (sg_mc M) pc = .ok (i, len)) (hl : sg_ln i len = true) (h : sg_wk X n M σ Q (sg_st X M i pc ls st (sg_zn n) σ)) : sg_wq X n M pc ls st σ Q := by
  cases hs : sg_st X M i pc ls st (sg_zn n) σ with
  | none => rw [hs] at h; exact h.elim
  | some o =>
    rw [hs] at h
    match o, h, hs with
    | .inl (pc', ls', st', z', σ'), h, hs =>
      obtain ⟨rfl, f, r, σ1, h1, h2, h3⟩ := h
      refine ⟨f + 1, r, σ1, ?_, h2, h3⟩
      rw [sg_ex, hd]
      dsimp only
      rw [if_pos hl, hs]
      exact h1
    | .inr (.inl (y, as, keep, pc', ls', st')), h, hs =>
      obtain ⟨rfl, hlic, hfit, f, r, σ1, h1, h2, f2, r2, σ2, h3, h4, h5⟩ := h
      refine ⟨f + f2 + 1, r2, σ2, ?_, h4, h5⟩
      rw [sg_ex, hd]
      dsimp only
      rw [if_pos hl, hs]
      dsimp only
      rw [sg_fuel f h1 (f + f2) (by omega)]
      dsimp only
      rw [if_pos ⟨h2, Nat.le_refl _, by simpa using hlic, hfit⟩]
      exact sg_fuel f2 h3 (f + f2) (by omega)
    | .inr (.inr r), h, hs =>
      refine ⟨1, r, σ, ?_, h.1, h.2⟩
      rw [sg_ex, hd]
      dsimp only
      rw [if_pos hl, hs]
theorem sg_wq_mono {X : sg_X} {n M pc : Nat} {ls : sg_L} {st : List Value} {σ : sg_S} {Q Q' : Option Value → sg_S → Prop} (h : sg_wq X n M pc ls st σ Q) (hQ : ∀ r σ', Q r σ' → Q' r σ') : sg_wq X n M pc ls st σ Q' := by
  obtain ⟨f, r, σ', h1, h2, h3⟩ := h
  exact ⟨f, r, σ', h1, h2, hQ r σ' h3⟩
/-- one instruction, as a condition -/
def sg_sp (X : sg_X) (n m : Nat) (i : Instr) (pc : Nat) (ls : sg_L) (st : List Value) (σ : sg_S) (K : Nat → sg_L → List Value → sg_S → Prop) (KC : Nat → List Value → Nat → sg_L → List Value → Prop) (KR : Option Value → Prop) : Prop :=
  match i with
  | .iconst k => K (pc + 1) ls (.int (Int32.ofInt k) :: st) σ
  | .bipush k => K (pc + 2) ls (.int (Int8.ofInt k).toInt32 :: st) σ
  | .sipush k => K (pc + 3) ls (.int (Int16.ofInt k).toInt32 :: st) σ
  | .lconst k => K (pc + 1) ls (.long (Int64.ofNat k) :: st) σ
  | .ldc k => match sg_il (sg_mo m) k with
    | some e => K (pc + 2) ls (.int e.1 :: st) σ
    | none => False
  | .ldc_w k => match sg_il (sg_mo m) k with
    | some e => K (pc + 3) ls (.int e.1 :: st) σ
    | none => False
  | .ldc2_w k => match sg_jl (sg_mo m) k with
    | some e => K (pc + 3) ls (.long e.1 :: st) σ
    | none => False
  | .iload k => match ls[k]? with
    | some (some (.int x)) => K (pc + 2) ls (.int x :: st) σ
    | _ => False
  | .iload_n k => match ls[k.val]? with
    | some (some (.int x)) => K (pc + 1) ls (.int x :: st) σ
    | _ => False
  | .lload k => match ls[k]? with
    | some (some (.long x)) => K (pc + 2) ls (.long x :: st) σ
    | _ => False
  | .lload_n k => match ls[k.val]? with
    | some (some (.long x)) => K (pc + 1) ls (.long x :: st) σ
    | _ => False
  | .aload k => match ls[k]? with
    | some (some (.ref x)) => K (pc + 2) ls (.ref x :: st) σ
    | _ => False
  | .aload_n k => match ls[k.val]? with
    | some (some (.ref x)) => K (pc + 1) ls (.ref x :: st) σ
    | _ => False
  | .istore k => match st with
    | .int x :: r => if k < sg_ml m then K (pc + 2) (sg_s1 ls k (.int x)) r σ else False
    | _ => False
  | .istore_n k => match st with
    | .int x :: r => if k.val < sg_ml m then K (pc + 1) (sg_s1 ls k.val (.int x)) r σ else False
    | _ => False
  | .lstore k => match st with
    | .long x :: r => if k + 1 < sg_ml m then K (pc + 2) (sg_s2 ls k (.long x)) r σ else False
    | _ => False
  | .lstore_n k => match st with
    | .long x :: r => if k.val + 1 < sg_ml m then K (pc + 1) (sg_s2 ls k.val (.long x)) r σ else False
    | _ => False
  | .astore k => match st with
    | .ref x :: r => if k < sg_ml m then K (pc + 2) (sg_s1 ls k (.ref x)) r σ else False
    | _ => False
  | .astore_n k => match st with
    | .ref x :: r => if k.val < sg_ml m then K (pc + 1) (sg_s1 ls k.val (.ref x)) r σ else False
    | _ => False
  | .iinc k c => match ls[k]? with
    | some (some (.int x)) => if k < sg_ml m then K (pc + 3) (sg_s1 ls k (.int (x + Int32.ofInt c))) st σ else False
    | _ => False
  | .iadd => match st with
    | .int y :: .int x :: r => K (pc + 1) ls (.int (x + y) :: r) σ
    | _ => False
  | .isub => match st with
    | .int y :: .int x :: r => K (pc + 1) ls (.int (x - y) :: r) σ
    | _ => False
  | .imul => match st with
    | .int y :: .int x :: r => K (pc + 1) ls (.int (x * y) :: r) σ
    | _ => False
  | .iand => match st with
    | .int y :: .int x :: r => K (pc + 1) ls (.int (x &&& y) :: r) σ
    | _ => False
  | .ior => match st with
    | .int y :: .int x :: r => K (pc + 1) ls (.int (x ||| y) :: r) σ
    | _ => False
  | .ixor => match st with
    | .int y :: .int x :: r => K (pc + 1) ls (.int (x ^^^ y) :: r) σ
    | _ => False
  | .ishl => match st with
    | .int y :: .int x :: r => K (pc + 1) ls (.int (x <<< (y &&& 31)) :: r) σ
    | _ => False
  | .ishr => match st with
    | .int y :: .int x :: r => K (pc + 1) ls (.int (x >>> (y &&& 31)) :: r) σ
    | _ => False
  | .iushr => match st with
    | .int y :: .int x :: r => K (pc + 1) ls (.int (x.toUInt32 >>> (y.toUInt32 &&& Int32.toUInt32 31)).toInt32 :: r) σ
    | _ => False
  | .idiv => match st with
    | .int y :: .int x :: r => ¬ y = 0 ∧ K (pc + 1) ls (.int (x / y) :: r) σ
    | _ => False
  | .irem => match st with
    | .int y :: .int x :: r => ¬ y = 0 ∧ K (pc + 1) ls (.int (x - x / y * y) :: r) σ
    | _ => False
  | .ineg => match st with
    | .int x :: r => K (pc + 1) ls (.int (-x) :: r) σ
    | _ => False
  | .i2b => match st with
    | .int x :: r => K (pc + 1) ls (.int x.toInt8.toInt32 :: r) σ
    | _ => False
  | .i2s => match st with
    | .int x :: r => K (pc + 1) ls (.int x.toInt16.toInt32 :: r) σ
    | _ => False
  | .i2l => match st with
    | .int x :: r => K (pc + 1) ls (.long x.toInt64 :: r) σ
    | _ => False
  | .ladd => match st with
    | .long y :: .long x :: r => K (pc + 1) ls (.long (x + y) :: r) σ
    | _ => False
  | .lmul => match st with
    | .long y :: .long x :: r => K (pc + 1) ls (.long (x * y) :: r) σ
    | _ => False
  | .lcmp => match st with
    | .long y :: .long x :: r => K (pc + 1) ls (.int (lg_cmp x y) :: r) σ
    | _ => False
  | .pop => match st with
    | v :: r => if v.category = 1 then K (pc + 1) ls r σ else False
    | _ => False
  | .dup => match st with
    | v :: r => if v.category = 1 then K (pc + 1) ls (v :: v :: r) σ else False
    | _ => False
  | .dup2 => match st with
    | v :: w :: r => if v.category = 1 ∧ w.category = 1 then K (pc + 1) ls (v :: w :: v :: w :: r) σ else False
    | _ => False
  | .goto off => if 0 ≤ (pc : Int) + off then K (sg_tg pc off) ls st σ else False
  | .ifCond c off => match st with
    | .int x :: r => if 0 ≤ (pc : Int) + off then (match c with
      | .eq => if x = 0 then K (sg_tg pc off) ls r σ else K (pc + 3) ls r σ
      | .ne => if x = 0 then K (pc + 3) ls r σ else K (sg_tg pc off) ls r σ
      | .lt => if x < 0 then K (sg_tg pc off) ls r σ else K (pc + 3) ls r σ
      | .ge => if x < 0 then K (pc + 3) ls r σ else K (sg_tg pc off) ls r σ
      | .gt => if 0 < x then K (sg_tg pc off) ls r σ else K (pc + 3) ls r σ
      | .le => if 0 < x then K (pc + 3) ls r σ else K (sg_tg pc off) ls r σ) else False
    | _ => False
  | .if_icmp c off => match st with
    | .int y :: .int x :: r => if 0 ≤ (pc : Int) + off then (match c with
      | .eq => if x = y then K (sg_tg pc off) ls r σ else K (pc + 3) ls r σ
      | .ne => if x = y then K (pc + 3) ls r σ else K (sg_tg pc off) ls r σ
      | .lt => if x < y then K (sg_tg pc off) ls r σ else K (pc + 3) ls r σ
      | .ge => if x < y then K (pc + 3) ls r σ else K (sg_tg pc off) ls r σ
      | .gt => if y < x then K (sg_tg pc off) ls r σ else K (pc + 3) ls r σ
      | .le => if y < x then K (pc + 3) ls r σ else K (sg_tg pc off) ls r σ) else False
    | _ => False
  | .tableswitch d lo hi offs => match st with
    | .int x :: r => if x.toInt < lo ∨ hi < x.toInt then (0 ≤ (pc : Int) + d ∧ K (sg_tg pc d) ls r σ) else
      match offs[(x.toInt - lo).toNat]? with
      | some off => 0 ≤ (pc : Int) + off ∧ K (sg_tg pc off) ls r σ
      | none => False
    | _ => False
  | .getfield k => match st with
    | .ref a :: r => match sg_fl (sg_mo m) k with
      | some (ci, j, _) => if a < n ∧ sg_kd a = 0 ∧ sg_ag a = ci then
          (if sg_rb ci j = true then (if sg_rf a j < n then K (pc + 3) ls (.ref (sg_rf a j) :: r) σ else False)
           else K (pc + 3) ls (.int (σ a j) :: r) σ) else False
      | none => False
    | _ => False
  | .putfield k => match st with
    | .int v :: .ref a :: r => match sg_fl (sg_mo m) k with
      | some (ci, j, _) => if a < n ∧ sg_kd a = 0 ∧ sg_ag a = ci ∧ sg_rb ci j = false ∧ sg_fb ci j = false then K (pc + 3) ls r (sg_up σ a j v) else False
      | none => False
    | _ => False
  | .getstatic k => match sg_gl (sg_mo m) k with
    | some (q, _) => if q < 3 then K (pc + 3) ls (.ref (1000 + q) :: st) σ else False
    | none => False
  | .iaload => match st with
    | .int i :: .ref a :: r => if 1000 ≤ a then (if a < 1004 then (sg_in i (sg_ro X (a - 1000)).1 ∧ K (pc + 1) ls (.int ((sg_ro X (a - 1000)).2 i.toNatClampNeg) :: r) σ) else False)
      else if a < n ∧ sg_kd a = 1 then (sg_in i (sg_ag a) ∧ K (pc + 1) ls (.int (σ a i.toNatClampNeg) :: r) σ) else False
    | _ => False
  | .iastore => match st with
    | .int v :: .int i :: .ref a :: r => if a < n ∧ sg_kd a = 1 then (sg_in i (sg_ag a) ∧ K (pc + 1) ls r (sg_up σ a i.toNatClampNeg v)) else False
    | _ => False
  | .baload => match st with
    | .int i :: .ref a :: r => if a < n ∧ sg_kd a = 2 then (sg_in i (sg_ag a) ∧ K (pc + 1) ls (.int (σ a i.toNatClampNeg) :: r) σ) else False
    | _ => False
  | .bastore => match st with
    | .int v :: .int i :: .ref a :: r => if a < n ∧ sg_kd a = 2 then (sg_in i (sg_ag a) ∧ (v = 0 ∨ v = 1) ∧ K (pc + 1) ls r (sg_up σ a i.toNatClampNeg v)) else False
    | _ => False
  | .aaload => match st with
    | .int i :: .ref a :: r => if a < n ∧ sg_kd a = 3 then (sg_in i (sg_ag a) ∧ sg_rf a i.toNatClampNeg < n ∧ K (pc + 1) ls (.ref (sg_rf a i.toNatClampNeg) :: r) σ) else False
    | _ => False
  | .arraylength => match st with
    | .ref a :: r => if 1000 ≤ a then (if a < 1004 then K (pc + 1) ls (.int (Int32.ofNat (sg_ro X (a - 1000)).1) :: r) σ else False)
      else if a < n ∧ sg_kd a = 1 then K (pc + 1) ls (.int (Int32.ofNat (sg_ag a)) :: r) σ else False
    | _ => False
  | .invokestatic k => match sg_kl (sg_mo m) k with
    | some (7, _, _) => match st with
      | .int c :: .int dp :: .ref d :: .int sp :: .ref s :: r =>
        if s < n ∧ d < n ∧ sg_kd s = 1 ∧ sg_kd d = 1 ∧ sg_wds r ≤ 8 ∧ 1 ≤ sg_fr m ∧ 30 ≤ sg_lo m then
          (0 ≤ sp.toInt ∧ 0 ≤ dp.toInt ∧ 0 ≤ c.toInt ∧ sp.toInt + c.toInt ≤ sg_ag s ∧ dp.toInt + c.toInt ≤ sg_ag d ∧
          K (pc + 3) ls r (va_up σ d (va_cpy (σ s) (σ d) sp.toNatClampNeg dp.toNatClampNeg c.toNatClampNeg))) else False
      | _ => False
    | some (kd, y, _) => if (kd = 1 ∨ kd = 4) ∧ sg_ac y ≤ st.length ∧ sg_wds (st.drop (sg_ac y)) ≤ 8 ∧ sg_rm m y ∧ ((st.take (sg_ac y)).reverse.flatMap sg_e1).length ≤ sg_ml y then KC y (st.take (sg_ac y)).reverse (pc + 3) ls (st.drop (sg_ac y)) else False
    | none => False
  | .invokevirtual k => match sg_kl (sg_mo m) k with
    | some (2, y, _) => if sg_ac y ≤ st.length ∧ sg_wds (st.drop (sg_ac y)) ≤ 8 ∧ sg_rm m y ∧ ((st.take (sg_ac y)).reverse.flatMap sg_e1).length ≤ sg_ml y then
        match (st.take (sg_ac y)).reverse with
        | .ref a :: as => if a < n ∧ sg_kd a = 0 ∧ sg_ag a = sg_mo y then KC y (.ref a :: as) (pc + 3) ls (st.drop (sg_ac y)) else False
        | _ => False
      else False
    | _ => False
  | .ireturn => match st, sg_mr m with
    | [.int v], some .int => KR (some (.int v))
    | [.int v], some .boolean => (v = 0 ∨ v = 1) ∧ KR (some (.int v))
    | _, _ => False
  | .lreturn => match st, sg_mr m with
    | [.long v], some .long => KR (some (.long v))
    | _, _ => False
  | .areturn => match st, sg_mr m with
    | [.ref a], some (.object _) => a < n ∧ KR (some (.ref a))
    | _, _ => False
  | .return_ => match st, sg_mr m with
    | [], none => KR none
    | _, _ => False
  | _ => False
