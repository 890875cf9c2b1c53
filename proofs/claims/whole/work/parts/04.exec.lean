/-! a plain machine over the fixed shapes: cells by number, ints by cell and slot -/
abbrev sg_X : Type := Nat × (Nat → Int32)
/-- the static arrays that nobody writes, and the script -/
def sg_ro (X : sg_X) (i : Nat) : sg_X := match i with
  | 0 => (6, fun j => [-200, 0, 0, 0, 0, 1].getD j 0)
  | 1 => (6, fun j => [400, 20, 20, 30, 20, 60].getD j 0)
  | 2 => (6, fun j => [100, 10, 5, 10, 5, 3].getD j 0)
  | _ => X
abbrev sg_in (i : Int32) (n : Nat) : Prop := 0 ≤ i.toInt ∧ i.toInt < (n : Int)
def sg_up (σ : sg_S) (k j : Nat) (v : Int32) : sg_S := va_up σ k (va_up (σ k) j v)
def sg_lk (lk : Nat → Nat → Bool) (k j : Nat) : Nat → Nat → Bool := va_up lk k (va_up (lk k) j true)
abbrev sg_wv (n : Nat) (v : Value) : Bool := match v with
  | .ref k => decide (k < n) || decide (1000 ≤ k)
  | .double _ => false
  | _ => true
/-- a store of a value of one word, of two -/
def sg_kill (ls : sg_L) (k : Nat) : sg_L := match k with
  | 0 => ls
  | k + 1 => match ls[k]? with
    | some (some v) => if v.category = 2 then ls.set k none else ls
    | _ => ls
def sg_s1 (ls : sg_L) (k : Nat) (v : Value) : sg_L := (sg_kill ls k).set k (some v)
def sg_s2 (ls : sg_L) (k : Nat) (v : Value) : sg_L := ((sg_kill ls k).set (k + 1) none).set k (some v)
abbrev sg_nx (pc : Nat) (ls : sg_L) (st : List Value) (z : sg_Z) (σ : sg_S) : Option sg_R := some (.inl (pc, ls, st, z, σ))
abbrev sg_ldi (ls : sg_L) (k pc : Nat) (st : List Value) (z : sg_Z) (σ : sg_S) : Option sg_R := match ls[k]? with
  | some (some (.int x)) => sg_nx pc ls (.int x :: st) z σ
  | _ => none
abbrev sg_ldl (ls : sg_L) (k pc : Nat) (st : List Value) (z : sg_Z) (σ : sg_S) : Option sg_R := match ls[k]? with
  | some (some (.long x)) => sg_nx pc ls (.long x :: st) z σ
  | _ => none
abbrev sg_lda (ls : sg_L) (k pc : Nat) (st : List Value) (z : sg_Z) (σ : sg_S) : Option sg_R := match ls[k]? with
  | some (some (.ref x)) => sg_nx pc ls (.ref x :: st) z σ
  | _ => none
abbrev sg_sti (ls : sg_L) (k nL pc : Nat) (st : List Value) (z : sg_Z) (σ : sg_S) : Option sg_R := match st with
  | .int x :: r => if k < nL then sg_nx pc (sg_s1 ls k (.int x)) r z σ else none
  | _ => none
abbrev sg_stl (ls : sg_L) (k nL pc : Nat) (st : List Value) (z : sg_Z) (σ : sg_S) : Option sg_R := match st with
  | .long x :: r => if k + 1 < nL then sg_nx pc (sg_s2 ls k (.long x)) r z σ else none
  | _ => none
abbrev sg_sta (ls : sg_L) (k nL pc : Nat) (st : List Value) (z : sg_Z) (σ : sg_S) : Option sg_R := match st with
  | .ref x :: r => if k < nL then sg_nx pc (sg_s1 ls k (.ref x)) r z σ else none
  | _ => none
abbrev sg_i2 (g : Int32 → Int32 → Int32) (pc : Nat) (ls : sg_L) (st : List Value) (z : sg_Z) (σ : sg_S) : Option sg_R := match st with
  | .int y :: .int x :: r => sg_nx pc ls (.int (g x y) :: r) z σ
  | _ => none
abbrev sg_i1 (g : Int32 → Int32) (pc : Nat) (ls : sg_L) (st : List Value) (z : sg_Z) (σ : sg_S) : Option sg_R := match st with
  | .int x :: r => sg_nx pc ls (.int (g x) :: r) z σ
  | _ => none
abbrev sg_l2 (g : Int64 → Int64 → Int64) (pc : Nat) (ls : sg_L) (st : List Value) (z : sg_Z) (σ : sg_S) : Option sg_R := match st with
  | .long y :: .long x :: r => sg_nx pc ls (.long (g x y) :: r) z σ
  | _ => none
def sg_cmp (c : ClassFile.Cond) (x y : Int32) : Bool := match c with
  | .eq => decide (x = y)
  | .ne => !decide (x = y)
  | .lt => decide (x < y)
  | .ge => decide (y ≤ x)
  | .gt => decide (y < x)
  | .le => decide (x ≤ y)
abbrev sg_tg (pc : Nat) (off : Int) : Nat := ((pc : Int) + off).toNat
/-- a jump: its target isn't before the first byte -/
abbrev sg_jp (b : Bool) (pc : Nat) (off : Int) (ls : sg_L) (st : List Value) (z : sg_Z) (σ : sg_S) : Option sg_R :=
  if 0 ≤ (pc : Int) + off then some (.inl (cond b (sg_tg pc off) (pc + 3), ls, st, z, σ)) else none
abbrev sg_wds (st : List Value) : Nat := (st.map fun v => v.category).sum
/-- the room that a call wants -/
abbrev sg_rm (m y : Nat) : Prop := sg_fr y + 1 ≤ sg_fr m ∧ 8 + (sg_ml y + 11) + sg_lo y ≤ sg_lo m ∧ y < 203
def sg_st (X : sg_X) (m : Nat) (i : Instr) (pc : Nat) (ls : sg_L) (st : List Value) (z : sg_Z) (σ : sg_S) : Option sg_R :=
  match i with
  | .iconst k => sg_nx (pc + 1) ls (.int (Int32.ofInt k) :: st) z σ
  | .bipush k => sg_nx (pc + 2) ls (.int (Int8.ofInt k).toInt32 :: st) z σ
  | .sipush k => sg_nx (pc + 3) ls (.int (Int16.ofInt k).toInt32 :: st) z σ
  | .lconst k => sg_nx (pc + 1) ls (.long (Int64.ofNat k) :: st) z σ
  | .ldc k => match sg_il (sg_mo m) k with
    | some e => sg_nx (pc + 2) ls (.int e.1 :: st) z σ
    | _ => none
  | .ldc_w k => match sg_il (sg_mo m) k with
    | some e => sg_nx (pc + 3) ls (.int e.1 :: st) z σ
    | _ => none
  | .ldc2_w k => match sg_jl (sg_mo m) k with
    | some e => sg_nx (pc + 3) ls (.long e.1 :: st) z σ
    | _ => none
  | .iload k => sg_ldi ls k (pc + 2) st z σ
  | .iload_n k => sg_ldi ls k.val (pc + 1) st z σ
  | .lload k => sg_ldl ls k (pc + 2) st z σ
  | .lload_n k => sg_ldl ls k.val (pc + 1) st z σ
  | .aload k => sg_lda ls k (pc + 2) st z σ
  | .aload_n k => sg_lda ls k.val (pc + 1) st z σ
  | .istore k => sg_sti ls k (sg_ml m) (pc + 2) st z σ
  | .istore_n k => sg_sti ls k.val (sg_ml m) (pc + 1) st z σ
  | .lstore k => sg_stl ls k (sg_ml m) (pc + 2) st z σ
  | .lstore_n k => sg_stl ls k.val (sg_ml m) (pc + 1) st z σ
  | .astore k => sg_sta ls k (sg_ml m) (pc + 2) st z σ
  | .astore_n k => sg_sta ls k.val (sg_ml m) (pc + 1) st z σ
  | .iinc k c => match ls[k]? with
    | some (some (.int x)) => if k < sg_ml m then sg_nx (pc + 3) (sg_s1 ls k (.int (x + Int32.ofInt c))) st z σ else none
    | _ => none
  | .iadd => sg_i2 (fun x y => x + y) (pc + 1) ls st z σ
  | .isub => sg_i2 (fun x y => x - y) (pc + 1) ls st z σ
  | .imul => sg_i2 (fun x y => x * y) (pc + 1) ls st z σ
  | .iand => sg_i2 (fun x y => x &&& y) (pc + 1) ls st z σ
  | .ior => sg_i2 (fun x y => x ||| y) (pc + 1) ls st z σ
  | .ixor => sg_i2 (fun x y => x ^^^ y) (pc + 1) ls st z σ
  | .ishl => sg_i2 (fun x y => x <<< (y &&& 31)) (pc + 1) ls st z σ
  | .ishr => sg_i2 (fun x y => x >>> (y &&& 31)) (pc + 1) ls st z σ
  | .iushr => sg_i2 (fun x y => (x.toUInt32 >>> (y.toUInt32 &&& Int32.toUInt32 31)).toInt32) (pc + 1) ls st z σ
  | .idiv => match st with
    | .int y :: .int x :: r => if ¬ y = 0 then sg_nx (pc + 1) ls (.int (x / y) :: r) z σ else none
    | _ => none
  | .irem => match st with
    | .int y :: .int x :: r => if ¬ y = 0 then sg_nx (pc + 1) ls (.int (x - x / y * y) :: r) z σ else none
    | _ => none
  | .ineg => sg_i1 (fun x => -x) (pc + 1) ls st z σ
  | .i2b => sg_i1 (fun x => x.toInt8.toInt32) (pc + 1) ls st z σ
  | .i2s => sg_i1 (fun x => x.toInt16.toInt32) (pc + 1) ls st z σ
  | .i2l => match st with
    | .int x :: r => sg_nx (pc + 1) ls (.long x.toInt64 :: r) z σ
    | _ => none
  | .ladd => sg_l2 (fun x y => x + y) (pc + 1) ls st z σ
  | .lmul => sg_l2 (fun x y => x * y) (pc + 1) ls st z σ
  | .lcmp => match st with
    | .long y :: .long x :: r => sg_nx (pc + 1) ls (.int (lg_cmp x y) :: r) z σ
    | _ => none
  | .pop => match st with
    | v :: r => if v.category = 1 then sg_nx (pc + 1) ls r z σ else none
    | _ => none
  | .dup => match st with
    | v :: r => if v.category = 1 then sg_nx (pc + 1) ls (v :: v :: r) z σ else none
    | _ => none
  | .dup2 => match st with
    | v :: w :: r => if v.category = 1 ∧ w.category = 1 then sg_nx (pc + 1) ls (v :: w :: v :: w :: r) z σ else none
    | _ => none
  | .goto off => if 0 ≤ (pc : Int) + off then sg_nx (sg_tg pc off) ls st z σ else none
  | .ifCond c off => match st with
    | .int x :: r => sg_jp (sg_cmp c x 0) pc off ls r z σ
    | _ => none
  | .if_icmp c off => match st with
    | .int y :: .int x :: r => sg_jp (sg_cmp c x y) pc off ls r z σ
    | _ => none
  | .tableswitch d lo hi offs => match st with
    | .int x :: r => if x.toInt < lo ∨ hi < x.toInt then (if 0 ≤ (pc : Int) + d then sg_nx (sg_tg pc d) ls r z σ else none) else
      match offs[(x.toInt - lo).toNat]? with
      | some off => if 0 ≤ (pc : Int) + off then sg_nx (sg_tg pc off) ls r z σ else none
      | none => none
    | _ => none
  | .getfield k => match st with
    | .ref a :: r => match sg_fl (sg_mo m) k with
      | some (ci, j, _) => if a < z.1 ∧ sg_kd a = 0 ∧ sg_ag a = ci then
          (if sg_rb ci j = true then (if z.2.2.2 a j = true ∧ sg_rf a j < z.1 then sg_nx (pc + 3) ls (.ref (sg_rf a j) :: r) z σ else none)
           else sg_nx (pc + 3) ls (.int (σ a j) :: r) z σ) else none
      | none => none
    | _ => none
  | .putfield k => match st with
    | .int v :: .ref a :: r => match sg_fl (sg_mo m) k with
      | some (ci, j, _) => if a < z.1 ∧ sg_kd a = 0 ∧ sg_ag a = ci ∧ sg_rb ci j = false ∧ sg_fb ci j = false then sg_nx (pc + 3) ls r z (sg_up σ a j v) else none
      | none => none
    | .ref b :: .ref a :: r => match sg_fl (sg_mo m) k with
      | some (ci, j, _) => if a < z.1 ∧ sg_kd a = 0 ∧ sg_ag a = ci ∧ sg_rb ci j = true ∧ sg_fb ci j = true ∧ b = sg_rf a j ∧ b < z.1 ∧ (sg_my m).name = "<init>" ∧ sg_mo m = ci then sg_nx (pc + 3) ls r (z.1, z.2.1, z.2.2.1, sg_lk z.2.2.2 a j) σ else none
      | none => none
    | _ => none
  | .getstatic k => match sg_gl (sg_mo m) k with
    | some (q, _) => if q < 3 then sg_nx (pc + 3) ls (.ref (1000 + q) :: st) z σ else none
    | none => none
  | .iaload => match st with
    | .int i :: .ref a :: r => if 1000 ≤ a then (if a < 1004 ∧ sg_in i (sg_ro X (a - 1000)).1 then sg_nx (pc + 1) ls (.int ((sg_ro X (a - 1000)).2 i.toNatClampNeg) :: r) z σ else none)
      else if a < z.1 ∧ sg_kd a = 1 ∧ sg_in i (sg_ag a) then sg_nx (pc + 1) ls (.int (σ a i.toNatClampNeg) :: r) z σ else none
    | _ => none
  | .iastore => match st with
    | .int v :: .int i :: .ref a :: r => if a < z.1 ∧ sg_kd a = 1 ∧ sg_in i (sg_ag a) then sg_nx (pc + 1) ls r z (sg_up σ a i.toNatClampNeg v) else none
    | _ => none
  | .baload => match st with
    | .int i :: .ref a :: r => if a < z.1 ∧ sg_kd a = 2 ∧ sg_in i (sg_ag a) then sg_nx (pc + 1) ls (.int (σ a i.toNatClampNeg) :: r) z σ else none
    | _ => none
  | .bastore => match st with
    | .int v :: .int i :: .ref a :: r => if a < z.1 ∧ sg_kd a = 2 ∧ sg_in i (sg_ag a) ∧ (v = 0 ∨ v = 1) then sg_nx (pc + 1) ls r z (sg_up σ a i.toNatClampNeg v) else none
    | _ => none
  | .aaload => match st with
    | .int i :: .ref a :: r => if a < z.1 ∧ sg_kd a = 3 ∧ sg_in i (sg_ag a) ∧ z.2.2.2 a i.toNatClampNeg = true ∧ sg_rf a i.toNatClampNeg < z.1 then sg_nx (pc + 1) ls (.ref (sg_rf a i.toNatClampNeg) :: r) z σ else none
    | _ => none
  | .aastore => match st with
    | .ref b :: .int i :: .ref a :: r => if a < z.1 ∧ sg_kd a = 3 ∧ sg_in i (sg_ag a) ∧ b = sg_rf a i.toNatClampNeg ∧ b < z.1 ∧ sg_kd b = 0 ∧ sg_ag b = 2 then sg_nx (pc + 1) ls r (z.1, z.2.1, z.2.2.1, sg_lk z.2.2.2 a i.toNatClampNeg) σ else none
    | _ => none
  | .arraylength => match st with
    | .ref a :: r => if 1000 ≤ a then (if a < 1004 then sg_nx (pc + 1) ls (.int (Int32.ofNat (sg_ro X (a - 1000)).1) :: r) z σ else none)
      else if a < z.1 ∧ sg_kd a = 1 then sg_nx (pc + 1) ls (.int (Int32.ofNat (sg_ag a)) :: r) z σ else none
    | _ => none
  | .new k => match sg_nl (sg_mo m) k with
    | some (ci, _) => if z.1 < 1000 ∧ sg_kd z.1 = 0 ∧ sg_ag z.1 = ci ∧ (List.range (sg_nf ci)).all (fun j => !(sg_rb ci j) || !(z.2.2.2 z.1 j)) = true then
        sg_nx (pc + 3) ls (.ref z.1 :: st) (z.1 + 1, z.2.1 + 1, z.2.2.1 + sg_nf ci, z.2.2.2) (va_up σ z.1 (fun _ => 0)) else none
    | none => none
  | .newarray t => match st with
    | .int c :: r => if z.1 < 1000 ∧ ((t = .int ∧ sg_kd z.1 = 1) ∨ (t = .boolean ∧ sg_kd z.1 = 2)) ∧ 0 ≤ c.toInt ∧ c.toInt = sg_ag z.1 ∧ sg_ag z.1 ≤ 1000 then
        sg_nx (pc + 2) ls (.ref z.1 :: r) (z.1 + 1, z.2.1 + 1, z.2.2.1 + sg_ag z.1, z.2.2.2) (va_up σ z.1 (fun _ => 0)) else none
    | _ => none
  | .anewarray k => match st with
    | .int c :: r => match sg_nl (sg_mo m) k with
      | some (ci, _) => if z.1 < 1000 ∧ ci = 2 ∧ sg_kd z.1 = 3 ∧ 0 ≤ c.toInt ∧ c.toInt = sg_ag z.1 ∧ sg_ag z.1 ≤ 1000 ∧ (List.range (sg_ag z.1)).all (fun j => !(z.2.2.2 z.1 j)) = true then
          sg_nx (pc + 3) ls (.ref z.1 :: r) (z.1 + 1, z.2.1 + 1, z.2.2.1 + sg_ag z.1, z.2.2.2) σ else none
      | none => none
    | _ => none
  | .checkcast k => match st with
    | .ref a :: r => if sg_mo m = 1 ∧ k = 22 ∧ a < z.1 ∧ sg_kd a = 1 then sg_nx (pc + 3) ls (.ref a :: r) z σ else none
    | _ => none
  | .invokestatic k => match sg_kl (sg_mo m) k with
    | some (7, _, _) => match st with
      | .int c :: .int dp :: .ref d :: .int sp :: .ref s :: r =>
        if s < z.1 ∧ d < z.1 ∧ sg_kd s = 1 ∧ sg_kd d = 1 ∧ 0 ≤ sp.toInt ∧ 0 ≤ dp.toInt ∧ 0 ≤ c.toInt ∧ sp.toInt + c.toInt ≤ sg_ag s ∧ dp.toInt + c.toInt ≤ sg_ag d ∧ sg_wds r ≤ 8 ∧ 1 ≤ sg_fr m ∧ 30 ≤ sg_lo m then
          sg_nx (pc + 3) ls r z (va_up σ d (va_cpy (σ s) (σ d) sp.toNatClampNeg dp.toNatClampNeg c.toNatClampNeg)) else none
      | _ => none
    | some (kd, y, _) => if (kd = 1 ∨ kd = 4) ∧ sg_ac y ≤ st.length ∧ sg_wds (st.drop (sg_ac y)) ≤ 8 ∧ sg_rm m y then some (.inr (.inl (y, (st.take (sg_ac y)).reverse, false, pc + 3, ls, st.drop (sg_ac y)))) else none
    | none => none
  | .invokevirtual k => match sg_kl (sg_mo m) k with
    | some (8, _, _) => match st with
      | .ref a :: r => if a = 1002 ∧ sg_mo m = 1 ∧ z.1 < 1000 ∧ sg_kd z.1 = 1 ∧ sg_ag z.1 = 6 ∧ sg_wds r ≤ 8 ∧ 1 ≤ sg_fr m ∧ 30 ≤ sg_lo m then
          sg_nx (pc + 3) ls (.ref z.1 :: r) (z.1 + 1, z.2.1 + 1, z.2.2.1 + 6, z.2.2.2) (va_up σ z.1 (sg_ro X 2).2) else none
      | _ => none
    | some (kd, y, _) => if kd = 2 ∧ sg_ac y ≤ st.length ∧ sg_wds (st.drop (sg_ac y)) ≤ 8 ∧ sg_rm m y then
        match (st.take (sg_ac y)).reverse with
        | .ref a :: as => if a < z.1 ∧ sg_kd a = 0 ∧ sg_ag a = sg_mo y then some (.inr (.inl (y, .ref a :: as, false, pc + 3, ls, st.drop (sg_ac y)))) else none
        | _ => none
      else none
    | none => none
  | .invokespecial k => match sg_kl (sg_mo m) k with
    | some (6, _, _) => match st with
      | .ref a :: r => if sg_wds r ≤ 8 ∧ 1 ≤ sg_fr m ∧ 30 ≤ sg_lo m then sg_nx (pc + 3) ls r z σ else none
      | _ => none
    | some (kd, y, _) => if (kd = 3 ∨ kd = 5) ∧ sg_ac y ≤ st.length ∧ sg_wds (st.drop (sg_ac y)) ≤ 8 ∧ sg_rm m y then
        match (st.take (sg_ac y)).reverse with
        | .ref a :: as => some (.inr (.inl (y, .ref a :: as, true, pc + 3, ls, st.drop (sg_ac y))))
        | _ => none
      else none
    | none => none
  | .ireturn => match st, sg_mr m with
    | [.int v], some .int => some (.inr (.inr (some (.int v))))
    | [.int v], some .boolean => if v = 0 ∨ v = 1 then some (.inr (.inr (some (.int v)))) else none
    | _, _ => none
  | .lreturn => match st, sg_mr m with
    | [.long v], some .long => some (.inr (.inr (some (.long v))))
    | _, _ => none
  | .areturn => match st, sg_mr m with
    | [.ref a], some (.object _) => some (.inr (.inr (some (.ref a))))
    | _, _ => none
  | .return_ => match st, sg_mr m with
    | [], none => some (.inr (.inr none))
    | _, _ => none
  | _ => none
/-- how long an instruction is -/
def sg_ln (i : Instr) (n : Nat) : Bool := match i with
  | .bipush _ | .ldc _ | .iload _ | .lload _ | .aload _ | .istore _ | .lstore _ | .astore _ | .newarray _ => n == 2
  | .sipush _ | .ldc_w _ | .ldc2_w _ | .iinc _ _ | .goto _ | .ifCond _ _ | .if_icmp _ _ | .getfield _ | .putfield _ | .getstatic _ | .new _ | .anewarray _ | .checkcast _ | .invokestatic _ | .invokevirtual _ | .invokespecial _ => n == 3
  | .tableswitch _ _ _ _ => true
  | _ => n == 1
/-- a method's first locals -/
def sg_e1 (v : Value) : List (Option Value) := match v with
  | .long x => [some (.long x), none]
  | v => [some v]
def sg_en (as : List Value) (n : Nat) : sg_L := as.flatMap sg_e1 ++ List.replicate (n - (as.flatMap sg_e1).length) none
/-- a slot that holds a reference -/
def sg_is (k j : Nat) : Bool := (decide (sg_kd k = 0) && sg_rb (sg_ag k) j) || (decide (sg_kd k = 3) && decide (j < sg_ag k))
/-- the cells before n know those before n alone -/
def sg_lic (n : Nat) (lk : Nat → Nat → Bool) : Bool := (List.range n).all fun k => (List.range 49).all fun j => !(lk k j) || (!(sg_is k j) || decide (sg_rf k j < n))
def sg_ex (X : sg_X) : Nat → Nat → Nat → sg_L → List Value → sg_Z → sg_S → Option (Option Value × sg_Z × sg_S)
  | 0, _, _, _, _, _, _ => none
  | f + 1, m, pc, ls, st, z, σ => match decode (sg_mc m) pc with
    | .ok (i, n) => if sg_ln i n = true then match sg_st X m i pc ls st z σ with
      | some (.inl (pc', ls', st', z', σ')) => sg_ex X f m pc' ls' st' z' σ'
      | some (.inr (.inl (y, as, keep, pc', ls', st'))) => match sg_ex X f y 0 (sg_en as (sg_ml y)) [] (z.1, 0, 0, z.2.2.2) σ with
        | some (r, z', σ') => if (r.all (sg_wv z.1)) = true ∧ z.1 ≤ z'.1 ∧ (keep || sg_lic z.1 z'.2.2.2) = true ∧ (as.flatMap sg_e1).length ≤ sg_ml y then
            sg_ex X f m pc' ls' (r.toList ++ st') (cond keep z'.1 z.1, z.2.1 + z'.2.1, z.2.2.1 + z'.2.2.1, z'.2.2.2) σ' else none
        | none => none
      | some (.inr (.inr r)) => some (r, z, σ)
      | none => none
      else none
    | _ => none
