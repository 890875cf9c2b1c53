section SGD
variable {p : Program} {l : Launch} {e : Env} {R : Room} {s : State} {m : MethodId} {args : Array Value} {below : List Frame} {meth : Method} {c : Code} {M : Nat} {A : Nat → Prop} {D : va_G} {q : sg_Ci} {X : sg_X} {ra : Nat → Nat} {n0 : Nat} {ad0 : Nat → Nat} {Q : State → Prop}
variable {pc pc' : Nat} {ls ls' : sg_L} {st st' : List Value} {z z' : sg_Z} {σ σ' : sg_S}
theorem sg_step (C : sg_Cx p R s m args meth c M A D q X ra) {i : Instr} {n : Nat} (hd : decode (sg_mc M) pc = .ok (i, n)) (hn : sg_ln i n = true) (h : sg_st X M i pc ls st z σ = some (.inl (pc', ls', st', z', σ'))) (hz : z'.2.1 ≤ R.cells ∧ z'.2.2.1 ≤ R.slots) (K : sg_OK p l e R s m args below meth c M A D q ra n0 ad0 Q pc' ls' st' z' σ') : sg_OK p l e R s m args below meth c M A D q ra n0 ad0 Q pc ls st z σ := by
  have h1 : sg_ln i n = true := hn
  cases i <;> first
    | (simp only [sg_st, reduceCtorEq] at h; done)
    | exact sg_p_tableswitch C hd h K
    | (simp only [sg_ln, beq_iff_eq] at h1
       subst h1
       first
       | exact sg_p_iconst C hd h K
       | exact sg_p_bipush C hd h K
       | exact sg_p_sipush C hd h K
       | exact sg_p_lconst C hd h K
       | exact sg_p_ldc C hd h K
       | exact sg_p_ldc_w C hd h K
       | exact sg_p_ldc2_w C hd h K
       | exact sg_p_iload C hd h K
       | exact sg_p_iload_n C hd h K
       | exact sg_p_lload C hd h K
       | exact sg_p_lload_n C hd h K
       | exact sg_p_aload C hd h K
       | exact sg_p_aload_n C hd h K
       | exact sg_p_istore C hd h K
       | exact sg_p_istore_n C hd h K
       | exact sg_p_lstore C hd h K
       | exact sg_p_lstore_n C hd h K
       | exact sg_p_astore C hd h K
       | exact sg_p_astore_n C hd h K
       | exact sg_p_iinc C hd h K
       | exact sg_p_iadd C hd h K
       | exact sg_p_isub C hd h K
       | exact sg_p_imul C hd h K
       | exact sg_p_iand C hd h K
       | exact sg_p_ior C hd h K
       | exact sg_p_ixor C hd h K
       | exact sg_p_ishl C hd h K
       | exact sg_p_ishr C hd h K
       | exact sg_p_iushr C hd h K
       | exact sg_p_idiv C hd h K
       | exact sg_p_irem C hd h K
       | exact sg_p_ineg C hd h K
       | exact sg_p_i2b C hd h K
       | exact sg_p_i2s C hd h K
       | exact sg_p_i2l C hd h K
       | exact sg_p_ladd C hd h K
       | exact sg_p_lmul C hd h K
       | exact sg_p_lcmp C hd h K
       | exact sg_p_pop C hd h K
       | exact sg_p_dup C hd h K
       | exact sg_p_dup2 C hd h K
       | exact sg_p_goto C hd h K
       | exact sg_p_ifCond C hd h K
       | exact sg_p_if_icmp C hd h K
       | exact sg_p_getfield C hd h K
       | exact sg_p_putfield C hd h K
       | exact sg_p_getstatic C hd h K
       | exact sg_p_iaload C hd h K
       | exact sg_p_iastore C hd h K
       | exact sg_p_baload C hd h K
       | exact sg_p_bastore C hd h K
       | exact sg_p_aaload C hd h K
       | exact sg_p_aastore C hd h K
       | exact sg_p_arraylength C hd h K
       | exact sg_p_new C hd h hz K
       | exact sg_p_newarray C hd h hz K
       | exact sg_p_anewarray C hd h hz K
       | exact sg_p_checkcast C hd h K
       | exact sg_p_invokestatic C hd h K
       | exact sg_p_invokespecial C hd h K
       | exact sg_p_invokevirtual C hd h hz K
       | (simp only [sg_st] at h
          (repeat' split at h) <;> cases h))
end SGD
theorem sg_take_rev {st : List Value} {n : Nat} : st = (st.take n).reverse.reverse ++ st.drop n := by rw [List.reverse_reverse, List.take_append_drop]
/-- what a call is -/
theorem sg_call_inv {X : sg_X} {M pc y pc' : Nat} {i : Instr} {ls ls' : sg_L} {st as st' : List Value} {z : sg_Z} {σ : sg_S} {keep : Bool} (h : sg_st X M i pc ls st z σ = some (.inr (.inl (y, as, keep, pc', ls', st')))) :
    ls' = ls ∧ pc' = pc + 3 ∧ sg_rm M y ∧ sg_wds st' ≤ 8 ∧ st = as.reverse ++ st' ∧ as.length = sg_ac y ∧
    ((∃ k kd pl, i = .invokestatic k ∧ sg_kl (sg_mo M) k = some (kd, y, pl) ∧ (kd = 1 ∨ kd = 4) ∧ keep = false) ∨
     (∃ k pl a as', i = .invokevirtual k ∧ sg_kl (sg_mo M) k = some (2, y, pl) ∧ as = .ref a :: as' ∧ a < z.1 ∧ sg_kd a = 0 ∧ sg_ag a = sg_mo y ∧ keep = false) ∨
     (∃ k kd pl a as', i = .invokespecial k ∧ sg_kl (sg_mo M) k = some (kd, y, pl) ∧ (kd = 3 ∨ kd = 5) ∧ as = .ref a :: as' ∧ keep = true)) := by
  cases i with
  | invokestatic k =>
    simp only [sg_st] at h
    split at h
    · split at h
      · split at h <;> cases h
      · cases h
    · rename_i kd y1 pl hne hf
      split at h
      · rename_i hc
        simp only [Option.some.injEq, Sum.inr.injEq, Sum.inl.injEq, Prod.mk.injEq] at h
        obtain ⟨rfl, rfl, rfl, rfl, rfl, rfl⟩ := h
        refine ⟨rfl, rfl, hc.2.2.2, hc.2.2.1, sg_take_rev, ?_, Or.inl ⟨k, kd, pl, rfl, hf, hc.1, rfl⟩⟩
        rw [List.length_reverse, List.length_take]
        omega
      · cases h
    · cases h
  | invokevirtual k =>
    simp only [sg_st] at h
    split at h
    · split at h
      · split at h <;> cases h
      · cases h
    · rename_i kd y1 pl hne hf
      split at h
      · rename_i hc
        split at h
        · rename_i a as1 hrev
          split at h
          · rename_i hc2
            simp only [Option.some.injEq, Sum.inr.injEq, Sum.inl.injEq, Prod.mk.injEq] at h
            obtain ⟨rfl, rfl, rfl, rfl, rfl, rfl⟩ := h
            obtain ⟨rfl, h1, h2, h3⟩ := hc
            refine ⟨rfl, rfl, h3, h2, ?_, ?_, Or.inr (Or.inl ⟨k, pl, a, as1, rfl, hf, rfl, hc2.1, hc2.2.1, hc2.2.2, rfl⟩)⟩
            · rw [← hrev]; exact sg_take_rev
            · rw [← hrev, List.length_reverse, List.length_take]; omega
          · cases h
        · cases h
      · cases h
    · cases h
  | invokespecial k =>
    simp only [sg_st] at h
    split at h
    · split at h
      · split at h <;> cases h
      · cases h
    · rename_i kd y1 pl hne hf
      split at h
      · rename_i hc
        split at h
        · rename_i a as1 hrev
          simp only [Option.some.injEq, Sum.inr.injEq, Sum.inl.injEq, Prod.mk.injEq] at h
          obtain ⟨rfl, rfl, rfl, rfl, rfl, rfl⟩ := h
          obtain ⟨h0, h1, h2, h3⟩ := hc
          refine ⟨rfl, rfl, h3, h2, ?_, ?_, Or.inr (Or.inr ⟨k, kd, pl, a, as1, rfl, hf, h0, rfl, rfl⟩)⟩
          · rw [← hrev]; exact sg_take_rev
          · rw [← hrev, List.length_reverse, List.length_take]; omega
        · cases h
      · cases h
    · cases h
  | _ =>
    simp only [sg_st, sg_nx, sg_ldi, sg_ldl, sg_lda, sg_sti, sg_stl, sg_sta, sg_i1, sg_i2, sg_l2, sg_jp, reduceCtorEq] at h <;>
    (repeat' split at h) <;> cases h
