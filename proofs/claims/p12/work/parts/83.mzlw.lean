noncomputable section
/-- any step as a step of the fast engine -/
def zgn (s : ab_St → Option (List (Nat × ab_St))) : zF := fun K n e h L sk => @Option.rec (List (Nat × ab_St)) (fun _ => Bool) false (fun sl => zall (zKs K) sl) (s (n, e, h, L, sk))
theorem zgn_ok {s : ab_St → Option (List (Nat × ab_St))} {K : zK} {n : Nat} {e : ab_En} {h : ab_AH} {L sk : List ab_SV} (hk : zgn s K n e h L sk = true) : ∃ sl, s (n, e, h, L, sk) = some sl ∧ ∀ x ∈ sl, zKs K x = true := by
  obtain ⟨sl, h1, h2⟩ := zl_o hk
  exact ⟨sl, h1, zall_in h2⟩
def zsm (co : Jvm.ClassFile.Cond) (off : Int) (len pc : Nat) (d : Option zF) : zF := fun K n e h L sk => @Option.rec (List (Nat × ab_St)) (fun _ => Bool) (@Option.rec zF (fun _ => Bool) false (fun g => g K n e h L sk) d) (fun sl => @Bool.rec (fun _ => Bool) false (zall (zKs K) sl) (Nat.beq len 3)) (lw_same co off pc (n, e, h, L, sk))
theorem zob {c : Bool} {a b : Option zF} {g : zF} (h : @Bool.rec (fun _ => Option zF) a b c = some g) : (c = true ∧ b = some g) ∨ (c = false ∧ a = some g) := by
  cases c with
  | true => exact Or.inl ⟨rfl, h⟩
  | false => exact Or.inr ⟨rfl, h⟩
/-- the law's rows -/
def zlw (tb : List (Nat × Instr × Nat)) (nw : Nat → ab_St → Option (List (Nat × ab_St))) (dc : Instr → Nat → Nat → Option zF) (i : Instr) (len pc : Nat) : Option zF := @Instr.rec (fun _ => Option zF)
  (dc (.aaload) len pc)
  (dc (.aastore) len pc)
  (dc (.aconst_null) len pc)
  (fun a0 => dc (.aload a0) len pc)
  (fun a0 => @Bool.rec (fun _ => Option zF) (dc (.aload_n a0) len pc) (@Bool.rec (fun _ => Option zF) none (some (zgn (lw_mac tb pc))) (Nat.beq len 1)) (Nat.beq a0.val 0))
  (fun a0 => dc (.anewarray a0) len pc)
  (dc (.areturn) len pc)
  (dc (.arraylength) len pc)
  (fun a0 => dc (.astore a0) len pc)
  (fun a0 => dc (.astore_n a0) len pc)
  (dc (.athrow) len pc)
  (dc (.baload) len pc)
  (dc (.bastore) len pc)
  (fun a0 => dc (.bipush a0) len pc)
  (dc (.caload) len pc)
  (dc (.castore) len pc)
  (fun a0 => dc (.checkcast a0) len pc)
  (dc (.d2f) len pc)
  (dc (.d2i) len pc)
  (dc (.d2l) len pc)
  (dc (.dadd) len pc)
  (dc (.daload) len pc)
  (dc (.dastore) len pc)
  (fun a0 => dc (.dcmp a0) len pc)
  (fun a0 => dc (.dconst a0) len pc)
  (dc (.ddiv) len pc)
  (fun a0 => dc (.dload a0) len pc)
  (fun a0 => dc (.dload_n a0) len pc)
  (dc (.dmul) len pc)
  (dc (.dneg) len pc)
  (dc (.drem) len pc)
  (dc (.dreturn) len pc)
  (fun a0 => dc (.dstore a0) len pc)
  (fun a0 => dc (.dstore_n a0) len pc)
  (dc (.dsub) len pc)
  (dc (.dup) len pc)
  (dc (.dup_x1) len pc)
  (dc (.dup_x2) len pc)
  (dc (.dup2) len pc)
  (dc (.dup2_x1) len pc)
  (dc (.dup2_x2) len pc)
  (dc (.f2d) len pc)
  (dc (.f2i) len pc)
  (dc (.f2l) len pc)
  (dc (.fadd) len pc)
  (dc (.faload) len pc)
  (dc (.fastore) len pc)
  (fun a0 => dc (.fcmp a0) len pc)
  (fun a0 => dc (.fconst a0) len pc)
  (dc (.fdiv) len pc)
  (fun a0 => dc (.fload a0) len pc)
  (fun a0 => dc (.fload_n a0) len pc)
  (dc (.fmul) len pc)
  (dc (.fneg) len pc)
  (dc (.frem) len pc)
  (dc (.freturn) len pc)
  (fun a0 => dc (.fstore a0) len pc)
  (fun a0 => dc (.fstore_n a0) len pc)
  (dc (.fsub) len pc)
  (fun a0 => dc (.getfield a0) len pc)
  (fun a0 => dc (.getstatic a0) len pc)
  (fun a0 => dc (.goto a0) len pc)
  (fun a0 => dc (.goto_w a0) len pc)
  (dc (.i2b) len pc)
  (dc (.i2c) len pc)
  (dc (.i2d) len pc)
  (dc (.i2f) len pc)
  (dc (.i2l) len pc)
  (dc (.i2s) len pc)
  (dc (.iadd) len pc)
  (dc (.iaload) len pc)
  (dc (.iand) len pc)
  (dc (.iastore) len pc)
  (fun a0 => dc (.iconst a0) len pc)
  (dc (.idiv) len pc)
  (fun a0 a1 => dc (.if_acmp a0 a1) len pc)
  (fun a0 a1 => some (zsm a0 a1 len pc (dc (.if_icmp a0 a1) len pc)))
  (fun a0 a1 => dc (.ifCond a0 a1) len pc)
  (fun a0 => dc (.ifnonnull a0) len pc)
  (fun a0 => dc (.ifnull a0) len pc)
  (fun a0 a1 => dc (.iinc a0 a1) len pc)
  (fun a0 => dc (.iload a0) len pc)
  (fun a0 => dc (.iload_n a0) len pc)
  (dc (.imul) len pc)
  (dc (.ineg) len pc)
  (fun a0 => dc (.instanceof a0) len pc)
  (fun a0 => dc (.invokedynamic a0) len pc)
  (fun a0 a1 => dc (.invokeinterface a0 a1) len pc)
  (fun a0 => dc (.invokespecial a0) len pc)
  (fun a0 => @Bool.rec (fun _ => Option zF) (dc (.invokestatic a0) len pc) (@Bool.rec (fun _ => Option zF) none (some (zgn (nw pc))) (Nat.beq len 3)) (Nat.beq a0 109))
  (fun a0 => dc (.invokevirtual a0) len pc)
  (dc (.ior) len pc)
  (dc (.irem) len pc)
  (dc (.ireturn) len pc)
  (dc (.ishl) len pc)
  (dc (.ishr) len pc)
  (fun a0 => dc (.istore a0) len pc)
  (fun a0 => dc (.istore_n a0) len pc)
  (dc (.isub) len pc)
  (dc (.iushr) len pc)
  (dc (.ixor) len pc)
  (fun a0 => dc (.jsr a0) len pc)
  (fun a0 => dc (.jsr_w a0) len pc)
  (dc (.l2d) len pc)
  (dc (.l2f) len pc)
  (dc (.l2i) len pc)
  (dc (.ladd) len pc)
  (dc (.laload) len pc)
  (dc (.land) len pc)
  (dc (.lastore) len pc)
  (dc (.lcmp) len pc)
  (fun a0 => dc (.lconst a0) len pc)
  (fun a0 => dc (.ldc a0) len pc)
  (fun a0 => dc (.ldc_w a0) len pc)
  (fun a0 => dc (.ldc2_w a0) len pc)
  (dc (.ldiv) len pc)
  (fun a0 => dc (.lload a0) len pc)
  (fun a0 => dc (.lload_n a0) len pc)
  (dc (.lmul) len pc)
  (dc (.lneg) len pc)
  (fun a0 a1 => dc (.lookupswitch a0 a1) len pc)
  (dc (.lor) len pc)
  (dc (.lrem) len pc)
  (dc (.lreturn) len pc)
  (dc (.lshl) len pc)
  (dc (.lshr) len pc)
  (fun a0 => dc (.lstore a0) len pc)
  (fun a0 => dc (.lstore_n a0) len pc)
  (dc (.lsub) len pc)
  (dc (.lushr) len pc)
  (dc (.lxor) len pc)
  (dc (.monitorenter) len pc)
  (dc (.monitorexit) len pc)
  (fun a0 a1 => dc (.multianewarray a0 a1) len pc)
  (fun a0 => dc (.new a0) len pc)
  (fun a0 => dc (.newarray a0) len pc)
  (dc (.nop) len pc)
  (dc (.pop) len pc)
  (dc (.pop2) len pc)
  (fun a0 => dc (.putfield a0) len pc)
  (fun a0 => dc (.putstatic a0) len pc)
  (fun a0 => dc (.ret a0) len pc)
  (dc (.return_) len pc)
  (dc (.saload) len pc)
  (dc (.sastore) len pc)
  (fun a0 => dc (.sipush a0) len pc)
  (dc (.swap) len pc)
  (fun a0 a1 a2 a3 => dc (.tableswitch a0 a1 a2 a3) len pc)
  i
theorem zlw_ok {tb : List (Nat × Instr × Nat)} {nw : Nat → ab_St → Option (List (Nat × ab_St))} {dc : Instr → Nat → Nat → Option zF} {stp : Instr → Nat → Nat → ab_St → Option (List (Nat × ab_St))} (hdc : ∀ i len pc g, dc i len pc = some g → zSp g (stp i len pc)) (i : Instr) (len pc : Nat) (g : zF) (h : zlw tb nw dc i len pc = some g) : zSp g (lw_stp tb stp nw i len pc) := by
  intro K n e hp L sk hk
  cases i
  case aaload =>
    exact hdc _ _ _ _ h K n e hp L sk hk
  case aastore =>
    exact hdc _ _ _ _ h K n e hp L sk hk
  case aconst_null =>
    exact hdc _ _ _ _ h K n e hp L sk hk
  case aload a0 =>
    exact hdc _ _ _ _ h K n e hp L sk hk
  case aload_n a0 =>
    show ∃ sl, (bif Nat.beq a0.val 0 then (bif Nat.beq len 1 then lw_mac tb pc (n, e, hp, L, sk) else none) else stp (.aload_n a0) len pc (n, e, hp, L, sk)) = some sl ∧ _
    rcases zob (c := Nat.beq a0.val 0) h with ⟨q, h⟩ | ⟨q, h⟩
    · rcases zob (c := Nat.beq len 1) h with ⟨q2, h⟩ | ⟨q2, h⟩
      · obtain ⟨sl, k1, k2⟩ := zgn_ok (by rw [Option.some.inj h]; exact hk)
        exact ⟨sl, by rw [q, q2]; exact k1, k2⟩
      · cases h
    · obtain ⟨sl, k1, k2⟩ := hdc _ _ _ _ h K n e hp L sk hk
      exact ⟨sl, by rw [q]; exact k1, k2⟩
  case anewarray a0 =>
    exact hdc _ _ _ _ h K n e hp L sk hk
  case areturn =>
    exact hdc _ _ _ _ h K n e hp L sk hk
  case arraylength =>
    exact hdc _ _ _ _ h K n e hp L sk hk
  case astore a0 =>
    exact hdc _ _ _ _ h K n e hp L sk hk
  case astore_n a0 =>
    exact hdc _ _ _ _ h K n e hp L sk hk
  case athrow =>
    exact hdc _ _ _ _ h K n e hp L sk hk
  case baload =>
    exact hdc _ _ _ _ h K n e hp L sk hk
  case bastore =>
    exact hdc _ _ _ _ h K n e hp L sk hk
  case bipush a0 =>
    exact hdc _ _ _ _ h K n e hp L sk hk
  case caload =>
    exact hdc _ _ _ _ h K n e hp L sk hk
  case castore =>
    exact hdc _ _ _ _ h K n e hp L sk hk
  case checkcast a0 =>
    exact hdc _ _ _ _ h K n e hp L sk hk
  case d2f =>
    exact hdc _ _ _ _ h K n e hp L sk hk
  case d2i =>
    exact hdc _ _ _ _ h K n e hp L sk hk
  case d2l =>
    exact hdc _ _ _ _ h K n e hp L sk hk
  case dadd =>
    exact hdc _ _ _ _ h K n e hp L sk hk
  case daload =>
    exact hdc _ _ _ _ h K n e hp L sk hk
  case dastore =>
    exact hdc _ _ _ _ h K n e hp L sk hk
  case dcmp a0 =>
    exact hdc _ _ _ _ h K n e hp L sk hk
  case dconst a0 =>
    exact hdc _ _ _ _ h K n e hp L sk hk
  case ddiv =>
    exact hdc _ _ _ _ h K n e hp L sk hk
  case dload a0 =>
    exact hdc _ _ _ _ h K n e hp L sk hk
  case dload_n a0 =>
    exact hdc _ _ _ _ h K n e hp L sk hk
  case dmul =>
    exact hdc _ _ _ _ h K n e hp L sk hk
  case dneg =>
    exact hdc _ _ _ _ h K n e hp L sk hk
  case drem =>
    exact hdc _ _ _ _ h K n e hp L sk hk
  case dreturn =>
    exact hdc _ _ _ _ h K n e hp L sk hk
  case dstore a0 =>
    exact hdc _ _ _ _ h K n e hp L sk hk
  case dstore_n a0 =>
    exact hdc _ _ _ _ h K n e hp L sk hk
  case dsub =>
    exact hdc _ _ _ _ h K n e hp L sk hk
  case dup =>
    exact hdc _ _ _ _ h K n e hp L sk hk
  case dup_x1 =>
    exact hdc _ _ _ _ h K n e hp L sk hk
  case dup_x2 =>
    exact hdc _ _ _ _ h K n e hp L sk hk
  case dup2 =>
    exact hdc _ _ _ _ h K n e hp L sk hk
  case dup2_x1 =>
    exact hdc _ _ _ _ h K n e hp L sk hk
  case dup2_x2 =>
    exact hdc _ _ _ _ h K n e hp L sk hk
  case f2d =>
    exact hdc _ _ _ _ h K n e hp L sk hk
  case f2i =>
    exact hdc _ _ _ _ h K n e hp L sk hk
  case f2l =>
    exact hdc _ _ _ _ h K n e hp L sk hk
  case fadd =>
    exact hdc _ _ _ _ h K n e hp L sk hk
  case faload =>
    exact hdc _ _ _ _ h K n e hp L sk hk
  case fastore =>
    exact hdc _ _ _ _ h K n e hp L sk hk
  case fcmp a0 =>
    exact hdc _ _ _ _ h K n e hp L sk hk
  case fconst a0 =>
    exact hdc _ _ _ _ h K n e hp L sk hk
  case fdiv =>
    exact hdc _ _ _ _ h K n e hp L sk hk
  case fload a0 =>
    exact hdc _ _ _ _ h K n e hp L sk hk
  case fload_n a0 =>
    exact hdc _ _ _ _ h K n e hp L sk hk
  case fmul =>
    exact hdc _ _ _ _ h K n e hp L sk hk
  case fneg =>
    exact hdc _ _ _ _ h K n e hp L sk hk
  case frem =>
    exact hdc _ _ _ _ h K n e hp L sk hk
  case freturn =>
    exact hdc _ _ _ _ h K n e hp L sk hk
  case fstore a0 =>
    exact hdc _ _ _ _ h K n e hp L sk hk
  case fstore_n a0 =>
    exact hdc _ _ _ _ h K n e hp L sk hk
  case fsub =>
    exact hdc _ _ _ _ h K n e hp L sk hk
  case getfield a0 =>
    exact hdc _ _ _ _ h K n e hp L sk hk
  case getstatic a0 =>
    exact hdc _ _ _ _ h K n e hp L sk hk
  case goto a0 =>
    exact hdc _ _ _ _ h K n e hp L sk hk
  case goto_w a0 =>
    exact hdc _ _ _ _ h K n e hp L sk hk
  case i2b =>
    exact hdc _ _ _ _ h K n e hp L sk hk
  case i2c =>
    exact hdc _ _ _ _ h K n e hp L sk hk
  case i2d =>
    exact hdc _ _ _ _ h K n e hp L sk hk
  case i2f =>
    exact hdc _ _ _ _ h K n e hp L sk hk
  case i2l =>
    exact hdc _ _ _ _ h K n e hp L sk hk
  case i2s =>
    exact hdc _ _ _ _ h K n e hp L sk hk
  case iadd =>
    exact hdc _ _ _ _ h K n e hp L sk hk
  case iaload =>
    exact hdc _ _ _ _ h K n e hp L sk hk
  case iand =>
    exact hdc _ _ _ _ h K n e hp L sk hk
  case iastore =>
    exact hdc _ _ _ _ h K n e hp L sk hk
  case iconst a0 =>
    exact hdc _ _ _ _ h K n e hp L sk hk
  case idiv =>
    exact hdc _ _ _ _ h K n e hp L sk hk
  case if_acmp a0 a1 =>
    exact hdc _ _ _ _ h K n e hp L sk hk
  case if_icmp a0 a1 =>
    show ∃ sl, (match lw_same a0 a1 pc (n, e, hp, L, sk) with
      | some sl => bif Nat.beq len 3 then some sl else none
      | none => stp (.if_icmp a0 a1) len pc (n, e, hp, L, sk)) = some sl ∧ _
    have h1 : zsm a0 a1 len pc (dc (.if_icmp a0 a1) len pc) = g := Option.some.inj h
    rw [← h1] at hk
    unfold zsm at hk
    cases hs : lw_same a0 a1 pc (n, e, hp, L, sk) with
    | some sl =>
      rw [hs] at hk
      obtain ⟨q, k1⟩ := zl_b hk
      exact ⟨sl, by simp only [q, cond_true], zall_in k1⟩
    | none =>
      rw [hs] at hk
      obtain ⟨g1, k0, k1⟩ := zl_o hk
      exact hdc _ _ _ _ k0 K n e hp L sk k1
  case ifCond a0 a1 =>
    exact hdc _ _ _ _ h K n e hp L sk hk
  case ifnonnull a0 =>
    exact hdc _ _ _ _ h K n e hp L sk hk
  case ifnull a0 =>
    exact hdc _ _ _ _ h K n e hp L sk hk
  case iinc a0 a1 =>
    exact hdc _ _ _ _ h K n e hp L sk hk
  case iload a0 =>
    exact hdc _ _ _ _ h K n e hp L sk hk
  case iload_n a0 =>
    exact hdc _ _ _ _ h K n e hp L sk hk
  case imul =>
    exact hdc _ _ _ _ h K n e hp L sk hk
  case ineg =>
    exact hdc _ _ _ _ h K n e hp L sk hk
  case instanceof a0 =>
    exact hdc _ _ _ _ h K n e hp L sk hk
  case invokedynamic a0 =>
    exact hdc _ _ _ _ h K n e hp L sk hk
  case invokeinterface a0 a1 =>
    exact hdc _ _ _ _ h K n e hp L sk hk
  case invokespecial a0 =>
    exact hdc _ _ _ _ h K n e hp L sk hk
  case invokestatic a0 =>
    show ∃ sl, (bif Nat.beq a0 109 then (bif Nat.beq len 3 then nw pc (n, e, hp, L, sk) else none) else stp (.invokestatic a0) len pc (n, e, hp, L, sk)) = some sl ∧ _
    rcases zob (c := Nat.beq a0 109) h with ⟨q, h⟩ | ⟨q, h⟩
    · rcases zob (c := Nat.beq len 3) h with ⟨q2, h⟩ | ⟨q2, h⟩
      · obtain ⟨sl, k1, k2⟩ := zgn_ok (by rw [Option.some.inj h]; exact hk)
        exact ⟨sl, by rw [q, q2]; exact k1, k2⟩
      · cases h
    · obtain ⟨sl, k1, k2⟩ := hdc _ _ _ _ h K n e hp L sk hk
      exact ⟨sl, by rw [q]; exact k1, k2⟩
  case invokevirtual a0 =>
    exact hdc _ _ _ _ h K n e hp L sk hk
  case ior =>
    exact hdc _ _ _ _ h K n e hp L sk hk
  case irem =>
    exact hdc _ _ _ _ h K n e hp L sk hk
  case ireturn =>
    exact hdc _ _ _ _ h K n e hp L sk hk
  case ishl =>
    exact hdc _ _ _ _ h K n e hp L sk hk
  case ishr =>
    exact hdc _ _ _ _ h K n e hp L sk hk
  case istore a0 =>
    exact hdc _ _ _ _ h K n e hp L sk hk
  case istore_n a0 =>
    exact hdc _ _ _ _ h K n e hp L sk hk
  case isub =>
    exact hdc _ _ _ _ h K n e hp L sk hk
  case iushr =>
    exact hdc _ _ _ _ h K n e hp L sk hk
  case ixor =>
    exact hdc _ _ _ _ h K n e hp L sk hk
  case jsr a0 =>
    exact hdc _ _ _ _ h K n e hp L sk hk
  case jsr_w a0 =>
    exact hdc _ _ _ _ h K n e hp L sk hk
  case l2d =>
    exact hdc _ _ _ _ h K n e hp L sk hk
  case l2f =>
    exact hdc _ _ _ _ h K n e hp L sk hk
  case l2i =>
    exact hdc _ _ _ _ h K n e hp L sk hk
  case ladd =>
    exact hdc _ _ _ _ h K n e hp L sk hk
  case laload =>
    exact hdc _ _ _ _ h K n e hp L sk hk
  case land =>
    exact hdc _ _ _ _ h K n e hp L sk hk
  case lastore =>
    exact hdc _ _ _ _ h K n e hp L sk hk
  case lcmp =>
    exact hdc _ _ _ _ h K n e hp L sk hk
  case lconst a0 =>
    exact hdc _ _ _ _ h K n e hp L sk hk
  case ldc a0 =>
    exact hdc _ _ _ _ h K n e hp L sk hk
  case ldc_w a0 =>
    exact hdc _ _ _ _ h K n e hp L sk hk
  case ldc2_w a0 =>
    exact hdc _ _ _ _ h K n e hp L sk hk
  case ldiv =>
    exact hdc _ _ _ _ h K n e hp L sk hk
  case lload a0 =>
    exact hdc _ _ _ _ h K n e hp L sk hk
  case lload_n a0 =>
    exact hdc _ _ _ _ h K n e hp L sk hk
  case lmul =>
    exact hdc _ _ _ _ h K n e hp L sk hk
  case lneg =>
    exact hdc _ _ _ _ h K n e hp L sk hk
  case lookupswitch a0 a1 =>
    exact hdc _ _ _ _ h K n e hp L sk hk
  case lor =>
    exact hdc _ _ _ _ h K n e hp L sk hk
  case lrem =>
    exact hdc _ _ _ _ h K n e hp L sk hk
  case lreturn =>
    exact hdc _ _ _ _ h K n e hp L sk hk
  case lshl =>
    exact hdc _ _ _ _ h K n e hp L sk hk
  case lshr =>
    exact hdc _ _ _ _ h K n e hp L sk hk
  case lstore a0 =>
    exact hdc _ _ _ _ h K n e hp L sk hk
  case lstore_n a0 =>
    exact hdc _ _ _ _ h K n e hp L sk hk
  case lsub =>
    exact hdc _ _ _ _ h K n e hp L sk hk
  case lushr =>
    exact hdc _ _ _ _ h K n e hp L sk hk
  case lxor =>
    exact hdc _ _ _ _ h K n e hp L sk hk
  case monitorenter =>
    exact hdc _ _ _ _ h K n e hp L sk hk
  case monitorexit =>
    exact hdc _ _ _ _ h K n e hp L sk hk
  case multianewarray a0 a1 =>
    exact hdc _ _ _ _ h K n e hp L sk hk
  case new a0 =>
    exact hdc _ _ _ _ h K n e hp L sk hk
  case newarray a0 =>
    exact hdc _ _ _ _ h K n e hp L sk hk
  case nop =>
    exact hdc _ _ _ _ h K n e hp L sk hk
  case pop =>
    exact hdc _ _ _ _ h K n e hp L sk hk
  case pop2 =>
    exact hdc _ _ _ _ h K n e hp L sk hk
  case putfield a0 =>
    exact hdc _ _ _ _ h K n e hp L sk hk
  case putstatic a0 =>
    exact hdc _ _ _ _ h K n e hp L sk hk
  case ret a0 =>
    exact hdc _ _ _ _ h K n e hp L sk hk
  case return_ =>
    exact hdc _ _ _ _ h K n e hp L sk hk
  case saload =>
    exact hdc _ _ _ _ h K n e hp L sk hk
  case sastore =>
    exact hdc _ _ _ _ h K n e hp L sk hk
  case sipush a0 =>
    exact hdc _ _ _ _ h K n e hp L sk hk
  case swap =>
    exact hdc _ _ _ _ h K n e hp L sk hk
  case tableswitch a0 a1 a2 a3 =>
    exact hdc _ _ _ _ h K n e hp L sk hk
/-- a turn's end -/
def zlL (rel : Bool) (e : ab_En) (h : ab_AH) (L : List ab_SV) : Bool := ((lw_sv 7 L[0]? && lw_rf 0 L[1]?) && ((lw_rf 119 L[2]? && lw_rf 164 L[3]?) && lw_sv 0 L[4]?)) && (!rel || rl_ck RP e h)
def zlT (rel : Bool) (ths : List ab_TH) : zK := fun pc _ e h L sk => @Bool.rec (fun _ => Bool) false (@Bool.rec (fun _ => Bool) false (@List.rec ab_SV (fun _ => Bool) (zany (fun t => zleH e h t) ths) (fun _ _ _ => false) sk) (zlL rel e h L)) (Nat.beq pc 1810)
theorem zlT_ok {rel : Bool} {ths : List ab_TH} {w : Nat × ab_St} (h : zKs (zlT rel ths) w = true) : w.1 = 1810 ∧ lw_ter rel ths w.2 = true := by
  obtain ⟨pc, n, e, hp, L, sk⟩ := w
  obtain ⟨h1, h⟩ := zl_b h
  obtain ⟨h2, h⟩ := zl_b h
  obtain ⟨h0, h⟩ := zl_n h
  have h0 : sk = [] := h0
  subst h0
  rw [zany_eq] at h
  obtain ⟨t, ht, h4⟩ := List.any_eq_true.mp h
  have h5 : (ths.any fun t => ab_leH e hp t) = true := List.any_eq_true.mpr ⟨t, ht, zleH_ok h4⟩
  have h2 : zlL rel e hp L = true := h2
  unfold zlL at h2
  rw [Bool.and_eq_true] at h2
  refine ⟨Nat.eq_of_beq_eq_true h1, ?_⟩
  show (((lw_sv 7 L[0]? && lw_rf 0 L[1]?) && ((lw_rf 119 L[2]? && lw_rf 164 L[3]?) && lw_sv 0 L[4]?)) && ((!rel || rl_ck RP e hp) && ths.any (fun t => ab_leH e hp t))) = true
  rw [h2.1, h2.2, h5]
  rfl
def zlgo (tb : List (Nat × Instr × Nat)) (dc : Instr → Nat → Nat → Option zF) (TT : zK) (f pc : Nat) (st : ab_St) : Bool := @Prod.rec Nat (ab_En × ab_AH × List ab_SV × List ab_SV) (fun _ => Bool) (fun n r => @Prod.rec ab_En (ab_AH × List ab_SV × List ab_SV) (fun _ => Bool) (fun e r => @Prod.rec ab_AH (List ab_SV × List ab_SV) (fun _ => Bool) (fun h r => @Prod.rec (List ab_SV) (List ab_SV) (fun _ => Bool) (fun L sk => zrun tb [1810] dc TT f [] pc n e h L sk) r) r) r) st
theorem zlgo_ok {tb : List (Nat × Instr × Nat)} {dc : Instr → Nat → Nat → Option zF} {stp : Instr → Nat → Nat → ab_St → Option (List (Nat × ab_St))} {TT : zK} {f pc : Nat} {st : ab_St} (hdc : ∀ i len pc g, dc i len pc = some g → zSp g (stp i len pc)) (hk : zlgo tb dc TT f pc st = true) : ∃ ts, ab_run tb [1810] stp f pc st = some ts ∧ ∀ x ∈ ts, zKs TT x = true := by
  obtain ⟨n, e, h, L, sk⟩ := st
  exact zrun_ok hdc hk
def zlR (q : List (Nat × ab_Sm)) (il md : List Nat) (dp : Nat) (tb : List (Nat × Instr × Nat)) (rel : Bool) (pos : List ab_TH) (fuel pc : Nat) (st : ab_St) : Bool := zlgo tb (zlw tb (fun _ _ => none) (fun i len pc => zdc i TbL MtF (zOO (ab_SLl q) (fun k => ab_mem k il) BdF ZZ MtF (fun k => ab_mem k md) 2000 dp) 8 (fun k => ab_mem k md) false len pc)) (zlT rel pos) fuel pc st
section LTR
variable {p : Program} {l : Launch} {e : Env} {s : State} {m : MethodId} {below : List Frame} {meth : Method} {c : Code} {D : va_G} {A : Nat → Prop} {Q : State → Prop}
variable {tS b L cells slots i0 d0 : Nat} {xs : Nat → Int32} {cs : Nat → ClassId} {M : Nat → Bool} {iv : Int32} {T : ab_Tb} {O : ab_Cf}
theorem lw_go4 (F : lw_F p s m meth c A D cs tS b L xs) (hcs : cells ≤ 601024 ∧ slots ≤ 7293033) (hMO : ab_MOK ZZ MtF wFF bFF vwCl T R_law) (hnj : ∀ ix k, T.2.2.2.2 ix ≠ some (.inl k)) (CO : ab_CO l ZZ d0 D vwCl cs tS M O) (hd0 : d0 ≤ 1000) (hiv : iv.toInt = (i0 : Int)) (hL : i0 + 6 ≤ L) (hL2 : L ≤ 3072) {tb : List (Nat × Instr × Nat)} (htb : ∀ pc i len, (pc, i, len) ∈ tb → decode code pc = .ok (i, len))
    {ws : va_W} {ls : Array Slot} {st : ab_St} {ρ : Nat → Value} {fuel pc : Nat} {ths : List ab_TH} (rel : Bool)
    (hF : rel = false → rl_fr M RP = true) (hX : XS.all (fun k => !M k) = true) {zO : zCf} (hO : zCr O zO) (hc : zlgo tb (zlw tb (fun _ _ => none) (fun i len pc => zdc i T MtF zO 8 M false len pc)) (zlT rel ths) fuel pc st = true) (hEQ : rx_EQ ws) (hi : lw_I iv i0 b xs M ws ρ st.1 ws) (S : ab_sat ρ tS (ab_tys cs) 8 st ls [] ws) (hlen : ws.length = 165)
    (K : ∀ (ls' : Array Slot) (ws' : va_W), lw_Lc b iv ws' ls' → ab_gr M ws ws' → (∃ th ∈ ths, ab_th tS (ab_tys cs) th ws') → rx_EQ ws' → ws'.length = 165 → ab_W p l e room_1 s m #[Value.ref b] below meth c D vwCl A Q cells slots 1810 ls' [] ws') : ab_W p l e room_1 s m #[Value.ref b] below meth c D vwCl A Q cells slots pc ls [] ws := by
  obtain ⟨ts, hts, hT⟩ := zlgo_ok (zlw_ok (tb := tb) (nw := fun _ _ => none) (stp := ab_step T MtF O 8 M false) (fun i len pc g hg => zdc_ok hO hg)) hc
  have hrun := ab_run_ok (cc := code) (P := fun pc st => ab_Ok p l e room_1 s m #[Value.ref b] below meth c D vwCl A Q (lw_I iv i0 b xs M ws) tS (ab_tys cs) 8 cells slots pc st) htb (lw_stp_ok F hcs hMO hnj CO hd0 hiv hL hL2 htb (fun _ _ _ _ h => by cases h)) fuel pc st ts hts (fun w hw => ?_)
  · exact hrun ρ ls [] ws hi S
  · obtain ⟨e1, ht⟩ := zlT_ok (hT w hw)
    obtain ⟨pc1, st⟩ := w
    have e1 : pc1 = 1810 := e1
    have ht : lw_ter rel ths st = true := ht
    subst e1
    intro ρ ls stk w hi S
    obtain ⟨n, en, hp, Lc, sk⟩ := st
    unfold lw_ter at ht
    split at ht
    · rename_i hsk
      have hsk2 : sk = [] := hsk
      subst hsk2
      simp only [Bool.and_eq_true] at ht
      obtain ⟨⟨⟨t1, t2⟩, ⟨t3, t4⟩, t5⟩, t6, t7⟩ := ht
      obtain ⟨⟨i1, i2, i3, i4⟩, i5⟩ := hi
      obtain ⟨th, hth, t8⟩ := List.any_eq_true.mp t7
      have hstk : stk = [] := by
        match stk, S with
        | [], _ => rfl
        | _ :: _, S => exact S.2.2.2.elim
      subst hstk
      have hloc := S.2.2.1.2.2.2
      obtain ⟨v0, w0, x0⟩ := hloc 0 _ (lw_sv_ok t1)
      obtain ⟨v1, w1, x1⟩ := hloc 1 _ (lw_rf_ok t2)
      obtain ⟨v2, w2, x2⟩ := hloc 2 _ (lw_rf_ok t3)
      obtain ⟨v3, w3, x3⟩ := hloc 3 _ (lw_rf_ok t4)
      obtain ⟨v4, w4, x4⟩ := hloc 4 _ (lw_sv_ok t5)
      have x0 : v0 = ρ 7 := x0.2
      have x4 : v4 = ρ 0 := x4.2
      rw [x0, i3] at w0
      rw [x4, i1] at w4
      obtain ⟨a1, y1, rfl⟩ := lw_one x1
      obtain ⟨a2, y2, rfl⟩ := lw_one x2
      obtain ⟨a3, y3, rfl⟩ := lw_one x3
      refine K ls w ⟨S.2.2.1.1, S.2.2.1.2.1, w0, ⟨a1, y1, w1⟩, ⟨a2, y2, w2⟩, ⟨a3, y3, w3⟩, w4⟩ i5 ⟨th, hth, ab_leH_ok S.1 t8 S.2.1⟩ ?_ (by rw [i5.leq]; exact hlen)
      cases hm : rel with
      | true =>
        rw [hm] at t6
        exact ⟨rl_ck_ok S.1 S.2.1 (by simpa using t6), XQ_fr hX i5 hEQ.2⟩
      | false => exact ⟨rl_fr_ok (hF hm) i5 hEQ.1, XQ_fr hX i5 hEQ.2⟩
    · cases ht
end LTR
/-- a turn by its own cells alone, by the fast engine -/
theorem lw_trz {pc0 DS dp fuel : Nat} {th tu : ab_TH} {md : List Nat} {pos : List ab_TH} {q : List (Nat × ab_Sm)} {il : List Nat} {tb : List (Nat × Instr × Nat)} {sp : List (Nat × Int × List (Nat × Int × Int))} (rel : Bool) (hq : ∀ {l : Launch} {D : va_G} {cs : Nat → ClassId} {tS : Nat}, ∀ w ∈ q, ab_SOK l ZZ DS D vwCl cs tS w.1 w.2) (hil : ∀ k ∈ il, ab_GOK ZZ MtF wFF bFF vwCl BdF k) (h1 : 1 ≤ DS) (h2 : DS + dp ≤ 1000) (htb : ∀ pc i len, (pc, i, len) ∈ tb → decode code pc = .ok (i, len))
    (hc : ∀ st ∈ rl_spl sp (lw_st rel tu), zlR q il md dp tb rel pos fuel pc0 st = true) (hM : rel = false → rl_fr (fun k => ab_mem k md) RP = true) (hX : XS.all (fun k => !ab_mem k md) = true) (hs : tr_3 th tu = true) (hp : ∀ po ∈ pos, ∃ th' ∈ lw_THs, th'.all (tr_1 (fun k => ab_mem k md) th po) = true) : lw_TQ pc0 th := by
  intro p l e s m below meth c D A Q cs tS b L i0 cells slots xs iv ws ls F hcs hiv hL hL2 hl hth hEQ hlen K
  have hS : ∃ ρ, lw_I iv i0 b xs (fun k => ab_mem k md) ws ρ (lw_st rel tu).1 ws ∧ ab_sat ρ tS (ab_tys cs) 8 (lw_st rel tu) ls [] ws := by
    cases rel with
    | true => exact lw_sr_ok hiv (by omega) hl (tr_3_ok hs hth) hEQ.1
    | false => exact lw_sg_ok hiv (by omega) hl (tr_3_ok hs hth)
  obtain ⟨ρ, hi, S⟩ := hS
  obtain ⟨st', m1, m2, m3⟩ := rl_spl_ok (sp := sp) S
  refine lw_go4 F hcs MOKL lw_nj (zOL_ok ab_Gl_ok (fun k hk => hil k (ab_mem_iff.mp hk)) (ab_SLl_ok (P := fun k S => ab_SOK l ZZ DS D vwCl cs tS k S) hq) h1 dp) h2 hiv hL hL2 htb rel hM hX (zOO_ok dp) (hc st' m1) hEQ (by rw [m2]; exact hi) m3 hlen (fun ls' ws' a1 a2 a3 a4 a5 => ?_)
  obtain ⟨po, hpo, hpw⟩ := a3
  obtain ⟨th', hm, hch⟩ := hp po hpo
  exact K ls' ws' a1 ⟨th', hm, tr_p_ok hth a2 hpw hch⟩ a4 a5
/-- by the fast engine, a turn that asks nothing of what parts the lists -/
theorem lw_trzI {pc0 DS dp fuel : Nat} {tu : ab_TH} {md : List Nat} {pos : List ab_TH} {q : List (Nat × ab_Sm)} {il : List Nat} {tb : List (Nat × Instr × Nat)} {sp : List (Nat × Int × List (Nat × Int × Int))} (rel : Bool) (hq : ∀ {l : Launch} {D : va_G} {cs : Nat → ClassId} {tS : Nat}, ∀ w ∈ q, ab_SOK l ZZ DS D vwCl cs tS w.1 w.2) (hil : ∀ k ∈ il, ab_GOK ZZ MtF wFF bFF vwCl BdF k) (h1 : 1 ≤ DS) (h2 : DS + dp ≤ 1000) (htb : ∀ pc i len, (pc, i, len) ∈ tb → decode code pc = .ok (i, len))
    (hc : ∀ st ∈ rl_spl sp (lw_st rel tu), zlR q il md dp tb rel pos fuel pc0 st = true) (hM : rel = false → rl_fr (fun k => ab_mem k md) RP = true) (hX : XS.all (fun k => !ab_mem k md) = true) (hs : lw_THs.all (fun th => tr_3 th tu) = true) (hp : lw_THs.all (fun th => pos.all (fun po => th.all (tr_1 (fun k => ab_mem k md) th po))) = true) : ∀ th ∈ lw_THs, lw_TQ pc0 th := fun th hm =>
  lw_trz rel hq hil h1 h2 htb hc hM hX (List.all_eq_true.mp hs th hm) (fun po hpo => ⟨th, hm, List.all_eq_true.mp (List.all_eq_true.mp hp th hm) po hpo⟩)
end
