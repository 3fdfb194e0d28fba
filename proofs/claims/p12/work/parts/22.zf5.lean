noncomputable section
def zcn (c : Jvm.ClassFile.Cond) : Nat := @Jvm.ClassFile.Cond.rec (fun _ => Nat) 0 1 2 3 4 5 c
theorem zcn_in {c d : Jvm.ClassFile.Cond} (h : zcn c = zcn d) : c = d := by cases c <;> cases d <;> first | rfl | (exact absurd h (by decide))
def zfi (i : Instr) : Option (Nat × Int × Int) := @Instr.rec (fun _ => Option (Nat × Int × Int))
  (some (0, .ofNat 0, .ofNat 0))
  (some (1, .ofNat 0, .ofNat 0))
  (some (2, .ofNat 0, .ofNat 0))
  (fun a0 => some (3, .ofNat a0, .ofNat 0))
  (fun a0 => some (4, .ofNat a0.val, .ofNat 0))
  (fun a0 => some (5, .ofNat a0, .ofNat 0))
  (some (6, .ofNat 0, .ofNat 0))
  (some (7, .ofNat 0, .ofNat 0))
  (fun a0 => some (8, .ofNat a0, .ofNat 0))
  (fun a0 => some (9, .ofNat a0.val, .ofNat 0))
  (some (10, .ofNat 0, .ofNat 0))
  (some (11, .ofNat 0, .ofNat 0))
  (some (12, .ofNat 0, .ofNat 0))
  (fun a0 => some (13, a0, .ofNat 0))
  (none)
  (none)
  (fun a0 => some (14, .ofNat a0, .ofNat 0))
  (none)
  (none)
  (none)
  (none)
  (none)
  (none)
  (fun _ => none)
  (fun _ => none)
  (none)
  (fun _ => none)
  (fun _ => none)
  (none)
  (none)
  (none)
  (none)
  (fun _ => none)
  (fun _ => none)
  (none)
  (some (15, .ofNat 0, .ofNat 0))
  (none)
  (none)
  (some (16, .ofNat 0, .ofNat 0))
  (none)
  (none)
  (none)
  (none)
  (none)
  (none)
  (none)
  (none)
  (fun _ => none)
  (fun _ => none)
  (none)
  (fun _ => none)
  (fun _ => none)
  (none)
  (none)
  (none)
  (none)
  (fun _ => none)
  (fun _ => none)
  (none)
  (fun a0 => some (17, .ofNat a0, .ofNat 0))
  (fun a0 => some (18, .ofNat a0, .ofNat 0))
  (fun a0 => some (19, a0, .ofNat 0))
  (fun _ => none)
  (none)
  (none)
  (none)
  (none)
  (some (20, .ofNat 0, .ofNat 0))
  (none)
  (some (21, .ofNat 0, .ofNat 0))
  (some (22, .ofNat 0, .ofNat 0))
  (some (23, .ofNat 0, .ofNat 0))
  (some (24, .ofNat 0, .ofNat 0))
  (fun a0 => some (25, a0, .ofNat 0))
  (some (26, .ofNat 0, .ofNat 0))
  (fun _ _ => none)
  (fun a0 a1 => some (27, .ofNat (zcn a0), a1))
  (fun a0 a1 => some (28, .ofNat (zcn a0), a1))
  (fun a0 => some (29, a0, .ofNat 0))
  (fun a0 => some (30, a0, .ofNat 0))
  (fun a0 a1 => some (31, .ofNat a0, a1))
  (fun a0 => some (32, .ofNat a0, .ofNat 0))
  (fun a0 => some (33, .ofNat a0.val, .ofNat 0))
  (some (34, .ofNat 0, .ofNat 0))
  (some (35, .ofNat 0, .ofNat 0))
  (fun _ => none)
  (fun _ => none)
  (fun _ _ => none)
  (fun a0 => some (36, .ofNat a0, .ofNat 0))
  (fun a0 => some (37, .ofNat a0, .ofNat 0))
  (fun a0 => some (38, .ofNat a0, .ofNat 0))
  (some (39, .ofNat 0, .ofNat 0))
  (some (40, .ofNat 0, .ofNat 0))
  (some (41, .ofNat 0, .ofNat 0))
  (some (42, .ofNat 0, .ofNat 0))
  (some (43, .ofNat 0, .ofNat 0))
  (fun a0 => some (44, .ofNat a0, .ofNat 0))
  (fun a0 => some (45, .ofNat a0.val, .ofNat 0))
  (some (46, .ofNat 0, .ofNat 0))
  (none)
  (some (47, .ofNat 0, .ofNat 0))
  (fun _ => none)
  (fun _ => none)
  (none)
  (none)
  (some (48, .ofNat 0, .ofNat 0))
  (some (49, .ofNat 0, .ofNat 0))
  (some (50, .ofNat 0, .ofNat 0))
  (none)
  (some (51, .ofNat 0, .ofNat 0))
  (some (52, .ofNat 0, .ofNat 0))
  (fun a0 => some (53, .ofNat a0.val, .ofNat 0))
  (fun a0 => some (54, .ofNat a0, .ofNat 0))
  (fun a0 => some (55, .ofNat a0, .ofNat 0))
  (fun a0 => some (56, .ofNat a0, .ofNat 0))
  (some (57, .ofNat 0, .ofNat 0))
  (fun a0 => some (58, .ofNat a0, .ofNat 0))
  (fun a0 => some (59, .ofNat a0.val, .ofNat 0))
  (some (60, .ofNat 0, .ofNat 0))
  (none)
  (fun _ _ => none)
  (none)
  (some (61, .ofNat 0, .ofNat 0))
  (some (62, .ofNat 0, .ofNat 0))
  (none)
  (none)
  (fun a0 => some (63, .ofNat a0, .ofNat 0))
  (fun a0 => some (64, .ofNat a0.val, .ofNat 0))
  (some (65, .ofNat 0, .ofNat 0))
  (none)
  (none)
  (none)
  (none)
  (fun a0 a1 => some (66, .ofNat a0, .ofNat a1))
  (fun a0 => some (67, .ofNat a0, .ofNat 0))
  (fun _ => none)
  (none)
  (some (68, .ofNat 0, .ofNat 0))
  (none)
  (fun a0 => some (69, .ofNat a0, .ofNat 0))
  (fun a0 => some (70, .ofNat a0, .ofNat 0))
  (fun _ => none)
  (some (71, .ofNat 0, .ofNat 0))
  (none)
  (none)
  (fun a0 => some (72, a0, .ofNat 0))
  (none)
  (fun _ _ _ _ => none)
  i
def znc (n : Nat) : Jvm.ClassFile.Cond := match n with
  | 0 => .eq
  | 1 => .ne
  | 2 => .lt
  | 3 => .ge
  | 4 => .gt
  | _ => .le
theorem znc_ok (c : Jvm.ClassFile.Cond) : znc (zcn c) = c := by cases c <;> rfl
def zf4 (n : Nat) : Fin 4 := ⟨n % 4, Nat.mod_lt _ (by decide)⟩
theorem zf4_ok (a : Fin 4) : zf4 a.val = a := Fin.ext (Nat.mod_eq_of_lt a.isLt)
def zf2 (n : Nat) : Fin 2 := ⟨n % 2, Nat.mod_lt _ (by decide)⟩
theorem zf2_ok (a : Fin 2) : zf2 a.val = a := Fin.ext (Nat.mod_eq_of_lt a.isLt)
/-- an instruction out of its fingerprint -/
def zgi (f : Nat × Int × Int) : Option Instr := match f.1 with
  | 0 => some (.aaload)
  | 1 => some (.aastore)
  | 2 => some (.aconst_null)
  | 3 => some (.aload f.2.1.toNat)
  | 4 => some (.aload_n (zf4 f.2.1.toNat))
  | 5 => some (.anewarray f.2.1.toNat)
  | 6 => some (.areturn)
  | 7 => some (.arraylength)
  | 8 => some (.astore f.2.1.toNat)
  | 9 => some (.astore_n (zf4 f.2.1.toNat))
  | 10 => some (.athrow)
  | 11 => some (.baload)
  | 12 => some (.bastore)
  | 13 => some (.bipush f.2.1)
  | 14 => some (.checkcast f.2.1.toNat)
  | 15 => some (.dup)
  | 16 => some (.dup2)
  | 17 => some (.getfield f.2.1.toNat)
  | 18 => some (.getstatic f.2.1.toNat)
  | 19 => some (.goto f.2.1)
  | 20 => some (.i2l)
  | 21 => some (.iadd)
  | 22 => some (.iaload)
  | 23 => some (.iand)
  | 24 => some (.iastore)
  | 25 => some (.iconst f.2.1)
  | 26 => some (.idiv)
  | 27 => some (.if_icmp (znc f.2.1.toNat) f.2.2)
  | 28 => some (.ifCond (znc f.2.1.toNat) f.2.2)
  | 29 => some (.ifnonnull f.2.1)
  | 30 => some (.ifnull f.2.1)
  | 31 => some (.iinc f.2.1.toNat f.2.2)
  | 32 => some (.iload f.2.1.toNat)
  | 33 => some (.iload_n (zf4 f.2.1.toNat))
  | 34 => some (.imul)
  | 35 => some (.ineg)
  | 36 => some (.invokespecial f.2.1.toNat)
  | 37 => some (.invokestatic f.2.1.toNat)
  | 38 => some (.invokevirtual f.2.1.toNat)
  | 39 => some (.ior)
  | 40 => some (.irem)
  | 41 => some (.ireturn)
  | 42 => some (.ishl)
  | 43 => some (.ishr)
  | 44 => some (.istore f.2.1.toNat)
  | 45 => some (.istore_n (zf4 f.2.1.toNat))
  | 46 => some (.isub)
  | 47 => some (.ixor)
  | 48 => some (.l2i)
  | 49 => some (.ladd)
  | 50 => some (.laload)
  | 51 => some (.lastore)
  | 52 => some (.lcmp)
  | 53 => some (.lconst (zf2 f.2.1.toNat))
  | 54 => some (.ldc f.2.1.toNat)
  | 55 => some (.ldc_w f.2.1.toNat)
  | 56 => some (.ldc2_w f.2.1.toNat)
  | 57 => some (.ldiv)
  | 58 => some (.lload f.2.1.toNat)
  | 59 => some (.lload_n (zf4 f.2.1.toNat))
  | 60 => some (.lmul)
  | 61 => some (.lrem)
  | 62 => some (.lreturn)
  | 63 => some (.lstore f.2.1.toNat)
  | 64 => some (.lstore_n (zf4 f.2.1.toNat))
  | 65 => some (.lsub)
  | 66 => some (.multianewarray f.2.1.toNat f.2.2.toNat)
  | 67 => some (.new f.2.1.toNat)
  | 68 => some (.pop)
  | 69 => some (.putfield f.2.1.toNat)
  | 70 => some (.putstatic f.2.1.toNat)
  | 71 => some (.return_)
  | 72 => some (.sipush f.2.1)
  | _ => none
theorem zgi_ok {i : Instr} {f : Nat × Int × Int} (h : zfi i = some f) : zgi f = some i := by
  cases i
  case aaload =>
    have h1 : (0, .ofNat 0, .ofNat 0) = f := Option.some.inj h
    subst h1
    rfl
  case aastore =>
    have h1 : (1, .ofNat 0, .ofNat 0) = f := Option.some.inj h
    subst h1
    rfl
  case aconst_null =>
    have h1 : (2, .ofNat 0, .ofNat 0) = f := Option.some.inj h
    subst h1
    rfl
  case aload a0 =>
    have h1 : (3, .ofNat a0, .ofNat 0) = f := Option.some.inj h
    subst h1
    rfl
  case aload_n a0 =>
    have h1 : (4, .ofNat a0.val, .ofNat 0) = f := Option.some.inj h
    subst h1
    exact congrArg (fun x => some (Instr.aload_n x)) (zf4_ok a0)
  case anewarray a0 =>
    have h1 : (5, .ofNat a0, .ofNat 0) = f := Option.some.inj h
    subst h1
    rfl
  case areturn =>
    have h1 : (6, .ofNat 0, .ofNat 0) = f := Option.some.inj h
    subst h1
    rfl
  case arraylength =>
    have h1 : (7, .ofNat 0, .ofNat 0) = f := Option.some.inj h
    subst h1
    rfl
  case astore a0 =>
    have h1 : (8, .ofNat a0, .ofNat 0) = f := Option.some.inj h
    subst h1
    rfl
  case astore_n a0 =>
    have h1 : (9, .ofNat a0.val, .ofNat 0) = f := Option.some.inj h
    subst h1
    exact congrArg (fun x => some (Instr.astore_n x)) (zf4_ok a0)
  case athrow =>
    have h1 : (10, .ofNat 0, .ofNat 0) = f := Option.some.inj h
    subst h1
    rfl
  case baload =>
    have h1 : (11, .ofNat 0, .ofNat 0) = f := Option.some.inj h
    subst h1
    rfl
  case bastore =>
    have h1 : (12, .ofNat 0, .ofNat 0) = f := Option.some.inj h
    subst h1
    rfl
  case bipush a0 =>
    have h1 : (13, a0, .ofNat 0) = f := Option.some.inj h
    subst h1
    rfl
  case caload =>
    cases h
  case castore =>
    cases h
  case checkcast a0 =>
    have h1 : (14, .ofNat a0, .ofNat 0) = f := Option.some.inj h
    subst h1
    rfl
  case d2f =>
    cases h
  case d2i =>
    cases h
  case d2l =>
    cases h
  case dadd =>
    cases h
  case daload =>
    cases h
  case dastore =>
    cases h
  case dcmp a0 =>
    cases h
  case dconst a0 =>
    cases h
  case ddiv =>
    cases h
  case dload a0 =>
    cases h
  case dload_n a0 =>
    cases h
  case dmul =>
    cases h
  case dneg =>
    cases h
  case drem =>
    cases h
  case dreturn =>
    cases h
  case dstore a0 =>
    cases h
  case dstore_n a0 =>
    cases h
  case dsub =>
    cases h
  case dup =>
    have h1 : (15, .ofNat 0, .ofNat 0) = f := Option.some.inj h
    subst h1
    rfl
  case dup_x1 =>
    cases h
  case dup_x2 =>
    cases h
  case dup2 =>
    have h1 : (16, .ofNat 0, .ofNat 0) = f := Option.some.inj h
    subst h1
    rfl
  case dup2_x1 =>
    cases h
  case dup2_x2 =>
    cases h
  case f2d =>
    cases h
  case f2i =>
    cases h
  case f2l =>
    cases h
  case fadd =>
    cases h
  case faload =>
    cases h
  case fastore =>
    cases h
  case fcmp a0 =>
    cases h
  case fconst a0 =>
    cases h
  case fdiv =>
    cases h
  case fload a0 =>
    cases h
  case fload_n a0 =>
    cases h
  case fmul =>
    cases h
  case fneg =>
    cases h
  case frem =>
    cases h
  case freturn =>
    cases h
  case fstore a0 =>
    cases h
  case fstore_n a0 =>
    cases h
  case fsub =>
    cases h
  case getfield a0 =>
    have h1 : (17, .ofNat a0, .ofNat 0) = f := Option.some.inj h
    subst h1
    rfl
  case getstatic a0 =>
    have h1 : (18, .ofNat a0, .ofNat 0) = f := Option.some.inj h
    subst h1
    rfl
  case goto a0 =>
    have h1 : (19, a0, .ofNat 0) = f := Option.some.inj h
    subst h1
    rfl
  case goto_w a0 =>
    cases h
  case i2b =>
    cases h
  case i2c =>
    cases h
  case i2d =>
    cases h
  case i2f =>
    cases h
  case i2l =>
    have h1 : (20, .ofNat 0, .ofNat 0) = f := Option.some.inj h
    subst h1
    rfl
  case i2s =>
    cases h
  case iadd =>
    have h1 : (21, .ofNat 0, .ofNat 0) = f := Option.some.inj h
    subst h1
    rfl
  case iaload =>
    have h1 : (22, .ofNat 0, .ofNat 0) = f := Option.some.inj h
    subst h1
    rfl
  case iand =>
    have h1 : (23, .ofNat 0, .ofNat 0) = f := Option.some.inj h
    subst h1
    rfl
  case iastore =>
    have h1 : (24, .ofNat 0, .ofNat 0) = f := Option.some.inj h
    subst h1
    rfl
  case iconst a0 =>
    have h1 : (25, a0, .ofNat 0) = f := Option.some.inj h
    subst h1
    rfl
  case idiv =>
    have h1 : (26, .ofNat 0, .ofNat 0) = f := Option.some.inj h
    subst h1
    rfl
  case if_acmp a0 a1 =>
    cases h
  case if_icmp a0 a1 =>
    have h1 : (27, .ofNat (zcn a0), a1) = f := Option.some.inj h
    subst h1
    exact congrArg (fun x => some (Instr.if_icmp x a1)) (znc_ok a0)
  case ifCond a0 a1 =>
    have h1 : (28, .ofNat (zcn a0), a1) = f := Option.some.inj h
    subst h1
    exact congrArg (fun x => some (Instr.ifCond x a1)) (znc_ok a0)
  case ifnonnull a0 =>
    have h1 : (29, a0, .ofNat 0) = f := Option.some.inj h
    subst h1
    rfl
  case ifnull a0 =>
    have h1 : (30, a0, .ofNat 0) = f := Option.some.inj h
    subst h1
    rfl
  case iinc a0 a1 =>
    have h1 : (31, .ofNat a0, a1) = f := Option.some.inj h
    subst h1
    rfl
  case iload a0 =>
    have h1 : (32, .ofNat a0, .ofNat 0) = f := Option.some.inj h
    subst h1
    rfl
  case iload_n a0 =>
    have h1 : (33, .ofNat a0.val, .ofNat 0) = f := Option.some.inj h
    subst h1
    exact congrArg (fun x => some (Instr.iload_n x)) (zf4_ok a0)
  case imul =>
    have h1 : (34, .ofNat 0, .ofNat 0) = f := Option.some.inj h
    subst h1
    rfl
  case ineg =>
    have h1 : (35, .ofNat 0, .ofNat 0) = f := Option.some.inj h
    subst h1
    rfl
  case instanceof a0 =>
    cases h
  case invokedynamic a0 =>
    cases h
  case invokeinterface a0 a1 =>
    cases h
  case invokespecial a0 =>
    have h1 : (36, .ofNat a0, .ofNat 0) = f := Option.some.inj h
    subst h1
    rfl
  case invokestatic a0 =>
    have h1 : (37, .ofNat a0, .ofNat 0) = f := Option.some.inj h
    subst h1
    rfl
  case invokevirtual a0 =>
    have h1 : (38, .ofNat a0, .ofNat 0) = f := Option.some.inj h
    subst h1
    rfl
  case ior =>
    have h1 : (39, .ofNat 0, .ofNat 0) = f := Option.some.inj h
    subst h1
    rfl
  case irem =>
    have h1 : (40, .ofNat 0, .ofNat 0) = f := Option.some.inj h
    subst h1
    rfl
  case ireturn =>
    have h1 : (41, .ofNat 0, .ofNat 0) = f := Option.some.inj h
    subst h1
    rfl
  case ishl =>
    have h1 : (42, .ofNat 0, .ofNat 0) = f := Option.some.inj h
    subst h1
    rfl
  case ishr =>
    have h1 : (43, .ofNat 0, .ofNat 0) = f := Option.some.inj h
    subst h1
    rfl
  case istore a0 =>
    have h1 : (44, .ofNat a0, .ofNat 0) = f := Option.some.inj h
    subst h1
    rfl
  case istore_n a0 =>
    have h1 : (45, .ofNat a0.val, .ofNat 0) = f := Option.some.inj h
    subst h1
    exact congrArg (fun x => some (Instr.istore_n x)) (zf4_ok a0)
  case isub =>
    have h1 : (46, .ofNat 0, .ofNat 0) = f := Option.some.inj h
    subst h1
    rfl
  case iushr =>
    cases h
  case ixor =>
    have h1 : (47, .ofNat 0, .ofNat 0) = f := Option.some.inj h
    subst h1
    rfl
  case jsr a0 =>
    cases h
  case jsr_w a0 =>
    cases h
  case l2d =>
    cases h
  case l2f =>
    cases h
  case l2i =>
    have h1 : (48, .ofNat 0, .ofNat 0) = f := Option.some.inj h
    subst h1
    rfl
  case ladd =>
    have h1 : (49, .ofNat 0, .ofNat 0) = f := Option.some.inj h
    subst h1
    rfl
  case laload =>
    have h1 : (50, .ofNat 0, .ofNat 0) = f := Option.some.inj h
    subst h1
    rfl
  case land =>
    cases h
  case lastore =>
    have h1 : (51, .ofNat 0, .ofNat 0) = f := Option.some.inj h
    subst h1
    rfl
  case lcmp =>
    have h1 : (52, .ofNat 0, .ofNat 0) = f := Option.some.inj h
    subst h1
    rfl
  case lconst a0 =>
    have h1 : (53, .ofNat a0.val, .ofNat 0) = f := Option.some.inj h
    subst h1
    exact congrArg (fun x => some (Instr.lconst x)) (zf2_ok a0)
  case ldc a0 =>
    have h1 : (54, .ofNat a0, .ofNat 0) = f := Option.some.inj h
    subst h1
    rfl
  case ldc_w a0 =>
    have h1 : (55, .ofNat a0, .ofNat 0) = f := Option.some.inj h
    subst h1
    rfl
  case ldc2_w a0 =>
    have h1 : (56, .ofNat a0, .ofNat 0) = f := Option.some.inj h
    subst h1
    rfl
  case ldiv =>
    have h1 : (57, .ofNat 0, .ofNat 0) = f := Option.some.inj h
    subst h1
    rfl
  case lload a0 =>
    have h1 : (58, .ofNat a0, .ofNat 0) = f := Option.some.inj h
    subst h1
    rfl
  case lload_n a0 =>
    have h1 : (59, .ofNat a0.val, .ofNat 0) = f := Option.some.inj h
    subst h1
    exact congrArg (fun x => some (Instr.lload_n x)) (zf4_ok a0)
  case lmul =>
    have h1 : (60, .ofNat 0, .ofNat 0) = f := Option.some.inj h
    subst h1
    rfl
  case lneg =>
    cases h
  case lookupswitch a0 a1 =>
    cases h
  case lor =>
    cases h
  case lrem =>
    have h1 : (61, .ofNat 0, .ofNat 0) = f := Option.some.inj h
    subst h1
    rfl
  case lreturn =>
    have h1 : (62, .ofNat 0, .ofNat 0) = f := Option.some.inj h
    subst h1
    rfl
  case lshl =>
    cases h
  case lshr =>
    cases h
  case lstore a0 =>
    have h1 : (63, .ofNat a0, .ofNat 0) = f := Option.some.inj h
    subst h1
    rfl
  case lstore_n a0 =>
    have h1 : (64, .ofNat a0.val, .ofNat 0) = f := Option.some.inj h
    subst h1
    exact congrArg (fun x => some (Instr.lstore_n x)) (zf4_ok a0)
  case lsub =>
    have h1 : (65, .ofNat 0, .ofNat 0) = f := Option.some.inj h
    subst h1
    rfl
  case lushr =>
    cases h
  case lxor =>
    cases h
  case monitorenter =>
    cases h
  case monitorexit =>
    cases h
  case multianewarray a0 a1 =>
    have h1 : (66, .ofNat a0, .ofNat a1) = f := Option.some.inj h
    subst h1
    rfl
  case new a0 =>
    have h1 : (67, .ofNat a0, .ofNat 0) = f := Option.some.inj h
    subst h1
    rfl
  case newarray a0 =>
    cases h
  case nop =>
    cases h
  case pop =>
    have h1 : (68, .ofNat 0, .ofNat 0) = f := Option.some.inj h
    subst h1
    rfl
  case pop2 =>
    cases h
  case putfield a0 =>
    have h1 : (69, .ofNat a0, .ofNat 0) = f := Option.some.inj h
    subst h1
    rfl
  case putstatic a0 =>
    have h1 : (70, .ofNat a0, .ofNat 0) = f := Option.some.inj h
    subst h1
    rfl
  case ret a0 =>
    cases h
  case return_ =>
    have h1 : (71, .ofNat 0, .ofNat 0) = f := Option.some.inj h
    subst h1
    rfl
  case saload =>
    cases h
  case sastore =>
    cases h
  case sipush a0 =>
    have h1 : (72, a0, .ofNat 0) = f := Option.some.inj h
    subst h1
    rfl
  case swap =>
    cases h
  case tableswitch a0 a1 a2 a3 =>
    cases h
/-- the same instruction -/
def zisame (i j : Instr) : Bool := @Option.rec (Nat × Int × Int) (fun _ => Bool) false (fun f => @Option.rec (Nat × Int × Int) (fun _ => Bool) false (fun g => @Bool.rec (fun _ => Bool) false (@Bool.rec (fun _ => Bool) false (ziq f.2.2 g.2.2) (ziq f.2.1 g.2.1)) (Nat.beq f.1 g.1)) (zfi j)) (zfi i)
theorem ziq_eq {a b : Int} (h : ziq a b = true) : a = b := by
  unfold ziq at h
  rw [zand_iff, ab_le_iff, ab_le_iff] at h
  omega
theorem zisame_ok {i j : Instr} (h : zisame i j = true) : i = j := by
  obtain ⟨f, hf, h⟩ := zl_o h
  obtain ⟨g, hg, h⟩ := zl_o h
  obtain ⟨h1, h⟩ := zl_b h
  obtain ⟨h2, h3⟩ := zl_b h
  obtain ⟨f1, f2, f3⟩ := f
  obtain ⟨g1, g2, g3⟩ := g
  have e1 : f1 = g1 := Nat.eq_of_beq_eq_true h1
  have e2 : f2 = g2 := ziq_eq h2
  have e3 : f3 = g3 := ziq_eq h3
  subst e1; subst e2; subst e3
  have := (zgi_ok hf).symm.trans (zgi_ok hg)
  exact Option.some.inj this
/-- what decode gives is this row -/
def zrw (o : Except DecodeError (Instr × Nat)) (q : Instr × Nat) : Bool := @Except.rec DecodeError (Instr × Nat) (fun _ => Bool) (fun _ => false) (fun r => @Bool.rec (fun _ => Bool) false (zisame r.1 q.1) (Nat.beq r.2 q.2)) o
theorem zrw_ok {o : Except DecodeError (Instr × Nat)} {q : Instr × Nat} (h : zrw o q = true) : o = .ok q := by
  cases o with
  | error e => cases h
  | ok r =>
    obtain ⟨h1, h2⟩ := zl_b (c := Nat.beq r.2 q.2) h
    have e1 := Nat.eq_of_beq_eq_true h1
    have e2 := zisame_ok h2
    exact congrArg Except.ok (Prod.ext e2 e1)
/-- the rows of a method's code; those of ex are shown one by one -/
def zrq (cc : ByteArray) (ex : List Nat) (q : Nat × Instr × Nat) : Bool := @Bool.rec (fun _ => Bool) (zrw (decode cc q.1) q.2) true (ab_mem q.1 ex)
def ztb (cc : ByteArray) (ex : List Nat) (tb : List (Nat × Instr × Nat)) : Bool := zall (zrq cc ex) tb
theorem ztb_q {cc : ByteArray} {ex : List Nat} {tb : List (Nat × Instr × Nat)} (h : ztb cc ex tb = true) (g : ∀ q ∈ tb, q.1 ∈ ex → decode cc q.1 = .ok q.2) : ∀ q ∈ tb, decode cc q.1 = .ok q.2 := fun q hm => by
  unfold ztb at h
  have h1 := zall_in h q hm
  unfold zrq at h1
  rcases zl_i h1 with ⟨m1, -⟩ | ⟨m1, m2⟩
  · exact g q hm (ab_mem_iff.mp m1)
  · exact zrw_ok m2
theorem ztb_ok {cc : ByteArray} {ex : List Nat} {tb : List (Nat × Instr × Nat)} (h : ztb cc ex tb = true) (g : ∀ q ∈ tb, q.1 ∈ ex → decode cc q.1 = .ok q.2) : ∀ pc i len, (pc, i, len) ∈ tb → decode cc pc = .ok (i, len) := fun pc i len hm => by
  have h3 := ztb_q h g (pc, i, len) hm
  simp only at h3
  exact h3
end
