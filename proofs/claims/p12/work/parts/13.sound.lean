noncomputable section
def ab_FOK (Ts : List Cond) (own : String) (cl : List vw_C) (ix : Nat) (q : Nat × Nat × FieldType × Bool) : Prop := ∃ (C : String) (T : u_T) (N : Nat) (ty0 : Nat → FieldType), cl[q.1]? = some (C, T, N) ∧ q.2.1 < N ∧ (∀ w ∈ u_ws C T N, w ∈ Ts) ∧ Cond.fieldLink own ix (T q.2.1).1 (T q.2.1).2.1 (T q.2.1).2.2.1 ∈ Ts ∧ (T q.2.1).2.2.2 = q.2.2.2 ∧ (q.2.2.2 = true → (T q.2.1).1 = own) ∧ parseFieldDescriptor (T q.2.1).2.2.1 = some q.2.2.1 ∧ (∀ k, k < N → parseFieldDescriptor (T k).2.2.1 = some (ty0 k)) ∧ ∀ a, a < N → ∀ b, b < N → a ≠ b → (T a).2.1 ≠ (T b).2.1
def ab_TOK (Ts : List Cond) (own : String) (cl : List vw_C) (T : ab_Tb) : Prop := (∀ ix q, T.1 ix = some q → ab_FOK Ts own cl ix q) ∧ (∀ ix v, T.2.1 ix = some v → ∃ w : Int32, w.toInt = v ∧ Cond.constant own ix w ∈ Ts) ∧ (∀ ix v, T.2.2.1 ix = some v → ∃ w : Int64, w.toInt = v ∧ Cond.constantLong own ix w ∈ Ts) ∧ (∀ ix, T.2.2.2.1 ix = true → Cond.fieldLink own ix "SandFlags$Rota" "CODE_OF_ONE" "[I" ∈ Ts)
theorem ab_lc : ∀ n : Fin 2, (Int64.ofNat n.val).toInt = Int.ofNat n.val := by decide
section ABS
variable {p : Program} {l : Launch} {e : Env} {R : Room} {s : State} {m : MethodId} {args : Array Value} {below : List Frame} {meth : Method} {c : Code} {D : va_G} {cl : List vw_C} {A : Nat → Prop} {Q : State → Prop}
variable {I : (Nat → Value) → Nat → va_W → Prop} {tS : Nat} {cs : Nat → ClassId} {nL cells slots pc : Nat} {st : ab_St} {cc : ByteArray} {sl : List (Nat × ab_St)} {Ts : List Cond} {own : String} {T : ab_Tb} {Mt : ab_Mt} {O : ab_Cf} {M : Nat → Bool} {ini : Bool} {i : Instr} {len : Nat}
theorem ab_step_ok (hI : ab_IC I M) (hx : p.tables.exec = Jvm.exec) (hb : c.code = cc) (hown : s.vm.findClass own = some m.cls) (hts : ∀ w ∈ Ts, w.before args s = true) (hK : va_K D cl (ab_tys cs) s)
    (hZ : va_Z "SandFlags$Rota" "CODE_OF_ONE" "[I" (.ref tS) A s s.heap) (hT : va_T .int tS 4 ab_code1 A s s.heap) (hini : ini = true → meth.name = "<init>") (hTO : ab_TOK Ts own cl T)
    (hJ : ∀ ix k st st', T.2.2.2.2 ix = some (.inl k) → decode cc pc = .ok (.invokestatic ix, 3) → ab_jdk k M st = some st' → ab_Ok p l e R s m args below meth c D cl A Q I tS (ab_tys cs) nL cells slots (pc + 3) st' → ab_Ok p l e R s m args below meth c D cl A Q I tS (ab_tys cs) nL cells slots pc st)
    (hC : ∀ ix j st sl, T.2.2.2.2 ix = some (.inr j) → decode cc pc = .ok (bif (Mt j).2.2 then .invokestatic ix else .invokevirtual ix, 3) → ab_call (Mt j).1 (Mt j).2.1 (Mt j).2.2 (O j) st = some sl → (∀ w ∈ sl, ab_Ok p l e R s m args below meth c D cl A Q I tS (ab_tys cs) nL cells slots (pc + 3) w) → ab_Ok p l e R s m args below meth c D cl A Q I tS (ab_tys cs) nL cells slots pc st)
    (hd : decode cc pc = .ok (i, len)) (h : ab_step T Mt O nL M ini i len pc st = some sl) (k : ∀ w ∈ sl, ab_Ok p l e R s m args below meth c D cl A Q I tS (ab_tys cs) nL cells slots w.1 w.2) : ab_Ok p l e R s m args below meth c D cl A Q I tS (ab_tys cs) nL cells slots pc st := by
  cases i
  case iconst n =>
    obtain ⟨h1, h2⟩ := ab_if_eq h
    cases h2
    rw [Bool.and_eq_true, ab_i32_iff] at h1
    have hl := ab_beq h1.2
    subst hl
    refine ab_s_kI hI.e (Int32.ofInt n) (by rw [Int32.toInt_ofInt]; exact ab_bm h1.1.1 h1.1.2) (fun H locs ls rest q => lv_iconst hx hb hd rfl q) (k _ List.mem_cons_self)
  case bipush n =>
    obtain ⟨h1, h2⟩ := ab_if_eq h
    cases h2
    rw [Bool.and_eq_true, Bool.and_eq_true, ab_le_iff, ab_le_iff] at h1
    have hl := ab_beq h1.2
    subst hl
    refine ab_s_kI hI.e (Int8.ofInt n).toInt32 (ab_i8 h1.1.1 h1.1.2) (fun H locs ls rest q => lv_bipush hx hb hd rfl q) (k _ List.mem_cons_self)
  case sipush n =>
    obtain ⟨h1, h2⟩ := ab_if_eq h
    cases h2
    rw [Bool.and_eq_true, Bool.and_eq_true, ab_le_iff, ab_le_iff] at h1
    have hl := ab_beq h1.2
    subst hl
    refine ab_s_kI hI.e (Int16.ofInt n).toInt32 (ab_i16 h1.1.1 h1.1.2) (fun H locs ls rest q => lv_sipush hx hb hd rfl q) (k _ List.mem_cons_self)
  case lconst n =>
    obtain ⟨h1, h2⟩ := ab_if_eq h
    cases h2
    have hl := ab_beq h1
    subst hl
    refine ab_s_kL hI.e (Int64.ofNat n.val) (ab_lc n) (fun H locs ls rest q => lv_lconst hx hb hd rfl q) (k _ List.mem_cons_self)
  case ldc ix =>
    obtain ⟨h1, h2⟩ := ab_if_eq h
    have hl := ab_beq h1
    subst hl
    split at h2
    · rename_i v hv
      cases h2
      obtain ⟨w, hw, hm⟩ := hTO.2.1 ix v hv
      exact ab_s_kI hI.e w hw (fun H locs ls rest q => lv_ldc hx hb hown (hts _ hm) hd q) (k _ List.mem_cons_self)
    · cases h2
  case ldc_w ix =>
    obtain ⟨h1, h2⟩ := ab_if_eq h
    have hl := ab_beq h1
    subst hl
    split at h2
    · rename_i v hv
      cases h2
      obtain ⟨w, hw, hm⟩ := hTO.2.1 ix v hv
      exact ab_s_kI hI.e w hw (fun H locs ls rest q => lv_ldcw hx hb hown (hts _ hm) hd q) (k _ List.mem_cons_self)
    · cases h2
  case ldc2_w ix =>
    obtain ⟨h1, h2⟩ := ab_if_eq h
    have hl := ab_beq h1
    subst hl
    split at h2
    · rename_i v hv
      cases h2
      obtain ⟨w, hw, hm⟩ := hTO.2.2.1 ix v hv
      exact ab_s_kL hI.e w hw (fun H locs ls rest q => lv_ldc2 hx hb hown (hts _ hm) hd q) (k _ List.mem_cons_self)
    · cases h2
  case iload_n n =>
    obtain ⟨h1, h2⟩ := ab_if_eq h
    have hl := ab_beq h1
    subst hl
    obtain ⟨s1, h3, rfl⟩ := ab_1_eq h2
    exact ab_s_load (fun x H locs ls rest hk hl q => by obtain ⟨y, rfl⟩ := hk; exact lv_iload_n hx hb hd rfl hl q) h3 (k _ List.mem_cons_self)
  case lload_n n =>
    obtain ⟨h1, h2⟩ := ab_if_eq h
    have hl := ab_beq h1
    subst hl
    obtain ⟨s1, h3, rfl⟩ := ab_1_eq h2
    exact ab_s_load (fun x H locs ls rest hk hl q => by obtain ⟨y, rfl⟩ := hk; exact lv_lload_n hx hb hd rfl hl q) h3 (k _ List.mem_cons_self)
  case aload_n n =>
    obtain ⟨h1, h2⟩ := ab_if_eq h
    have hl := ab_beq h1
    subst hl
    obtain ⟨s1, h3, rfl⟩ := ab_1_eq h2
    exact ab_s_load (fun x H locs ls rest hk hl q => by obtain ⟨y, rfl⟩ := hk; exact lv_aload_n hx hb hd rfl hl q) h3 (k _ List.mem_cons_self)
  case iload n =>
    obtain ⟨h1, h2⟩ := ab_if_eq h
    have hl := ab_beq h1
    subst hl
    obtain ⟨s1, h3, rfl⟩ := ab_1_eq h2
    exact ab_s_load (fun x H locs ls rest hk hl q => by obtain ⟨y, rfl⟩ := hk; exact lv_iload hx hb hd hl q) h3 (k _ List.mem_cons_self)
  case lload n =>
    obtain ⟨h1, h2⟩ := ab_if_eq h
    have hl := ab_beq h1
    subst hl
    obtain ⟨s1, h3, rfl⟩ := ab_1_eq h2
    exact ab_s_load (fun x H locs ls rest hk hl q => by obtain ⟨y, rfl⟩ := hk; exact lv_lload hx hb hd hl q) h3 (k _ List.mem_cons_self)
  case aload n =>
    obtain ⟨h1, h2⟩ := ab_if_eq h
    have hl := ab_beq h1
    subst hl
    obtain ⟨s1, h3, rfl⟩ := ab_1_eq h2
    exact ab_s_load (fun x H locs ls rest hk hl q => by obtain ⟨y, rfl⟩ := hk; exact lv_aload hx hb hd hl q) h3 (k _ List.mem_cons_self)
  case istore_n n =>
    obtain ⟨h1, h2⟩ := ab_if_eq h
    have hl := ab_beq h1
    subst hl
    obtain ⟨s1, h3, rfl⟩ := ab_1_eq h2
    exact ab_s_store (fun x H locs ls rest hk hi hh q => by obtain ⟨y, rfl⟩ := hk; exact lv_istore_n hx hb hd rfl hh hi rfl q) h3 (k _ List.mem_cons_self)
  case astore_n n =>
    obtain ⟨h1, h2⟩ := ab_if_eq h
    have hl := ab_beq h1
    subst hl
    obtain ⟨s1, h3, rfl⟩ := ab_1_eq h2
    exact ab_s_store (fun x H locs ls rest hk hi hh q => by obtain ⟨y, rfl⟩ := hk; exact lv_astore_n hx hb hd rfl hh hi rfl q) h3 (k _ List.mem_cons_self)
  case lstore_n n =>
    obtain ⟨h1, h2⟩ := ab_if_eq h
    have hl := ab_beq h1
    subst hl
    obtain ⟨s1, h3, rfl⟩ := ab_1_eq h2
    exact ab_s_storeL (fun x H locs ls rest hi hh q => lv_lstore_n hx hb hd rfl hh hi rfl q) h3 (k _ List.mem_cons_self)
  case istore n =>
    obtain ⟨h1, h2⟩ := ab_if_eq h
    have hl := ab_beq h1
    subst hl
    obtain ⟨s1, h3, rfl⟩ := ab_1_eq h2
    exact ab_s_store (fun x H locs ls rest hk hi hh q => by obtain ⟨y, rfl⟩ := hk; exact lv_istore hx hb hd hh hi rfl q) h3 (k _ List.mem_cons_self)
  case astore n =>
    obtain ⟨h1, h2⟩ := ab_if_eq h
    have hl := ab_beq h1
    subst hl
    obtain ⟨s1, h3, rfl⟩ := ab_1_eq h2
    exact ab_s_store (fun x H locs ls rest hk hi hh q => by obtain ⟨y, rfl⟩ := hk; exact lv_astore hx hb hd hh hi rfl q) h3 (k _ List.mem_cons_self)
  case lstore n =>
    obtain ⟨h1, h2⟩ := ab_if_eq h
    have hl := ab_beq h1
    subst hl
    obtain ⟨s1, h3, rfl⟩ := ab_1_eq h2
    exact ab_s_storeL (fun x H locs ls rest hi hh q => lv_lstore hx hb hd hh hi rfl q) h3 (k _ List.mem_cons_self)
  case iinc n z =>
    obtain ⟨h1, h2⟩ := ab_if_eq h
    have hl := ab_beq h1
    subst hl
    obtain ⟨s1, h3, rfl⟩ := ab_1_eq h2
    exact ab_s_inc hI.e (fun x H locs ls rest kk hk hi hh q => lv_iinc hx hb hd hh hk rfl hi rfl q) h3 (k _ List.mem_cons_self)
  case iadd =>
    obtain ⟨h1, h2⟩ := ab_if_eq h
    have hl := ab_beq h1
    subst hl
    obtain ⟨s1, h3, rfl⟩ := ab_1_eq h2
    exact ab_s_bin hI.e ab_addQ (· + ·) (fun _ _ => True) (fun _ _ _ _ _ _ _ a b q => ⟨trivial, ab_addQ_ok a b q⟩) (fun x y H locs ls rest _ q => lv_iadd hx hb hd q) h3 (k _ List.mem_cons_self)
  case isub =>
    obtain ⟨h1, h2⟩ := ab_if_eq h
    have hl := ab_beq h1
    subst hl
    obtain ⟨s1, h3, rfl⟩ := ab_1_eq h2
    exact ab_s_bin hI.e ab_subQ (· - ·) (fun _ _ => True) (fun _ _ _ _ _ _ _ a b q => ⟨trivial, ab_subQ_ok a b q⟩) (fun x y H locs ls rest _ q => lv_isub hx hb hd q) h3 (k _ List.mem_cons_self)
  case imul =>
    obtain ⟨h1, h2⟩ := ab_if_eq h
    have hl := ab_beq h1
    subst hl
    obtain ⟨s1, h3, rfl⟩ := ab_1_eq h2
    exact ab_s_bin hI.e ab_mulQ (· * ·) (fun _ _ => True) (fun _ _ _ _ _ _ _ a b q => ⟨trivial, ab_mulQ_ok a b q⟩) (fun x y H locs ls rest _ q => lv_imul hx hb hd q) h3 (k _ List.mem_cons_self)
  case idiv =>
    obtain ⟨h1, h2⟩ := ab_if_eq h
    have hl := ab_beq h1
    subst hl
    obtain ⟨s1, h3, rfl⟩ := ab_1_eq h2
    exact ab_s_bin hI.e ab_divQ (· / ·) (fun _ y => ¬ y = 0) (fun _ _ _ _ _ _ _ a b q => ab_divQ_ok a b q) (fun x y H locs ls rest g q => lv_idiv hx hb hd g q) h3 (k _ List.mem_cons_self)
  case irem =>
    obtain ⟨h1, h2⟩ := ab_if_eq h
    have hl := ab_beq h1
    subst hl
    obtain ⟨s1, h3, rfl⟩ := ab_1_eq h2
    exact ab_s_bin hI.e ab_remQ (fun x y => x - x / y * y) (fun _ y => ¬ y = 0) (fun _ _ _ _ _ _ _ a b q => ab_remQ_ok a b q) (fun x y H locs ls rest g q => lv_irem hx hb hd g q) h3 (k _ List.mem_cons_self)
  case iand =>
    obtain ⟨h1, h2⟩ := ab_if_eq h
    have hl := ab_beq h1
    subst hl
    obtain ⟨s1, h3, rfl⟩ := ab_1_eq h2
    exact ab_s_bin hI.e ab_andQ (· &&& ·) (fun _ _ => True) (fun _ _ _ _ _ _ _ a b q => ⟨trivial, ab_andQ_ok a b q⟩) (fun x y H locs ls rest _ q => lv_iand hx hb hd q) h3 (k _ List.mem_cons_self)
  case ior =>
    obtain ⟨h1, h2⟩ := ab_if_eq h
    have hl := ab_beq h1
    subst hl
    obtain ⟨s1, h3, rfl⟩ := ab_1_eq h2
    exact ab_s_bin hI.e ab_orQ (· ||| ·) (fun _ _ => True) (fun _ _ _ _ _ _ _ a b q => ⟨trivial, ab_orQ_ok a b q⟩) (fun x y H locs ls rest _ q => lv_ior hx hb hd q) h3 (k _ List.mem_cons_self)
  case ishl =>
    obtain ⟨h1, h2⟩ := ab_if_eq h
    have hl := ab_beq h1
    subst hl
    obtain ⟨s1, h3, rfl⟩ := ab_1_eq h2
    exact ab_s_bin hI.e ab_shlQ (fun x y => x <<< (y &&& 31)) (fun _ _ => True) (fun _ _ _ _ _ _ _ a b q => ⟨trivial, ab_shlQ_ok a b q⟩) (fun x y H locs ls rest _ q => lv_ishl hx hb hd q) h3 (k _ List.mem_cons_self)
  case ishr =>
    obtain ⟨h1, h2⟩ := ab_if_eq h
    have hl := ab_beq h1
    subst hl
    obtain ⟨s1, h3, rfl⟩ := ab_1_eq h2
    exact ab_s_bin hI.e ab_shrQ (fun x y => x >>> (y &&& 31)) (fun _ _ => True) (fun _ _ _ _ _ _ _ a b q => ⟨trivial, ab_shrQ_ok a b q⟩) (fun x y H locs ls rest _ q => lv_ishr hx hb hd q) h3 (k _ List.mem_cons_self)
  case ineg =>
    obtain ⟨h1, h2⟩ := ab_if_eq h
    have hl := ab_beq h1
    subst hl
    obtain ⟨s1, h3, rfl⟩ := ab_1_eq h2
    exact ab_s_ineg hI.e (fun x H locs ls rest q => lv_ineg hx hb hd q) h3 (k _ List.mem_cons_self)
  case ladd =>
    obtain ⟨h1, h2⟩ := ab_if_eq h
    have hl := ab_beq h1
    subst hl
    obtain ⟨s1, h3, rfl⟩ := ab_1_eq h2
    exact ab_s_binL hI.e ab_laddQ (· + ·) (fun _ _ => True) (fun _ _ _ _ _ _ a b c d q => ⟨trivial, ab_laddQ_ok a b c d q⟩) (fun x y H locs ls rest _ q => lv_ladd hx hb hd q) h3 (k _ List.mem_cons_self)
  case lsub =>
    obtain ⟨h1, h2⟩ := ab_if_eq h
    have hl := ab_beq h1
    subst hl
    obtain ⟨s1, h3, rfl⟩ := ab_1_eq h2
    exact ab_s_binL hI.e ab_lsubQ (· - ·) (fun _ _ => True) (fun _ _ _ _ _ _ a b c d q => ⟨trivial, ab_lsubQ_ok a b c d q⟩) (fun x y H locs ls rest _ q => lv_lsub hx hb hd q) h3 (k _ List.mem_cons_self)
  case lmul =>
    obtain ⟨h1, h2⟩ := ab_if_eq h
    have hl := ab_beq h1
    subst hl
    obtain ⟨s1, h3, rfl⟩ := ab_1_eq h2
    exact ab_s_binL hI.e ab_lmulQ (· * ·) (fun _ _ => True) (fun _ _ _ _ _ _ a b c d q => ⟨trivial, ab_lmulQ_ok a b c d q⟩) (fun x y H locs ls rest _ q => lv_lmul hx hb hd q) h3 (k _ List.mem_cons_self)
  case ldiv =>
    obtain ⟨h1, h2⟩ := ab_if_eq h
    have hl := ab_beq h1
    subst hl
    obtain ⟨s1, h3, rfl⟩ := ab_1_eq h2
    exact ab_s_binL hI.e ab_ldivQ (· / ·) (fun _ y => ¬ y = 0) (fun _ _ _ _ _ _ a b c d q => ⟨(ab_ldivQ_ok (x := 0) c q).1, (ab_ldivQ_ok (x := 0) c q).2 _⟩) (fun x y H locs ls rest g q => lv_ldiv hx hb hd g q) h3 (k _ List.mem_cons_self)
  case lrem =>
    obtain ⟨h1, h2⟩ := ab_if_eq h
    have hl := ab_beq h1
    subst hl
    obtain ⟨s1, h3, rfl⟩ := ab_1_eq h2
    exact ab_s_binL hI.e ab_ldivQ (fun x y => x - x / y * y) (fun _ y => ¬ y = 0) (fun _ _ _ _ _ _ a b c d q => ⟨(ab_ldivQ_ok (x := 0) c q).1, (ab_ldivQ_ok (x := 0) c q).2 _⟩) (fun x y H locs ls rest g q => lv_lrem hx hb hd g q) h3 (k _ List.mem_cons_self)
  case lcmp =>
    obtain ⟨h1, h2⟩ := ab_if_eq h
    have hl := ab_beq h1
    subst hl
    obtain ⟨s1, h3, rfl⟩ := ab_n_eq h2
    exact ab_s_lcmp hI.e (fun x y H locs ls rest q => W.lcmp hx hb hd q) h3 (ab_map_in k)
  case i2l =>
    obtain ⟨h1, h2⟩ := ab_if_eq h
    have hl := ab_beq h1
    subst hl
    obtain ⟨s1, h3, rfl⟩ := ab_1_eq h2
    exact ab_s_i2l hI.e (fun x H locs ls rest q => lv_i2l hx hb hd rfl q) h3 (k _ List.mem_cons_self)
  case l2i =>
    obtain ⟨h1, h2⟩ := ab_if_eq h
    have hl := ab_beq h1
    subst hl
    obtain ⟨s1, h3, rfl⟩ := ab_1_eq h2
    exact ab_s_l2i hI.e (fun x H locs ls rest q => lv_l2i hx hb hd rfl q) h3 (k _ List.mem_cons_self)
  case dup =>
    obtain ⟨h1, h2⟩ := ab_if_eq h
    have hl := ab_beq h1
    subst hl
    obtain ⟨s1, h3, rfl⟩ := ab_1_eq h2
    exact ab_s_dup (fun v H locs ls rest hv q => lv_dup hx hb hd hv q) h3 (k _ List.mem_cons_self)
  case dup2 =>
    obtain ⟨h1, h2⟩ := ab_if_eq h
    have hl := ab_beq h1
    subst hl
    obtain ⟨s1, h3, rfl⟩ := ab_1_eq h2
    exact ab_s_dup2 (fun v H locs ls rest q => lv_dup2_2 hx hb hd rfl q) (fun v w H locs ls rest hv hw q => lv_dup2_11 hx hb hd hv hw q) h3 (k _ List.mem_cons_self)
  case pop =>
    obtain ⟨h1, h2⟩ := ab_if_eq h
    have hl := ab_beq h1
    subst hl
    obtain ⟨s1, h3, rfl⟩ := ab_1_eq h2
    exact ab_s_pop (fun v H locs ls rest hv q => lv_pop hx hb hd hv q) h3 (k _ List.mem_cons_self)
  case goto off =>
    obtain ⟨h1, h2⟩ := ab_if_eq h
    have hl := ab_beq h1
    subst hl
    split at h2
    · rename_i t ht
      cases h2
      intro ρ ls stk ws hi S H locs hP hD hS
      exact lv_goto hx hb hd (ab_tgt_ok ht) (k _ List.mem_cons_self ρ ls stk ws hi S H locs hP hD hS)
    · cases h2
  case ifCond co off =>
    obtain ⟨h1, h2⟩ := ab_if_eq h
    have hl := ab_beq h1
    subst hl
    exact ab_s_ifc hx hb hd h2 k
  case if_icmp co off =>
    obtain ⟨h1, h2⟩ := ab_if_eq h
    have hl := ab_beq h1
    subst hl
    exact ab_s_icmp hx hb hd h2 k
  case tableswitch d lo hi os => exact ab_s_tsw hx hb hd h k
  case lookupswitch d os => exact ab_s_lsw hx hb hd h k
  case getfield ix =>
    obtain ⟨h1, h2⟩ := ab_if_eq h
    have hl := ab_beq h1
    subst hl
    split at h2
    · rename_i q hq
      obtain ⟨s1, h3, rfl⟩ := ab_1_eq h2
      obtain ⟨C, Tb, N, ty0, f1, f2, f3, f4, f5, f6, f7, f8, f9⟩ := hTO.1 ix q hq
      exact ab_s_gf (fun q0 a fs v ws H locs ls rest hP hw hv w => va_get hx hb hts f3 hown hK hP q0 hw f1 q.2.1 f2 (hts _ f4) (fun _ z => z) hv hd w) h3 (k _ List.mem_cons_self)
    · cases h2
  case putfield ix =>
    obtain ⟨h1, h2⟩ := ab_if_eq h
    have hl := ab_beq h1
    subst hl
    split at h2
    · rename_i q hq
      cases hf : (q.2.2.2 && !ini) with
      | true => rw [hf] at h2; simp at h2
      | false =>
        rw [hf] at h2
        simp only [cond_false] at h2
        obtain ⟨s1, h3, rfl⟩ := ab_1_eq h2
        obtain ⟨C, Tb, N, ty0, f1, f2, f3, f4, f5, f6, f7, f8, f9⟩ := hTO.1 ix q hq
        cases hfin : q.2.2.2 with
        | false =>
          rw [hfin] at f5
          exact ab_s_pf hI.m (fun q0 a fs v ws H locs ls rest hP hD hS hw hlt hn hfi w => va_put hx hb hts f3 ty0 f8 f9 hown hK hP hD hS q0 hw f1 q.2.1 f2 (hts _ f4) (fun _ z => z) f5 f7 hn hfi hlt hd w) h3 (k _ List.mem_cons_self)
        | true =>
          rw [hfin] at f5 hf
          have hin : ini = true := by
            cases ini with
            | true => rfl
            | false => simp at hf
          exact ab_s_pf hI.m (fun q0 a fs v ws H locs ls rest hP hD hS hw hlt hn hfi w => va_putF hx hb hts f3 ty0 f8 f9 hown hK hP hD hS q0 hw f1 q.2.1 f2 (hts _ f4) (fun _ z => z) f5 (hini hin) (f6 hfin) f7 hn hfi hlt hd w) h3 (k _ List.mem_cons_self)
    · cases h2
  case getstatic ix =>
    obtain ⟨h1, h2⟩ := ab_if_eq h
    have hl := ab_beq h1
    subst hl
    cases hs : T.2.2.2.1 ix with
    | false => rw [hs] at h2; simp at h2
    | true =>
      rw [hs] at h2
      simp only [cond_true] at h2
      cases h2
      intro ρ ls stk ws hi S H locs hP hD hS
      refine va_gets hx hb hZ hS hown (hts _ (hTO.2.2.2 ix hs)) (fun _ z => z) hd ?_
      exact k _ List.mem_cons_self ρ ls (.ref tS :: stk) ws hi ⟨S.1, S.2.1, S.2.2.1, rfl, S.2.2.2⟩ H locs hP hD hS
  case iaload =>
    obtain ⟨h1, h2⟩ := ab_if_eq h
    have hl := ab_beq h1
    subst hl
    split at h2
    · rename_i l1 hl1
      cases h2
      exact ab_s_aldI hI.e (Or.inl rfl) (fun q0 N a f ii ws H locs ls rest hP hw hin w => va_iald hx hb hK hP q0 0 hw rfl hin hd w) hl1 (ab_map_in k)
    · obtain ⟨s1, h3, rfl⟩ := ab_n_eq h2
      refine ab_s_aldS hI.e [.ofNat 1, .ofNat 5, .ofNat 25, .ofNat 125] (fun ii v H locs ls rest hS hv hin w => ?_) h3 (ab_map_in k)
      have hin4 : vp_in ii 4 := hin
      have hlt : ii.toNatClampNeg < 4 := Nat.not_le.mp fun q => hin4 (Or.inr q)
      generalize hj : ii.toNatClampNeg = j at hv hlt
      rcases (show j = 0 ∨ j = 1 ∨ j = 2 ∨ j = 3 by omega) with rfl | rfl | rfl | rfl
      · exact va_ti hx hb hT hS hin4 (v := .int 1) (by rw [hj]; rfl) hd (w 1 (by simp at hv; rw [← hv]; decide))
      · exact va_ti hx hb hT hS hin4 (v := .int 5) (by rw [hj]; rfl) hd (w 5 (by simp at hv; rw [← hv]; decide))
      · exact va_ti hx hb hT hS hin4 (v := .int 25) (by rw [hj]; rfl) hd (w 25 (by simp at hv; rw [← hv]; decide))
      · exact va_ti hx hb hT hS hin4 (v := .int 125) (by rw [hj]; rfl) hd (w 125 (by simp at hv; rw [← hv]; decide))
  case baload =>
    obtain ⟨h1, h2⟩ := ab_if_eq h
    have hl := ab_beq h1
    subst hl
    obtain ⟨s1, h3, rfl⟩ := ab_n_eq h2
    exact ab_s_aldI hI.e (Or.inr rfl) (fun q0 N a f ii ws H locs ls rest hP hw hin w => va_zald hx hb hK hP q0 2 hw rfl hin hd w) h3 (ab_map_in k)
  case laload =>
    obtain ⟨h1, h2⟩ := ab_if_eq h
    have hl := ab_beq h1
    subst hl
    obtain ⟨s1, h3, rfl⟩ := ab_n_eq h2
    exact ab_s_aldL hI.e (fun q0 N a f ii ws H locs ls rest hP hw hin w => va_lald hx hb hK hP q0 1 hw rfl hin hd w) h3 (ab_map_in k)
  case aaload =>
    obtain ⟨h1, h2⟩ := ab_if_eq h
    have hl := ab_beq h1
    subst hl
    obtain ⟨s1, h3, rfl⟩ := ab_1_eq h2
    refine ab_s_aald (fun q0 t0 N a cA t f ii ws H locs ls rest hP hw ht hin w => ?_) h3 (k _ List.mem_cons_self)
    have hlt : ii.toNatClampNeg < N := Nat.not_le.mp fun q => hin (Or.inr q)
    exact W.aald (v := va_rf (f ii.toNatClampNeg)) (ty := .array t) hx hb (hP q0 _ hw) ((hK.2 t0 _ ht).1 N (fun j => va_rf (f j))) rfl (fun q => by cases q) (by show ¬ (ii < 0 ∨ (arrV _ _ _).slots.size ≤ _); rw [arrV_size]; exact hin) (by show (arrV _ _ _).slots[_]? = _; rw [arrV_read _ _ hlt]) rfl rfl hd w
  case iastore =>
    obtain ⟨h1, h2⟩ := ab_if_eq h
    have hl := ab_beq h1
    subst hl
    obtain ⟨s1, h3, rfl⟩ := ab_1_eq h2
    exact ab_s_astI hI.m (Or.inl rfl) (fun x => x) (fun _ _ => rfl) (fun _ _ _ _ => rfl) (fun q0 N a f ii x ws H locs ls rest hP hD hS hw hin w => va_iast hx hb hK hP hD hS q0 0 hw rfl hin hd w) h3 (k _ List.mem_cons_self)
  case bastore =>
    obtain ⟨h1, h2⟩ := ab_if_eq h
    have hl := ab_beq h1
    subst hl
    obtain ⟨s1, h3, rfl⟩ := ab_1_eq h2
    refine ab_s_astI hI.m (Or.inr rfl) (fun x => vp_nar .boolean x) (fun q => by cases q) (fun _ x x0 x1 => ?_) (fun q0 N a f ii x ws H locs ls rest hP hD hS hw hin w => va_zast hx hb hK hP hD hS q0 2 hw rfl hin hd w) h3 (k _ List.mem_cons_self)
    rcases (show x.toInt = 0 ∨ x.toInt = 1 by omega) with q | q
    · rw [show x = 0 from Int32.toInt_inj.mp (by rw [q]; decide)]; rfl
    · rw [show x = 1 from Int32.toInt_inj.mp (by rw [q]; decide)]; rfl
  case lastore =>
    obtain ⟨h1, h2⟩ := ab_if_eq h
    have hl := ab_beq h1
    subst hl
    obtain ⟨s1, h3, rfl⟩ := ab_1_eq h2
    exact ab_s_astL hI.m (fun q0 N a f ii x ws H locs ls rest hP hD hS hw hin w => va_last hx hb hK hP hD hS q0 1 hw rfl hin hd w) h3 (k _ List.mem_cons_self)
  case invokevirtual ix =>
    obtain ⟨h1, h2⟩ := ab_if_eq h
    have hl := ab_beq h1
    subst hl
    unfold ab_inv at h2
    split at h2
    · simp at h2
    · rename_i j hj
      cases hv : (Mt j).2.2 with
      | true => rw [hv] at h2; simp at h2
      | false =>
        rw [hv] at h2
        simp only [show (true == false) = false from rfl, cond_false] at h2
        obtain ⟨s1, h3, rfl⟩ := ab_n_eq h2
        rw [← hv] at h3
        exact hC ix j st s1 hj (by rw [hv]; exact hd) h3 (ab_map_in k)
    · cases h2
  case invokestatic ix =>
    obtain ⟨h1, h2⟩ := ab_if_eq h
    have hl := ab_beq h1
    subst hl
    unfold ab_inv at h2
    split at h2
    · rename_i kk hkk
      simp only [cond_false] at h2
      obtain ⟨s1, h3, rfl⟩ := ab_1_eq h2
      exact hJ ix kk st s1 hkk hd h3 (k _ List.mem_cons_self)
    · rename_i j hj
      cases hv : (Mt j).2.2 with
      | false => rw [hv] at h2; simp at h2
      | true =>
        rw [hv] at h2
        simp only [show (false == true) = false from rfl, cond_false] at h2
        obtain ⟨s1, h3, rfl⟩ := ab_n_eq h2
        rw [← hv] at h3
        exact hC ix j st s1 hj (by rw [hv]; exact hd) h3 (ab_map_in k)
    · cases h2
  all_goals exact absurd h (by simp [ab_step])
end ABS
end
