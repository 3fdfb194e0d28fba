noncomputable section
abbrev ab_Oc : Type := Nat × ab_En × ab_AH × Option ab_SV
/-- fields, int and long constants, the static row, calls (of the own methods by number; of the JDK's by a sign), by the pool's numbers -/
abbrev ab_Tb : Type := (Nat → Option (Nat × Nat × FieldType × Bool)) × (Nat → Option Int) × (Nat → Option Int) × (Nat → Bool) × (Nat → Option (Nat ⊕ Nat))
/-- of an own method: how many arguments behind the receiver, the class, static -/
abbrev ab_Mt : Type := Nat → Nat × Nat × Bool
abbrev ab_Cf : Type := Nat → Nat → ab_En → ab_AH → List ab_SV → Option (List ab_Oc)
def ab_rv (P : ab_SV → Value → Prop) (v : Option ab_SV) (x : Option Value) : Prop := match v, x with
  | none, none => True
  | some v, some x => P v x
  | _, _ => False
def ab_1 (pc : Nat) (o : Option ab_St) : Option (List (Nat × ab_St)) := match o with
  | some s => some [(pc, s)]
  | none => none
def ab_n (pc : Nat) (o : Option (List ab_St)) : Option (List (Nat × ab_St)) := match o with
  | some l => some (l.map (fun s => (pc, s)))
  | none => none
def ab_if (b : Bool) (o : Option (List (Nat × ab_St))) : Option (List (Nat × ab_St)) := bif b then o else none
/-- the receiver is an object of this class -/
def ab_rcv (ci : Nat) (h : ab_AH) (as : List ab_SV) : Bool := match as with
  | some (.inr (.inl [k])) :: _ => (match ab_hg h k with
    | some (ci', _, .inr (.inr (.inr (.inr _)))) => Nat.beq ci' ci
    | _ => false)
  | _ => false
def ab_call (nargs ci : Nat) (stat : Bool) (O : Nat → ab_En → ab_AH → List ab_SV → Option (List ab_Oc)) (st : ab_St) : Option (List ab_St) := match st with
  | (n, e, h, L, sk) => bif Nat.ble (bif stat then nargs else nargs + 1) sk.length && (Nat.ble (sk.drop (bif stat then nargs else nargs + 1)).length 4 && (stat || ab_rcv ci h (sk.take (bif stat then nargs else nargs + 1)).reverse)) then
    (match O n e h (sk.take (bif stat then nargs else nargs + 1)).reverse with
    | some outs => some (outs.map (fun o => (o.1, o.2.1, o.2.2.1, L, o.2.2.2.toList ++ sk.drop (bif stat then nargs else nargs + 1))))
    | none => none) else none
/-- the JDK's: 1 max, 2 min, 3 abs, 4 arraycopy of ints, 5 of longs, 6 fill of ints, 7 of longs -/
def ab_jdk (k : Nat) (M : Nat → Bool) (st : ab_St) : Option ab_St := match k with
  | 1 => ab_binR ab_maxQ st
  | 2 => ab_binR ab_minQ st
  | 3 => ab_iabs st
  | 4 => (match ab_cpy 0 M st with
    | some s => some s
    | none => ab_cpy 1 M st)
  | 6 => ab_fill 0 false M st
  | 7 => ab_fill 1 true M st
  | _ => none
def ab_inv (T : ab_Tb) (Mt : ab_Mt) (O : ab_Cf) (M : Nat → Bool) (virt : Bool) (ix pc : Nat) (st : ab_St) : Option (List (Nat × ab_St)) := match T.2.2.2.2 ix with
  | some (.inl k) => bif virt then none else ab_1 (pc + 3) (ab_jdk k M st)
  | some (.inr j) => bif virt == (Mt j).2.2 then none else ab_n (pc + 3) (ab_call (Mt j).1 (Mt j).2.1 (Mt j).2.2 (O j) st)
  | none => none
def ab_step (T : ab_Tb) (Mt : ab_Mt) (O : ab_Cf) (nL : Nat) (M : Nat → Bool) (ini : Bool) (i : Instr) (len pc : Nat) (st : ab_St) : Option (List (Nat × ab_St)) := match i with
  | .iconst n => ab_if (ab_i32 n n && Nat.beq len 1) (some [(pc + 1, ab_kI n st)])
  | .bipush n => ab_if ((ab_le (.negSucc 127) n && ab_le n (.ofNat 127)) && Nat.beq len 2) (some [(pc + 2, ab_kI n st)])
  | .sipush n => ab_if ((ab_le (.negSucc 32767) n && ab_le n (.ofNat 32767)) && Nat.beq len 3) (some [(pc + 3, ab_kI n st)])
  | .lconst n => ab_if (Nat.beq len 1) (some [(pc + 1, ab_kL (.ofNat n.val) st)])
  | .ldc ix => ab_if (Nat.beq len 2) (match T.2.1 ix with
    | some v => some [(pc + 2, ab_kI v st)]
    | none => none)
  | .ldc_w ix => ab_if (Nat.beq len 3) (match T.2.1 ix with
    | some v => some [(pc + 3, ab_kI v st)]
    | none => none)
  | .ldc2_w ix => ab_if (Nat.beq len 3) (match T.2.2.1 ix with
    | some v => some [(pc + 3, ab_kL v st)]
    | none => none)
  | .iload_n k => ab_if (Nat.beq len 1) (ab_1 (pc + 1) (ab_load 0 k.val st))
  | .lload_n k => ab_if (Nat.beq len 1) (ab_1 (pc + 1) (ab_load 1 k.val st))
  | .aload_n k => ab_if (Nat.beq len 1) (ab_1 (pc + 1) (ab_load 2 k.val st))
  | .iload k => ab_if (Nat.beq len 2) (ab_1 (pc + 2) (ab_load 0 k st))
  | .lload k => ab_if (Nat.beq len 2) (ab_1 (pc + 2) (ab_load 1 k st))
  | .aload k => ab_if (Nat.beq len 2) (ab_1 (pc + 2) (ab_load 2 k st))
  | .istore_n k => ab_if (Nat.beq len 1) (ab_1 (pc + 1) (ab_store 0 k.val nL st))
  | .astore_n k => ab_if (Nat.beq len 1) (ab_1 (pc + 1) (ab_store 2 k.val nL st))
  | .lstore_n k => ab_if (Nat.beq len 1) (ab_1 (pc + 1) (ab_storeL k.val nL st))
  | .istore k => ab_if (Nat.beq len 2) (ab_1 (pc + 2) (ab_store 0 k nL st))
  | .astore k => ab_if (Nat.beq len 2) (ab_1 (pc + 2) (ab_store 2 k nL st))
  | .lstore k => ab_if (Nat.beq len 2) (ab_1 (pc + 2) (ab_storeL k nL st))
  | .iinc k z => ab_if (Nat.beq len 3) (ab_1 (pc + 3) (ab_inc k z nL st))
  | .iadd => ab_if (Nat.beq len 1) (ab_1 (pc + 1) (ab_bin ab_addQ st))
  | .isub => ab_if (Nat.beq len 1) (ab_1 (pc + 1) (ab_bin ab_subQ st))
  | .imul => ab_if (Nat.beq len 1) (ab_1 (pc + 1) (ab_bin ab_mulQ st))
  | .idiv => ab_if (Nat.beq len 1) (ab_1 (pc + 1) (ab_bin ab_divQ st))
  | .irem => ab_if (Nat.beq len 1) (ab_1 (pc + 1) (ab_bin ab_remQ st))
  | .iand => ab_if (Nat.beq len 1) (ab_1 (pc + 1) (ab_bin ab_andQ st))
  | .ior => ab_if (Nat.beq len 1) (ab_1 (pc + 1) (ab_bin ab_orQ st))
  | .ishl => ab_if (Nat.beq len 1) (ab_1 (pc + 1) (ab_bin ab_shlQ st))
  | .ishr => ab_if (Nat.beq len 1) (ab_1 (pc + 1) (ab_bin ab_shrQ st))
  | .ineg => ab_if (Nat.beq len 1) (ab_1 (pc + 1) (ab_ineg st))
  | .ladd => ab_if (Nat.beq len 1) (ab_1 (pc + 1) (ab_binL ab_laddQ st))
  | .lsub => ab_if (Nat.beq len 1) (ab_1 (pc + 1) (ab_binL ab_lsubQ st))
  | .lmul => ab_if (Nat.beq len 1) (ab_1 (pc + 1) (ab_binL ab_lmulQ st))
  | .ldiv => ab_if (Nat.beq len 1) (ab_1 (pc + 1) (ab_binL ab_ldivQ st))
  | .lrem => ab_if (Nat.beq len 1) (ab_1 (pc + 1) (ab_binL ab_ldivQ st))
  | .lcmp => ab_if (Nat.beq len 1) (ab_n (pc + 1) (ab_lcmp st))
  | .i2l => ab_if (Nat.beq len 1) (ab_1 (pc + 1) (ab_i2l st))
  | .l2i => ab_if (Nat.beq len 1) (ab_1 (pc + 1) (ab_l2i st))
  | .dup => ab_if (Nat.beq len 1) (ab_1 (pc + 1) (ab_dup st))
  | .dup2 => ab_if (Nat.beq len 1) (ab_1 (pc + 1) (ab_dup2 st))
  | .pop => ab_if (Nat.beq len 1) (ab_1 (pc + 1) (ab_pop st))
  | .goto off => ab_if (Nat.beq len 3) (match ab_tgt pc off with
    | some t => some [(t, st)]
    | none => none)
  | .ifCond c off => ab_if (Nat.beq len 3) (ab_ifc c off pc st)
  | .if_icmp c off => ab_if (Nat.beq len 3) (ab_icmp c off pc st)
  | .tableswitch d lo hi os => ab_tsw d lo hi os.toList pc st
  | .lookupswitch d os => ab_lsw d os.toList pc st
  | .getfield ix => ab_if (Nat.beq len 3) (match T.1 ix with
    | some q => ab_1 (pc + 3) (ab_gf q.1 q.2.1 st)
    | none => none)
  | .putfield ix => ab_if (Nat.beq len 3) (match T.1 ix with
    | some q => bif q.2.2.2 && !ini then none else ab_1 (pc + 3) (ab_pf q.1 q.2.1 q.2.2.1 M st)
    | none => none)
  | .getstatic ix => ab_if (Nat.beq len 3) (bif T.2.2.2.1 ix then some [(pc + 3, (st.1, st.2.1, st.2.2.1, st.2.2.2.1, some (.inr (.inr ())) :: st.2.2.2.2))] else none)
  | .iaload => ab_if (Nat.beq len 1) (match ab_ald 0 false st with
    | some l => some (l.map (fun s => (pc + 1, s)))
    | none => ab_n (pc + 1) (ab_aldS [.ofNat 1, .ofNat 5, .ofNat 25, .ofNat 125] st))
  | .baload => ab_if (Nat.beq len 1) (ab_n (pc + 1) (ab_ald 2 false st))
  | .laload => ab_if (Nat.beq len 1) (ab_n (pc + 1) (ab_ald 1 true st))
  | .aaload => ab_if (Nat.beq len 1) (ab_1 (pc + 1) (ab_aald st))
  | .iastore => ab_if (Nat.beq len 1) (ab_1 (pc + 1) (ab_ast 0 false false M st))
  | .bastore => ab_if (Nat.beq len 1) (ab_1 (pc + 1) (ab_ast 2 false true M st))
  | .lastore => ab_if (Nat.beq len 1) (ab_1 (pc + 1) (ab_ast 1 true false M st))
  | .invokevirtual ix => ab_if (Nat.beq len 3) (ab_inv T Mt O M true ix pc st)
  | .invokestatic ix => ab_if (Nat.beq len 3) (ab_inv T Mt O M false ix pc st)
  | _ => none
theorem ab_if_eq {b : Bool} {o : Option (List (Nat × ab_St))} {l : List (Nat × ab_St)} (h : ab_if b o = some l) : b = true ∧ o = some l := by
  unfold ab_if at h
  cases b with
  | true => exact ⟨rfl, h⟩
  | false => simp at h
theorem ab_1_eq {pc : Nat} {o : Option ab_St} {l : List (Nat × ab_St)} (h : ab_1 pc o = some l) : ∃ s, o = some s ∧ l = [(pc, s)] := by
  unfold ab_1 at h
  split at h
  · rename_i s
    cases h
    exact ⟨s, rfl, rfl⟩
  · cases h
theorem ab_n_eq {pc : Nat} {o : Option (List ab_St)} {l : List (Nat × ab_St)} (h : ab_n pc o = some l) : ∃ s, o = some s ∧ l = s.map (fun s => (pc, s)) := by
  unfold ab_n at h
  split at h
  · rename_i s
    cases h
    exact ⟨s, rfl, rfl⟩
  · cases h
theorem ab_beq {a b : Nat} (h : Nat.beq a b = true) : a = b := Nat.eq_of_beq_eq_true h
theorem ab_i8 {n : Int} (h1 : -128 ≤ n) (h2 : n ≤ 127) : (Int8.ofInt n).toInt32.toInt = n := by
  rw [Int8.toInt_toInt32, Int8.toInt_ofInt, Int.bmod_def]
  have h3 : Int8.size = 256 := rfl
  rw [h3]
  omega
theorem ab_i16 {n : Int} (h1 : -32768 ≤ n) (h2 : n ≤ 32767) : (Int16.ofInt n).toInt32.toInt = n := by
  rw [Int16.toInt_toInt32, Int16.toInt_ofInt, Int.bmod_def]
  have h3 : Int16.size = 65536 := rfl
  rw [h3]
  omega
theorem ab_map_in {pc : Nat} {l : List ab_St} {P : Nat → ab_St → Prop} (h : ∀ w ∈ l.map (fun s => (pc, s)), P w.1 w.2) : ∀ w ∈ l, P pc w := fun w hw => h (pc, w) (List.mem_map.mpr ⟨w, hw, rfl⟩)
end
