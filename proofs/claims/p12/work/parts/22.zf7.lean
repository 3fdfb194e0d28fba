noncomputable section
def zdF (pc : Nat) : {F : Nat → Decoder Instr // Decoder.instr pc = (Reader.u1 >>= F)} := ⟨_, rfl⟩
def zby (code : ByteArray) (p : Nat) : Option UInt8 := code.data.toList[p]?
theorem zbd {α β : Type} {r : Decoder α} {f : α → Decoder β} {code : ByteArray} {p s : Nat} {a : α} (h : r code p = .ok (a, s)) : (r >>= f) code p = f a code s := by
  show Except.bind (r code p) _ = _
  rw [h]
  rfl
theorem zu1 {code : ByteArray} {p : Nat} {b : UInt8} (h : zby code p = some b) : (Reader.u1 : Decoder Nat) code p = .ok (b.toNat, p + 1) := by
  obtain ⟨hl, hb⟩ := List.getElem?_eq_some_iff.mp h
  have hp : p < code.size := hl
  unfold Reader.u1
  show (dite (p < code.size) _ _ : Decoder Nat) code p = _
  rw [dif_pos hp]
  show Except.ok (code[p].toNat, p + 1) = _
  rw [show code[p] = b from hb]
theorem zu2 {code : ByteArray} {p : Nat} {b c : UInt8} (h : zby code p = some b) (h2 : zby code (p + 1) = some c) : (Reader.u2 : Decoder Nat) code p = .ok (b.toNat * 256 + c.toNat, p + 1 + 1) := by
  unfold Reader.u2
  rw [zbd (zu1 h), zbd (zu1 h2)]
  rfl
theorem zs1r {code : ByteArray} {p : Nat} {b : UInt8} (h : zby code p = some b) : (Reader.s1 : Decoder Int) code p = .ok (Reader.signed 8 b.toNat, p + 1) := by
  show Except.map _ ((Reader.u1 : Decoder Nat) code p) = _
  rw [zu1 h]
  rfl
theorem zs2r {code : ByteArray} {p : Nat} {b c : UInt8} (h : zby code p = some b) (h2 : zby code (p + 1) = some c) : (Reader.s2 : Decoder Int) code p = .ok (Reader.signed 16 (b.toNat * 256 + c.toNat), p + 1 + 1) := by
  show Except.map _ ((Reader.u2 : Decoder Nat) code p) = _
  rw [zu2 h h2]
  rfl
theorem zdk {code : ByteArray} {pc op nx : Nat} {b : UInt8} {i : Instr} (h : zby code pc = some b) (hb : b.toNat = op) (hF : (zdF pc).1 op code (pc + 1) = .ok (i, nx)) : decode code pc = .ok (i, nx - pc) := by
  unfold decode
  show Except.bind ((Decoder.instr pc) code pc) _ = _
  rw [(zdF pc).2, zbd (zu1 h), hb, hF]
  rfl
theorem zdrp {code : ByteArray} {pc k : Nat} {b : UInt8} (h : (code.data.toList.drop pc)[k]? = some b) : zby code (pc + k) = some b := by
  rw [List.getElem?_drop] at h; exact h
theorem zdrp0 {code : ByteArray} {pc : Nat} {b : UInt8} {r : List UInt8} (h : code.data.toList.drop pc = b :: r) : zby code pc = some b := zdrp (k := 0) (by rw [h]; rfl)
def zb0 (op : Nat) (B : List UInt8) (len : Nat) : Bool := @List.rec UInt8 (fun _ => Bool) false (fun b _ _ => @Bool.rec (fun _ => Bool) false (Nat.beq len 1) (Nat.beq b.toNat op)) B
def zb1 (op v : Nat) (B : List UInt8) (len : Nat) : Bool := @List.rec UInt8 (fun _ => Bool) false (fun b r _ => @List.rec UInt8 (fun _ => Bool) false (fun c _ _ => @Bool.rec (fun _ => Bool) false (@Bool.rec (fun _ => Bool) false (Nat.beq len 2) (Nat.beq c.toNat v)) (Nat.beq b.toNat op)) r) B
def zc2 (op : Nat) (k : Nat → Bool) (B : List UInt8) (len : Nat) : Bool := @List.rec UInt8 (fun _ => Bool) false (fun b r _ => @List.rec UInt8 (fun _ => Bool) false (fun c r2 _ => @List.rec UInt8 (fun _ => Bool) false (fun d _ _ => @Bool.rec (fun _ => Bool) false (@Bool.rec (fun _ => Bool) false (Nat.beq len 3) (k (Nat.add (Nat.mul c.toNat 256) d.toNat))) (Nat.beq b.toNat op)) r2) r) B
def zc1 (op : Nat) (v : Int) (B : List UInt8) (len : Nat) : Bool := @List.rec UInt8 (fun _ => Bool) false (fun b r _ => @List.rec UInt8 (fun _ => Bool) false (fun c _ _ => @Bool.rec (fun _ => Bool) false (@Bool.rec (fun _ => Bool) false (Nat.beq len 2) (ziq (Reader.signed 8 c.toNat) v)) (Nat.beq b.toNat op)) r) B
def zci (k : Nat) (z : Int) (B : List UInt8) (len : Nat) : Bool := @List.rec UInt8 (fun _ => Bool) false (fun b r _ => @List.rec UInt8 (fun _ => Bool) false (fun c r2 _ => @List.rec UInt8 (fun _ => Bool) false (fun d _ _ => @Bool.rec (fun _ => Bool) false (@Bool.rec (fun _ => Bool) false (@Bool.rec (fun _ => Bool) false (Nat.beq len 3) (ziq (Reader.signed 8 d.toNat) z)) (Nat.beq c.toNat k)) (Nat.beq b.toNat 132)) r2) r) B
section ZDD
variable {code : ByteArray} {pc len op : Nat} {i : Instr}
theorem zd0 (hop : ∀ pc code p, (zdF pc).1 op code p = .ok (i, p)) (h : zb0 op (code.data.toList.drop pc) len = true) : decode code pc = .ok (i, len) := by
  obtain ⟨b, r, hB, h⟩ := zl_l h
  obtain ⟨h1, h2⟩ := zl_b h
  have g := zdk (zdrp0 hB) (Nat.eq_of_beq_eq_true h1) (hop pc code (pc + 1))
  rw [g, Nat.eq_of_beq_eq_true h2, Nat.add_sub_cancel_left]
theorem zd1 {I : Nat → Instr} {v : Nat} (hop : ∀ pc code p (b : UInt8), zby code p = some b → (zdF pc).1 op code p = .ok (I b.toNat, p + 1)) (h : zb1 op v (code.data.toList.drop pc) len = true) : decode code pc = .ok (I v, len) := by
  obtain ⟨b, r, hB, h⟩ := zl_l h
  obtain ⟨c, r2, rfl, h⟩ := zl_l h
  obtain ⟨h1, h⟩ := zl_b h
  obtain ⟨h2, h3⟩ := zl_b h
  have g := zdk (zdrp0 hB) (Nat.eq_of_beq_eq_true h1) (hop pc code (pc + 1) c (zdrp (k := 1) (by rw [hB]; rfl)))
  rw [g, Nat.eq_of_beq_eq_true h2, Nat.eq_of_beq_eq_true h3, Nat.add_assoc, Nat.add_sub_cancel_left]
theorem zd2 {I : Nat → Instr} {k : Nat → Bool} {j : Instr} (hk : ∀ n, k n = true → I n = j) (hop : ∀ pc code p (b c : UInt8), zby code p = some b → zby code (p + 1) = some c → (zdF pc).1 op code p = .ok (I (b.toNat * 256 + c.toNat), p + 1 + 1)) (h : zc2 op k (code.data.toList.drop pc) len = true) : decode code pc = .ok (j, len) := by
  obtain ⟨b, r, hB, h⟩ := zl_l h
  obtain ⟨c, r2, rfl, h⟩ := zl_l h
  obtain ⟨d, r3, rfl, h⟩ := zl_l h
  obtain ⟨h1, h⟩ := zl_b h
  obtain ⟨h2, h3⟩ := zl_b h
  have g := zdk (zdrp0 hB) (Nat.eq_of_beq_eq_true h1) (hop pc code (pc + 1) c d (zdrp (k := 1) (by rw [hB]; rfl)) (zdrp (k := 2) (by rw [hB]; rfl)))
  rw [g, show I (c.toNat * 256 + d.toNat) = j from hk _ h2, Nat.eq_of_beq_eq_true h3, Nat.add_assoc, Nat.add_assoc, Nat.add_sub_cancel_left]
theorem zd1s {I : Int → Instr} {v : Int} (hop : ∀ pc code p (b : UInt8), zby code p = some b → (zdF pc).1 op code p = .ok (I (Reader.signed 8 b.toNat), p + 1)) (h : zc1 op v (code.data.toList.drop pc) len = true) : decode code pc = .ok (I v, len) := by
  obtain ⟨b, r, hB, h⟩ := zl_l h
  obtain ⟨c, r2, rfl, h⟩ := zl_l h
  obtain ⟨h1, h⟩ := zl_b h
  obtain ⟨h2, h3⟩ := zl_b h
  have g := zdk (zdrp0 hB) (Nat.eq_of_beq_eq_true h1) (hop pc code (pc + 1) c (zdrp (k := 1) (by rw [hB]; rfl)))
  rw [g, ziq_eq h2, Nat.eq_of_beq_eq_true h3, Nat.add_assoc, Nat.add_sub_cancel_left]
end ZDD
theorem zo_aconst_null : ∀ pc code p, (zdF pc).1 1 code p = .ok (.aconst_null, p) := fun _ _ _ => rfl
theorem zo_iaload : ∀ pc code p, (zdF pc).1 46 code p = .ok (.iaload, p) := fun _ _ _ => rfl
theorem zo_laload : ∀ pc code p, (zdF pc).1 47 code p = .ok (.laload, p) := fun _ _ _ => rfl
theorem zo_aaload : ∀ pc code p, (zdF pc).1 50 code p = .ok (.aaload, p) := fun _ _ _ => rfl
theorem zo_baload : ∀ pc code p, (zdF pc).1 51 code p = .ok (.baload, p) := fun _ _ _ => rfl
theorem zo_iastore : ∀ pc code p, (zdF pc).1 79 code p = .ok (.iastore, p) := fun _ _ _ => rfl
theorem zo_lastore : ∀ pc code p, (zdF pc).1 80 code p = .ok (.lastore, p) := fun _ _ _ => rfl
theorem zo_aastore : ∀ pc code p, (zdF pc).1 83 code p = .ok (.aastore, p) := fun _ _ _ => rfl
theorem zo_bastore : ∀ pc code p, (zdF pc).1 84 code p = .ok (.bastore, p) := fun _ _ _ => rfl
theorem zo_pop : ∀ pc code p, (zdF pc).1 87 code p = .ok (.pop, p) := fun _ _ _ => rfl
theorem zo_dup : ∀ pc code p, (zdF pc).1 89 code p = .ok (.dup, p) := fun _ _ _ => rfl
theorem zo_dup2 : ∀ pc code p, (zdF pc).1 92 code p = .ok (.dup2, p) := fun _ _ _ => rfl
theorem zo_iadd : ∀ pc code p, (zdF pc).1 96 code p = .ok (.iadd, p) := fun _ _ _ => rfl
theorem zo_ladd : ∀ pc code p, (zdF pc).1 97 code p = .ok (.ladd, p) := fun _ _ _ => rfl
theorem zo_isub : ∀ pc code p, (zdF pc).1 100 code p = .ok (.isub, p) := fun _ _ _ => rfl
theorem zo_lsub : ∀ pc code p, (zdF pc).1 101 code p = .ok (.lsub, p) := fun _ _ _ => rfl
theorem zo_imul : ∀ pc code p, (zdF pc).1 104 code p = .ok (.imul, p) := fun _ _ _ => rfl
theorem zo_lmul : ∀ pc code p, (zdF pc).1 105 code p = .ok (.lmul, p) := fun _ _ _ => rfl
theorem zo_idiv : ∀ pc code p, (zdF pc).1 108 code p = .ok (.idiv, p) := fun _ _ _ => rfl
theorem zo_ldiv : ∀ pc code p, (zdF pc).1 109 code p = .ok (.ldiv, p) := fun _ _ _ => rfl
theorem zo_irem : ∀ pc code p, (zdF pc).1 112 code p = .ok (.irem, p) := fun _ _ _ => rfl
theorem zo_lrem : ∀ pc code p, (zdF pc).1 113 code p = .ok (.lrem, p) := fun _ _ _ => rfl
theorem zo_ineg : ∀ pc code p, (zdF pc).1 116 code p = .ok (.ineg, p) := fun _ _ _ => rfl
theorem zo_ishl : ∀ pc code p, (zdF pc).1 120 code p = .ok (.ishl, p) := fun _ _ _ => rfl
theorem zo_ishr : ∀ pc code p, (zdF pc).1 122 code p = .ok (.ishr, p) := fun _ _ _ => rfl
theorem zo_iand : ∀ pc code p, (zdF pc).1 126 code p = .ok (.iand, p) := fun _ _ _ => rfl
theorem zo_ior : ∀ pc code p, (zdF pc).1 128 code p = .ok (.ior, p) := fun _ _ _ => rfl
theorem zo_ixor : ∀ pc code p, (zdF pc).1 130 code p = .ok (.ixor, p) := fun _ _ _ => rfl
theorem zo_i2l : ∀ pc code p, (zdF pc).1 133 code p = .ok (.i2l, p) := fun _ _ _ => rfl
theorem zo_l2i : ∀ pc code p, (zdF pc).1 136 code p = .ok (.l2i, p) := fun _ _ _ => rfl
theorem zo_lcmp : ∀ pc code p, (zdF pc).1 148 code p = .ok (.lcmp, p) := fun _ _ _ => rfl
theorem zo_ireturn : ∀ pc code p, (zdF pc).1 172 code p = .ok (.ireturn, p) := fun _ _ _ => rfl
theorem zo_lreturn : ∀ pc code p, (zdF pc).1 173 code p = .ok (.lreturn, p) := fun _ _ _ => rfl
theorem zo_areturn : ∀ pc code p, (zdF pc).1 176 code p = .ok (.areturn, p) := fun _ _ _ => rfl
theorem zo_return_ : ∀ pc code p, (zdF pc).1 177 code p = .ok (.return_, p) := fun _ _ _ => rfl
theorem zo_arraylength : ∀ pc code p, (zdF pc).1 190 code p = .ok (.arraylength, p) := fun _ _ _ => rfl
theorem zo_athrow : ∀ pc code p, (zdF pc).1 191 code p = .ok (.athrow, p) := fun _ _ _ => rfl
theorem zo_iload_n_0 : ∀ pc code p, (zdF pc).1 26 code p = .ok (.iload_n 0, p) := fun _ _ _ => rfl
theorem zo_iload_n_1 : ∀ pc code p, (zdF pc).1 27 code p = .ok (.iload_n 1, p) := fun _ _ _ => rfl
theorem zo_iload_n_2 : ∀ pc code p, (zdF pc).1 28 code p = .ok (.iload_n 2, p) := fun _ _ _ => rfl
theorem zo_iload_n_3 : ∀ pc code p, (zdF pc).1 29 code p = .ok (.iload_n 3, p) := fun _ _ _ => rfl
theorem zo_lload_n_0 : ∀ pc code p, (zdF pc).1 30 code p = .ok (.lload_n 0, p) := fun _ _ _ => rfl
theorem zo_lload_n_1 : ∀ pc code p, (zdF pc).1 31 code p = .ok (.lload_n 1, p) := fun _ _ _ => rfl
theorem zo_lload_n_2 : ∀ pc code p, (zdF pc).1 32 code p = .ok (.lload_n 2, p) := fun _ _ _ => rfl
theorem zo_lload_n_3 : ∀ pc code p, (zdF pc).1 33 code p = .ok (.lload_n 3, p) := fun _ _ _ => rfl
theorem zo_aload_n_0 : ∀ pc code p, (zdF pc).1 42 code p = .ok (.aload_n 0, p) := fun _ _ _ => rfl
theorem zo_aload_n_1 : ∀ pc code p, (zdF pc).1 43 code p = .ok (.aload_n 1, p) := fun _ _ _ => rfl
theorem zo_aload_n_2 : ∀ pc code p, (zdF pc).1 44 code p = .ok (.aload_n 2, p) := fun _ _ _ => rfl
theorem zo_aload_n_3 : ∀ pc code p, (zdF pc).1 45 code p = .ok (.aload_n 3, p) := fun _ _ _ => rfl
theorem zo_istore_n_0 : ∀ pc code p, (zdF pc).1 59 code p = .ok (.istore_n 0, p) := fun _ _ _ => rfl
theorem zo_istore_n_1 : ∀ pc code p, (zdF pc).1 60 code p = .ok (.istore_n 1, p) := fun _ _ _ => rfl
theorem zo_istore_n_2 : ∀ pc code p, (zdF pc).1 61 code p = .ok (.istore_n 2, p) := fun _ _ _ => rfl
theorem zo_istore_n_3 : ∀ pc code p, (zdF pc).1 62 code p = .ok (.istore_n 3, p) := fun _ _ _ => rfl
theorem zo_lstore_n_0 : ∀ pc code p, (zdF pc).1 63 code p = .ok (.lstore_n 0, p) := fun _ _ _ => rfl
theorem zo_lstore_n_1 : ∀ pc code p, (zdF pc).1 64 code p = .ok (.lstore_n 1, p) := fun _ _ _ => rfl
theorem zo_lstore_n_2 : ∀ pc code p, (zdF pc).1 65 code p = .ok (.lstore_n 2, p) := fun _ _ _ => rfl
theorem zo_lstore_n_3 : ∀ pc code p, (zdF pc).1 66 code p = .ok (.lstore_n 3, p) := fun _ _ _ => rfl
theorem zo_astore_n_0 : ∀ pc code p, (zdF pc).1 75 code p = .ok (.astore_n 0, p) := fun _ _ _ => rfl
theorem zo_astore_n_1 : ∀ pc code p, (zdF pc).1 76 code p = .ok (.astore_n 1, p) := fun _ _ _ => rfl
theorem zo_astore_n_2 : ∀ pc code p, (zdF pc).1 77 code p = .ok (.astore_n 2, p) := fun _ _ _ => rfl
theorem zo_astore_n_3 : ∀ pc code p, (zdF pc).1 78 code p = .ok (.astore_n 3, p) := fun _ _ _ => rfl
theorem zo_ldc : ∀ pc code p (b : UInt8), zby code p = some b → (zdF pc).1 18 code p = .ok (.ldc b.toNat, p + 1) := fun pc code p b h => by
  show (Reader.u1 >>= fun x => pure (Instr.ldc x) : Decoder Instr) code p = _
  rw [zbd (zu1 h)]; rfl
theorem zo_iload : ∀ pc code p (b : UInt8), zby code p = some b → (zdF pc).1 21 code p = .ok (.iload b.toNat, p + 1) := fun pc code p b h => by
  show (Reader.u1 >>= fun x => pure (Instr.iload x) : Decoder Instr) code p = _
  rw [zbd (zu1 h)]; rfl
theorem zo_lload : ∀ pc code p (b : UInt8), zby code p = some b → (zdF pc).1 22 code p = .ok (.lload b.toNat, p + 1) := fun pc code p b h => by
  show (Reader.u1 >>= fun x => pure (Instr.lload x) : Decoder Instr) code p = _
  rw [zbd (zu1 h)]; rfl
theorem zo_aload : ∀ pc code p (b : UInt8), zby code p = some b → (zdF pc).1 25 code p = .ok (.aload b.toNat, p + 1) := fun pc code p b h => by
  show (Reader.u1 >>= fun x => pure (Instr.aload x) : Decoder Instr) code p = _
  rw [zbd (zu1 h)]; rfl
theorem zo_istore : ∀ pc code p (b : UInt8), zby code p = some b → (zdF pc).1 54 code p = .ok (.istore b.toNat, p + 1) := fun pc code p b h => by
  show (Reader.u1 >>= fun x => pure (Instr.istore x) : Decoder Instr) code p = _
  rw [zbd (zu1 h)]; rfl
theorem zo_lstore : ∀ pc code p (b : UInt8), zby code p = some b → (zdF pc).1 55 code p = .ok (.lstore b.toNat, p + 1) := fun pc code p b h => by
  show (Reader.u1 >>= fun x => pure (Instr.lstore x) : Decoder Instr) code p = _
  rw [zbd (zu1 h)]; rfl
theorem zo_astore : ∀ pc code p (b : UInt8), zby code p = some b → (zdF pc).1 58 code p = .ok (.astore b.toNat, p + 1) := fun pc code p b h => by
  show (Reader.u1 >>= fun x => pure (Instr.astore x) : Decoder Instr) code p = _
  rw [zbd (zu1 h)]; rfl
theorem zo_ldc_w : ∀ pc code p (b c : UInt8), zby code p = some b → zby code (p + 1) = some c → (zdF pc).1 19 code p = .ok (.ldc_w (b.toNat * 256 + c.toNat), p + 1 + 1) := fun pc code p b c h h2 => by
  show (Reader.u2 >>= fun x => pure (Instr.ldc_w x) : Decoder Instr) code p = _
  rw [zbd (zu2 h h2)]; rfl
theorem zo_ldc2_w : ∀ pc code p (b c : UInt8), zby code p = some b → zby code (p + 1) = some c → (zdF pc).1 20 code p = .ok (.ldc2_w (b.toNat * 256 + c.toNat), p + 1 + 1) := fun pc code p b c h h2 => by
  show (Reader.u2 >>= fun x => pure (Instr.ldc2_w x) : Decoder Instr) code p = _
  rw [zbd (zu2 h h2)]; rfl
theorem zo_getstatic : ∀ pc code p (b c : UInt8), zby code p = some b → zby code (p + 1) = some c → (zdF pc).1 178 code p = .ok (.getstatic (b.toNat * 256 + c.toNat), p + 1 + 1) := fun pc code p b c h h2 => by
  show (Reader.u2 >>= fun x => pure (Instr.getstatic x) : Decoder Instr) code p = _
  rw [zbd (zu2 h h2)]; rfl
theorem zo_putstatic : ∀ pc code p (b c : UInt8), zby code p = some b → zby code (p + 1) = some c → (zdF pc).1 179 code p = .ok (.putstatic (b.toNat * 256 + c.toNat), p + 1 + 1) := fun pc code p b c h h2 => by
  show (Reader.u2 >>= fun x => pure (Instr.putstatic x) : Decoder Instr) code p = _
  rw [zbd (zu2 h h2)]; rfl
theorem zo_getfield : ∀ pc code p (b c : UInt8), zby code p = some b → zby code (p + 1) = some c → (zdF pc).1 180 code p = .ok (.getfield (b.toNat * 256 + c.toNat), p + 1 + 1) := fun pc code p b c h h2 => by
  show (Reader.u2 >>= fun x => pure (Instr.getfield x) : Decoder Instr) code p = _
  rw [zbd (zu2 h h2)]; rfl
theorem zo_putfield : ∀ pc code p (b c : UInt8), zby code p = some b → zby code (p + 1) = some c → (zdF pc).1 181 code p = .ok (.putfield (b.toNat * 256 + c.toNat), p + 1 + 1) := fun pc code p b c h h2 => by
  show (Reader.u2 >>= fun x => pure (Instr.putfield x) : Decoder Instr) code p = _
  rw [zbd (zu2 h h2)]; rfl
theorem zo_invokevirtual : ∀ pc code p (b c : UInt8), zby code p = some b → zby code (p + 1) = some c → (zdF pc).1 182 code p = .ok (.invokevirtual (b.toNat * 256 + c.toNat), p + 1 + 1) := fun pc code p b c h h2 => by
  show (Reader.u2 >>= fun x => pure (Instr.invokevirtual x) : Decoder Instr) code p = _
  rw [zbd (zu2 h h2)]; rfl
theorem zo_invokespecial : ∀ pc code p (b c : UInt8), zby code p = some b → zby code (p + 1) = some c → (zdF pc).1 183 code p = .ok (.invokespecial (b.toNat * 256 + c.toNat), p + 1 + 1) := fun pc code p b c h h2 => by
  show (Reader.u2 >>= fun x => pure (Instr.invokespecial x) : Decoder Instr) code p = _
  rw [zbd (zu2 h h2)]; rfl
theorem zo_invokestatic : ∀ pc code p (b c : UInt8), zby code p = some b → zby code (p + 1) = some c → (zdF pc).1 184 code p = .ok (.invokestatic (b.toNat * 256 + c.toNat), p + 1 + 1) := fun pc code p b c h h2 => by
  show (Reader.u2 >>= fun x => pure (Instr.invokestatic x) : Decoder Instr) code p = _
  rw [zbd (zu2 h h2)]; rfl
theorem zo_new : ∀ pc code p (b c : UInt8), zby code p = some b → zby code (p + 1) = some c → (zdF pc).1 187 code p = .ok (.new (b.toNat * 256 + c.toNat), p + 1 + 1) := fun pc code p b c h h2 => by
  show (Reader.u2 >>= fun x => pure (Instr.new x) : Decoder Instr) code p = _
  rw [zbd (zu2 h h2)]; rfl
theorem zo_anewarray : ∀ pc code p (b c : UInt8), zby code p = some b → zby code (p + 1) = some c → (zdF pc).1 189 code p = .ok (.anewarray (b.toNat * 256 + c.toNat), p + 1 + 1) := fun pc code p b c h h2 => by
  show (Reader.u2 >>= fun x => pure (Instr.anewarray x) : Decoder Instr) code p = _
  rw [zbd (zu2 h h2)]; rfl
theorem zo_checkcast : ∀ pc code p (b c : UInt8), zby code p = some b → zby code (p + 1) = some c → (zdF pc).1 192 code p = .ok (.checkcast (b.toNat * 256 + c.toNat), p + 1 + 1) := fun pc code p b c h h2 => by
  show (Reader.u2 >>= fun x => pure (Instr.checkcast x) : Decoder Instr) code p = _
  rw [zbd (zu2 h h2)]; rfl
theorem zo_bipush : ∀ pc code p (b : UInt8), zby code p = some b → (zdF pc).1 16 code p = .ok (.bipush (Reader.signed 8 b.toNat), p + 1) := fun pc code p b h => by
  show (Reader.s1 >>= fun x => pure (Instr.bipush x) : Decoder Instr) code p = _
  rw [zbd (zs1r h)]; rfl
theorem zo_sipush : ∀ pc code p (b c : UInt8), zby code p = some b → zby code (p + 1) = some c → (zdF pc).1 17 code p = .ok (.sipush (Reader.signed 16 (b.toNat * 256 + c.toNat)), p + 1 + 1) := fun pc code p b c h h2 => by
  show (Reader.s2 >>= fun x => pure (Instr.sipush x) : Decoder Instr) code p = _
  rw [zbd (zs2r h h2)]; rfl
theorem zo_goto : ∀ pc code p (b c : UInt8), zby code p = some b → zby code (p + 1) = some c → (zdF pc).1 167 code p = .ok (.goto (Reader.signed 16 (b.toNat * 256 + c.toNat)), p + 1 + 1) := fun pc code p b c h h2 => by
  show (Reader.s2 >>= fun x => pure (Instr.goto x) : Decoder Instr) code p = _
  rw [zbd (zs2r h h2)]; rfl
theorem zo_ifnull : ∀ pc code p (b c : UInt8), zby code p = some b → zby code (p + 1) = some c → (zdF pc).1 198 code p = .ok (.ifnull (Reader.signed 16 (b.toNat * 256 + c.toNat)), p + 1 + 1) := fun pc code p b c h h2 => by
  show (Reader.s2 >>= fun x => pure (Instr.ifnull x) : Decoder Instr) code p = _
  rw [zbd (zs2r h h2)]; rfl
theorem zo_ifnonnull : ∀ pc code p (b c : UInt8), zby code p = some b → zby code (p + 1) = some c → (zdF pc).1 199 code p = .ok (.ifnonnull (Reader.signed 16 (b.toNat * 256 + c.toNat)), p + 1 + 1) := fun pc code p b c h h2 => by
  show (Reader.s2 >>= fun x => pure (Instr.ifnonnull x) : Decoder Instr) code p = _
  rw [zbd (zs2r h h2)]; rfl
theorem zo_ifCond_eq : ∀ pc code p (b c : UInt8), zby code p = some b → zby code (p + 1) = some c → (zdF pc).1 153 code p = .ok (.ifCond .eq (Reader.signed 16 (b.toNat * 256 + c.toNat)), p + 1 + 1) := fun pc code p b c h h2 => by
  show (Reader.s2 >>= fun x => pure (Instr.ifCond .eq x) : Decoder Instr) code p = _
  rw [zbd (zs2r h h2)]; rfl
theorem zo_if_icmp_eq : ∀ pc code p (b c : UInt8), zby code p = some b → zby code (p + 1) = some c → (zdF pc).1 159 code p = .ok (.if_icmp .eq (Reader.signed 16 (b.toNat * 256 + c.toNat)), p + 1 + 1) := fun pc code p b c h h2 => by
  show (Reader.s2 >>= fun x => pure (Instr.if_icmp .eq x) : Decoder Instr) code p = _
  rw [zbd (zs2r h h2)]; rfl
theorem zo_ifCond_ne : ∀ pc code p (b c : UInt8), zby code p = some b → zby code (p + 1) = some c → (zdF pc).1 154 code p = .ok (.ifCond .ne (Reader.signed 16 (b.toNat * 256 + c.toNat)), p + 1 + 1) := fun pc code p b c h h2 => by
  show (Reader.s2 >>= fun x => pure (Instr.ifCond .ne x) : Decoder Instr) code p = _
  rw [zbd (zs2r h h2)]; rfl
theorem zo_if_icmp_ne : ∀ pc code p (b c : UInt8), zby code p = some b → zby code (p + 1) = some c → (zdF pc).1 160 code p = .ok (.if_icmp .ne (Reader.signed 16 (b.toNat * 256 + c.toNat)), p + 1 + 1) := fun pc code p b c h h2 => by
  show (Reader.s2 >>= fun x => pure (Instr.if_icmp .ne x) : Decoder Instr) code p = _
  rw [zbd (zs2r h h2)]; rfl
theorem zo_ifCond_lt : ∀ pc code p (b c : UInt8), zby code p = some b → zby code (p + 1) = some c → (zdF pc).1 155 code p = .ok (.ifCond .lt (Reader.signed 16 (b.toNat * 256 + c.toNat)), p + 1 + 1) := fun pc code p b c h h2 => by
  show (Reader.s2 >>= fun x => pure (Instr.ifCond .lt x) : Decoder Instr) code p = _
  rw [zbd (zs2r h h2)]; rfl
theorem zo_if_icmp_lt : ∀ pc code p (b c : UInt8), zby code p = some b → zby code (p + 1) = some c → (zdF pc).1 161 code p = .ok (.if_icmp .lt (Reader.signed 16 (b.toNat * 256 + c.toNat)), p + 1 + 1) := fun pc code p b c h h2 => by
  show (Reader.s2 >>= fun x => pure (Instr.if_icmp .lt x) : Decoder Instr) code p = _
  rw [zbd (zs2r h h2)]; rfl
theorem zo_ifCond_ge : ∀ pc code p (b c : UInt8), zby code p = some b → zby code (p + 1) = some c → (zdF pc).1 156 code p = .ok (.ifCond .ge (Reader.signed 16 (b.toNat * 256 + c.toNat)), p + 1 + 1) := fun pc code p b c h h2 => by
  show (Reader.s2 >>= fun x => pure (Instr.ifCond .ge x) : Decoder Instr) code p = _
  rw [zbd (zs2r h h2)]; rfl
theorem zo_if_icmp_ge : ∀ pc code p (b c : UInt8), zby code p = some b → zby code (p + 1) = some c → (zdF pc).1 162 code p = .ok (.if_icmp .ge (Reader.signed 16 (b.toNat * 256 + c.toNat)), p + 1 + 1) := fun pc code p b c h h2 => by
  show (Reader.s2 >>= fun x => pure (Instr.if_icmp .ge x) : Decoder Instr) code p = _
  rw [zbd (zs2r h h2)]; rfl
theorem zo_ifCond_gt : ∀ pc code p (b c : UInt8), zby code p = some b → zby code (p + 1) = some c → (zdF pc).1 157 code p = .ok (.ifCond .gt (Reader.signed 16 (b.toNat * 256 + c.toNat)), p + 1 + 1) := fun pc code p b c h h2 => by
  show (Reader.s2 >>= fun x => pure (Instr.ifCond .gt x) : Decoder Instr) code p = _
  rw [zbd (zs2r h h2)]; rfl
theorem zo_if_icmp_gt : ∀ pc code p (b c : UInt8), zby code p = some b → zby code (p + 1) = some c → (zdF pc).1 163 code p = .ok (.if_icmp .gt (Reader.signed 16 (b.toNat * 256 + c.toNat)), p + 1 + 1) := fun pc code p b c h h2 => by
  show (Reader.s2 >>= fun x => pure (Instr.if_icmp .gt x) : Decoder Instr) code p = _
  rw [zbd (zs2r h h2)]; rfl
theorem zo_ifCond_le : ∀ pc code p (b c : UInt8), zby code p = some b → zby code (p + 1) = some c → (zdF pc).1 158 code p = .ok (.ifCond .le (Reader.signed 16 (b.toNat * 256 + c.toNat)), p + 1 + 1) := fun pc code p b c h h2 => by
  show (Reader.s2 >>= fun x => pure (Instr.ifCond .le x) : Decoder Instr) code p = _
  rw [zbd (zs2r h h2)]; rfl
theorem zo_if_icmp_le : ∀ pc code p (b c : UInt8), zby code p = some b → zby code (p + 1) = some c → (zdF pc).1 164 code p = .ok (.if_icmp .le (Reader.signed 16 (b.toNat * 256 + c.toNat)), p + 1 + 1) := fun pc code p b c h h2 => by
  show (Reader.s2 >>= fun x => pure (Instr.if_icmp .le x) : Decoder Instr) code p = _
  rw [zbd (zs2r h h2)]; rfl
theorem zo_iinc : ∀ pc code p (b c : UInt8), zby code p = some b → zby code (p + 1) = some c → (zdF pc).1 132 code p = .ok (.iinc b.toNat (Reader.signed 8 c.toNat), p + 1 + 1) := fun pc code p b c h h2 => by
  show (Reader.u1 >>= fun x => Reader.s1 >>= fun y => pure (Instr.iinc x y) : Decoder Instr) code p = _
  rw [zbd (zu1 h), zbd (zs1r h2)]; rfl
theorem zdi {code : ByteArray} {pc len k : Nat} {z : Int} (h : zci k z (code.data.toList.drop pc) len = true) : decode code pc = .ok (.iinc k z, len) := by
  obtain ⟨b, r, hB, h⟩ := zl_l h
  obtain ⟨c, r2, rfl, h⟩ := zl_l h
  obtain ⟨d, r3, rfl, h⟩ := zl_l h
  obtain ⟨h1, h⟩ := zl_b h
  obtain ⟨h2, h⟩ := zl_b h
  obtain ⟨h3, h4⟩ := zl_b h
  have g := zdk (zdrp0 hB) (Nat.eq_of_beq_eq_true h1) (zo_iinc pc code (pc + 1) c d (zdrp (k := 1) (by rw [hB]; rfl)) (zdrp (k := 2) (by rw [hB]; rfl)))
  rw [g, Nat.eq_of_beq_eq_true h2, ziq_eq h3, Nat.eq_of_beq_eq_true h4, Nat.add_assoc, Nat.add_assoc, Nat.add_sub_cancel_left]
theorem zo_iconst_0 : ∀ pc code p, (zdF pc).1 2 code p = .ok (.iconst (-1), p) := fun _ _ _ => rfl
theorem zo_iconst_1 : ∀ pc code p, (zdF pc).1 3 code p = .ok (.iconst (0), p) := fun _ _ _ => rfl
theorem zo_iconst_2 : ∀ pc code p, (zdF pc).1 4 code p = .ok (.iconst (1), p) := fun _ _ _ => rfl
theorem zo_iconst_3 : ∀ pc code p, (zdF pc).1 5 code p = .ok (.iconst (2), p) := fun _ _ _ => rfl
theorem zo_iconst_4 : ∀ pc code p, (zdF pc).1 6 code p = .ok (.iconst (3), p) := fun _ _ _ => rfl
theorem zo_iconst_5 : ∀ pc code p, (zdF pc).1 7 code p = .ok (.iconst (4), p) := fun _ _ _ => rfl
theorem zo_iconst_6 : ∀ pc code p, (zdF pc).1 8 code p = .ok (.iconst (5), p) := fun _ _ _ => rfl
theorem zo_lconst_0 : ∀ pc code p, (zdF pc).1 9 code p = .ok (.lconst 0, p) := fun _ _ _ => rfl
theorem zo_lconst_1 : ∀ pc code p, (zdF pc).1 10 code p = .ok (.lconst 1, p) := fun _ _ _ => rfl
/-- these bytes are this instruction -/
def zbs : Type := List UInt8 → Nat → Bool
def zicn (v : Int) : zbs := fun B len => (@Bool.rec (fun _ => Bool) ((@Bool.rec (fun _ => Bool) ((@Bool.rec (fun _ => Bool) ((@Bool.rec (fun _ => Bool) ((@Bool.rec (fun _ => Bool) ((@Bool.rec (fun _ => Bool) ((@Bool.rec (fun _ => Bool) (false) (zb0 8 B len) (ziq v (.ofNat 5)))) (zb0 7 B len) (ziq v (.ofNat 4)))) (zb0 6 B len) (ziq v (.ofNat 3)))) (zb0 5 B len) (ziq v (.ofNat 2)))) (zb0 4 B len) (ziq v (.ofNat 1)))) (zb0 3 B len) (ziq v (.ofNat 0)))) (zb0 2 B len) (ziq v (.negSucc 0)))
def zck (i : Instr) : zbs := @Instr.rec (fun _ => zbs)
  (zb0 50)
  (zb0 83)
  (zb0 1)
  (fun v => zb1 25 v)
  (fun k => zb0 (Nat.add 42 k.val))
  (fun v => zc2 189 (fun n => Nat.beq n v))
  (zb0 176)
  (zb0 190)
  (fun v => zb1 58 v)
  (fun k => zb0 (Nat.add 75 k.val))
  (zb0 191)
  (zb0 51)
  (zb0 84)
  (fun v => zc1 16 v)
  (fun _ _ => false)
  (fun _ _ => false)
  (fun v => zc2 192 (fun n => Nat.beq n v))
  (fun _ _ => false)
  (fun _ _ => false)
  (fun _ _ => false)
  (fun _ _ => false)
  (fun _ _ => false)
  (fun _ _ => false)
  (fun _ => fun _ _ => false)
  (fun _ => fun _ _ => false)
  (fun _ _ => false)
  (fun _ => fun _ _ => false)
  (fun _ => fun _ _ => false)
  (fun _ _ => false)
  (fun _ _ => false)
  (fun _ _ => false)
  (fun _ _ => false)
  (fun _ => fun _ _ => false)
  (fun _ => fun _ _ => false)
  (fun _ _ => false)
  (zb0 89)
  (fun _ _ => false)
  (fun _ _ => false)
  (zb0 92)
  (fun _ _ => false)
  (fun _ _ => false)
  (fun _ _ => false)
  (fun _ _ => false)
  (fun _ _ => false)
  (fun _ _ => false)
  (fun _ _ => false)
  (fun _ _ => false)
  (fun _ => fun _ _ => false)
  (fun _ => fun _ _ => false)
  (fun _ _ => false)
  (fun _ => fun _ _ => false)
  (fun _ => fun _ _ => false)
  (fun _ _ => false)
  (fun _ _ => false)
  (fun _ _ => false)
  (fun _ _ => false)
  (fun _ => fun _ _ => false)
  (fun _ => fun _ _ => false)
  (fun _ _ => false)
  (fun v => zc2 180 (fun n => Nat.beq n v))
  (fun v => zc2 178 (fun n => Nat.beq n v))
  (fun v => zc2 167 (fun n => ziq (Reader.signed 16 n) v))
  (fun _ => fun _ _ => false)
  (fun _ _ => false)
  (fun _ _ => false)
  (fun _ _ => false)
  (fun _ _ => false)
  (zb0 133)
  (fun _ _ => false)
  (zb0 96)
  (zb0 46)
  (zb0 126)
  (zb0 79)
  (fun v => zicn v)
  (zb0 108)
  (fun _ _ => fun _ _ => false)
  (fun c v => zc2 (Nat.add 159 (zcn c)) (fun n => ziq (Reader.signed 16 n) v))
  (fun c v => zc2 (Nat.add 153 (zcn c)) (fun n => ziq (Reader.signed 16 n) v))
  (fun v => zc2 199 (fun n => ziq (Reader.signed 16 n) v))
  (fun v => zc2 198 (fun n => ziq (Reader.signed 16 n) v))
  (fun k z => zci k z)
  (fun v => zb1 21 v)
  (fun k => zb0 (Nat.add 26 k.val))
  (zb0 104)
  (zb0 116)
  (fun _ => fun _ _ => false)
  (fun _ => fun _ _ => false)
  (fun _ _ => fun _ _ => false)
  (fun v => zc2 183 (fun n => Nat.beq n v))
  (fun v => zc2 184 (fun n => Nat.beq n v))
  (fun v => zc2 182 (fun n => Nat.beq n v))
  (zb0 128)
  (zb0 112)
  (zb0 172)
  (zb0 120)
  (zb0 122)
  (fun v => zb1 54 v)
  (fun k => zb0 (Nat.add 59 k.val))
  (zb0 100)
  (fun _ _ => false)
  (zb0 130)
  (fun _ => fun _ _ => false)
  (fun _ => fun _ _ => false)
  (fun _ _ => false)
  (fun _ _ => false)
  (zb0 136)
  (zb0 97)
  (zb0 47)
  (fun _ _ => false)
  (zb0 80)
  (zb0 148)
  (fun k => zb0 (Nat.add 9 k.val))
  (fun v => zb1 18 v)
  (fun v => zc2 19 (fun n => Nat.beq n v))
  (fun v => zc2 20 (fun n => Nat.beq n v))
  (zb0 109)
  (fun v => zb1 22 v)
  (fun k => zb0 (Nat.add 30 k.val))
  (zb0 105)
  (fun _ _ => false)
  (fun _ _ => fun _ _ => false)
  (fun _ _ => false)
  (zb0 113)
  (zb0 173)
  (fun _ _ => false)
  (fun _ _ => false)
  (fun v => zb1 55 v)
  (fun k => zb0 (Nat.add 63 k.val))
  (zb0 101)
  (fun _ _ => false)
  (fun _ _ => false)
  (fun _ _ => false)
  (fun _ _ => false)
  (fun _ _ => fun _ _ => false)
  (fun v => zc2 187 (fun n => Nat.beq n v))
  (fun _ => fun _ _ => false)
  (fun _ _ => false)
  (zb0 87)
  (fun _ _ => false)
  (fun v => zc2 181 (fun n => Nat.beq n v))
  (fun v => zc2 179 (fun n => Nat.beq n v))
  (fun _ => fun _ _ => false)
  (zb0 177)
  (fun _ _ => false)
  (fun _ _ => false)
  (fun v => zc2 17 (fun n => ziq (Reader.signed 16 n) v))
  (fun _ _ => false)
  (fun _ _ _ _ => fun _ _ => false)
  i
theorem zck_ok {i : Instr} {code : ByteArray} {pc len : Nat} (h : zck i (code.data.toList.drop pc) len = true) : decode code pc = .ok (i, len) := by
  cases i
  case aaload =>
    exact zd0 zo_aaload h
  case aastore =>
    exact zd0 zo_aastore h
  case aconst_null =>
    exact zd0 zo_aconst_null h
  case aload a0 =>
    exact zd1 (I := fun v => .aload v) zo_aload h
  case aload_n a0 =>
    match a0, h with
    | 0, h => exact zd0 zo_aload_n_0 h
    | 1, h => exact zd0 zo_aload_n_1 h
    | 2, h => exact zd0 zo_aload_n_2 h
    | 3, h => exact zd0 zo_aload_n_3 h
  case anewarray a0 =>
    exact zd2 (I := fun v => .anewarray v) (k := fun n => Nat.beq n a0) (fun n q => by rw [Nat.eq_of_beq_eq_true q]) zo_anewarray h
  case areturn =>
    exact zd0 zo_areturn h
  case arraylength =>
    exact zd0 zo_arraylength h
  case astore a0 =>
    exact zd1 (I := fun v => .astore v) zo_astore h
  case astore_n a0 =>
    match a0, h with
    | 0, h => exact zd0 zo_astore_n_0 h
    | 1, h => exact zd0 zo_astore_n_1 h
    | 2, h => exact zd0 zo_astore_n_2 h
    | 3, h => exact zd0 zo_astore_n_3 h
  case athrow =>
    exact zd0 zo_athrow h
  case baload =>
    exact zd0 zo_baload h
  case bastore =>
    exact zd0 zo_bastore h
  case bipush a0 =>
    exact zd1s (I := fun v => .bipush v) zo_bipush h
  case caload =>
    cases h
  case castore =>
    cases h
  case checkcast a0 =>
    exact zd2 (I := fun v => .checkcast v) (k := fun n => Nat.beq n a0) (fun n q => by rw [Nat.eq_of_beq_eq_true q]) zo_checkcast h
  case d2f =>
    cases h
  case d2i =>
    cases h
  case d2l =>
    cases h
  case dadd =>
    cases h
  case daload =>
    cases h
  case dastore =>
    cases h
  case dcmp a0 =>
    cases h
  case dconst a0 =>
    cases h
  case ddiv =>
    cases h
  case dload a0 =>
    cases h
  case dload_n a0 =>
    cases h
  case dmul =>
    cases h
  case dneg =>
    cases h
  case drem =>
    cases h
  case dreturn =>
    cases h
  case dstore a0 =>
    cases h
  case dstore_n a0 =>
    cases h
  case dsub =>
    cases h
  case dup =>
    exact zd0 zo_dup h
  case dup_x1 =>
    cases h
  case dup_x2 =>
    cases h
  case dup2 =>
    exact zd0 zo_dup2 h
  case dup2_x1 =>
    cases h
  case dup2_x2 =>
    cases h
  case f2d =>
    cases h
  case f2i =>
    cases h
  case f2l =>
    cases h
  case fadd =>
    cases h
  case faload =>
    cases h
  case fastore =>
    cases h
  case fcmp a0 =>
    cases h
  case fconst a0 =>
    cases h
  case fdiv =>
    cases h
  case fload a0 =>
    cases h
  case fload_n a0 =>
    cases h
  case fmul =>
    cases h
  case fneg =>
    cases h
  case frem =>
    cases h
  case freturn =>
    cases h
  case fstore a0 =>
    cases h
  case fstore_n a0 =>
    cases h
  case fsub =>
    cases h
  case getfield a0 =>
    exact zd2 (I := fun v => .getfield v) (k := fun n => Nat.beq n a0) (fun n q => by rw [Nat.eq_of_beq_eq_true q]) zo_getfield h
  case getstatic a0 =>
    exact zd2 (I := fun v => .getstatic v) (k := fun n => Nat.beq n a0) (fun n q => by rw [Nat.eq_of_beq_eq_true q]) zo_getstatic h
  case goto a0 =>
    exact zd2 (I := fun n => .goto (Reader.signed 16 n)) (k := fun n => ziq (Reader.signed 16 n) a0) (fun n q => by rw [ziq_eq q]) zo_goto h
  case goto_w a0 =>
    cases h
  case i2b =>
    cases h
  case i2c =>
    cases h
  case i2d =>
    cases h
  case i2f =>
    cases h
  case i2l =>
    exact zd0 zo_i2l h
  case i2s =>
    cases h
  case iadd =>
    exact zd0 zo_iadd h
  case iaload =>
    exact zd0 zo_iaload h
  case iand =>
    exact zd0 zo_iand h
  case iastore =>
    exact zd0 zo_iastore h
  case iconst a0 =>
    have h : zicn a0 _ _ = true := h
    unfold zicn at h
    rcases zl_i h with ⟨q, h⟩ | ⟨-, h⟩
    · have e : a0 = .negSucc 0 := ziq_eq q
      subst e; exact zd0 zo_iconst_0 h
    rcases zl_i h with ⟨q, h⟩ | ⟨-, h⟩
    · have e : a0 = .ofNat 0 := ziq_eq q
      subst e; exact zd0 zo_iconst_1 h
    rcases zl_i h with ⟨q, h⟩ | ⟨-, h⟩
    · have e : a0 = .ofNat 1 := ziq_eq q
      subst e; exact zd0 zo_iconst_2 h
    rcases zl_i h with ⟨q, h⟩ | ⟨-, h⟩
    · have e : a0 = .ofNat 2 := ziq_eq q
      subst e; exact zd0 zo_iconst_3 h
    rcases zl_i h with ⟨q, h⟩ | ⟨-, h⟩
    · have e : a0 = .ofNat 3 := ziq_eq q
      subst e; exact zd0 zo_iconst_4 h
    rcases zl_i h with ⟨q, h⟩ | ⟨-, h⟩
    · have e : a0 = .ofNat 4 := ziq_eq q
      subst e; exact zd0 zo_iconst_5 h
    rcases zl_i h with ⟨q, h⟩ | ⟨-, h⟩
    · have e : a0 = .ofNat 5 := ziq_eq q
      subst e; exact zd0 zo_iconst_6 h
    cases h
  case idiv =>
    exact zd0 zo_idiv h
  case if_acmp a0 a1 =>
    cases h
  case if_icmp a0 a1 =>
    cases a0
    · exact zd2 (I := fun n => .if_icmp .eq (Reader.signed 16 n)) (k := fun n => ziq (Reader.signed 16 n) a1) (fun n q => by rw [ziq_eq q]) zo_if_icmp_eq h
    · exact zd2 (I := fun n => .if_icmp .ne (Reader.signed 16 n)) (k := fun n => ziq (Reader.signed 16 n) a1) (fun n q => by rw [ziq_eq q]) zo_if_icmp_ne h
    · exact zd2 (I := fun n => .if_icmp .lt (Reader.signed 16 n)) (k := fun n => ziq (Reader.signed 16 n) a1) (fun n q => by rw [ziq_eq q]) zo_if_icmp_lt h
    · exact zd2 (I := fun n => .if_icmp .ge (Reader.signed 16 n)) (k := fun n => ziq (Reader.signed 16 n) a1) (fun n q => by rw [ziq_eq q]) zo_if_icmp_ge h
    · exact zd2 (I := fun n => .if_icmp .gt (Reader.signed 16 n)) (k := fun n => ziq (Reader.signed 16 n) a1) (fun n q => by rw [ziq_eq q]) zo_if_icmp_gt h
    · exact zd2 (I := fun n => .if_icmp .le (Reader.signed 16 n)) (k := fun n => ziq (Reader.signed 16 n) a1) (fun n q => by rw [ziq_eq q]) zo_if_icmp_le h
  case ifCond a0 a1 =>
    cases a0
    · exact zd2 (I := fun n => .ifCond .eq (Reader.signed 16 n)) (k := fun n => ziq (Reader.signed 16 n) a1) (fun n q => by rw [ziq_eq q]) zo_ifCond_eq h
    · exact zd2 (I := fun n => .ifCond .ne (Reader.signed 16 n)) (k := fun n => ziq (Reader.signed 16 n) a1) (fun n q => by rw [ziq_eq q]) zo_ifCond_ne h
    · exact zd2 (I := fun n => .ifCond .lt (Reader.signed 16 n)) (k := fun n => ziq (Reader.signed 16 n) a1) (fun n q => by rw [ziq_eq q]) zo_ifCond_lt h
    · exact zd2 (I := fun n => .ifCond .ge (Reader.signed 16 n)) (k := fun n => ziq (Reader.signed 16 n) a1) (fun n q => by rw [ziq_eq q]) zo_ifCond_ge h
    · exact zd2 (I := fun n => .ifCond .gt (Reader.signed 16 n)) (k := fun n => ziq (Reader.signed 16 n) a1) (fun n q => by rw [ziq_eq q]) zo_ifCond_gt h
    · exact zd2 (I := fun n => .ifCond .le (Reader.signed 16 n)) (k := fun n => ziq (Reader.signed 16 n) a1) (fun n q => by rw [ziq_eq q]) zo_ifCond_le h
  case ifnonnull a0 =>
    exact zd2 (I := fun n => .ifnonnull (Reader.signed 16 n)) (k := fun n => ziq (Reader.signed 16 n) a0) (fun n q => by rw [ziq_eq q]) zo_ifnonnull h
  case ifnull a0 =>
    exact zd2 (I := fun n => .ifnull (Reader.signed 16 n)) (k := fun n => ziq (Reader.signed 16 n) a0) (fun n q => by rw [ziq_eq q]) zo_ifnull h
  case iinc a0 a1 =>
    exact zdi h
  case iload a0 =>
    exact zd1 (I := fun v => .iload v) zo_iload h
  case iload_n a0 =>
    match a0, h with
    | 0, h => exact zd0 zo_iload_n_0 h
    | 1, h => exact zd0 zo_iload_n_1 h
    | 2, h => exact zd0 zo_iload_n_2 h
    | 3, h => exact zd0 zo_iload_n_3 h
  case imul =>
    exact zd0 zo_imul h
  case ineg =>
    exact zd0 zo_ineg h
  case instanceof a0 =>
    cases h
  case invokedynamic a0 =>
    cases h
  case invokeinterface a0 a1 =>
    cases h
  case invokespecial a0 =>
    exact zd2 (I := fun v => .invokespecial v) (k := fun n => Nat.beq n a0) (fun n q => by rw [Nat.eq_of_beq_eq_true q]) zo_invokespecial h
  case invokestatic a0 =>
    exact zd2 (I := fun v => .invokestatic v) (k := fun n => Nat.beq n a0) (fun n q => by rw [Nat.eq_of_beq_eq_true q]) zo_invokestatic h
  case invokevirtual a0 =>
    exact zd2 (I := fun v => .invokevirtual v) (k := fun n => Nat.beq n a0) (fun n q => by rw [Nat.eq_of_beq_eq_true q]) zo_invokevirtual h
  case ior =>
    exact zd0 zo_ior h
  case irem =>
    exact zd0 zo_irem h
  case ireturn =>
    exact zd0 zo_ireturn h
  case ishl =>
    exact zd0 zo_ishl h
  case ishr =>
    exact zd0 zo_ishr h
  case istore a0 =>
    exact zd1 (I := fun v => .istore v) zo_istore h
  case istore_n a0 =>
    match a0, h with
    | 0, h => exact zd0 zo_istore_n_0 h
    | 1, h => exact zd0 zo_istore_n_1 h
    | 2, h => exact zd0 zo_istore_n_2 h
    | 3, h => exact zd0 zo_istore_n_3 h
  case isub =>
    exact zd0 zo_isub h
  case iushr =>
    cases h
  case ixor =>
    exact zd0 zo_ixor h
  case jsr a0 =>
    cases h
  case jsr_w a0 =>
    cases h
  case l2d =>
    cases h
  case l2f =>
    cases h
  case l2i =>
    exact zd0 zo_l2i h
  case ladd =>
    exact zd0 zo_ladd h
  case laload =>
    exact zd0 zo_laload h
  case land =>
    cases h
  case lastore =>
    exact zd0 zo_lastore h
  case lcmp =>
    exact zd0 zo_lcmp h
  case lconst a0 =>
    match a0, h with
    | 0, h => exact zd0 zo_lconst_0 h
    | 1, h => exact zd0 zo_lconst_1 h
  case ldc a0 =>
    exact zd1 (I := fun v => .ldc v) zo_ldc h
  case ldc_w a0 =>
    exact zd2 (I := fun v => .ldc_w v) (k := fun n => Nat.beq n a0) (fun n q => by rw [Nat.eq_of_beq_eq_true q]) zo_ldc_w h
  case ldc2_w a0 =>
    exact zd2 (I := fun v => .ldc2_w v) (k := fun n => Nat.beq n a0) (fun n q => by rw [Nat.eq_of_beq_eq_true q]) zo_ldc2_w h
  case ldiv =>
    exact zd0 zo_ldiv h
  case lload a0 =>
    exact zd1 (I := fun v => .lload v) zo_lload h
  case lload_n a0 =>
    match a0, h with
    | 0, h => exact zd0 zo_lload_n_0 h
    | 1, h => exact zd0 zo_lload_n_1 h
    | 2, h => exact zd0 zo_lload_n_2 h
    | 3, h => exact zd0 zo_lload_n_3 h
  case lmul =>
    exact zd0 zo_lmul h
  case lneg =>
    cases h
  case lookupswitch a0 a1 =>
    cases h
  case lor =>
    cases h
  case lrem =>
    exact zd0 zo_lrem h
  case lreturn =>
    exact zd0 zo_lreturn h
  case lshl =>
    cases h
  case lshr =>
    cases h
  case lstore a0 =>
    exact zd1 (I := fun v => .lstore v) zo_lstore h
  case lstore_n a0 =>
    match a0, h with
    | 0, h => exact zd0 zo_lstore_n_0 h
    | 1, h => exact zd0 zo_lstore_n_1 h
    | 2, h => exact zd0 zo_lstore_n_2 h
    | 3, h => exact zd0 zo_lstore_n_3 h
  case lsub =>
    exact zd0 zo_lsub h
  case lushr =>
    cases h
  case lxor =>
    cases h
  case monitorenter =>
    cases h
  case monitorexit =>
    cases h
  case multianewarray a0 a1 =>
    cases h
  case new a0 =>
    exact zd2 (I := fun v => .new v) (k := fun n => Nat.beq n a0) (fun n q => by rw [Nat.eq_of_beq_eq_true q]) zo_new h
  case newarray a0 =>
    cases h
  case nop =>
    cases h
  case pop =>
    exact zd0 zo_pop h
  case pop2 =>
    cases h
  case putfield a0 =>
    exact zd2 (I := fun v => .putfield v) (k := fun n => Nat.beq n a0) (fun n q => by rw [Nat.eq_of_beq_eq_true q]) zo_putfield h
  case putstatic a0 =>
    exact zd2 (I := fun v => .putstatic v) (k := fun n => Nat.beq n a0) (fun n q => by rw [Nat.eq_of_beq_eq_true q]) zo_putstatic h
  case ret a0 =>
    cases h
  case return_ =>
    exact zd0 zo_return_ h
  case saload =>
    cases h
  case sastore =>
    cases h
  case sipush a0 =>
    exact zd2 (I := fun n => .sipush (Reader.signed 16 n)) (k := fun n => ziq (Reader.signed 16 n) a0) (fun n q => by rw [ziq_eq q]) zo_sipush h
  case swap =>
    cases h
  case tableswitch a0 a1 a2 a3 =>
    cases h
/-- as zdrop, in strides of 256: the kernel's stack does not hold a drop of more than some 1200 -/
def zdsr (B : List UInt8) (k : Nat) : List UInt8 := @Nat.rec (fun _ => List UInt8) (zdrop B (Nat.mod k 256)) (fun _ ih => zdrop ih 256) (Nat.div k 256)
theorem zdsr_s (B : List UInt8) (m : Nat) : ∀ j : Nat, @Nat.rec (fun _ => List UInt8) (zdrop B m) (fun _ ih => zdrop ih 256) j = B.drop (m + 256 * j)
  | 0 => zdrop_eq
  | j + 1 => by
    show zdrop (@Nat.rec (fun _ => List UInt8) (zdrop B m) (fun _ ih => zdrop ih 256) j) 256 = _
    rw [zdrop_eq, zdsr_s B m j, List.drop_drop]
    exact congrArg (fun x => B.drop x) (by omega)
theorem zdsr_eq {B : List UInt8} {k : Nat} : zdsr B k = B.drop k := by
  unfold zdsr
  rw [zdsr_s]
  exact congrArg (fun x => B.drop x) (Nat.mod_add_div k 256)
/-- the rows of a method's code, in the order of their places; B: the bytes from p on -/
def zwk (ex : List Nat) (tb : List (Nat × Instr × Nat)) : Nat → List UInt8 → Bool := @List.rec (Nat × Instr × Nat) (fun _ => Nat → List UInt8 → Bool) (fun _ _ => true) (fun q _ ih p B => @Bool.rec (fun _ => Bool) (@Bool.rec (fun _ => Bool) false (@List.rec UInt8 (fun _ => Bool) false (fun b r _ => @Bool.rec (fun _ => Bool) false (ih q.1 (b :: r)) (zck q.2.1 (b :: r) q.2.2)) (zdsr B (Nat.sub q.1 p))) (Nat.ble p q.1)) (ih p B) (ab_mem q.1 ex)) tb
theorem zwk_ok {cc : ByteArray} {ex : List Nat} : ∀ {tb : List (Nat × Instr × Nat)} {p : Nat} {B : List UInt8}, B = cc.data.toList.drop p → zwk ex tb p B = true → (∀ q ∈ tb, q.1 ∈ ex → decode cc q.1 = .ok q.2) → ∀ q ∈ tb, decode cc q.1 = .ok q.2
  | [], _, _, _, _, _ => fun q hq => absurd hq List.not_mem_nil
  | q :: tb, p, B, hB, h, g => by
    have g2 : ∀ q2 ∈ tb, q2.1 ∈ ex → decode cc q2.1 = .ok q2.2 := fun q2 hm he => g q2 (List.mem_cons_of_mem _ hm) he
    rcases zl_i h with ⟨m1, h⟩ | ⟨-, h⟩
    · have k := zwk_ok (tb := tb) hB h g2
      intro q2 hm
      rcases List.mem_cons.mp hm with rfl | hm
      · exact g _ List.mem_cons_self (ab_mem_iff.mp m1)
      · exact k q2 hm
    · obtain ⟨h1, h⟩ := zl_b h
      obtain ⟨b, r, e, h⟩ := zl_l h
      obtain ⟨h2, h⟩ := zl_b h
      have hle : p ≤ q.1 := Nat.le_of_ble_eq_true h1
      rw [zdsr_eq, hB, List.drop_drop, show p + q.1.sub p = q.1 from Nat.add_sub_cancel' hle] at e
      have k := zwk_ok (tb := tb) e.symm h g2
      intro q2 hm
      rcases List.mem_cons.mp hm with rfl | hm
      · exact zck_ok (by rw [e]; exact h2)
      · exact k q2 hm
def ztw (cc : ByteArray) (ex : List Nat) (tb : List (Nat × Instr × Nat)) : Bool := zwk ex tb 0 cc.data.toList
theorem ztw_ok {cc : ByteArray} {ex : List Nat} {tb : List (Nat × Instr × Nat)} (h : ztw cc ex tb = true) (g : ∀ q ∈ tb, q.1 ∈ ex → decode cc q.1 = .ok q.2) : ∀ pc i len, (pc, i, len) ∈ tb → decode cc pc = .ok (i, len) := fun pc i len hm => by
  have h3 := zwk_ok (p := 0) rfl h g (pc, i, len) hm
  simp only at h3
  exact h3
end
