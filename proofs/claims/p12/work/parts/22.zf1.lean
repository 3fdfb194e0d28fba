noncomputable section
abbrev zK : Type := Nat → Nat → ab_En → ab_AH → List ab_SV → List ab_SV → Bool
abbrev zF : Type := zK → Nat → ab_En → ab_AH → List ab_SV → List ab_SV → Bool
abbrev zN : Type := Nat → Int → Int → Nat → Int → Bool
abbrev zB : Type := Nat → Int → Int → Nat → Int → Int → Int → Nat → Int → (Int → Int → Nat → Int → Bool) → Bool
abbrev zR : Type := Int → Int → Int → Int → (Int → Int → Int → Int → Bool) → Bool
def zKs (K : zK) (w : Nat × ab_St) : Bool := K w.1 w.2.1 w.2.2.1 w.2.2.2.1 w.2.2.2.2.1 w.2.2.2.2.2
def zSp (g : zF) (o : ab_St → Option (List (Nat × ab_St))) : Prop := ∀ (K : zK) n e h L sk, g K n e h L sk = true → ∃ sl, o (n, e, h, L, sk) = some sl ∧ ∀ w ∈ sl, zKs K w = true
/-- one outcome -/
def zS1 (pc : Nat) (g : zF) (o : ab_St → Option ab_St) : Prop := ∀ (K : zK) n e h L sk, g K n e h L sk = true → ∃ n' e' h' L' sk', o (n, e, h, L, sk) = some (n', e', h', L', sk') ∧ K pc n' e' h' L' sk' = true
theorem zS1.sp {pc : Nat} {g : zF} {o : ab_St → Option ab_St} (h : zS1 pc g o) : zSp g (fun st => ab_1 pc (o st)) := fun K n e hp L sk hk => by
  obtain ⟨n', e', h', L', sk', h1, h2⟩ := h K n e hp L sk hk
  refine ⟨[(pc, (n', e', h', L', sk'))], by show ab_1 pc (o (n, e, hp, L, sk)) = _; rw [h1]; rfl, fun w hw => ?_⟩
  rw [List.mem_singleton.mp hw]; exact h2
theorem zl_o {α : Type} {o : Option α} {f : α → Bool} (h : @Option.rec α (fun _ => Bool) false f o = true) : ∃ x, o = some x ∧ f x = true := by
  cases o with
  | none => cases h
  | some x => exact ⟨x, rfl, h⟩
theorem zl_l {α : Type} {l : List α} {f : α → List α → Bool} (h : @List.rec α (fun _ => Bool) false (fun a r _ => f a r) l = true) : ∃ a r, l = a :: r ∧ f a r = true := by
  cases l with
  | nil => cases h
  | cons a r => exact ⟨a, r, rfl, h⟩
theorem zl_n {α : Type} {l : List α} {b : Bool} (h : @List.rec α (fun _ => Bool) b (fun _ _ _ => false) l = true) : l = [] ∧ b = true := by
  cases l with
  | nil => exact ⟨rfl, h⟩
  | cons a r => cases h
theorem zl_b {c a : Bool} (h : @Bool.rec (fun _ => Bool) false a c = true) : c = true ∧ a = true := by
  cases c with
  | false => cases h
  | true => exact ⟨rfl, h⟩
theorem zl_nb {c a : Bool} (h : @Bool.rec (fun _ => Bool) a false c = true) : c = false ∧ a = true := by
  cases c with
  | true => cases h
  | false => exact ⟨rfl, h⟩
theorem zl_i {c a b : Bool} (h : @Bool.rec (fun _ => Bool) b a c = true) : (c = true ∧ a = true) ∨ (c = false ∧ b = true) := by
  cases c with
  | true => exact Or.inl ⟨rfl, h⟩
  | false => exact Or.inr ⟨rfl, h⟩
theorem zl_s1 {α β : Type} {s : α ⊕ β} {f : α → Bool} (h : @Sum.rec α β (fun _ => Bool) f (fun _ => false) s = true) : ∃ x, s = .inl x ∧ f x = true := by
  cases s with
  | inl x => exact ⟨x, rfl, h⟩
  | inr x => cases h
theorem zl_s2 {α β : Type} {s : α ⊕ β} {f : β → Bool} (h : @Sum.rec α β (fun _ => Bool) (fun _ => false) f s = true) : ∃ x, s = .inr x ∧ f x = true := by
  cases s with
  | inr x => exact ⟨x, rfl, h⟩
  | inl x => cases h
theorem zl_s {α β : Type} {s : α ⊕ β} {f : α → Bool} {g : β → Bool} (h : @Sum.rec α β (fun _ => Bool) f g s = true) : (∃ x, s = .inl x ∧ f x = true) ∨ ∃ x, s = .inr x ∧ g x = true := by
  cases s with
  | inl x => exact Or.inl ⟨x, rfl, h⟩
  | inr x => exact Or.inr ⟨x, rfl, h⟩
/-- all of a list -/
def zall {α : Type} (k : α → Bool) (l : List α) : Bool := @List.rec α (fun _ => Bool) true (fun a _ ih => @Bool.rec (fun _ => Bool) false ih (k a)) l
theorem zall_eq {α : Type} {k : α → Bool} : ∀ {l : List α}, zall k l = l.all k
  | [] => rfl
  | a :: r => by
    rw [List.all_cons, ← zall_eq]
    show @Bool.rec (fun _ => Bool) false (zall k r) (k a) = _
    cases k a <;> rfl
theorem zall_in {α : Type} {k : α → Bool} {l : List α} (h : zall k l = true) : ∀ x ∈ l, k x = true := by
  rw [zall_eq] at h; exact List.all_eq_true.mp h
def zget {α : Type} (l : List α) (i : Nat) : Option α := @List.rec α (fun _ => Nat → Option α) (fun _ => none) (fun a _ ih i => @Nat.rec (fun _ => Option α) (some a) (fun j _ => ih j) i) l i
theorem zget_eq {α : Type} : ∀ {l : List α} {i : Nat}, zget l i = l[i]?
  | [], i => rfl
  | a :: r, 0 => rfl
  | a :: r, i + 1 => by
    show zget r i = _
    rw [zget_eq]; rfl
def zset {α : Type} (l : List α) (i : Nat) (v : α) : List α := @List.rec α (fun _ => Nat → List α) (fun _ => []) (fun a r ih i => @Nat.rec (fun _ => List α) (v :: r) (fun j _ => a :: ih j) i) l i
theorem zset_eq {α : Type} {v : α} : ∀ {l : List α} {i : Nat}, zset l i v = l.set i v
  | [], i => rfl
  | a :: r, 0 => rfl
  | a :: r, i + 1 => by
    show a :: zset r i v = _
    rw [zset_eq]; rfl
def zapp {α : Type} (l m : List α) : List α := @List.rec α (fun _ => List α) m (fun a _ ih => a :: ih) l
theorem zapp_eq {α : Type} {m : List α} : ∀ {l : List α}, zapp l m = l ++ m
  | [] => rfl
  | a :: r => by show a :: zapp r m = _; rw [zapp_eq]; rfl
def zlen {α : Type} (l : List α) : Nat := @List.rec α (fun _ => Nat) 0 (fun _ _ ih => Nat.succ ih) l
theorem zlen_eq {α : Type} : ∀ {l : List α}, zlen l = l.length
  | [] => rfl
  | a :: r => by show Nat.succ (zlen r) = _; rw [zlen_eq]; rfl
/-- no more than k elements -/
def zshort {α : Type} (l : List α) (k : Nat) : Bool := @List.rec α (fun _ => Nat → Bool) (fun _ => true) (fun _ _ ih k => @Nat.rec (fun _ => Bool) false (fun j _ => ih j) k) l k
theorem zshort_eq {α : Type} : ∀ {l : List α} {k : Nat}, zshort l k = Nat.ble l.length k
  | [], k => by cases k <;> rfl
  | a :: r, 0 => rfl
  | a :: r, k + 1 => by show zshort r k = _; rw [zshort_eq]; rfl
def zsnn (m n : Nat) : Int := @Nat.rec (fun _ => Int) (.ofNat (Nat.sub m n)) (fun k _ => .negSucc k) (Nat.sub n m)
theorem zsnn_eq {m n : Nat} : zsnn m n = Int.subNatNat m n := by
  unfold zsnn Int.subNatNat
  show @Nat.rec (fun _ => Int) _ (fun k _ => .negSucc k) (n - m) = _
  cases n - m <;> rfl
def zadd (a b : Int) : Int := @Int.rec (fun _ => Int) (fun m => @Int.rec (fun _ => Int) (fun n => .ofNat (Nat.add m n)) (fun n => zsnn m (Nat.succ n)) b) (fun m => @Int.rec (fun _ => Int) (fun n => zsnn n (Nat.succ m)) (fun n => .negSucc (Nat.succ (Nat.add m n))) b) a
theorem zadd_eq {a b : Int} : zadd a b = Int.add a b := by
  cases a <;> cases b <;> first | rfl | exact zsnn_eq
def zneg (a : Int) : Int := @Int.rec (fun _ => Int) (fun m => @Nat.rec (fun _ => Int) (.ofNat 0) (fun k _ => .negSucc k) m) (fun m => .ofNat (Nat.succ m)) a
theorem zneg_eq {a : Int} : zneg a = Int.neg a := by
  cases a with
  | ofNat m => cases m <;> rfl
  | negSucc m => rfl
def zsub (a b : Int) : Int := zadd a (zneg b)
theorem zsub_eq {a b : Int} : zsub a b = Int.sub a b := by unfold zsub; rw [zadd_eq, zneg_eq]; rfl
def zmul (a b : Int) : Int := @Int.rec (fun _ => Int) (fun m => @Int.rec (fun _ => Int) (fun n => .ofNat (Nat.mul m n)) (fun n => zneg (.ofNat (Nat.mul m (Nat.succ n)))) b) (fun m => @Int.rec (fun _ => Int) (fun n => zneg (.ofNat (Nat.mul (Nat.succ m) n))) (fun n => .ofNat (Nat.mul (Nat.succ m) (Nat.succ n))) b) a
theorem zmul_eq {a b : Int} : zmul a b = Int.mul a b := by
  cases a <;> cases b
  · rfl
  · show zneg (Int.ofNat (Nat.mul _ (Nat.succ _))) = _; rw [zneg_eq]; rfl
  · show zneg (Int.ofNat (Nat.mul (Nat.succ _) _)) = _; rw [zneg_eq]; rfl
  · rfl
def zmin (a b : Int) : Int := @Bool.rec (fun _ => Int) b a (ab_le a b)
theorem zmin_eq {a b : Int} : zmin a b = ab_min a b := by unfold zmin ab_min; cases ab_le a b <;> rfl
def zmax (a b : Int) : Int := @Bool.rec (fun _ => Int) a b (ab_le a b)
theorem zmax_eq {a b : Int} : zmax a b = ab_max a b := by unfold zmax ab_max; cases ab_le a b <;> rfl
def zand (a b : Bool) : Bool := @Bool.rec (fun _ => Bool) false b a
theorem zand_eq {a b : Bool} : zand a b = (a && b) := by cases a <;> rfl
def zor (a b : Bool) : Bool := @Bool.rec (fun _ => Bool) b true a
theorem zor_eq {a b : Bool} : zor a b = (a || b) := by cases a <;> rfl
theorem zand_iff {a b : Bool} : zand a b = true ↔ a = true ∧ b = true := by rw [zand_eq, Bool.and_eq_true]
/-- a number's entry -/
def zeg (e : ab_En) (i : Nat) : Option ab_EV := @List.rec (Nat × ab_EV) (fun _ => Option ab_EV) none (fun q _ ih => @Prod.rec Nat ab_EV (fun _ => Option ab_EV) (fun a b => @Bool.rec (fun _ => Option ab_EV) ih (some b) (Nat.beq a i)) q) e
theorem zeg_eq {e : ab_En} {i : Nat} : zeg e i = ab_eg e i := rfl
def zhg (h : ab_AH) (i : Nat) : Option ab_AC := @List.rec (Nat × ab_AC) (fun _ => Option ab_AC) none (fun q _ ih => @Prod.rec Nat ab_AC (fun _ => Option ab_AC) (fun a b => @Bool.rec (fun _ => Option ab_AC) ih (some b) (Nat.beq a i)) q) h
theorem zhg_eq {h : ab_AH} {i : Nat} : zhg h i = ab_hg h i := rfl

def zni (e : ab_En) (v : ab_SV) (k : zN) : Bool := (@Option.rec (Nat ⊕ (List Nat ⊕ Unit)) (fun _ => Bool) (false) (fun u_ => (@Sum.rec Nat (List Nat ⊕ Unit) (fun _ => Bool) (fun i => (@Option.rec ab_EV (fun _ => Bool) (false) (fun q => (@Prod.rec Bool (Int × Int × Nat × Int) (fun _ => Bool) (fun lg r1_ => (@Prod.rec Int (Int × Nat × Int) (fun _ => Bool) (fun lo r2_ => (@Prod.rec Int (Nat × Int) (fun _ => Bool) (fun hi r3_ => (@Prod.rec Nat Int (fun _ => Bool) (fun b o => (@Bool.rec (fun _ => Bool) (k i lo hi b o) (false) (lg))) (r3_))) (r2_))) (r1_))) (q))) (zeg e i))) (fun _ => false) (u_))) (v))
def znl (e : ab_En) (v : ab_SV) (k : zN) : Bool := (@Option.rec (Nat ⊕ (List Nat ⊕ Unit)) (fun _ => Bool) (false) (fun u_ => (@Sum.rec Nat (List Nat ⊕ Unit) (fun _ => Bool) (fun i => (@Option.rec ab_EV (fun _ => Bool) (false) (fun q => (@Prod.rec Bool (Int × Int × Nat × Int) (fun _ => Bool) (fun lg r1_ => (@Prod.rec Int (Int × Nat × Int) (fun _ => Bool) (fun lo r2_ => (@Prod.rec Int (Nat × Int) (fun _ => Bool) (fun hi r3_ => (@Prod.rec Nat Int (fun _ => Bool) (fun b o => (@Bool.rec (fun _ => Bool) (false) (k i lo hi b o) (lg))) (r3_))) (r2_))) (r1_))) (q))) (zeg e i))) (fun _ => false) (u_))) (v))
theorem zni_ok {e : ab_En} {v : ab_SV} {k : zN} (h : zni e v k = true) : ∃ i lo hi b o, ab_num e false v = some (i, lo, hi, b, o) ∧ k i lo hi b o = true := by
  unfold zni at h
  obtain ⟨u, rfl, h⟩ := zl_o h
  obtain ⟨i, rfl, h⟩ := zl_s1 h
  obtain ⟨q, hq, h⟩ := zl_o h
  obtain ⟨lg, lo, hi, b, o⟩ := q
  obtain ⟨hb, h⟩ := zl_nb h
  subst hb
  refine ⟨i, lo, hi, b, o, ?_, h⟩
  rw [zeg_eq] at hq
  simp only [ab_num, hq]; rfl
theorem znl_ok {e : ab_En} {v : ab_SV} {k : zN} (h : znl e v k = true) : ∃ i lo hi b o, ab_num e true v = some (i, lo, hi, b, o) ∧ k i lo hi b o = true := by
  unfold znl at h
  obtain ⟨u, rfl, h⟩ := zl_o h
  obtain ⟨i, rfl, h⟩ := zl_s1 h
  obtain ⟨q, hq, h⟩ := zl_o h
  obtain ⟨lg, lo, hi, b, o⟩ := q
  obtain ⟨hb, h⟩ := zl_b h
  subst hb
  refine ⟨i, lo, hi, b, o, ?_, h⟩
  rw [zeg_eq] at hq
  simp only [ab_num, hq]; rfl
def zk0 (e : ab_En) (v : ab_SV) : Bool := (@Option.rec (Nat ⊕ (List Nat ⊕ Unit)) (fun _ => Bool) (false) (fun u_ => (@Sum.rec Nat (List Nat ⊕ Unit) (fun _ => Bool) (fun i => (@Option.rec ab_EV (fun _ => Bool) (false) (fun q => (@Prod.rec Bool (Int × Int × Nat × Int) (fun _ => Bool) (fun lg _ => @Bool.rec (fun _ => Bool) true false lg) q)) (zeg e i))) (fun _ => false) (u_))) (v))
def zk1 (e : ab_En) (v : ab_SV) : Bool := (@Option.rec (Nat ⊕ (List Nat ⊕ Unit)) (fun _ => Bool) (false) (fun u_ => (@Sum.rec Nat (List Nat ⊕ Unit) (fun _ => Bool) (fun i => (@Option.rec ab_EV (fun _ => Bool) (false) (fun q => (@Prod.rec Bool (Int × Int × Nat × Int) (fun _ => Bool) (fun lg _ => lg) q)) (zeg e i))) (fun _ => false) (u_))) (v))
def zk2 (v : ab_SV) : Bool := (@Option.rec (Nat ⊕ (List Nat ⊕ Unit)) (fun _ => Bool) (false) (fun u_ => (@Sum.rec Nat (List Nat ⊕ Unit) (fun _ => Bool) (fun _ => false) (fun _ => true) (u_))) (v))
theorem zk0_eq {e : ab_En} {v : ab_SV} : zk0 e v = ab_ldv 0 e v := by
  match v with
  | none => rfl
  | some (.inr _) => rfl
  | some (.inl i) =>
    show @Option.rec ab_EV (fun _ => Bool) false _ (ab_eg e i) = _
    simp only [ab_ldv]
    cases ab_eg e i with
    | none => rfl
    | some q => obtain ⟨lg, r⟩ := q; cases lg <;> rfl
theorem zk1_eq {e : ab_En} {v : ab_SV} : zk1 e v = ab_ldv 1 e v := by
  match v with
  | none => rfl
  | some (.inr _) => rfl
  | some (.inl i) =>
    show @Option.rec ab_EV (fun _ => Bool) false _ (ab_eg e i) = _
    simp only [ab_ldv]
    cases ab_eg e i with
    | none => rfl
    | some q => obtain ⟨lg, r⟩ := q; cases lg <;> rfl
theorem zk2_eq {e : ab_En} {v : ab_SV} : zk2 v = ab_ldv 2 e v := by
  match v with
  | none => rfl
  | some (.inr _) => rfl
  | some (.inl i) => rfl
def zk12 (e : ab_En) (v : ab_SV) : Bool := zor (zk2 v) (zk0 e v)
theorem zk12_eq {e : ab_En} {v : ab_SV} : zk12 e v = (ab_ldv 0 e v || ab_ldv 2 e v) := by
  unfold zk12; rw [zor_eq, zk0_eq, zk2_eq (e := e)]; cases ab_ldv 0 e v <;> cases ab_ldv 2 e v <;> rfl
/-- numbers pushed -/
def zkI (v : Int) (pc : Nat) : zF := fun K n e h L sk => K pc (Nat.succ n) ((n, false, v, v, n, .ofNat 0) :: e) h L (some (.inl n) :: sk)
theorem zkI_ok {v : Int} {pc : Nat} : zSp (zkI v pc) (fun st => some [(pc, ab_kI v st)]) := fun K n e h L sk hk => ⟨_, rfl, fun w hw => by rw [List.mem_singleton.mp hw]; exact hk⟩
def zkL (v : Int) (pc : Nat) : zF := fun K n e h L sk => K pc (Nat.succ n) ((n, true, v, v, n, .ofNat 0) :: e) h L (some (.inl n) :: sk)
theorem zkL_ok {v : Int} {pc : Nat} : zSp (zkL v pc) (fun st => some [(pc, ab_kL v st)]) := fun K n e h L sk hk => ⟨_, rfl, fun w hw => by rw [List.mem_singleton.mp hw]; exact hk⟩
def zld0 (i pc : Nat) : zF := fun K n e h L sk => (@Option.rec ab_SV (fun _ => Bool) (false) (fun v => (@Bool.rec (fun _ => Bool) (false) (K pc n e h L (v :: sk)) (zk0 e v))) (zget L i))
theorem zld0_ok {i pc : Nat} : zS1 pc (zld0 i pc) (ab_load 0 i) := fun K n e h L sk hk => by
  unfold zld0 at hk
  obtain ⟨v, hv, hk⟩ := zl_o hk
  obtain ⟨hb, hk⟩ := zl_b hk
  rw [zget_eq] at hv
  rw [zk0_eq] at hb
  refine ⟨_, _, _, _, _, ?_, hk⟩
  simp only [ab_load, hv, hb]; rfl
def zld1 (i pc : Nat) : zF := fun K n e h L sk => (@Option.rec ab_SV (fun _ => Bool) (false) (fun v => (@Bool.rec (fun _ => Bool) (false) (K pc n e h L (v :: sk)) (zk1 e v))) (zget L i))
theorem zld1_ok {i pc : Nat} : zS1 pc (zld1 i pc) (ab_load 1 i) := fun K n e h L sk hk => by
  unfold zld1 at hk
  obtain ⟨v, hv, hk⟩ := zl_o hk
  obtain ⟨hb, hk⟩ := zl_b hk
  rw [zget_eq] at hv
  rw [zk1_eq] at hb
  refine ⟨_, _, _, _, _, ?_, hk⟩
  simp only [ab_load, hv, hb]; rfl
def zld2 (i pc : Nat) : zF := fun K n e h L sk => (@Option.rec ab_SV (fun _ => Bool) (false) (fun v => (@Bool.rec (fun _ => Bool) (false) (K pc n e h L (v :: sk)) (zk2 v))) (zget L i))
theorem zld2_ok {i pc : Nat} : zS1 pc (zld2 i pc) (ab_load 2 i) := fun K n e h L sk hk => by
  unfold zld2 at hk
  obtain ⟨v, hv, hk⟩ := zl_o hk
  obtain ⟨hb, hk⟩ := zl_b hk
  rw [zget_eq] at hv
  rw [zk2_eq (e := e)] at hb
  refine ⟨_, _, _, _, _, ?_, hk⟩
  simp only [ab_load, hv, hb]; rfl
def zclr (e : ab_En) (L : List ab_SV) (i : Nat) : List ab_SV := @Nat.rec (fun _ => List ab_SV) L (fun j _ => (@Option.rec ab_SV (fun _ => List ab_SV) (L) (fun v => (@Option.rec (Nat ⊕ (List Nat ⊕ Unit)) (fun _ => List ab_SV) L (fun u_ => @Sum.rec Nat (List Nat ⊕ Unit) (fun _ => List ab_SV) (fun k => @Option.rec ab_EV (fun _ => List ab_SV) (zset L j none) (fun q => @Prod.rec Bool (Int × Int × Nat × Int) (fun _ => List ab_SV) (fun lg _ => @Bool.rec (fun _ => List ab_SV) L (zset L j none) lg) q) (zeg e k)) (fun _ => L) u_) v)) (zget L j))) i
theorem zclr_eq {e : ab_En} {L : List ab_SV} {i : Nat} : zclr e L i = ab_clr e L i := by
  cases i with
  | zero => rfl
  | succ j =>
    show @Option.rec ab_SV (fun _ => List ab_SV) L _ (zget L j) = _
    simp only [ab_clr]
    rw [zget_eq]
    cases L[j]? with
    | none => rfl
    | some v =>
      match v with
      | none => rfl
      | some (.inr _) => rfl
      | some (.inl k) =>
        show @Option.rec ab_EV (fun _ => List ab_SV) (zset L j none) _ (ab_eg e k) = bif ab_isL e (some (.inl k)) then L.set j none else L
        simp only [ab_isL]
        cases ab_eg e k with
        | none => exact zset_eq
        | some q => obtain ⟨lg, r⟩ := q; cases lg with
          | false => rfl
          | true => exact zset_eq
def zst0 (i nL pc : Nat) : zF := fun K n e h L sk => (@List.rec ab_SV (fun _ => Bool) (false) (fun a r _ => (@Bool.rec (fun _ => Bool) (false) ((@Bool.rec (fun _ => Bool) (false) (K pc n e h (zset (zclr e L i) i a) r) (Nat.blt i nL))) (zk0 e a))) (sk))
theorem zst0_ok {i nL pc : Nat} : zS1 pc (zst0 i nL pc) (ab_store 0 i nL) := fun K n e h L sk hk => by
  unfold zst0 at hk
  obtain ⟨a, r, rfl, hk⟩ := zl_l hk
  obtain ⟨h1, hk⟩ := zl_b hk
  obtain ⟨h2, hk⟩ := zl_b hk
  rw [zk0_eq] at h1
  rw [zset_eq, zclr_eq] at hk
  refine ⟨_, _, _, _, _, ?_, hk⟩
  simp only [ab_store, h1, h2]; rfl
def zst2 (i nL pc : Nat) : zF := fun K n e h L sk => (@List.rec ab_SV (fun _ => Bool) (false) (fun a r _ => (@Bool.rec (fun _ => Bool) (false) ((@Bool.rec (fun _ => Bool) (false) (K pc n e h (zset (zclr e L i) i a) r) (Nat.blt i nL))) (zk2 a))) (sk))
theorem zst2_ok {i nL pc : Nat} : zS1 pc (zst2 i nL pc) (ab_store 2 i nL) := fun K n e h L sk hk => by
  unfold zst2 at hk
  obtain ⟨a, r, rfl, hk⟩ := zl_l hk
  obtain ⟨h1, hk⟩ := zl_b hk
  obtain ⟨h2, hk⟩ := zl_b hk
  rw [zk2_eq (e := e)] at h1
  rw [zset_eq, zclr_eq] at hk
  refine ⟨_, _, _, _, _, ?_, hk⟩
  simp only [ab_store, h1, h2]; rfl
def zstL (i nL pc : Nat) : zF := fun K n e h L sk => (@List.rec ab_SV (fun _ => Bool) (false) (fun a r _ => (@Bool.rec (fun _ => Bool) (false) ((@Bool.rec (fun _ => Bool) (false) (K pc n e h (zset (zset (zclr e L i) i a) (Nat.succ i) none) r) (Nat.blt (Nat.succ i) nL))) (zk1 e a))) (sk))
theorem zstL_ok {i nL pc : Nat} : zS1 pc (zstL i nL pc) (ab_storeL i nL) := fun K n e h L sk hk => by
  unfold zstL at hk
  obtain ⟨a, r, rfl, hk⟩ := zl_l hk
  obtain ⟨h1, hk⟩ := zl_b hk
  obtain ⟨h2, hk⟩ := zl_b hk
  rw [zk1_eq] at h1
  rw [zset_eq, zset_eq, zclr_eq] at hk
  refine ⟨_, _, _, _, _, ?_, hk⟩
  have h3 : Nat.blt (i + 1) nL = true := h2
  simp only [ab_storeL, h1, h3]; rfl
def zi32 (lo hi : Int) : Bool := (@Bool.rec (fun _ => Bool) (false) (ab_le hi ab_p31) (ab_le ab_m31 lo))
theorem zi32_eq {lo hi : Int} : zi32 lo hi = ab_i32 lo hi := zand_eq
def zi64 (lo hi : Int) : Bool := @Bool.rec (fun _ => Bool) false (ab_le hi ab_p63) (ab_le ab_m63 lo)
theorem zi64_eq {lo hi : Int} : zi64 lo hi = ab_i64 lo hi := zand_eq
def zBs (F : zB) (f : Nat → ab_Q → ab_Q → Option ab_Q) : Prop := ∀ n xl xh xb xo yl yh yb yo k, F n xl xh xb xo yl yh yb yo k = true → ∃ q : ab_Q, f n (xl, xh, xb, xo) (yl, yh, yb, yo) = some q ∧ k q.1 q.2.1 q.2.2.1 q.2.2.2 = true
def zBadd : zB := fun n xl xh xb xo yl yh yb yo k => (@Bool.rec (fun _ => Bool) (k ab_m31 ab_p31 n (.ofNat 0)) ((@Bool.rec (fun _ => Bool) ((@Bool.rec (fun _ => Bool) (k (zadd xl yl) (zadd xh yh) n (.ofNat 0)) (k (zadd xl yl) (zadd xh yh) yb (zadd yo xl)) (ab_le xh xl))) (k (zadd xl yl) (zadd xh yh) xb (zadd xo yl)) (ab_le yh yl))) (zi32 (zadd xl yl) (zadd xh yh)))
theorem zBadd_ok : zBs zBadd ab_addQ := fun n xl xh xb xo yl yh yb yo k hk => by
  unfold zBadd at hk
  simp only [zadd_eq, zi32_eq] at hk
  refine ⟨_, rfl, ?_⟩
  rcases zl_i hk with ⟨h1, hk⟩ | ⟨h1, hk⟩
  · simp only [h1, cond_true]
    rcases zl_i hk with ⟨h2, hk⟩ | ⟨h2, hk⟩
    · simp only [h2, cond_true]; exact hk
    · simp only [h2, cond_false]
      rcases zl_i hk with ⟨h3, hk⟩ | ⟨h3, hk⟩
      · simp only [h3, cond_true]; exact hk
      · simp only [h3, cond_false]; exact hk
  · simp only [h1, cond_false]; exact hk
def zBsub : zB := fun n xl xh xb xo yl yh yb yo k => (@Bool.rec (fun _ => Bool) (k ab_m31 ab_p31 n (.ofNat 0)) ((@Bool.rec (fun _ => Bool) (k (zsub xl yh) (zsub xh yl) n (.ofNat 0)) (k (zsub xl yh) (zsub xh yl) xb (zsub xo yl)) (ab_le yh yl))) (zi32 (zsub xl yh) (zsub xh yl)))
theorem zBsub_ok : zBs zBsub ab_subQ := fun n xl xh xb xo yl yh yb yo k hk => by
  unfold zBsub at hk
  simp only [zsub_eq, zi32_eq] at hk
  refine ⟨_, rfl, ?_⟩
  rcases zl_i hk with ⟨h1, hk⟩ | ⟨h1, hk⟩
  · simp only [h1, cond_true]
    rcases zl_i hk with ⟨h2, hk⟩ | ⟨h2, hk⟩
    · simp only [h2, cond_true]; exact hk
    · simp only [h2, cond_false]; exact hk
  · simp only [h1, cond_false]; exact hk
def zown (n : Nat) (lo hi : Int) (k : Int → Int → Nat → Int → Bool) : Bool := @Bool.rec (fun _ => Bool) (k ab_m31 ab_p31 n (.ofNat 0)) (k lo hi n (.ofNat 0)) (zi32 lo hi)
theorem zown_ok {n : Nat} {lo hi : Int} {k : Int → Int → Nat → Int → Bool} (h : zown n lo hi k = true) : k (ab_own n lo hi).1 (ab_own n lo hi).2.1 (ab_own n lo hi).2.2.1 (ab_own n lo hi).2.2.2 = true := by
  unfold zown at h
  rw [zi32_eq] at h
  unfold ab_own
  rcases zl_i h with ⟨h1, h⟩ | ⟨h1, h⟩
  · simp only [h1, cond_true]; exact h
  · simp only [h1, cond_false]; exact h
def zBof (f : Nat → ab_Q → ab_Q → Option ab_Q) : zB := fun n xl xh xb xo yl yh yb yo k => @Option.rec ab_Q (fun _ => Bool) false (fun q => k q.1 q.2.1 q.2.2.1 q.2.2.2) (f n (xl, xh, xb, xo) (yl, yh, yb, yo))
theorem zBof_ok {f : Nat → ab_Q → ab_Q → Option ab_Q} : zBs (zBof f) f := fun n xl xh xb xo yl yh yb yo k hk => zl_o hk
/-- both not below 0 -/
def zBmul : zB := fun n xl xh xb xo yl yh yb yo k => @Bool.rec (fun _ => Bool) (zBof ab_mulQ n xl xh xb xo yl yh yb yo k) (zown n (zmul xl yl) (zmul xh yh) k) (zand (ab_le (.ofNat 0) xl) (ab_le (.ofNat 0) yl))
theorem zBmul_ok : zBs zBmul ab_mulQ := fun n xl xh xb xo yl yh yb yo k hk => by
  unfold zBmul at hk
  rcases zl_i hk with ⟨h1, hk⟩ | ⟨h1, hk⟩
  · rw [zand_eq] at h1
    refine ⟨_, rfl, ?_⟩
    have h2 : ab_mulB xl xh yl yh = some (Int.mul xl yl, Int.mul xh yh) := by
      unfold ab_mulB ab_0le; rw [h1]; rfl
    rw [zmul_eq, zmul_eq] at hk
    simp only [h2]
    exact zown_ok hk
  · exact zBof_ok _ _ _ _ _ _ _ _ _ _ hk
def zBmax : zB := fun n xl xh xb xo yl yh yb yo k => zown n (zmax xl yl) (zmax xh yh) k
theorem zBmax_ok : zBs zBmax ab_maxQ := fun n xl xh xb xo yl yh yb yo k hk => by
  unfold zBmax at hk
  rw [zmax_eq, zmax_eq] at hk
  exact ⟨_, rfl, zown_ok hk⟩
def zBmin : zB := fun n xl xh xb xo yl yh yb yo k => zown n (zmin xl yl) (zmin xh yh) k
theorem zBmin_ok : zBs zBmin ab_minQ := fun n xl xh xb xo yl yh yb yo k hk => by
  unfold zBmin at hk
  rw [zmin_eq, zmin_eq] at hk
  exact ⟨_, rfl, zown_ok hk⟩
def zbi (F : zB) (pc : Nat) : zF := fun K n e h L sk => (@List.rec ab_SV (fun _ => Bool) (false) (fun a r1 _ => (@List.rec ab_SV (fun _ => Bool) (false) (fun b r _ => zni e a (fun _ yl yh yb yo => zni e b (fun _ xl xh xb xo => F n xl xh xb xo yl yh yb yo (fun lo hi bb o => K pc (Nat.succ n) ((n, false, lo, hi, bb, o) :: e) h L (some (.inl n) :: r))))) (r1))) (sk))
theorem zbi_ok {F : zB} {f : Nat → ab_Q → ab_Q → Option ab_Q} (hF : zBs F f) {pc : Nat} : zS1 pc (zbi F pc) (ab_bin f) := fun K n e h L sk hk => by
  unfold zbi at hk
  obtain ⟨a, r1, rfl, hk⟩ := zl_l hk
  obtain ⟨b, r, rfl, hk⟩ := zl_l hk
  obtain ⟨i, yl, yh, yb, yo, hy, hk⟩ := zni_ok hk
  obtain ⟨j, xl, xh, xb, xo, hx, hk⟩ := zni_ok hk
  obtain ⟨q, hq, hk⟩ := hF _ _ _ _ _ _ _ _ _ _ hk
  refine ⟨_, _, _, _, _, ?_, hk⟩
  simp only [ab_bin, hy, hx, hq]; rfl
def zbl (F : zB) (pc : Nat) : zF := fun K n e h L sk => (@List.rec ab_SV (fun _ => Bool) (false) (fun a r1 _ => (@List.rec ab_SV (fun _ => Bool) (false) (fun b r _ => znl e a (fun _ yl yh yb yo => znl e b (fun _ xl xh xb xo => F n xl xh xb xo yl yh yb yo (fun lo hi bb o => K pc (Nat.succ n) ((n, true, lo, hi, bb, o) :: e) h L (some (.inl n) :: r))))) (r1))) (sk))
theorem zbl_ok {F : zB} {f : Nat → ab_Q → ab_Q → Option ab_Q} (hF : zBs F f) {pc : Nat} : zS1 pc (zbl F pc) (ab_binL f) := fun K n e h L sk hk => by
  unfold zbl at hk
  obtain ⟨a, r1, rfl, hk⟩ := zl_l hk
  obtain ⟨b, r, rfl, hk⟩ := zl_l hk
  obtain ⟨i, yl, yh, yb, yo, hy, hk⟩ := znl_ok hk
  obtain ⟨j, xl, xh, xb, xo, hx, hk⟩ := znl_ok hk
  obtain ⟨q, hq, hk⟩ := hF _ _ _ _ _ _ _ _ _ _ hk
  refine ⟨_, _, _, _, _, ?_, hk⟩
  simp only [ab_binL, hy, hx, hq]; rfl
def zbR (F : zB) (pc : Nat) : zF := fun K n e h L sk => (@Bool.rec (fun _ => Bool) (false) (zbi F pc K n e h L sk) (zshort sk 10))
theorem zbR_ok {F : zB} {f : Nat → ab_Q → ab_Q → Option ab_Q} (hF : zBs F f) {pc : Nat} : zS1 pc (zbR F pc) (ab_binR f) := fun K n e h L sk hk => by
  unfold zbR at hk
  obtain ⟨h1, hk⟩ := zl_b hk
  obtain ⟨n', e', h', L', sk', h2, h3⟩ := zbi_ok hF K n e h L sk hk
  rw [zshort_eq] at h1
  exact ⟨n', e', h', L', sk', by unfold ab_binR; simp only [h1, cond_true]; exact h2, h3⟩
def zinc (i : Nat) (z : Int) (nL pc : Nat) : zF := fun K n e h L sk => (@Option.rec ab_SV (fun _ => Bool) (false) (fun v => zni e v (fun _ xl xh xb xo => zBadd n xl xh xb xo z z n (.ofNat 0) (fun lo hi bb o => (@Bool.rec (fun _ => Bool) (false) ((@Bool.rec (fun _ => Bool) (false) (K pc (Nat.succ n) ((n, false, lo, hi, bb, o) :: e) h (zset (zclr e L i) i (some (.inl n))) sk) (zi32 z z))) (Nat.blt i nL))))) (zget L i))
theorem zinc_ok {i : Nat} {z : Int} {nL pc : Nat} : zS1 pc (zinc i z nL pc) (ab_inc i z nL) := fun K n e h L sk hk => by
  unfold zinc at hk
  obtain ⟨v, hv, hk⟩ := zl_o hk
  obtain ⟨j, xl, xh, xb, xo, hx, hk⟩ := zni_ok hk
  obtain ⟨q, hq, hk⟩ := zBadd_ok _ _ _ _ _ _ _ _ _ _ hk
  obtain ⟨h1, hk⟩ := zl_b hk
  obtain ⟨h2, hk⟩ := zl_b hk
  rw [zget_eq] at hv
  rw [zi32_eq] at h2
  rw [zset_eq, zclr_eq] at hk
  refine ⟨_, _, _, _, _, ?_, hk⟩
  simp only [ab_inc, hv, hx, hq, h1, h2]; rfl
def zcutB (i b : Nat) (o v1 v2 : Int) (e : ab_En) : ab_En := @Bool.rec (fun _ => ab_En) (@Option.rec ab_EV (fun _ => ab_En) e (fun q => @Prod.rec Bool ab_Q (fun _ => ab_En) (fun lg w => @Bool.rec (fun _ => ab_En) (@Prod.rec Int (Int × Nat × Int) (fun _ => ab_En) (fun w1 w2 => @Prod.rec Int (Nat × Int) (fun _ => ab_En) (fun w3 w4 => (b, false, zmax w1 (zsub v1 o), zmin w3 (zsub v2 o), w4) :: e) w2) w) e lg) q) (zeg e b)) e (Nat.beq b i)
theorem zcutB_eq {i b : Nat} {lo hi o v1 v2 : Int} {e : ab_En} : zcutB i b o v1 v2 e = ab_cutB i (lo, hi, b, o) (v1, v2) e := by
  unfold zcutB ab_cutB
  cases Nat.beq b i with
  | true => rfl
  | false =>
    simp only [cond_false]
    rw [zeg_eq]
    cases ab_eg e b with
    | none => rfl
    | some q =>
      obtain ⟨lg, w1, w3, w4⟩ := q
      cases lg with
      | true => rfl
      | false =>
        show (b, false, zmax w1 (zsub v1 o), zmin w3 (zsub v2 o), w4) :: e = _
        rw [zmax_eq, zmin_eq, zsub_eq, zsub_eq]
def zcutE (i : Nat) (lo hi : Int) (b : Nat) (o v1 v2 : Int) (e : ab_En) : ab_En := @Bool.rec (fun _ => ab_En) ((i, false, v1, v2, b, o) :: zcutB i b o v1 v2 e) e (zand (ab_le v1 lo) (ab_le hi v2))
theorem zcutE_eq {i b : Nat} {lo hi o v1 v2 : Int} {e : ab_En} : zcutE i lo hi b o v1 v2 e = ab_cutE i (lo, hi, b, o) (v1, v2) e := by
  unfold zcutE ab_cutE
  rw [zand_eq, zcutB_eq (lo := lo) (hi := hi)]
  cases ab_le v1 lo && ab_le hi v2 <;> rfl
def zRs (R : zR) (c : Jvm.ClassFile.Cond) : Prop := ∀ a b l d k, R a b l d k = true → ∀ p ∈ ab_rel c a b l d, k p.1.1 p.1.2 p.2.1 p.2.2 = true
def zr1 (a h l d : Int) (x : Bool) : Bool := @Bool.rec (fun _ => Bool) true (@Bool.rec (fun _ => Bool) true x (ab_le l d)) (ab_le a h)
theorem zr1_ok {a h l d : Int} {p : ab_Iv × ab_Iv} {x : Bool} (hh : zr1 a h l d x = true) : ∀ q ∈ ab_rel1 a h l d p, q = p ∧ x = true := by
  intro q hq
  unfold ab_rel1 at hq
  unfold zr1 at hh
  cases h1 : ab_le a h with
  | false => rw [h1] at hq; simp at hq
  | true =>
    rw [h1] at hq hh
    cases h2 : ab_le l d with
    | false => rw [h2] at hq; simp at hq
    | true =>
      rw [h2] at hq hh
      simp at hq
      exact ⟨hq, hh⟩
def zrlt : zR := fun a b l d k => zr1 a (zmin b (zsub d (.ofNat 1))) (zmax l (zadd a (.ofNat 1))) d (k a (zmin b (zsub d (.ofNat 1))) (zmax l (zadd a (.ofNat 1))) d)
def zrgt : zR := fun a b l d k => zr1 (zmax a (zadd l (.ofNat 1))) b l (zmin d (zsub b (.ofNat 1))) (k (zmax a (zadd l (.ofNat 1))) b l (zmin d (zsub b (.ofNat 1))))
def zrge : zR := fun a b l d k => zr1 (zmax a l) b l (zmin d b) (k (zmax a l) b l (zmin d b))
def zrle : zR := fun a b l d k => zr1 a (zmin b d) (zmax l a) d (k a (zmin b d) (zmax l a) d)
def zreq : zR := fun a b l d k => zr1 (zmax a l) (zmin b d) (zmax a l) (zmin b d) (k (zmax a l) (zmin b d) (zmax a l) (zmin b d))
def zrv (l h : Int) (x : Bool) : Bool := @Bool.rec (fun _ => Bool) true x (ab_le l h)
def zrne : zR := fun a b l d k => @Bool.rec (fun _ => Bool) (@Bool.rec (fun _ => Bool) (k a b l d) (zand (zrv l (zmin d (zsub a (.ofNat 1))) (k a b l (zmin d (zsub a (.ofNat 1))))) (zrv (zmax l (zadd a (.ofNat 1))) d (k a b (zmax l (zadd a (.ofNat 1))) d))) (ab_le b a)) (zand (zrv a (zmin b (zsub l (.ofNat 1))) (k a (zmin b (zsub l (.ofNat 1))) l d)) (zrv (zmax a (zadd l (.ofNat 1))) b (k (zmax a (zadd l (.ofNat 1))) b l d))) (ab_le d l)
theorem zrv_ok {l h : Int} {x : Bool} (hx : zrv l h x = true) : ∀ q ∈ ab_iv1 l h, q = (l, h) ∧ x = true := by
  intro q hq
  unfold ab_iv1 at hq
  unfold zrv at hx
  cases h1 : ab_le l h with
  | false => rw [h1] at hq; simp at hq
  | true =>
    rw [h1] at hq hx
    simp at hq
    exact ⟨hq, hx⟩
theorem zrlt_ok : zRs zrlt .lt := fun a b l d k hk p hp => by
  unfold zrlt at hk
  simp only [zmin_eq, zmax_eq, zadd_eq, zsub_eq] at hk
  obtain ⟨rfl, h2⟩ := zr1_ok hk p hp
  exact h2
theorem zrgt_ok : zRs zrgt .gt := fun a b l d k hk p hp => by
  unfold zrgt at hk
  simp only [zmin_eq, zmax_eq, zadd_eq, zsub_eq] at hk
  obtain ⟨rfl, h2⟩ := zr1_ok hk p hp
  exact h2
theorem zrge_ok : zRs zrge .ge := fun a b l d k hk p hp => by
  unfold zrge at hk
  simp only [zmin_eq, zmax_eq, zadd_eq, zsub_eq] at hk
  obtain ⟨rfl, h2⟩ := zr1_ok hk p hp
  exact h2
theorem zrle_ok : zRs zrle .le := fun a b l d k hk p hp => by
  unfold zrle at hk
  simp only [zmin_eq, zmax_eq, zadd_eq, zsub_eq] at hk
  obtain ⟨rfl, h2⟩ := zr1_ok hk p hp
  exact h2
theorem zreq_ok : zRs zreq .eq := fun a b l d k hk p hp => by
  unfold zreq at hk
  simp only [zmin_eq, zmax_eq, zadd_eq, zsub_eq] at hk
  obtain ⟨rfl, h2⟩ := zr1_ok hk p hp
  exact h2
theorem zrne_ok : zRs zrne .ne := fun a b l d k hk p hp => by
  unfold zrne at hk
  simp only [zmin_eq, zmax_eq, zadd_eq, zsub_eq] at hk
  simp only [ab_rel] at hp
  rcases zl_i hk with ⟨h1, hk⟩ | ⟨h1, hk⟩
  · rw [h1] at hp
    simp only [cond_true] at hp
    rw [zand_iff] at hk
    obtain ⟨v, hv, rfl⟩ := List.mem_map.mp hp
    rcases List.mem_append.mp hv with hv | hv
    · obtain ⟨rfl, h2⟩ := zrv_ok hk.1 v hv; exact h2
    · obtain ⟨rfl, h2⟩ := zrv_ok hk.2 v hv; exact h2
  · rw [h1] at hp
    simp only [cond_false] at hp
    rcases zl_i hk with ⟨h2, hk⟩ | ⟨h2, hk⟩
    · rw [h2] at hp
      simp only [cond_true] at hp
      rw [zand_iff] at hk
      obtain ⟨v, hv, rfl⟩ := List.mem_map.mp hp
      rcases List.mem_append.mp hv with hv | hv
      · obtain ⟨rfl, h3⟩ := zrv_ok hk.1 v hv; exact h3
      · obtain ⟨rfl, h3⟩ := zrv_ok hk.2 v hv; exact h3
    · rw [h2] at hp
      simp only [cond_false] at hp
      rw [List.mem_singleton.mp hp]; exact hk
def zif (R1 R2 : zR) (t pc : Nat) : zF := fun K n e h L sk => (@List.rec ab_SV (fun _ => Bool) (false) (fun b r _ => zni e b (fun i lo hi bb o => zand (R1 lo hi (.ofNat 0) (.ofNat 0) (fun v1 v2 _ _ => K t n (zcutE i lo hi bb o v1 v2 e) h L r)) (R2 lo hi (.ofNat 0) (.ofNat 0) (fun v1 v2 _ _ => K pc n (zcutE i lo hi bb o v1 v2 e) h L r)))) (sk))
theorem zif_ok {R1 R2 : zR} {c : Jvm.ClassFile.Cond} (h1 : zRs R1 c) (h2 : zRs R2 (ab_not c)) {off : Int} {t pc : Nat} (ht : ab_tgt pc off = some t) : zSp (zif R1 R2 t (pc + 3)) (ab_ifc c off pc) := fun K n e h L sk hk => by
  unfold zif at hk
  obtain ⟨b, r, rfl, hk⟩ := zl_l hk
  obtain ⟨i, lo, hi, bb, o, hx, hk⟩ := zni_ok hk
  rw [zand_iff] at hk
  refine ⟨_, by simp only [ab_ifc, hx, ht]; rfl, fun w hw => ?_⟩
  rcases List.mem_append.mp hw with hw | hw
  · obtain ⟨p, hp, rfl⟩ := List.mem_map.mp hw
    have := h1 _ _ _ _ _ hk.1 p hp
    rw [zcutE_eq] at this; exact this
  · obtain ⟨p, hp, rfl⟩ := List.mem_map.mp hw
    have := h2 _ _ _ _ _ hk.2 p hp
    rw [zcutE_eq] at this; exact this
def zic (R1 R2 : zR) (t pc : Nat) : zF := fun K n e h L sk => (@List.rec ab_SV (fun _ => Bool) (false) (fun a r1 _ => (@List.rec ab_SV (fun _ => Bool) (false) (fun b r _ => zni e a (fun j yl yh yb yo => zni e b (fun i lo hi bb o => zand (R1 lo hi yl yh (fun v1 v2 u1 u2 => K t n (zcutE i lo hi bb o v1 v2 (zcutE j yl yh yb yo u1 u2 e)) h L r)) (R2 lo hi yl yh (fun v1 v2 u1 u2 => K pc n (zcutE i lo hi bb o v1 v2 (zcutE j yl yh yb yo u1 u2 e)) h L r))))) (r1))) (sk))
theorem zic_ok {R1 R2 : zR} {c : Jvm.ClassFile.Cond} (h1 : zRs R1 c) (h2 : zRs R2 (ab_not c)) {off : Int} {t pc : Nat} (ht : ab_tgt pc off = some t) : zSp (zic R1 R2 t (pc + 3)) (ab_icmp c off pc) := fun K n e h L sk hk => by
  unfold zic at hk
  obtain ⟨a, r1, rfl, hk⟩ := zl_l hk
  obtain ⟨b, r, rfl, hk⟩ := zl_l hk
  obtain ⟨j, yl, yh, yb, yo, hy, hk⟩ := zni_ok hk
  obtain ⟨i, lo, hi, bb, o, hx, hk⟩ := zni_ok hk
  rw [zand_iff] at hk
  refine ⟨_, by simp only [ab_icmp, hy, hx, ht]; rfl, fun w hw => ?_⟩
  rcases List.mem_append.mp hw with hw | hw
  · obtain ⟨p, hp, rfl⟩ := List.mem_map.mp hw
    have := h1 _ _ _ _ _ hk.1 p hp
    simp only [zcutE_eq] at this; exact this
  · obtain ⟨p, hp, rfl⟩ := List.mem_map.mp hw
    have := h2 _ _ _ _ _ hk.2 p hp
    simp only [zcutE_eq] at this; exact this
def zgf (ci f pc : Nat) : zF := fun K n e h L sk => (@List.rec ab_SV (fun _ => Bool) (false) (fun a r _ => (@Option.rec (Nat ⊕ (List Nat ⊕ Unit)) (fun _ => Bool) (false) (fun u_ => (@Sum.rec Nat (List Nat ⊕ Unit) (fun _ => Bool) (fun _ => false) (fun w_ => (@Sum.rec (List Nat) Unit (fun _ => Bool) (fun ks_ => (@List.rec Nat (fun _ => Bool) (false) (fun k kr_ _ => (@List.rec Nat (fun _ => Bool) ((@Option.rec ab_AC (fun _ => Bool) (false) (fun c => (@Prod.rec Nat (Nat × ab_AK) (fun _ => Bool) (fun c1 c2 => @Prod.rec Nat ab_AK (fun _ => Bool) (fun _ K5 => (@Bool.rec (fun _ => Bool) (false) ((@Sum.rec (List ab_Iv) (List Nat ⊕ (List Int ⊕ (List Nat ⊕ List ab_SV))) (fun _ => Bool) (fun _ => false) (fun K4 => @Sum.rec (List Nat) (List Int ⊕ (List Nat ⊕ List ab_SV)) (fun _ => Bool) (fun _ => false) (fun K3 => @Sum.rec (List Int) (List Nat ⊕ List ab_SV) (fun _ => Bool) (fun _ => false) (fun K2 => @Sum.rec (List Nat) (List ab_SV) (fun _ => Bool) (fun _ => false) (fun svs => (@Option.rec ab_SV (fun _ => Bool) (false) (fun v => K pc n e h L (v :: r)) (zget svs f))) K2) K3) K4) K5)) (Nat.beq c1 ci))) c2) c)) (zhg h k))) (fun _ _ _ => false) (kr_))) (ks_))) (fun _ => false) (w_))) (u_))) (a))) (sk))
theorem zgf_ok {ci f pc : Nat} : zS1 pc (zgf ci f pc) (ab_gf ci f) := fun K n e h L sk hk => by
  unfold zgf at hk
  obtain ⟨a, r, rfl, hk⟩ := zl_l hk
  obtain ⟨u, rfl, hk⟩ := zl_o hk
  obtain ⟨u, rfl, hk⟩ := zl_s2 hk
  obtain ⟨ks, rfl, hk⟩ := zl_s1 hk
  obtain ⟨k, kr, rfl, hk⟩ := zl_l hk
  obtain ⟨rfl, hk⟩ := zl_n hk
  obtain ⟨c, hc, hk⟩ := zl_o hk
  obtain ⟨c1, N, K5⟩ := c
  obtain ⟨hb, hk⟩ := zl_b hk
  obtain ⟨K4, rfl, hk⟩ := zl_s2 hk
  obtain ⟨K3, rfl, hk⟩ := zl_s2 hk
  obtain ⟨K2, rfl, hk⟩ := zl_s2 hk
  obtain ⟨svs, rfl, hk⟩ := zl_s2 hk
  obtain ⟨v, hv, hk⟩ := zl_o hk
  rw [zhg_eq] at hc
  rw [zget_eq] at hv
  refine ⟨_, _, _, _, _, ?_, hk⟩
  simp only [ab_gf, hc, hb, hv]; rfl
def zlt {α : Type} (l : List α) (f : Nat) : Bool := @Option.rec α (fun _ => Bool) false (fun _ => true) (zget l f)
theorem zlt_eq {α : Type} {l : List α} {f : Nat} : zlt l f = Nat.blt f l.length := by
  unfold zlt
  rw [zget_eq]
  cases hb : Nat.blt f l.length with
  | true =>
    have h1 : f < l.length := by simpa using hb
    rw [List.getElem?_eq_getElem h1]
  | false =>
    have h1 : ¬ f < l.length := by
      intro h; rw [show Nat.blt f l.length = true by simpa using h] at hb; cases hb
    rw [List.getElem?_eq_none (by omega)]
def zbo (e : ab_En) (v : ab_SV) : Bool := zni e v (fun _ lo hi _ _ => @Bool.rec (fun _ => Bool) false (ab_le hi (.ofNat 1)) (ab_le (.ofNat 0) lo))
theorem zbo_ok {e : ab_En} {v : ab_SV} (h : zbo e v = true) : ab_bool e v = true := by
  obtain ⟨i, lo, hi, b, o, h1, h2⟩ := zni_ok h
  obtain ⟨h3, h4⟩ := zl_b h2
  unfold ab_bool ab_0le
  rw [h1]
  simp only [h3, h4]; rfl
/-- a check of a value's kind, by the field's type -/
def zty (ty : FieldType) : Option (ab_En → ab_SV → Bool) := match ty with
  | .int => some zk0
  | .long => some zk1
  | .boolean => some zbo
  | .object _ => some (fun _ => zk2)
  | .array _ => some (fun _ => zk2)
  | _ => none
theorem zty_ok {ty : FieldType} {g : ab_En → ab_SV → Bool} {e : ab_En} {v : ab_SV} (h : zty ty = some g) (hg : g e v = true) : ab_tyok ty e v = true := by
  cases ty <;> simp only [zty] at h <;> cases h <;> simp only [ab_tyok]
  all_goals first | (rw [← zk0_eq]; exact hg) | (rw [← zk1_eq]; exact hg) | exact zbo_ok hg | (rw [← zk2_eq (e := e)]; exact hg)
def zpf (ci f : Nat) (tg : ab_En → ab_SV → Bool) (M : Nat → Bool) (pc : Nat) : zF := fun K n e h L sk => (@List.rec ab_SV (fun _ => Bool) (false) (fun v r0 _ => (@List.rec ab_SV (fun _ => Bool) (false) (fun a r _ => (@Option.rec (Nat ⊕ (List Nat ⊕ Unit)) (fun _ => Bool) (false) (fun u_ => (@Sum.rec Nat (List Nat ⊕ Unit) (fun _ => Bool) (fun _ => false) (fun w_ => (@Sum.rec (List Nat) Unit (fun _ => Bool) (fun ks_ => (@List.rec Nat (fun _ => Bool) (false) (fun k kr_ _ => (@List.rec Nat (fun _ => Bool) ((@Option.rec ab_AC (fun _ => Bool) (false) (fun c => (@Prod.rec Nat (Nat × ab_AK) (fun _ => Bool) (fun c1 c2 => @Prod.rec Nat ab_AK (fun _ => Bool) (fun N K5 => (@Bool.rec (fun _ => Bool) (false) ((@Bool.rec (fun _ => Bool) (false) ((@Bool.rec (fun _ => Bool) (false) ((@Bool.rec (fun _ => Bool) (false) ((@Sum.rec (List ab_Iv) (List Nat ⊕ (List Int ⊕ (List Nat ⊕ List ab_SV))) (fun _ => Bool) (fun _ => false) (fun K4 => @Sum.rec (List Nat) (List Int ⊕ (List Nat ⊕ List ab_SV)) (fun _ => Bool) (fun _ => false) (fun K3 => @Sum.rec (List Int) (List Nat ⊕ List ab_SV) (fun _ => Bool) (fun _ => false) (fun K2 => @Sum.rec (List Nat) (List ab_SV) (fun _ => Bool) (fun _ => false) (fun svs => (@Bool.rec (fun _ => Bool) (false) (K pc n e ((k, c1, N, .inr (.inr (.inr (.inr (zset svs f v))))) :: h) L r) (zlt svs f))) K2) K3) K4) K5)) (tg e v))) (M (ab_fc k f)))) (M k))) (Nat.beq c1 ci))) c2) c)) (zhg h k))) (fun _ _ _ => false) (kr_))) (ks_))) (fun _ => false) (w_))) (u_))) (a))) (r0))) (sk))
theorem zpf_ok {ci f pc : Nat} {ty : FieldType} {tg : ab_En → ab_SV → Bool} (ht : zty ty = some tg) {M : Nat → Bool} : zS1 pc (zpf ci f tg M pc) (ab_pf ci f ty M) := fun K n e h L sk hk => by
  unfold zpf at hk
  obtain ⟨v, r0, rfl, hk⟩ := zl_l hk
  obtain ⟨a, r, rfl, hk⟩ := zl_l hk
  obtain ⟨u, rfl, hk⟩ := zl_o hk
  obtain ⟨u, rfl, hk⟩ := zl_s2 hk
  obtain ⟨ks, rfl, hk⟩ := zl_s1 hk
  obtain ⟨k, kr, rfl, hk⟩ := zl_l hk
  obtain ⟨rfl, hk⟩ := zl_n hk
  obtain ⟨c, hc, hk⟩ := zl_o hk
  obtain ⟨c1, N, K5⟩ := c
  obtain ⟨b1, hk⟩ := zl_b hk
  obtain ⟨b2, hk⟩ := zl_b hk
  obtain ⟨b3, hk⟩ := zl_b hk
  obtain ⟨b4, hk⟩ := zl_b hk
  obtain ⟨K4, rfl, hk⟩ := zl_s2 hk
  obtain ⟨K3, rfl, hk⟩ := zl_s2 hk
  obtain ⟨K2, rfl, hk⟩ := zl_s2 hk
  obtain ⟨svs, rfl, hk⟩ := zl_s2 hk
  obtain ⟨b5, hk⟩ := zl_b hk
  rw [zhg_eq] at hc
  rw [zset_eq] at hk
  rw [zlt_eq] at b5
  have b6 := zty_ok ht b4
  refine ⟨_, _, _, _, _, ?_, hk⟩
  simp only [ab_pf, hc, b1, b2, b3, b5, b6]; rfl
def zdup (pc : Nat) : zF := fun K n e h L sk => @List.rec ab_SV (fun _ => Bool) false (fun a r _ => @Bool.rec (fun _ => Bool) false (K pc n e h L (a :: a :: r)) (zk12 e a)) sk
theorem zdup_ok {pc : Nat} : zS1 pc (zdup pc) ab_dup := fun K n e h L sk hk => by
  unfold zdup at hk
  obtain ⟨a, r, rfl, hk⟩ := zl_l hk
  obtain ⟨b, hk⟩ := zl_b hk
  rw [zk12_eq] at b
  refine ⟨_, _, _, _, _, ?_, hk⟩
  simp only [ab_dup, b]; rfl
def zpop (pc : Nat) : zF := fun K n e h L sk => @List.rec ab_SV (fun _ => Bool) false (fun a r _ => @Bool.rec (fun _ => Bool) false (K pc n e h L r) (zk12 e a)) sk
theorem zpop_ok {pc : Nat} : zS1 pc (zpop pc) ab_pop := fun K n e h L sk hk => by
  unfold zpop at hk
  obtain ⟨a, r, rfl, hk⟩ := zl_l hk
  obtain ⟨b, hk⟩ := zl_b hk
  rw [zk12_eq] at b
  refine ⟨_, _, _, _, _, ?_, hk⟩
  simp only [ab_pop, b]; rfl
/-- any other: out of the slow step -/
def zge1 (pc : Nat) (o : ab_St → Option ab_St) : zF := fun K n e h L sk => @Option.rec ab_St (fun _ => Bool) false (fun st => K pc st.1 st.2.1 st.2.2.1 st.2.2.2.1 st.2.2.2.2) (o (n, e, h, L, sk))
theorem zge1_ok {pc : Nat} {o : ab_St → Option ab_St} : zS1 pc (zge1 pc o) o := fun K n e h L sk hk => by
  obtain ⟨⟨n', e', h', L', sk'⟩, h1, h2⟩ := zl_o hk
  exact ⟨n', e', h', L', sk', h1, h2⟩
def zgen (o : ab_St → Option (List (Nat × ab_St))) : zF := fun K n e h L sk => @Option.rec (List (Nat × ab_St)) (fun _ => Bool) false (fun l => zall (zKs K) l) (o (n, e, h, L, sk))
theorem zgen_ok {o : ab_St → Option (List (Nat × ab_St))} : zSp (zgen o) o := fun K n e h L sk hk => by
  obtain ⟨l, h1, h2⟩ := zl_o hk
  exact ⟨l, h1, zall_in h2⟩
def zgo (t : Nat) : zF := fun K n e h L sk => K t n e h L sk
theorem zgo_ok {t : Nat} : zSp (zgo t) (fun st => some [(t, st)]) := fun K n e h L sk hk => ⟨_, rfl, fun w hw => by rw [List.mem_singleton.mp hw]; exact hk⟩
end
