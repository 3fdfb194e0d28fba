noncomputable section
def znat (a : Int) : Nat := @Int.rec (fun _ => Nat) (fun m => m) (fun _ => 0) a
theorem znat_eq {a : Int} : znat a = a.toNat := by cases a <;> rfl
def zdrop {α : Type} (l : List α) (k : Nat) : List α := @List.rec α (fun _ => Nat → List α) (fun _ => []) (fun a r ih k => @Nat.rec (fun _ => List α) (a :: r) (fun j _ => ih j) k) l k
theorem zdrop_eq {α : Type} : ∀ {l : List α} {k : Nat}, zdrop l k = l.drop k
  | [], k => by cases k <;> rfl
  | a :: r, 0 => rfl
  | a :: r, k + 1 => by show zdrop r k = _; rw [zdrop_eq]; rfl
def ztake {α : Type} (l : List α) (k : Nat) : List α := @List.rec α (fun _ => Nat → List α) (fun _ => []) (fun a _ ih k => @Nat.rec (fun _ => List α) [] (fun j _ => a :: ih j) k) l k
theorem ztake_eq {α : Type} : ∀ {l : List α} {k : Nat}, ztake l k = l.take k
  | [], k => by cases k <;> rfl
  | a :: r, 0 => rfl
  | a :: r, k + 1 => by show a :: ztake r k = _; rw [ztake_eq]; rfl
def zsl {α : Type} (lo hi : Int) (l : List α) : List α := ztake (zdrop l (znat lo)) (Nat.succ (znat (zsub hi lo)))
theorem zsl_eq {α : Type} {lo hi : Int} {l : List α} : zsl lo hi l = ab_slice lo hi l := by unfold zsl ab_slice; rw [ztake_eq, zdrop_eq, znat_eq, znat_eq, zsub_eq]
def zmap {α β : Type} (f : α → β) (l : List α) : List β := @List.rec α (fun _ => List β) [] (fun a _ ih => f a :: ih) l
theorem zmap_eq {α β : Type} {f : α → β} : ∀ {l : List α}, zmap f l = l.map f
  | [] => rfl
  | a :: r => by show f a :: zmap f r = _; rw [zmap_eq]; rfl
def ziq (a b : Int) : Bool := zand (ab_le a b) (ab_le b a)
def zdd (l : List Int) : List Int := @List.rec Int (fun _ => List Int) [] (fun a _ ih => @List.rec Int (fun _ => List Int) [a] (fun b t _ => @Bool.rec (fun _ => List Int) (a :: b :: t) (b :: t) (ziq a b)) ih) l
theorem zdd_eq : ∀ {l : List Int}, zdd l = ab_dd l
  | [] => rfl
  | a :: r => by
    show @List.rec Int (fun _ => List Int) [a] (fun b t _ => @Bool.rec (fun _ => List Int) (a :: b :: t) (b :: t) (ziq a b)) (zdd r) = _
    rw [zdd_eq, ab_dd]
    cases ab_dd r with
    | nil => rfl
    | cons b t =>
      show @Bool.rec (fun _ => List Int) (a :: b :: t) (b :: t) (ziq a b) = _
      unfold ziq
      rw [zand_eq]
      show _ = bif ab_le a b && ab_le b a then b :: t else a :: b :: t
      cases ab_le a b && ab_le b a <;> rfl
def ziveq (a b : Nat ⊕ ab_Iv) : Bool := @Sum.rec Nat ab_Iv (fun _ => Bool) (fun _ => false) (fun v => @Sum.rec Nat ab_Iv (fun _ => Bool) (fun _ => false) (fun u => zand (ziq v.1 u.1) (ziq v.2 u.2)) b) a
theorem ziveq_eq {a b : Nat ⊕ ab_Iv} : ziveq a b = ab_iveq a b := by
  cases a <;> cases b <;> first | rfl | (show zand _ _ = _; unfold ziq; simp only [zand_eq, ab_iveq])
def zdv (l : List (Nat ⊕ ab_Iv)) : List (Nat ⊕ ab_Iv) := @List.rec (Nat ⊕ ab_Iv) (fun _ => List (Nat ⊕ ab_Iv)) [] (fun a _ ih => @List.rec (Nat ⊕ ab_Iv) (fun _ => List (Nat ⊕ ab_Iv)) [a] (fun b t _ => @Bool.rec (fun _ => List (Nat ⊕ ab_Iv)) (a :: b :: t) (b :: t) (ziveq a b)) ih) l
theorem zdv_eq : ∀ {l : List (Nat ⊕ ab_Iv)}, zdv l = ab_dv l
  | [] => rfl
  | a :: r => by
    show @List.rec (Nat ⊕ ab_Iv) (fun _ => List (Nat ⊕ ab_Iv)) [a] (fun b t _ => @Bool.rec (fun _ => List (Nat ⊕ ab_Iv)) (a :: b :: t) (b :: t) (ziveq a b)) (zdv r) = _
    rw [zdv_eq, ab_dv]
    cases ab_dv r with
    | nil => rfl
    | cons b t =>
      show @Bool.rec (fun _ => List (Nat ⊕ ab_Iv)) (a :: b :: t) (b :: t) (ziveq a b) = _
      rw [ziveq_eq]
      show _ = bif ab_iveq a b then b :: t else a :: b :: t
      cases ab_iveq a b <;> rfl
def zrd (lo hi : Int) (k : ab_AK) : Option (List (Nat ⊕ ab_Iv)) := (@Sum.rec (List ab_Iv) (List Nat ⊕ (List Int ⊕ (List Nat ⊕ List ab_SV))) (fun _ => Option (List (Nat ⊕ ab_Iv))) (fun U => some (zmap .inr U)) (fun K4 => @Sum.rec (List Nat) (List Int ⊕ (List Nat ⊕ List ab_SV)) (fun _ => Option (List (Nat ⊕ ab_Iv))) (fun ids => some (zmap .inl (zsl lo hi ids))) (fun K3 => @Sum.rec (List Int) (List Nat ⊕ List ab_SV) (fun _ => Option (List (Nat ⊕ ab_Iv))) (fun cs => some (zmap (fun v => .inr (v, v)) (zdd (zsl lo hi cs)))) (fun K2 => @Sum.rec (List Nat) (List ab_SV) (fun _ => Option (List (Nat ⊕ ab_Iv))) (fun _ => none) (fun _ => none) K2) K3) K4) (k))
theorem zrd_eq {lo hi : Int} {k : ab_AK} : zrd lo hi k = ab_rd lo hi k := by
  match k with
  | .inl U => show some _ = some _; rw [zmap_eq]
  | .inr (.inl ids) => show some _ = some _; rw [zmap_eq, zsl_eq]
  | .inr (.inr (.inl cs)) => show some _ = some _; rw [zmap_eq, zdd_eq, zsl_eq]
  | .inr (.inr (.inr (.inl _))) => rfl
  | .inr (.inr (.inr (.inr _))) => rfl
def zseq {α β : Type} (f : α → Option (List β)) (l : List α) : Option (List β) := @List.rec α (fun _ => Option (List β)) (some []) (fun a _ ih => @Option.rec (List β) (fun _ => Option (List β)) none (fun x => @Option.rec (List β) (fun _ => Option (List β)) none (fun y => some (zapp x y)) ih) (f a)) l
theorem zseq_eq {α β : Type} {f : α → Option (List β)} : ∀ {l : List α}, zseq f l = ab_seq f l
  | [] => rfl
  | a :: r => by
    show @Option.rec (List β) (fun _ => Option (List β)) none (fun x => @Option.rec (List β) (fun _ => Option (List β)) none (fun y => some (zapp x y)) (zseq f r)) (f a) = _
    rw [zseq_eq, ab_seq]
    cases f a with
    | none => rfl
    | some x =>
      cases ab_seq f r with
      | none => rfl
      | some y => show some (zapp x y) = _; rw [zapp_eq]
/-- an array's place is in it -/
def zix (t0 : Nat) (lo hi : Int) (c : ab_AC) : Bool := zand (Nat.beq c.1 t0) (zand (ab_le (.ofNat 0) lo) (ab_le (zadd hi (.ofNat 1)) (.ofNat c.2.1)))
theorem zix_eq {t0 : Nat} {lo hi : Int} {c : ab_AC} : zix t0 lo hi c = (Nat.beq c.1 t0 && (ab_0le lo && ab_le (Int.add hi (.ofNat 1)) (.ofNat c.2.1))) := by unfold zix ab_0le; rw [zand_eq, zand_eq, zadd_eq]
def zal1 (t0 : Nat) (lo hi : Int) (h : ab_AH) (k : Nat) : Option (List (Nat ⊕ ab_Iv)) := @Option.rec ab_AC (fun _ => Option (List (Nat ⊕ ab_Iv))) none (fun c => @Bool.rec (fun _ => Option (List (Nat ⊕ ab_Iv))) none (zrd lo hi c.2.2) (zix t0 lo hi c)) (zhg h k)
theorem zal1_eq {t0 : Nat} {lo hi : Int} {h : ab_AH} {k : Nat} : zal1 t0 lo hi h k = (match ab_hg h k with
      | some c => bif Nat.beq c.1 t0 && (ab_0le lo && ab_le (Int.add hi (.ofNat 1)) (.ofNat c.2.1)) then ab_rd lo hi c.2.2 else none
      | none => none) := by
  unfold zal1
  rw [zhg_eq]
  cases ab_hg h k with
  | none => rfl
  | some c =>
    show @Bool.rec (fun _ => Option (List (Nat ⊕ ab_Iv))) none (zrd lo hi c.2.2) (zix t0 lo hi c) = _
    rw [zrd_eq, zix_eq]
    show _ = bif _ then _ else _
    cases (Nat.beq c.1 t0 && (ab_0le lo && ab_le (Int.add hi (.ofNat 1)) (.ofNat c.2.1))) <;> rfl
/-- what is read -/
def zrs (lg : Bool) (K : zK) (pc n : Nat) (e : ab_En) (h : ab_AH) (L r : List ab_SV) (w : Nat ⊕ ab_Iv) : Bool := @Sum.rec Nat ab_Iv (fun _ => Bool) (fun i => K pc n e h L (some (.inl i) :: r)) (fun v => K pc (Nat.succ n) ((n, lg, v.1, v.2, n, .ofNat 0) :: e) h L (some (.inl n) :: r)) w
def zald (t0 : Nat) (lg : Bool) (pc : Nat) : zF := fun K n e h L sk => (@List.rec ab_SV (fun _ => Bool) (false) (fun a r1 _ => (@List.rec ab_SV (fun _ => Bool) (false) (fun b r _ => (@Option.rec (Nat ⊕ (List Nat ⊕ Unit)) (fun _ => Bool) (false) (fun u_ => (@Sum.rec Nat (List Nat ⊕ Unit) (fun _ => Bool) (fun _ => false) (fun w_ => (@Sum.rec (List Nat) Unit (fun _ => Bool) (fun ks => zni e a (fun _ lo hi _ _ => (@Option.rec (List (Nat ⊕ ab_Iv)) (fun _ => Bool) (false) (fun al => zall (zrs lg K pc n e h L r) (zdv al)) (zseq (zal1 t0 lo hi h) ks)))) (fun _ => false) (w_))) (u_))) (b))) (r1))) (sk))
theorem zald_ok {t0 : Nat} {lg : Bool} {pc : Nat} : zSp (zald t0 lg pc) (fun st => ab_n pc (ab_ald t0 lg st)) := fun K n e h L sk hk => by
  unfold zald at hk
  obtain ⟨a, r1, rfl, hk⟩ := zl_l hk
  obtain ⟨b, r, rfl, hk⟩ := zl_l hk
  obtain ⟨u, rfl, hk⟩ := zl_o hk
  obtain ⟨u, rfl, hk⟩ := zl_s2 hk
  obtain ⟨ks, rfl, hk⟩ := zl_s1 hk
  obtain ⟨i, lo, hi, bb, o, hx, hk⟩ := zni_ok hk
  obtain ⟨al, hal, hk⟩ := zl_o hk
  rw [zseq_eq, show zal1 t0 lo hi h = _ from funext (fun k => zal1_eq)] at hal
  rw [zdv_eq] at hk
  refine ⟨((ab_dv al).map (ab_rdS lg n e h L r)).map (fun s => (pc, s)), ?_, fun w hw => ?_⟩
  · show ab_n pc (ab_ald t0 lg (n, e, h, L, a :: some (.inr (.inl ks)) :: r)) = _
    simp only [ab_ald, hx]
    generalize hg : ab_seq _ ks = z
    have hz : z = some al := hg.symm.trans hal
    subst hz; rfl
  · obtain ⟨s, hs, rfl⟩ := List.mem_map.mp hw
    obtain ⟨v, hv, rfl⟩ := List.mem_map.mp hs
    have := zall_in hk v hv
    match v, this with
    | .inl i, this => exact this
    | .inr v, this => exact this
def zaald (pc : Nat) : zF := fun K n e h L sk => (@List.rec ab_SV (fun _ => Bool) (false) (fun a r1 _ => (@List.rec ab_SV (fun _ => Bool) (false) (fun b r _ => (@Option.rec (Nat ⊕ (List Nat ⊕ Unit)) (fun _ => Bool) (false) (fun u_ => (@Sum.rec Nat (List Nat ⊕ Unit) (fun _ => Bool) (fun _ => false) (fun w_ => (@Sum.rec (List Nat) Unit (fun _ => Bool) (fun ks_ => (@List.rec Nat (fun _ => Bool) (false) (fun k kr_ _ => (@List.rec Nat (fun _ => Bool) (zni e a (fun _ lo hi _ _ => (@Option.rec ab_AC (fun _ => Bool) (false) (fun c => (@Prod.rec Nat (Nat × ab_AK) (fun _ => Bool) (fun _ c2 => @Prod.rec Nat ab_AK (fun _ => Bool) (fun N K5 => (@Sum.rec (List ab_Iv) (List Nat ⊕ (List Int ⊕ (List Nat ⊕ List ab_SV))) (fun _ => Bool) (fun _ => false) (fun K4 => @Sum.rec (List Nat) (List Int ⊕ (List Nat ⊕ List ab_SV)) (fun _ => Bool) (fun _ => false) (fun K3 => @Sum.rec (List Int) (List Nat ⊕ List ab_SV) (fun _ => Bool) (fun _ => false) (fun K2 => @Sum.rec (List Nat) (List ab_SV) (fun _ => Bool) (fun ks => (@Bool.rec (fun _ => Bool) (false) ((@Bool.rec (fun _ => Bool) (false) (K pc n e h L (some (.inr (.inl (zsl lo hi ks))) :: r)) (ab_le (zadd hi (.ofNat 1)) (.ofNat N)))) (ab_le (.ofNat 0) lo))) (fun _ => false) K2) K3) K4) (K5))) c2) c)) (zhg h k)))) (fun _ _ _ => false) (kr_))) (ks_))) (fun _ => false) (w_))) (u_))) (b))) (r1))) (sk))
theorem zaald_ok {pc : Nat} : zS1 pc (zaald pc) ab_aald := fun K n e h L sk hk => by
  unfold zaald at hk
  obtain ⟨a, r1, rfl, hk⟩ := zl_l hk
  obtain ⟨b, r, rfl, hk⟩ := zl_l hk
  obtain ⟨u, rfl, hk⟩ := zl_o hk
  obtain ⟨u, rfl, hk⟩ := zl_s2 hk
  obtain ⟨ks, rfl, hk⟩ := zl_s1 hk
  obtain ⟨k, kr, rfl, hk⟩ := zl_l hk
  obtain ⟨rfl, hk⟩ := zl_n hk
  obtain ⟨i, lo, hi, bb, o, hx, hk⟩ := zni_ok hk
  obtain ⟨c, hc, hk⟩ := zl_o hk
  obtain ⟨c1, N, K5⟩ := c
  obtain ⟨K4, rfl, hk⟩ := zl_s2 hk
  obtain ⟨K3, rfl, hk⟩ := zl_s2 hk
  obtain ⟨K2, rfl, hk⟩ := zl_s2 hk
  obtain ⟨ks, rfl, hk⟩ := zl_s1 hk
  obtain ⟨b1, hk⟩ := zl_b hk
  obtain ⟨b2, hk⟩ := zl_b hk
  rw [zhg_eq] at hc
  rw [zadd_eq] at b2
  rw [zsl_eq] at hk
  refine ⟨_, _, _, _, _, ?_, hk⟩
  simp only [ab_aald, ab_0le, hx, hc, b1, b2]; rfl
def zany {α : Type} (k : α → Bool) (l : List α) : Bool := @List.rec α (fun _ => Bool) false (fun a _ ih => @Bool.rec (fun _ => Bool) ih true (k a)) l
theorem zany_eq {α : Type} {k : α → Bool} : ∀ {l : List α}, zany k l = l.any k
  | [] => rfl
  | a :: r => by
    rw [List.any_cons, ← zany_eq]
    show @Bool.rec (fun _ => Bool) (zany k r) true (k a) = _
    cases k a <;> rfl
def ziin (v1 v2 : Int) (w : ab_Iv) : Bool := zand (ab_le w.1 v1) (ab_le v2 w.2)
def zinsU (v1 v2 : Int) (U : List ab_Iv) : List ab_Iv := @Bool.rec (fun _ => List ab_Iv) ((v1, v2) :: U) U (zany (ziin v1 v2) U)
theorem zinsU_eq {v1 v2 : Int} {U : List ab_Iv} : zinsU v1 v2 U = ab_insU (v1, v2) U := by
  unfold zinsU ab_insU
  rw [zany_eq, show ziin v1 v2 = (fun w => ab_le w.1 v1 && ab_le v2 w.2) from funext (fun w => zand_eq)]
  cases U.any (fun w => ab_le w.1 v1 && ab_le v2 w.2) <;> rfl
def zwrK (lo hi : Int) (id : Nat) (v1 v2 : Int) (one : Bool) (K : ab_AK) : Option ab_AK := (@Sum.rec (List ab_Iv) (List Nat ⊕ (List Int ⊕ (List Nat ⊕ List ab_SV))) (fun _ => Option ab_AK) (fun U => some (.inl (zinsU v1 v2 U))) (fun K4 => @Sum.rec (List Nat) (List Int ⊕ (List Nat ⊕ List ab_SV)) (fun _ => Option ab_AK) (fun ids => @Bool.rec (fun _ => Option ab_AK) none (some (.inr (.inl (zset ids (znat lo) id)))) (zand one (ab_le hi lo))) (fun K3 => @Sum.rec (List Int) (List Nat ⊕ List ab_SV) (fun _ => Option ab_AK) (fun cs => @Bool.rec (fun _ => Option ab_AK) none (some (.inr (.inr (.inl (zset cs (znat lo) v1))))) (zand one (zand (ab_le hi lo) (ab_le v2 v1)))) (fun K2 => @Sum.rec (List Nat) (List ab_SV) (fun _ => Option ab_AK) (fun _ => none) (fun _ => none) K2) K3) K4) (K))
theorem zwrK_eq {lo hi : Int} {id : Nat} {v1 v2 : Int} {one : Bool} {K : ab_AK} : zwrK lo hi id v1 v2 one K = ab_wrK lo hi id (v1, v2) one K := by
  match K with
  | .inl U => show some _ = some _; rw [zinsU_eq]
  | .inr (.inl ids) =>
    show @Bool.rec (fun _ => Option ab_AK) none _ _ = bif _ then _ else _
    rw [zand_eq, zset_eq, znat_eq]
    cases one && ab_le hi lo <;> rfl
  | .inr (.inr (.inl cs)) =>
    show @Bool.rec (fun _ => Option ab_AK) none _ _ = bif _ then _ else _
    rw [zand_eq, zand_eq, zset_eq, znat_eq]
    cases one && (ab_le hi lo && ab_le v2 v1) <;> rfl
  | .inr (.inr (.inr (.inl _))) => rfl
  | .inr (.inr (.inr (.inr _))) => rfl
def zwrE (f : ab_AC → Option ab_AK) (h : ab_AH) (l : List Nat) : Option ab_AH := @List.rec Nat (fun _ => Option ab_AH) (some []) (fun k _ ih => @Option.rec ab_AC (fun _ => Option ab_AH) none (fun c => @Option.rec ab_AH (fun _ => Option ab_AH) none (fun E => @Option.rec ab_AK (fun _ => Option ab_AH) none (fun K => some ((k, c.1, c.2.1, K) :: E)) (f c)) ih) (zhg h k)) l
theorem zwrE_eq {f : ab_AC → Option ab_AK} {h : ab_AH} : ∀ {l : List Nat}, zwrE f h l = ab_wrE f h l
  | [] => rfl
  | k :: r => by
    show @Option.rec ab_AC (fun _ => Option ab_AH) none (fun c => @Option.rec ab_AH (fun _ => Option ab_AH) none (fun E => @Option.rec ab_AK (fun _ => Option ab_AH) none (fun K => some ((k, c.1, c.2.1, K) :: E)) (f c)) (zwrE f h r)) (zhg h k) = _
    rw [zwrE_eq, ab_wrE, zhg_eq]
    cases ab_hg h k with
    | none => rfl
    | some c =>
      cases ab_wrE f h r with
      | none => rfl
      | some E =>
        show @Option.rec ab_AK (fun _ => Option ab_AH) none (fun K => some ((k, c.1, c.2.1, K) :: E)) (f c) = (match f c with
          | some K => some ((k, c.1, c.2.1, K) :: E)
          | none => none)
        cases f c <;> rfl
def zast1 (t0 : Nat) (lo hi : Int) (id : Nat) (v1 v2 : Int) (one : Bool) (c : ab_AC) : Option ab_AK := @Bool.rec (fun _ => Option ab_AK) none (zwrK lo hi id v1 v2 one c.2.2) (zix t0 lo hi c)
theorem zast1_eq {t0 : Nat} {lo hi : Int} {id : Nat} {v1 v2 : Int} {one : Bool} {c : ab_AC} : zast1 t0 lo hi id v1 v2 one c = bif Nat.beq c.1 t0 && (ab_0le lo && ab_le (Int.add hi (.ofNat 1)) (.ofNat c.2.1)) then ab_wrK lo hi id (v1, v2) one c.2.2 else none := by
  unfold zast1
  rw [zwrK_eq, zix_eq]
  cases (Nat.beq c.1 t0 && (ab_0le lo && ab_le (Int.add hi (.ofNat 1)) (.ofNat c.2.1))) <;> rfl
def zone (l : List Nat) : Bool := @List.rec Nat (fun _ => Bool) false (fun _ r _ => @List.rec Nat (fun _ => Bool) true (fun _ _ _ => false) r) l
theorem zone_eq {l : List Nat} : zone l = Nat.beq l.length 1 := by
  match l with
  | [] => rfl
  | [a] => rfl
  | a :: b :: r => rfl
def zasi (t0 : Nat) (M : Nat → Bool) (pc : Nat) : zF := fun K n e h L sk => (@List.rec ab_SV (fun _ => Bool) (false) (fun b r2 _ => (@List.rec ab_SV (fun _ => Bool) (false) (fun a r1 _ => (@List.rec ab_SV (fun _ => Bool) (false) (fun c r _ => (@Option.rec (Nat ⊕ (List Nat ⊕ Unit)) (fun _ => Bool) (false) (fun u_ => (@Sum.rec Nat (List Nat ⊕ Unit) (fun _ => Bool) (fun _ => false) (fun w_ => (@Sum.rec (List Nat) Unit (fun _ => Bool) (fun ks => zni e b (fun id v1 v2 _ _ => zni e a (fun _ lo hi _ _ => (@Bool.rec (fun _ => Bool) (false) ((@Option.rec ab_AH (fun _ => Bool) (false) (fun E => K pc n e (zapp E h) L r) (zwrE (zast1 t0 lo hi id v1 v2 (zone ks)) h ks))) (zall M ks))))) (fun _ => false) (w_))) (u_))) (c))) (r1))) (r2))) (sk))
theorem zasi_ok {t0 : Nat} {M : Nat → Bool} {pc : Nat} : zS1 pc (zasi t0 M pc) (ab_ast t0 false false M) := fun K n e h L sk hk => by
  unfold zasi at hk
  obtain ⟨b, r2, rfl, hk⟩ := zl_l hk
  obtain ⟨a, r1, rfl, hk⟩ := zl_l hk
  obtain ⟨c, r, rfl, hk⟩ := zl_l hk
  obtain ⟨u, rfl, hk⟩ := zl_o hk
  obtain ⟨u, rfl, hk⟩ := zl_s2 hk
  obtain ⟨ks, rfl, hk⟩ := zl_s1 hk
  obtain ⟨id, v1, v2, b1, o1, hy, hk⟩ := zni_ok hk
  obtain ⟨i, lo, hi, b2, o2, hx, hk⟩ := zni_ok hk
  obtain ⟨hM, hk⟩ := zl_b hk
  obtain ⟨E, hE, hk⟩ := zl_o hk
  rw [zall_eq] at hM
  rw [zwrE_eq, show zast1 t0 lo hi id v1 v2 (zone ks) = _ from funext (fun c => zast1_eq), zone_eq] at hE
  rw [zapp_eq] at hk
  refine ⟨_, _, _, _, _, ?_, hk⟩
  simp only [ab_ast, hy, hx, hM, hE]; rfl
def zasl (t0 : Nat) (M : Nat → Bool) (pc : Nat) : zF := fun K n e h L sk => (@List.rec ab_SV (fun _ => Bool) (false) (fun b r2 _ => (@List.rec ab_SV (fun _ => Bool) (false) (fun a r1 _ => (@List.rec ab_SV (fun _ => Bool) (false) (fun c r _ => (@Option.rec (Nat ⊕ (List Nat ⊕ Unit)) (fun _ => Bool) (false) (fun u_ => (@Sum.rec Nat (List Nat ⊕ Unit) (fun _ => Bool) (fun _ => false) (fun w_ => (@Sum.rec (List Nat) Unit (fun _ => Bool) (fun ks => znl e b (fun id v1 v2 _ _ => zni e a (fun _ lo hi _ _ => (@Bool.rec (fun _ => Bool) (false) ((@Option.rec ab_AH (fun _ => Bool) (false) (fun E => K pc n e (zapp E h) L r) (zwrE (zast1 t0 lo hi id v1 v2 (zone ks)) h ks))) (zall M ks))))) (fun _ => false) (w_))) (u_))) (c))) (r1))) (r2))) (sk))
theorem zasl_ok {t0 : Nat} {M : Nat → Bool} {pc : Nat} : zS1 pc (zasl t0 M pc) (ab_ast t0 true false M) := fun K n e h L sk hk => by
  unfold zasl at hk
  obtain ⟨b, r2, rfl, hk⟩ := zl_l hk
  obtain ⟨a, r1, rfl, hk⟩ := zl_l hk
  obtain ⟨c, r, rfl, hk⟩ := zl_l hk
  obtain ⟨u, rfl, hk⟩ := zl_o hk
  obtain ⟨u, rfl, hk⟩ := zl_s2 hk
  obtain ⟨ks, rfl, hk⟩ := zl_s1 hk
  obtain ⟨id, v1, v2, b1, o1, hy, hk⟩ := znl_ok hk
  obtain ⟨i, lo, hi, b2, o2, hx, hk⟩ := zni_ok hk
  obtain ⟨hM, hk⟩ := zl_b hk
  obtain ⟨E, hE, hk⟩ := zl_o hk
  rw [zall_eq] at hM
  rw [zwrE_eq, show zast1 t0 lo hi id v1 v2 (zone ks) = _ from funext (fun c => zast1_eq), zone_eq] at hE
  rw [zapp_eq] at hk
  refine ⟨_, _, _, _, _, ?_, hk⟩
  simp only [ab_ast, hy, hx, hM, hE]; rfl
def zasb (t0 : Nat) (M : Nat → Bool) (pc : Nat) : zF := fun K n e h L sk => (@List.rec ab_SV (fun _ => Bool) (false) (fun b r2 _ => (@List.rec ab_SV (fun _ => Bool) (false) (fun a r1 _ => (@List.rec ab_SV (fun _ => Bool) (false) (fun c r _ => (@Option.rec (Nat ⊕ (List Nat ⊕ Unit)) (fun _ => Bool) (false) (fun u_ => (@Sum.rec Nat (List Nat ⊕ Unit) (fun _ => Bool) (fun _ => false) (fun w_ => (@Sum.rec (List Nat) Unit (fun _ => Bool) (fun ks => zni e b (fun id v1 v2 _ _ => zni e a (fun _ lo hi _ _ => (@Bool.rec (fun _ => Bool) (false) ((@Bool.rec (fun _ => Bool) (false) ((@Bool.rec (fun _ => Bool) (false) ((@Option.rec ab_AH (fun _ => Bool) (false) (fun E => K pc n e (zapp E h) L r) (zwrE (zast1 t0 lo hi id v1 v2 (zone ks)) h ks))) (ab_le v2 (.ofNat 1)))) (ab_le (.ofNat 0) v1))) (zall M ks))))) (fun _ => false) (w_))) (u_))) (c))) (r1))) (r2))) (sk))
theorem zasb_ok {t0 : Nat} {M : Nat → Bool} {pc : Nat} : zS1 pc (zasb t0 M pc) (ab_ast t0 false true M) := fun K n e h L sk hk => by
  unfold zasb at hk
  obtain ⟨b, r2, rfl, hk⟩ := zl_l hk
  obtain ⟨a, r1, rfl, hk⟩ := zl_l hk
  obtain ⟨c, r, rfl, hk⟩ := zl_l hk
  obtain ⟨u, rfl, hk⟩ := zl_o hk
  obtain ⟨u, rfl, hk⟩ := zl_s2 hk
  obtain ⟨ks, rfl, hk⟩ := zl_s1 hk
  obtain ⟨id, v1, v2, b1, o1, hy, hk⟩ := zni_ok hk
  obtain ⟨i, lo, hi, b2, o2, hx, hk⟩ := zni_ok hk
  obtain ⟨hM, hk⟩ := zl_b hk
  obtain ⟨k1, hk⟩ := zl_b hk
  obtain ⟨k2, hk⟩ := zl_b hk
  have k1 : ab_0le v1 = true := k1
  obtain ⟨E, hE, hk⟩ := zl_o hk
  rw [zall_eq] at hM
  rw [zwrE_eq, show zast1 t0 lo hi id v1 v2 (zone ks) = _ from funext (fun c => zast1_eq), zone_eq] at hE
  rw [zapp_eq] at hk
  refine ⟨_, _, _, _, _, ?_, hk⟩
  simp only [ab_ast, hy, hx, hM, hE, k1, k2]; rfl
def zcmpC (c : Jvm.ClassFile.Cond) : zR × zR := match c with
  | .eq => (zreq, zrne)
  | .ne => (zrne, zreq)
  | .lt => (zrlt, zrge)
  | .ge => (zrge, zrlt)
  | .gt => (zrgt, zrle)
  | .le => (zrle, zrgt)
theorem zcmpC_ok {c : Jvm.ClassFile.Cond} : zRs (zcmpC c).1 c ∧ zRs (zcmpC c).2 (ab_not c) := by
  cases c
  · exact ⟨zreq_ok, zrne_ok⟩
  · exact ⟨zrne_ok, zreq_ok⟩
  · exact ⟨zrlt_ok, zrge_ok⟩
  · exact ⟨zrge_ok, zrlt_ok⟩
  · exact ⟨zrgt_ok, zrle_ok⟩
  · exact ⟨zrle_ok, zrgt_ok⟩
/-- calls -/
abbrev zCf : Type := Nat → Nat → ab_En → ab_AH → List ab_SV → (Nat → ab_En → ab_AH → Option ab_SV → Bool) → Bool
def zCr (O : ab_Cf) (zO : zCf) : Prop := ∀ j n e h as k, zO j n e h as k = true → ∃ outs, O j n e h as = some outs ∧ ∀ o ∈ outs, k o.1 o.2.1 o.2.2.1 o.2.2.2 = true
def zrcv (ci : Nat) (h : ab_AH) (as : List ab_SV) : Bool := (@List.rec ab_SV (fun _ => Bool) (false) (fun a _ _ => (@Option.rec (Nat ⊕ (List Nat ⊕ Unit)) (fun _ => Bool) (false) (fun u_ => (@Sum.rec Nat (List Nat ⊕ Unit) (fun _ => Bool) (fun _ => false) (fun w_ => (@Sum.rec (List Nat) Unit (fun _ => Bool) (fun ks_ => (@List.rec Nat (fun _ => Bool) (false) (fun k kr_ _ => (@List.rec Nat (fun _ => Bool) ((@Option.rec ab_AC (fun _ => Bool) (false) (fun c => (@Prod.rec Nat (Nat × ab_AK) (fun _ => Bool) (fun c1 c2 => @Prod.rec Nat ab_AK (fun _ => Bool) (fun _ K5 => (@Sum.rec (List ab_Iv) (List Nat ⊕ (List Int ⊕ (List Nat ⊕ List ab_SV))) (fun _ => Bool) (fun _ => false) (fun K4 => @Sum.rec (List Nat) (List Int ⊕ (List Nat ⊕ List ab_SV)) (fun _ => Bool) (fun _ => false) (fun K3 => @Sum.rec (List Int) (List Nat ⊕ List ab_SV) (fun _ => Bool) (fun _ => false) (fun K2 => @Sum.rec (List Nat) (List ab_SV) (fun _ => Bool) (fun _ => false) (fun _ => Nat.beq c1 ci) K2) K3) K4) (K5))) c2) c)) (zhg h k))) (fun _ _ _ => false) (kr_))) (ks_))) (fun _ => false) (w_))) (u_))) (a))) (as))
theorem zrcv_ok {ci : Nat} {h : ab_AH} {as : List ab_SV} (hk : zrcv ci h as = true) : ab_rcv ci h as = true := by
  unfold zrcv at hk
  obtain ⟨a, r, rfl, hk⟩ := zl_l hk
  obtain ⟨u, rfl, hk⟩ := zl_o hk
  obtain ⟨u, rfl, hk⟩ := zl_s2 hk
  obtain ⟨ks, rfl, hk⟩ := zl_s1 hk
  obtain ⟨k, kr, rfl, hk⟩ := zl_l hk
  obtain ⟨rfl, hk⟩ := zl_n hk
  obtain ⟨c, hc, hk⟩ := zl_o hk
  obtain ⟨c1, N, K5⟩ := c
  obtain ⟨K4, rfl, hk⟩ := zl_s2 hk
  obtain ⟨K3, rfl, hk⟩ := zl_s2 hk
  obtain ⟨K2, rfl, hk⟩ := zl_s2 hk
  obtain ⟨svs, rfl, hk⟩ := zl_s2 hk
  rw [zhg_eq] at hc
  simp only [ab_rcv, hc]; exact hk
/-- k values off the stack, the last one first -/
def zpopn (k : Nat) (sk : List ab_SV) (acc : List ab_SV) (K : List ab_SV → List ab_SV → Bool) : Bool := @Nat.rec (fun _ => List ab_SV → List ab_SV → Bool) (fun sk acc => K acc sk) (fun _ ih sk acc => @List.rec ab_SV (fun _ => Bool) false (fun a r _ => ih r (a :: acc)) sk) k sk acc
theorem zpopn_ok {K : List ab_SV → List ab_SV → Bool} : ∀ {k : Nat} {sk acc : List ab_SV}, zpopn k sk acc K = true → k ≤ sk.length ∧ K ((sk.take k).reverse ++ acc) (sk.drop k) = true
  | 0, sk, acc, h => ⟨Nat.zero_le _, h⟩
  | k + 1, sk, acc, h => by
    obtain ⟨a, r, rfl, h⟩ := zl_l (f := fun a r => zpopn k r (a :: acc) K) h
    obtain ⟨h1, h2⟩ := zpopn_ok (k := k) (sk := r) (acc := a :: acc) h
    refine ⟨by rw [List.length_cons]; omega, ?_⟩
    rw [List.take_succ_cons, List.drop_succ_cons, List.reverse_cons, List.append_assoc]
    exact h2
def zcall (na ci : Nat) (stat : Bool) (zO : Nat → ab_En → ab_AH → List ab_SV → (Nat → ab_En → ab_AH → Option ab_SV → Bool) → Bool) (pc : Nat) : zF := fun K n e h L sk => zpopn (@Bool.rec (fun _ => Nat) (Nat.succ na) na stat) sk [] (fun as r => @Bool.rec (fun _ => Bool) false (@Bool.rec (fun _ => Bool) false (zO n e h as (fun n' e' h' o => K pc n' e' h' L (@Option.rec ab_SV (fun _ => List ab_SV) r (fun v => v :: r) o))) (@Bool.rec (fun _ => Bool) (zrcv ci h as) true stat)) (zshort r 4))
theorem zcall_ok {na ci : Nat} {stat : Bool} {j : Nat} {O : ab_Cf} {zO : zCf} (hO : zCr O zO) {pc : Nat} : zSp (zcall na ci stat (zO j) pc) (fun st => ab_n pc (ab_call na ci stat (O j) st)) := fun K n e h L sk hk => by
  unfold zcall at hk
  obtain ⟨h1, hk⟩ := zpopn_ok hk
  obtain ⟨h2, hk⟩ := zl_b hk
  obtain ⟨h3, hk⟩ := zl_b hk
  rw [List.append_nil] at h3 hk
  obtain ⟨outs, ho, hk⟩ := hO _ _ _ _ _ _ hk
  rw [zshort_eq] at h2
  have ek : (@Bool.rec (fun _ => Nat) (Nat.succ na) na stat) = (bif stat then na else na + 1) := by cases stat <;> rfl
  rw [ek] at h1 h2 h3 ho hk
  have h4 : (stat || ab_rcv ci h (sk.take (bif stat then na else na + 1)).reverse) = true := by
    cases stat with
    | true => rfl
    | false => exact zrcv_ok h3
  refine ⟨(outs.map (fun o => ((o.1, o.2.1, o.2.2.1, L, o.2.2.2.toList ++ sk.drop (bif stat then na else na + 1)) : ab_St))).map (fun s => (pc, s)), ?_, fun w hw => ?_⟩
  · show ab_n pc (ab_call na ci stat (O j) (n, e, h, L, sk)) = _
    simp only [ab_call, h2, h4, Nat.ble_eq_true_of_le h1, ho]; rfl
  · obtain ⟨s, hs, rfl⟩ := List.mem_map.mp hw
    obtain ⟨o, hoo, rfl⟩ := List.mem_map.mp hs
    have := hk o hoo
    obtain ⟨n', e', h', ov⟩ := o
    cases ov with
    | none => exact this
    | some v => exact this
def zjdk (k : Nat) (M : Nat → Bool) (pc : Nat) : zF := match k with
  | 1 => zbR zBmax pc
  | 2 => zbR zBmin pc
  | k => zge1 pc (ab_jdk k M)
theorem zjdk_ok {k : Nat} {M : Nat → Bool} {pc : Nat} : zS1 pc (zjdk k M pc) (ab_jdk k M) := by
  unfold zjdk
  split
  · exact zbR_ok zBmax_ok
  · exact zbR_ok zBmin_ok
  · exact zge1_ok
def zinv (T : ab_Tb) (Mt : ab_Mt) (zO : zCf) (M : Nat → Bool) (virt : Bool) (ix pc : Nat) : Option zF := match T.2.2.2.2 ix with
  | some (.inl k) => bif virt then none else some (zjdk k M (pc + 3))
  | some (.inr j) => bif virt == (Mt j).2.2 then none else some (zcall (Mt j).1 (Mt j).2.1 (Mt j).2.2 (zO j) (pc + 3))
  | none => none
theorem zinv_ok {T : ab_Tb} {Mt : ab_Mt} {O : ab_Cf} {zO : zCf} (hO : zCr O zO) {M : Nat → Bool} {virt : Bool} {ix pc : Nat} {g : zF} (h : zinv T Mt zO M virt ix pc = some g) : zSp g (ab_inv T Mt O M virt ix pc) := by
  unfold zinv at h
  intro K n e hp L sk hk
  simp only [ab_inv]
  split at h
  · rename_i kk hT
    simp only [hT]
    cases virt with
    | true => cases h
    | false =>
      cases h
      exact zjdk_ok.sp K n e hp L sk hk
  · rename_i j hT
    simp only [hT]
    cases hv : (virt == (Mt j).2.2) with
    | true => rw [hv] at h; cases h
    | false =>
      rw [hv] at h
      cases h
      exact zcall_ok hO K n e hp L sk hk
  · cases h
abbrev zDc : Type := ab_Tb → ab_Mt → zCf → Nat → (Nat → Bool) → Bool → Nat → Nat → Option zF
def zia (pc : Nat) : zF := fun K n e h L sk => zor (zald 0 false (pc + 1) K n e h L sk) (zgen (fun st => match ab_ald 0 false st with
    | some l => some (l.map (fun s => (pc + 1, s)))
    | none => ab_n (pc + 1) (ab_aldS [.ofNat 1, .ofNat 5, .ofNat 25, .ofNat 125] st)) K n e h L sk)
def zgs (pc : Nat) : zF := fun K n e h L sk => K pc n e h L (some (.inr (.inr ())) :: sk)
theorem zgs_ok {pc : Nat} : zSp (zgs pc) (fun st => some [(pc, (st.1, st.2.1, st.2.2.1, st.2.2.2.1, some (.inr (.inr ())) :: st.2.2.2.2))]) := fun K n e h L sk hk => ⟨_, rfl, fun w hw => by rw [List.mem_singleton.mp hw]; exact hk⟩
/-- the step of a row of the code -/
def zdc (i : Instr) : zDc := @Instr.rec (fun _ => zDc)
  (fun T Mt zO nL M ini len pc => bif Nat.beq len 1 then some (zaald (pc + 1)) else none)
  (fun _ _ _ _ _ _ _ _ => none)
  (fun _ _ _ _ _ _ _ _ => none)
  (fun k T Mt zO nL M ini len pc => bif Nat.beq len 2 then some (zld2 k (pc + 2)) else none)
  (fun k T Mt zO nL M ini len pc => bif Nat.beq len 1 then some (zld2 k.val (pc + 1)) else none)
  (fun _ _ _ _ _ _ _ _ _ => none)
  (fun _ _ _ _ _ _ _ _ => none)
  (fun _ _ _ _ _ _ _ _ => none)
  (fun k T Mt zO nL M ini len pc => bif Nat.beq len 2 then some (zst2 k nL (pc + 2)) else none)
  (fun k T Mt zO nL M ini len pc => bif Nat.beq len 1 then some (zst2 k.val nL (pc + 1)) else none)
  (fun _ _ _ _ _ _ _ _ => none)
  (fun T Mt zO nL M ini len pc => bif Nat.beq len 1 then some (zald 2 false (pc + 1)) else none)
  (fun T Mt zO nL M ini len pc => bif Nat.beq len 1 then some (zasb 2 M (pc + 1)) else none)
  (fun n T Mt zO nL M ini len pc => bif (ab_le (.negSucc 127) n && ab_le n (.ofNat 127)) && Nat.beq len 2 then some (zkI n (pc + 2)) else none)
  (fun _ _ _ _ _ _ _ _ => none)
  (fun _ _ _ _ _ _ _ _ => none)
  (fun _ _ _ _ _ _ _ _ _ => none)
  (fun _ _ _ _ _ _ _ _ => none)
  (fun _ _ _ _ _ _ _ _ => none)
  (fun _ _ _ _ _ _ _ _ => none)
  (fun _ _ _ _ _ _ _ _ => none)
  (fun _ _ _ _ _ _ _ _ => none)
  (fun _ _ _ _ _ _ _ _ => none)
  (fun _ _ _ _ _ _ _ _ _ => none)
  (fun _ _ _ _ _ _ _ _ _ => none)
  (fun _ _ _ _ _ _ _ _ => none)
  (fun _ _ _ _ _ _ _ _ _ => none)
  (fun _ _ _ _ _ _ _ _ _ => none)
  (fun _ _ _ _ _ _ _ _ => none)
  (fun _ _ _ _ _ _ _ _ => none)
  (fun _ _ _ _ _ _ _ _ => none)
  (fun _ _ _ _ _ _ _ _ => none)
  (fun _ _ _ _ _ _ _ _ _ => none)
  (fun _ _ _ _ _ _ _ _ _ => none)
  (fun _ _ _ _ _ _ _ _ => none)
  (fun T Mt zO nL M ini len pc => bif Nat.beq len 1 then some (zdup (pc + 1)) else none)
  (fun _ _ _ _ _ _ _ _ => none)
  (fun _ _ _ _ _ _ _ _ => none)
  (fun T Mt zO nL M ini len pc => bif Nat.beq len 1 then some (zge1 (pc + 1) ab_dup2) else none)
  (fun _ _ _ _ _ _ _ _ => none)
  (fun _ _ _ _ _ _ _ _ => none)
  (fun _ _ _ _ _ _ _ _ => none)
  (fun _ _ _ _ _ _ _ _ => none)
  (fun _ _ _ _ _ _ _ _ => none)
  (fun _ _ _ _ _ _ _ _ => none)
  (fun _ _ _ _ _ _ _ _ => none)
  (fun _ _ _ _ _ _ _ _ => none)
  (fun _ _ _ _ _ _ _ _ _ => none)
  (fun _ _ _ _ _ _ _ _ _ => none)
  (fun _ _ _ _ _ _ _ _ => none)
  (fun _ _ _ _ _ _ _ _ _ => none)
  (fun _ _ _ _ _ _ _ _ _ => none)
  (fun _ _ _ _ _ _ _ _ => none)
  (fun _ _ _ _ _ _ _ _ => none)
  (fun _ _ _ _ _ _ _ _ => none)
  (fun _ _ _ _ _ _ _ _ => none)
  (fun _ _ _ _ _ _ _ _ _ => none)
  (fun _ _ _ _ _ _ _ _ _ => none)
  (fun _ _ _ _ _ _ _ _ => none)
  (fun ix T Mt zO nL M ini len pc => bif Nat.beq len 3 then (match T.1 ix with     | some q => some (zgf q.1 q.2.1 (pc + 3))     | none => none) else none)
  (fun ix T Mt zO nL M ini len pc => bif Nat.beq len 3 then (bif T.2.2.2.1 ix then some (zgs (pc + 3)) else none) else none)
  (fun off T Mt zO nL M ini len pc => bif Nat.beq len 3 then (match ab_tgt pc off with     | some t => some (zgo t)     | none => none) else none)
  (fun _ _ _ _ _ _ _ _ _ => none)
  (fun _ _ _ _ _ _ _ _ => none)
  (fun _ _ _ _ _ _ _ _ => none)
  (fun _ _ _ _ _ _ _ _ => none)
  (fun _ _ _ _ _ _ _ _ => none)
  (fun T Mt zO nL M ini len pc => bif Nat.beq len 1 then some (zge1 (pc + 1) ab_i2l) else none)
  (fun _ _ _ _ _ _ _ _ => none)
  (fun T Mt zO nL M ini len pc => bif Nat.beq len 1 then some (zbi (zBadd) (pc + 1)) else none)
  (fun T Mt zO nL M ini len pc => bif Nat.beq len 1 then some (zia pc) else none)
  (fun T Mt zO nL M ini len pc => bif Nat.beq len 1 then some (zbi (zBof ab_andQ) (pc + 1)) else none)
  (fun T Mt zO nL M ini len pc => bif Nat.beq len 1 then some (zasi 0 M (pc + 1)) else none)
  (fun n T Mt zO nL M ini len pc => bif ab_i32 n n && Nat.beq len 1 then some (zkI n (pc + 1)) else none)
  (fun T Mt zO nL M ini len pc => bif Nat.beq len 1 then some (zbi (zBof ab_divQ) (pc + 1)) else none)
  (fun _ _ _ _ _ _ _ _ _ _ => none)
  (fun c off T Mt zO nL M ini len pc => bif Nat.beq len 3 then (match ab_tgt pc off with     | some t => some (zic (zcmpC c).1 (zcmpC c).2 t (pc + 3))     | none => none) else none)
  (fun c off T Mt zO nL M ini len pc => bif Nat.beq len 3 then (match ab_tgt pc off with     | some t => some (zif (zcmpC c).1 (zcmpC c).2 t (pc + 3))     | none => none) else none)
  (fun _ _ _ _ _ _ _ _ _ => none)
  (fun _ _ _ _ _ _ _ _ _ => none)
  (fun k z T Mt zO nL M ini len pc => bif Nat.beq len 3 then some (zinc k z nL (pc + 3)) else none)
  (fun k T Mt zO nL M ini len pc => bif Nat.beq len 2 then some (zld0 k (pc + 2)) else none)
  (fun k T Mt zO nL M ini len pc => bif Nat.beq len 1 then some (zld0 k.val (pc + 1)) else none)
  (fun T Mt zO nL M ini len pc => bif Nat.beq len 1 then some (zbi (zBmul) (pc + 1)) else none)
  (fun T Mt zO nL M ini len pc => bif Nat.beq len 1 then some (zge1 (pc + 1) ab_ineg) else none)
  (fun _ _ _ _ _ _ _ _ _ => none)
  (fun _ _ _ _ _ _ _ _ _ => none)
  (fun _ _ _ _ _ _ _ _ _ _ => none)
  (fun _ _ _ _ _ _ _ _ _ => none)
  (fun ix T Mt zO nL M ini len pc => bif Nat.beq len 3 then zinv T Mt zO M false ix pc else none)
  (fun ix T Mt zO nL M ini len pc => bif Nat.beq len 3 then zinv T Mt zO M true ix pc else none)
  (fun T Mt zO nL M ini len pc => bif Nat.beq len 1 then some (zbi (zBof ab_orQ) (pc + 1)) else none)
  (fun T Mt zO nL M ini len pc => bif Nat.beq len 1 then some (zbi (zBof ab_remQ) (pc + 1)) else none)
  (fun _ _ _ _ _ _ _ _ => none)
  (fun T Mt zO nL M ini len pc => bif Nat.beq len 1 then some (zbi (zBof ab_shlQ) (pc + 1)) else none)
  (fun T Mt zO nL M ini len pc => bif Nat.beq len 1 then some (zbi (zBof ab_shrQ) (pc + 1)) else none)
  (fun k T Mt zO nL M ini len pc => bif Nat.beq len 2 then some (zst0 k nL (pc + 2)) else none)
  (fun k T Mt zO nL M ini len pc => bif Nat.beq len 1 then some (zst0 k.val nL (pc + 1)) else none)
  (fun T Mt zO nL M ini len pc => bif Nat.beq len 1 then some (zbi (zBsub) (pc + 1)) else none)
  (fun _ _ _ _ _ _ _ _ => none)
  (fun _ _ _ _ _ _ _ _ => none)
  (fun _ _ _ _ _ _ _ _ _ => none)
  (fun _ _ _ _ _ _ _ _ _ => none)
  (fun _ _ _ _ _ _ _ _ => none)
  (fun _ _ _ _ _ _ _ _ => none)
  (fun T Mt zO nL M ini len pc => bif Nat.beq len 1 then some (zge1 (pc + 1) ab_l2i) else none)
  (fun T Mt zO nL M ini len pc => bif Nat.beq len 1 then some (zbl (zBof ab_laddQ) (pc + 1)) else none)
  (fun T Mt zO nL M ini len pc => bif Nat.beq len 1 then some (zald 1 true (pc + 1)) else none)
  (fun _ _ _ _ _ _ _ _ => none)
  (fun T Mt zO nL M ini len pc => bif Nat.beq len 1 then some (zasl 1 M (pc + 1)) else none)
  (fun T Mt zO nL M ini len pc => bif Nat.beq len 1 then some (zgen (fun st => ab_n (pc + 1) (ab_lcmp st))) else none)
  (fun n T Mt zO nL M ini len pc => bif Nat.beq len 1 then some (zkL (.ofNat n.val) (pc + 1)) else none)
  (fun ix T Mt zO nL M ini len pc => bif Nat.beq len 2 then (match T.2.1 ix with     | some v => some (zkI v (pc + 2))     | none => none) else none)
  (fun ix T Mt zO nL M ini len pc => bif Nat.beq len 3 then (match T.2.1 ix with     | some v => some (zkI v (pc + 3))     | none => none) else none)
  (fun ix T Mt zO nL M ini len pc => bif Nat.beq len 3 then (match T.2.2.1 ix with     | some v => some (zkL v (pc + 3))     | none => none) else none)
  (fun T Mt zO nL M ini len pc => bif Nat.beq len 1 then some (zbl (zBof ab_ldivQ) (pc + 1)) else none)
  (fun k T Mt zO nL M ini len pc => bif Nat.beq len 2 then some (zld1 k (pc + 2)) else none)
  (fun k T Mt zO nL M ini len pc => bif Nat.beq len 1 then some (zld1 k.val (pc + 1)) else none)
  (fun T Mt zO nL M ini len pc => bif Nat.beq len 1 then some (zbl (zBof ab_lmulQ) (pc + 1)) else none)
  (fun _ _ _ _ _ _ _ _ => none)
  (fun d os T Mt zO nL M ini len pc => bif true then some (zgen (ab_lsw d os.toList pc)) else none)
  (fun _ _ _ _ _ _ _ _ => none)
  (fun T Mt zO nL M ini len pc => bif Nat.beq len 1 then some (zbl (zBof ab_ldivQ) (pc + 1)) else none)
  (fun _ _ _ _ _ _ _ _ => none)
  (fun _ _ _ _ _ _ _ _ => none)
  (fun _ _ _ _ _ _ _ _ => none)
  (fun k T Mt zO nL M ini len pc => bif Nat.beq len 2 then some (zstL k nL (pc + 2)) else none)
  (fun k T Mt zO nL M ini len pc => bif Nat.beq len 1 then some (zstL k.val nL (pc + 1)) else none)
  (fun T Mt zO nL M ini len pc => bif Nat.beq len 1 then some (zbl (zBof ab_lsubQ) (pc + 1)) else none)
  (fun _ _ _ _ _ _ _ _ => none)
  (fun _ _ _ _ _ _ _ _ => none)
  (fun _ _ _ _ _ _ _ _ => none)
  (fun _ _ _ _ _ _ _ _ => none)
  (fun _ _ _ _ _ _ _ _ _ _ => none)
  (fun _ _ _ _ _ _ _ _ _ => none)
  (fun _ _ _ _ _ _ _ _ _ => none)
  (fun _ _ _ _ _ _ _ _ => none)
  (fun T Mt zO nL M ini len pc => bif Nat.beq len 1 then some (zpop (pc + 1)) else none)
  (fun _ _ _ _ _ _ _ _ => none)
  (fun ix T Mt zO nL M ini len pc => bif Nat.beq len 3 then (match T.1 ix with     | some q => bif q.2.2.2 && !ini then none else (match zty q.2.2.1 with       | some tg => some (zpf q.1 q.2.1 tg M (pc + 3))       | none => none)     | none => none) else none)
  (fun _ _ _ _ _ _ _ _ _ => none)
  (fun _ _ _ _ _ _ _ _ _ => none)
  (fun _ _ _ _ _ _ _ _ => none)
  (fun _ _ _ _ _ _ _ _ => none)
  (fun _ _ _ _ _ _ _ _ => none)
  (fun n T Mt zO nL M ini len pc => bif (ab_le (.negSucc 32767) n && ab_le n (.ofNat 32767)) && Nat.beq len 3 then some (zkI n (pc + 3)) else none)
  (fun _ _ _ _ _ _ _ _ => none)
  (fun d lo hi os T Mt zO nL M ini len pc => bif true then some (zgen (ab_tsw d lo hi os.toList pc)) else none)
  i
theorem zSp_of {g : zF} {o o' : ab_St → Option (List (Nat × ab_St))} (h : ∀ st, o st = o' st) (k : zSp g o') : zSp g o := by rw [funext h]; exact k
theorem zdc_bif {c : Bool} {o : Option zF} {g : zF} (h : (bif c then o else none) = some g) : c = true ∧ o = some g := by
  cases c with
  | true => exact ⟨rfl, h⟩
  | false => cases h
theorem zdc_if {c : Bool} {g : zF} {o : ab_St → Option (List (Nat × ab_St))} (hc : c = true) (h : zSp g o) : zSp g (fun st => ab_if c (o st)) := by subst hc; exact h
theorem zdc_ok {T : ab_Tb} {Mt : ab_Mt} {O : ab_Cf} {zO : zCf} (hO : zCr O zO) {nL : Nat} {M : Nat → Bool} {ini : Bool} {i : Instr} {len pc : Nat} {g : zF} (h : zdc i T Mt zO nL M ini len pc = some g) : zSp g (ab_step T Mt O nL M ini i len pc) := by
  cases i
  case iconst n =>
    obtain ⟨hc, h⟩ := zdc_bif h
    cases h
    refine zdc_if hc ?_
    exact zkI_ok
  case bipush n =>
    obtain ⟨hc, h⟩ := zdc_bif h
    cases h
    refine zdc_if hc ?_
    exact zkI_ok
  case sipush n =>
    obtain ⟨hc, h⟩ := zdc_bif h
    cases h
    refine zdc_if hc ?_
    exact zkI_ok
  case lconst n =>
    obtain ⟨hc, h⟩ := zdc_bif h
    cases h
    refine zdc_if hc ?_
    exact zkL_ok
  case ldc ix =>
    obtain ⟨hc, h⟩ := zdc_bif h
    refine zdc_if hc (o := fun st => match T.2.1 ix with
    | some v => some [(pc + 2, ab_kI v st)]
    | none => none) ?_
    split at h
    · rename_i v hv
      cases h
      exact zSp_of (o' := fun st => some [(pc + 2, ab_kI v st)]) (fun st => by simp only [hv]) zkI_ok
    · cases h
  case ldc_w ix =>
    obtain ⟨hc, h⟩ := zdc_bif h
    refine zdc_if hc (o := fun st => match T.2.1 ix with
    | some v => some [(pc + 3, ab_kI v st)]
    | none => none) ?_
    split at h
    · rename_i v hv
      cases h
      exact zSp_of (o' := fun st => some [(pc + 3, ab_kI v st)]) (fun st => by simp only [hv]) zkI_ok
    · cases h
  case ldc2_w ix =>
    obtain ⟨hc, h⟩ := zdc_bif h
    refine zdc_if hc (o := fun st => match T.2.2.1 ix with
    | some v => some [(pc + 3, ab_kL v st)]
    | none => none) ?_
    split at h
    · rename_i v hv
      cases h
      exact zSp_of (o' := fun st => some [(pc + 3, ab_kL v st)]) (fun st => by simp only [hv]) zkL_ok
    · cases h
  case iload_n k =>
    obtain ⟨hc, h⟩ := zdc_bif h
    cases h
    refine zdc_if hc ?_
    exact zld0_ok.sp
  case iload k =>
    obtain ⟨hc, h⟩ := zdc_bif h
    cases h
    refine zdc_if hc ?_
    exact zld0_ok.sp
  case lload_n k =>
    obtain ⟨hc, h⟩ := zdc_bif h
    cases h
    refine zdc_if hc ?_
    exact zld1_ok.sp
  case lload k =>
    obtain ⟨hc, h⟩ := zdc_bif h
    cases h
    refine zdc_if hc ?_
    exact zld1_ok.sp
  case aload_n k =>
    obtain ⟨hc, h⟩ := zdc_bif h
    cases h
    refine zdc_if hc ?_
    exact zld2_ok.sp
  case aload k =>
    obtain ⟨hc, h⟩ := zdc_bif h
    cases h
    refine zdc_if hc ?_
    exact zld2_ok.sp
  case istore_n k =>
    obtain ⟨hc, h⟩ := zdc_bif h
    cases h
    refine zdc_if hc ?_
    exact zst0_ok.sp
  case istore k =>
    obtain ⟨hc, h⟩ := zdc_bif h
    cases h
    refine zdc_if hc ?_
    exact zst0_ok.sp
  case astore_n k =>
    obtain ⟨hc, h⟩ := zdc_bif h
    cases h
    refine zdc_if hc ?_
    exact zst2_ok.sp
  case astore k =>
    obtain ⟨hc, h⟩ := zdc_bif h
    cases h
    refine zdc_if hc ?_
    exact zst2_ok.sp
  case lstore_n k =>
    obtain ⟨hc, h⟩ := zdc_bif h
    cases h
    refine zdc_if hc ?_
    exact zstL_ok.sp
  case lstore k =>
    obtain ⟨hc, h⟩ := zdc_bif h
    cases h
    refine zdc_if hc ?_
    exact zstL_ok.sp
  case iinc k z =>
    obtain ⟨hc, h⟩ := zdc_bif h
    cases h
    refine zdc_if hc ?_
    exact zinc_ok.sp
  case iadd =>
    obtain ⟨hc, h⟩ := zdc_bif h
    cases h
    refine zdc_if hc ?_
    exact (zbi_ok zBadd_ok).sp
  case isub =>
    obtain ⟨hc, h⟩ := zdc_bif h
    cases h
    refine zdc_if hc ?_
    exact (zbi_ok zBsub_ok).sp
  case imul =>
    obtain ⟨hc, h⟩ := zdc_bif h
    cases h
    refine zdc_if hc ?_
    exact (zbi_ok zBmul_ok).sp
  case idiv =>
    obtain ⟨hc, h⟩ := zdc_bif h
    cases h
    refine zdc_if hc ?_
    exact (zbi_ok zBof_ok).sp
  case irem =>
    obtain ⟨hc, h⟩ := zdc_bif h
    cases h
    refine zdc_if hc ?_
    exact (zbi_ok zBof_ok).sp
  case iand =>
    obtain ⟨hc, h⟩ := zdc_bif h
    cases h
    refine zdc_if hc ?_
    exact (zbi_ok zBof_ok).sp
  case ior =>
    obtain ⟨hc, h⟩ := zdc_bif h
    cases h
    refine zdc_if hc ?_
    exact (zbi_ok zBof_ok).sp
  case ishl =>
    obtain ⟨hc, h⟩ := zdc_bif h
    cases h
    refine zdc_if hc ?_
    exact (zbi_ok zBof_ok).sp
  case ishr =>
    obtain ⟨hc, h⟩ := zdc_bif h
    cases h
    refine zdc_if hc ?_
    exact (zbi_ok zBof_ok).sp
  case ladd =>
    obtain ⟨hc, h⟩ := zdc_bif h
    cases h
    refine zdc_if hc ?_
    exact (zbl_ok zBof_ok).sp
  case lsub =>
    obtain ⟨hc, h⟩ := zdc_bif h
    cases h
    refine zdc_if hc ?_
    exact (zbl_ok zBof_ok).sp
  case lmul =>
    obtain ⟨hc, h⟩ := zdc_bif h
    cases h
    refine zdc_if hc ?_
    exact (zbl_ok zBof_ok).sp
  case ldiv =>
    obtain ⟨hc, h⟩ := zdc_bif h
    cases h
    refine zdc_if hc ?_
    exact (zbl_ok zBof_ok).sp
  case lrem =>
    obtain ⟨hc, h⟩ := zdc_bif h
    cases h
    refine zdc_if hc ?_
    exact (zbl_ok zBof_ok).sp
  case dup =>
    obtain ⟨hc, h⟩ := zdc_bif h
    cases h
    refine zdc_if hc ?_
    exact zdup_ok.sp
  case pop =>
    obtain ⟨hc, h⟩ := zdc_bif h
    cases h
    refine zdc_if hc ?_
    exact zpop_ok.sp
  case ineg =>
    obtain ⟨hc, h⟩ := zdc_bif h
    cases h
    refine zdc_if hc ?_
    exact zge1_ok.sp
  case i2l =>
    obtain ⟨hc, h⟩ := zdc_bif h
    cases h
    refine zdc_if hc ?_
    exact zge1_ok.sp
  case l2i =>
    obtain ⟨hc, h⟩ := zdc_bif h
    cases h
    refine zdc_if hc ?_
    exact zge1_ok.sp
  case dup2 =>
    obtain ⟨hc, h⟩ := zdc_bif h
    cases h
    refine zdc_if hc ?_
    exact zge1_ok.sp
  case goto off =>
    obtain ⟨hc, h⟩ := zdc_bif h
    refine zdc_if hc (o := fun st => match ab_tgt pc off with
    | some t => some [(t, st)]
    | none => none) ?_
    split at h
    · rename_i v hv
      cases h
      exact zSp_of (o' := fun st => some [(v, st)]) (fun st => by simp only [hv]) zgo_ok
    · cases h
  case ifCond c off =>
    obtain ⟨hc, h⟩ := zdc_bif h
    refine zdc_if hc (o := ab_ifc c off pc) ?_
    split at h
    · rename_i v hv
      cases h
      exact zif_ok zcmpC_ok.1 zcmpC_ok.2 hv
    · cases h
  case if_icmp c off =>
    obtain ⟨hc, h⟩ := zdc_bif h
    refine zdc_if hc (o := ab_icmp c off pc) ?_
    split at h
    · rename_i v hv
      cases h
      exact zic_ok zcmpC_ok.1 zcmpC_ok.2 hv
    · cases h
  case getfield ix =>
    obtain ⟨hc, h⟩ := zdc_bif h
    refine zdc_if hc (o := fun st => match T.1 ix with
    | some q => ab_1 (pc + 3) (ab_gf q.1 q.2.1 st)
    | none => none) ?_
    split at h
    · rename_i q hq
      cases h
      exact zSp_of (o' := fun st => ab_1 (pc + 3) (ab_gf q.1 q.2.1 st)) (fun st => by simp only [hq]) zgf_ok.sp
    · cases h
  case putfield ix =>
    obtain ⟨hc, h⟩ := zdc_bif h
    refine zdc_if hc (o := fun st => match T.1 ix with
    | some q => bif q.2.2.2 && !ini then none else ab_1 (pc + 3) (ab_pf q.1 q.2.1 q.2.2.1 M st)
    | none => none) ?_
    split at h
    · rename_i q hq
      cases hf : (q.2.2.2 && !ini) with
      | true => rw [hf] at h; cases h
      | false =>
        rw [hf] at h
        simp only [cond_false] at h
        split at h
        · rename_i tg htg
          cases h
          exact zSp_of (o' := fun st => ab_1 (pc + 3) (ab_pf q.1 q.2.1 q.2.2.1 M st)) (fun st => by simp only [hq, hf, cond_false]) (zpf_ok htg).sp
        · cases h
    · cases h
  case baload =>
    obtain ⟨hc, h⟩ := zdc_bif h
    cases h
    refine zdc_if hc ?_
    exact zald_ok
  case laload =>
    obtain ⟨hc, h⟩ := zdc_bif h
    cases h
    refine zdc_if hc ?_
    exact zald_ok
  case aaload =>
    obtain ⟨hc, h⟩ := zdc_bif h
    cases h
    refine zdc_if hc ?_
    exact zaald_ok.sp
  case iastore =>
    obtain ⟨hc, h⟩ := zdc_bif h
    cases h
    refine zdc_if hc ?_
    exact zasi_ok.sp
  case lastore =>
    obtain ⟨hc, h⟩ := zdc_bif h
    cases h
    refine zdc_if hc ?_
    exact zasl_ok.sp
  case bastore =>
    obtain ⟨hc, h⟩ := zdc_bif h
    cases h
    refine zdc_if hc ?_
    exact zasb_ok.sp
  case invokevirtual ix =>
    obtain ⟨hc, h⟩ := zdc_bif h
    exact zdc_if hc (zinv_ok hO h)
  case invokestatic ix =>
    obtain ⟨hc, h⟩ := zdc_bif h
    exact zdc_if hc (zinv_ok hO h)
  case iaload =>
    obtain ⟨hc, h⟩ := zdc_bif h
    cases h
    refine zdc_if hc (o := fun st => match ab_ald 0 false st with
    | some l => some (l.map (fun s => (pc + 1, s)))
    | none => ab_n (pc + 1) (ab_aldS [.ofNat 1, .ofNat 5, .ofNat 25, .ofNat 125] st)) ?_
    intro K n e h L sk hk
    have hk : zor _ _ = true := hk
    rw [zor_eq, Bool.or_eq_true] at hk
    rcases hk with hk | hk
    · obtain ⟨sl, h1, h2⟩ := zald_ok K n e h L sk hk
      have h1' : ab_n (pc + 1) (ab_ald 0 false (n, e, h, L, sk)) = some sl := h1
      obtain ⟨s, h3, h4⟩ := ab_n_eq h1'
      refine ⟨sl, ?_, h2⟩
      simp only [h3, h4]
    · exact zgen_ok K n e h L sk hk
  case lcmp =>
    obtain ⟨hc, h⟩ := zdc_bif h
    cases h
    exact zdc_if hc zgen_ok
  case tableswitch d lo hi os =>
    have h : some (zgen (ab_tsw d lo hi os.toList pc)) = some g := h
    cases h
    exact zgen_ok
  case lookupswitch d os =>
    have h : some (zgen (ab_lsw d os.toList pc)) = some g := h
    cases h
    exact zgen_ok
  case getstatic ix =>
    obtain ⟨hc, h⟩ := zdc_bif h
    obtain ⟨hc2, h⟩ := zdc_bif h
    cases h
    refine zdc_if hc (o := fun st => bif T.2.2.2.1 ix then some [(pc + 3, (st.1, st.2.1, st.2.2.1, st.2.2.2.1, some (.inr (.inr ())) :: st.2.2.2.2))] else none) ?_
    exact zSp_of (fun st => by simp only [hc2, cond_true]) zgs_ok
  all_goals cases h
end
