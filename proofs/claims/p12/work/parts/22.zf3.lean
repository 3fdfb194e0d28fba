noncomputable section
theorem zl_lt {α : Type} {l : List α} {b : Bool} {f : α → List α → Bool} (h : @List.rec α (fun _ => Bool) b (fun a r _ => f a r) l = true) : (l = [] ∧ b = true) ∨ ∃ a r, l = a :: r ∧ f a r = true := by
  cases l with
  | nil => exact Or.inl ⟨rfl, h⟩
  | cons a r => exact Or.inr ⟨a, r, rfl, h⟩
theorem zl_od {α : Type} {o : Option α} {b : Bool} {f : α → Bool} (h : @Option.rec α (fun _ => Bool) b f o = true) : (o = none ∧ b = true) ∨ ∃ x, o = some x ∧ f x = true := by
  cases o with
  | none => exact Or.inl ⟨rfl, h⟩
  | some x => exact Or.inr ⟨x, rfl, h⟩
abbrev zTVi : Type := (Bool × Int × Int) ⊕ (List Nat ⊕ Unit)
def zwi (a b lo hi : Int) : Bool := @Bool.rec (fun _ => Bool) false (ab_le hi b) (ab_le a lo)
theorem zwi_eq {a b lo hi : Int} : zwi a b lo hi = (ab_le a lo && ab_le hi b) := zand_eq
def zleV (e : ab_En) (v : ab_SV) (t : ab_TV) : Bool := @Option.rec zTVi (fun _ => Bool) true (fun u => @Sum.rec (Bool × Int × Int) (List Nat ⊕ Unit) (fun _ => Bool) (fun q => @Prod.rec Bool (Int × Int) (fun _ => Bool) (fun lg r => @Prod.rec Int Int (fun _ => Bool) (fun a b => @Bool.rec (fun _ => Bool) (zni e v (fun _ lo hi _ _ => zwi a b lo hi)) (znl e v (fun _ lo hi _ _ => zwi a b lo hi)) lg) r) q) (fun x => @Sum.rec (List Nat) Unit (fun _ => Bool) (fun ks => (@Option.rec (Nat ⊕ (List Nat ⊕ Unit)) (fun _ => Bool) (false) (fun u_ => (@Sum.rec Nat (List Nat ⊕ Unit) (fun _ => Bool) (fun _ => false) (fun w_ => (@Sum.rec (List Nat) Unit (fun _ => Bool) (fun js => zall (fun j => ab_mem j ks) js) (fun _ => false) (w_))) (u_))) (v))) (fun _ => (@Option.rec (Nat ⊕ (List Nat ⊕ Unit)) (fun _ => Bool) (false) (fun u_ => (@Sum.rec Nat (List Nat ⊕ Unit) (fun _ => Bool) (fun _ => false) (fun w_ => (@Sum.rec (List Nat) Unit (fun _ => Bool) (fun _ => false) (fun _ => true) (w_))) (u_))) (v))) x) u) t
theorem zleV_ok {e : ab_En} {v : ab_SV} {t : ab_TV} (h : zleV e v t = true) : ab_leV e v t = true := by
  unfold zleV at h
  match t, h with
  | none, h => rfl
  | some (.inl (lg, a, b)), h =>
    cases lg with
    | false =>
      obtain ⟨i, lo, hi, b', o, h1, h2⟩ := zni_ok h
      simp only [ab_leV, h1]
      rw [zwi_eq] at h2; exact h2
    | true =>
      obtain ⟨i, lo, hi, b', o, h1, h2⟩ := znl_ok h
      simp only [ab_leV, h1]
      rw [zwi_eq] at h2; exact h2
  | some (.inr (.inl ks)), h =>
    obtain ⟨u, rfl, h⟩ := zl_o h
    obtain ⟨u, rfl, h⟩ := zl_s2 h
    obtain ⟨js, rfl, h⟩ := zl_s1 h
    simp only [ab_leV]
    rw [List.all_eq_true]
    intro j hj
    have := zall_in h j hj
    rw [List.contains_iff_mem]
    exact ab_mem_iff.mp this
  | some (.inr (.inr _)), h =>
    obtain ⟨u, rfl, h⟩ := zl_o h
    obtain ⟨u, rfl, h⟩ := zl_s2 h
    obtain ⟨js, rfl, h⟩ := zl_s2 h
    rfl
def zleVs (e : ab_En) (vs : List ab_SV) (ts : List ab_TV) : Bool := @List.rec ab_SV (fun _ => List ab_TV → Bool) (fun ts => @List.rec ab_TV (fun _ => Bool) true (fun _ _ _ => false) ts) (fun v _ ih ts => @List.rec ab_TV (fun _ => Bool) false (fun t r _ => @Bool.rec (fun _ => Bool) false (ih r) (zleV e v t)) ts) vs ts
theorem zleVs_ok {e : ab_En} : ∀ {vs : List ab_SV} {ts : List ab_TV}, zleVs e vs ts = true → ab_leVs e vs ts = true
  | [], ts, h => by
    obtain ⟨rfl, -⟩ := zl_n (b := true) h
    rfl
  | v :: vs, ts, h => by
    obtain ⟨t, r, rfl, h⟩ := zl_l (f := fun t r => @Bool.rec (fun _ => Bool) false (zleVs e vs r) (zleV e v t)) h
    obtain ⟨h1, h2⟩ := zl_b h
    rw [ab_leVs, zleV_ok h1, zleVs_ok h2]; rfl
def zivIn (U : List ab_Iv) (lo hi : Int) : Bool := zany (ziin lo hi) U
theorem zivIn_eq {U : List ab_Iv} {lo hi : Int} : zivIn U lo hi = ab_ivIn U (lo, hi) := by
  unfold zivIn ab_ivIn
  rw [zany_eq, show ziin lo hi = (fun w => ab_le w.1 lo && ab_le hi w.2) from funext (fun w => zand_eq)]
/-- a number by its id -/
def zidn (e : ab_En) (lg : Bool) (i : Nat) (k : Int → Int → Bool) : Bool := @Bool.rec (fun _ => Bool) (zni e (some (.inl i)) (fun _ lo hi _ _ => k lo hi)) (znl e (some (.inl i)) (fun _ lo hi _ _ => k lo hi)) lg
theorem zidn_ok {e : ab_En} {lg : Bool} {U : List ab_Iv} {i : Nat} (h : zidn e lg i (fun lo hi => zivIn U lo hi) = true) : ab_idIn e lg U i = true := by
  unfold ab_idIn
  cases lg with
  | false =>
    obtain ⟨j, lo, hi, b, o, h1, h2⟩ := zni_ok (v := some (.inl i)) (k := fun _ lo hi _ _ => zivIn U lo hi) h
    rw [h1]; rw [zivIn_eq] at h2; exact h2
  | true =>
    obtain ⟨j, lo, hi, b, o, h1, h2⟩ := znl_ok (v := some (.inl i)) (k := fun _ lo hi _ _ => zivIn U lo hi) h
    rw [h1]; rw [zivIn_eq] at h2; exact h2
theorem zidn_ok1 {e : ab_En} {lg : Bool} {v : ab_Iv} {i : Nat} (h : zidn e lg i (fun lo hi => zwi v.1 v.2 lo hi) = true) : ab_idIn e lg [v] i = true := by
  refine zidn_ok (U := [v]) ?_
  have : (fun lo hi => zivIn [v] lo hi) = (fun lo hi => zwi v.1 v.2 lo hi) := by
    funext lo hi
    show @Bool.rec (fun _ => Bool) false true (ziin lo hi v) = _
    unfold ziin zwi
    rw [zand_eq]
    show _ = zand _ _
    rw [zand_eq]
    cases ab_le v.1 lo && ab_le hi v.2 <;> rfl
  rw [this]; exact h
def zidsLe (e : ab_En) (lg : Bool) (is : List Nat) (vs : List ab_Iv) : Bool := @List.rec Nat (fun _ => List ab_Iv → Bool) (fun vs => @List.rec ab_Iv (fun _ => Bool) true (fun _ _ _ => false) vs) (fun i _ ih vs => @List.rec ab_Iv (fun _ => Bool) false (fun v r _ => @Bool.rec (fun _ => Bool) false (ih r) (zidn e lg i (fun lo hi => zwi v.1 v.2 lo hi))) vs) is vs
theorem zidsLe_ok {e : ab_En} {lg : Bool} : ∀ {is : List Nat} {vs : List ab_Iv}, zidsLe e lg is vs = true → ab_idsLe e lg is vs = true
  | [], vs, h => by
    obtain ⟨rfl, -⟩ := zl_n (b := true) h
    rfl
  | i :: is, vs, h => by
    obtain ⟨v, r, rfl, h⟩ := zl_l (f := fun v r => @Bool.rec (fun _ => Bool) false (zidsLe e lg is r) (zidn e lg i (fun lo hi => zwi v.1 v.2 lo hi))) h
    obtain ⟨h1, h2⟩ := zl_b h
    rw [ab_idsLe, zidn_ok1 h1, zidsLe_ok h2]; rfl
def zcsLe (is : List Int) (vs : List ab_Iv) : Bool := @List.rec Int (fun _ => List ab_Iv → Bool) (fun vs => @List.rec ab_Iv (fun _ => Bool) true (fun _ _ _ => false) vs) (fun i _ ih vs => @List.rec ab_Iv (fun _ => Bool) false (fun v r _ => @Bool.rec (fun _ => Bool) false (ih r) (zwi v.1 v.2 i i)) vs) is vs
theorem zcsLe_ok : ∀ {is : List Int} {vs : List ab_Iv}, zcsLe is vs = true → ab_csLe is vs = true
  | [], vs, h => by
    obtain ⟨rfl, -⟩ := zl_n (b := true) h
    rfl
  | i :: is, vs, h => by
    obtain ⟨v, r, rfl, h⟩ := zl_l (f := fun v r => @Bool.rec (fun _ => Bool) false (zcsLe is r) (zwi v.1 v.2 i i)) h
    obtain ⟨h1, h2⟩ := zl_b h
    rw [zwi_eq] at h1
    rw [ab_csLe, h1, zcsLe_ok h2]; rfl
def zcsEq (is : List Int) (vs : List Int) : Bool := @List.rec Int (fun _ => List Int → Bool) (fun vs => @List.rec Int (fun _ => Bool) true (fun _ _ _ => false) vs) (fun i _ ih vs => @List.rec Int (fun _ => Bool) false (fun v r _ => @Bool.rec (fun _ => Bool) false (ih r) (zwi v v i i)) vs) is vs
theorem zcsEq_ok : ∀ {is : List Int} {vs : List Int}, zcsEq is vs = true → ab_csEq is vs = true
  | [], vs, h => by
    obtain ⟨rfl, -⟩ := zl_n (b := true) h
    rfl
  | i :: is, vs, h => by
    obtain ⟨v, r, rfl, h⟩ := zl_l (f := fun v r => @Bool.rec (fun _ => Bool) false (zcsEq is r) (zwi v v i i)) h
    obtain ⟨h1, h2⟩ := zl_b h
    rw [zwi_eq] at h1
    rw [ab_csEq, h1, zcsEq_ok h2]; rfl
def zneq (is vs : List Nat) : Bool := @List.rec Nat (fun _ => List Nat → Bool) (fun vs => @List.rec Nat (fun _ => Bool) true (fun _ _ _ => false) vs) (fun i _ ih vs => @List.rec Nat (fun _ => Bool) false (fun v r _ => @Bool.rec (fun _ => Bool) false (ih r) (Nat.beq i v)) vs) is vs
theorem zneq_ok : ∀ {is vs : List Nat}, zneq is vs = true → is = vs
  | [], vs, h => by
    obtain ⟨rfl, -⟩ := zl_n (b := true) h
    rfl
  | i :: is, vs, h => by
    obtain ⟨v, r, rfl, h⟩ := zl_l (f := fun v r => @Bool.rec (fun _ => Bool) false (zneq is r) (Nat.beq i v)) h
    obtain ⟨h1, h2⟩ := zl_b h
    rw [Nat.eq_of_beq_eq_true h1, zneq_ok h2]
def zUU (U U' : List ab_Iv) : Bool := zall (fun v => zivIn U' v.1 v.2) U
theorem zUU_ok {U U' : List ab_Iv} (h : zUU U U' = true) : U.all (ab_ivIn U') = true := by
  unfold zUU at h
  rw [zall_eq, List.all_eq_true] at h
  rw [List.all_eq_true]
  intro v hv
  have := h v hv
  rw [zivIn_eq] at this; exact this
def zleK (e : ab_En) (lg : Bool) (N : Nat) (k : ab_AK) (t : ab_TK) : Bool := (@Sum.rec (List ab_Iv) (List Nat ⊕ (List Int ⊕ (List Nat ⊕ List ab_SV))) (fun _ => Bool) (fun U => (@Sum.rec (List ab_Iv) (List ab_Iv ⊕ (List Int ⊕ (List Nat ⊕ List ab_TV))) (fun _ => Bool) (fun U' => zUU U U') (fun T4 => @Sum.rec (List ab_Iv) (List Int ⊕ (List Nat ⊕ List ab_TV)) (fun _ => Bool) (fun vs => ab_leK e lg N (.inl U) (.inr (.inl vs))) (fun T3 => @Sum.rec (List Int) (List Nat ⊕ List ab_TV) (fun _ => Bool) (fun _ => false) (fun T2 => @Sum.rec (List Nat) (List ab_TV) (fun _ => Bool) (fun _ => false) (fun _ => false) T2) T3) T4) (t))) (fun K4 => @Sum.rec (List Nat) (List Int ⊕ (List Nat ⊕ List ab_SV)) (fun _ => Bool) (fun ids => (@Sum.rec (List ab_Iv) (List ab_Iv ⊕ (List Int ⊕ (List Nat ⊕ List ab_TV))) (fun _ => Bool) (fun U' => zall (fun i => zidn e lg i (fun lo hi => zivIn U' lo hi)) ids) (fun T4 => @Sum.rec (List ab_Iv) (List Int ⊕ (List Nat ⊕ List ab_TV)) (fun _ => Bool) (fun vs => zidsLe e lg ids vs) (fun T3 => @Sum.rec (List Int) (List Nat ⊕ List ab_TV) (fun _ => Bool) (fun _ => false) (fun T2 => @Sum.rec (List Nat) (List ab_TV) (fun _ => Bool) (fun _ => false) (fun _ => false) T2) T3) T4) (t))) (fun K3 => @Sum.rec (List Int) (List Nat ⊕ List ab_SV) (fun _ => Bool) (fun cs => (@Sum.rec (List ab_Iv) (List ab_Iv ⊕ (List Int ⊕ (List Nat ⊕ List ab_TV))) (fun _ => Bool) (fun U' => zall (fun v => zivIn U' v v) cs) (fun T4 => @Sum.rec (List ab_Iv) (List Int ⊕ (List Nat ⊕ List ab_TV)) (fun _ => Bool) (fun vs => zcsLe cs vs) (fun T3 => @Sum.rec (List Int) (List Nat ⊕ List ab_TV) (fun _ => Bool) (fun ds => zcsEq cs ds) (fun T2 => @Sum.rec (List Nat) (List ab_TV) (fun _ => Bool) (fun _ => false) (fun _ => false) T2) T3) T4) (t))) (fun K2 => @Sum.rec (List Nat) (List ab_SV) (fun _ => Bool) (fun ks => (@Sum.rec (List ab_Iv) (List ab_Iv ⊕ (List Int ⊕ (List Nat ⊕ List ab_TV))) (fun _ => Bool) (fun _ => false) (fun T4 => @Sum.rec (List ab_Iv) (List Int ⊕ (List Nat ⊕ List ab_TV)) (fun _ => Bool) (fun _ => false) (fun T3 => @Sum.rec (List Int) (List Nat ⊕ List ab_TV) (fun _ => Bool) (fun _ => false) (fun T2 => @Sum.rec (List Nat) (List ab_TV) (fun _ => Bool) (fun js => zneq ks js) (fun _ => false) T2) T3) T4) (t))) (fun svs => (@Sum.rec (List ab_Iv) (List ab_Iv ⊕ (List Int ⊕ (List Nat ⊕ List ab_TV))) (fun _ => Bool) (fun _ => false) (fun T4 => @Sum.rec (List ab_Iv) (List Int ⊕ (List Nat ⊕ List ab_TV)) (fun _ => Bool) (fun _ => false) (fun T3 => @Sum.rec (List Int) (List Nat ⊕ List ab_TV) (fun _ => Bool) (fun _ => false) (fun T2 => @Sum.rec (List Nat) (List ab_TV) (fun _ => Bool) (fun _ => false) (fun tvs => zleVs e svs tvs) T2) T3) T4) (t))) K2) K3) K4) (k))
theorem zleK_ok {e : ab_En} {lg : Bool} {N : Nat} {k : ab_AK} {t : ab_TK} (h : zleK e lg N k t = true) : ab_leK e lg N k t = true := by
  unfold zleK at h
  match k, t, h with
  | .inl U, .inl U', h => exact zUU_ok h
  | .inl U, .inr (.inl vs), h => exact h
  | .inl U, .inr (.inr (.inl _)), h => cases h
  | .inl U, .inr (.inr (.inr (.inl _))), h => cases h
  | .inl U, .inr (.inr (.inr (.inr _))), h => cases h
  | .inr (.inl ids), .inl U', h =>
    show ids.all (ab_idIn e lg U') = true
    rw [List.all_eq_true]
    intro i hi
    exact zidn_ok (zall_in h i hi)
  | .inr (.inl ids), .inr (.inl vs), h => exact zidsLe_ok h
  | .inr (.inl ids), .inr (.inr (.inl _)), h => cases h
  | .inr (.inl ids), .inr (.inr (.inr (.inl _))), h => cases h
  | .inr (.inl ids), .inr (.inr (.inr (.inr _))), h => cases h
  | .inr (.inr (.inl cs)), .inl U', h =>
    show cs.all (fun v => ab_ivIn U' (v, v)) = true
    rw [List.all_eq_true]
    intro v hv
    have h2 : zivIn U' v v = true := zall_in h v hv
    rw [zivIn_eq] at h2; exact h2
  | .inr (.inr (.inl cs)), .inr (.inl vs), h => exact zcsLe_ok h
  | .inr (.inr (.inl cs)), .inr (.inr (.inl ds)), h => exact zcsEq_ok h
  | .inr (.inr (.inl cs)), .inr (.inr (.inr (.inl _))), h => cases h
  | .inr (.inr (.inl cs)), .inr (.inr (.inr (.inr _))), h => cases h
  | .inr (.inr (.inr (.inl ks))), .inl _, h => cases h
  | .inr (.inr (.inr (.inl ks))), .inr (.inl _), h => cases h
  | .inr (.inr (.inr (.inl ks))), .inr (.inr (.inl _)), h => cases h
  | .inr (.inr (.inr (.inl ks))), .inr (.inr (.inr (.inl js))), h =>
    show (ks == js) = true
    rw [zneq_ok h]
    exact beq_self_eq_true js
  | .inr (.inr (.inr (.inl ks))), .inr (.inr (.inr (.inr _))), h => cases h
  | .inr (.inr (.inr (.inr svs))), .inl _, h => cases h
  | .inr (.inr (.inr (.inr svs))), .inr (.inl _), h => cases h
  | .inr (.inr (.inr (.inr svs))), .inr (.inr (.inl _)), h => cases h
  | .inr (.inr (.inr (.inr svs))), .inr (.inr (.inr (.inl _))), h => cases h
  | .inr (.inr (.inr (.inr svs))), .inr (.inr (.inr (.inr tvs))), h => exact zleVs_ok h
def zleC (e : ab_En) (c : ab_AC) (t : ab_TC) : Bool := @Prod.rec Nat (Nat × ab_AK) (fun _ => Bool) (fun c1 c2 => @Prod.rec Nat ab_AK (fun _ => Bool) (fun N K => @Prod.rec Nat (Nat × ab_TK) (fun _ => Bool) (fun t1 t2 => @Prod.rec Nat ab_TK (fun _ => Bool) (fun TN T => @Bool.rec (fun _ => Bool) false (@Bool.rec (fun _ => Bool) false (zleK e (Nat.beq c1 1) N K T) (Nat.beq N TN)) (Nat.beq c1 t1)) t2) t) c2) c
theorem zleC_ok {e : ab_En} {c : ab_AC} {t : ab_TC} (h : zleC e c t = true) : ab_leC e c t = true := by
  obtain ⟨c1, N, K⟩ := c
  obtain ⟨t1, TN, T⟩ := t
  obtain ⟨h1, h⟩ := zl_b (c := Nat.beq c1 t1) h
  obtain ⟨h2, h⟩ := zl_b (c := Nat.beq N TN) h
  have h3 := zleK_ok h
  unfold ab_leC
  rw [h1, h2]; exact h3
def zleH (e : ab_En) (h : ab_AH) (t : ab_TH) : Bool := zall (fun q => @Prod.rec Nat ab_TC (fun _ => Bool) (fun k tc => @Option.rec ab_AC (fun _ => Bool) false (fun c => zleC e c tc) (zhg h k)) q) t
theorem zleH_ok {e : ab_En} {h : ab_AH} {t : ab_TH} (hh : zleH e h t = true) : ab_leH e h t = true := by
  unfold zleH at hh
  unfold ab_leH
  rw [zall_eq, List.all_eq_true] at hh
  rw [List.all_eq_true]
  intro q hq
  have h1 := hh q hq
  obtain ⟨k, tc⟩ := q
  obtain ⟨c, hc, h2⟩ := zl_o (o := zhg h k) h1
  rw [zhg_eq] at hc
  simp only [hc]
  exact zleC_ok h2
/-- values out of templates -/
def zinV (v : ab_TV) (n : Nat) (e : ab_En) (k : ab_SV → Nat → ab_En → Bool) : Bool := @Option.rec zTVi (fun _ => Bool) (k none n e) (fun u => @Sum.rec (Bool × Int × Int) (List Nat ⊕ Unit) (fun _ => Bool) (fun q => k (some (.inl n)) (Nat.succ n) ((n, q.1, q.2.1, q.2.2, n, .ofNat 0) :: e)) (fun x => k (some (.inr x)) n e) u) v
theorem zinV_eq {v : ab_TV} {n : Nat} {e : ab_En} {k : ab_SV → Nat → ab_En → Bool} : zinV v n e k = k (ab_inV v n e).1 (ab_inV v n e).2.1 (ab_inV v n e).2.2 := by
  match v with
  | none => rfl
  | some (.inl q) => rfl
  | some (.inr x) => rfl
def zinVs (vs : List ab_TV) (n : Nat) (e : ab_En) (k : List ab_SV → Nat → ab_En → Bool) : Bool := @List.rec ab_TV (fun _ => Nat → ab_En → (List ab_SV → Nat → ab_En → Bool) → Bool) (fun n e k => k [] n e) (fun v _ ih n e k => zinV v n e (fun a n1 e1 => ih n1 e1 (fun as n2 e2 => k (a :: as) n2 e2))) vs n e k
theorem zinVs_eq : ∀ {vs : List ab_TV} {n : Nat} {e : ab_En} {k : List ab_SV → Nat → ab_En → Bool}, zinVs vs n e k = k (ab_inVs vs n e).1 (ab_inVs vs n e).2.1 (ab_inVs vs n e).2.2
  | [], n, e, k => rfl
  | v :: r, n, e, k => by
    show zinV v n e (fun a n1 e1 => zinVs r n1 e1 (fun as n2 e2 => k (a :: as) n2 e2)) = _
    rw [zinV_eq, zinVs_eq]; rfl
def zinIs (lg : Bool) (vs : List ab_Iv) (n : Nat) (e : ab_En) (k : List Nat → Nat → ab_En → Bool) : Bool := @List.rec ab_Iv (fun _ => Nat → ab_En → (List Nat → Nat → ab_En → Bool) → Bool) (fun n e k => k [] n e) (fun v _ ih n e k => ih (Nat.succ n) ((n, lg, v.1, v.2, n, .ofNat 0) :: e) (fun as n2 e2 => k (n :: as) n2 e2)) vs n e k
theorem zinIs_eq {lg : Bool} : ∀ {vs : List ab_Iv} {n : Nat} {e : ab_En} {k : List Nat → Nat → ab_En → Bool}, zinIs lg vs n e k = k (ab_inIs lg vs n e).1 (ab_inIs lg vs n e).2.1 (ab_inIs lg vs n e).2.2
  | [], n, e, k => rfl
  | v :: r, n, e, k => by
    show zinIs lg r (Nat.succ n) ((n, lg, v.1, v.2, n, .ofNat 0) :: e) (fun as n2 e2 => k (n :: as) n2 e2) = _
    rw [zinIs_eq]; rfl
def zinC (c : ab_TC) (n : Nat) (e : ab_En) (k : ab_AC → Nat → ab_En → Bool) : Bool := @Prod.rec Nat (Nat × ab_TK) (fun _ => Bool) (fun t1 c2 => @Prod.rec Nat ab_TK (fun _ => Bool) (fun N T => (@Sum.rec (List ab_Iv) (List ab_Iv ⊕ (List Int ⊕ (List Nat ⊕ List ab_TV))) (fun _ => Bool) (fun U => k (t1, N, .inl U) n e) (fun T4 => @Sum.rec (List ab_Iv) (List Int ⊕ (List Nat ⊕ List ab_TV)) (fun _ => Bool) (fun vs => zinIs (Nat.beq t1 1) vs n e (fun ids n1 e1 => k (t1, N, .inr (.inl ids)) n1 e1)) (fun T3 => @Sum.rec (List Int) (List Nat ⊕ List ab_TV) (fun _ => Bool) (fun cs => k (t1, N, .inr (.inr (.inl cs))) n e) (fun T2 => @Sum.rec (List Nat) (List ab_TV) (fun _ => Bool) (fun ks => k (t1, N, .inr (.inr (.inr (.inl ks)))) n e) (fun tvs => zinVs tvs n e (fun svs n1 e1 => k (t1, N, .inr (.inr (.inr (.inr svs)))) n1 e1)) T2) T3) T4) (T))) c2) c
theorem zinC_eq {c : ab_TC} {n : Nat} {e : ab_En} {k : ab_AC → Nat → ab_En → Bool} : zinC c n e k = k (ab_inC c n e).1 (ab_inC c n e).2.1 (ab_inC c n e).2.2 := by
  match c with
  | (t, N, .inl U) => rfl
  | (t, N, .inr (.inl vs)) =>
    show zinIs (Nat.beq t 1) vs n e (fun ids n1 e1 => k (t, N, .inr (.inl ids)) n1 e1) = _
    rw [zinIs_eq]; rfl
  | (t, N, .inr (.inr (.inl cs))) => rfl
  | (t, N, .inr (.inr (.inr (.inl ks)))) => rfl
  | (t, N, .inr (.inr (.inr (.inr tvs)))) =>
    show zinVs tvs n e (fun svs n1 e1 => k (t, N, .inr (.inr (.inr (.inr svs)))) n1 e1) = _
    rw [zinVs_eq]; rfl
def zinH (t : ab_TH) (n : Nat) (e : ab_En) (k : ab_AH → Nat → ab_En → Bool) : Bool := @List.rec (Nat × ab_TC) (fun _ => Nat → ab_En → (ab_AH → Nat → ab_En → Bool) → Bool) (fun n e k => k [] n e) (fun q _ ih n e k => @Prod.rec Nat ab_TC (fun _ => Bool) (fun j tc => zinC tc n e (fun c n1 e1 => ih n1 e1 (fun h n2 e2 => k ((j, c) :: h) n2 e2))) q) t n e k
theorem zinH_eq : ∀ {t : ab_TH} {n : Nat} {e : ab_En} {k : ab_AH → Nat → ab_En → Bool}, zinH t n e k = k (ab_inH t n e).1 (ab_inH t n e).2.1 (ab_inH t n e).2.2
  | [], n, e, k => rfl
  | (j, tc) :: r, n, e, k => by
    show zinC tc n e (fun c n1 e1 => zinH r n1 e1 (fun h n2 e2 => k ((j, c) :: h) n2 e2)) = _
    rw [zinC_eq, zinH_eq]; rfl
/-- arguments' bounds -/
def zleAg (e : ab_En) (as : List ab_SV) (iv : List (Option ab_Iv)) : Bool := @List.rec ab_SV (fun _ => List (Option ab_Iv) → Bool) (fun _ => true) (fun v _ ih iv => @List.rec (Option ab_Iv) (fun _ => Bool) true (fun o r _ => @Option.rec ab_Iv (fun _ => Bool) (ih r) (fun u => @Bool.rec (fun _ => Bool) false (ih r) (zni e v (fun _ lo hi _ _ => zwi u.1 u.2 lo hi))) o) iv) as iv
theorem zleAg_ok {e : ab_En} : ∀ {as : List ab_SV} {iv : List (Option ab_Iv)}, zleAg e as iv = true → ab_leAg e as iv = true
  | [], iv, _ => by cases iv <;> rfl
  | v :: vs, [], _ => rfl
  | v :: vs, none :: r, h => by
    rw [ab_leAg]
    exact zleAg_ok (as := vs) h
  | v :: vs, some u :: r, h => by
    obtain ⟨h1, h2⟩ := zl_b (c := zni e v (fun _ lo hi _ _ => zwi u.1 u.2 lo hi)) (a := zleAg e vs r) h
    obtain ⟨i, lo, hi, b, o, h3, h4⟩ := zni_ok h1
    rw [zwi_eq] at h4
    rw [ab_leAg, h3]
    simp only [h4, zleAg_ok h2]; rfl
/-- a summary's outcomes -/
def zz1 (md : List Nat) (k f : Nat) (v o : ab_SV) : ab_SV := @Option.rec (Nat ⊕ (List Nat ⊕ Unit)) (fun _ => ab_SV) v (fun u => @Bool.rec (fun _ => ab_SV) (some u) v (ab_mem (ab_fc k f) md)) o
theorem zz1_eq {md : List Nat} {k f : Nat} {v o : ab_SV} : zz1 md k f v o = ab_z1 md k f v o := by
  cases o with
  | none => rfl
  | some u =>
    show @Bool.rec (fun _ => ab_SV) (some u) v (ab_mem (ab_fc k f) md) = bif _ then _ else _
    cases ab_mem (ab_fc k f) md <;> rfl
def zzf (md : List Nat) (k f : Nat) (vs os : List ab_SV) : List ab_SV := @List.rec ab_SV (fun _ => Nat → List ab_SV → List ab_SV) (fun _ _ => []) (fun v r ih f os => @List.rec ab_SV (fun _ => List ab_SV) (v :: r) (fun o os' _ => zz1 md k f v o :: ih (Nat.succ f) os') os) vs f os
theorem zzf_eq {md : List Nat} {k : Nat} : ∀ {vs os : List ab_SV} {f : Nat}, zzf md k f vs os = ab_zf md k f vs os
  | [], os, f => by cases os <;> rfl
  | v :: r, [], f => rfl
  | v :: r, o :: os, f => by
    show zz1 md k f v o :: zzf md k (Nat.succ f) r os = _
    rw [zz1_eq, zzf_eq]; rfl
def zsvs (c : ab_AC) : Option (List ab_SV) := @Prod.rec Nat (Nat × ab_AK) (fun _ => Option (List ab_SV)) (fun _ c2 => @Prod.rec Nat ab_AK (fun _ => Option (List ab_SV)) (fun _ K => (@Sum.rec (List ab_Iv) (List Nat ⊕ (List Int ⊕ (List Nat ⊕ List ab_SV))) (fun _ => Option (List ab_SV)) (fun _ => none) (fun K4 => @Sum.rec (List Nat) (List Int ⊕ (List Nat ⊕ List ab_SV)) (fun _ => Option (List ab_SV)) (fun _ => none) (fun K3 => @Sum.rec (List Int) (List Nat ⊕ List ab_SV) (fun _ => Option (List ab_SV)) (fun _ => none) (fun K2 => @Sum.rec (List Nat) (List ab_SV) (fun _ => Option (List ab_SV)) (fun _ => none) (fun s => some s) K2) K3) K4) (K))) c2) c
def zmgC (md : List Nat) (h : ab_AH) (k : Nat) (c : ab_AC) : ab_AC := @Prod.rec Nat (Nat × ab_AK) (fun _ => ab_AC) (fun t1 c2 => @Prod.rec Nat ab_AK (fun _ => ab_AC) (fun N K => (@Sum.rec (List ab_Iv) (List Nat ⊕ (List Int ⊕ (List Nat ⊕ List ab_SV))) (fun _ => ab_AC) (fun _ => c) (fun K4 => @Sum.rec (List Nat) (List Int ⊕ (List Nat ⊕ List ab_SV)) (fun _ => ab_AC) (fun _ => c) (fun K3 => @Sum.rec (List Int) (List Nat ⊕ List ab_SV) (fun _ => ab_AC) (fun _ => c) (fun K2 => @Sum.rec (List Nat) (List ab_SV) (fun _ => ab_AC) (fun _ => c) (fun svs => @Option.rec ab_AC (fun _ => ab_AC) c (fun c0 => @Option.rec (List ab_SV) (fun _ => ab_AC) c (fun old => (t1, N, .inr (.inr (.inr (.inr (zzf md k 0 svs old)))))) (zsvs c0)) (zhg h k)) K2) K3) K4) (K))) c2) c
theorem zmgC_eq {md : List Nat} {h : ab_AH} {k : Nat} {c : ab_AC} : zmgC md h k c = ab_mgC md h k c := by
  match c with
  | (t, N, .inl U) => rfl
  | (t, N, .inr (.inl vs)) => rfl
  | (t, N, .inr (.inr (.inl cs))) => rfl
  | (t, N, .inr (.inr (.inr (.inl ks)))) => rfl
  | (t, N, .inr (.inr (.inr (.inr svs)))) =>
    show @Option.rec ab_AC (fun _ => ab_AC) _ _ (ab_hg h k) = _
    unfold ab_mgC
    cases hc : ab_hg h k with
    | none => simp
    | some c0 =>
      match c0 with
      | (t', N', .inl U) => rfl
      | (t', N', .inr (.inl vs)) => rfl
      | (t', N', .inr (.inr (.inl cs))) => rfl
      | (t', N', .inr (.inr (.inr (.inl ks)))) => rfl
      | (t', N', .inr (.inr (.inr (.inr old)))) =>
        show (t, N, Sum.inr (Sum.inr (Sum.inr (Sum.inr (zzf md k 0 svs old))))) = _
        rw [zzf_eq]
def zmg (md : List Nat) (h : ab_AH) (E : ab_AH) : ab_AH := @List.rec (Nat × ab_AC) (fun _ => ab_AH) h (fun q _ ih => @Prod.rec Nat ab_AC (fun _ => ab_AH) (fun k c => (k, zmgC md h k c) :: ih) q) E
theorem zmg_eq {md : List Nat} {h : ab_AH} : ∀ {E : ab_AH}, zmg md h E = ab_mg md h E ++ h
  | [] => rfl
  | (k, c) :: r => by
    show (k, zmgC md h k c) :: zmg md h r = _
    rw [zmg_eq, zmgC_eq]; rfl
def zrfn (e : ab_En) (as : List ab_SV) (iv : List (Option ab_Iv)) (k : ab_En → Bool) : Bool := @List.rec ab_SV (fun _ => List (Option ab_Iv) → ab_En → Bool) (fun _ e => k e) (fun v _ ih iv e => @List.rec (Option ab_Iv) (fun _ => Bool) (k e) (fun o r _ => @Option.rec ab_Iv (fun _ => Bool) (ih r e) (fun u => @Option.rec (Nat × ab_Q) (fun _ => Bool) (ih r e) (fun x => @Bool.rec (fun _ => Bool) true (ih r (ab_cutE x.1 x.2 (ab_max u.1 x.2.1, ab_min u.2 x.2.2.1) e)) (ab_le (ab_max u.1 x.2.1) (ab_min u.2 x.2.2.1))) (ab_num e false v)) o) iv) as iv e
theorem zrfn_ok {k : ab_En → Bool} : ∀ {as : List ab_SV} {iv : List (Option ab_Iv)} {e e1 : ab_En}, zrfn e as iv k = true → ab_rfn e as iv = some e1 → k e1 = true
  | [], iv, e, e1, h, h1 => by
    have : some e = some e1 := by cases iv <;> exact h1
    cases this; exact h
  | v :: vs, [], e, e1, h, h1 => by
    cases h1; exact h
  | v :: vs, none :: r, e, e1, h, h1 => zrfn_ok (as := vs) (iv := r) h h1
  | v :: vs, some u :: r, e, e1, h, h1 => by
    rw [ab_rfn] at h1
    have h : @Option.rec (Nat × ab_Q) (fun _ => Bool) (zrfn e vs r k) (fun x => @Bool.rec (fun _ => Bool) true (zrfn (ab_cutE x.1 x.2 (ab_max u.1 x.2.1, ab_min u.2 x.2.2.1) e) vs r k) (ab_le (ab_max u.1 x.2.1) (ab_min u.2 x.2.2.1))) (ab_num e false v) = true := h
    split at h1
    · rename_i x hx
      rw [hx] at h
      cases hb : ab_le (ab_max u.1 x.2.1) (ab_min u.2 x.2.2.1) with
      | false => rw [hb] at h1; cases h1
      | true =>
        rw [hb] at h1
        have h2 : @Bool.rec (fun _ => Bool) true (zrfn (ab_cutE x.1 x.2 (ab_max u.1 x.2.1, ab_min u.2 x.2.2.1) e) vs r k) (ab_le (ab_max u.1 x.2.1) (ab_min u.2 x.2.2.1)) = true := h
        rw [hb] at h2
        exact zrfn_ok (as := vs) (iv := r) h2 h1
    · rename_i hx
      rw [hx] at h
      exact zrfn_ok (as := vs) (iv := r) h h1
abbrev zKo : Type := Nat → ab_En → ab_AH → Option ab_SV → Bool
def zpo1 (md : List Nat) (n : Nat) (e : ab_En) (h : ab_AH) (as : List ab_SV) (k : zKo) (po : ab_Pt) : Bool := zrfn e as po.1 (fun e1 => zinH po.2.2 n e1 (fun E n1 e2 => @Option.rec ab_TV (fun _ => Bool) (k n1 e2 (zmg md h E) none) (fun tv => zinV tv n1 e2 (fun v n2 e3 => k n2 e3 (zmg md h E) (some v))) po.2.1))
theorem zpo1_ok {md : List Nat} {n : Nat} {e : ab_En} {h : ab_AH} {as : List ab_SV} {k : zKo} {po : ab_Pt} {o : ab_Oc} (hk : zpo1 md n e h as k po = true) (ho : ab_po1 md n e h as po = some o) : k o.1 o.2.1 o.2.2.1 o.2.2.2 = true := by
  unfold ab_po1 at ho
  split at ho
  · cases ho
  · rename_i e1 he1
    have h1 := zrfn_ok hk he1
    simp only [zinH_eq] at h1
    obtain ⟨iv, tr, th⟩ := po
    cases tr with
    | none =>
      cases ho
      have h2 : k (ab_inH th n e1).2.1 (ab_inH th n e1).2.2 (zmg md h (ab_inH th n e1).1) none = true := h1
      rw [zmg_eq] at h2
      exact h2
    | some tv =>
      cases ho
      have h2 : zinV tv (ab_inH th n e1).2.1 (ab_inH th n e1).2.2 (fun v n2 e3 => k n2 e3 (zmg md h (ab_inH th n e1).1) (some v)) = true := h1
      rw [zinV_eq, zmg_eq] at h2
      exact h2
/-- a summary fits -/
def zapc (S : ab_Sm) (M : Nat → Bool) (e : ab_En) (h : ab_AH) (as : List ab_SV) : Bool := @Bool.rec (fun _ => Bool) false (@Bool.rec (fun _ => Bool) false (@Bool.rec (fun _ => Bool) false (@Bool.rec (fun _ => Bool) false (zall (fun po => zall (fun k => @Bool.rec (fun _ => Bool) (ab_hk k po.2.2) true (Nat.ble 1000 k)) S.2.2.2) S.2.2.1) (zall M S.2.2.2)) (ab_lth h)) (zleH e h S.2.1)) (zleVs e as S.1)
theorem zapc_ok {S : ab_Sm} {M : Nat → Bool} {n : Nat} {e : ab_En} {h : ab_AH} {as : List ab_SV} (hc : zapc S M e h as = true) : ab_apO S M n e h as = some (S.2.2.1.filterMap (ab_po1 S.2.2.2 n e h as)) := by
  obtain ⟨h1, hc⟩ := zl_b hc
  obtain ⟨h2, hc⟩ := zl_b hc
  obtain ⟨h3, hc⟩ := zl_b hc
  obtain ⟨h4, h5⟩ := zl_b hc
  rw [zall_eq] at h4 h5
  have h6 : S.2.2.1.all (fun po => S.2.2.2.all (fun k => Nat.ble 1000 k || ab_hk k po.2.2)) = true := by
    rw [List.all_eq_true] at h5 ⊢
    intro po hpo
    have := h5 po hpo
    rw [zall_eq, List.all_eq_true] at this
    rw [List.all_eq_true]
    intro k hk
    have h7 := this k hk
    show (Nat.ble 1000 k || ab_hk k po.2.2) = true
    cases hb : Nat.ble 1000 k with
    | true => rfl
    | false =>
      have h7 : @Bool.rec (fun _ => Bool) (ab_hk k po.2.2) true (Nat.ble 1000 k) = true := h7
      rw [hb] at h7
      exact h7
  unfold ab_apO
  rw [zleVs_ok h1, zleH_ok h2, h3, h4, h6]; rfl
/-- the first summary that fits: its outcomes; else d -/
def zouL (M : Nat → Bool) (n : Nat) (e : ab_En) (h : ab_AH) (as : List ab_SV) (l : List ab_Sm) (d : Option (List ab_Oc)) : Option (List ab_Oc) := @List.rec ab_Sm (fun _ => Option (List ab_Oc)) d (fun S _ ih => @Bool.rec (fun _ => Option (List ab_Oc)) ih (some (S.2.2.1.filterMap (ab_po1 S.2.2.2 n e h as))) (zapc S M e h as)) l
def zouK (M : Nat → Bool) (n : Nat) (e : ab_En) (h : ab_AH) (as : List ab_SV) (k : zKo) (l : List ab_Sm) (d : Bool) : Bool := @List.rec ab_Sm (fun _ => Bool) d (fun S _ ih => @Bool.rec (fun _ => Bool) ih (zall (zpo1 S.2.2.2 n e h as k) S.2.2.1) (zapc S M e h as)) l
theorem zouK_ok {M : Nat → Bool} {n : Nat} {e : ab_En} {h : ab_AH} {as : List ab_SV} {k : zKo} {dl : Option (List ab_Oc)} {d : Bool} (hd : d = true → ∃ outs, dl = some outs ∧ ∀ o ∈ outs, k o.1 o.2.1 o.2.2.1 o.2.2.2 = true) : ∀ {l : List ab_Sm}, zouK M n e h as k l d = true → ∃ outs, zouL M n e h as l dl = some outs ∧ ∀ o ∈ outs, k o.1 o.2.1 o.2.2.1 o.2.2.2 = true
  | [], hk => hd hk
  | S :: r, hk => by
    have hk : @Bool.rec (fun _ => Bool) (zouK M n e h as k r d) (zall (zpo1 S.2.2.2 n e h as k) S.2.2.1) (zapc S M e h as) = true := hk
    show ∃ outs, @Bool.rec (fun _ => Option (List ab_Oc)) (zouL M n e h as r dl) (some (S.2.2.1.filterMap (ab_po1 S.2.2.2 n e h as))) (zapc S M e h as) = some outs ∧ _
    cases hc : zapc S M e h as with
    | true =>
      rw [hc] at hk
      have hk2 := zall_in (k := zpo1 S.2.2.2 n e h as k) hk
      refine ⟨_, rfl, fun o ho => ?_⟩
      obtain ⟨po, hpo, h1⟩ := List.mem_filterMap.mp ho
      exact zpo1_ok (hk2 po hpo) h1
    | false =>
      rw [hc] at hk
      exact zouK_ok hd (l := r) hk
theorem zouL_in {P : List ab_Oc → Prop} {M : Nat → Bool} {n : Nat} {e : ab_En} {h : ab_AH} {as : List ab_SV} {dl : Option (List ab_Oc)} (hd : ∀ o, dl = some o → P o) : ∀ {l : List ab_Sm} {o : List ab_Oc}, (∀ S ∈ l, ∀ o, ab_apO S M n e h as = some o → P o) → zouL M n e h as l dl = some o → P o
  | [], o, _, h1 => hd o h1
  | S :: r, o, hl, h1 => by
    have h1 : @Bool.rec (fun _ => Option (List ab_Oc)) (zouL M n e h as r dl) (some (S.2.2.1.filterMap (ab_po1 S.2.2.2 n e h as))) (zapc S M e h as) = some o := h1
    cases hc : zapc S M e h as with
    | true =>
      rw [hc] at h1
      have h2 : some (S.2.2.1.filterMap (ab_po1 S.2.2.2 n e h as)) = some o := h1
      exact hl S List.mem_cons_self o (by rw [zapc_ok hc]; exact h2)
    | false =>
      rw [hc] at h1
      exact zouL_in hd (l := r) (fun S' hS' => hl S' (List.mem_cons_of_mem _ hS')) h1
abbrev zRow : Type := Nat × Instr × Nat
def zret (i : Instr) : Bool := @Instr.rec (fun _ => Bool) false false false (fun _ => false) (fun _ => false) (fun _ => false) false false (fun _ => false) (fun _ => false) false false false (fun _ => false) false false (fun _ => false) false false false false false false (fun _ => false) (fun _ => false) false (fun _ => false) (fun _ => false) false false false false (fun _ => false) (fun _ => false) false false false false false false false false false false false false false (fun _ => false) (fun _ => false) false (fun _ => false) (fun _ => false) false false false false (fun _ => false) (fun _ => false) false (fun _ => false) (fun _ => false) (fun _ => false) (fun _ => false) false false false false false false false false false false (fun _ => false) false (fun _ _ => false) (fun _ _ => false) (fun _ _ => false) (fun _ => false) (fun _ => false) (fun _ _ => false) (fun _ => false) (fun _ => false) false false (fun _ => false) (fun _ => false) (fun _ _ => false) (fun _ => false) (fun _ => false) (fun _ => false) false false true false false (fun _ => false) (fun _ => false) false false false (fun _ => false) (fun _ => false) false false false false false false false false (fun _ => false) (fun _ => false) (fun _ => false) (fun _ => false) false (fun _ => false) (fun _ => false) false false (fun _ _ => false) false false true false false (fun _ => false) (fun _ => false) false false false false false (fun _ _ => false) (fun _ => false) (fun _ => false) false false false (fun _ => false) (fun _ => false) (fun _ => false) true false false (fun _ => false) false (fun _ _ _ _ => false) i
theorem zret_eq {i : Instr} : zret i = ab_ret i := by cases i <;> rfl
def zcur (tb cur : List zRow) (pc : Nat) : List zRow := @List.rec zRow (fun _ => List zRow) (ab_ls tb pc) (fun q r _ => @Bool.rec (fun _ => List zRow) (ab_ls tb pc) (q :: r) (Nat.beq q.1 pc)) cur
theorem zcur_eq {tb cur : List zRow} {pc : Nat} : zcur tb cur pc = ab_cur tb cur pc := by
  cases cur with
  | nil => rfl
  | cons q r =>
    show @Bool.rec (fun _ => List zRow) (ab_ls tb pc) (q :: r) (Nat.beq q.1 pc) = bif _ then _ else _
    cases Nat.beq q.1 pc <;> rfl
def zrun (tb : List zRow) (ann : List Nat) (dc : Instr → Nat → Nat → Option zF) (TT : zK) (f : Nat) : List zRow → zK := @Nat.rec (fun _ => List zRow → zK) (fun _ _ _ _ _ _ _ => false) (fun _ ih cur pc n e h L sk => @List.rec zRow (fun _ => Bool) false (fun q r _ => @Bool.rec (fun _ => Bool) false (@Bool.rec (fun _ => Bool) (@Option.rec zF (fun _ => Bool) false (fun g => g (fun pc' n' e' h' L' sk' => @Bool.rec (fun _ => Bool) (ih r pc' n' e' h' L' sk') (TT pc' n' e' h' L' sk') (ab_mem pc' ann)) n e h L sk) (dc q.2.1 q.2.2 q.1)) (TT pc n e h L sk) (zret q.2.1)) (Nat.beq q.1 pc)) (zcur tb cur pc)) f
theorem zrun_ok {tb : List zRow} {ann : List Nat} {dc : Instr → Nat → Nat → Option zF} {stp : Instr → Nat → Nat → ab_St → Option (List (Nat × ab_St))} {TT : zK} (hdc : ∀ i len pc g, dc i len pc = some g → zSp g (stp i len pc)) : ∀ {f : Nat} {cur : List zRow} {pc n : Nat} {e : ab_En} {h : ab_AH} {L sk : List ab_SV}, zrun tb ann dc TT f cur pc n e h L sk = true → ∃ ts, ab_run1 tb ann stp f cur pc (n, e, h, L, sk) = some ts ∧ ∀ w ∈ ts, zKs TT w = true
  | 0, _, _, _, _, _, _, _, hk => by cases hk
  | f + 1, cur, pc, n, e, h, L, sk, hk => by
    have hk : @List.rec zRow (fun _ => Bool) false (fun q r _ => @Bool.rec (fun _ => Bool) false (@Bool.rec (fun _ => Bool) (@Option.rec zF (fun _ => Bool) false (fun g => g (fun pc' n' e' h' L' sk' => @Bool.rec (fun _ => Bool) (zrun tb ann dc TT f r pc' n' e' h' L' sk') (TT pc' n' e' h' L' sk') (ab_mem pc' ann)) n e h L sk) (dc q.2.1 q.2.2 q.1)) (TT pc n e h L sk) (zret q.2.1)) (Nat.beq q.1 pc)) (zcur tb cur pc) = true := hk
    obtain ⟨q, r, hq, hk⟩ := zl_l hk
    rw [zcur_eq] at hq
    obtain ⟨hb, hk⟩ := zl_b hk
    rw [ab_run1, hq]
    simp only [hb, cond_true]
    have e1 : q.1 = pc := Nat.eq_of_beq_eq_true hb
    rw [zret_eq] at hk
    rcases zl_i hk with ⟨hr, hk⟩ | ⟨hr, hk⟩
    · refine ⟨[(pc, (n, e, h, L, sk))], by simp only [hr, cond_true], fun w hw => ?_⟩
      rw [List.mem_singleton.mp hw]; exact hk
    · obtain ⟨g, hg, hk⟩ := zl_o hk
      rw [e1] at hg
      obtain ⟨sl, h1, h2⟩ := hdc _ _ _ _ hg _ _ _ _ _ _ hk
      simp only [hr, cond_false, h1]
      clear hk h1
      induction sl with
      | nil => exact ⟨[], rfl, fun w hw => by cases hw⟩
      | cons w0 sl ihl =>
        obtain ⟨ts, g1, g2⟩ := ihl (fun w hw => h2 w (List.mem_cons_of_mem _ hw))
        have h3 : @Bool.rec (fun _ => Bool) (zrun tb ann dc TT f r w0.1 w0.2.1 w0.2.2.1 w0.2.2.2.1 w0.2.2.2.2.1 w0.2.2.2.2.2) (TT w0.1 w0.2.1 w0.2.2.1 w0.2.2.2.1 w0.2.2.2.2.1 w0.2.2.2.2.2) (ab_mem w0.1 ann) = true := h2 w0 List.mem_cons_self
        have h4 : ∃ x, (bif ab_mem w0.1 ann then some [w0] else ab_run1 tb ann stp f r w0.1 w0.2) = some x ∧ ∀ w ∈ x, zKs TT w = true := by
          rcases zl_i h3 with ⟨ha, h3⟩ | ⟨ha, h3⟩
          · refine ⟨[w0], by simp only [ha, cond_true], fun w hw => ?_⟩
            rw [List.mem_singleton.mp hw]; exact h3
          · simp only [ha, cond_false]
            exact zrun_ok hdc h3
        obtain ⟨x, h5, h6⟩ := h4
        refine ⟨x ++ ts, ?_, fun w hw => ?_⟩
        · rw [ab_seq, h5, g1]
        · rcases List.mem_append.mp hw with hw | hw
          · exact h6 w hw
          · exact g2 w hw
/-- an answer's check: none inside: no answer -/
def zfk (rt : Option FieldType) (i : Instr) : Option (Option (ab_En → ab_SV → Bool)) := match rt, i with
  | none, .return_ => some none
  | some .int, .ireturn => some (some zk0)
  | some .boolean, .ireturn => some (some zbo)
  | some .long, .lreturn => some (some zk1)
  | _, _ => none
def zfin (rt : Option FieldType) (i : Instr) (e : ab_En) (sk : List ab_SV) (k : Option ab_SV → Bool) : Bool := @Option.rec (Option (ab_En → ab_SV → Bool)) (fun _ => Bool) false (fun o => @Option.rec (ab_En → ab_SV → Bool) (fun _ => Bool) (@List.rec ab_SV (fun _ => Bool) (k none) (fun _ _ _ => false) sk) (fun c => @List.rec ab_SV (fun _ => Bool) false (fun v r _ => @List.rec ab_SV (fun _ => Bool) (@Bool.rec (fun _ => Bool) false (k (some v)) (c e v)) (fun _ _ _ => false) r) sk) o) (zfk rt i)
theorem zfin_ok {rt : Option FieldType} {i : Instr} {n : Nat} {e : ab_En} {h : ab_AH} {L sk : List ab_SV} {k : Option ab_SV → Bool} (hk : zfin rt i e sk k = true) : ∃ rv, ab_fin rt i (n, e, h, L, sk) = some rv ∧ k rv = true := by
  obtain ⟨o, ho, hk⟩ := zl_o hk
  unfold zfk at ho
  split at ho
  · cases ho
    obtain ⟨rfl, hk⟩ := zl_n (b := k none) hk
    exact ⟨none, rfl, hk⟩
  · cases ho
    obtain ⟨v, r, rfl, hk⟩ := zl_l hk
    obtain ⟨rfl, hk⟩ := zl_n hk
    obtain ⟨hc, hk⟩ := zl_b hk
    rw [zk0_eq] at hc
    exact ⟨some v, by simp only [ab_fin, hc]; rfl, hk⟩
  · cases ho
    obtain ⟨v, r, rfl, hk⟩ := zl_l hk
    obtain ⟨rfl, hk⟩ := zl_n hk
    obtain ⟨hc, hk⟩ := zl_b hk
    exact ⟨some v, by simp only [ab_fin, zbo_ok hc]; rfl, hk⟩
  · cases ho
    obtain ⟨v, r, rfl, hk⟩ := zl_l hk
    obtain ⟨rfl, hk⟩ := zl_n hk
    obtain ⟨hc, hk⟩ := zl_b hk
    rw [zk1_eq] at hc
    exact ⟨some v, by simp only [ab_fin, hc]; rfl, hk⟩
  · cases ho
def zTi (tb : List zRow) (rt : Option FieldType) (k : zKo) : zK := fun pc n e h L sk => @Option.rec (Instr × Nat) (fun _ => Bool) false (fun q => @Bool.rec (fun _ => Bool) false (zfin rt q.1 e sk (k n e h)) (Nat.beq q.2 1)) (ab_lk tb pc)
theorem zTi_outs {tb : List zRow} {rt : Option FieldType} {k : zKo} : ∀ {ts : List (Nat × ab_St)}, (∀ w ∈ ts, zKs (zTi tb rt k) w = true) → ∃ outs, ab_outs tb rt ts = some outs ∧ ∀ o ∈ outs, k o.1 o.2.1 o.2.2.1 o.2.2.2 = true
  | [], _ => ⟨[], rfl, fun o ho => by cases ho⟩
  | (pc, n, e, h, L, sk) :: r, hw => by
    obtain ⟨outs, h1, h2⟩ := zTi_outs (ts := r) (fun v hv => hw v (List.mem_cons_of_mem _ hv))
    have h3 : zTi tb rt k pc n e h L sk = true := hw _ List.mem_cons_self
    obtain ⟨q, hq, h3⟩ := zl_o h3
    obtain ⟨hb, h3⟩ := zl_b h3
    obtain ⟨rv, h4, h5⟩ := zfin_ok (n := n) (h := h) (L := L) h3
    refine ⟨(n, e, h, rv) :: outs, ?_, fun o ho => ?_⟩
    · rw [ab_outs]
      simp only [hq, h1, hb, h4, cond_true]
    · rcases List.mem_cons.mp ho with rfl | ho
      · exact h5
      · exact h2 o ho
/-- calls: the first summary that fits, or the method opened -/
def zOL (SL : Nat → List ab_Sm) (IL : Nat → Bool) (Bd : ab_Bd) (Z : ab_Ms) (Mt : ab_Mt) (M : Nat → Bool) (fuel : Nat) : Nat → ab_Cf
  | 0 => fun j n e h as => zouL M n e h as (SL j) none
  | d + 1 => fun j n e h as => zouL M n e h as (SL j) (bif IL j then ab_inl Bd Z Mt M (zOL SL IL Bd Z Mt M fuel d) fuel j n e h as else none)
theorem zOL_ok {l : Launch} {Z : ab_Ms} {Mt : ab_Mt} {wF : List Cond × List Cond} {bF : ByteArray × ByteArray} {D : va_G} {cl : List vw_C} {cs : Nat → ClassId} {tS DS fuel : Nat} {Bd : ab_Bd} {M : Nat → Bool} {SL : Nat → List ab_Sm} {IL : Nat → Bool} (hGl : ab_Gl l Z wF D cl cs tS) (hIL : ∀ j, IL j = true → ab_GOK Z Mt wF bF cl Bd j) (hSL : ∀ j, ∀ S ∈ SL j, ab_SOK l Z DS D cl cs tS j S) (h1 : 1 ≤ DS) : ∀ d, ab_CO l Z (DS + d) D cl cs tS M (zOL SL IL Bd Z Mt M fuel d)
  | 0 => by
    intro j n e h as outs ho ρ ws vs he hh hv
    exact zouL_in (P := fun o => ∃ d', d' ≤ DS + 0 ∧ ab_Ct l (Z.1 j) (ab_wM Z j) (ab_rm d' 0 0) 0 0 D cl cs tS vs ws (ab_Po M tS (ab_tys cs) ρ n ws o)) (fun o h2 => by cases h2) (fun S hS o hap => ab_apO_ok (hSL j S hS) hap he hh hv) ho
  | d + 1 => by
    intro j n e h as outs ho ρ ws vs he hh hv
    refine zouL_in (P := fun o => ∃ d', d' ≤ DS + (d + 1) ∧ ab_Ct l (Z.1 j) (ab_wM Z j) (ab_rm d' 0 0) 0 0 D cl cs tS vs ws (ab_Po M tS (ab_tys cs) ρ n ws o)) (fun o h2 => ?_) (fun S hS o hap => ?_) ho
    · cases hb : IL j with
      | false => rw [hb] at h2; cases h2
      | true =>
        rw [hb] at h2
        simp only [cond_true] at h2
        exact ⟨DS + d + 1, by omega, ab_inl_ok hGl (hIL j hb) (by omega) (zOL_ok hGl hIL hSL h1 d) h2 he hh hv⟩
    · obtain ⟨d', hd', Ct⟩ := ab_apO_ok (hSL j S hS) hap he hh hv
      exact ⟨d', by omega, Ct⟩
def zin (Bd : ab_Bd) (Z : ab_Ms) (Mt : ab_Mt) (M : Nat → Bool) (zO : zCf) (fuel j n : Nat) (e : ab_En) (h : ab_AH) (as : List ab_SV) (k : zKo) : Bool := @Bool.rec (fun _ => Bool) false (@Bool.rec (fun _ => Bool) false (zrun (Bd j).1 [] (fun i => zdc i (Bd j).2.1 Mt zO (Z.2.2.1 j) M (Bd j).2.2) (zTi (Bd j).1 (Z.2.2.2.1 j) k) fuel [] 0 n e h (ab_ent e as (Z.2.2.1 j)) []) (Nat.ble (ab_lay e as).length (Z.2.2.1 j))) (zall (ab_kn e) as)
theorem zin_ok {Bd : ab_Bd} {Z : ab_Ms} {Mt : ab_Mt} {M : Nat → Bool} {O : ab_Cf} {zO : zCf} (hO : zCr O zO) {fuel j n : Nat} {e : ab_En} {h : ab_AH} {as : List ab_SV} {k : zKo} (hk : zin Bd Z Mt M zO fuel j n e h as k = true) : ∃ outs, ab_inl Bd Z Mt M O fuel j n e h as = some outs ∧ ∀ o ∈ outs, k o.1 o.2.1 o.2.2.1 o.2.2.2 = true := by
  obtain ⟨h1, hk⟩ := zl_b hk
  obtain ⟨h2, hk⟩ := zl_b hk
  obtain ⟨ts, h3, h4⟩ := zrun_ok (fun i len pc g hg => zdc_ok hO hg) hk
  obtain ⟨outs, h5, h6⟩ := zTi_outs h4
  refine ⟨outs, ?_, h6⟩
  rw [zall_eq] at h1
  unfold ab_inl
  rw [h1, h2]
  show (match ab_run1 _ _ _ _ _ _ _ with
    | some ts => ab_outs (Bd j).1 (Z.2.2.2.1 j) ts
    | none => none) = _
  rw [h3]; exact h5
def zOO (SL : Nat → List ab_Sm) (IL : Nat → Bool) (Bd : ab_Bd) (Z : ab_Ms) (Mt : ab_Mt) (M : Nat → Bool) (fuel d : Nat) : zCf := @Nat.rec (fun _ => zCf) (fun j n e h as k => zouK M n e h as k (SL j) false) (fun _ ih j n e h as k => zouK M n e h as k (SL j) (@Bool.rec (fun _ => Bool) false (zin Bd Z Mt M ih fuel j n e h as k) (IL j))) d
theorem zOO_ok {SL : Nat → List ab_Sm} {IL : Nat → Bool} {Bd : ab_Bd} {Z : ab_Ms} {Mt : ab_Mt} {M : Nat → Bool} {fuel : Nat} : ∀ d, zCr (zOL SL IL Bd Z Mt M fuel d) (zOO SL IL Bd Z Mt M fuel d)
  | 0 => fun j n e h as k hk => zouK_ok (d := false) (fun q => by cases q) (l := SL j) hk
  | d + 1 => fun j n e h as k hk => zouK_ok (d := @Bool.rec (fun _ => Bool) false (zin Bd Z Mt M (zOO SL IL Bd Z Mt M fuel d) fuel j n e h as k) (IL j)) (dl := bif IL j then ab_inl Bd Z Mt M (zOL SL IL Bd Z Mt M fuel d) fuel j n e h as else none) (fun q => by
    obtain ⟨q1, q2⟩ := zl_b q
    rw [q1]
    exact zin_ok (zOO_ok d) q2) (l := SL j) hk
/-- the places at which it is known what holds -/
def zspl (n : Nat) (h : ab_AH) (L sk : List ab_SV) (k : ab_En → Bool) (sp : List (Nat × Int)) (e : ab_En) : Bool := @List.rec (Nat × Int) (fun _ => ab_En → Bool) (fun e => k e) (fun q _ ih e => @Option.rec (Nat × ab_Q) (fun _ => Bool) (ih e) (fun x => @Bool.rec (fun _ => Bool) (ih e) (zand (ih (ab_cutE x.1 x.2 (x.2.1, Int.sub q.2 (.ofNat 1)) e)) (ih (ab_cutE x.1 x.2 (q.2, x.2.2.1) e))) (ab_le (Int.add x.2.1 (.ofNat 1)) q.2 && ab_le q.2 x.2.2.1)) (ab_lid e L q.1)) sp e
theorem zspl_ok {n : Nat} {h : ab_AH} {L sk : List ab_SV} {k : ab_En → Bool} : ∀ {sp : List (Nat × Int)} {e : ab_En}, zspl n h L sk k sp e = true → ∀ st ∈ ab_spl sp (n, e, h, L, sk), ∃ e', st = (n, e', h, L, sk) ∧ k e' = true
  | [], e, hk, st, hs => ⟨e, List.mem_singleton.mp hs, hk⟩
  | q :: r, e, hk, st, hs => by
    have hk : @Option.rec (Nat × ab_Q) (fun _ => Bool) (zspl n h L sk k r e) (fun x => @Bool.rec (fun _ => Bool) (zspl n h L sk k r e) (zand (zspl n h L sk k r (ab_cutE x.1 x.2 (x.2.1, Int.sub q.2 (.ofNat 1)) e)) (zspl n h L sk k r (ab_cutE x.1 x.2 (q.2, x.2.2.1) e))) (ab_le (Int.add x.2.1 (.ofNat 1)) q.2 && ab_le q.2 x.2.2.1)) (ab_lid e L q.1) = true := hk
    rw [ab_spl] at hs
    cases hx : ab_lid e L q.1 with
    | none =>
      rw [hx] at hk
      simp only [hx] at hs
      exact zspl_ok hk st hs
    | some x =>
      rw [hx] at hk
      simp only [hx] at hs
      have hk : @Bool.rec (fun _ => Bool) (zspl n h L sk k r e) (zand (zspl n h L sk k r (ab_cutE x.1 x.2 (x.2.1, Int.sub q.2 (.ofNat 1)) e)) (zspl n h L sk k r (ab_cutE x.1 x.2 (q.2, x.2.2.1) e))) (ab_le (Int.add x.2.1 (.ofNat 1)) q.2 && ab_le q.2 x.2.2.1) = true := hk
      cases hb : (ab_le (Int.add x.2.1 (.ofNat 1)) q.2 && ab_le q.2 x.2.2.1) with
      | true =>
        rw [hb] at hk hs
        have hk : zand (zspl n h L sk k r (ab_cutE x.1 x.2 (x.2.1, Int.sub q.2 (.ofNat 1)) e)) (zspl n h L sk k r (ab_cutE x.1 x.2 (q.2, x.2.2.1) e)) = true := hk
        rw [zand_iff] at hk
        simp only [cond_true] at hs
        rcases List.mem_append.mp hs with hs | hs
        · exact zspl_ok hk.1 st hs
        · exact zspl_ok hk.2 st hs
      | false =>
        rw [hb] at hk hs
        exact zspl_ok hk st hs
def zleR (e : ab_En) (v : Option ab_SV) (t : Option ab_TV) : Bool := @Option.rec ab_SV (fun _ => Bool) (@Option.rec ab_TV (fun _ => Bool) true (fun _ => false) t) (fun v => @Option.rec ab_TV (fun _ => Bool) false (fun t => zleV e v t) t) v
theorem zleR_ok {e : ab_En} {v : Option ab_SV} {t : Option ab_TV} (h : zleR e v t = true) : ab_leR e v t = true := by
  match v, t, h with
  | none, none, _ => rfl
  | some v, some t, h => exact zleV_ok h
  | none, some _, h => cases h
  | some _, none, h => cases h
def zpst (rt : Option FieldType) (i : Instr) (posts : List ab_Pt) (as : List ab_SV) (e : ab_En) (h : ab_AH) (sk : List ab_SV) : Bool := zfin rt i e sk (fun rv => zany (fun po => @Bool.rec (fun _ => Bool) false (@Bool.rec (fun _ => Bool) false (zleH e h po.2.2) (zleR e rv po.2.1)) (zleAg e as po.1)) posts)
theorem zpst_ok {rt : Option FieldType} {i : Instr} {posts : List ab_Pt} {as : List ab_SV} {n : Nat} {e : ab_En} {h : ab_AH} {L sk : List ab_SV} (hk : zpst rt i posts as e h sk = true) : ab_pst rt i posts as (n, e, h, L, sk) = true := by
  obtain ⟨rv, h1, h2⟩ := zfin_ok (n := n) (h := h) (L := L) hk
  unfold ab_pst
  rw [h1]
  rw [zany_eq, List.any_eq_true] at h2
  obtain ⟨po, hpo, h2⟩ := h2
  obtain ⟨h3, h2⟩ := zl_b h2
  obtain ⟨h4, h5⟩ := zl_b h2
  show posts.any _ = true
  rw [List.any_eq_true]
  refine ⟨po, hpo, ?_⟩
  show (ab_leAg e as po.1 && (ab_leR e rv po.2.1 && ab_leH e h po.2.2)) = true
  rw [zleAg_ok h3, zleR_ok h4, zleH_ok h5]; rfl
def zarr (as : List ab_SV) (e : ab_En) (h : ab_AH) (L sk : List ab_SV) (a : ab_An) : Bool := @Bool.rec (fun _ => Bool) false (@Bool.rec (fun _ => Bool) false (@Bool.rec (fun _ => Bool) false (zleAg e as a.2.2.2.2.1) (zleH e h a.2.2.2.1)) (zleVs e sk a.2.2.1)) (zleVs e L a.2.1)
theorem zarr_ok {as : List ab_SV} {n : Nat} {e : ab_En} {h : ab_AH} {L sk : List ab_SV} {a : ab_An} (hk : zarr as e h L sk a = true) : ab_arr as (n, e, h, L, sk) a = true := by
  obtain ⟨h1, hk⟩ := zl_b hk
  obtain ⟨h2, hk⟩ := zl_b hk
  obtain ⟨h3, h4⟩ := zl_b hk
  unfold ab_arr
  rw [zleVs_ok h1, zleVs_ok h2, zleH_ok h3, zleAg_ok h4]; rfl
def zter (tb : List zRow) (rt : Option FieldType) (posts : List ab_Pt) (as : List ab_SV) (cand : Nat → ab_St → List ab_An) (sp : Nat → List (Nat × Int)) (fr : Option (ab_En × List ab_SV × List (Int × Int × Nat))) : zK := fun pc n e h L sk => @Option.rec (Instr × Nat) (fun _ => Bool) false (fun q => @Bool.rec (fun _ => Bool) (zspl n h L sk (fun e' => zany (fun a => @Bool.rec (fun _ => Bool) false (@Bool.rec (fun _ => Bool) false (@Option.rec (ab_En × List ab_SV × List (Int × Int × Nat)) (fun _ => Bool) true (fun f => ab_dec f.1 f.2.1 f.2.2 e' L a.2.2.2.2.2) fr) (zarr as e' h L sk a)) (Nat.beq a.1 pc)) (cand pc (n, e', h, L, sk))) (sp pc) e) (@Bool.rec (fun _ => Bool) false (zpst rt q.1 posts as e h sk) (Nat.beq q.2 1)) (zret q.1)) (ab_lk tb pc)
theorem zter_ok {tb : List zRow} {rt : Option FieldType} {posts : List ab_Pt} {as : List ab_SV} {cand : Nat → ab_St → List ab_An} {sp : Nat → List (Nat × Int)} {fr : Option (ab_En × List ab_SV × List (Int × Int × Nat))} {w : Nat × ab_St} (hk : zKs (zter tb rt posts as cand sp fr) w = true) : ab_ter tb rt posts as cand sp fr w = true := by
  obtain ⟨pc, n, e, h, L, sk⟩ := w
  obtain ⟨q, hq, hk⟩ := zl_o (o := ab_lk tb pc) hk
  unfold ab_ter
  simp only [hq]
  have hk := hk
  rcases zl_i hk with ⟨hr, hk⟩ | ⟨hr, hk⟩
  all_goals rw [zret_eq] at hr
  · obtain ⟨h1, h2⟩ := zl_b hk
    rw [hr, h1, zpst_ok (n := n) (L := L) h2]; rfl
  · rw [hr]
    simp only [cond_false]
    rw [List.all_eq_true]
    intro st hst
    obtain ⟨e', rfl, h1⟩ := zspl_ok hk st hst
    rw [zany_eq, List.any_eq_true] at h1
    obtain ⟨a, ha, h1⟩ := h1
    obtain ⟨h2, h1⟩ := zl_b h1
    obtain ⟨h3, h4⟩ := zl_b h1
    rw [List.any_eq_true]
    refine ⟨a, ha, ?_⟩
    rw [h2, zarr_ok (n := n) h3]
    cases fr with
    | none => rfl
    | some f => exact h4
def zchk0 (tb : List zRow) (dc : Instr → Nat → Nat → Option zF) (rt : Option FieldType) (nL : Nat) (S : ab_Sm) (pcs : List Nat) (cand : Nat → ab_St → List ab_An) (sp : Nat → List (Nat × Int)) (fuel : Nat) : Bool := zinVs S.1 0 [] (fun svs n1 e1 => zinH S.2.1 n1 e1 (fun h n0 e0 => @Bool.rec (fun _ => Bool) false (@Bool.rec (fun _ => Bool) false (zrun tb pcs dc (zter tb rt S.2.2.1 svs cand sp none) fuel [] 0 n0 e0 h (ab_ent e0 svs nL) []) (Nat.ble (ab_lay e0 svs).length nL)) (zall (ab_kn e0) svs)))
theorem zchk0_ok {tb : List zRow} {dc : Instr → Nat → Nat → Option zF} {stp : Instr → Nat → Nat → ab_St → Option (List (Nat × ab_St))} (hdc : ∀ i len pc g, dc i len pc = some g → zSp g (stp i len pc)) {rt : Option FieldType} {nL : Nat} {S : ab_Sm} {pcs : List Nat} {cand : Nat → ab_St → List ab_An} {sp : Nat → List (Nat × Int)} {fuel : Nat} (hk : zchk0 tb dc rt nL S pcs cand sp fuel = true) : ab_chk0 tb stp rt nL S pcs cand sp fuel = true := by
  unfold zchk0 at hk
  simp only [zinVs_eq, zinH_eq] at hk
  obtain ⟨h1, hk⟩ := zl_b hk
  obtain ⟨h2, hk⟩ := zl_b hk
  obtain ⟨ts, h3, h4⟩ := zrun_ok hdc hk
  rw [zall_eq] at h1
  unfold ab_chk0
  show (((ab_inVs S.1 0 []).1.all (ab_kn _) && Nat.ble _ nL) && (match ab_run _ _ _ _ _ _ with
    | some ts => ts.all (ab_ter tb rt S.2.2.1 (ab_inVs S.1 0 []).1 cand sp none)
    | none => false)) = true
  have h3 : ab_run tb pcs stp fuel 0 ((ab_inH S.2.1 (ab_inVs S.1 0 []).2.1 (ab_inVs S.1 0 []).2.2).2.1, (ab_inH S.2.1 (ab_inVs S.1 0 []).2.1 (ab_inVs S.1 0 []).2.2).2.2, (ab_inH S.2.1 (ab_inVs S.1 0 []).2.1 (ab_inVs S.1 0 []).2.2).1, ab_ent (ab_inH S.2.1 (ab_inVs S.1 0 []).2.1 (ab_inVs S.1 0 []).2.2).2.2 (ab_inVs S.1 0 []).1 nL, []) = some ts := h3
  rw [h1, h2, h3]
  show ts.all _ = true
  rw [List.all_eq_true]
  exact fun w hw => zter_ok (h4 w hw)
def ziA (n0 : Nat) (as : List ab_SV) (a : ab_An) (k : Nat → ab_En → ab_AH → List ab_SV → List ab_SV → Bool) : Bool := zinVs a.2.1 n0 (ab_argE as a.2.2.2.2.1) (fun Ls n1 e1 => zinVs a.2.2.1 n1 e1 (fun Sk n2 e2 => zinH a.2.2.2.1 n2 e2 (fun h n3 e3 => k n3 e3 h Ls Sk)))
theorem ziA_eq {n0 : Nat} {as : List ab_SV} {a : ab_An} {k : Nat → ab_En → ab_AH → List ab_SV → List ab_SV → Bool} : ziA n0 as a k = k (ab_iA n0 as a).1 (ab_iA n0 as a).2.1 (ab_iA n0 as a).2.2.1 (ab_iA n0 as a).2.2.2.1 (ab_iA n0 as a).2.2.2.2 := by
  unfold ziA
  simp only [zinVs_eq, zinH_eq]; rfl
def zchk1b (tb : List zRow) (dc : Instr → Nat → Nat → Option zF) (rt : Option FieldType) (nL : Nat) (S : ab_Sm) (pcs : List Nat) (cand : Nat → ab_St → List ab_An) (sp : Nat → List (Nat × Int)) (fuel : Nat) (a : ab_An) (svs : List ab_SV) (n0 : Nat) : Bool := @Bool.rec (fun _ => Bool) false (ziA n0 svs a (fun n e h Ls Sk => zrun tb pcs dc (zter tb rt S.2.2.1 svs cand sp (some (e, Ls, a.2.2.2.2.2))) fuel [] a.1 n e h Ls Sk)) (Nat.beq (zlen a.2.1) nL)
def zchk1 (tb : List zRow) (dc : Instr → Nat → Nat → Option zF) (rt : Option FieldType) (nL : Nat) (S : ab_Sm) (pcs : List Nat) (cand : Nat → ab_St → List ab_An) (sp : Nat → List (Nat × Int)) (fuel : Nat) (a : ab_An) : Bool := zchk1b tb dc rt nL S pcs cand sp fuel a (ab_en S).1 (ab_en S).2.2.1
theorem zchk1_ok {tb : List zRow} {dc : Instr → Nat → Nat → Option zF} {stp : Instr → Nat → Nat → ab_St → Option (List (Nat × ab_St))} (hdc : ∀ i len pc g, dc i len pc = some g → zSp g (stp i len pc)) {rt : Option FieldType} {nL : Nat} {S : ab_Sm} {pcs : List Nat} {cand : Nat → ab_St → List ab_An} {sp : Nat → List (Nat × Int)} {fuel : Nat} {a : ab_An} (hk : zchk1 tb dc rt nL S pcs cand sp fuel a = true) : ab_chk1 tb stp rt nL S pcs cand sp fuel a = true := by
  unfold zchk1 zchk1b at hk
  simp only [ziA_eq] at hk
  obtain ⟨h1, hk⟩ := zl_b hk
  obtain ⟨ts, h3, h4⟩ := zrun_ok hdc hk
  rw [zlen_eq] at h1
  unfold ab_chk1
  show (Nat.beq a.2.1.length nL && (match ab_run tb pcs stp fuel a.1 (ab_iA (ab_en S).2.2.1 (ab_en S).1 a) with
    | some ts => ts.all (ab_ter tb rt S.2.2.1 (ab_en S).1 cand sp (some ((ab_iA (ab_en S).2.2.1 (ab_en S).1 a).2.1, (ab_iA (ab_en S).2.2.1 (ab_en S).1 a).2.2.2.1, a.2.2.2.2.2)))
    | none => false)) = true
  have h3 : ab_run tb pcs stp fuel a.1 (ab_iA (ab_en S).2.2.1 (ab_en S).1 a) = some ts := h3
  rw [h1, h3]
  show ts.all _ = true
  rw [List.all_eq_true]
  exact fun w hw => zter_ok (h4 w hw)
end
