noncomputable section
def ab_leAg (e : ab_En) : List ab_SV → List (Option ab_Iv) → Bool
  | v :: vs, some w :: r => (match ab_num e false v with
    | some x => ab_le w.1 x.2.1 && ab_le x.2.2.1 w.2
    | none => false) && ab_leAg e vs r
  | _ :: vs, none :: r => ab_leAg e vs r
  | _, _ => true
theorem ab_leAg_ok {ρ : Nat → Value} {n : Nat} {ad : List Nat} {tS : Nat} {e : ab_En} (he : ab_env ρ n e) : ∀ {as : List ab_SV} {iv : List (Option ab_Iv)} {xs : List Value}, ab_all2 (ab_val ρ n ad tS) as xs → ab_leAg e as iv = true → ab_ag iv xs
  | [], [], [], _, _ => trivial
  | [], none :: _, [], _, _ => trivial
  | [], some _ :: _, [], _, _ => trivial
  | _ :: _, [], _ :: _, _, _ => trivial
  | v :: vs, none :: r, x :: xs, h, k => by
    rw [ab_leAg] at k
    show ab_ag r xs
    exact ab_leAg_ok (as := vs) he h.2 k
  | v :: vs, some w :: r, x :: xs, h, k => by
    rw [ab_leAg, Bool.and_eq_true] at k
    obtain ⟨k1, k2⟩ := k
    split at k1
    · rename_i q hq
      rw [Bool.and_eq_true, ab_le_iff, ab_le_iff] at k1
      obtain ⟨y, hy, -, -, h1, h2, -⟩ := ab_inQ_of he hq h.1
      exact ⟨⟨y, hy, by omega, by omega⟩, ab_leAg_ok (as := vs) he h.2 k2⟩
    · cases k1
  | [], _, _ :: _, h, _ => h.elim
  | _ :: _, _, [], h, _ => h.elim
def ab_argE : List ab_SV → List (Option ab_Iv) → ab_En
  | some (.inl i) :: vs, some w :: r => (i, false, w.1, w.2, i, .ofNat 0) :: ab_argE vs r
  | _ :: vs, _ :: r => ab_argE vs r
  | _, _ => []
theorem ab_argE_ok {ρ : Nat → Value} {n : Nat} {ad : List Nat} {tS : Nat} : ∀ {as : List ab_SV} {iv : List (Option ab_Iv)} {xs : List Value}, ab_all2 (ab_val ρ n ad tS) as xs → ab_ag iv xs → ab_env ρ n (ab_argE as iv)
  | [], iv, _, _, _ => by cases iv <;> (intro q hq; simp [ab_argE] at hq)
  | _ :: _, [], _, _, _ => by intro q hq; simp [ab_argE] at hq
  | some (.inl i) :: vs, some w :: r, x :: xs, h, k => by
    obtain ⟨⟨y, hy, y1, y2⟩, k2⟩ := k
    have ih := ab_argE_ok (as := vs) h.2 k2
    intro q hq
    rw [ab_argE] at hq
    rcases List.mem_cons.mp hq with rfl | hq
    · have hi := h.1
      refine ⟨hi.1, hi.1, Or.inr ⟨rfl, y, by rw [← hi.2]; exact hy, y1, y2, y, by show ρ i = _; rw [← hi.2]; exact hy, by simp⟩⟩
    · exact ih q hq
  | some (.inl i) :: vs, none :: r, x :: xs, h, k => by
    have ih := ab_argE_ok (as := vs) h.2 k
    intro q hq
    exact ih q (by simpa [ab_argE] using hq)
  | none :: vs, o :: r, x :: xs, h, k => by
    have ih := ab_argE_ok (as := vs) (iv := r) h.2 (by cases o with
      | none => exact k
      | some w => exact k.2)
    intro q hq
    exact ih q (by simpa [ab_argE] using hq)
  | some (.inr u) :: vs, o :: r, x :: xs, h, k => by
    have ih := ab_argE_ok (as := vs) (iv := r) h.2 (by cases o with
      | none => exact k
      | some w => exact k.2)
    intro q hq
    exact ih q (by simpa [ab_argE] using hq)
  | _ :: _, _ :: _, [], h, _ => h.elim
def ab_iA (n0 : Nat) (as : List ab_SV) (a : ab_An) : ab_St := match ab_inVs a.2.1 n0 (ab_argE as a.2.2.2.2.1) with
  | (Ls, n1, e1) => match ab_inVs a.2.2.1 n1 e1 with
    | (Sk, n2, e2) => match ab_inH a.2.2.2.1 n2 e2 with
      | (h, n3, e3) => (n3, e3, h, Ls, Sk)
theorem ab_inVs_get : ∀ {ts : List ab_TV} {n : Nat} {e : ab_En}, (ab_inVs ts n e).1.length = ts.length ∧ ∀ (i : Nat) v, (ab_inVs ts n e).1[i]? = some (some v) → ∃ t, ts[i]? = some (some t)
  | [], n, e => ⟨rfl, fun i v h => by simp [ab_inVs] at h⟩
  | t :: r, n, e => by
    obtain ⟨h1, h2⟩ := ab_inVs_get (ts := r) (n := (ab_inV t n e).2.1) (e := (ab_inV t n e).2.2)
    refine ⟨by show (ab_inVs r _ _).1.length + 1 = r.length + 1; rw [← h1]; rfl, fun i v hv => ?_⟩
    match i, hv with
    | 0, hv =>
      have hv2 : some (ab_inV t n e).1 = some (some v) := hv
      have hv3 : (ab_inV t n e).1 = some v := Option.some.inj hv2
      cases t with
      | none => cases hv3
      | some u => exact ⟨u, rfl⟩
    | i + 1, hv => exact h2 i v hv
def ab_slv (ls : Array Slot) (i : Nat) : Value := match ls[i]? with
  | some (Slot.val v) => v
  | _ => .null
def ab_xs (ls : Array Slot) : Nat → Nat → List Value
  | _, 0 => []
  | b, k + 1 => ab_slv ls b :: ab_xs ls (b + 1) k
theorem ab_xs_get {ls : Array Slot} : ∀ {k b i : Nat}, i < k → (ab_xs ls b k)[i]? = some (ab_slv ls (b + i))
  | 0, b, i, h => by omega
  | k + 1, b, 0, h => rfl
  | k + 1, b, i + 1, h => by
    have := ab_xs_get (ls := ls) (k := k) (b := b + 1) (i := i) (by omega)
    rw [show b + (i + 1) = b + 1 + i by omega]
    exact this
theorem ab_xs_tl {ls : Array Slot} {ad : List Nat} {tS : Nat} : ∀ {ts : List ab_TV} {b : Nat}, (∀ (i : Nat) t, ts[i]? = some (some t) → ∃ x : Value, ls[b + i]? = some (Slot.val x) ∧ ab_tv ad tS (some t) x) → ab_tl ad tS ts (ab_xs ls b ts.length)
  | [], b, _ => trivial
  | t :: r, b, h => by
    refine ⟨?_, ab_xs_tl (ts := r) (b := b + 1) (fun i u hu => ?_)⟩
    · cases t with
      | none => trivial
      | some u =>
        obtain ⟨x, h1, h2⟩ := h 0 u rfl
        have e1 : ab_slv ls b = x := by
          unfold ab_slv
          rw [show ls[b]? = some (Slot.val x) from h1]
        rw [e1]
        exact h2
    · obtain ⟨x, h1, h2⟩ := h (i + 1) u (by simpa using hu)
      exact ⟨x, by rw [show b + 1 + i = b + (i + 1) by omega]; exact h1, h2⟩
/-- what holds at such a point -/
def ab_Se (M : Nat → Bool) (tS : Nat) (tys : List (ClassId × FieldType)) (nL : Nat) (ws : va_W) (vs : List Value) (a : ab_An) (ls : Array Slot) (stk : List Value) (w : va_W) : Prop :=
  ab_gr M ws w ∧ ls.size = nL ∧ lv_wf ls ∧ (∀ (i : Nat) t, a.2.1[i]? = some (some t) → ∃ x : Value, ls[i]? = some (Slot.val x) ∧ ab_tv (w.map (·.1)) tS (some t) x) ∧ ab_tl (w.map (·.1)) tS a.2.2.1 stk ∧ ab_th tS tys a.2.2.2.1 w ∧ ab_ag a.2.2.2.2.1 vs
theorem ab_Se_sat {M : Nat → Bool} {tS : Nat} {tys : List (ClassId × FieldType)} {nL n0 : Nat} {ws : va_W} {vs : List Value} {a : ab_An} {ls : Array Slot} {stk : List Value} {w : va_W} {ρ0 : Nat → Value} {as : List ab_SV} {ad : List Nat} (hL : a.2.1.length = nL) (hv : ab_all2 (ab_val ρ0 n0 ad tS) as vs) (h : ab_Se M tS tys nL ws vs a ls stk w) : ∃ ρ, ab_ext ρ0 ρ n0 (ab_iA n0 as a).1 ∧ ab_sat ρ tS tys nL (ab_iA n0 as a) ls stk w := by
  obtain ⟨h1, h2, h3, h4, h5, h6, h7⟩ := h
  have he := ab_argE_ok hv h7
  obtain ⟨ρ1, x1, x2, x3⟩ := ab_inVs_ok (vs := a.2.1) he (ab_xs_tl (ls := ls) (b := 0) (fun i t ht => by rw [Nat.zero_add]; exact h4 i t ht))
  obtain ⟨ρ2, y1, y2, y3⟩ := ab_inVs_ok (vs := a.2.2.1) x2 h5
  obtain ⟨ρ3, z1, z2, z3⟩ := ab_inH_ok (h := a.2.2.2.1) y2 h6
  refine ⟨ρ3, x1.trans (y1.trans z1), z2, z3, ⟨h2, h3, ?_, fun i v hiv => ?_⟩, ab_stk_ext z1 y3⟩
  · show (ab_inVs a.2.1 n0 (ab_argE as a.2.2.2.2.1)).1.length = nL
    rw [ab_inVs_get.1]; exact hL
  · have hiv2 : (ab_inVs a.2.1 n0 (ab_argE as a.2.2.2.2.1)).1[i]? = some (some v) := hiv
    obtain ⟨t, ht⟩ := ab_inVs_get.2 i v hiv2
    obtain ⟨x, g1, g2⟩ := h4 i t ht
    obtain ⟨x', k1, k2⟩ := ab_all2_get x3 hiv2
    have hlt : i < a.2.1.length := (List.getElem?_eq_some_iff.mp ht).1
    rw [ab_xs_get hlt, Nat.zero_add] at k1
    have e1 : ab_slv ls i = x := by
      unfold ab_slv
      rw [g1]
    rw [e1] at k1
    cases k1
    exact ⟨x, g1, ab_val_ext (y1.trans z1) k2⟩
def ab_arr (as : List ab_SV) (st : ab_St) (a : ab_An) : Bool := ab_leVs st.2.1 st.2.2.2.1 a.2.1 && (ab_leVs st.2.1 st.2.2.2.2 a.2.2.1 && (ab_leH st.2.1 st.2.2.1 a.2.2.2.1 && ab_leAg st.2.1 as a.2.2.2.2.1))
theorem ab_leVs_get {e : ab_En} : ∀ {vs : List ab_SV} {ts : List ab_TV}, ab_leVs e vs ts = true → ∀ (i : Nat) t, ts[i]? = some t → ∃ v, vs[i]? = some v ∧ ab_leV e v t = true
  | [], [], _, i, t, h => by simp at h
  | v :: vs, u :: ts, hl, i, t, h => by
    rw [ab_leVs, Bool.and_eq_true] at hl
    match i, h with
    | 0, h => simp at h; subst h; exact ⟨v, rfl, hl.1⟩
    | i + 1, h => exact ab_leVs_get hl.2 i t (by simpa using h)
  | [], _ :: _, hl, _, _, _ => by simp [ab_leVs] at hl
  | _ :: _, [], hl, _, _, _ => by simp [ab_leVs] at hl
theorem ab_leV_some {e : ab_En} {t : (Bool × Int × Int) ⊕ (List Nat ⊕ Unit)} : ab_leV e none (some t) = false := by
  match t with
  | .inl q => rfl
  | .inr (.inl ks) => rfl
  | .inr (.inr _) => rfl
theorem ab_arr_ok {M : Nat → Bool} {tS : Nat} {cs : Nat → ClassId} {nL n0 : Nat} {ws : va_W} {vs : List Value} {a : ab_An} {ls : Array Slot} {stk : List Value} {w : va_W} {ρ0 ρ : Nat → Value} {as : List ab_SV} {ad : List Nat} {st : ab_St} (hv : ab_all2 (ab_val ρ0 n0 ad tS) as vs) (hx : ab_ext ρ0 ρ n0 st.1) (hg : ab_gr M ws w) (S : ab_sat ρ tS (ab_tys cs) nL st ls stk w) (h : ab_arr as st a = true) : ab_Se M tS (ab_tys cs) nL ws vs a ls stk w := by
  unfold ab_arr at h
  rw [Bool.and_eq_true, Bool.and_eq_true, Bool.and_eq_true] at h
  obtain ⟨h1, h2, h3, h4⟩ := h
  refine ⟨hg, S.2.2.1.1, S.2.2.1.2.1, fun i t ht => ?_, ab_leVs_ok S.1 h2 S.2.2.2, ab_leH_ok S.1 h3 S.2.1, ab_leAg_ok S.1 (ab_stk_ext hx hv) h4⟩
  obtain ⟨v, g1, g2⟩ := ab_leVs_get h1 i _ ht
  cases v with
  | none => rw [ab_leV_some] at g2; cases g2
  | some u =>
    obtain ⟨x, k1, k2⟩ := S.2.2.1.2.2.2 i u g1
    exact ⟨x, k1, ab_leV_ok S.1 g2 k2⟩
/-- a state cut in two at a value of a local -/
def ab_spl : List (Nat × Int) → ab_St → List ab_St
  | [], st => [st]
  | q :: r, st => match ab_lid st.2.1 st.2.2.2.1 q.1 with
    | some x => bif ab_le (Int.add x.2.1 (.ofNat 1)) q.2 && ab_le q.2 x.2.2.1 then ab_spl r (st.1, ab_cutE x.1 x.2 (x.2.1, Int.sub q.2 (.ofNat 1)) st.2.1, st.2.2) ++ ab_spl r (st.1, ab_cutE x.1 x.2 (q.2, x.2.2.1) st.2.1, st.2.2) else ab_spl r st
    | none => ab_spl r st
theorem ab_spl_ok {ρ : Nat → Value} {tS nL : Nat} {tys : List (ClassId × FieldType)} {ls : Array Slot} {stk : List Value} {w : va_W} : ∀ {sp : List (Nat × Int)} {st : ab_St}, ab_sat ρ tS tys nL st ls stk w → ∃ st' ∈ ab_spl sp st, st'.1 = st.1 ∧ ab_sat ρ tS tys nL st' ls stk w
  | [], st, S => ⟨st, List.mem_cons_self, rfl, S⟩
  | q :: r, st, S => by
    rw [ab_spl]
    split
    · rename_i x hx
      cases hb : (ab_le (Int.add x.2.1 (.ofNat 1)) q.2 && ab_le q.2 x.2.2.1) with
      | false => exact ab_spl_ok S
      | true =>
        obtain ⟨y, y1, y2, y3, y4⟩ := ab_lid_ok S.1 S.2.2.1 hx
        simp only [cond_true]
        by_cases hlt : y.toInt < q.2
        · obtain ⟨st', h1, h2, h3⟩ := ab_spl_ok (sp := r) (st := (st.1, ab_cutE x.1 x.2 (x.2.1, Int.sub q.2 (.ofNat 1)) st.2.1, st.2.2)) ⟨ab_cutE_ok S.1 y3 y2 y4 y4.1 (by rw [ab_subE, ab_of1]; simp only; omega), S.2⟩
          exact ⟨st', List.mem_append_left _ h1, h2, h3⟩
        · obtain ⟨st', h1, h2, h3⟩ := ab_spl_ok (sp := r) (st := (st.1, ab_cutE x.1 x.2 (q.2, x.2.2.1) st.2.1, st.2.2)) ⟨ab_cutE_ok S.1 y3 y2 y4 (by simp only; omega) y4.2.1, S.2⟩
          exact ⟨st', List.mem_append_right _ h1, h2, h3⟩
    · exact ab_spl_ok S
def ab_leR (e : ab_En) (v : Option ab_SV) (t : Option ab_TV) : Bool := match v, t with
  | none, none => true
  | some v, some t => ab_leV e v t
  | _, _ => false
def ab_pst (rt : Option FieldType) (i : Instr) (posts : List ab_Pt) (as : List ab_SV) (st : ab_St) : Bool := match ab_fin rt i st with
  | some rv => posts.any (fun po => ab_leAg st.2.1 as po.1 && (ab_leR st.2.1 rv po.2.1 && ab_leH st.2.1 st.2.2.1 po.2.2))
  | none => false
def ab_ter (tb : List (Nat × Instr × Nat)) (rt : Option FieldType) (posts : List ab_Pt) (as : List ab_SV) (cand : Nat → ab_St → List ab_An) (sp : Nat → List (Nat × Int)) (fr : Option (ab_En × List ab_SV × List (Int × Int × Nat))) (w : Nat × ab_St) : Bool := match ab_lk tb w.1 with
  | none => false
  | some q => bif ab_ret q.1 then Nat.beq q.2 1 && ab_pst rt q.1 posts as w.2 else (ab_spl (sp w.1) w.2).all (fun st => (cand w.1 st).any (fun a => Nat.beq a.1 w.1 && (ab_arr as st a && (match fr with
    | none => true
    | some f => ab_dec f.1 f.2.1 f.2.2 st.2.1 st.2.2.2.1 a.2.2.2.2.2))))
def ab_en (S : ab_Sm) : List ab_SV × ab_AH × Nat × ab_En := match ab_inVs S.1 0 [] with
  | (svs, n1, e1) => match ab_inH S.2.1 n1 e1 with
    | (h, n0, e0) => (svs, h, n0, e0)
def ab_chk0 (tb : List (Nat × Instr × Nat)) (stp : Instr → Nat → Nat → ab_St → Option (List (Nat × ab_St))) (rt : Option FieldType) (nL : Nat) (S : ab_Sm) (pcs : List Nat) (cand : Nat → ab_St → List ab_An) (sp : Nat → List (Nat × Int)) (fuel : Nat) : Bool := match ab_en S with
  | (svs, h, n0, e0) => (svs.all (ab_kn e0) && Nat.ble (ab_lay e0 svs).length nL) && (match ab_run tb pcs stp fuel 0 (n0, e0, h, ab_ent e0 svs nL, []) with
    | some ts => ts.all (ab_ter tb rt S.2.2.1 svs cand sp none)
    | none => false)
def ab_chk1 (tb : List (Nat × Instr × Nat)) (stp : Instr → Nat → Nat → ab_St → Option (List (Nat × ab_St))) (rt : Option FieldType) (nL : Nat) (S : ab_Sm) (pcs : List Nat) (cand : Nat → ab_St → List ab_An) (sp : Nat → List (Nat × Int)) (fuel : Nat) (a : ab_An) : Bool := match ab_en S with
  | (svs, _, n0, _) => Nat.beq a.2.1.length nL && (match ab_run tb pcs stp fuel a.1 (ab_iA n0 svs a) with
    | some ts => ts.all (ab_ter tb rt S.2.2.1 svs cand sp (some ((ab_iA n0 svs a).2.1, (ab_iA n0 svs a).2.2.2.1, a.2.2.2.2.2)))
    | none => false)
theorem ab_chk_ok {l : Launch} {Z : ab_Ms} {Mt : ab_Mt} {wF : List Cond × List Cond} {bF : ByteArray × ByteArray} {D : va_G} {cl : List vw_C} {cs : Nat → ClassId} {tS d0 j fuel : Nat} {Bd : ab_Bd} {O : ab_Cf} {S : ab_Sm} {anns : List ab_An} {pcs : List Nat} {cand : Nat → ab_St → List ab_An} {sp : Nat → List (Nat × Int)} (hGl : ab_Gl l Z wF D cl cs tS) (hG : ab_GOK Z Mt wF bF cl Bd j) (h1 : 1 ≤ d0) (CO : ab_CO l Z d0 D cl cs tS (fun k => ab_mem k S.2.2.2) O) (hcd : ∀ pc st a, a ∈ cand pc st → a ∈ anns)
    (hc0 : ab_chk0 (Bd j).1 (ab_step (Bd j).2.1 Mt O (Z.2.2.1 j) (fun k => ab_mem k S.2.2.2) (Bd j).2.2) (Z.2.2.2.1 j) (Z.2.2.1 j) S pcs cand sp fuel = true)
    (hc1 : ∀ a ∈ anns, ab_chk1 (Bd j).1 (ab_step (Bd j).2.1 Mt O (Z.2.2.1 j) (fun k => ab_mem k S.2.2.2) (Bd j).2.2) (Z.2.2.2.1 j) (Z.2.2.1 j) S pcs cand sp fuel a = true) : ab_SOK l Z (d0 + 1) D cl cs tS j S := by
  intro ws vs htl hth
  refine ⟨d0 + 1, Nat.le_refl _, ab_Ct_of hG.1 (fun p ev s m below meth c A X => ?_)⟩
  obtain ⟨ρ1, x1, x2, x3⟩ := ab_inVs_ok (ρ := fun _ => .null) (n := 0) (e := []) (fun q hq => by cases hq) htl
  obtain ⟨ρ0, y1, y2, y3⟩ := ab_inH_ok x2 hth
  have hen : ab_en S = ((ab_inVs S.1 0 []).1, (ab_inH S.2.1 (ab_inVs S.1 0 []).2.1 (ab_inVs S.1 0 []).2.2).1, (ab_inH S.2.1 (ab_inVs S.1 0 []).2.1 (ab_inVs S.1 0 []).2.2).2.1, (ab_inH S.2.1 (ab_inVs S.1 0 []).2.1 (ab_inVs S.1 0 []).2.2).2.2) := rfl
  have hv : ab_all2 (ab_val ρ0 (ab_inH S.2.1 (ab_inVs S.1 0 []).2.1 (ab_inVs S.1 0 []).2.2).2.1 (ws.map (·.1)) tS) (ab_inVs S.1 0 []).1 vs := ab_stk_ext y1 x3
  generalize (ab_inVs S.1 0 []).1 = svs at hen hv
  generalize (ab_inH S.2.1 (ab_inVs S.1 0 []).2.1 (ab_inVs S.1 0 []).2.2).1 = h0 at hen y3
  generalize (ab_inH S.2.1 (ab_inVs S.1 0 []).2.1 (ab_inVs S.1 0 []).2.2).2.1 = n0 at hen y3 hv y2
  generalize (ab_inH S.2.1 (ab_inVs S.1 0 []).2.1 (ab_inVs S.1 0 []).2.2).2.2 = e0 at hen y2
  have hterm : ∀ (I : (Nat → Value) → Nat → va_W → Prop) (fr : Option (ab_En × List ab_SV × List (Int × Int × Nat))) (w : Nat × ab_St), (∀ ρ n u, I ρ n u → ab_ext ρ0 ρ n0 n ∧ ab_gr (fun k => ab_mem k S.2.2.2) ws u) →
      (∀ a ∈ anns, ∀ ρ ls stk u st, I ρ st.1 u → ab_sat ρ tS (ab_tys cs) (Z.2.2.1 j) st ls stk u → (match fr with
        | none => true
        | some f => ab_dec f.1 f.2.1 f.2.2 st.2.1 st.2.2.2.1 a.2.2.2.2.2) = true → ab_Se (fun k => ab_mem k S.2.2.2) tS (ab_tys cs) (Z.2.2.1 j) ws vs a ls stk u → ab_W p l ev (ab_rm (d0 + 1) 0 0) s m vs.toArray below meth c D cl A (MQ below (ab_Qc D cl cs A (ab_PS tS (ab_tys cs) vs ws S)) vs.toArray s 0 0 A) 0 0 a.1 ls stk u) →
      ab_ter (Bd j).1 (Z.2.2.2.1 j) S.2.2.1 svs cand sp fr w = true → ab_Ok p l ev (ab_rm (d0 + 1) 0 0) s m vs.toArray below meth c D cl A (MQ below (ab_Qc D cl cs A (ab_PS tS (ab_tys cs) vs ws S)) vs.toArray s 0 0 A) I tS (ab_tys cs) (Z.2.2.1 j) 0 0 w.1 w.2 := by
    intro I fr w hI hgo ht ρ ls stk u hi Sa
    obtain ⟨hx0, hgr⟩ := hI _ _ _ hi
    unfold ab_ter at ht
    split at ht
    · cases ht
    · rename_i q hq
      cases hr : ab_ret q.1 with
      | true =>
        rw [hr] at ht
        simp only [cond_true] at ht
        rw [Bool.and_eq_true] at ht
        obtain ⟨t1, t2⟩ := ht
        have e1 : q.2 = 1 := Nat.eq_of_beq_eq_true t1
        obtain ⟨i, len⟩ := q
        simp only at e1
        subst e1
        unfold ab_pst at t2
        split at t2
        · rename_i rv hrv
          obtain ⟨po, hpo, hq2⟩ := List.any_eq_true.mp t2
          rw [Bool.and_eq_true, Bool.and_eq_true] at hq2
          obtain ⟨q1, q2, q3⟩ := hq2
          obtain ⟨hx, hbc, hml, hown, htw, hK, hA, hZ, hT, hrt, hlocks, hname⟩ := X
          refine ab_fin_ok hx hbc hrt hlocks hK (hG.2.1 _ _ _ (ab_lk_mem hq)) rfl hrv Sa (fun x hx2 => ?_)
          refine ⟨hgr, po, hpo, ab_leAg_ok Sa.1 (ab_stk_ext hx0 hv) q1, ?_, ab_leH_ok Sa.1 q3 Sa.2.1⟩
          match rv, po.2.1, x, hx2, q2 with
          | none, none, none, _, _ => trivial
          | some v, some t, some y, hx2, q2 => exact ab_leV_ok Sa.1 q2 hx2
          | none, some _, _, _, q2 => simp [ab_leR] at q2
          | some _, none, _, _, q2 => simp [ab_leR] at q2
          | none, none, some _, hx2, _ => exact hx2.elim
          | some _, some _, none, hx2, _ => exact hx2.elim
        · cases t2
      | false =>
        rw [hr] at ht
        simp only [cond_false] at ht
        obtain ⟨st', s1, s2, s3⟩ := ab_spl_ok (sp := sp w.1) Sa
        have t3 := List.all_eq_true.mp ht st' s1
        obtain ⟨a, ha, t4⟩ := List.any_eq_true.mp t3
        rw [Bool.and_eq_true, Bool.and_eq_true] at t4
        obtain ⟨u1, u2, u3⟩ := t4
        have e1 : a.1 = w.1 := Nat.eq_of_beq_eq_true u1
        rw [← e1]
        exact hgo a (hcd _ _ _ ha) ρ ls stk u st' (by rw [s2]; exact hi) s3 u3 (ab_arr_ok hv (by rw [s2]; exact hx0) hgr s3 u2)
  have claim : ∀ (x : Nat × Nat × Nat × Nat), ∀ a ∈ anns, ∀ ls stk u, ab_mu ls a.2.2.2.2.2 = x → ab_Se (fun k => ab_mem k S.2.2.2) tS (ab_tys cs) (Z.2.2.1 j) ws vs a ls stk u → ab_W p l ev (ab_rm (d0 + 1) 0 0) s m vs.toArray below meth c D cl A (MQ below (ab_Qc D cl cs A (ab_PS tS (ab_tys cs) vs ws S)) vs.toArray s 0 0 A) 0 0 a.1 ls stk u := by
    refine ab_lex4 (fun x ih => ?_)
    intro a ha ls stk u hmu hse
    have hc := hc1 a ha
    unfold ab_chk1 at hc
    rw [hen] at hc
    simp only at hc
    rw [Bool.and_eq_true] at hc
    obtain ⟨c1, c2⟩ := hc
    split at c2
    · rename_i ts hts
      have hLn : a.2.1.length = Z.2.2.1 j := Nat.eq_of_beq_eq_true c1
      obtain ⟨ρ, r1, r2⟩ := ab_Se_sat hLn hv hse
      have hrun := ab_run_ok (cc := Z.2.1 j) (P := fun pc st => ab_Ok p l ev (ab_rm (d0 + 1) 0 0) s m vs.toArray below meth c D cl A (MQ below (ab_Qc D cl cs A (ab_PS tS (ab_tys cs) vs ws S)) vs.toArray s 0 0 A) (fun ρ' n' w => ab_ext ρ ρ' (ab_iA n0 svs a).1 n' ∧ ab_gr (fun k => ab_mem k S.2.2.2) ws w) tS (ab_tys cs) (Z.2.2.1 j) 0 0 pc st) hG.2.1 (ab_ctx_step ⟨Nat.zero_le _, Nat.zero_le _⟩ ab_IC_of X hGl.1 (show 2 ≤ d0 + 1 by omega) hGl.2.1 hGl.2.2 hG.2.2.1 CO (Nat.le_refl _) hG.2.2.2) fuel a.1 _ ts hts (fun w hw => ?_)
      · exact hrun ρ ls stk u ⟨ab_ext.refl, hse.1⟩ r2
      · refine hterm _ _ w (fun ρ' n' u' hi => ⟨r1.trans hi.1, hi.2⟩) (fun a' ha' ρ' ls' stk' u' st' hi' S' hd' hse' => ?_) (List.all_eq_true.mp c2 w hw)
        refine ih _ ?_ a' ha' ls' stk' u' rfl hse'
        rw [← hmu]
        exact ab_dec_ok r2.1 r2.2.2.1 S'.1 S'.2.2.1 hi'.1 hd'
    · cases c2
  unfold ab_chk0 at hc0
  rw [hen] at hc0
  simp only at hc0
  rw [Bool.and_eq_true, Bool.and_eq_true] at hc0
  obtain ⟨⟨k1, k2⟩, k3⟩ := hc0
  split at k3
  · rename_i ts hts
    have hrun := ab_run_ok (cc := Z.2.1 j) (P := fun pc st => ab_Ok p l ev (ab_rm (d0 + 1) 0 0) s m vs.toArray below meth c D cl A (MQ below (ab_Qc D cl cs A (ab_PS tS (ab_tys cs) vs ws S)) vs.toArray s 0 0 A) (fun ρ' n' w => ab_ext ρ0 ρ' n0 n' ∧ ab_gr (fun k => ab_mem k S.2.2.2) ws w) tS (ab_tys cs) (Z.2.2.1 j) 0 0 pc st) hG.2.1 (ab_ctx_step ⟨Nat.zero_le _, Nat.zero_le _⟩ ab_IC_of X hGl.1 (show 2 ≤ d0 + 1 by omega) hGl.2.1 hGl.2.2 hG.2.2.1 CO (Nat.le_refl _) hG.2.2.2) fuel 0 _ ts hts (fun w hw => ?_)
    · exact hrun ρ0 _ [] ws ⟨ab_ext.refl, ab_gr.refl⟩ ⟨y2, y3, ab_ent_ok y2 hv k1 (Nat.le_of_ble_eq_true k2), trivial⟩
    · exact hterm _ none w (fun ρ' n' u' hi => hi) (fun a' ha' ρ' ls' stk' u' st' hi' S' hd' hse' => claim _ a' ha' ls' stk' u' rfl hse') (List.all_eq_true.mp k3 w hw)
  · cases k3
end
