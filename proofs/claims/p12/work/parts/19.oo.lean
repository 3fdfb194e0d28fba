noncomputable section
/-- of a method: its instructions, its pool, a constructor or not -/
abbrev ab_Bd : Type := Nat → List (Nat × Instr × Nat) × ab_Tb × Bool
def ab_outs (tb : List (Nat × Instr × Nat)) (rt : Option FieldType) : List (Nat × ab_St) → Option (List ab_Oc)
  | [] => some []
  | w :: r => match ab_lk tb w.1, ab_outs tb rt r with
    | some q, some l => bif Nat.beq q.2 1 then (match ab_fin rt q.1 w.2 with
      | some rv => some ((w.2.1, w.2.2.1, w.2.2.2.1, rv) :: l)
      | none => none) else none
    | _, _ => none
theorem ab_outs_in {tb : List (Nat × Instr × Nat)} {rt : Option FieldType} : ∀ {ts : List (Nat × ab_St)} {outs : List ab_Oc}, ab_outs tb rt ts = some outs → ∀ w ∈ ts, ∃ i rv, ab_lk tb w.1 = some (i, 1) ∧ ab_fin rt i w.2 = some rv ∧ (w.2.1, w.2.2.1, w.2.2.2.1, rv) ∈ outs
  | [], outs, h, w, hw => by cases hw
  | u :: r, outs, h, w, hw => by
    rw [ab_outs] at h
    split at h
    · rename_i q l hq hl
      cases hb : Nat.beq q.2 1 with
      | false => rw [hb] at h; simp at h
      | true =>
        rw [hb] at h
        simp only [cond_true] at h
        split at h
        · rename_i rv hrv
          cases h
          rcases List.mem_cons.mp hw with rfl | hw
          · have e1 : q.2 = 1 := Nat.eq_of_beq_eq_true hb
            obtain ⟨i, len⟩ := q
            simp only at e1
            subst e1
            exact ⟨i, rv, hq, hrv, List.mem_cons_self⟩
          · obtain ⟨i, rv', h1, h2, h3⟩ := ab_outs_in hl w hw
            exact ⟨i, rv', h1, h2, List.mem_cons_of_mem _ h3⟩
        · cases h
    · cases h
def ab_inl (Bd : ab_Bd) (Z : ab_Ms) (Mt : ab_Mt) (M : Nat → Bool) (O : ab_Cf) (fuel j n : Nat) (e : ab_En) (h : ab_AH) (as : List ab_SV) : Option (List ab_Oc) :=
  bif as.all (ab_kn e) && Nat.ble (ab_lay e as).length (Z.2.2.1 j) then (match ab_run (Bd j).1 [] (ab_step (Bd j).2.1 Mt O (Z.2.2.1 j) M (Bd j).2.2) fuel 0 (n, e, h, ab_ent e as (Z.2.2.1 j), []) with
    | some ts => ab_outs (Bd j).1 (Z.2.2.2.1 j) ts
    | none => none) else none
def ab_GOK (Z : ab_Ms) (Mt : ab_Mt) (wF : List Cond × List Cond) (bF : ByteArray × ByteArray) (cl : List vw_C) (Bd : ab_Bd) (j : Nat) : Prop :=
  plainName (Z.1 j).cls = true ∧ (∀ pc i len, (pc, i, len) ∈ (Bd j).1 → decode (Z.2.1 j) pc = .ok (i, len)) ∧ ab_MOK Z Mt wF bF cl (Bd j).2.1 (Z.1 j).cls ∧ ((Bd j).2.2 = true → (Z.1 j).name = "<init>")
/-- what all methods stand on -/
def ab_Gl (l : Launch) (Z : ab_Ms) (wF : List Cond × List Cond) (D : va_G) (cl : List vw_C) (cs : Nat → ClassId) (tS : Nat) : Prop := (∀ w ∈ Z.2.2.2.2, goodWord w = true) ∧ ab_FI l wF D cl cs tS ∧ ab_FL l wF D cl cs tS
theorem ab_IC_of {ρ0 : Nat → Value} {n0 : Nat} {M : Nat → Bool} {ws0 : va_W} : ab_IC (fun ρ n w => ab_ext ρ0 ρ n0 n ∧ ab_gr M ws0 w) M := fun _ _ _ _ _ _ hi hx hg => ⟨hi.1.trans hx, hi.2.trans hg⟩
theorem ab_inl_ok {l : Launch} {Z : ab_Ms} {Mt : ab_Mt} {wF : List Cond × List Cond} {bF : ByteArray × ByteArray} {D : va_G} {cl : List vw_C} {cs : Nat → ClassId} {tS d0 j n fuel : Nat} {Bd : ab_Bd} {M : Nat → Bool} {O : ab_Cf} {e : ab_En} {h : ab_AH} {as : List ab_SV} {outs : List ab_Oc} (hGl : ab_Gl l Z wF D cl cs tS) (hG : ab_GOK Z Mt wF bF cl Bd j) (h1 : 1 ≤ d0) (CO : ab_CO l Z d0 D cl cs tS M O) (ho : ab_inl Bd Z Mt M O fuel j n e h as = some outs)
    {ρ : Nat → Value} {ws : va_W} {vs : List Value} (he : ab_env ρ n e) (hh : ab_heap ρ n tS (ab_tys cs) h ws) (hv : ab_all2 (ab_val ρ n (ws.map (·.1)) tS) as vs) : ab_Ct l (Z.1 j) (ab_wM Z j) (ab_rm (d0 + 1) 0 0) 0 0 D cl cs tS vs ws (ab_Po M tS (ab_tys cs) ρ n ws outs) := by
  unfold ab_inl at ho
  cases hb : (as.all (ab_kn e) && Nat.ble (ab_lay e as).length (Z.2.2.1 j)) with
  | false => rw [hb] at ho; simp at ho
  | true =>
    rw [hb] at ho
    simp only [cond_true] at ho
    rw [Bool.and_eq_true] at hb
    split at ho
    · rename_i ts hts
      refine ab_Ct_of hG.1 (fun p ev s m below meth c A X => ?_)
      have hrun := ab_run_ok (cc := Z.2.1 j) (P := fun pc st => ab_Ok p l ev (ab_rm (d0 + 1) 0 0) s m vs.toArray below meth c D cl A (MQ below (ab_Qc D cl cs A (ab_Po M tS (ab_tys cs) ρ n ws outs)) vs.toArray s 0 0 A) (fun ρ' n' w => ab_ext ρ ρ' n n' ∧ ab_gr M ws w) tS (ab_tys cs) (Z.2.2.1 j) 0 0 pc st) hG.2.1 (ab_ctx_step ⟨Nat.zero_le _, Nat.zero_le _⟩ ab_IC_of X hGl.1 (show 2 ≤ d0 + 1 by omega) hGl.2.1 hGl.2.2 hG.2.2.1 CO (Nat.le_refl _) hG.2.2.2) fuel 0 _ ts hts (fun w hw => ?_)
      · exact hrun ρ _ [] ws ⟨ab_ext.refl, ab_gr.refl⟩ ⟨he, hh, ab_ent_ok he hv hb.1 (Nat.le_of_ble_eq_true hb.2), trivial⟩
      · obtain ⟨i, rv, g1, g2, g3⟩ := ab_outs_in ho w hw
        intro ρ' ls stk ws' hi S
        obtain ⟨hx, hbc, hml, hown, htw, hK, hA, hZ, hT, hr, hlocks, hname⟩ := X
        refine ab_fin_ok hx hbc hr hlocks hK (hG.2.1 _ _ _ (ab_lk_mem g1)) rfl g2 S (fun x hx2 => ?_)
        exact ⟨_, g3, ρ', hi.1, S.1, S.2.1, hi.2, hx2⟩
    · cases ho
def ab_tryS (M : Nat → Bool) (n : Nat) (e : ab_En) (h : ab_AH) (as : List ab_SV) : List ab_Sm → Option (List ab_Oc)
  | [] => none
  | S :: r => match ab_apO S M n e h as with
    | some o => some o
    | none => ab_tryS M n e h as r
theorem ab_tryS_in {M : Nat → Bool} {n : Nat} {e : ab_En} {h : ab_AH} {as : List ab_SV} : ∀ {l : List ab_Sm} {o : List ab_Oc}, ab_tryS M n e h as l = some o → ∃ S ∈ l, ab_apO S M n e h as = some o
  | [], o, h => by simp [ab_tryS] at h
  | S :: r, o, h => by
    rw [ab_tryS] at h
    split at h
    · rename_i o' ho'
      cases h
      exact ⟨S, List.mem_cons_self, ho'⟩
    · obtain ⟨S', h1, h2⟩ := ab_tryS_in h
      exact ⟨S', List.mem_cons_of_mem _ h1, h2⟩
def ab_OO (SL : Nat → List ab_Sm) (IL : Nat → Bool) (Bd : ab_Bd) (Z : ab_Ms) (Mt : ab_Mt) (M : Nat → Bool) (fuel : Nat) : Nat → ab_Cf
  | 0 => fun j n e h as => ab_tryS M n e h as (SL j)
  | d + 1 => fun j n e h as => match ab_tryS M n e h as (SL j) with
    | some o => some o
    | none => bif IL j then ab_inl Bd Z Mt M (ab_OO SL IL Bd Z Mt M fuel d) fuel j n e h as else none
theorem ab_OO_ok {l : Launch} {Z : ab_Ms} {Mt : ab_Mt} {wF : List Cond × List Cond} {bF : ByteArray × ByteArray} {D : va_G} {cl : List vw_C} {cs : Nat → ClassId} {tS DS fuel : Nat} {Bd : ab_Bd} {M : Nat → Bool} {SL : Nat → List ab_Sm} {IL : Nat → Bool} (hGl : ab_Gl l Z wF D cl cs tS) (hIL : ∀ j, IL j = true → ab_GOK Z Mt wF bF cl Bd j) (hSL : ∀ j, ∀ S ∈ SL j, ab_SOK l Z DS D cl cs tS j S) (h1 : 1 ≤ DS) : ∀ d, ab_CO l Z (DS + d) D cl cs tS M (ab_OO SL IL Bd Z Mt M fuel d)
  | 0 => by
    intro j n e h as outs ho ρ ws vs he hh hv
    obtain ⟨S, hS, hap⟩ := ab_tryS_in ho
    exact ab_apO_ok (hSL j S hS) hap he hh hv
  | d + 1 => by
    intro j n e h as outs ho ρ ws vs he hh hv
    simp only [ab_OO] at ho
    split at ho
    · rename_i o ho2
      cases ho
      obtain ⟨S, hS, hap⟩ := ab_tryS_in ho2
      obtain ⟨d', hd', Ct⟩ := ab_apO_ok (hSL j S hS) hap he hh hv
      exact ⟨d', by omega, Ct⟩
    · cases hb : IL j with
      | false => rw [hb] at ho; simp at ho
      | true =>
        rw [hb] at ho
        simp only [cond_true] at ho
        exact ⟨DS + d + 1, by omega, ab_inl_ok hGl (hIL j hb) (by omega) (ab_OO_ok hGl hIL hSL h1 d) ho he hh hv⟩
end
