noncomputable section
def sg_nil (m : List (Int × Int × Nat)) : Bool := match m with
  | [] => true
  | _ => false
/-- as ab_ter; a place without a measure asks for none -/
def sg_ter (tb : List (Nat × Instr × Nat)) (rt : Option FieldType) (posts : List ab_Pt) (as : List ab_SV) (cand : Nat → ab_St → List ab_An) (sp : Nat → List (Nat × Int)) (f : ab_En × List ab_SV × List (Int × Int × Nat)) (w : Nat × ab_St) : Bool := match ab_lk tb w.1 with
  | none => false
  | some q => bif ab_ret q.1 then Nat.beq q.2 1 && ab_pst rt q.1 posts as w.2 else (ab_spl (sp w.1) w.2).all (fun st => (cand w.1 st).any (fun a => Nat.beq a.1 w.1 && (ab_arr as st a && (sg_nil a.2.2.2.2.2 || ab_dec f.1 f.2.1 f.2.2 st.2.1 st.2.2.2.1 a.2.2.2.2.2))))
def sg_chk (tb : List (Nat × Instr × Nat)) (stp : Instr → Nat → Nat → ab_St → Option (List (Nat × ab_St))) (rt : Option FieldType) (nL : Nat) (ta : List ab_TV) (posts : List ab_Pt) (pcs : List Nat) (cand : Nat → ab_St → List ab_An) (sp : Nat → List (Nat × Int)) (fuel : Nat) (a : ab_An) : Bool := match ab_inVs ta 0 [] with
  | (svs, n0, _) => Nat.beq a.2.1.length nL && (match ab_run tb pcs stp fuel a.1 (ab_iA n0 svs a) with
    | some ts => ts.all (sg_ter tb rt posts svs cand sp ((ab_iA n0 svs a).2.1, (ab_iA n0 svs a).2.2.2.1, a.2.2.2.2.2))
    | none => false)
section SEG
variable {l : Launch} {Z : ab_Ms} {Mt : ab_Mt} {wF : List Cond × List Cond} {bF : ByteArray × ByteArray} {D : va_G} {cl : List vw_C} {cs : Nat → ClassId} {tS d0 j fuel : Nat} {Bd : ab_Bd} {O : ab_Cf} {M : Nat → Bool} {ta : List ab_TV} {posts : List ab_Pt} {pcs : List Nat} {cand : Nat → ab_St → List ab_An} {sp : Nat → List (Nat × Int)}
variable {p : Program} {ev : Env} {s : State} {m : MethodId} {below : List Frame} {meth : Method} {c : Code} {A : Nat → Prop} {vs : List Value} {ws : va_W} {Post : Option Value → va_W → Prop}
/-- where a run ends: a return, or a known place -/
theorem sg_term (hG : ab_GOK Z Mt wF bF cl Bd j) (X : ab_X l Z j (d0 + 1) D cl cs tS p s m vs.toArray meth c A)
    {svs : List ab_SV} {n0 : Nat} {ρ0 : Nat → Value} (hv : ab_all2 (ab_val ρ0 n0 (ws.map (·.1)) tS) svs vs)
    (hP : ∀ rv u, ab_gr M ws u → (∃ po ∈ posts, ab_ag po.1 vs ∧ ab_rtv (u.map (·.1)) tS po.2.1 rv ∧ ab_th tS (ab_tys cs) po.2.2 u) → Post rv u)
    {I : (Nat → Value) → Nat → va_W → Prop} {tst : ab_St → ab_An → Bool} {w : Nat × ab_St} (hI : ∀ ρ n u, I ρ n u → ab_ext ρ0 ρ n0 n ∧ ab_gr M ws u)
    (hgo : ∀ a st, a ∈ cand w.1 st → ∀ ρ ls stk u, I ρ st.1 u → ab_sat ρ tS (ab_tys cs) (Z.2.2.1 j) st ls stk u → tst st a = true → ab_Se M tS (ab_tys cs) (Z.2.2.1 j) ws vs a ls stk u → ab_W p l ev (ab_rm (d0 + 1) 0 0) s m vs.toArray below meth c D cl A (MQ below (ab_Qc D cl cs A Post) vs.toArray s 0 0 A) 0 0 a.1 ls stk u)
    (ht : (match ab_lk (Bd j).1 w.1 with
      | none => false
      | some q => bif ab_ret q.1 then Nat.beq q.2 1 && ab_pst (Z.2.2.2.1 j) q.1 posts svs w.2 else (ab_spl (sp w.1) w.2).all (fun st => (cand w.1 st).any (fun a => Nat.beq a.1 w.1 && (ab_arr svs st a && tst st a)))) = true) :
    ab_Ok p l ev (ab_rm (d0 + 1) 0 0) s m vs.toArray below meth c D cl A (MQ below (ab_Qc D cl cs A Post) vs.toArray s 0 0 A) I tS (ab_tys cs) (Z.2.2.1 j) 0 0 w.1 w.2 := by
  intro ρ ls stk u hi Sa
  obtain ⟨hx0, hgr⟩ := hI _ _ _ hi
  split at ht
  · cases ht
  · rename_i q hq
    cases hr : ab_ret q.1 with
    | true =>
      rw [hr] at ht
      simp only [cond_true] at ht
      rw [Bool.and_eq_true] at ht
      obtain ⟨t1, t2⟩ := ht
      have e1 : q.2 = 1 := Nat.eq_of_beq_eq_true t1
      obtain ⟨i, len⟩ := q
      simp only at e1
      subst e1
      unfold ab_pst at t2
      split at t2
      · rename_i rv hrv
        obtain ⟨po, hpo, hq2⟩ := List.any_eq_true.mp t2
        rw [Bool.and_eq_true, Bool.and_eq_true] at hq2
        obtain ⟨q1, q2, q3⟩ := hq2
        obtain ⟨hx, hbc, hml, hown, htw, hK, hA, hZ, hT, hrt, hlocks, hname⟩ := X
        refine ab_fin_ok hx hbc hrt hlocks hK (hG.2.1 _ _ _ (ab_lk_mem hq)) rfl hrv Sa (fun x hx2 => ?_)
        refine hP x u hgr ⟨po, hpo, ab_leAg_ok Sa.1 (ab_stk_ext hx0 hv) q1, ?_, ab_leH_ok Sa.1 q3 Sa.2.1⟩
        match rv, po.2.1, x, hx2, q2 with
        | none, none, none, _, _ => trivial
        | some v, some t, some y, hx2, q2 => exact ab_leV_ok Sa.1 q2 hx2
        | none, some _, _, _, q2 => simp [ab_leR] at q2
        | some _, none, _, _, q2 => simp [ab_leR] at q2
        | none, none, some _, hx2, _ => exact hx2.elim
        | some _, some _, none, hx2, _ => exact hx2.elim
      · cases t2
    | false =>
      rw [hr] at ht
      simp only [cond_false] at ht
      obtain ⟨st', s1, s2, s3⟩ := ab_spl_ok (sp := sp w.1) Sa
      have t3 := List.all_eq_true.mp ht st' s1
      obtain ⟨a, ha, t4⟩ := List.any_eq_true.mp t3
      rw [Bool.and_eq_true, Bool.and_eq_true] at t4
      obtain ⟨u1, u2, u3⟩ := t4
      have e1 : a.1 = w.1 := Nat.eq_of_beq_eq_true u1
      rw [← e1]
      exact hgo a st' ha ρ ls stk u (by rw [s2]; exact hi) s3 u3 (ab_arr_ok hv (by rw [s2]; exact hx0) hgr s3 u2)
/-- from a known place to the next ones -/
theorem sg_ok (hGl : ab_Gl l Z wF D cl cs tS) (hG : ab_GOK Z Mt wF bF cl Bd j) (h1 : 1 ≤ d0) (CO : ab_CO l Z d0 D cl cs tS M O) (X : ab_X l Z j (d0 + 1) D cl cs tS p s m vs.toArray meth c A) (htl : ab_tl (ws.map (·.1)) tS ta vs)
    (hP : ∀ rv u, ab_gr M ws u → (∃ po ∈ posts, ab_ag po.1 vs ∧ ab_rtv (u.map (·.1)) tS po.2.1 rv ∧ ab_th tS (ab_tys cs) po.2.2 u) → Post rv u) {a : ab_An}
    (hc : sg_chk (Bd j).1 (ab_step (Bd j).2.1 Mt O (Z.2.2.1 j) M (Bd j).2.2) (Z.2.2.2.1 j) (Z.2.2.1 j) ta posts pcs cand sp fuel a = true) {ls : Array Slot} {stk : List Value} {u : va_W} (hse : ab_Se M tS (ab_tys cs) (Z.2.2.1 j) ws vs a ls stk u)
    (K : ∀ a' pc st, a' ∈ cand pc st → ∀ ls' stk' u', (a'.2.2.2.2.2 = [] ∨ ab_lt4 (ab_mu ls' a'.2.2.2.2.2) (ab_mu ls a.2.2.2.2.2)) → ab_Se M tS (ab_tys cs) (Z.2.2.1 j) ws vs a' ls' stk' u' → ab_W p l ev (ab_rm (d0 + 1) 0 0) s m vs.toArray below meth c D cl A (MQ below (ab_Qc D cl cs A Post) vs.toArray s 0 0 A) 0 0 a'.1 ls' stk' u') :
    ab_W p l ev (ab_rm (d0 + 1) 0 0) s m vs.toArray below meth c D cl A (MQ below (ab_Qc D cl cs A Post) vs.toArray s 0 0 A) 0 0 a.1 ls stk u := by
  obtain ⟨ρ0, x1, x2, x3⟩ := ab_inVs_ok (ρ := fun _ => .null) (n := 0) (e := []) (fun q hq => by cases hq) htl
  have hen : ab_inVs ta 0 [] = ((ab_inVs ta 0 []).1, (ab_inVs ta 0 []).2.1, (ab_inVs ta 0 []).2.2) := rfl
  generalize (ab_inVs ta 0 []).1 = svs at hen x3
  generalize (ab_inVs ta 0 []).2.1 = n0 at hen x3 x2 x1
  generalize (ab_inVs ta 0 []).2.2 = e0 at hen x2
  unfold sg_chk at hc
  rw [hen] at hc
  simp only at hc
  rw [Bool.and_eq_true] at hc
  obtain ⟨c1, c2⟩ := hc
  split at c2
  · rename_i ts hts
    have hLn : a.2.1.length = Z.2.2.1 j := Nat.eq_of_beq_eq_true c1
    obtain ⟨ρ, r1, r2⟩ := ab_Se_sat hLn x3 hse
    have hrun := ab_run_ok (cc := Z.2.1 j) (P := fun pc st => ab_Ok p l ev (ab_rm (d0 + 1) 0 0) s m vs.toArray below meth c D cl A (MQ below (ab_Qc D cl cs A Post) vs.toArray s 0 0 A) (fun ρ' n' w => ab_ext ρ ρ' (ab_iA n0 svs a).1 n' ∧ ab_gr M ws w) tS (ab_tys cs) (Z.2.2.1 j) 0 0 pc st) hG.2.1 (ab_ctx_step ⟨Nat.zero_le _, Nat.zero_le _⟩ ab_IC_of X hGl.1 (show 2 ≤ d0 + 1 by omega) hGl.2.1 hGl.2.2 hG.2.2.1 CO (Nat.le_refl _) hG.2.2.2) fuel a.1 _ ts hts (fun w hw => ?_)
    · exact hrun ρ ls stk u ⟨ab_ext.refl, hse.1⟩ r2
    · refine sg_term hG X x3 hP (tst := fun st a' => sg_nil a'.2.2.2.2.2 || ab_dec (ab_iA n0 svs a).2.1 (ab_iA n0 svs a).2.2.2.1 a.2.2.2.2.2 st.2.1 st.2.2.2.1 a'.2.2.2.2.2) (fun ρ' n' u' hi => ⟨r1.trans hi.1, hi.2⟩) (fun a' st' ha' ρ' ls' stk' u' hi' S' hd' hse' => ?_) (List.all_eq_true.mp c2 w hw)
      refine K a' w.1 st' ha' ls' stk' u' ?_ hse'
      cases hn : sg_nil a'.2.2.2.2.2 with
      | true =>
        left
        unfold sg_nil at hn
        split at hn
        · assumption
        · cases hn
      | false =>
        right
        rw [hn, Bool.false_or] at hd'
        exact ab_dec_ok r2.1 r2.2.2.1 S'.1 S'.2.2.1 hi'.1 hd'
  · cases c2
/-- places that lead to each other and, in the end, out -/
theorem sg_loop (hGl : ab_Gl l Z wF D cl cs tS) (hG : ab_GOK Z Mt wF bF cl Bd j) (h1 : 1 ≤ d0) (CO : ab_CO l Z d0 D cl cs tS M O) (X : ab_X l Z j (d0 + 1) D cl cs tS p s m vs.toArray meth c A) (htl : ab_tl (ws.map (·.1)) tS ta vs)
    (hP : ∀ rv u, ab_gr M ws u → (∃ po ∈ posts, ab_ag po.1 vs ∧ ab_rtv (u.map (·.1)) tS po.2.1 rv ∧ ab_th tS (ab_tys cs) po.2.2 u) → Post rv u) {anns outs : List ab_An}
    (hcd : ∀ pc st a, a ∈ cand pc st → (a ∈ anns ∧ a.2.2.2.2.2 ≠ []) ∨ a ∈ outs)
    (hc : ∀ a ∈ anns, sg_chk (Bd j).1 (ab_step (Bd j).2.1 Mt O (Z.2.2.1 j) M (Bd j).2.2) (Z.2.2.2.1 j) (Z.2.2.1 j) ta posts pcs cand sp fuel a = true)
    (K : ∀ a ∈ outs, ∀ ls stk u, ab_Se M tS (ab_tys cs) (Z.2.2.1 j) ws vs a ls stk u → ab_W p l ev (ab_rm (d0 + 1) 0 0) s m vs.toArray below meth c D cl A (MQ below (ab_Qc D cl cs A Post) vs.toArray s 0 0 A) 0 0 a.1 ls stk u) :
    ∀ a ∈ anns, ∀ ls stk u, ab_Se M tS (ab_tys cs) (Z.2.2.1 j) ws vs a ls stk u → ab_W p l ev (ab_rm (d0 + 1) 0 0) s m vs.toArray below meth c D cl A (MQ below (ab_Qc D cl cs A Post) vs.toArray s 0 0 A) 0 0 a.1 ls stk u := by
  have claim : ∀ (x : Nat × Nat × Nat × Nat), ∀ a ∈ anns, ∀ ls stk u, ab_mu ls a.2.2.2.2.2 = x → ab_Se M tS (ab_tys cs) (Z.2.2.1 j) ws vs a ls stk u → ab_W p l ev (ab_rm (d0 + 1) 0 0) s m vs.toArray below meth c D cl A (MQ below (ab_Qc D cl cs A Post) vs.toArray s 0 0 A) 0 0 a.1 ls stk u := by
    refine ab_lex4 (fun x ih => ?_)
    intro a ha ls stk u hmu hse
    refine sg_ok hGl hG h1 CO X htl hP (hc a ha) hse (fun a' pc st ha' ls' stk' u' hm hse' => ?_)
    rcases hcd pc st a' ha' with ⟨g1, g2⟩ | g
    · rcases hm with hm | hm
      · exact absurd hm g2
      · exact ih _ (by rw [← hmu]; exact hm) a' g1 ls' stk' u' rfl hse'
    · exact K a' g ls' stk' u' hse'
  exact fun a ha ls stk u hse => claim _ a ha ls stk u rfl hse
/-- from a method's first instruction to the first places -/
theorem sg_ent {S : ab_Sm} (hGl : ab_Gl l Z wF D cl cs tS) (hG : ab_GOK Z Mt wF bF cl Bd j) (h1 : 1 ≤ d0) (CO : ab_CO l Z d0 D cl cs tS M O) (X : ab_X l Z j (d0 + 1) D cl cs tS p s m vs.toArray meth c A) (htl : ab_tl (ws.map (·.1)) tS S.1 vs) (hth : ab_th tS (ab_tys cs) S.2.1 ws)
    (hP : ∀ rv u, ab_gr M ws u → (∃ po ∈ S.2.2.1, ab_ag po.1 vs ∧ ab_rtv (u.map (·.1)) tS po.2.1 rv ∧ ab_th tS (ab_tys cs) po.2.2 u) → Post rv u)
    (hc : ab_chk0 (Bd j).1 (ab_step (Bd j).2.1 Mt O (Z.2.2.1 j) M (Bd j).2.2) (Z.2.2.2.1 j) (Z.2.2.1 j) S pcs cand sp fuel = true)
    (K : ∀ a' pc st, a' ∈ cand pc st → ∀ ls' stk' u', ab_Se M tS (ab_tys cs) (Z.2.2.1 j) ws vs a' ls' stk' u' → ab_W p l ev (ab_rm (d0 + 1) 0 0) s m vs.toArray below meth c D cl A (MQ below (ab_Qc D cl cs A Post) vs.toArray s 0 0 A) 0 0 a'.1 ls' stk' u') :
    ab_W p l ev (ab_rm (d0 + 1) 0 0) s m vs.toArray below meth c D cl A (MQ below (ab_Qc D cl cs A Post) vs.toArray s 0 0 A) 0 0 0 ((lg_sl vs ++ List.replicate (Z.2.2.1 j - (lg_sl vs).length) Slot.unset).toArray) [] ws := by
  obtain ⟨ρ1, x1, x2, x3⟩ := ab_inVs_ok (ρ := fun _ => .null) (n := 0) (e := []) (fun q hq => by cases hq) htl
  obtain ⟨ρ0, y1, y2, y3⟩ := ab_inH_ok x2 hth
  have hen : ab_en S = ((ab_inVs S.1 0 []).1, (ab_inH S.2.1 (ab_inVs S.1 0 []).2.1 (ab_inVs S.1 0 []).2.2).1, (ab_inH S.2.1 (ab_inVs S.1 0 []).2.1 (ab_inVs S.1 0 []).2.2).2.1, (ab_inH S.2.1 (ab_inVs S.1 0 []).2.1 (ab_inVs S.1 0 []).2.2).2.2) := rfl
  have hv : ab_all2 (ab_val ρ0 (ab_inH S.2.1 (ab_inVs S.1 0 []).2.1 (ab_inVs S.1 0 []).2.2).2.1 (ws.map (·.1)) tS) (ab_inVs S.1 0 []).1 vs := ab_stk_ext y1 x3
  generalize (ab_inVs S.1 0 []).1 = svs at hen hv
  generalize (ab_inH S.2.1 (ab_inVs S.1 0 []).2.1 (ab_inVs S.1 0 []).2.2).1 = h0 at hen y3
  generalize (ab_inH S.2.1 (ab_inVs S.1 0 []).2.1 (ab_inVs S.1 0 []).2.2).2.1 = n0 at hen y3 hv y2
  generalize (ab_inH S.2.1 (ab_inVs S.1 0 []).2.1 (ab_inVs S.1 0 []).2.2).2.2 = e0 at hen y2
  unfold ab_chk0 at hc
  rw [hen] at hc
  simp only at hc
  rw [Bool.and_eq_true, Bool.and_eq_true] at hc
  obtain ⟨⟨k1, k2⟩, k3⟩ := hc
  split at k3
  · rename_i ts hts
    have hrun := ab_run_ok (cc := Z.2.1 j) (P := fun pc st => ab_Ok p l ev (ab_rm (d0 + 1) 0 0) s m vs.toArray below meth c D cl A (MQ below (ab_Qc D cl cs A Post) vs.toArray s 0 0 A) (fun ρ' n' w => ab_ext ρ0 ρ' n0 n' ∧ ab_gr M ws w) tS (ab_tys cs) (Z.2.2.1 j) 0 0 pc st) hG.2.1 (ab_ctx_step ⟨Nat.zero_le _, Nat.zero_le _⟩ ab_IC_of X hGl.1 (show 2 ≤ d0 + 1 by omega) hGl.2.1 hGl.2.2 hG.2.2.1 CO (Nat.le_refl _) hG.2.2.2) fuel 0 _ ts hts (fun w hw => ?_)
    · exact hrun ρ0 _ [] ws ⟨ab_ext.refl, ab_gr.refl⟩ ⟨y2, y3, ab_ent_ok y2 hv k1 (Nat.le_of_ble_eq_true k2), trivial⟩
    · exact sg_term hG X hv hP (tst := fun _ _ => true) (fun ρ' n' u' hi => hi) (fun a' st' ha' ρ' ls' stk' u' hi' S' hd' hse' => K a' w.1 st' ha' ls' stk' u' hse') (List.all_eq_true.mp k3 w hw)
  · cases k3
end SEG
/-- the same place, seen from a nearer base -/
theorem sg_re {M : Nat → Bool} {M' : Nat → Bool} {tS nL : Nat} {tys : List (ClassId × FieldType)} {ws u : va_W} {vs : List Value} {a a' : ab_An} {ls : Array Slot} {stk : List Value} (h : ab_Se M tS tys nL ws vs a ls stk u) (ws' : va_W) (hg : ab_gr M' ws' u) (e1 : a'.2.1 = a.2.1) (e2 : a'.2.2.1 = a.2.2.1) (hth : ab_th tS tys a'.2.2.2.1 u) (e4 : a'.2.2.2.2.1 = a.2.2.2.2.1) : ab_Se M' tS tys nL ws' vs a' ls stk u := by
  obtain ⟨h1, h2, h3, h4, h5, h6, h7⟩ := h
  exact ⟨hg, h2, h3, by rw [e1]; exact h4, by rw [e2]; exact h5, hth, by rw [e4]; exact h7⟩
theorem sg_CO {l : Launch} {D : va_G} {cs : Nat → ClassId} {tS DS dp fuel : Nat} {q : List (Nat × ab_Sm)} {il : List Nat} {M : Nat → Bool} (hGl : ab_Gl l ZZ wFF D vwCl cs tS) (h1 : 1 ≤ DS) (hq : ∀ w ∈ q, ab_SOK l ZZ DS D vwCl cs tS w.1 w.2) (hil : ∀ k ∈ il, ab_GOK ZZ MtF wFF bFF vwCl BdF k) : ab_CO l ZZ (DS + dp) D vwCl cs tS M (ab_OO (ab_SLl q) (fun k => ab_mem k il) BdF ZZ MtF M fuel dp) :=
  ab_OO_ok hGl (fun k hk => hil k (ab_mem_iff.mp hk)) (ab_SLl_ok (P := fun k S => ab_SOK l ZZ DS D vwCl cs tS k S) hq) h1 dp
end
