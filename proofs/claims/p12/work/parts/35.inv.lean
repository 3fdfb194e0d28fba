noncomputable section
theorem ab_SOK_mono {l : Launch} {Z : ab_Ms} {d d' : Nat} {D : va_G} {cl : List vw_C} {cs : Nat → ClassId} {tS j : Nat} {S : ab_Sm} (h : ab_SOK l Z d D cl cs tS j S) (hd : d ≤ d') : ab_SOK l Z d' D cl cs tS j S := fun ws vs h1 h2 => by
  obtain ⟨e, he, hc⟩ := h ws vs h1 h2
  exact ⟨e, by omega, hc⟩
def ab_SLl (q : List (Nat × ab_Sm)) (j : Nat) : List ab_Sm := match q with
  | [] => []
  | w :: r => bif Nat.beq w.1 j then w.2 :: ab_SLl r j else ab_SLl r j
theorem ab_SLl_ok {P : Nat → ab_Sm → Prop} : ∀ {q : List (Nat × ab_Sm)}, (∀ w ∈ q, P w.1 w.2) → ∀ j, ∀ S ∈ ab_SLl q j, P j S
  | [], _, j, S, h => by cases h
  | w :: r, hq, j, S, h => by
    rw [ab_SLl] at h
    cases hb : Nat.beq w.1 j with
    | true =>
      rw [hb] at h
      simp only [cond_true] at h
      have e1 : w.1 = j := Nat.eq_of_beq_eq_true hb
      rcases List.mem_cons.mp h with rfl | h
      · rw [← e1]; exact hq w List.mem_cons_self
      · exact ab_SLl_ok (fun v hv => hq v (List.mem_cons_of_mem _ hv)) j S h
    | false =>
      rw [hb] at h
      simp only [cond_false] at h
      exact ab_SLl_ok (fun v hv => hq v (List.mem_cons_of_mem _ hv)) j S h
/-- a summary, checked: q the summaries that it uses, il the methods that are opened -/
theorem ab_fin1 {l : Launch} {D : va_G} {cs : Nat → ClassId} {tS j DS dp fuel : Nat} {S : ab_Sm} {q : List (Nat × ab_Sm)} {il : List Nat} {anns : List ab_An} {pcs : List Nat} {cand : Nat → ab_St → List ab_An} {sp : Nat → List (Nat × Int)} (hGl : ab_Gl l ZZ wFF D vwCl cs tS) (hG : ab_GOK ZZ MtF wFF bFF vwCl BdF j) (h1 : 1 ≤ DS) (hq : ∀ w ∈ q, ab_SOK l ZZ DS D vwCl cs tS w.1 w.2) (hil : ∀ k ∈ il, ab_GOK ZZ MtF wFF bFF vwCl BdF k) (hcd : ∀ pc st a, a ∈ cand pc st → a ∈ anns)
    (hc0 : ab_chk0 (BdF j).1 (ab_step (BdF j).2.1 MtF (ab_OO (ab_SLl q) (fun k => ab_mem k il) BdF ZZ MtF (fun k => ab_mem k S.2.2.2) fuel dp) (ZZ.2.2.1 j) (fun k => ab_mem k S.2.2.2) (BdF j).2.2) (ZZ.2.2.2.1 j) (ZZ.2.2.1 j) S pcs cand sp fuel = true)
    (hc1 : anns.all (ab_chk1 (BdF j).1 (ab_step (BdF j).2.1 MtF (ab_OO (ab_SLl q) (fun k => ab_mem k il) BdF ZZ MtF (fun k => ab_mem k S.2.2.2) fuel dp) (ZZ.2.2.1 j) (fun k => ab_mem k S.2.2.2) (BdF j).2.2) (ZZ.2.2.2.1 j) (ZZ.2.2.1 j) S pcs cand sp fuel) = true) : ab_SOK l ZZ (DS + dp + 1) D vwCl cs tS j S :=
  ab_chk_ok hGl hG (by omega) (ab_OO_ok hGl (fun k hk => hil k (ab_mem_iff.mp hk)) (ab_SLl_ok (P := fun k S => ab_SOK l ZZ DS D vwCl cs tS k S) hq) h1 dp) hcd hc0 (List.all_eq_true.mp hc1)
end
