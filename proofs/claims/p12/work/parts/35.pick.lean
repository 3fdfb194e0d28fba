noncomputable section
/-- n times the same, then a list -/
def ab_rp (n : Nat) (v : ab_Iv) (r : List ab_Iv) : List ab_Iv := @Nat.rec (fun _ => List ab_Iv) r (fun _ ih => v :: ih) n
/-- the rows of a table that may take a state -/
def ab_cdf (pc : Nat) (lo hi : Int) (tb : List (Nat × Int × Int × ab_An)) : List ab_An := @List.rec (Nat × Int × Int × ab_An) (fun _ => List ab_An) [] (fun r _ ih => @Bool.rec (fun _ => List ab_An) ih (@Bool.rec (fun _ => List ab_An) ih (@Bool.rec (fun _ => List ab_An) ih (r.2.2.2 :: ih) (ab_le hi r.2.2.1)) (ab_le r.2.1 lo)) (Nat.beq r.1 pc)) tb
theorem ab_cdf_mem {pc : Nat} {lo hi : Int} {a : ab_An} : ∀ {tb : List (Nat × Int × Int × ab_An)}, a ∈ ab_cdf pc lo hi tb → a ∈ tb.map (fun r => r.2.2.2)
  | [], h => by cases h
  | r :: tb, h => by
    have h2 : a ∈ @Bool.rec (fun _ => List ab_An) (ab_cdf pc lo hi tb) (@Bool.rec (fun _ => List ab_An) (ab_cdf pc lo hi tb) (@Bool.rec (fun _ => List ab_An) (ab_cdf pc lo hi tb) (r.2.2.2 :: ab_cdf pc lo hi tb) (ab_le hi r.2.2.1)) (ab_le r.2.1 lo)) (Nat.beq r.1 pc) := h
    rw [List.map_cons]
    cases h3 : Nat.beq r.1 pc with
    | false => rw [h3] at h2; exact List.mem_cons_of_mem _ (ab_cdf_mem h2)
    | true =>
      rw [h3] at h2
      cases h4 : ab_le r.2.1 lo with
      | false => rw [h4] at h2; exact List.mem_cons_of_mem _ (ab_cdf_mem h2)
      | true =>
        rw [h4] at h2
        cases h5 : ab_le hi r.2.2.1 with
        | false => rw [h5] at h2; exact List.mem_cons_of_mem _ (ab_cdf_mem h2)
        | true =>
          rw [h5] at h2
          rcases List.mem_cons.mp h2 with rfl | h2
          · exact List.mem_cons_self
          · exact List.mem_cons_of_mem _ (ab_cdf_mem h2)
def ab_cd (ix : Nat → Nat) (tb : List (Nat × Int × Int × ab_An)) (pc : Nat) (st : ab_St) : List ab_An := match ab_lid st.2.1 st.2.2.2.1 (ix pc) with
  | some x => ab_cdf pc x.2.1 x.2.2.1 tb
  | none => tb.map (fun r => r.2.2.2)
theorem ab_cd_mem {ix : Nat → Nat} {tb : List (Nat × Int × Int × ab_An)} {anns : List ab_An} (he : tb.map (fun r => r.2.2.2) = anns) (pc : Nat) (st : ab_St) (a : ab_An) (h : a ∈ ab_cd ix tb pc st) : a ∈ anns := by
  rw [← he]
  unfold ab_cd at h
  split at h
  · exact ab_cdf_mem h
  · exact h
/-- as ab_fin1, the places one by one -/
theorem ab_fin2 {l : Launch} {D : va_G} {cs : Nat → ClassId} {tS j DS dp fuel : Nat} {S : ab_Sm} {q : List (Nat × ab_Sm)} {il : List Nat} {anns : List ab_An} {pcs : List Nat} {cand : Nat → ab_St → List ab_An} {sp : Nat → List (Nat × Int)} (hGl : ab_Gl l ZZ wFF D vwCl cs tS) (hG : ab_GOK ZZ MtF wFF bFF vwCl BdF j) (h1 : 1 ≤ DS) (hq : ∀ w ∈ q, ab_SOK l ZZ DS D vwCl cs tS w.1 w.2) (hil : ∀ k ∈ il, ab_GOK ZZ MtF wFF bFF vwCl BdF k) (hcd : ∀ pc st a, a ∈ cand pc st → a ∈ anns)
    (hc0 : ab_chk0 (BdF j).1 (ab_step (BdF j).2.1 MtF (ab_OO (ab_SLl q) (fun k => ab_mem k il) BdF ZZ MtF (fun k => ab_mem k S.2.2.2) fuel dp) (ZZ.2.2.1 j) (fun k => ab_mem k S.2.2.2) (BdF j).2.2) (ZZ.2.2.2.1 j) (ZZ.2.2.1 j) S pcs cand sp fuel = true)
    (hc1 : ∀ a ∈ anns, ab_chk1 (BdF j).1 (ab_step (BdF j).2.1 MtF (ab_OO (ab_SLl q) (fun k => ab_mem k il) BdF ZZ MtF (fun k => ab_mem k S.2.2.2) fuel dp) (ZZ.2.2.1 j) (fun k => ab_mem k S.2.2.2) (BdF j).2.2) (ZZ.2.2.2.1 j) (ZZ.2.2.1 j) S pcs cand sp fuel a = true) : ab_SOK l ZZ (DS + dp + 1) D vwCl cs tS j S :=
  ab_chk_ok hGl hG (by omega) (ab_OO_ok hGl (fun k hk => hil k (ab_mem_iff.mp hk)) (ab_SLl_ok (P := fun k S => ab_SOK l ZZ DS D vwCl cs tS k S) hq) h1 dp) hcd hc0 hc1
end
