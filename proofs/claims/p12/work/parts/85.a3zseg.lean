noncomputable section
def zsgt (tb : List zRow) (rt : Option FieldType) (posts : List ab_Pt) (as : List ab_SV) (cand : Nat → ab_St → List ab_An) (sp : Nat → List (Nat × Int)) (f : ab_En × List ab_SV × List (Int × Int × Nat)) : zK := fun pc n e h L sk => @Option.rec (Instr × Nat) (fun _ => Bool) false (fun q => @Bool.rec (fun _ => Bool) (zspl n h L sk (fun e' => zany (fun a => @Bool.rec (fun _ => Bool) false (@Bool.rec (fun _ => Bool) false (@Bool.rec (fun _ => Bool) (ab_dec f.1 f.2.1 f.2.2 e' L a.2.2.2.2.2) true (sg_nil a.2.2.2.2.2)) (zarr as e' h L sk a)) (Nat.beq a.1 pc)) (cand pc (n, e', h, L, sk))) (sp pc) e) (@Bool.rec (fun _ => Bool) false (zpst rt q.1 posts as e h sk) (Nat.beq q.2 1)) (zret q.1)) (ab_lk tb pc)
theorem zsgt_ok {tb : List zRow} {rt : Option FieldType} {posts : List ab_Pt} {as : List ab_SV} {cand : Nat → ab_St → List ab_An} {sp : Nat → List (Nat × Int)} {f : ab_En × List ab_SV × List (Int × Int × Nat)} {w : Nat × ab_St} (hk : zKs (zsgt tb rt posts as cand sp f) w = true) : sg_ter tb rt posts as cand sp f w = true := by
  obtain ⟨pc, n, e, h, L, sk⟩ := w
  obtain ⟨q, hq, hk⟩ := zl_o (o := ab_lk tb pc) hk
  unfold sg_ter
  simp only [hq]
  have hk := hk
  rcases zl_i hk with ⟨hr, hk⟩ | ⟨hr, hk⟩
  all_goals rw [zret_eq] at hr
  · obtain ⟨h1, h2⟩ := zl_b hk
    rw [hr, h1, zpst_ok (n := n) (L := L) h2]; rfl
  · rw [hr]
    simp only [cond_false]
    rw [List.all_eq_true]
    intro st hst
    obtain ⟨e', rfl, h1⟩ := zspl_ok hk st hst
    rw [zany_eq, List.any_eq_true] at h1
    obtain ⟨a, ha, h1⟩ := h1
    obtain ⟨h2, h1⟩ := zl_b h1
    obtain ⟨h3, h4⟩ := zl_b h1
    rw [List.any_eq_true]
    refine ⟨a, ha, ?_⟩
    rw [h2, zarr_ok (n := n) h3]
    show (sg_nil a.2.2.2.2.2 || ab_dec f.1 f.2.1 f.2.2 e' L a.2.2.2.2.2) = true
    rcases zl_i h4 with ⟨g1, -⟩ | ⟨g1, g2⟩
    · rw [g1]; rfl
    · rw [g1, g2]; rfl
def zsg1 (tb : List zRow) (dc : Instr → Nat → Nat → Option zF) (rt : Option FieldType) (nL : Nat) (posts : List ab_Pt) (pcs : List Nat) (cand : Nat → ab_St → List ab_An) (sp : Nat → List (Nat × Int)) (fuel : Nat) (a : ab_An) (svs : List ab_SV) (n0 : Nat) : Bool := @Bool.rec (fun _ => Bool) false (ziA n0 svs a (fun n e h Ls Sk => zrun tb pcs dc (zsgt tb rt posts svs cand sp (e, Ls, a.2.2.2.2.2)) fuel [] a.1 n e h Ls Sk)) (Nat.beq (zlen a.2.1) nL)
def zsg (tb : List zRow) (dc : Instr → Nat → Nat → Option zF) (rt : Option FieldType) (nL : Nat) (ta : List ab_TV) (posts : List ab_Pt) (pcs : List Nat) (cand : Nat → ab_St → List ab_An) (sp : Nat → List (Nat × Int)) (fuel : Nat) (a : ab_An) : Bool := zsg1 tb dc rt nL posts pcs cand sp fuel a (ab_inVs ta 0 []).1 (ab_inVs ta 0 []).2.1
theorem zsg_ok {tb : List zRow} {dc : Instr → Nat → Nat → Option zF} {stp : Instr → Nat → Nat → ab_St → Option (List (Nat × ab_St))} (hdc : ∀ i len pc g, dc i len pc = some g → zSp g (stp i len pc)) {rt : Option FieldType} {nL : Nat} {ta : List ab_TV} {posts : List ab_Pt} {pcs : List Nat} {cand : Nat → ab_St → List ab_An} {sp : Nat → List (Nat × Int)} {fuel : Nat} {a : ab_An} (hk : zsg tb dc rt nL ta posts pcs cand sp fuel a = true) : sg_chk tb stp rt nL ta posts pcs cand sp fuel a = true := by
  unfold zsg zsg1 at hk
  simp only [ziA_eq] at hk
  obtain ⟨h1, hk⟩ := zl_b hk
  obtain ⟨ts, h3, h4⟩ := zrun_ok hdc hk
  rw [zlen_eq] at h1
  unfold sg_chk
  show (Nat.beq a.2.1.length nL && (match ab_run tb pcs stp fuel a.1 (ab_iA (ab_inVs ta 0 []).2.1 (ab_inVs ta 0 []).1 a) with
    | some ts => ts.all (sg_ter tb rt posts (ab_inVs ta 0 []).1 cand sp ((ab_iA (ab_inVs ta 0 []).2.1 (ab_inVs ta 0 []).1 a).2.1, (ab_iA (ab_inVs ta 0 []).2.1 (ab_inVs ta 0 []).1 a).2.2.2.1, a.2.2.2.2.2))
    | none => false)) = true
  have h3 : ab_run tb pcs stp fuel a.1 (ab_iA (ab_inVs ta 0 []).2.1 (ab_inVs ta 0 []).1 a) = some ts := h3
  rw [h1, h3]
  show ts.all _ = true
  rw [List.all_eq_true]
  exact fun w hw => zsgt_ok (h4 w hw)
theorem zg_CO {l : Launch} {D : va_G} {cs : Nat → ClassId} {tS DS dp fuel : Nat} {q : List (Nat × ab_Sm)} {il : List Nat} {M : Nat → Bool} (hGl : ab_Gl l ZZ wFF D vwCl cs tS) (h1 : 1 ≤ DS) (hq : ∀ w ∈ q, ab_SOK l ZZ DS D vwCl cs tS w.1 w.2) (hil : ∀ k ∈ il, ab_GOK ZZ MtF wFF bFF vwCl BdF k) : ab_CO l ZZ (DS + dp) D vwCl cs tS M (zOL (ab_SLl q) (fun k => ab_mem k il) BdF ZZ MtF M fuel dp) :=
  zOL_ok hGl (fun k hk => hil k (ab_mem_iff.mp hk)) (ab_SLl_ok (P := fun k S => ab_SOK l ZZ DS D vwCl cs tS k S) hq) h1 dp
theorem zk_two {l : Launch} {D : va_G} {cs : Nat → ClassId} {tS j d0 f1 f2 : Nat} {m1 : List Nat} {q1 q2 q3 : List (Nat × ab_Sm)} {il1 il2 il3 : List Nat} {g1 g2 g3 dp1 dp2 dp3 : Nat} {S : ab_Sm} {pk : ab_TC} {anns1 outs1 anns2 : List ab_An} {pcs1 pcs2 : List Nat} {cand1 cand2 : Nat → ab_St → List ab_An} {sp1 sp2 : Nat → List (Nat × Int)}
    (hGl : ab_Gl l ZZ wFF D vwCl cs tS) (hG : ab_GOK ZZ MtF wFF bFF vwCl BdF j) (h1 : 1 ≤ d0)
    (CO1 : ab_CO l ZZ d0 D vwCl cs tS (fun k => ab_mem k m1) (zOL (ab_SLl q1) (fun k => ab_mem k il1) BdF ZZ MtF (fun k => ab_mem k m1) g1 dp1)) (CO2 : ab_CO l ZZ d0 D vwCl cs tS (fun k => ab_mem k S.2.2.2) (zOL (ab_SLl q2) (fun k => ab_mem k il2) BdF ZZ MtF (fun k => ab_mem k S.2.2.2) g2 dp2)) (CO3 : ab_CO l ZZ d0 D vwCl cs tS (fun k => ab_mem k S.2.2.2) (zOL (ab_SLl q3) (fun k => ab_mem k il3) BdF ZZ MtF (fun k => ab_mem k S.2.2.2) g3 dp3))
    (hM : m1.all (fun k => ab_mem k S.2.2.2) = true) (h144 : ab_mem 144 m1 = false)
    (hcd1 : ∀ pc st a, a ∈ cand1 pc st → (a ∈ anns1 ∧ a.2.2.2.2.2 ≠ []) ∨ a ∈ outs1) (hcd2 : ∀ pc st a, a ∈ cand2 pc st → (a ∈ anns2 ∧ a.2.2.2.2.2 ≠ []) ∨ a ∈ ([] : List ab_An))
    (c0 : zchk0 (BdF j).1 (fun i => zdc i (BdF j).2.1 MtF (zOO (ab_SLl q1) (fun k => ab_mem k il1) BdF ZZ MtF (fun k => ab_mem k m1) g1 dp1) (ZZ.2.2.1 j) (fun k => ab_mem k m1) (BdF j).2.2) (ZZ.2.2.2.1 j) (ZZ.2.2.1 j) S pcs1 cand1 sp1 f1 = true)
    (c1 : ∀ a ∈ anns1, zsg (BdF j).1 (fun i => zdc i (BdF j).2.1 MtF (zOO (ab_SLl q1) (fun k => ab_mem k il1) BdF ZZ MtF (fun k => ab_mem k m1) g1 dp1) (ZZ.2.2.1 j) (fun k => ab_mem k m1) (BdF j).2.2) (ZZ.2.2.2.1 j) (ZZ.2.2.1 j) S.1 S.2.2.1 pcs1 cand1 sp1 f1 a = true)
    (cx : ∀ x ∈ outs1, zsg (BdF j).1 (fun i => zdc i (BdF j).2.1 MtF (zOO (ab_SLl q2) (fun k => ab_mem k il2) BdF ZZ MtF (fun k => ab_mem k S.2.2.2) g2 dp2) (ZZ.2.2.1 j) (fun k => ab_mem k S.2.2.2) (BdF j).2.2) (ZZ.2.2.2.1 j) (ZZ.2.2.1 j) S.1 S.2.2.1 pcs2 cand2 sp2 f2 (lk_pre pk x) = true)
    (c2 : ∀ a ∈ anns2, zsg (BdF j).1 (fun i => zdc i (BdF j).2.1 MtF (zOO (ab_SLl q3) (fun k => ab_mem k il3) BdF ZZ MtF (fun k => ab_mem k S.2.2.2) g3 dp3) (ZZ.2.2.1 j) (fun k => ab_mem k S.2.2.2) (BdF j).2.2) (ZZ.2.2.2.1 j) (ZZ.2.2.1 j) S.1 S.2.2.1 pcs2 cand2 sp2 f2 a = true) : ab_SOK l ZZ (d0 + 1) D vwCl cs tS j (lk_S pk S) := 
  lk_two hGl hG h1 CO1 CO2 CO3 hM h144 hcd1 hcd2 (zchk0_ok (fun i len pc g hg => zdc_ok (zOO_ok dp1) hg) c0) (fun a ha => zsg_ok (fun i len pc g hg => zdc_ok (zOO_ok dp1) hg) (c1 a ha)) (fun x hx => zsg_ok (fun i len pc g hg => zdc_ok (zOO_ok dp2) hg) (cx x hx)) (fun a ha => zsg_ok (fun i len pc g hg => zdc_ok (zOO_ok dp3) hg) (c2 a ha))
end
