noncomputable section
def tc_44 : ab_TC := (4, 17, .inr (.inr (.inr (.inr [none, none, none, tR 46, none, none, tR 49, none, tR 57, none, none, none, none, none, none, none, none]))))
def tc_45 : ab_TC := (0, 70, .inl [(.ofNat 0, .ofNat 4)])
def th_59 : ab_TH := [(43, tc_44), (46, tc_45), (49, ci_49), (57, ci_57)]
-- SandFlags$Rota.leastOfGoingOn
def sm_55_0 : ab_Sm := ([tR 43, tN 0 69, tN 0 4], th_59, [([], some (tM 2147483647 1000000000), [])], [])
def an_55_0 : List ab_An := [(6, [tR 43, tN 0 69, tN 0 4, tM 2147483647 1000000000, tN 0 70], [], th_59, [], [(.ofNat 0, .ofNat 0, 0), (.ofNat 70, .negSucc 0, 4)])]
theorem sok_55_0 {l : Launch} {D : va_G} {cs : Nat → ClassId} {tS : Nat} (hGl : ab_Gl l ZZ wFF D vwCl cs tS) : ab_SOK l ZZ 2 D vwCl cs tS 55 sm_55_0 := zf_fin1 (DS := 1) (dp := 0) (fuel := 200000) (q := []) (il := []) (anns := an_55_0) (pcs := [6]) (cand := fun _ _ => an_55_0) (sp := (fun _ => [])) hGl gok_55 (by decide) (fun _ h => absurd h List.not_mem_nil) (fun _ h => absurd h List.not_mem_nil) (fun _ _ _ h => h) (by decide +kernel) (by decide +kernel)
def th_60 : ab_TH := [(59, ci_59), (60, ci_60), (61, ci_61), (62, ci_62), (63, ci_63), (64, ci_64)]
def tc_46 : ab_TC := (4, 17, .inr (.inr (.inr (.inr [none, none, none, tR 46, none, none, tR 49, none, tR 57, tR 58, none, none, tN 0 4, none, none, none, none]))))
def th_61 : ab_TH := [(43, tc_46), (46, tc_45), (49, ci_49), (57, ci_57), (58, ci_58), (59, ci_59), (60, ci_60), (61, ci_61), (62, ci_62), (63, ci_63), (64, ci_64)]
-- SandFlags$Rota.weighStates
def sm_54_0 : ab_Sm := ([tR 43, tN 0 5], th_61, [([], none, th_60)], [59, 60, 61, 62, 63, 64])
def an_54_0 : List ab_An := [(2, [tR 43, tN 0 5, tN 0 70, none], [], th_61, [], [(.ofNat 0, .ofNat 0, 0), (.ofNat 141, .negSucc 1, 2)]), (23, [tR 43, tN 0 5, tN 0 69, tN 0 5], [], th_61, [], [(.ofNat 0, .ofNat 0, 0), (.ofNat 140, .negSucc 1, 2), (.ofNat 5, .negSucc 0, 3)])]
theorem sok_54_0 {l : Launch} {D : va_G} {cs : Nat → ClassId} {tS : Nat} (hGl : ab_Gl l ZZ wFF D vwCl cs tS) : ab_SOK l ZZ 3 D vwCl cs tS 54 sm_54_0 := zf_fin1 (DS := 2) (dp := 0) (fuel := 200000) (q := [(55, sm_55_0)]) (il := []) (anns := an_54_0) (pcs := [2, 23]) (cand := fun _ _ => an_54_0) (sp := (fun _ => [])) hGl gok_54 (by decide) (List.forall_mem_cons.mpr ⟨ab_SOK_mono (sok_55_0 hGl) (by decide), (fun _ h => absurd h List.not_mem_nil)⟩) (fun _ h => absurd h List.not_mem_nil) (fun _ _ _ h => h) (by decide +kernel) (by decide +kernel)
def tc_47 : ab_TC := (4, 17, .inr (.inr (.inr (.inr [none, tR 44, none, none, none, none, none, none, none, none, none, none, none, none, none, none, none]))))
def th_62 : ab_TH := [(43, tc_47), (44, ci_44)]
-- SandFlags$Rota.isNear
def sm_47_0 : ab_Sm := ([tR 43, tN 0 3, tN 0 3], th_62, [([], some (tN 0 1), [])], [])
def an_47_0 : List ab_An := []
theorem sok_47_0 {l : Launch} {D : va_G} {cs : Nat → ClassId} {tS : Nat} (hGl : ab_Gl l ZZ wFF D vwCl cs tS) : ab_SOK l ZZ 2 D vwCl cs tS 47 sm_47_0 := zf_fin1 (DS := 1) (dp := 0) (fuel := 200000) (q := []) (il := []) (anns := an_47_0) (pcs := []) (cand := fun _ _ => an_47_0) (sp := (fun _ => [])) hGl gok_47 (by decide) (fun _ h => absurd h List.not_mem_nil) (fun _ h => absurd h List.not_mem_nil) (fun _ _ _ h => h) (by decide +kernel) (by decide +kernel)
-- SandFlags$Rota.mayGo
def sm_58_0 : ab_Sm := ([tR 43, tN 0 5, tN 0 3], th_62, [([], some (tN 0 1), [])], [])
def an_58_0 : List ab_An := []
theorem sok_58_0 {l : Launch} {D : va_G} {cs : Nat → ClassId} {tS : Nat} (hGl : ab_Gl l ZZ wFF D vwCl cs tS) : ab_SOK l ZZ 3 D vwCl cs tS 58 sm_58_0 := zf_fin1 (DS := 2) (dp := 0) (fuel := 200000) (q := [(47, sm_47_0)]) (il := []) (anns := an_58_0) (pcs := []) (cand := fun _ _ => an_58_0) (sp := (fun _ => [])) hGl gok_58 (by decide) (List.forall_mem_cons.mpr ⟨ab_SOK_mono (sok_47_0 hGl) (by decide), (fun _ h => absurd h List.not_mem_nil)⟩) (fun _ h => absurd h List.not_mem_nil) (fun _ _ _ h => h) (by decide +kernel) (by decide +kernel)
def tc_48 : ab_TC := (4, 17, .inr (.inr (.inr (.inr [none, none, none, tR 46, tR 47, none, none, tR 50, none, tR 58, none, none, tN 4 4, none, none, none, none]))))
def th_63 : ab_TH := [(43, tc_48), (46, ci_46), (47, ci_47), (50, ci_50), (51, ci_51), (52, ci_52), (53, ci_53), (54, ci_54), (55, ci_55), (56, ci_56), (58, ci_58), (60, ci_60), (61, ci_61), (62, ci_62), (63, ci_63), (64, ci_64), (65, ci_65)]
-- SandFlags$Rota.placeFrom
def sm_59_0 : ab_Sm := ([tR 43, tN 0 5, tN 4 4, tN 0 0, tN 0 0, tF], th_63, [([], some (tN 0 1), [])], [])
def an_59_0 : List ab_An := []
theorem sok_59_0 {l : Launch} {D : va_G} {cs : Nat → ClassId} {tS : Nat} (hGl : ab_Gl l ZZ wFF D vwCl cs tS) : ab_SOK l ZZ 2 D vwCl cs tS 59 sm_59_0 := zf_fin1 (DS := 1) (dp := 0) (fuel := 200000) (q := []) (il := []) (anns := an_59_0) (pcs := [118]) (cand := fun _ _ => an_59_0) (sp := (fun _ => [])) hGl gok_59 (by decide) (fun _ h => absurd h List.not_mem_nil) (fun _ h => absurd h List.not_mem_nil) (fun _ _ _ h => h) (by decide +kernel) (by decide +kernel)
-- SandFlags$Rota.placeFrom
def sm_59_1 : ab_Sm := ([tR 43, tN 0 5, tN 4 4, tN 0 0, tN 125 125, tF], th_63, [([], some (tN 0 1), [])], [])
def an_59_1 : List ab_An := []
theorem sok_59_1 {l : Launch} {D : va_G} {cs : Nat → ClassId} {tS : Nat} (hGl : ab_Gl l ZZ wFF D vwCl cs tS) : ab_SOK l ZZ 2 D vwCl cs tS 59 sm_59_1 := zf_fin1 (DS := 1) (dp := 0) (fuel := 200000) (q := []) (il := []) (anns := an_59_1) (pcs := [118]) (cand := fun _ _ => an_59_1) (sp := (fun _ => [])) hGl gok_59 (by decide) (fun _ h => absurd h List.not_mem_nil) (fun _ h => absurd h List.not_mem_nil) (fun _ _ _ h => h) (by decide +kernel) (by decide +kernel)
-- SandFlags$Rota.placeFrom
def sm_59_2 : ab_Sm := ([tR 43, tN 0 5, tN 4 4, tN 0 0, tN 250 250, tF], th_63, [([], some (tN 0 1), [])], [])
def an_59_2 : List ab_An := []
theorem sok_59_2 {l : Launch} {D : va_G} {cs : Nat → ClassId} {tS : Nat} (hGl : ab_Gl l ZZ wFF D vwCl cs tS) : ab_SOK l ZZ 2 D vwCl cs tS 59 sm_59_2 := zf_fin1 (DS := 1) (dp := 0) (fuel := 200000) (q := []) (il := []) (anns := an_59_2) (pcs := [118]) (cand := fun _ _ => an_59_2) (sp := (fun _ => [])) hGl gok_59 (by decide) (fun _ h => absurd h List.not_mem_nil) (fun _ h => absurd h List.not_mem_nil) (fun _ _ _ h => h) (by decide +kernel) (by decide +kernel)
-- SandFlags$Rota.placeFrom
def sm_59_3 : ab_Sm := ([tR 43, tN 0 5, tN 4 4, tN 0 0, tN 375 375, tF], th_63, [([], some (tN 0 1), [])], [])
def an_59_3 : List ab_An := []
theorem sok_59_3 {l : Launch} {D : va_G} {cs : Nat → ClassId} {tS : Nat} (hGl : ab_Gl l ZZ wFF D vwCl cs tS) : ab_SOK l ZZ 2 D vwCl cs tS 59 sm_59_3 := zf_fin1 (DS := 1) (dp := 0) (fuel := 200000) (q := []) (il := []) (anns := an_59_3) (pcs := [118]) (cand := fun _ _ => an_59_3) (sp := (fun _ => [])) hGl gok_59 (by decide) (fun _ h => absurd h List.not_mem_nil) (fun _ h => absurd h List.not_mem_nil) (fun _ _ _ h => h) (by decide +kernel) (by decide +kernel)
-- SandFlags$Rota.placeFrom
def sm_59_4 : ab_Sm := ([tR 43, tN 0 5, tN 4 4, tN 0 0, tN 500 500, tF], th_63, [([], some (tN 0 1), [])], [])
def an_59_4 : List ab_An := []
theorem sok_59_4 {l : Launch} {D : va_G} {cs : Nat → ClassId} {tS : Nat} (hGl : ab_Gl l ZZ wFF D vwCl cs tS) : ab_SOK l ZZ 2 D vwCl cs tS 59 sm_59_4 := zf_fin1 (DS := 1) (dp := 0) (fuel := 200000) (q := []) (il := []) (anns := an_59_4) (pcs := [118]) (cand := fun _ _ => an_59_4) (sp := (fun _ => [])) hGl gok_59 (by decide) (fun _ h => absurd h List.not_mem_nil) (fun _ h => absurd h List.not_mem_nil) (fun _ _ _ h => h) (by decide +kernel) (by decide +kernel)
-- SandFlags$Rota.placeFrom
def sm_59_5 : ab_Sm := ([tR 43, tN 0 5, tN 4 4, tN 0 0, tN 25 25, tF], th_63, [([], some (tN 0 1), [])], [])
def an_59_5 : List ab_An := []
theorem sok_59_5 {l : Launch} {D : va_G} {cs : Nat → ClassId} {tS : Nat} (hGl : ab_Gl l ZZ wFF D vwCl cs tS) : ab_SOK l ZZ 2 D vwCl cs tS 59 sm_59_5 := zf_fin1 (DS := 1) (dp := 0) (fuel := 200000) (q := []) (il := []) (anns := an_59_5) (pcs := [118]) (cand := fun _ _ => an_59_5) (sp := (fun _ => [])) hGl gok_59 (by decide) (fun _ h => absurd h List.not_mem_nil) (fun _ h => absurd h List.not_mem_nil) (fun _ _ _ h => h) (by decide +kernel) (by decide +kernel)
-- SandFlags$Rota.placeFrom
def sm_59_6 : ab_Sm := ([tR 43, tN 0 5, tN 4 4, tN 0 0, tN 150 150, tF], th_63, [([], some (tN 0 1), [])], [])
def an_59_6 : List ab_An := []
theorem sok_59_6 {l : Launch} {D : va_G} {cs : Nat → ClassId} {tS : Nat} (hGl : ab_Gl l ZZ wFF D vwCl cs tS) : ab_SOK l ZZ 2 D vwCl cs tS 59 sm_59_6 := zf_fin1 (DS := 1) (dp := 0) (fuel := 200000) (q := []) (il := []) (anns := an_59_6) (pcs := [118]) (cand := fun _ _ => an_59_6) (sp := (fun _ => [])) hGl gok_59 (by decide) (fun _ h => absurd h List.not_mem_nil) (fun _ h => absurd h List.not_mem_nil) (fun _ _ _ h => h) (by decide +kernel) (by decide +kernel)
-- SandFlags$Rota.placeFrom
def sm_59_7 : ab_Sm := ([tR 43, tN 0 5, tN 4 4, tN 0 0, tN 275 275, tF], th_63, [([], some (tN 0 1), [])], [])
def an_59_7 : List ab_An := []
theorem sok_59_7 {l : Launch} {D : va_G} {cs : Nat → ClassId} {tS : Nat} (hGl : ab_Gl l ZZ wFF D vwCl cs tS) : ab_SOK l ZZ 2 D vwCl cs tS 59 sm_59_7 := zf_fin1 (DS := 1) (dp := 0) (fuel := 200000) (q := []) (il := []) (anns := an_59_7) (pcs := [118]) (cand := fun _ _ => an_59_7) (sp := (fun _ => [])) hGl gok_59 (by decide) (fun _ h => absurd h List.not_mem_nil) (fun _ h => absurd h List.not_mem_nil) (fun _ _ _ h => h) (by decide +kernel) (by decide +kernel)
-- SandFlags$Rota.placeFrom
def sm_59_8 : ab_Sm := ([tR 43, tN 0 5, tN 4 4, tN 0 0, tN 400 400, tF], th_63, [([], some (tN 0 1), [])], [])
def an_59_8 : List ab_An := []
theorem sok_59_8 {l : Launch} {D : va_G} {cs : Nat → ClassId} {tS : Nat} (hGl : ab_Gl l ZZ wFF D vwCl cs tS) : ab_SOK l ZZ 2 D vwCl cs tS 59 sm_59_8 := zf_fin1 (DS := 1) (dp := 0) (fuel := 200000) (q := []) (il := []) (anns := an_59_8) (pcs := [118]) (cand := fun _ _ => an_59_8) (sp := (fun _ => [])) hGl gok_59 (by decide) (fun _ h => absurd h List.not_mem_nil) (fun _ h => absurd h List.not_mem_nil) (fun _ _ _ h => h) (by decide +kernel) (by decide +kernel)
-- SandFlags$Rota.placeFrom
def sm_59_9 : ab_Sm := ([tR 43, tN 0 5, tN 4 4, tN 0 0, tN 50 50, tF], th_63, [([], some (tN 0 1), [])], [])
def an_59_9 : List ab_An := []
theorem sok_59_9 {l : Launch} {D : va_G} {cs : Nat → ClassId} {tS : Nat} (hGl : ab_Gl l ZZ wFF D vwCl cs tS) : ab_SOK l ZZ 2 D vwCl cs tS 59 sm_59_9 := zf_fin1 (DS := 1) (dp := 0) (fuel := 200000) (q := []) (il := []) (anns := an_59_9) (pcs := [118]) (cand := fun _ _ => an_59_9) (sp := (fun _ => [])) hGl gok_59 (by decide) (fun _ h => absurd h List.not_mem_nil) (fun _ h => absurd h List.not_mem_nil) (fun _ _ _ h => h) (by decide +kernel) (by decide +kernel)
-- SandFlags$Rota.placeFrom
def sm_59_10 : ab_Sm := ([tR 43, tN 0 5, tN 4 4, tN 0 0, tN 175 175, tF], th_63, [([], some (tN 0 1), [])], [])
def an_59_10 : List ab_An := []
theorem sok_59_10 {l : Launch} {D : va_G} {cs : Nat → ClassId} {tS : Nat} (hGl : ab_Gl l ZZ wFF D vwCl cs tS) : ab_SOK l ZZ 2 D vwCl cs tS 59 sm_59_10 := zf_fin1 (DS := 1) (dp := 0) (fuel := 200000) (q := []) (il := []) (anns := an_59_10) (pcs := [118]) (cand := fun _ _ => an_59_10) (sp := (fun _ => [])) hGl gok_59 (by decide) (fun _ h => absurd h List.not_mem_nil) (fun _ h => absurd h List.not_mem_nil) (fun _ _ _ h => h) (by decide +kernel) (by decide +kernel)
-- SandFlags$Rota.placeFrom
def sm_59_11 : ab_Sm := ([tR 43, tN 0 5, tN 4 4, tN 0 0, tN 300 300, tF], th_63, [([], some (tN 0 1), [])], [])
def an_59_11 : List ab_An := []
theorem sok_59_11 {l : Launch} {D : va_G} {cs : Nat → ClassId} {tS : Nat} (hGl : ab_Gl l ZZ wFF D vwCl cs tS) : ab_SOK l ZZ 2 D vwCl cs tS 59 sm_59_11 := zf_fin1 (DS := 1) (dp := 0) (fuel := 200000) (q := []) (il := []) (anns := an_59_11) (pcs := [118]) (cand := fun _ _ => an_59_11) (sp := (fun _ => [])) hGl gok_59 (by decide) (fun _ h => absurd h List.not_mem_nil) (fun _ h => absurd h List.not_mem_nil) (fun _ _ _ h => h) (by decide +kernel) (by decide +kernel)
-- SandFlags$Rota.placeFrom
def sm_59_12 : ab_Sm := ([tR 43, tN 0 5, tN 4 4, tN 0 0, tN 75 75, tF], th_63, [([], some (tN 0 1), [])], [])
def an_59_12 : List ab_An := []
theorem sok_59_12 {l : Launch} {D : va_G} {cs : Nat → ClassId} {tS : Nat} (hGl : ab_Gl l ZZ wFF D vwCl cs tS) : ab_SOK l ZZ 2 D vwCl cs tS 59 sm_59_12 := zf_fin1 (DS := 1) (dp := 0) (fuel := 200000) (q := []) (il := []) (anns := an_59_12) (pcs := [118]) (cand := fun _ _ => an_59_12) (sp := (fun _ => [])) hGl gok_59 (by decide) (fun _ h => absurd h List.not_mem_nil) (fun _ h => absurd h List.not_mem_nil) (fun _ _ _ h => h) (by decide +kernel) (by decide +kernel)
-- SandFlags$Rota.placeFrom
def sm_59_13 : ab_Sm := ([tR 43, tN 0 5, tN 4 4, tN 0 0, tN 200 200, tF], th_63, [([], some (tN 0 1), [])], [])
def an_59_13 : List ab_An := []
theorem sok_59_13 {l : Launch} {D : va_G} {cs : Nat → ClassId} {tS : Nat} (hGl : ab_Gl l ZZ wFF D vwCl cs tS) : ab_SOK l ZZ 2 D vwCl cs tS 59 sm_59_13 := zf_fin1 (DS := 1) (dp := 0) (fuel := 200000) (q := []) (il := []) (anns := an_59_13) (pcs := [118]) (cand := fun _ _ => an_59_13) (sp := (fun _ => [])) hGl gok_59 (by decide) (fun _ h => absurd h List.not_mem_nil) (fun _ h => absurd h List.not_mem_nil) (fun _ _ _ h => h) (by decide +kernel) (by decide +kernel)
-- SandFlags$Rota.placeFrom
def sm_59_14 : ab_Sm := ([tR 43, tN 0 5, tN 4 4, tN 0 0, tN 100 100, tF], th_63, [([], some (tN 0 1), [])], [])
def an_59_14 : List ab_An := []
theorem sok_59_14 {l : Launch} {D : va_G} {cs : Nat → ClassId} {tS : Nat} (hGl : ab_Gl l ZZ wFF D vwCl cs tS) : ab_SOK l ZZ 2 D vwCl cs tS 59 sm_59_14 := zf_fin1 (DS := 1) (dp := 0) (fuel := 200000) (q := []) (il := []) (anns := an_59_14) (pcs := [118]) (cand := fun _ _ => an_59_14) (sp := (fun _ => [])) hGl gok_59 (by decide) (fun _ h => absurd h List.not_mem_nil) (fun _ h => absurd h List.not_mem_nil) (fun _ _ _ h => h) (by decide +kernel) (by decide +kernel)
-- SandFlags$Rota.placeFrom
def sm_59_15 : ab_Sm := ([tR 43, tN 0 5, tN 4 4, tN 0 0, tN 5 5, tF], th_63, [([], some (tN 0 1), [])], [])
def an_59_15 : List ab_An := []
theorem sok_59_15 {l : Launch} {D : va_G} {cs : Nat → ClassId} {tS : Nat} (hGl : ab_Gl l ZZ wFF D vwCl cs tS) : ab_SOK l ZZ 2 D vwCl cs tS 59 sm_59_15 := zf_fin1 (DS := 1) (dp := 0) (fuel := 200000) (q := []) (il := []) (anns := an_59_15) (pcs := [118]) (cand := fun _ _ => an_59_15) (sp := (fun _ => [])) hGl gok_59 (by decide) (fun _ h => absurd h List.not_mem_nil) (fun _ h => absurd h List.not_mem_nil) (fun _ _ _ h => h) (by decide +kernel) (by decide +kernel)
-- SandFlags$Rota.placeFrom
def sm_59_16 : ab_Sm := ([tR 43, tN 0 5, tN 4 4, tN 0 0, tN 130 130, tF], th_63, [([], some (tN 0 1), [])], [])
def an_59_16 : List ab_An := []
theorem sok_59_16 {l : Launch} {D : va_G} {cs : Nat → ClassId} {tS : Nat} (hGl : ab_Gl l ZZ wFF D vwCl cs tS) : ab_SOK l ZZ 2 D vwCl cs tS 59 sm_59_16 := zf_fin1 (DS := 1) (dp := 0) (fuel := 200000) (q := []) (il := []) (anns := an_59_16) (pcs := [118]) (cand := fun _ _ => an_59_16) (sp := (fun _ => [])) hGl gok_59 (by decide) (fun _ h => absurd h List.not_mem_nil) (fun _ h => absurd h List.not_mem_nil) (fun _ _ _ h => h) (by decide +kernel) (by decide +kernel)
-- SandFlags$Rota.placeFrom
def sm_59_17 : ab_Sm := ([tR 43, tN 0 5, tN 4 4, tN 0 0, tN 255 255, tF], th_63, [([], some (tN 0 1), [])], [])
def an_59_17 : List ab_An := []
theorem sok_59_17 {l : Launch} {D : va_G} {cs : Nat → ClassId} {tS : Nat} (hGl : ab_Gl l ZZ wFF D vwCl cs tS) : ab_SOK l ZZ 2 D vwCl cs tS 59 sm_59_17 := zf_fin1 (DS := 1) (dp := 0) (fuel := 200000) (q := []) (il := []) (anns := an_59_17) (pcs := [118]) (cand := fun _ _ => an_59_17) (sp := (fun _ => [])) hGl gok_59 (by decide) (fun _ h => absurd h List.not_mem_nil) (fun _ h => absurd h List.not_mem_nil) (fun _ _ _ h => h) (by decide +kernel) (by decide +kernel)
-- SandFlags$Rota.placeFrom
def sm_59_18 : ab_Sm := ([tR 43, tN 0 5, tN 4 4, tN 0 0, tN 380 380, tF], th_63, [([], some (tN 0 1), [])], [])
def an_59_18 : List ab_An := []
theorem sok_59_18 {l : Launch} {D : va_G} {cs : Nat → ClassId} {tS : Nat} (hGl : ab_Gl l ZZ wFF D vwCl cs tS) : ab_SOK l ZZ 2 D vwCl cs tS 59 sm_59_18 := zf_fin1 (DS := 1) (dp := 0) (fuel := 200000) (q := []) (il := []) (anns := an_59_18) (pcs := [118]) (cand := fun _ _ => an_59_18) (sp := (fun _ => [])) hGl gok_59 (by decide) (fun _ h => absurd h List.not_mem_nil) (fun _ h => absurd h List.not_mem_nil) (fun _ _ _ h => h) (by decide +kernel) (by decide +kernel)
-- SandFlags$Rota.placeFrom
def sm_59_19 : ab_Sm := ([tR 43, tN 0 5, tN 4 4, tN 0 0, tN 30 30, tF], th_63, [([], some (tN 0 1), [])], [])
def an_59_19 : List ab_An := []
theorem sok_59_19 {l : Launch} {D : va_G} {cs : Nat → ClassId} {tS : Nat} (hGl : ab_Gl l ZZ wFF D vwCl cs tS) : ab_SOK l ZZ 2 D vwCl cs tS 59 sm_59_19 := zf_fin1 (DS := 1) (dp := 0) (fuel := 200000) (q := []) (il := []) (anns := an_59_19) (pcs := [118]) (cand := fun _ _ => an_59_19) (sp := (fun _ => [])) hGl gok_59 (by decide) (fun _ h => absurd h List.not_mem_nil) (fun _ h => absurd h List.not_mem_nil) (fun _ _ _ h => h) (by decide +kernel) (by decide +kernel)
-- SandFlags$Rota.placeFrom
def sm_59_20 : ab_Sm := ([tR 43, tN 0 5, tN 4 4, tN 0 0, tN 155 155, tF], th_63, [([], some (tN 0 1), [])], [])
def an_59_20 : List ab_An := []
theorem sok_59_20 {l : Launch} {D : va_G} {cs : Nat → ClassId} {tS : Nat} (hGl : ab_Gl l ZZ wFF D vwCl cs tS) : ab_SOK l ZZ 2 D vwCl cs tS 59 sm_59_20 := zf_fin1 (DS := 1) (dp := 0) (fuel := 200000) (q := []) (il := []) (anns := an_59_20) (pcs := [118]) (cand := fun _ _ => an_59_20) (sp := (fun _ => [])) hGl gok_59 (by decide) (fun _ h => absurd h List.not_mem_nil) (fun _ h => absurd h List.not_mem_nil) (fun _ _ _ h => h) (by decide +kernel) (by decide +kernel)
-- SandFlags$Rota.placeFrom
def sm_59_21 : ab_Sm := ([tR 43, tN 0 5, tN 4 4, tN 0 0, tN 280 280, tF], th_63, [([], some (tN 0 1), [])], [])
def an_59_21 : List ab_An := []
theorem sok_59_21 {l : Launch} {D : va_G} {cs : Nat → ClassId} {tS : Nat} (hGl : ab_Gl l ZZ wFF D vwCl cs tS) : ab_SOK l ZZ 2 D vwCl cs tS 59 sm_59_21 := zf_fin1 (DS := 1) (dp := 0) (fuel := 200000) (q := []) (il := []) (anns := an_59_21) (pcs := [118]) (cand := fun _ _ => an_59_21) (sp := (fun _ => [])) hGl gok_59 (by decide) (fun _ h => absurd h List.not_mem_nil) (fun _ h => absurd h List.not_mem_nil) (fun _ _ _ h => h) (by decide +kernel) (by decide +kernel)
-- SandFlags$Rota.placeFrom
def sm_59_22 : ab_Sm := ([tR 43, tN 0 5, tN 4 4, tN 0 0, tN 55 55, tF], th_63, [([], some (tN 0 1), [])], [])
def an_59_22 : List ab_An := []
theorem sok_59_22 {l : Launch} {D : va_G} {cs : Nat → ClassId} {tS : Nat} (hGl : ab_Gl l ZZ wFF D vwCl cs tS) : ab_SOK l ZZ 2 D vwCl cs tS 59 sm_59_22 := zf_fin1 (DS := 1) (dp := 0) (fuel := 200000) (q := []) (il := []) (anns := an_59_22) (pcs := [118]) (cand := fun _ _ => an_59_22) (sp := (fun _ => [])) hGl gok_59 (by decide) (fun _ h => absurd h List.not_mem_nil) (fun _ h => absurd h List.not_mem_nil) (fun _ _ _ h => h) (by decide +kernel) (by decide +kernel)
-- SandFlags$Rota.placeFrom
def sm_59_23 : ab_Sm := ([tR 43, tN 0 5, tN 4 4, tN 0 0, tN 180 180, tF], th_63, [([], some (tN 0 1), [])], [])
def an_59_23 : List ab_An := []
theorem sok_59_23 {l : Launch} {D : va_G} {cs : Nat → ClassId} {tS : Nat} (hGl : ab_Gl l ZZ wFF D vwCl cs tS) : ab_SOK l ZZ 2 D vwCl cs tS 59 sm_59_23 := zf_fin1 (DS := 1) (dp := 0) (fuel := 200000) (q := []) (il := []) (anns := an_59_23) (pcs := [118]) (cand := fun _ _ => an_59_23) (sp := (fun _ => [])) hGl gok_59 (by decide) (fun _ h => absurd h List.not_mem_nil) (fun _ h => absurd h List.not_mem_nil) (fun _ _ _ h => h) (by decide +kernel) (by decide +kernel)
-- SandFlags$Rota.placeFrom
def sm_59_24 : ab_Sm := ([tR 43, tN 0 5, tN 4 4, tN 0 0, tN 80 80, tF], th_63, [([], some (tN 0 1), [])], [])
def an_59_24 : List ab_An := []
theorem sok_59_24 {l : Launch} {D : va_G} {cs : Nat → ClassId} {tS : Nat} (hGl : ab_Gl l ZZ wFF D vwCl cs tS) : ab_SOK l ZZ 2 D vwCl cs tS 59 sm_59_24 := zf_fin1 (DS := 1) (dp := 0) (fuel := 200000) (q := []) (il := []) (anns := an_59_24) (pcs := [118]) (cand := fun _ _ => an_59_24) (sp := (fun _ => [])) hGl gok_59 (by decide) (fun _ h => absurd h List.not_mem_nil) (fun _ h => absurd h List.not_mem_nil) (fun _ _ _ h => h) (by decide +kernel) (by decide +kernel)
-- SandFlags$Rota.placeFrom
def sm_59_25 : ab_Sm := ([tR 43, tN 0 5, tN 4 4, tN 0 0, tN 10 10, tF], th_63, [([], some (tN 0 1), [])], [])
def an_59_25 : List ab_An := []
theorem sok_59_25 {l : Launch} {D : va_G} {cs : Nat → ClassId} {tS : Nat} (hGl : ab_Gl l ZZ wFF D vwCl cs tS) : ab_SOK l ZZ 2 D vwCl cs tS 59 sm_59_25 := zf_fin1 (DS := 1) (dp := 0) (fuel := 200000) (q := []) (il := []) (anns := an_59_25) (pcs := [118]) (cand := fun _ _ => an_59_25) (sp := (fun _ => [])) hGl gok_59 (by decide) (fun _ h => absurd h List.not_mem_nil) (fun _ h => absurd h List.not_mem_nil) (fun _ _ _ h => h) (by decide +kernel) (by decide +kernel)
-- SandFlags$Rota.placeFrom
def sm_59_26 : ab_Sm := ([tR 43, tN 0 5, tN 4 4, tN 0 0, tN 135 135, tF], th_63, [([], some (tN 0 1), [])], [])
def an_59_26 : List ab_An := []
theorem sok_59_26 {l : Launch} {D : va_G} {cs : Nat → ClassId} {tS : Nat} (hGl : ab_Gl l ZZ wFF D vwCl cs tS) : ab_SOK l ZZ 2 D vwCl cs tS 59 sm_59_26 := zf_fin1 (DS := 1) (dp := 0) (fuel := 200000) (q := []) (il := []) (anns := an_59_26) (pcs := [118]) (cand := fun _ _ => an_59_26) (sp := (fun _ => [])) hGl gok_59 (by decide) (fun _ h => absurd h List.not_mem_nil) (fun _ h => absurd h List.not_mem_nil) (fun _ _ _ h => h) (by decide +kernel) (by decide +kernel)
-- SandFlags$Rota.placeFrom
def sm_59_27 : ab_Sm := ([tR 43, tN 0 5, tN 4 4, tN 0 0, tN 260 260, tF], th_63, [([], some (tN 0 1), [])], [])
def an_59_27 : List ab_An := []
theorem sok_59_27 {l : Launch} {D : va_G} {cs : Nat → ClassId} {tS : Nat} (hGl : ab_Gl l ZZ wFF D vwCl cs tS) : ab_SOK l ZZ 2 D vwCl cs tS 59 sm_59_27 := zf_fin1 (DS := 1) (dp := 0) (fuel := 200000) (q := []) (il := []) (anns := an_59_27) (pcs := [118]) (cand := fun _ _ => an_59_27) (sp := (fun _ => [])) hGl gok_59 (by decide) (fun _ h => absurd h List.not_mem_nil) (fun _ h => absurd h List.not_mem_nil) (fun _ _ _ h => h) (by decide +kernel) (by decide +kernel)
-- SandFlags$Rota.placeFrom
def sm_59_28 : ab_Sm := ([tR 43, tN 0 5, tN 4 4, tN 0 0, tN 35 35, tF], th_63, [([], some (tN 0 1), [])], [])
def an_59_28 : List ab_An := []
theorem sok_59_28 {l : Launch} {D : va_G} {cs : Nat → ClassId} {tS : Nat} (hGl : ab_Gl l ZZ wFF D vwCl cs tS) : ab_SOK l ZZ 2 D vwCl cs tS 59 sm_59_28 := zf_fin1 (DS := 1) (dp := 0) (fuel := 200000) (q := []) (il := []) (anns := an_59_28) (pcs := [118]) (cand := fun _ _ => an_59_28) (sp := (fun _ => [])) hGl gok_59 (by decide) (fun _ h => absurd h List.not_mem_nil) (fun _ h => absurd h List.not_mem_nil) (fun _ _ _ h => h) (by decide +kernel) (by decide +kernel)
-- SandFlags$Rota.placeFrom
def sm_59_29 : ab_Sm := ([tR 43, tN 0 5, tN 4 4, tN 0 0, tN 160 160, tF], th_63, [([], some (tN 0 1), [])], [])
def an_59_29 : List ab_An := []
theorem sok_59_29 {l : Launch} {D : va_G} {cs : Nat → ClassId} {tS : Nat} (hGl : ab_Gl l ZZ wFF D vwCl cs tS) : ab_SOK l ZZ 2 D vwCl cs tS 59 sm_59_29 := zf_fin1 (DS := 1) (dp := 0) (fuel := 200000) (q := []) (il := []) (anns := an_59_29) (pcs := [118]) (cand := fun _ _ => an_59_29) (sp := (fun _ => [])) hGl gok_59 (by decide) (fun _ h => absurd h List.not_mem_nil) (fun _ h => absurd h List.not_mem_nil) (fun _ _ _ h => h) (by decide +kernel) (by decide +kernel)
-- SandFlags$Rota.placeFrom
def sm_59_30 : ab_Sm := ([tR 43, tN 0 5, tN 4 4, tN 0 0, tN 60 60, tF], th_63, [([], some (tN 0 1), [])], [])
def an_59_30 : List ab_An := []
theorem sok_59_30 {l : Launch} {D : va_G} {cs : Nat → ClassId} {tS : Nat} (hGl : ab_Gl l ZZ wFF D vwCl cs tS) : ab_SOK l ZZ 2 D vwCl cs tS 59 sm_59_30 := zf_fin1 (DS := 1) (dp := 0) (fuel := 200000) (q := []) (il := []) (anns := an_59_30) (pcs := [118]) (cand := fun _ _ => an_59_30) (sp := (fun _ => [])) hGl gok_59 (by decide) (fun _ h => absurd h List.not_mem_nil) (fun _ h => absurd h List.not_mem_nil) (fun _ _ _ h => h) (by decide +kernel) (by decide +kernel)
-- SandFlags$Rota.placeFrom
def sm_59_31 : ab_Sm := ([tR 43, tN 0 5, tN 4 4, tN 0 0, tN 15 15, tF], th_63, [([], some (tN 0 1), [])], [])
def an_59_31 : List ab_An := []
theorem sok_59_31 {l : Launch} {D : va_G} {cs : Nat → ClassId} {tS : Nat} (hGl : ab_Gl l ZZ wFF D vwCl cs tS) : ab_SOK l ZZ 2 D vwCl cs tS 59 sm_59_31 := zf_fin1 (DS := 1) (dp := 0) (fuel := 200000) (q := []) (il := []) (anns := an_59_31) (pcs := [118]) (cand := fun _ _ => an_59_31) (sp := (fun _ => [])) hGl gok_59 (by decide) (fun _ h => absurd h List.not_mem_nil) (fun _ h => absurd h List.not_mem_nil) (fun _ _ _ h => h) (by decide +kernel) (by decide +kernel)
-- SandFlags$Rota.placeFrom
def sm_59_32 : ab_Sm := ([tR 43, tN 0 5, tN 4 4, tN 0 0, tN 140 140, tF], th_63, [([], some (tN 0 1), [])], [])
def an_59_32 : List ab_An := []
theorem sok_59_32 {l : Launch} {D : va_G} {cs : Nat → ClassId} {tS : Nat} (hGl : ab_Gl l ZZ wFF D vwCl cs tS) : ab_SOK l ZZ 2 D vwCl cs tS 59 sm_59_32 := zf_fin1 (DS := 1) (dp := 0) (fuel := 200000) (q := []) (il := []) (anns := an_59_32) (pcs := [118]) (cand := fun _ _ => an_59_32) (sp := (fun _ => [])) hGl gok_59 (by decide) (fun _ h => absurd h List.not_mem_nil) (fun _ h => absurd h List.not_mem_nil) (fun _ _ _ h => h) (by decide +kernel) (by decide +kernel)
-- SandFlags$Rota.placeFrom
def sm_59_33 : ab_Sm := ([tR 43, tN 0 5, tN 4 4, tN 0 0, tN 40 40, tF], th_63, [([], some (tN 0 1), [])], [])
def an_59_33 : List ab_An := []
theorem sok_59_33 {l : Launch} {D : va_G} {cs : Nat → ClassId} {tS : Nat} (hGl : ab_Gl l ZZ wFF D vwCl cs tS) : ab_SOK l ZZ 2 D vwCl cs tS 59 sm_59_33 := zf_fin1 (DS := 1) (dp := 0) (fuel := 200000) (q := []) (il := []) (anns := an_59_33) (pcs := [118]) (cand := fun _ _ => an_59_33) (sp := (fun _ => [])) hGl gok_59 (by decide) (fun _ h => absurd h List.not_mem_nil) (fun _ h => absurd h List.not_mem_nil) (fun _ _ _ h => h) (by decide +kernel) (by decide +kernel)
-- SandFlags$Rota.placeFrom
def sm_59_34 : ab_Sm := ([tR 43, tN 0 5, tN 4 4, tN 0 0, tN 20 20, tF], th_63, [([], some (tN 0 1), [])], [])
def an_59_34 : List ab_An := []
theorem sok_59_34 {l : Launch} {D : va_G} {cs : Nat → ClassId} {tS : Nat} (hGl : ab_Gl l ZZ wFF D vwCl cs tS) : ab_SOK l ZZ 2 D vwCl cs tS 59 sm_59_34 := zf_fin1 (DS := 1) (dp := 0) (fuel := 200000) (q := []) (il := []) (anns := an_59_34) (pcs := [118]) (cand := fun _ _ => an_59_34) (sp := (fun _ => [])) hGl gok_59 (by decide) (fun _ h => absurd h List.not_mem_nil) (fun _ h => absurd h List.not_mem_nil) (fun _ _ _ h => h) (by decide +kernel) (by decide +kernel)
-- SandFlags$Rota.placeFrom
def sm_59_35 : ab_Sm := ([tR 43, tN 0 5, tN 4 4, tN 0 0, tN 1 1, tF], th_63, [([], some (tN 0 1), [])], [])
def an_59_35 : List ab_An := []
theorem sok_59_35 {l : Launch} {D : va_G} {cs : Nat → ClassId} {tS : Nat} (hGl : ab_Gl l ZZ wFF D vwCl cs tS) : ab_SOK l ZZ 2 D vwCl cs tS 59 sm_59_35 := zf_fin1 (DS := 1) (dp := 0) (fuel := 200000) (q := []) (il := []) (anns := an_59_35) (pcs := [118]) (cand := fun _ _ => an_59_35) (sp := (fun _ => [])) hGl gok_59 (by decide) (fun _ h => absurd h List.not_mem_nil) (fun _ h => absurd h List.not_mem_nil) (fun _ _ _ h => h) (by decide +kernel) (by decide +kernel)
-- SandFlags$Rota.placeFrom
def sm_59_36 : ab_Sm := ([tR 43, tN 0 5, tN 4 4, tN 0 0, tN 126 126, tF], th_63, [([], some (tN 0 1), [])], [])
def an_59_36 : List ab_An := []
theorem sok_59_36 {l : Launch} {D : va_G} {cs : Nat → ClassId} {tS : Nat} (hGl : ab_Gl l ZZ wFF D vwCl cs tS) : ab_SOK l ZZ 2 D vwCl cs tS 59 sm_59_36 := zf_fin1 (DS := 1) (dp := 0) (fuel := 200000) (q := []) (il := []) (anns := an_59_36) (pcs := [118]) (cand := fun _ _ => an_59_36) (sp := (fun _ => [])) hGl gok_59 (by decide) (fun _ h => absurd h List.not_mem_nil) (fun _ h => absurd h List.not_mem_nil) (fun _ _ _ h => h) (by decide +kernel) (by decide +kernel)
-- SandFlags$Rota.placeFrom
def sm_59_37 : ab_Sm := ([tR 43, tN 0 5, tN 4 4, tN 0 0, tN 251 251, tF], th_63, [([], some (tN 0 1), [])], [])
def an_59_37 : List ab_An := []
theorem sok_59_37 {l : Launch} {D : va_G} {cs : Nat → ClassId} {tS : Nat} (hGl : ab_Gl l ZZ wFF D vwCl cs tS) : ab_SOK l ZZ 2 D vwCl cs tS 59 sm_59_37 := zf_fin1 (DS := 1) (dp := 0) (fuel := 200000) (q := []) (il := []) (anns := an_59_37) (pcs := [118]) (cand := fun _ _ => an_59_37) (sp := (fun _ => [])) hGl gok_59 (by decide) (fun _ h => absurd h List.not_mem_nil) (fun _ h => absurd h List.not_mem_nil) (fun _ _ _ h => h) (by decide +kernel) (by decide +kernel)
-- SandFlags$Rota.placeFrom
def sm_59_38 : ab_Sm := ([tR 43, tN 0 5, tN 4 4, tN 0 0, tN 376 376, tF], th_63, [([], some (tN 0 1), [])], [])
def an_59_38 : List ab_An := []
theorem sok_59_38 {l : Launch} {D : va_G} {cs : Nat → ClassId} {tS : Nat} (hGl : ab_Gl l ZZ wFF D vwCl cs tS) : ab_SOK l ZZ 2 D vwCl cs tS 59 sm_59_38 := zf_fin1 (DS := 1) (dp := 0) (fuel := 200000) (q := []) (il := []) (anns := an_59_38) (pcs := [118]) (cand := fun _ _ => an_59_38) (sp := (fun _ => [])) hGl gok_59 (by decide) (fun _ h => absurd h List.not_mem_nil) (fun _ h => absurd h List.not_mem_nil) (fun _ _ _ h => h) (by decide +kernel) (by decide +kernel)
-- SandFlags$Rota.placeFrom
def sm_59_39 : ab_Sm := ([tR 43, tN 0 5, tN 4 4, tN 0 0, tN 26 26, tF], th_63, [([], some (tN 0 1), [])], [])
def an_59_39 : List ab_An := []
theorem sok_59_39 {l : Launch} {D : va_G} {cs : Nat → ClassId} {tS : Nat} (hGl : ab_Gl l ZZ wFF D vwCl cs tS) : ab_SOK l ZZ 2 D vwCl cs tS 59 sm_59_39 := zf_fin1 (DS := 1) (dp := 0) (fuel := 200000) (q := []) (il := []) (anns := an_59_39) (pcs := [118]) (cand := fun _ _ => an_59_39) (sp := (fun _ => [])) hGl gok_59 (by decide) (fun _ h => absurd h List.not_mem_nil) (fun _ h => absurd h List.not_mem_nil) (fun _ _ _ h => h) (by decide +kernel) (by decide +kernel)
-- SandFlags$Rota.placeFrom
def sm_59_40 : ab_Sm := ([tR 43, tN 0 5, tN 4 4, tN 0 0, tN 151 151, tF], th_63, [([], some (tN 0 1), [])], [])
def an_59_40 : List ab_An := []
theorem sok_59_40 {l : Launch} {D : va_G} {cs : Nat → ClassId} {tS : Nat} (hGl : ab_Gl l ZZ wFF D vwCl cs tS) : ab_SOK l ZZ 2 D vwCl cs tS 59 sm_59_40 := zf_fin1 (DS := 1) (dp := 0) (fuel := 200000) (q := []) (il := []) (anns := an_59_40) (pcs := [118]) (cand := fun _ _ => an_59_40) (sp := (fun _ => [])) hGl gok_59 (by decide) (fun _ h => absurd h List.not_mem_nil) (fun _ h => absurd h List.not_mem_nil) (fun _ _ _ h => h) (by decide +kernel) (by decide +kernel)
-- SandFlags$Rota.placeFrom
def sm_59_41 : ab_Sm := ([tR 43, tN 0 5, tN 4 4, tN 0 0, tN 276 276, tF], th_63, [([], some (tN 0 1), [])], [])
def an_59_41 : List ab_An := []
theorem sok_59_41 {l : Launch} {D : va_G} {cs : Nat → ClassId} {tS : Nat} (hGl : ab_Gl l ZZ wFF D vwCl cs tS) : ab_SOK l ZZ 2 D vwCl cs tS 59 sm_59_41 := zf_fin1 (DS := 1) (dp := 0) (fuel := 200000) (q := []) (il := []) (anns := an_59_41) (pcs := [118]) (cand := fun _ _ => an_59_41) (sp := (fun _ => [])) hGl gok_59 (by decide) (fun _ h => absurd h List.not_mem_nil) (fun _ h => absurd h List.not_mem_nil) (fun _ _ _ h => h) (by decide +kernel) (by decide +kernel)
-- SandFlags$Rota.placeFrom
def sm_59_42 : ab_Sm := ([tR 43, tN 0 5, tN 4 4, tN 0 0, tN 51 51, tF], th_63, [([], some (tN 0 1), [])], [])
def an_59_42 : List ab_An := []
theorem sok_59_42 {l : Launch} {D : va_G} {cs : Nat → ClassId} {tS : Nat} (hGl : ab_Gl l ZZ wFF D vwCl cs tS) : ab_SOK l ZZ 2 D vwCl cs tS 59 sm_59_42 := zf_fin1 (DS := 1) (dp := 0) (fuel := 200000) (q := []) (il := []) (anns := an_59_42) (pcs := [118]) (cand := fun _ _ => an_59_42) (sp := (fun _ => [])) hGl gok_59 (by decide) (fun _ h => absurd h List.not_mem_nil) (fun _ h => absurd h List.not_mem_nil) (fun _ _ _ h => h) (by decide +kernel) (by decide +kernel)
-- SandFlags$Rota.placeFrom
def sm_59_43 : ab_Sm := ([tR 43, tN 0 5, tN 4 4, tN 0 0, tN 176 176, tF], th_63, [([], some (tN 0 1), [])], [])
def an_59_43 : List ab_An := []
theorem sok_59_43 {l : Launch} {D : va_G} {cs : Nat → ClassId} {tS : Nat} (hGl : ab_Gl l ZZ wFF D vwCl cs tS) : ab_SOK l ZZ 2 D vwCl cs tS 59 sm_59_43 := zf_fin1 (DS := 1) (dp := 0) (fuel := 200000) (q := []) (il := []) (anns := an_59_43) (pcs := [118]) (cand := fun _ _ => an_59_43) (sp := (fun _ => [])) hGl gok_59 (by decide) (fun _ h => absurd h List.not_mem_nil) (fun _ h => absurd h List.not_mem_nil) (fun _ _ _ h => h) (by decide +kernel) (by decide +kernel)
-- SandFlags$Rota.placeFrom
def sm_59_44 : ab_Sm := ([tR 43, tN 0 5, tN 4 4, tN 0 0, tN 76 76, tF], th_63, [([], some (tN 0 1), [])], [])
def an_59_44 : List ab_An := []
theorem sok_59_44 {l : Launch} {D : va_G} {cs : Nat → ClassId} {tS : Nat} (hGl : ab_Gl l ZZ wFF D vwCl cs tS) : ab_SOK l ZZ 2 D vwCl cs tS 59 sm_59_44 := zf_fin1 (DS := 1) (dp := 0) (fuel := 200000) (q := []) (il := []) (anns := an_59_44) (pcs := [118]) (cand := fun _ _ => an_59_44) (sp := (fun _ => [])) hGl gok_59 (by decide) (fun _ h => absurd h List.not_mem_nil) (fun _ h => absurd h List.not_mem_nil) (fun _ _ _ h => h) (by decide +kernel) (by decide +kernel)
-- SandFlags$Rota.placeFrom
def sm_59_45 : ab_Sm := ([tR 43, tN 0 5, tN 4 4, tN 0 0, tN 6 6, tF], th_63, [([], some (tN 0 1), [])], [])
def an_59_45 : List ab_An := []
theorem sok_59_45 {l : Launch} {D : va_G} {cs : Nat → ClassId} {tS : Nat} (hGl : ab_Gl l ZZ wFF D vwCl cs tS) : ab_SOK l ZZ 2 D vwCl cs tS 59 sm_59_45 := zf_fin1 (DS := 1) (dp := 0) (fuel := 200000) (q := []) (il := []) (anns := an_59_45) (pcs := [118]) (cand := fun _ _ => an_59_45) (sp := (fun _ => [])) hGl gok_59 (by decide) (fun _ h => absurd h List.not_mem_nil) (fun _ h => absurd h List.not_mem_nil) (fun _ _ _ h => h) (by decide +kernel) (by decide +kernel)
-- SandFlags$Rota.placeFrom
def sm_59_46 : ab_Sm := ([tR 43, tN 0 5, tN 4 4, tN 0 0, tN 131 131, tF], th_63, [([], some (tN 0 1), [])], [])
def an_59_46 : List ab_An := []
theorem sok_59_46 {l : Launch} {D : va_G} {cs : Nat → ClassId} {tS : Nat} (hGl : ab_Gl l ZZ wFF D vwCl cs tS) : ab_SOK l ZZ 2 D vwCl cs tS 59 sm_59_46 := zf_fin1 (DS := 1) (dp := 0) (fuel := 200000) (q := []) (il := []) (anns := an_59_46) (pcs := [118]) (cand := fun _ _ => an_59_46) (sp := (fun _ => [])) hGl gok_59 (by decide) (fun _ h => absurd h List.not_mem_nil) (fun _ h => absurd h List.not_mem_nil) (fun _ _ _ h => h) (by decide +kernel) (by decide +kernel)
-- SandFlags$Rota.placeFrom
def sm_59_47 : ab_Sm := ([tR 43, tN 0 5, tN 4 4, tN 0 0, tN 256 256, tF], th_63, [([], some (tN 0 1), [])], [])
def an_59_47 : List ab_An := []
theorem sok_59_47 {l : Launch} {D : va_G} {cs : Nat → ClassId} {tS : Nat} (hGl : ab_Gl l ZZ wFF D vwCl cs tS) : ab_SOK l ZZ 2 D vwCl cs tS 59 sm_59_47 := zf_fin1 (DS := 1) (dp := 0) (fuel := 200000) (q := []) (il := []) (anns := an_59_47) (pcs := [118]) (cand := fun _ _ => an_59_47) (sp := (fun _ => [])) hGl gok_59 (by decide) (fun _ h => absurd h List.not_mem_nil) (fun _ h => absurd h List.not_mem_nil) (fun _ _ _ h => h) (by decide +kernel) (by decide +kernel)
-- SandFlags$Rota.placeFrom
def sm_59_48 : ab_Sm := ([tR 43, tN 0 5, tN 4 4, tN 0 0, tN 31 31, tF], th_63, [([], some (tN 0 1), [])], [])
def an_59_48 : List ab_An := []
theorem sok_59_48 {l : Launch} {D : va_G} {cs : Nat → ClassId} {tS : Nat} (hGl : ab_Gl l ZZ wFF D vwCl cs tS) : ab_SOK l ZZ 2 D vwCl cs tS 59 sm_59_48 := zf_fin1 (DS := 1) (dp := 0) (fuel := 200000) (q := []) (il := []) (anns := an_59_48) (pcs := [118]) (cand := fun _ _ => an_59_48) (sp := (fun _ => [])) hGl gok_59 (by decide) (fun _ h => absurd h List.not_mem_nil) (fun _ h => absurd h List.not_mem_nil) (fun _ _ _ h => h) (by decide +kernel) (by decide +kernel)
-- SandFlags$Rota.placeFrom
def sm_59_49 : ab_Sm := ([tR 43, tN 0 5, tN 4 4, tN 0 0, tN 156 156, tF], th_63, [([], some (tN 0 1), [])], [])
def an_59_49 : List ab_An := []
theorem sok_59_49 {l : Launch} {D : va_G} {cs : Nat → ClassId} {tS : Nat} (hGl : ab_Gl l ZZ wFF D vwCl cs tS) : ab_SOK l ZZ 2 D vwCl cs tS 59 sm_59_49 := zf_fin1 (DS := 1) (dp := 0) (fuel := 200000) (q := []) (il := []) (anns := an_59_49) (pcs := [118]) (cand := fun _ _ => an_59_49) (sp := (fun _ => [])) hGl gok_59 (by decide) (fun _ h => absurd h List.not_mem_nil) (fun _ h => absurd h List.not_mem_nil) (fun _ _ _ h => h) (by decide +kernel) (by decide +kernel)
-- SandFlags$Rota.placeFrom
def sm_59_50 : ab_Sm := ([tR 43, tN 0 5, tN 4 4, tN 0 0, tN 56 56, tF], th_63, [([], some (tN 0 1), [])], [])
def an_59_50 : List ab_An := []
theorem sok_59_50 {l : Launch} {D : va_G} {cs : Nat → ClassId} {tS : Nat} (hGl : ab_Gl l ZZ wFF D vwCl cs tS) : ab_SOK l ZZ 2 D vwCl cs tS 59 sm_59_50 := zf_fin1 (DS := 1) (dp := 0) (fuel := 200000) (q := []) (il := []) (anns := an_59_50) (pcs := [118]) (cand := fun _ _ => an_59_50) (sp := (fun _ => [])) hGl gok_59 (by decide) (fun _ h => absurd h List.not_mem_nil) (fun _ h => absurd h List.not_mem_nil) (fun _ _ _ h => h) (by decide +kernel) (by decide +kernel)
-- SandFlags$Rota.placeFrom
def sm_59_51 : ab_Sm := ([tR 43, tN 0 5, tN 4 4, tN 0 0, tN 11 11, tF], th_63, [([], some (tN 0 1), [])], [])
def an_59_51 : List ab_An := []
theorem sok_59_51 {l : Launch} {D : va_G} {cs : Nat → ClassId} {tS : Nat} (hGl : ab_Gl l ZZ wFF D vwCl cs tS) : ab_SOK l ZZ 2 D vwCl cs tS 59 sm_59_51 := zf_fin1 (DS := 1) (dp := 0) (fuel := 200000) (q := []) (il := []) (anns := an_59_51) (pcs := [118]) (cand := fun _ _ => an_59_51) (sp := (fun _ => [])) hGl gok_59 (by decide) (fun _ h => absurd h List.not_mem_nil) (fun _ h => absurd h List.not_mem_nil) (fun _ _ _ h => h) (by decide +kernel) (by decide +kernel)
-- SandFlags$Rota.placeFrom
def sm_59_52 : ab_Sm := ([tR 43, tN 0 5, tN 4 4, tN 0 0, tN 136 136, tF], th_63, [([], some (tN 0 1), [])], [])
def an_59_52 : List ab_An := []
theorem sok_59_52 {l : Launch} {D : va_G} {cs : Nat → ClassId} {tS : Nat} (hGl : ab_Gl l ZZ wFF D vwCl cs tS) : ab_SOK l ZZ 2 D vwCl cs tS 59 sm_59_52 := zf_fin1 (DS := 1) (dp := 0) (fuel := 200000) (q := []) (il := []) (anns := an_59_52) (pcs := [118]) (cand := fun _ _ => an_59_52) (sp := (fun _ => [])) hGl gok_59 (by decide) (fun _ h => absurd h List.not_mem_nil) (fun _ h => absurd h List.not_mem_nil) (fun _ _ _ h => h) (by decide +kernel) (by decide +kernel)
-- SandFlags$Rota.placeFrom
def sm_59_53 : ab_Sm := ([tR 43, tN 0 5, tN 4 4, tN 0 0, tN 36 36, tF], th_63, [([], some (tN 0 1), [])], [])
def an_59_53 : List ab_An := []
theorem sok_59_53 {l : Launch} {D : va_G} {cs : Nat → ClassId} {tS : Nat} (hGl : ab_Gl l ZZ wFF D vwCl cs tS) : ab_SOK l ZZ 2 D vwCl cs tS 59 sm_59_53 := zf_fin1 (DS := 1) (dp := 0) (fuel := 200000) (q := []) (il := []) (anns := an_59_53) (pcs := [118]) (cand := fun _ _ => an_59_53) (sp := (fun _ => [])) hGl gok_59 (by decide) (fun _ h => absurd h List.not_mem_nil) (fun _ h => absurd h List.not_mem_nil) (fun _ _ _ h => h) (by decide +kernel) (by decide +kernel)
-- SandFlags$Rota.placeFrom
def sm_59_54 : ab_Sm := ([tR 43, tN 0 5, tN 4 4, tN 0 0, tN 16 16, tF], th_63, [([], some (tN 0 1), [])], [])
def an_59_54 : List ab_An := []
theorem sok_59_54 {l : Launch} {D : va_G} {cs : Nat → ClassId} {tS : Nat} (hGl : ab_Gl l ZZ wFF D vwCl cs tS) : ab_SOK l ZZ 2 D vwCl cs tS 59 sm_59_54 := zf_fin1 (DS := 1) (dp := 0) (fuel := 200000) (q := []) (il := []) (anns := an_59_54) (pcs := [118]) (cand := fun _ _ => an_59_54) (sp := (fun _ => [])) hGl gok_59 (by decide) (fun _ h => absurd h List.not_mem_nil) (fun _ h => absurd h List.not_mem_nil) (fun _ _ _ h => h) (by decide +kernel) (by decide +kernel)
-- SandFlags$Rota.placeFrom
def sm_59_55 : ab_Sm := ([tR 43, tN 0 5, tN 4 4, tN 0 0, tN 2 2, tF], th_63, [([], some (tN 0 1), [])], [])
def an_59_55 : List ab_An := []
theorem sok_59_55 {l : Launch} {D : va_G} {cs : Nat → ClassId} {tS : Nat} (hGl : ab_Gl l ZZ wFF D vwCl cs tS) : ab_SOK l ZZ 2 D vwCl cs tS 59 sm_59_55 := zf_fin1 (DS := 1) (dp := 0) (fuel := 200000) (q := []) (il := []) (anns := an_59_55) (pcs := [118]) (cand := fun _ _ => an_59_55) (sp := (fun _ => [])) hGl gok_59 (by decide) (fun _ h => absurd h List.not_mem_nil) (fun _ h => absurd h List.not_mem_nil) (fun _ _ _ h => h) (by decide +kernel) (by decide +kernel)
-- SandFlags$Rota.placeFrom
def sm_59_56 : ab_Sm := ([tR 43, tN 0 5, tN 4 4, tN 0 0, tN 127 127, tF], th_63, [([], some (tN 0 1), [])], [])
def an_59_56 : List ab_An := []
theorem sok_59_56 {l : Launch} {D : va_G} {cs : Nat → ClassId} {tS : Nat} (hGl : ab_Gl l ZZ wFF D vwCl cs tS) : ab_SOK l ZZ 2 D vwCl cs tS 59 sm_59_56 := zf_fin1 (DS := 1) (dp := 0) (fuel := 200000) (q := []) (il := []) (anns := an_59_56) (pcs := [118]) (cand := fun _ _ => an_59_56) (sp := (fun _ => [])) hGl gok_59 (by decide) (fun _ h => absurd h List.not_mem_nil) (fun _ h => absurd h List.not_mem_nil) (fun _ _ _ h => h) (by decide +kernel) (by decide +kernel)
-- SandFlags$Rota.placeFrom
def sm_59_57 : ab_Sm := ([tR 43, tN 0 5, tN 4 4, tN 0 0, tN 252 252, tF], th_63, [([], some (tN 0 1), [])], [])
def an_59_57 : List ab_An := []
theorem sok_59_57 {l : Launch} {D : va_G} {cs : Nat → ClassId} {tS : Nat} (hGl : ab_Gl l ZZ wFF D vwCl cs tS) : ab_SOK l ZZ 2 D vwCl cs tS 59 sm_59_57 := zf_fin1 (DS := 1) (dp := 0) (fuel := 200000) (q := []) (il := []) (anns := an_59_57) (pcs := [118]) (cand := fun _ _ => an_59_57) (sp := (fun _ => [])) hGl gok_59 (by decide) (fun _ h => absurd h List.not_mem_nil) (fun _ h => absurd h List.not_mem_nil) (fun _ _ _ h => h) (by decide +kernel) (by decide +kernel)
-- SandFlags$Rota.placeFrom
def sm_59_58 : ab_Sm := ([tR 43, tN 0 5, tN 4 4, tN 0 0, tN 27 27, tF], th_63, [([], some (tN 0 1), [])], [])
def an_59_58 : List ab_An := []
theorem sok_59_58 {l : Launch} {D : va_G} {cs : Nat → ClassId} {tS : Nat} (hGl : ab_Gl l ZZ wFF D vwCl cs tS) : ab_SOK l ZZ 2 D vwCl cs tS 59 sm_59_58 := zf_fin1 (DS := 1) (dp := 0) (fuel := 200000) (q := []) (il := []) (anns := an_59_58) (pcs := [118]) (cand := fun _ _ => an_59_58) (sp := (fun _ => [])) hGl gok_59 (by decide) (fun _ h => absurd h List.not_mem_nil) (fun _ h => absurd h List.not_mem_nil) (fun _ _ _ h => h) (by decide +kernel) (by decide +kernel)
-- SandFlags$Rota.placeFrom
def sm_59_59 : ab_Sm := ([tR 43, tN 0 5, tN 4 4, tN 0 0, tN 152 152, tF], th_63, [([], some (tN 0 1), [])], [])
def an_59_59 : List ab_An := []
theorem sok_59_59 {l : Launch} {D : va_G} {cs : Nat → ClassId} {tS : Nat} (hGl : ab_Gl l ZZ wFF D vwCl cs tS) : ab_SOK l ZZ 2 D vwCl cs tS 59 sm_59_59 := zf_fin1 (DS := 1) (dp := 0) (fuel := 200000) (q := []) (il := []) (anns := an_59_59) (pcs := [118]) (cand := fun _ _ => an_59_59) (sp := (fun _ => [])) hGl gok_59 (by decide) (fun _ h => absurd h List.not_mem_nil) (fun _ h => absurd h List.not_mem_nil) (fun _ _ _ h => h) (by decide +kernel) (by decide +kernel)
-- SandFlags$Rota.placeFrom
def sm_59_60 : ab_Sm := ([tR 43, tN 0 5, tN 4 4, tN 0 0, tN 52 52, tF], th_63, [([], some (tN 0 1), [])], [])
def an_59_60 : List ab_An := []
theorem sok_59_60 {l : Launch} {D : va_G} {cs : Nat → ClassId} {tS : Nat} (hGl : ab_Gl l ZZ wFF D vwCl cs tS) : ab_SOK l ZZ 2 D vwCl cs tS 59 sm_59_60 := zf_fin1 (DS := 1) (dp := 0) (fuel := 200000) (q := []) (il := []) (anns := an_59_60) (pcs := [118]) (cand := fun _ _ => an_59_60) (sp := (fun _ => [])) hGl gok_59 (by decide) (fun _ h => absurd h List.not_mem_nil) (fun _ h => absurd h List.not_mem_nil) (fun _ _ _ h => h) (by decide +kernel) (by decide +kernel)
-- SandFlags$Rota.placeFrom
def sm_59_61 : ab_Sm := ([tR 43, tN 0 5, tN 4 4, tN 0 0, tN 7 7, tF], th_63, [([], some (tN 0 1), [])], [])
def an_59_61 : List ab_An := []
theorem sok_59_61 {l : Launch} {D : va_G} {cs : Nat → ClassId} {tS : Nat} (hGl : ab_Gl l ZZ wFF D vwCl cs tS) : ab_SOK l ZZ 2 D vwCl cs tS 59 sm_59_61 := zf_fin1 (DS := 1) (dp := 0) (fuel := 200000) (q := []) (il := []) (anns := an_59_61) (pcs := [118]) (cand := fun _ _ => an_59_61) (sp := (fun _ => [])) hGl gok_59 (by decide) (fun _ h => absurd h List.not_mem_nil) (fun _ h => absurd h List.not_mem_nil) (fun _ _ _ h => h) (by decide +kernel) (by decide +kernel)
-- SandFlags$Rota.placeFrom
def sm_59_62 : ab_Sm := ([tR 43, tN 0 5, tN 4 4, tN 0 0, tN 132 132, tF], th_63, [([], some (tN 0 1), [])], [])
def an_59_62 : List ab_An := []
theorem sok_59_62 {l : Launch} {D : va_G} {cs : Nat → ClassId} {tS : Nat} (hGl : ab_Gl l ZZ wFF D vwCl cs tS) : ab_SOK l ZZ 2 D vwCl cs tS 59 sm_59_62 := zf_fin1 (DS := 1) (dp := 0) (fuel := 200000) (q := []) (il := []) (anns := an_59_62) (pcs := [118]) (cand := fun _ _ => an_59_62) (sp := (fun _ => [])) hGl gok_59 (by decide) (fun _ h => absurd h List.not_mem_nil) (fun _ h => absurd h List.not_mem_nil) (fun _ _ _ h => h) (by decide +kernel) (by decide +kernel)
-- SandFlags$Rota.placeFrom
def sm_59_63 : ab_Sm := ([tR 43, tN 0 5, tN 4 4, tN 0 0, tN 32 32, tF], th_63, [([], some (tN 0 1), [])], [])
def an_59_63 : List ab_An := []
theorem sok_59_63 {l : Launch} {D : va_G} {cs : Nat → ClassId} {tS : Nat} (hGl : ab_Gl l ZZ wFF D vwCl cs tS) : ab_SOK l ZZ 2 D vwCl cs tS 59 sm_59_63 := zf_fin1 (DS := 1) (dp := 0) (fuel := 200000) (q := []) (il := []) (anns := an_59_63) (pcs := [118]) (cand := fun _ _ => an_59_63) (sp := (fun _ => [])) hGl gok_59 (by decide) (fun _ h => absurd h List.not_mem_nil) (fun _ h => absurd h List.not_mem_nil) (fun _ _ _ h => h) (by decide +kernel) (by decide +kernel)
-- SandFlags$Rota.placeFrom
def sm_59_64 : ab_Sm := ([tR 43, tN 0 5, tN 4 4, tN 0 0, tN 12 12, tF], th_63, [([], some (tN 0 1), [])], [])
def an_59_64 : List ab_An := []
theorem sok_59_64 {l : Launch} {D : va_G} {cs : Nat → ClassId} {tS : Nat} (hGl : ab_Gl l ZZ wFF D vwCl cs tS) : ab_SOK l ZZ 2 D vwCl cs tS 59 sm_59_64 := zf_fin1 (DS := 1) (dp := 0) (fuel := 200000) (q := []) (il := []) (anns := an_59_64) (pcs := [118]) (cand := fun _ _ => an_59_64) (sp := (fun _ => [])) hGl gok_59 (by decide) (fun _ h => absurd h List.not_mem_nil) (fun _ h => absurd h List.not_mem_nil) (fun _ _ _ h => h) (by decide +kernel) (by decide +kernel)
-- SandFlags$Rota.placeFrom
def sm_59_65 : ab_Sm := ([tR 43, tN 0 5, tN 4 4, tN 0 0, tN 3 3, tF], th_63, [([], some (tN 0 1), [])], [])
def an_59_65 : List ab_An := []
theorem sok_59_65 {l : Launch} {D : va_G} {cs : Nat → ClassId} {tS : Nat} (hGl : ab_Gl l ZZ wFF D vwCl cs tS) : ab_SOK l ZZ 2 D vwCl cs tS 59 sm_59_65 := zf_fin1 (DS := 1) (dp := 0) (fuel := 200000) (q := []) (il := []) (anns := an_59_65) (pcs := [118]) (cand := fun _ _ => an_59_65) (sp := (fun _ => [])) hGl gok_59 (by decide) (fun _ h => absurd h List.not_mem_nil) (fun _ h => absurd h List.not_mem_nil) (fun _ _ _ h => h) (by decide +kernel) (by decide +kernel)
-- SandFlags$Rota.placeFrom
def sm_59_66 : ab_Sm := ([tR 43, tN 0 5, tN 4 4, tN 0 0, tN 128 128, tF], th_63, [([], some (tN 0 1), [])], [])
def an_59_66 : List ab_An := []
theorem sok_59_66 {l : Launch} {D : va_G} {cs : Nat → ClassId} {tS : Nat} (hGl : ab_Gl l ZZ wFF D vwCl cs tS) : ab_SOK l ZZ 2 D vwCl cs tS 59 sm_59_66 := zf_fin1 (DS := 1) (dp := 0) (fuel := 200000) (q := []) (il := []) (anns := an_59_66) (pcs := [118]) (cand := fun _ _ => an_59_66) (sp := (fun _ => [])) hGl gok_59 (by decide) (fun _ h => absurd h List.not_mem_nil) (fun _ h => absurd h List.not_mem_nil) (fun _ _ _ h => h) (by decide +kernel) (by decide +kernel)
-- SandFlags$Rota.placeFrom
def sm_59_67 : ab_Sm := ([tR 43, tN 0 5, tN 4 4, tN 0 0, tN 28 28, tF], th_63, [([], some (tN 0 1), [])], [])
def an_59_67 : List ab_An := []
theorem sok_59_67 {l : Launch} {D : va_G} {cs : Nat → ClassId} {tS : Nat} (hGl : ab_Gl l ZZ wFF D vwCl cs tS) : ab_SOK l ZZ 2 D vwCl cs tS 59 sm_59_67 := zf_fin1 (DS := 1) (dp := 0) (fuel := 200000) (q := []) (il := []) (anns := an_59_67) (pcs := [118]) (cand := fun _ _ => an_59_67) (sp := (fun _ => [])) hGl gok_59 (by decide) (fun _ h => absurd h List.not_mem_nil) (fun _ h => absurd h List.not_mem_nil) (fun _ _ _ h => h) (by decide +kernel) (by decide +kernel)
-- SandFlags$Rota.placeFrom
def sm_59_68 : ab_Sm := ([tR 43, tN 0 5, tN 4 4, tN 0 0, tN 8 8, tF], th_63, [([], some (tN 0 1), [])], [])
def an_59_68 : List ab_An := []
theorem sok_59_68 {l : Launch} {D : va_G} {cs : Nat → ClassId} {tS : Nat} (hGl : ab_Gl l ZZ wFF D vwCl cs tS) : ab_SOK l ZZ 2 D vwCl cs tS 59 sm_59_68 := zf_fin1 (DS := 1) (dp := 0) (fuel := 200000) (q := []) (il := []) (anns := an_59_68) (pcs := [118]) (cand := fun _ _ => an_59_68) (sp := (fun _ => [])) hGl gok_59 (by decide) (fun _ h => absurd h List.not_mem_nil) (fun _ h => absurd h List.not_mem_nil) (fun _ _ _ h => h) (by decide +kernel) (by decide +kernel)
-- SandFlags$Rota.placeFrom
def sm_59_69 : ab_Sm := ([tR 43, tN 0 5, tN 4 4, tN 0 0, tN 4 4, tF], th_63, [([], some (tN 0 1), [])], [])
def an_59_69 : List ab_An := []
theorem sok_59_69 {l : Launch} {D : va_G} {cs : Nat → ClassId} {tS : Nat} (hGl : ab_Gl l ZZ wFF D vwCl cs tS) : ab_SOK l ZZ 2 D vwCl cs tS 59 sm_59_69 := zf_fin1 (DS := 1) (dp := 0) (fuel := 200000) (q := []) (il := []) (anns := an_59_69) (pcs := [118]) (cand := fun _ _ => an_59_69) (sp := (fun _ => [])) hGl gok_59 (by decide) (fun _ h => absurd h List.not_mem_nil) (fun _ h => absurd h List.not_mem_nil) (fun _ _ _ h => h) (by decide +kernel) (by decide +kernel)
-- SandFlags$Rota.placeFrom
def sm_59_70 : ab_Sm := ([tR 43, tN 0 5, tN 4 4, tN 125 125, tN 0 0, tF], th_63, [([], some (tN 0 1), [])], [])
def an_59_70 : List ab_An := []
theorem sok_59_70 {l : Launch} {D : va_G} {cs : Nat → ClassId} {tS : Nat} (hGl : ab_Gl l ZZ wFF D vwCl cs tS) : ab_SOK l ZZ 2 D vwCl cs tS 59 sm_59_70 := zf_fin1 (DS := 1) (dp := 0) (fuel := 200000) (q := []) (il := []) (anns := an_59_70) (pcs := [118]) (cand := fun _ _ => an_59_70) (sp := (fun _ => [])) hGl gok_59 (by decide) (fun _ h => absurd h List.not_mem_nil) (fun _ h => absurd h List.not_mem_nil) (fun _ _ _ h => h) (by decide +kernel) (by decide +kernel)
-- SandFlags$Rota.placeFrom
def sm_59_71 : ab_Sm := ([tR 43, tN 0 5, tN 4 4, tN 125 125, tN 125 125, tF], th_63, [([], some (tN 0 1), [])], [])
def an_59_71 : List ab_An := []
theorem sok_59_71 {l : Launch} {D : va_G} {cs : Nat → ClassId} {tS : Nat} (hGl : ab_Gl l ZZ wFF D vwCl cs tS) : ab_SOK l ZZ 2 D vwCl cs tS 59 sm_59_71 := zf_fin1 (DS := 1) (dp := 0) (fuel := 200000) (q := []) (il := []) (anns := an_59_71) (pcs := [118]) (cand := fun _ _ => an_59_71) (sp := (fun _ => [])) hGl gok_59 (by decide) (fun _ h => absurd h List.not_mem_nil) (fun _ h => absurd h List.not_mem_nil) (fun _ _ _ h => h) (by decide +kernel) (by decide +kernel)
-- SandFlags$Rota.placeFrom
def sm_59_72 : ab_Sm := ([tR 43, tN 0 5, tN 4 4, tN 125 125, tN 250 250, tF], th_63, [([], some (tN 0 1), [])], [])
def an_59_72 : List ab_An := []
theorem sok_59_72 {l : Launch} {D : va_G} {cs : Nat → ClassId} {tS : Nat} (hGl : ab_Gl l ZZ wFF D vwCl cs tS) : ab_SOK l ZZ 2 D vwCl cs tS 59 sm_59_72 := zf_fin1 (DS := 1) (dp := 0) (fuel := 200000) (q := []) (il := []) (anns := an_59_72) (pcs := [118]) (cand := fun _ _ => an_59_72) (sp := (fun _ => [])) hGl gok_59 (by decide) (fun _ h => absurd h List.not_mem_nil) (fun _ h => absurd h List.not_mem_nil) (fun _ _ _ h => h) (by decide +kernel) (by decide +kernel)
-- SandFlags$Rota.placeFrom
def sm_59_73 : ab_Sm := ([tR 43, tN 0 5, tN 4 4, tN 125 125, tN 375 375, tF], th_63, [([], some (tN 0 1), [])], [])
def an_59_73 : List ab_An := []
theorem sok_59_73 {l : Launch} {D : va_G} {cs : Nat → ClassId} {tS : Nat} (hGl : ab_Gl l ZZ wFF D vwCl cs tS) : ab_SOK l ZZ 2 D vwCl cs tS 59 sm_59_73 := zf_fin1 (DS := 1) (dp := 0) (fuel := 200000) (q := []) (il := []) (anns := an_59_73) (pcs := [118]) (cand := fun _ _ => an_59_73) (sp := (fun _ => [])) hGl gok_59 (by decide) (fun _ h => absurd h List.not_mem_nil) (fun _ h => absurd h List.not_mem_nil) (fun _ _ _ h => h) (by decide +kernel) (by decide +kernel)
-- SandFlags$Rota.placeFrom
def sm_59_74 : ab_Sm := ([tR 43, tN 0 5, tN 4 4, tN 125 125, tN 25 25, tF], th_63, [([], some (tN 0 1), [])], [])
def an_59_74 : List ab_An := []
theorem sok_59_74 {l : Launch} {D : va_G} {cs : Nat → ClassId} {tS : Nat} (hGl : ab_Gl l ZZ wFF D vwCl cs tS) : ab_SOK l ZZ 2 D vwCl cs tS 59 sm_59_74 := zf_fin1 (DS := 1) (dp := 0) (fuel := 200000) (q := []) (il := []) (anns := an_59_74) (pcs := [118]) (cand := fun _ _ => an_59_74) (sp := (fun _ => [])) hGl gok_59 (by decide) (fun _ h => absurd h List.not_mem_nil) (fun _ h => absurd h List.not_mem_nil) (fun _ _ _ h => h) (by decide +kernel) (by decide +kernel)
-- SandFlags$Rota.placeFrom
def sm_59_75 : ab_Sm := ([tR 43, tN 0 5, tN 4 4, tN 125 125, tN 150 150, tF], th_63, [([], some (tN 0 1), [])], [])
def an_59_75 : List ab_An := []
theorem sok_59_75 {l : Launch} {D : va_G} {cs : Nat → ClassId} {tS : Nat} (hGl : ab_Gl l ZZ wFF D vwCl cs tS) : ab_SOK l ZZ 2 D vwCl cs tS 59 sm_59_75 := zf_fin1 (DS := 1) (dp := 0) (fuel := 200000) (q := []) (il := []) (anns := an_59_75) (pcs := [118]) (cand := fun _ _ => an_59_75) (sp := (fun _ => [])) hGl gok_59 (by decide) (fun _ h => absurd h List.not_mem_nil) (fun _ h => absurd h List.not_mem_nil) (fun _ _ _ h => h) (by decide +kernel) (by decide +kernel)
-- SandFlags$Rota.placeFrom
def sm_59_76 : ab_Sm := ([tR 43, tN 0 5, tN 4 4, tN 125 125, tN 275 275, tF], th_63, [([], some (tN 0 1), [])], [])
def an_59_76 : List ab_An := []
theorem sok_59_76 {l : Launch} {D : va_G} {cs : Nat → ClassId} {tS : Nat} (hGl : ab_Gl l ZZ wFF D vwCl cs tS) : ab_SOK l ZZ 2 D vwCl cs tS 59 sm_59_76 := zf_fin1 (DS := 1) (dp := 0) (fuel := 200000) (q := []) (il := []) (anns := an_59_76) (pcs := [118]) (cand := fun _ _ => an_59_76) (sp := (fun _ => [])) hGl gok_59 (by decide) (fun _ h => absurd h List.not_mem_nil) (fun _ h => absurd h List.not_mem_nil) (fun _ _ _ h => h) (by decide +kernel) (by decide +kernel)
-- SandFlags$Rota.placeFrom
def sm_59_77 : ab_Sm := ([tR 43, tN 0 5, tN 4 4, tN 125 125, tN 50 50, tF], th_63, [([], some (tN 0 1), [])], [])
def an_59_77 : List ab_An := []
theorem sok_59_77 {l : Launch} {D : va_G} {cs : Nat → ClassId} {tS : Nat} (hGl : ab_Gl l ZZ wFF D vwCl cs tS) : ab_SOK l ZZ 2 D vwCl cs tS 59 sm_59_77 := zf_fin1 (DS := 1) (dp := 0) (fuel := 200000) (q := []) (il := []) (anns := an_59_77) (pcs := [118]) (cand := fun _ _ => an_59_77) (sp := (fun _ => [])) hGl gok_59 (by decide) (fun _ h => absurd h List.not_mem_nil) (fun _ h => absurd h List.not_mem_nil) (fun _ _ _ h => h) (by decide +kernel) (by decide +kernel)
-- SandFlags$Rota.placeFrom
def sm_59_78 : ab_Sm := ([tR 43, tN 0 5, tN 4 4, tN 125 125, tN 175 175, tF], th_63, [([], some (tN 0 1), [])], [])
def an_59_78 : List ab_An := []
theorem sok_59_78 {l : Launch} {D : va_G} {cs : Nat → ClassId} {tS : Nat} (hGl : ab_Gl l ZZ wFF D vwCl cs tS) : ab_SOK l ZZ 2 D vwCl cs tS 59 sm_59_78 := zf_fin1 (DS := 1) (dp := 0) (fuel := 200000) (q := []) (il := []) (anns := an_59_78) (pcs := [118]) (cand := fun _ _ => an_59_78) (sp := (fun _ => [])) hGl gok_59 (by decide) (fun _ h => absurd h List.not_mem_nil) (fun _ h => absurd h List.not_mem_nil) (fun _ _ _ h => h) (by decide +kernel) (by decide +kernel)
-- SandFlags$Rota.placeFrom
def sm_59_79 : ab_Sm := ([tR 43, tN 0 5, tN 4 4, tN 125 125, tN 75 75, tF], th_63, [([], some (tN 0 1), [])], [])
def an_59_79 : List ab_An := []
theorem sok_59_79 {l : Launch} {D : va_G} {cs : Nat → ClassId} {tS : Nat} (hGl : ab_Gl l ZZ wFF D vwCl cs tS) : ab_SOK l ZZ 2 D vwCl cs tS 59 sm_59_79 := zf_fin1 (DS := 1) (dp := 0) (fuel := 200000) (q := []) (il := []) (anns := an_59_79) (pcs := [118]) (cand := fun _ _ => an_59_79) (sp := (fun _ => [])) hGl gok_59 (by decide) (fun _ h => absurd h List.not_mem_nil) (fun _ h => absurd h List.not_mem_nil) (fun _ _ _ h => h) (by decide +kernel) (by decide +kernel)
-- SandFlags$Rota.placeFrom
def sm_59_80 : ab_Sm := ([tR 43, tN 0 5, tN 4 4, tN 125 125, tN 5 5, tF], th_63, [([], some (tN 0 1), [])], [])
def an_59_80 : List ab_An := []
theorem sok_59_80 {l : Launch} {D : va_G} {cs : Nat → ClassId} {tS : Nat} (hGl : ab_Gl l ZZ wFF D vwCl cs tS) : ab_SOK l ZZ 2 D vwCl cs tS 59 sm_59_80 := zf_fin1 (DS := 1) (dp := 0) (fuel := 200000) (q := []) (il := []) (anns := an_59_80) (pcs := [118]) (cand := fun _ _ => an_59_80) (sp := (fun _ => [])) hGl gok_59 (by decide) (fun _ h => absurd h List.not_mem_nil) (fun _ h => absurd h List.not_mem_nil) (fun _ _ _ h => h) (by decide +kernel) (by decide +kernel)
-- SandFlags$Rota.placeFrom
def sm_59_81 : ab_Sm := ([tR 43, tN 0 5, tN 4 4, tN 125 125, tN 130 130, tF], th_63, [([], some (tN 0 1), [])], [])
def an_59_81 : List ab_An := []
theorem sok_59_81 {l : Launch} {D : va_G} {cs : Nat → ClassId} {tS : Nat} (hGl : ab_Gl l ZZ wFF D vwCl cs tS) : ab_SOK l ZZ 2 D vwCl cs tS 59 sm_59_81 := zf_fin1 (DS := 1) (dp := 0) (fuel := 200000) (q := []) (il := []) (anns := an_59_81) (pcs := [118]) (cand := fun _ _ => an_59_81) (sp := (fun _ => [])) hGl gok_59 (by decide) (fun _ h => absurd h List.not_mem_nil) (fun _ h => absurd h List.not_mem_nil) (fun _ _ _ h => h) (by decide +kernel) (by decide +kernel)
-- SandFlags$Rota.placeFrom
def sm_59_82 : ab_Sm := ([tR 43, tN 0 5, tN 4 4, tN 125 125, tN 255 255, tF], th_63, [([], some (tN 0 1), [])], [])
def an_59_82 : List ab_An := []
theorem sok_59_82 {l : Launch} {D : va_G} {cs : Nat → ClassId} {tS : Nat} (hGl : ab_Gl l ZZ wFF D vwCl cs tS) : ab_SOK l ZZ 2 D vwCl cs tS 59 sm_59_82 := zf_fin1 (DS := 1) (dp := 0) (fuel := 200000) (q := []) (il := []) (anns := an_59_82) (pcs := [118]) (cand := fun _ _ => an_59_82) (sp := (fun _ => [])) hGl gok_59 (by decide) (fun _ h => absurd h List.not_mem_nil) (fun _ h => absurd h List.not_mem_nil) (fun _ _ _ h => h) (by decide +kernel) (by decide +kernel)
-- SandFlags$Rota.placeFrom
def sm_59_83 : ab_Sm := ([tR 43, tN 0 5, tN 4 4, tN 125 125, tN 30 30, tF], th_63, [([], some (tN 0 1), [])], [])
def an_59_83 : List ab_An := []
theorem sok_59_83 {l : Launch} {D : va_G} {cs : Nat → ClassId} {tS : Nat} (hGl : ab_Gl l ZZ wFF D vwCl cs tS) : ab_SOK l ZZ 2 D vwCl cs tS 59 sm_59_83 := zf_fin1 (DS := 1) (dp := 0) (fuel := 200000) (q := []) (il := []) (anns := an_59_83) (pcs := [118]) (cand := fun _ _ => an_59_83) (sp := (fun _ => [])) hGl gok_59 (by decide) (fun _ h => absurd h List.not_mem_nil) (fun _ h => absurd h List.not_mem_nil) (fun _ _ _ h => h) (by decide +kernel) (by decide +kernel)
-- SandFlags$Rota.placeFrom
def sm_59_84 : ab_Sm := ([tR 43, tN 0 5, tN 4 4, tN 125 125, tN 155 155, tF], th_63, [([], some (tN 0 1), [])], [])
def an_59_84 : List ab_An := []
theorem sok_59_84 {l : Launch} {D : va_G} {cs : Nat → ClassId} {tS : Nat} (hGl : ab_Gl l ZZ wFF D vwCl cs tS) : ab_SOK l ZZ 2 D vwCl cs tS 59 sm_59_84 := zf_fin1 (DS := 1) (dp := 0) (fuel := 200000) (q := []) (il := []) (anns := an_59_84) (pcs := [118]) (cand := fun _ _ => an_59_84) (sp := (fun _ => [])) hGl gok_59 (by decide) (fun _ h => absurd h List.not_mem_nil) (fun _ h => absurd h List.not_mem_nil) (fun _ _ _ h => h) (by decide +kernel) (by decide +kernel)
-- SandFlags$Rota.placeFrom
def sm_59_85 : ab_Sm := ([tR 43, tN 0 5, tN 4 4, tN 125 125, tN 55 55, tF], th_63, [([], some (tN 0 1), [])], [])
def an_59_85 : List ab_An := []
theorem sok_59_85 {l : Launch} {D : va_G} {cs : Nat → ClassId} {tS : Nat} (hGl : ab_Gl l ZZ wFF D vwCl cs tS) : ab_SOK l ZZ 2 D vwCl cs tS 59 sm_59_85 := zf_fin1 (DS := 1) (dp := 0) (fuel := 200000) (q := []) (il := []) (anns := an_59_85) (pcs := [118]) (cand := fun _ _ => an_59_85) (sp := (fun _ => [])) hGl gok_59 (by decide) (fun _ h => absurd h List.not_mem_nil) (fun _ h => absurd h List.not_mem_nil) (fun _ _ _ h => h) (by decide +kernel) (by decide +kernel)
-- SandFlags$Rota.placeFrom
def sm_59_86 : ab_Sm := ([tR 43, tN 0 5, tN 4 4, tN 125 125, tN 10 10, tF], th_63, [([], some (tN 0 1), [])], [])
def an_59_86 : List ab_An := []
theorem sok_59_86 {l : Launch} {D : va_G} {cs : Nat → ClassId} {tS : Nat} (hGl : ab_Gl l ZZ wFF D vwCl cs tS) : ab_SOK l ZZ 2 D vwCl cs tS 59 sm_59_86 := zf_fin1 (DS := 1) (dp := 0) (fuel := 200000) (q := []) (il := []) (anns := an_59_86) (pcs := [118]) (cand := fun _ _ => an_59_86) (sp := (fun _ => [])) hGl gok_59 (by decide) (fun _ h => absurd h List.not_mem_nil) (fun _ h => absurd h List.not_mem_nil) (fun _ _ _ h => h) (by decide +kernel) (by decide +kernel)
-- SandFlags$Rota.placeFrom
def sm_59_87 : ab_Sm := ([tR 43, tN 0 5, tN 4 4, tN 125 125, tN 135 135, tF], th_63, [([], some (tN 0 1), [])], [])
def an_59_87 : List ab_An := []
theorem sok_59_87 {l : Launch} {D : va_G} {cs : Nat → ClassId} {tS : Nat} (hGl : ab_Gl l ZZ wFF D vwCl cs tS) : ab_SOK l ZZ 2 D vwCl cs tS 59 sm_59_87 := zf_fin1 (DS := 1) (dp := 0) (fuel := 200000) (q := []) (il := []) (anns := an_59_87) (pcs := [118]) (cand := fun _ _ => an_59_87) (sp := (fun _ => [])) hGl gok_59 (by decide) (fun _ h => absurd h List.not_mem_nil) (fun _ h => absurd h List.not_mem_nil) (fun _ _ _ h => h) (by decide +kernel) (by decide +kernel)
-- SandFlags$Rota.placeFrom
def sm_59_88 : ab_Sm := ([tR 43, tN 0 5, tN 4 4, tN 125 125, tN 35 35, tF], th_63, [([], some (tN 0 1), [])], [])
def an_59_88 : List ab_An := []
theorem sok_59_88 {l : Launch} {D : va_G} {cs : Nat → ClassId} {tS : Nat} (hGl : ab_Gl l ZZ wFF D vwCl cs tS) : ab_SOK l ZZ 2 D vwCl cs tS 59 sm_59_88 := zf_fin1 (DS := 1) (dp := 0) (fuel := 200000) (q := []) (il := []) (anns := an_59_88) (pcs := [118]) (cand := fun _ _ => an_59_88) (sp := (fun _ => [])) hGl gok_59 (by decide) (fun _ h => absurd h List.not_mem_nil) (fun _ h => absurd h List.not_mem_nil) (fun _ _ _ h => h) (by decide +kernel) (by decide +kernel)
-- SandFlags$Rota.placeFrom
def sm_59_89 : ab_Sm := ([tR 43, tN 0 5, tN 4 4, tN 125 125, tN 15 15, tF], th_63, [([], some (tN 0 1), [])], [])
def an_59_89 : List ab_An := []
theorem sok_59_89 {l : Launch} {D : va_G} {cs : Nat → ClassId} {tS : Nat} (hGl : ab_Gl l ZZ wFF D vwCl cs tS) : ab_SOK l ZZ 2 D vwCl cs tS 59 sm_59_89 := zf_fin1 (DS := 1) (dp := 0) (fuel := 200000) (q := []) (il := []) (anns := an_59_89) (pcs := [118]) (cand := fun _ _ => an_59_89) (sp := (fun _ => [])) hGl gok_59 (by decide) (fun _ h => absurd h List.not_mem_nil) (fun _ h => absurd h List.not_mem_nil) (fun _ _ _ h => h) (by decide +kernel) (by decide +kernel)
-- SandFlags$Rota.placeFrom
def sm_59_90 : ab_Sm := ([tR 43, tN 0 5, tN 4 4, tN 125 125, tN 1 1, tF], th_63, [([], some (tN 0 1), [])], [])
def an_59_90 : List ab_An := []
theorem sok_59_90 {l : Launch} {D : va_G} {cs : Nat → ClassId} {tS : Nat} (hGl : ab_Gl l ZZ wFF D vwCl cs tS) : ab_SOK l ZZ 2 D vwCl cs tS 59 sm_59_90 := zf_fin1 (DS := 1) (dp := 0) (fuel := 200000) (q := []) (il := []) (anns := an_59_90) (pcs := [118]) (cand := fun _ _ => an_59_90) (sp := (fun _ => [])) hGl gok_59 (by decide) (fun _ h => absurd h List.not_mem_nil) (fun _ h => absurd h List.not_mem_nil) (fun _ _ _ h => h) (by decide +kernel) (by decide +kernel)
-- SandFlags$Rota.placeFrom
def sm_59_91 : ab_Sm := ([tR 43, tN 0 5, tN 4 4, tN 125 125, tN 126 126, tF], th_63, [([], some (tN 0 1), [])], [])
def an_59_91 : List ab_An := []
theorem sok_59_91 {l : Launch} {D : va_G} {cs : Nat → ClassId} {tS : Nat} (hGl : ab_Gl l ZZ wFF D vwCl cs tS) : ab_SOK l ZZ 2 D vwCl cs tS 59 sm_59_91 := zf_fin1 (DS := 1) (dp := 0) (fuel := 200000) (q := []) (il := []) (anns := an_59_91) (pcs := [118]) (cand := fun _ _ => an_59_91) (sp := (fun _ => [])) hGl gok_59 (by decide) (fun _ h => absurd h List.not_mem_nil) (fun _ h => absurd h List.not_mem_nil) (fun _ _ _ h => h) (by decide +kernel) (by decide +kernel)
-- SandFlags$Rota.placeFrom
def sm_59_92 : ab_Sm := ([tR 43, tN 0 5, tN 4 4, tN 125 125, tN 251 251, tF], th_63, [([], some (tN 0 1), [])], [])
def an_59_92 : List ab_An := []
theorem sok_59_92 {l : Launch} {D : va_G} {cs : Nat → ClassId} {tS : Nat} (hGl : ab_Gl l ZZ wFF D vwCl cs tS) : ab_SOK l ZZ 2 D vwCl cs tS 59 sm_59_92 := zf_fin1 (DS := 1) (dp := 0) (fuel := 200000) (q := []) (il := []) (anns := an_59_92) (pcs := [118]) (cand := fun _ _ => an_59_92) (sp := (fun _ => [])) hGl gok_59 (by decide) (fun _ h => absurd h List.not_mem_nil) (fun _ h => absurd h List.not_mem_nil) (fun _ _ _ h => h) (by decide +kernel) (by decide +kernel)
-- SandFlags$Rota.placeFrom
def sm_59_93 : ab_Sm := ([tR 43, tN 0 5, tN 4 4, tN 125 125, tN 26 26, tF], th_63, [([], some (tN 0 1), [])], [])
def an_59_93 : List ab_An := []
theorem sok_59_93 {l : Launch} {D : va_G} {cs : Nat → ClassId} {tS : Nat} (hGl : ab_Gl l ZZ wFF D vwCl cs tS) : ab_SOK l ZZ 2 D vwCl cs tS 59 sm_59_93 := zf_fin1 (DS := 1) (dp := 0) (fuel := 200000) (q := []) (il := []) (anns := an_59_93) (pcs := [118]) (cand := fun _ _ => an_59_93) (sp := (fun _ => [])) hGl gok_59 (by decide) (fun _ h => absurd h List.not_mem_nil) (fun _ h => absurd h List.not_mem_nil) (fun _ _ _ h => h) (by decide +kernel) (by decide +kernel)
-- SandFlags$Rota.placeFrom
def sm_59_94 : ab_Sm := ([tR 43, tN 0 5, tN 4 4, tN 125 125, tN 151 151, tF], th_63, [([], some (tN 0 1), [])], [])
def an_59_94 : List ab_An := []
theorem sok_59_94 {l : Launch} {D : va_G} {cs : Nat → ClassId} {tS : Nat} (hGl : ab_Gl l ZZ wFF D vwCl cs tS) : ab_SOK l ZZ 2 D vwCl cs tS 59 sm_59_94 := zf_fin1 (DS := 1) (dp := 0) (fuel := 200000) (q := []) (il := []) (anns := an_59_94) (pcs := [118]) (cand := fun _ _ => an_59_94) (sp := (fun _ => [])) hGl gok_59 (by decide) (fun _ h => absurd h List.not_mem_nil) (fun _ h => absurd h List.not_mem_nil) (fun _ _ _ h => h) (by decide +kernel) (by decide +kernel)
-- SandFlags$Rota.placeFrom
def sm_59_95 : ab_Sm := ([tR 43, tN 0 5, tN 4 4, tN 125 125, tN 51 51, tF], th_63, [([], some (tN 0 1), [])], [])
def an_59_95 : List ab_An := []
theorem sok_59_95 {l : Launch} {D : va_G} {cs : Nat → ClassId} {tS : Nat} (hGl : ab_Gl l ZZ wFF D vwCl cs tS) : ab_SOK l ZZ 2 D vwCl cs tS 59 sm_59_95 := zf_fin1 (DS := 1) (dp := 0) (fuel := 200000) (q := []) (il := []) (anns := an_59_95) (pcs := [118]) (cand := fun _ _ => an_59_95) (sp := (fun _ => [])) hGl gok_59 (by decide) (fun _ h => absurd h List.not_mem_nil) (fun _ h => absurd h List.not_mem_nil) (fun _ _ _ h => h) (by decide +kernel) (by decide +kernel)
-- SandFlags$Rota.placeFrom
def sm_59_96 : ab_Sm := ([tR 43, tN 0 5, tN 4 4, tN 125 125, tN 6 6, tF], th_63, [([], some (tN 0 1), [])], [])
def an_59_96 : List ab_An := []
theorem sok_59_96 {l : Launch} {D : va_G} {cs : Nat → ClassId} {tS : Nat} (hGl : ab_Gl l ZZ wFF D vwCl cs tS) : ab_SOK l ZZ 2 D vwCl cs tS 59 sm_59_96 := zf_fin1 (DS := 1) (dp := 0) (fuel := 200000) (q := []) (il := []) (anns := an_59_96) (pcs := [118]) (cand := fun _ _ => an_59_96) (sp := (fun _ => [])) hGl gok_59 (by decide) (fun _ h => absurd h List.not_mem_nil) (fun _ h => absurd h List.not_mem_nil) (fun _ _ _ h => h) (by decide +kernel) (by decide +kernel)
-- SandFlags$Rota.placeFrom
def sm_59_97 : ab_Sm := ([tR 43, tN 0 5, tN 4 4, tN 125 125, tN 131 131, tF], th_63, [([], some (tN 0 1), [])], [])
def an_59_97 : List ab_An := []
theorem sok_59_97 {l : Launch} {D : va_G} {cs : Nat → ClassId} {tS : Nat} (hGl : ab_Gl l ZZ wFF D vwCl cs tS) : ab_SOK l ZZ 2 D vwCl cs tS 59 sm_59_97 := zf_fin1 (DS := 1) (dp := 0) (fuel := 200000) (q := []) (il := []) (anns := an_59_97) (pcs := [118]) (cand := fun _ _ => an_59_97) (sp := (fun _ => [])) hGl gok_59 (by decide) (fun _ h => absurd h List.not_mem_nil) (fun _ h => absurd h List.not_mem_nil) (fun _ _ _ h => h) (by decide +kernel) (by decide +kernel)
-- SandFlags$Rota.placeFrom
def sm_59_98 : ab_Sm := ([tR 43, tN 0 5, tN 4 4, tN 125 125, tN 31 31, tF], th_63, [([], some (tN 0 1), [])], [])
def an_59_98 : List ab_An := []
theorem sok_59_98 {l : Launch} {D : va_G} {cs : Nat → ClassId} {tS : Nat} (hGl : ab_Gl l ZZ wFF D vwCl cs tS) : ab_SOK l ZZ 2 D vwCl cs tS 59 sm_59_98 := zf_fin1 (DS := 1) (dp := 0) (fuel := 200000) (q := []) (il := []) (anns := an_59_98) (pcs := [118]) (cand := fun _ _ => an_59_98) (sp := (fun _ => [])) hGl gok_59 (by decide) (fun _ h => absurd h List.not_mem_nil) (fun _ h => absurd h List.not_mem_nil) (fun _ _ _ h => h) (by decide +kernel) (by decide +kernel)
-- SandFlags$Rota.placeFrom
def sm_59_99 : ab_Sm := ([tR 43, tN 0 5, tN 4 4, tN 125 125, tN 11 11, tF], th_63, [([], some (tN 0 1), [])], [])
def an_59_99 : List ab_An := []
theorem sok_59_99 {l : Launch} {D : va_G} {cs : Nat → ClassId} {tS : Nat} (hGl : ab_Gl l ZZ wFF D vwCl cs tS) : ab_SOK l ZZ 2 D vwCl cs tS 59 sm_59_99 := zf_fin1 (DS := 1) (dp := 0) (fuel := 200000) (q := []) (il := []) (anns := an_59_99) (pcs := [118]) (cand := fun _ _ => an_59_99) (sp := (fun _ => [])) hGl gok_59 (by decide) (fun _ h => absurd h List.not_mem_nil) (fun _ h => absurd h List.not_mem_nil) (fun _ _ _ h => h) (by decide +kernel) (by decide +kernel)
-- SandFlags$Rota.placeFrom
def sm_59_100 : ab_Sm := ([tR 43, tN 0 5, tN 4 4, tN 125 125, tN 2 2, tF], th_63, [([], some (tN 0 1), [])], [])
def an_59_100 : List ab_An := []
theorem sok_59_100 {l : Launch} {D : va_G} {cs : Nat → ClassId} {tS : Nat} (hGl : ab_Gl l ZZ wFF D vwCl cs tS) : ab_SOK l ZZ 2 D vwCl cs tS 59 sm_59_100 := zf_fin1 (DS := 1) (dp := 0) (fuel := 200000) (q := []) (il := []) (anns := an_59_100) (pcs := [118]) (cand := fun _ _ => an_59_100) (sp := (fun _ => [])) hGl gok_59 (by decide) (fun _ h => absurd h List.not_mem_nil) (fun _ h => absurd h List.not_mem_nil) (fun _ _ _ h => h) (by decide +kernel) (by decide +kernel)
-- SandFlags$Rota.placeFrom
def sm_59_101 : ab_Sm := ([tR 43, tN 0 5, tN 4 4, tN 125 125, tN 127 127, tF], th_63, [([], some (tN 0 1), [])], [])
def an_59_101 : List ab_An := []
theorem sok_59_101 {l : Launch} {D : va_G} {cs : Nat → ClassId} {tS : Nat} (hGl : ab_Gl l ZZ wFF D vwCl cs tS) : ab_SOK l ZZ 2 D vwCl cs tS 59 sm_59_101 := zf_fin1 (DS := 1) (dp := 0) (fuel := 200000) (q := []) (il := []) (anns := an_59_101) (pcs := [118]) (cand := fun _ _ => an_59_101) (sp := (fun _ => [])) hGl gok_59 (by decide) (fun _ h => absurd h List.not_mem_nil) (fun _ h => absurd h List.not_mem_nil) (fun _ _ _ h => h) (by decide +kernel) (by decide +kernel)
-- SandFlags$Rota.placeFrom
def sm_59_102 : ab_Sm := ([tR 43, tN 0 5, tN 4 4, tN 125 125, tN 27 27, tF], th_63, [([], some (tN 0 1), [])], [])
def an_59_102 : List ab_An := []
theorem sok_59_102 {l : Launch} {D : va_G} {cs : Nat → ClassId} {tS : Nat} (hGl : ab_Gl l ZZ wFF D vwCl cs tS) : ab_SOK l ZZ 2 D vwCl cs tS 59 sm_59_102 := zf_fin1 (DS := 1) (dp := 0) (fuel := 200000) (q := []) (il := []) (anns := an_59_102) (pcs := [118]) (cand := fun _ _ => an_59_102) (sp := (fun _ => [])) hGl gok_59 (by decide) (fun _ h => absurd h List.not_mem_nil) (fun _ h => absurd h List.not_mem_nil) (fun _ _ _ h => h) (by decide +kernel) (by decide +kernel)
-- SandFlags$Rota.placeFrom
def sm_59_103 : ab_Sm := ([tR 43, tN 0 5, tN 4 4, tN 125 125, tN 7 7, tF], th_63, [([], some (tN 0 1), [])], [])
def an_59_103 : List ab_An := []
theorem sok_59_103 {l : Launch} {D : va_G} {cs : Nat → ClassId} {tS : Nat} (hGl : ab_Gl l ZZ wFF D vwCl cs tS) : ab_SOK l ZZ 2 D vwCl cs tS 59 sm_59_103 := zf_fin1 (DS := 1) (dp := 0) (fuel := 200000) (q := []) (il := []) (anns := an_59_103) (pcs := [118]) (cand := fun _ _ => an_59_103) (sp := (fun _ => [])) hGl gok_59 (by decide) (fun _ h => absurd h List.not_mem_nil) (fun _ h => absurd h List.not_mem_nil) (fun _ _ _ h => h) (by decide +kernel) (by decide +kernel)
-- SandFlags$Rota.placeFrom
def sm_59_104 : ab_Sm := ([tR 43, tN 0 5, tN 4 4, tN 125 125, tN 3 3, tF], th_63, [([], some (tN 0 1), [])], [])
def an_59_104 : List ab_An := []
theorem sok_59_104 {l : Launch} {D : va_G} {cs : Nat → ClassId} {tS : Nat} (hGl : ab_Gl l ZZ wFF D vwCl cs tS) : ab_SOK l ZZ 2 D vwCl cs tS 59 sm_59_104 := zf_fin1 (DS := 1) (dp := 0) (fuel := 200000) (q := []) (il := []) (anns := an_59_104) (pcs := [118]) (cand := fun _ _ => an_59_104) (sp := (fun _ => [])) hGl gok_59 (by decide) (fun _ h => absurd h List.not_mem_nil) (fun _ h => absurd h List.not_mem_nil) (fun _ _ _ h => h) (by decide +kernel) (by decide +kernel)
-- SandFlags$Rota.placeFrom
def sm_59_105 : ab_Sm := ([tR 43, tN 0 5, tN 4 4, tN 250 250, tN 0 0, tF], th_63, [([], some (tN 0 1), [])], [])
def an_59_105 : List ab_An := []
theorem sok_59_105 {l : Launch} {D : va_G} {cs : Nat → ClassId} {tS : Nat} (hGl : ab_Gl l ZZ wFF D vwCl cs tS) : ab_SOK l ZZ 2 D vwCl cs tS 59 sm_59_105 := zf_fin1 (DS := 1) (dp := 0) (fuel := 200000) (q := []) (il := []) (anns := an_59_105) (pcs := [118]) (cand := fun _ _ => an_59_105) (sp := (fun _ => [])) hGl gok_59 (by decide) (fun _ h => absurd h List.not_mem_nil) (fun _ h => absurd h List.not_mem_nil) (fun _ _ _ h => h) (by decide +kernel) (by decide +kernel)
-- SandFlags$Rota.placeFrom
def sm_59_106 : ab_Sm := ([tR 43, tN 0 5, tN 4 4, tN 250 250, tN 125 125, tF], th_63, [([], some (tN 0 1), [])], [])
def an_59_106 : List ab_An := []
theorem sok_59_106 {l : Launch} {D : va_G} {cs : Nat → ClassId} {tS : Nat} (hGl : ab_Gl l ZZ wFF D vwCl cs tS) : ab_SOK l ZZ 2 D vwCl cs tS 59 sm_59_106 := zf_fin1 (DS := 1) (dp := 0) (fuel := 200000) (q := []) (il := []) (anns := an_59_106) (pcs := [118]) (cand := fun _ _ => an_59_106) (sp := (fun _ => [])) hGl gok_59 (by decide) (fun _ h => absurd h List.not_mem_nil) (fun _ h => absurd h List.not_mem_nil) (fun _ _ _ h => h) (by decide +kernel) (by decide +kernel)
-- SandFlags$Rota.placeFrom
def sm_59_107 : ab_Sm := ([tR 43, tN 0 5, tN 4 4, tN 250 250, tN 250 250, tF], th_63, [([], some (tN 0 1), [])], [])
def an_59_107 : List ab_An := []
theorem sok_59_107 {l : Launch} {D : va_G} {cs : Nat → ClassId} {tS : Nat} (hGl : ab_Gl l ZZ wFF D vwCl cs tS) : ab_SOK l ZZ 2 D vwCl cs tS 59 sm_59_107 := zf_fin1 (DS := 1) (dp := 0) (fuel := 200000) (q := []) (il := []) (anns := an_59_107) (pcs := [118]) (cand := fun _ _ => an_59_107) (sp := (fun _ => [])) hGl gok_59 (by decide) (fun _ h => absurd h List.not_mem_nil) (fun _ h => absurd h List.not_mem_nil) (fun _ _ _ h => h) (by decide +kernel) (by decide +kernel)
-- SandFlags$Rota.placeFrom
def sm_59_108 : ab_Sm := ([tR 43, tN 0 5, tN 4 4, tN 250 250, tN 25 25, tF], th_63, [([], some (tN 0 1), [])], [])
def an_59_108 : List ab_An := []
theorem sok_59_108 {l : Launch} {D : va_G} {cs : Nat → ClassId} {tS : Nat} (hGl : ab_Gl l ZZ wFF D vwCl cs tS) : ab_SOK l ZZ 2 D vwCl cs tS 59 sm_59_108 := zf_fin1 (DS := 1) (dp := 0) (fuel := 200000) (q := []) (il := []) (anns := an_59_108) (pcs := [118]) (cand := fun _ _ => an_59_108) (sp := (fun _ => [])) hGl gok_59 (by decide) (fun _ h => absurd h List.not_mem_nil) (fun _ h => absurd h List.not_mem_nil) (fun _ _ _ h => h) (by decide +kernel) (by decide +kernel)
-- SandFlags$Rota.placeFrom
def sm_59_109 : ab_Sm := ([tR 43, tN 0 5, tN 4 4, tN 250 250, tN 150 150, tF], th_63, [([], some (tN 0 1), [])], [])
def an_59_109 : List ab_An := []
theorem sok_59_109 {l : Launch} {D : va_G} {cs : Nat → ClassId} {tS : Nat} (hGl : ab_Gl l ZZ wFF D vwCl cs tS) : ab_SOK l ZZ 2 D vwCl cs tS 59 sm_59_109 := zf_fin1 (DS := 1) (dp := 0) (fuel := 200000) (q := []) (il := []) (anns := an_59_109) (pcs := [118]) (cand := fun _ _ => an_59_109) (sp := (fun _ => [])) hGl gok_59 (by decide) (fun _ h => absurd h List.not_mem_nil) (fun _ h => absurd h List.not_mem_nil) (fun _ _ _ h => h) (by decide +kernel) (by decide +kernel)
-- SandFlags$Rota.placeFrom
def sm_59_110 : ab_Sm := ([tR 43, tN 0 5, tN 4 4, tN 250 250, tN 50 50, tF], th_63, [([], some (tN 0 1), [])], [])
def an_59_110 : List ab_An := []
theorem sok_59_110 {l : Launch} {D : va_G} {cs : Nat → ClassId} {tS : Nat} (hGl : ab_Gl l ZZ wFF D vwCl cs tS) : ab_SOK l ZZ 2 D vwCl cs tS 59 sm_59_110 := zf_fin1 (DS := 1) (dp := 0) (fuel := 200000) (q := []) (il := []) (anns := an_59_110) (pcs := [118]) (cand := fun _ _ => an_59_110) (sp := (fun _ => [])) hGl gok_59 (by decide) (fun _ h => absurd h List.not_mem_nil) (fun _ h => absurd h List.not_mem_nil) (fun _ _ _ h => h) (by decide +kernel) (by decide +kernel)
-- SandFlags$Rota.placeFrom
def sm_59_111 : ab_Sm := ([tR 43, tN 0 5, tN 4 4, tN 250 250, tN 5 5, tF], th_63, [([], some (tN 0 1), [])], [])
def an_59_111 : List ab_An := []
theorem sok_59_111 {l : Launch} {D : va_G} {cs : Nat → ClassId} {tS : Nat} (hGl : ab_Gl l ZZ wFF D vwCl cs tS) : ab_SOK l ZZ 2 D vwCl cs tS 59 sm_59_111 := zf_fin1 (DS := 1) (dp := 0) (fuel := 200000) (q := []) (il := []) (anns := an_59_111) (pcs := [118]) (cand := fun _ _ => an_59_111) (sp := (fun _ => [])) hGl gok_59 (by decide) (fun _ h => absurd h List.not_mem_nil) (fun _ h => absurd h List.not_mem_nil) (fun _ _ _ h => h) (by decide +kernel) (by decide +kernel)
-- SandFlags$Rota.placeFrom
def sm_59_112 : ab_Sm := ([tR 43, tN 0 5, tN 4 4, tN 250 250, tN 130 130, tF], th_63, [([], some (tN 0 1), [])], [])
def an_59_112 : List ab_An := []
theorem sok_59_112 {l : Launch} {D : va_G} {cs : Nat → ClassId} {tS : Nat} (hGl : ab_Gl l ZZ wFF D vwCl cs tS) : ab_SOK l ZZ 2 D vwCl cs tS 59 sm_59_112 := zf_fin1 (DS := 1) (dp := 0) (fuel := 200000) (q := []) (il := []) (anns := an_59_112) (pcs := [118]) (cand := fun _ _ => an_59_112) (sp := (fun _ => [])) hGl gok_59 (by decide) (fun _ h => absurd h List.not_mem_nil) (fun _ h => absurd h List.not_mem_nil) (fun _ _ _ h => h) (by decide +kernel) (by decide +kernel)
-- SandFlags$Rota.placeFrom
def sm_59_113 : ab_Sm := ([tR 43, tN 0 5, tN 4 4, tN 250 250, tN 30 30, tF], th_63, [([], some (tN 0 1), [])], [])
def an_59_113 : List ab_An := []
theorem sok_59_113 {l : Launch} {D : va_G} {cs : Nat → ClassId} {tS : Nat} (hGl : ab_Gl l ZZ wFF D vwCl cs tS) : ab_SOK l ZZ 2 D vwCl cs tS 59 sm_59_113 := zf_fin1 (DS := 1) (dp := 0) (fuel := 200000) (q := []) (il := []) (anns := an_59_113) (pcs := [118]) (cand := fun _ _ => an_59_113) (sp := (fun _ => [])) hGl gok_59 (by decide) (fun _ h => absurd h List.not_mem_nil) (fun _ h => absurd h List.not_mem_nil) (fun _ _ _ h => h) (by decide +kernel) (by decide +kernel)
-- SandFlags$Rota.placeFrom
def sm_59_114 : ab_Sm := ([tR 43, tN 0 5, tN 4 4, tN 250 250, tN 10 10, tF], th_63, [([], some (tN 0 1), [])], [])
def an_59_114 : List ab_An := []
theorem sok_59_114 {l : Launch} {D : va_G} {cs : Nat → ClassId} {tS : Nat} (hGl : ab_Gl l ZZ wFF D vwCl cs tS) : ab_SOK l ZZ 2 D vwCl cs tS 59 sm_59_114 := zf_fin1 (DS := 1) (dp := 0) (fuel := 200000) (q := []) (il := []) (anns := an_59_114) (pcs := [118]) (cand := fun _ _ => an_59_114) (sp := (fun _ => [])) hGl gok_59 (by decide) (fun _ h => absurd h List.not_mem_nil) (fun _ h => absurd h List.not_mem_nil) (fun _ _ _ h => h) (by decide +kernel) (by decide +kernel)
-- SandFlags$Rota.placeFrom
def sm_59_115 : ab_Sm := ([tR 43, tN 0 5, tN 4 4, tN 250 250, tN 1 1, tF], th_63, [([], some (tN 0 1), [])], [])
def an_59_115 : List ab_An := []
theorem sok_59_115 {l : Launch} {D : va_G} {cs : Nat → ClassId} {tS : Nat} (hGl : ab_Gl l ZZ wFF D vwCl cs tS) : ab_SOK l ZZ 2 D vwCl cs tS 59 sm_59_115 := zf_fin1 (DS := 1) (dp := 0) (fuel := 200000) (q := []) (il := []) (anns := an_59_115) (pcs := [118]) (cand := fun _ _ => an_59_115) (sp := (fun _ => [])) hGl gok_59 (by decide) (fun _ h => absurd h List.not_mem_nil) (fun _ h => absurd h List.not_mem_nil) (fun _ _ _ h => h) (by decide +kernel) (by decide +kernel)
-- SandFlags$Rota.placeFrom
def sm_59_116 : ab_Sm := ([tR 43, tN 0 5, tN 4 4, tN 250 250, tN 126 126, tF], th_63, [([], some (tN 0 1), [])], [])
def an_59_116 : List ab_An := []
theorem sok_59_116 {l : Launch} {D : va_G} {cs : Nat → ClassId} {tS : Nat} (hGl : ab_Gl l ZZ wFF D vwCl cs tS) : ab_SOK l ZZ 2 D vwCl cs tS 59 sm_59_116 := zf_fin1 (DS := 1) (dp := 0) (fuel := 200000) (q := []) (il := []) (anns := an_59_116) (pcs := [118]) (cand := fun _ _ => an_59_116) (sp := (fun _ => [])) hGl gok_59 (by decide) (fun _ h => absurd h List.not_mem_nil) (fun _ h => absurd h List.not_mem_nil) (fun _ _ _ h => h) (by decide +kernel) (by decide +kernel)
-- SandFlags$Rota.placeFrom
def sm_59_117 : ab_Sm := ([tR 43, tN 0 5, tN 4 4, tN 250 250, tN 26 26, tF], th_63, [([], some (tN 0 1), [])], [])
def an_59_117 : List ab_An := []
theorem sok_59_117 {l : Launch} {D : va_G} {cs : Nat → ClassId} {tS : Nat} (hGl : ab_Gl l ZZ wFF D vwCl cs tS) : ab_SOK l ZZ 2 D vwCl cs tS 59 sm_59_117 := zf_fin1 (DS := 1) (dp := 0) (fuel := 200000) (q := []) (il := []) (anns := an_59_117) (pcs := [118]) (cand := fun _ _ => an_59_117) (sp := (fun _ => [])) hGl gok_59 (by decide) (fun _ h => absurd h List.not_mem_nil) (fun _ h => absurd h List.not_mem_nil) (fun _ _ _ h => h) (by decide +kernel) (by decide +kernel)
-- SandFlags$Rota.placeFrom
def sm_59_118 : ab_Sm := ([tR 43, tN 0 5, tN 4 4, tN 250 250, tN 6 6, tF], th_63, [([], some (tN 0 1), [])], [])
def an_59_118 : List ab_An := []
theorem sok_59_118 {l : Launch} {D : va_G} {cs : Nat → ClassId} {tS : Nat} (hGl : ab_Gl l ZZ wFF D vwCl cs tS) : ab_SOK l ZZ 2 D vwCl cs tS 59 sm_59_118 := zf_fin1 (DS := 1) (dp := 0) (fuel := 200000) (q := []) (il := []) (anns := an_59_118) (pcs := [118]) (cand := fun _ _ => an_59_118) (sp := (fun _ => [])) hGl gok_59 (by decide) (fun _ h => absurd h List.not_mem_nil) (fun _ h => absurd h List.not_mem_nil) (fun _ _ _ h => h) (by decide +kernel) (by decide +kernel)
-- SandFlags$Rota.placeFrom
def sm_59_119 : ab_Sm := ([tR 43, tN 0 5, tN 4 4, tN 250 250, tN 2 2, tF], th_63, [([], some (tN 0 1), [])], [])
def an_59_119 : List ab_An := []
theorem sok_59_119 {l : Launch} {D : va_G} {cs : Nat → ClassId} {tS : Nat} (hGl : ab_Gl l ZZ wFF D vwCl cs tS) : ab_SOK l ZZ 2 D vwCl cs tS 59 sm_59_119 := zf_fin1 (DS := 1) (dp := 0) (fuel := 200000) (q := []) (il := []) (anns := an_59_119) (pcs := [118]) (cand := fun _ _ => an_59_119) (sp := (fun _ => [])) hGl gok_59 (by decide) (fun _ h => absurd h List.not_mem_nil) (fun _ h => absurd h List.not_mem_nil) (fun _ _ _ h => h) (by decide +kernel) (by decide +kernel)
-- SandFlags$Rota.placeFrom
def sm_59_120 : ab_Sm := ([tR 43, tN 0 5, tN 4 4, tN 375 375, tN 0 0, tF], th_63, [([], some (tN 0 1), [])], [])
def an_59_120 : List ab_An := []
theorem sok_59_120 {l : Launch} {D : va_G} {cs : Nat → ClassId} {tS : Nat} (hGl : ab_Gl l ZZ wFF D vwCl cs tS) : ab_SOK l ZZ 2 D vwCl cs tS 59 sm_59_120 := zf_fin1 (DS := 1) (dp := 0) (fuel := 200000) (q := []) (il := []) (anns := an_59_120) (pcs := [118]) (cand := fun _ _ => an_59_120) (sp := (fun _ => [])) hGl gok_59 (by decide) (fun _ h => absurd h List.not_mem_nil) (fun _ h => absurd h List.not_mem_nil) (fun _ _ _ h => h) (by decide +kernel) (by decide +kernel)
-- SandFlags$Rota.placeFrom
def sm_59_121 : ab_Sm := ([tR 43, tN 0 5, tN 4 4, tN 375 375, tN 125 125, tF], th_63, [([], some (tN 0 1), [])], [])
def an_59_121 : List ab_An := []
theorem sok_59_121 {l : Launch} {D : va_G} {cs : Nat → ClassId} {tS : Nat} (hGl : ab_Gl l ZZ wFF D vwCl cs tS) : ab_SOK l ZZ 2 D vwCl cs tS 59 sm_59_121 := zf_fin1 (DS := 1) (dp := 0) (fuel := 200000) (q := []) (il := []) (anns := an_59_121) (pcs := [118]) (cand := fun _ _ => an_59_121) (sp := (fun _ => [])) hGl gok_59 (by decide) (fun _ h => absurd h List.not_mem_nil) (fun _ h => absurd h List.not_mem_nil) (fun _ _ _ h => h) (by decide +kernel) (by decide +kernel)
-- SandFlags$Rota.placeFrom
def sm_59_122 : ab_Sm := ([tR 43, tN 0 5, tN 4 4, tN 375 375, tN 25 25, tF], th_63, [([], some (tN 0 1), [])], [])
def an_59_122 : List ab_An := []
theorem sok_59_122 {l : Launch} {D : va_G} {cs : Nat → ClassId} {tS : Nat} (hGl : ab_Gl l ZZ wFF D vwCl cs tS) : ab_SOK l ZZ 2 D vwCl cs tS 59 sm_59_122 := zf_fin1 (DS := 1) (dp := 0) (fuel := 200000) (q := []) (il := []) (anns := an_59_122) (pcs := [118]) (cand := fun _ _ => an_59_122) (sp := (fun _ => [])) hGl gok_59 (by decide) (fun _ h => absurd h List.not_mem_nil) (fun _ h => absurd h List.not_mem_nil) (fun _ _ _ h => h) (by decide +kernel) (by decide +kernel)
-- SandFlags$Rota.placeFrom
def sm_59_123 : ab_Sm := ([tR 43, tN 0 5, tN 4 4, tN 375 375, tN 5 5, tF], th_63, [([], some (tN 0 1), [])], [])
def an_59_123 : List ab_An := []
theorem sok_59_123 {l : Launch} {D : va_G} {cs : Nat → ClassId} {tS : Nat} (hGl : ab_Gl l ZZ wFF D vwCl cs tS) : ab_SOK l ZZ 2 D vwCl cs tS 59 sm_59_123 := zf_fin1 (DS := 1) (dp := 0) (fuel := 200000) (q := []) (il := []) (anns := an_59_123) (pcs := [118]) (cand := fun _ _ => an_59_123) (sp := (fun _ => [])) hGl gok_59 (by decide) (fun _ h => absurd h List.not_mem_nil) (fun _ h => absurd h List.not_mem_nil) (fun _ _ _ h => h) (by decide +kernel) (by decide +kernel)
-- SandFlags$Rota.placeFrom
def sm_59_124 : ab_Sm := ([tR 43, tN 0 5, tN 4 4, tN 375 375, tN 1 1, tF], th_63, [([], some (tN 0 1), [])], [])
def an_59_124 : List ab_An := []
theorem sok_59_124 {l : Launch} {D : va_G} {cs : Nat → ClassId} {tS : Nat} (hGl : ab_Gl l ZZ wFF D vwCl cs tS) : ab_SOK l ZZ 2 D vwCl cs tS 59 sm_59_124 := zf_fin1 (DS := 1) (dp := 0) (fuel := 200000) (q := []) (il := []) (anns := an_59_124) (pcs := [118]) (cand := fun _ _ => an_59_124) (sp := (fun _ => [])) hGl gok_59 (by decide) (fun _ h => absurd h List.not_mem_nil) (fun _ h => absurd h List.not_mem_nil) (fun _ _ _ h => h) (by decide +kernel) (by decide +kernel)
-- SandFlags$Rota.placeFrom
def sm_59_125 : ab_Sm := ([tR 43, tN 0 5, tN 4 4, tN 500 500, tN 0 0, tF], th_63, [([], some (tN 0 1), [])], [])
def an_59_125 : List ab_An := []
theorem sok_59_125 {l : Launch} {D : va_G} {cs : Nat → ClassId} {tS : Nat} (hGl : ab_Gl l ZZ wFF D vwCl cs tS) : ab_SOK l ZZ 2 D vwCl cs tS 59 sm_59_125 := zf_fin1 (DS := 1) (dp := 0) (fuel := 200000) (q := []) (il := []) (anns := an_59_125) (pcs := [118]) (cand := fun _ _ => an_59_125) (sp := (fun _ => [])) hGl gok_59 (by decide) (fun _ h => absurd h List.not_mem_nil) (fun _ h => absurd h List.not_mem_nil) (fun _ _ _ h => h) (by decide +kernel) (by decide +kernel)
-- SandFlags$Rota.placeFrom
def sm_59_126 : ab_Sm := ([tR 43, tN 0 5, tN 4 4, tN 25 25, tN 0 0, tF], th_63, [([], some (tN 0 1), [])], [])
def an_59_126 : List ab_An := []
theorem sok_59_126 {l : Launch} {D : va_G} {cs : Nat → ClassId} {tS : Nat} (hGl : ab_Gl l ZZ wFF D vwCl cs tS) : ab_SOK l ZZ 2 D vwCl cs tS 59 sm_59_126 := zf_fin1 (DS := 1) (dp := 0) (fuel := 200000) (q := []) (il := []) (anns := an_59_126) (pcs := [118]) (cand := fun _ _ => an_59_126) (sp := (fun _ => [])) hGl gok_59 (by decide) (fun _ h => absurd h List.not_mem_nil) (fun _ h => absurd h List.not_mem_nil) (fun _ _ _ h => h) (by decide +kernel) (by decide +kernel)
-- SandFlags$Rota.placeFrom
def sm_59_127 : ab_Sm := ([tR 43, tN 0 5, tN 4 4, tN 25 25, tN 125 125, tF], th_63, [([], some (tN 0 1), [])], [])
def an_59_127 : List ab_An := []
theorem sok_59_127 {l : Launch} {D : va_G} {cs : Nat → ClassId} {tS : Nat} (hGl : ab_Gl l ZZ wFF D vwCl cs tS) : ab_SOK l ZZ 2 D vwCl cs tS 59 sm_59_127 := zf_fin1 (DS := 1) (dp := 0) (fuel := 200000) (q := []) (il := []) (anns := an_59_127) (pcs := [118]) (cand := fun _ _ => an_59_127) (sp := (fun _ => [])) hGl gok_59 (by decide) (fun _ h => absurd h List.not_mem_nil) (fun _ h => absurd h List.not_mem_nil) (fun _ _ _ h => h) (by decide +kernel) (by decide +kernel)
-- SandFlags$Rota.placeFrom
def sm_59_128 : ab_Sm := ([tR 43, tN 0 5, tN 4 4, tN 25 25, tN 250 250, tF], th_63, [([], some (tN 0 1), [])], [])
def an_59_128 : List ab_An := []
theorem sok_59_128 {l : Launch} {D : va_G} {cs : Nat → ClassId} {tS : Nat} (hGl : ab_Gl l ZZ wFF D vwCl cs tS) : ab_SOK l ZZ 2 D vwCl cs tS 59 sm_59_128 := zf_fin1 (DS := 1) (dp := 0) (fuel := 200000) (q := []) (il := []) (anns := an_59_128) (pcs := [118]) (cand := fun _ _ => an_59_128) (sp := (fun _ => [])) hGl gok_59 (by decide) (fun _ h => absurd h List.not_mem_nil) (fun _ h => absurd h List.not_mem_nil) (fun _ _ _ h => h) (by decide +kernel) (by decide +kernel)
-- SandFlags$Rota.placeFrom
def sm_59_129 : ab_Sm := ([tR 43, tN 0 5, tN 4 4, tN 25 25, tN 375 375, tF], th_63, [([], some (tN 0 1), [])], [])
def an_59_129 : List ab_An := []
theorem sok_59_129 {l : Launch} {D : va_G} {cs : Nat → ClassId} {tS : Nat} (hGl : ab_Gl l ZZ wFF D vwCl cs tS) : ab_SOK l ZZ 2 D vwCl cs tS 59 sm_59_129 := zf_fin1 (DS := 1) (dp := 0) (fuel := 200000) (q := []) (il := []) (anns := an_59_129) (pcs := [118]) (cand := fun _ _ => an_59_129) (sp := (fun _ => [])) hGl gok_59 (by decide) (fun _ h => absurd h List.not_mem_nil) (fun _ h => absurd h List.not_mem_nil) (fun _ _ _ h => h) (by decide +kernel) (by decide +kernel)
-- SandFlags$Rota.placeFrom
def sm_59_130 : ab_Sm := ([tR 43, tN 0 5, tN 4 4, tN 25 25, tN 25 25, tF], th_63, [([], some (tN 0 1), [])], [])
def an_59_130 : List ab_An := []
theorem sok_59_130 {l : Launch} {D : va_G} {cs : Nat → ClassId} {tS : Nat} (hGl : ab_Gl l ZZ wFF D vwCl cs tS) : ab_SOK l ZZ 2 D vwCl cs tS 59 sm_59_130 := zf_fin1 (DS := 1) (dp := 0) (fuel := 200000) (q := []) (il := []) (anns := an_59_130) (pcs := [118]) (cand := fun _ _ => an_59_130) (sp := (fun _ => [])) hGl gok_59 (by decide) (fun _ h => absurd h List.not_mem_nil) (fun _ h => absurd h List.not_mem_nil) (fun _ _ _ h => h) (by decide +kernel) (by decide +kernel)
-- SandFlags$Rota.placeFrom
def sm_59_131 : ab_Sm := ([tR 43, tN 0 5, tN 4 4, tN 25 25, tN 150 150, tF], th_63, [([], some (tN 0 1), [])], [])
def an_59_131 : List ab_An := []
theorem sok_59_131 {l : Launch} {D : va_G} {cs : Nat → ClassId} {tS : Nat} (hGl : ab_Gl l ZZ wFF D vwCl cs tS) : ab_SOK l ZZ 2 D vwCl cs tS 59 sm_59_131 := zf_fin1 (DS := 1) (dp := 0) (fuel := 200000) (q := []) (il := []) (anns := an_59_131) (pcs := [118]) (cand := fun _ _ => an_59_131) (sp := (fun _ => [])) hGl gok_59 (by decide) (fun _ h => absurd h List.not_mem_nil) (fun _ h => absurd h List.not_mem_nil) (fun _ _ _ h => h) (by decide +kernel) (by decide +kernel)
-- SandFlags$Rota.placeFrom
def sm_59_132 : ab_Sm := ([tR 43, tN 0 5, tN 4 4, tN 25 25, tN 275 275, tF], th_63, [([], some (tN 0 1), [])], [])
def an_59_132 : List ab_An := []
theorem sok_59_132 {l : Launch} {D : va_G} {cs : Nat → ClassId} {tS : Nat} (hGl : ab_Gl l ZZ wFF D vwCl cs tS) : ab_SOK l ZZ 2 D vwCl cs tS 59 sm_59_132 := zf_fin1 (DS := 1) (dp := 0) (fuel := 200000) (q := []) (il := []) (anns := an_59_132) (pcs := [118]) (cand := fun _ _ => an_59_132) (sp := (fun _ => [])) hGl gok_59 (by decide) (fun _ h => absurd h List.not_mem_nil) (fun _ h => absurd h List.not_mem_nil) (fun _ _ _ h => h) (by decide +kernel) (by decide +kernel)
-- SandFlags$Rota.placeFrom
def sm_59_133 : ab_Sm := ([tR 43, tN 0 5, tN 4 4, tN 25 25, tN 50 50, tF], th_63, [([], some (tN 0 1), [])], [])
def an_59_133 : List ab_An := []
theorem sok_59_133 {l : Launch} {D : va_G} {cs : Nat → ClassId} {tS : Nat} (hGl : ab_Gl l ZZ wFF D vwCl cs tS) : ab_SOK l ZZ 2 D vwCl cs tS 59 sm_59_133 := zf_fin1 (DS := 1) (dp := 0) (fuel := 200000) (q := []) (il := []) (anns := an_59_133) (pcs := [118]) (cand := fun _ _ => an_59_133) (sp := (fun _ => [])) hGl gok_59 (by decide) (fun _ h => absurd h List.not_mem_nil) (fun _ h => absurd h List.not_mem_nil) (fun _ _ _ h => h) (by decide +kernel) (by decide +kernel)
-- SandFlags$Rota.placeFrom
def sm_59_134 : ab_Sm := ([tR 43, tN 0 5, tN 4 4, tN 25 25, tN 175 175, tF], th_63, [([], some (tN 0 1), [])], [])
def an_59_134 : List ab_An := []
theorem sok_59_134 {l : Launch} {D : va_G} {cs : Nat → ClassId} {tS : Nat} (hGl : ab_Gl l ZZ wFF D vwCl cs tS) : ab_SOK l ZZ 2 D vwCl cs tS 59 sm_59_134 := zf_fin1 (DS := 1) (dp := 0) (fuel := 200000) (q := []) (il := []) (anns := an_59_134) (pcs := [118]) (cand := fun _ _ => an_59_134) (sp := (fun _ => [])) hGl gok_59 (by decide) (fun _ h => absurd h List.not_mem_nil) (fun _ h => absurd h List.not_mem_nil) (fun _ _ _ h => h) (by decide +kernel) (by decide +kernel)
-- SandFlags$Rota.placeFrom
def sm_59_135 : ab_Sm := ([tR 43, tN 0 5, tN 4 4, tN 25 25, tN 75 75, tF], th_63, [([], some (tN 0 1), [])], [])
def an_59_135 : List ab_An := []
theorem sok_59_135 {l : Launch} {D : va_G} {cs : Nat → ClassId} {tS : Nat} (hGl : ab_Gl l ZZ wFF D vwCl cs tS) : ab_SOK l ZZ 2 D vwCl cs tS 59 sm_59_135 := zf_fin1 (DS := 1) (dp := 0) (fuel := 200000) (q := []) (il := []) (anns := an_59_135) (pcs := [118]) (cand := fun _ _ => an_59_135) (sp := (fun _ => [])) hGl gok_59 (by decide) (fun _ h => absurd h List.not_mem_nil) (fun _ h => absurd h List.not_mem_nil) (fun _ _ _ h => h) (by decide +kernel) (by decide +kernel)
-- SandFlags$Rota.placeFrom
def sm_59_136 : ab_Sm := ([tR 43, tN 0 5, tN 4 4, tN 25 25, tN 5 5, tF], th_63, [([], some (tN 0 1), [])], [])
def an_59_136 : List ab_An := []
theorem sok_59_136 {l : Launch} {D : va_G} {cs : Nat → ClassId} {tS : Nat} (hGl : ab_Gl l ZZ wFF D vwCl cs tS) : ab_SOK l ZZ 2 D vwCl cs tS 59 sm_59_136 := zf_fin1 (DS := 1) (dp := 0) (fuel := 200000) (q := []) (il := []) (anns := an_59_136) (pcs := [118]) (cand := fun _ _ => an_59_136) (sp := (fun _ => [])) hGl gok_59 (by decide) (fun _ h => absurd h List.not_mem_nil) (fun _ h => absurd h List.not_mem_nil) (fun _ _ _ h => h) (by decide +kernel) (by decide +kernel)
-- SandFlags$Rota.placeFrom
def sm_59_137 : ab_Sm := ([tR 43, tN 0 5, tN 4 4, tN 25 25, tN 130 130, tF], th_63, [([], some (tN 0 1), [])], [])
def an_59_137 : List ab_An := []
theorem sok_59_137 {l : Launch} {D : va_G} {cs : Nat → ClassId} {tS : Nat} (hGl : ab_Gl l ZZ wFF D vwCl cs tS) : ab_SOK l ZZ 2 D vwCl cs tS 59 sm_59_137 := zf_fin1 (DS := 1) (dp := 0) (fuel := 200000) (q := []) (il := []) (anns := an_59_137) (pcs := [118]) (cand := fun _ _ => an_59_137) (sp := (fun _ => [])) hGl gok_59 (by decide) (fun _ h => absurd h List.not_mem_nil) (fun _ h => absurd h List.not_mem_nil) (fun _ _ _ h => h) (by decide +kernel) (by decide +kernel)
-- SandFlags$Rota.placeFrom
def sm_59_138 : ab_Sm := ([tR 43, tN 0 5, tN 4 4, tN 25 25, tN 255 255, tF], th_63, [([], some (tN 0 1), [])], [])
def an_59_138 : List ab_An := []
theorem sok_59_138 {l : Launch} {D : va_G} {cs : Nat → ClassId} {tS : Nat} (hGl : ab_Gl l ZZ wFF D vwCl cs tS) : ab_SOK l ZZ 2 D vwCl cs tS 59 sm_59_138 := zf_fin1 (DS := 1) (dp := 0) (fuel := 200000) (q := []) (il := []) (anns := an_59_138) (pcs := [118]) (cand := fun _ _ => an_59_138) (sp := (fun _ => [])) hGl gok_59 (by decide) (fun _ h => absurd h List.not_mem_nil) (fun _ h => absurd h List.not_mem_nil) (fun _ _ _ h => h) (by decide +kernel) (by decide +kernel)
-- SandFlags$Rota.placeFrom
def sm_59_139 : ab_Sm := ([tR 43, tN 0 5, tN 4 4, tN 25 25, tN 30 30, tF], th_63, [([], some (tN 0 1), [])], [])
def an_59_139 : List ab_An := []
theorem sok_59_139 {l : Launch} {D : va_G} {cs : Nat → ClassId} {tS : Nat} (hGl : ab_Gl l ZZ wFF D vwCl cs tS) : ab_SOK l ZZ 2 D vwCl cs tS 59 sm_59_139 := zf_fin1 (DS := 1) (dp := 0) (fuel := 200000) (q := []) (il := []) (anns := an_59_139) (pcs := [118]) (cand := fun _ _ => an_59_139) (sp := (fun _ => [])) hGl gok_59 (by decide) (fun _ h => absurd h List.not_mem_nil) (fun _ h => absurd h List.not_mem_nil) (fun _ _ _ h => h) (by decide +kernel) (by decide +kernel)
-- SandFlags$Rota.placeFrom
def sm_59_140 : ab_Sm := ([tR 43, tN 0 5, tN 4 4, tN 25 25, tN 155 155, tF], th_63, [([], some (tN 0 1), [])], [])
def an_59_140 : List ab_An := []
theorem sok_59_140 {l : Launch} {D : va_G} {cs : Nat → ClassId} {tS : Nat} (hGl : ab_Gl l ZZ wFF D vwCl cs tS) : ab_SOK l ZZ 2 D vwCl cs tS 59 sm_59_140 := zf_fin1 (DS := 1) (dp := 0) (fuel := 200000) (q := []) (il := []) (anns := an_59_140) (pcs := [118]) (cand := fun _ _ => an_59_140) (sp := (fun _ => [])) hGl gok_59 (by decide) (fun _ h => absurd h List.not_mem_nil) (fun _ h => absurd h List.not_mem_nil) (fun _ _ _ h => h) (by decide +kernel) (by decide +kernel)
-- SandFlags$Rota.placeFrom
def sm_59_141 : ab_Sm := ([tR 43, tN 0 5, tN 4 4, tN 25 25, tN 55 55, tF], th_63, [([], some (tN 0 1), [])], [])
def an_59_141 : List ab_An := []
theorem sok_59_141 {l : Launch} {D : va_G} {cs : Nat → ClassId} {tS : Nat} (hGl : ab_Gl l ZZ wFF D vwCl cs tS) : ab_SOK l ZZ 2 D vwCl cs tS 59 sm_59_141 := zf_fin1 (DS := 1) (dp := 0) (fuel := 200000) (q := []) (il := []) (anns := an_59_141) (pcs := [118]) (cand := fun _ _ => an_59_141) (sp := (fun _ => [])) hGl gok_59 (by decide) (fun _ h => absurd h List.not_mem_nil) (fun _ h => absurd h List.not_mem_nil) (fun _ _ _ h => h) (by decide +kernel) (by decide +kernel)
-- SandFlags$Rota.placeFrom
def sm_59_142 : ab_Sm := ([tR 43, tN 0 5, tN 4 4, tN 25 25, tN 10 10, tF], th_63, [([], some (tN 0 1), [])], [])
def an_59_142 : List ab_An := []
theorem sok_59_142 {l : Launch} {D : va_G} {cs : Nat → ClassId} {tS : Nat} (hGl : ab_Gl l ZZ wFF D vwCl cs tS) : ab_SOK l ZZ 2 D vwCl cs tS 59 sm_59_142 := zf_fin1 (DS := 1) (dp := 0) (fuel := 200000) (q := []) (il := []) (anns := an_59_142) (pcs := [118]) (cand := fun _ _ => an_59_142) (sp := (fun _ => [])) hGl gok_59 (by decide) (fun _ h => absurd h List.not_mem_nil) (fun _ h => absurd h List.not_mem_nil) (fun _ _ _ h => h) (by decide +kernel) (by decide +kernel)
-- SandFlags$Rota.placeFrom
def sm_59_143 : ab_Sm := ([tR 43, tN 0 5, tN 4 4, tN 25 25, tN 135 135, tF], th_63, [([], some (tN 0 1), [])], [])
def an_59_143 : List ab_An := []
theorem sok_59_143 {l : Launch} {D : va_G} {cs : Nat → ClassId} {tS : Nat} (hGl : ab_Gl l ZZ wFF D vwCl cs tS) : ab_SOK l ZZ 2 D vwCl cs tS 59 sm_59_143 := zf_fin1 (DS := 1) (dp := 0) (fuel := 200000) (q := []) (il := []) (anns := an_59_143) (pcs := [118]) (cand := fun _ _ => an_59_143) (sp := (fun _ => [])) hGl gok_59 (by decide) (fun _ h => absurd h List.not_mem_nil) (fun _ h => absurd h List.not_mem_nil) (fun _ _ _ h => h) (by decide +kernel) (by decide +kernel)
-- SandFlags$Rota.placeFrom
def sm_59_144 : ab_Sm := ([tR 43, tN 0 5, tN 4 4, tN 25 25, tN 35 35, tF], th_63, [([], some (tN 0 1), [])], [])
def an_59_144 : List ab_An := []
theorem sok_59_144 {l : Launch} {D : va_G} {cs : Nat → ClassId} {tS : Nat} (hGl : ab_Gl l ZZ wFF D vwCl cs tS) : ab_SOK l ZZ 2 D vwCl cs tS 59 sm_59_144 := zf_fin1 (DS := 1) (dp := 0) (fuel := 200000) (q := []) (il := []) (anns := an_59_144) (pcs := [118]) (cand := fun _ _ => an_59_144) (sp := (fun _ => [])) hGl gok_59 (by decide) (fun _ h => absurd h List.not_mem_nil) (fun _ h => absurd h List.not_mem_nil) (fun _ _ _ h => h) (by decide +kernel) (by decide +kernel)
-- SandFlags$Rota.placeFrom
def sm_59_145 : ab_Sm := ([tR 43, tN 0 5, tN 4 4, tN 25 25, tN 15 15, tF], th_63, [([], some (tN 0 1), [])], [])
def an_59_145 : List ab_An := []
theorem sok_59_145 {l : Launch} {D : va_G} {cs : Nat → ClassId} {tS : Nat} (hGl : ab_Gl l ZZ wFF D vwCl cs tS) : ab_SOK l ZZ 2 D vwCl cs tS 59 sm_59_145 := zf_fin1 (DS := 1) (dp := 0) (fuel := 200000) (q := []) (il := []) (anns := an_59_145) (pcs := [118]) (cand := fun _ _ => an_59_145) (sp := (fun _ => [])) hGl gok_59 (by decide) (fun _ h => absurd h List.not_mem_nil) (fun _ h => absurd h List.not_mem_nil) (fun _ _ _ h => h) (by decide +kernel) (by decide +kernel)
-- SandFlags$Rota.placeFrom
def sm_59_146 : ab_Sm := ([tR 43, tN 0 5, tN 4 4, tN 25 25, tN 1 1, tF], th_63, [([], some (tN 0 1), [])], [])
def an_59_146 : List ab_An := []
theorem sok_59_146 {l : Launch} {D : va_G} {cs : Nat → ClassId} {tS : Nat} (hGl : ab_Gl l ZZ wFF D vwCl cs tS) : ab_SOK l ZZ 2 D vwCl cs tS 59 sm_59_146 := zf_fin1 (DS := 1) (dp := 0) (fuel := 200000) (q := []) (il := []) (anns := an_59_146) (pcs := [118]) (cand := fun _ _ => an_59_146) (sp := (fun _ => [])) hGl gok_59 (by decide) (fun _ h => absurd h List.not_mem_nil) (fun _ h => absurd h List.not_mem_nil) (fun _ _ _ h => h) (by decide +kernel) (by decide +kernel)
-- SandFlags$Rota.placeFrom
def sm_59_147 : ab_Sm := ([tR 43, tN 0 5, tN 4 4, tN 25 25, tN 126 126, tF], th_63, [([], some (tN 0 1), [])], [])
def an_59_147 : List ab_An := []
theorem sok_59_147 {l : Launch} {D : va_G} {cs : Nat → ClassId} {tS : Nat} (hGl : ab_Gl l ZZ wFF D vwCl cs tS) : ab_SOK l ZZ 2 D vwCl cs tS 59 sm_59_147 := zf_fin1 (DS := 1) (dp := 0) (fuel := 200000) (q := []) (il := []) (anns := an_59_147) (pcs := [118]) (cand := fun _ _ => an_59_147) (sp := (fun _ => [])) hGl gok_59 (by decide) (fun _ h => absurd h List.not_mem_nil) (fun _ h => absurd h List.not_mem_nil) (fun _ _ _ h => h) (by decide +kernel) (by decide +kernel)
-- SandFlags$Rota.placeFrom
def sm_59_148 : ab_Sm := ([tR 43, tN 0 5, tN 4 4, tN 25 25, tN 251 251, tF], th_63, [([], some (tN 0 1), [])], [])
def an_59_148 : List ab_An := []
theorem sok_59_148 {l : Launch} {D : va_G} {cs : Nat → ClassId} {tS : Nat} (hGl : ab_Gl l ZZ wFF D vwCl cs tS) : ab_SOK l ZZ 2 D vwCl cs tS 59 sm_59_148 := zf_fin1 (DS := 1) (dp := 0) (fuel := 200000) (q := []) (il := []) (anns := an_59_148) (pcs := [118]) (cand := fun _ _ => an_59_148) (sp := (fun _ => [])) hGl gok_59 (by decide) (fun _ h => absurd h List.not_mem_nil) (fun _ h => absurd h List.not_mem_nil) (fun _ _ _ h => h) (by decide +kernel) (by decide +kernel)
-- SandFlags$Rota.placeFrom
def sm_59_149 : ab_Sm := ([tR 43, tN 0 5, tN 4 4, tN 25 25, tN 26 26, tF], th_63, [([], some (tN 0 1), [])], [])
def an_59_149 : List ab_An := []
theorem sok_59_149 {l : Launch} {D : va_G} {cs : Nat → ClassId} {tS : Nat} (hGl : ab_Gl l ZZ wFF D vwCl cs tS) : ab_SOK l ZZ 2 D vwCl cs tS 59 sm_59_149 := zf_fin1 (DS := 1) (dp := 0) (fuel := 200000) (q := []) (il := []) (anns := an_59_149) (pcs := [118]) (cand := fun _ _ => an_59_149) (sp := (fun _ => [])) hGl gok_59 (by decide) (fun _ h => absurd h List.not_mem_nil) (fun _ h => absurd h List.not_mem_nil) (fun _ _ _ h => h) (by decide +kernel) (by decide +kernel)
-- SandFlags$Rota.placeFrom
def sm_59_150 : ab_Sm := ([tR 43, tN 0 5, tN 4 4, tN 25 25, tN 151 151, tF], th_63, [([], some (tN 0 1), [])], [])
def an_59_150 : List ab_An := []
theorem sok_59_150 {l : Launch} {D : va_G} {cs : Nat → ClassId} {tS : Nat} (hGl : ab_Gl l ZZ wFF D vwCl cs tS) : ab_SOK l ZZ 2 D vwCl cs tS 59 sm_59_150 := zf_fin1 (DS := 1) (dp := 0) (fuel := 200000) (q := []) (il := []) (anns := an_59_150) (pcs := [118]) (cand := fun _ _ => an_59_150) (sp := (fun _ => [])) hGl gok_59 (by decide) (fun _ h => absurd h List.not_mem_nil) (fun _ h => absurd h List.not_mem_nil) (fun _ _ _ h => h) (by decide +kernel) (by decide +kernel)
-- SandFlags$Rota.placeFrom
def sm_59_151 : ab_Sm := ([tR 43, tN 0 5, tN 4 4, tN 25 25, tN 51 51, tF], th_63, [([], some (tN 0 1), [])], [])
def an_59_151 : List ab_An := []
theorem sok_59_151 {l : Launch} {D : va_G} {cs : Nat → ClassId} {tS : Nat} (hGl : ab_Gl l ZZ wFF D vwCl cs tS) : ab_SOK l ZZ 2 D vwCl cs tS 59 sm_59_151 := zf_fin1 (DS := 1) (dp := 0) (fuel := 200000) (q := []) (il := []) (anns := an_59_151) (pcs := [118]) (cand := fun _ _ => an_59_151) (sp := (fun _ => [])) hGl gok_59 (by decide) (fun _ h => absurd h List.not_mem_nil) (fun _ h => absurd h List.not_mem_nil) (fun _ _ _ h => h) (by decide +kernel) (by decide +kernel)
-- SandFlags$Rota.placeFrom
def sm_59_152 : ab_Sm := ([tR 43, tN 0 5, tN 4 4, tN 25 25, tN 6 6, tF], th_63, [([], some (tN 0 1), [])], [])
def an_59_152 : List ab_An := []
theorem sok_59_152 {l : Launch} {D : va_G} {cs : Nat → ClassId} {tS : Nat} (hGl : ab_Gl l ZZ wFF D vwCl cs tS) : ab_SOK l ZZ 2 D vwCl cs tS 59 sm_59_152 := zf_fin1 (DS := 1) (dp := 0) (fuel := 200000) (q := []) (il := []) (anns := an_59_152) (pcs := [118]) (cand := fun _ _ => an_59_152) (sp := (fun _ => [])) hGl gok_59 (by decide) (fun _ h => absurd h List.not_mem_nil) (fun _ h => absurd h List.not_mem_nil) (fun _ _ _ h => h) (by decide +kernel) (by decide +kernel)
-- SandFlags$Rota.placeFrom
def sm_59_153 : ab_Sm := ([tR 43, tN 0 5, tN 4 4, tN 25 25, tN 131 131, tF], th_63, [([], some (tN 0 1), [])], [])
def an_59_153 : List ab_An := []
theorem sok_59_153 {l : Launch} {D : va_G} {cs : Nat → ClassId} {tS : Nat} (hGl : ab_Gl l ZZ wFF D vwCl cs tS) : ab_SOK l ZZ 2 D vwCl cs tS 59 sm_59_153 := zf_fin1 (DS := 1) (dp := 0) (fuel := 200000) (q := []) (il := []) (anns := an_59_153) (pcs := [118]) (cand := fun _ _ => an_59_153) (sp := (fun _ => [])) hGl gok_59 (by decide) (fun _ h => absurd h List.not_mem_nil) (fun _ h => absurd h List.not_mem_nil) (fun _ _ _ h => h) (by decide +kernel) (by decide +kernel)
-- SandFlags$Rota.placeFrom
def sm_59_154 : ab_Sm := ([tR 43, tN 0 5, tN 4 4, tN 25 25, tN 31 31, tF], th_63, [([], some (tN 0 1), [])], [])
def an_59_154 : List ab_An := []
theorem sok_59_154 {l : Launch} {D : va_G} {cs : Nat → ClassId} {tS : Nat} (hGl : ab_Gl l ZZ wFF D vwCl cs tS) : ab_SOK l ZZ 2 D vwCl cs tS 59 sm_59_154 := zf_fin1 (DS := 1) (dp := 0) (fuel := 200000) (q := []) (il := []) (anns := an_59_154) (pcs := [118]) (cand := fun _ _ => an_59_154) (sp := (fun _ => [])) hGl gok_59 (by decide) (fun _ h => absurd h List.not_mem_nil) (fun _ h => absurd h List.not_mem_nil) (fun _ _ _ h => h) (by decide +kernel) (by decide +kernel)
-- SandFlags$Rota.placeFrom
def sm_59_155 : ab_Sm := ([tR 43, tN 0 5, tN 4 4, tN 25 25, tN 11 11, tF], th_63, [([], some (tN 0 1), [])], [])
def an_59_155 : List ab_An := []
theorem sok_59_155 {l : Launch} {D : va_G} {cs : Nat → ClassId} {tS : Nat} (hGl : ab_Gl l ZZ wFF D vwCl cs tS) : ab_SOK l ZZ 2 D vwCl cs tS 59 sm_59_155 := zf_fin1 (DS := 1) (dp := 0) (fuel := 200000) (q := []) (il := []) (anns := an_59_155) (pcs := [118]) (cand := fun _ _ => an_59_155) (sp := (fun _ => [])) hGl gok_59 (by decide) (fun _ h => absurd h List.not_mem_nil) (fun _ h => absurd h List.not_mem_nil) (fun _ _ _ h => h) (by decide +kernel) (by decide +kernel)
-- SandFlags$Rota.placeFrom
def sm_59_156 : ab_Sm := ([tR 43, tN 0 5, tN 4 4, tN 25 25, tN 2 2, tF], th_63, [([], some (tN 0 1), [])], [])
def an_59_156 : List ab_An := []
theorem sok_59_156 {l : Launch} {D : va_G} {cs : Nat → ClassId} {tS : Nat} (hGl : ab_Gl l ZZ wFF D vwCl cs tS) : ab_SOK l ZZ 2 D vwCl cs tS 59 sm_59_156 := zf_fin1 (DS := 1) (dp := 0) (fuel := 200000) (q := []) (il := []) (anns := an_59_156) (pcs := [118]) (cand := fun _ _ => an_59_156) (sp := (fun _ => [])) hGl gok_59 (by decide) (fun _ h => absurd h List.not_mem_nil) (fun _ h => absurd h List.not_mem_nil) (fun _ _ _ h => h) (by decide +kernel) (by decide +kernel)
-- SandFlags$Rota.placeFrom
def sm_59_157 : ab_Sm := ([tR 43, tN 0 5, tN 4 4, tN 25 25, tN 127 127, tF], th_63, [([], some (tN 0 1), [])], [])
def an_59_157 : List ab_An := []
theorem sok_59_157 {l : Launch} {D : va_G} {cs : Nat → ClassId} {tS : Nat} (hGl : ab_Gl l ZZ wFF D vwCl cs tS) : ab_SOK l ZZ 2 D vwCl cs tS 59 sm_59_157 := zf_fin1 (DS := 1) (dp := 0) (fuel := 200000) (q := []) (il := []) (anns := an_59_157) (pcs := [118]) (cand := fun _ _ => an_59_157) (sp := (fun _ => [])) hGl gok_59 (by decide) (fun _ h => absurd h List.not_mem_nil) (fun _ h => absurd h List.not_mem_nil) (fun _ _ _ h => h) (by decide +kernel) (by decide +kernel)
-- SandFlags$Rota.placeFrom
def sm_59_158 : ab_Sm := ([tR 43, tN 0 5, tN 4 4, tN 25 25, tN 27 27, tF], th_63, [([], some (tN 0 1), [])], [])
def an_59_158 : List ab_An := []
theorem sok_59_158 {l : Launch} {D : va_G} {cs : Nat → ClassId} {tS : Nat} (hGl : ab_Gl l ZZ wFF D vwCl cs tS) : ab_SOK l ZZ 2 D vwCl cs tS 59 sm_59_158 := zf_fin1 (DS := 1) (dp := 0) (fuel := 200000) (q := []) (il := []) (anns := an_59_158) (pcs := [118]) (cand := fun _ _ => an_59_158) (sp := (fun _ => [])) hGl gok_59 (by decide) (fun _ h => absurd h List.not_mem_nil) (fun _ h => absurd h List.not_mem_nil) (fun _ _ _ h => h) (by decide +kernel) (by decide +kernel)
-- SandFlags$Rota.placeFrom
def sm_59_159 : ab_Sm := ([tR 43, tN 0 5, tN 4 4, tN 25 25, tN 7 7, tF], th_63, [([], some (tN 0 1), [])], [])
def an_59_159 : List ab_An := []
theorem sok_59_159 {l : Launch} {D : va_G} {cs : Nat → ClassId} {tS : Nat} (hGl : ab_Gl l ZZ wFF D vwCl cs tS) : ab_SOK l ZZ 2 D vwCl cs tS 59 sm_59_159 := zf_fin1 (DS := 1) (dp := 0) (fuel := 200000) (q := []) (il := []) (anns := an_59_159) (pcs := [118]) (cand := fun _ _ => an_59_159) (sp := (fun _ => [])) hGl gok_59 (by decide) (fun _ h => absurd h List.not_mem_nil) (fun _ h => absurd h List.not_mem_nil) (fun _ _ _ h => h) (by decide +kernel) (by decide +kernel)
-- SandFlags$Rota.placeFrom
def sm_59_160 : ab_Sm := ([tR 43, tN 0 5, tN 4 4, tN 25 25, tN 3 3, tF], th_63, [([], some (tN 0 1), [])], [])
def an_59_160 : List ab_An := []
theorem sok_59_160 {l : Launch} {D : va_G} {cs : Nat → ClassId} {tS : Nat} (hGl : ab_Gl l ZZ wFF D vwCl cs tS) : ab_SOK l ZZ 2 D vwCl cs tS 59 sm_59_160 := zf_fin1 (DS := 1) (dp := 0) (fuel := 200000) (q := []) (il := []) (anns := an_59_160) (pcs := [118]) (cand := fun _ _ => an_59_160) (sp := (fun _ => [])) hGl gok_59 (by decide) (fun _ h => absurd h List.not_mem_nil) (fun _ h => absurd h List.not_mem_nil) (fun _ _ _ h => h) (by decide +kernel) (by decide +kernel)
-- SandFlags$Rota.placeFrom
def sm_59_161 : ab_Sm := ([tR 43, tN 0 5, tN 4 4, tN 150 150, tN 0 0, tF], th_63, [([], some (tN 0 1), [])], [])
def an_59_161 : List ab_An := []
theorem sok_59_161 {l : Launch} {D : va_G} {cs : Nat → ClassId} {tS : Nat} (hGl : ab_Gl l ZZ wFF D vwCl cs tS) : ab_SOK l ZZ 2 D vwCl cs tS 59 sm_59_161 := zf_fin1 (DS := 1) (dp := 0) (fuel := 200000) (q := []) (il := []) (anns := an_59_161) (pcs := [118]) (cand := fun _ _ => an_59_161) (sp := (fun _ => [])) hGl gok_59 (by decide) (fun _ h => absurd h List.not_mem_nil) (fun _ h => absurd h List.not_mem_nil) (fun _ _ _ h => h) (by decide +kernel) (by decide +kernel)
-- SandFlags$Rota.placeFrom
def sm_59_162 : ab_Sm := ([tR 43, tN 0 5, tN 4 4, tN 150 150, tN 125 125, tF], th_63, [([], some (tN 0 1), [])], [])
def an_59_162 : List ab_An := []
theorem sok_59_162 {l : Launch} {D : va_G} {cs : Nat → ClassId} {tS : Nat} (hGl : ab_Gl l ZZ wFF D vwCl cs tS) : ab_SOK l ZZ 2 D vwCl cs tS 59 sm_59_162 := zf_fin1 (DS := 1) (dp := 0) (fuel := 200000) (q := []) (il := []) (anns := an_59_162) (pcs := [118]) (cand := fun _ _ => an_59_162) (sp := (fun _ => [])) hGl gok_59 (by decide) (fun _ h => absurd h List.not_mem_nil) (fun _ h => absurd h List.not_mem_nil) (fun _ _ _ h => h) (by decide +kernel) (by decide +kernel)
-- SandFlags$Rota.placeFrom
def sm_59_163 : ab_Sm := ([tR 43, tN 0 5, tN 4 4, tN 150 150, tN 250 250, tF], th_63, [([], some (tN 0 1), [])], [])
def an_59_163 : List ab_An := []
theorem sok_59_163 {l : Launch} {D : va_G} {cs : Nat → ClassId} {tS : Nat} (hGl : ab_Gl l ZZ wFF D vwCl cs tS) : ab_SOK l ZZ 2 D vwCl cs tS 59 sm_59_163 := zf_fin1 (DS := 1) (dp := 0) (fuel := 200000) (q := []) (il := []) (anns := an_59_163) (pcs := [118]) (cand := fun _ _ => an_59_163) (sp := (fun _ => [])) hGl gok_59 (by decide) (fun _ h => absurd h List.not_mem_nil) (fun _ h => absurd h List.not_mem_nil) (fun _ _ _ h => h) (by decide +kernel) (by decide +kernel)
-- SandFlags$Rota.placeFrom
def sm_59_164 : ab_Sm := ([tR 43, tN 0 5, tN 4 4, tN 150 150, tN 25 25, tF], th_63, [([], some (tN 0 1), [])], [])
def an_59_164 : List ab_An := []
theorem sok_59_164 {l : Launch} {D : va_G} {cs : Nat → ClassId} {tS : Nat} (hGl : ab_Gl l ZZ wFF D vwCl cs tS) : ab_SOK l ZZ 2 D vwCl cs tS 59 sm_59_164 := zf_fin1 (DS := 1) (dp := 0) (fuel := 200000) (q := []) (il := []) (anns := an_59_164) (pcs := [118]) (cand := fun _ _ => an_59_164) (sp := (fun _ => [])) hGl gok_59 (by decide) (fun _ h => absurd h List.not_mem_nil) (fun _ h => absurd h List.not_mem_nil) (fun _ _ _ h => h) (by decide +kernel) (by decide +kernel)
-- SandFlags$Rota.placeFrom
def sm_59_165 : ab_Sm := ([tR 43, tN 0 5, tN 4 4, tN 150 150, tN 150 150, tF], th_63, [([], some (tN 0 1), [])], [])
def an_59_165 : List ab_An := []
theorem sok_59_165 {l : Launch} {D : va_G} {cs : Nat → ClassId} {tS : Nat} (hGl : ab_Gl l ZZ wFF D vwCl cs tS) : ab_SOK l ZZ 2 D vwCl cs tS 59 sm_59_165 := zf_fin1 (DS := 1) (dp := 0) (fuel := 200000) (q := []) (il := []) (anns := an_59_165) (pcs := [118]) (cand := fun _ _ => an_59_165) (sp := (fun _ => [])) hGl gok_59 (by decide) (fun _ h => absurd h List.not_mem_nil) (fun _ h => absurd h List.not_mem_nil) (fun _ _ _ h => h) (by decide +kernel) (by decide +kernel)
-- SandFlags$Rota.placeFrom
def sm_59_166 : ab_Sm := ([tR 43, tN 0 5, tN 4 4, tN 150 150, tN 50 50, tF], th_63, [([], some (tN 0 1), [])], [])
def an_59_166 : List ab_An := []
theorem sok_59_166 {l : Launch} {D : va_G} {cs : Nat → ClassId} {tS : Nat} (hGl : ab_Gl l ZZ wFF D vwCl cs tS) : ab_SOK l ZZ 2 D vwCl cs tS 59 sm_59_166 := zf_fin1 (DS := 1) (dp := 0) (fuel := 200000) (q := []) (il := []) (anns := an_59_166) (pcs := [118]) (cand := fun _ _ => an_59_166) (sp := (fun _ => [])) hGl gok_59 (by decide) (fun _ h => absurd h List.not_mem_nil) (fun _ h => absurd h List.not_mem_nil) (fun _ _ _ h => h) (by decide +kernel) (by decide +kernel)
-- SandFlags$Rota.placeFrom
def sm_59_167 : ab_Sm := ([tR 43, tN 0 5, tN 4 4, tN 150 150, tN 5 5, tF], th_63, [([], some (tN 0 1), [])], [])
def an_59_167 : List ab_An := []
theorem sok_59_167 {l : Launch} {D : va_G} {cs : Nat → ClassId} {tS : Nat} (hGl : ab_Gl l ZZ wFF D vwCl cs tS) : ab_SOK l ZZ 2 D vwCl cs tS 59 sm_59_167 := zf_fin1 (DS := 1) (dp := 0) (fuel := 200000) (q := []) (il := []) (anns := an_59_167) (pcs := [118]) (cand := fun _ _ => an_59_167) (sp := (fun _ => [])) hGl gok_59 (by decide) (fun _ h => absurd h List.not_mem_nil) (fun _ h => absurd h List.not_mem_nil) (fun _ _ _ h => h) (by decide +kernel) (by decide +kernel)
-- SandFlags$Rota.placeFrom
def sm_59_168 : ab_Sm := ([tR 43, tN 0 5, tN 4 4, tN 150 150, tN 130 130, tF], th_63, [([], some (tN 0 1), [])], [])
def an_59_168 : List ab_An := []
theorem sok_59_168 {l : Launch} {D : va_G} {cs : Nat → ClassId} {tS : Nat} (hGl : ab_Gl l ZZ wFF D vwCl cs tS) : ab_SOK l ZZ 2 D vwCl cs tS 59 sm_59_168 := zf_fin1 (DS := 1) (dp := 0) (fuel := 200000) (q := []) (il := []) (anns := an_59_168) (pcs := [118]) (cand := fun _ _ => an_59_168) (sp := (fun _ => [])) hGl gok_59 (by decide) (fun _ h => absurd h List.not_mem_nil) (fun _ h => absurd h List.not_mem_nil) (fun _ _ _ h => h) (by decide +kernel) (by decide +kernel)
-- SandFlags$Rota.placeFrom
def sm_59_169 : ab_Sm := ([tR 43, tN 0 5, tN 4 4, tN 150 150, tN 30 30, tF], th_63, [([], some (tN 0 1), [])], [])
def an_59_169 : List ab_An := []
theorem sok_59_169 {l : Launch} {D : va_G} {cs : Nat → ClassId} {tS : Nat} (hGl : ab_Gl l ZZ wFF D vwCl cs tS) : ab_SOK l ZZ 2 D vwCl cs tS 59 sm_59_169 := zf_fin1 (DS := 1) (dp := 0) (fuel := 200000) (q := []) (il := []) (anns := an_59_169) (pcs := [118]) (cand := fun _ _ => an_59_169) (sp := (fun _ => [])) hGl gok_59 (by decide) (fun _ h => absurd h List.not_mem_nil) (fun _ h => absurd h List.not_mem_nil) (fun _ _ _ h => h) (by decide +kernel) (by decide +kernel)
-- SandFlags$Rota.placeFrom
def sm_59_170 : ab_Sm := ([tR 43, tN 0 5, tN 4 4, tN 150 150, tN 10 10, tF], th_63, [([], some (tN 0 1), [])], [])
def an_59_170 : List ab_An := []
theorem sok_59_170 {l : Launch} {D : va_G} {cs : Nat → ClassId} {tS : Nat} (hGl : ab_Gl l ZZ wFF D vwCl cs tS) : ab_SOK l ZZ 2 D vwCl cs tS 59 sm_59_170 := zf_fin1 (DS := 1) (dp := 0) (fuel := 200000) (q := []) (il := []) (anns := an_59_170) (pcs := [118]) (cand := fun _ _ => an_59_170) (sp := (fun _ => [])) hGl gok_59 (by decide) (fun _ h => absurd h List.not_mem_nil) (fun _ h => absurd h List.not_mem_nil) (fun _ _ _ h => h) (by decide +kernel) (by decide +kernel)
-- SandFlags$Rota.placeFrom
def sm_59_171 : ab_Sm := ([tR 43, tN 0 5, tN 4 4, tN 150 150, tN 1 1, tF], th_63, [([], some (tN 0 1), [])], [])
def an_59_171 : List ab_An := []
theorem sok_59_171 {l : Launch} {D : va_G} {cs : Nat → ClassId} {tS : Nat} (hGl : ab_Gl l ZZ wFF D vwCl cs tS) : ab_SOK l ZZ 2 D vwCl cs tS 59 sm_59_171 := zf_fin1 (DS := 1) (dp := 0) (fuel := 200000) (q := []) (il := []) (anns := an_59_171) (pcs := [118]) (cand := fun _ _ => an_59_171) (sp := (fun _ => [])) hGl gok_59 (by decide) (fun _ h => absurd h List.not_mem_nil) (fun _ h => absurd h List.not_mem_nil) (fun _ _ _ h => h) (by decide +kernel) (by decide +kernel)
-- SandFlags$Rota.placeFrom
def sm_59_172 : ab_Sm := ([tR 43, tN 0 5, tN 4 4, tN 150 150, tN 126 126, tF], th_63, [([], some (tN 0 1), [])], [])
def an_59_172 : List ab_An := []
theorem sok_59_172 {l : Launch} {D : va_G} {cs : Nat → ClassId} {tS : Nat} (hGl : ab_Gl l ZZ wFF D vwCl cs tS) : ab_SOK l ZZ 2 D vwCl cs tS 59 sm_59_172 := zf_fin1 (DS := 1) (dp := 0) (fuel := 200000) (q := []) (il := []) (anns := an_59_172) (pcs := [118]) (cand := fun _ _ => an_59_172) (sp := (fun _ => [])) hGl gok_59 (by decide) (fun _ h => absurd h List.not_mem_nil) (fun _ h => absurd h List.not_mem_nil) (fun _ _ _ h => h) (by decide +kernel) (by decide +kernel)
-- SandFlags$Rota.placeFrom
def sm_59_173 : ab_Sm := ([tR 43, tN 0 5, tN 4 4, tN 150 150, tN 26 26, tF], th_63, [([], some (tN 0 1), [])], [])
def an_59_173 : List ab_An := []
theorem sok_59_173 {l : Launch} {D : va_G} {cs : Nat → ClassId} {tS : Nat} (hGl : ab_Gl l ZZ wFF D vwCl cs tS) : ab_SOK l ZZ 2 D vwCl cs tS 59 sm_59_173 := zf_fin1 (DS := 1) (dp := 0) (fuel := 200000) (q := []) (il := []) (anns := an_59_173) (pcs := [118]) (cand := fun _ _ => an_59_173) (sp := (fun _ => [])) hGl gok_59 (by decide) (fun _ h => absurd h List.not_mem_nil) (fun _ h => absurd h List.not_mem_nil) (fun _ _ _ h => h) (by decide +kernel) (by decide +kernel)
-- SandFlags$Rota.placeFrom
def sm_59_174 : ab_Sm := ([tR 43, tN 0 5, tN 4 4, tN 150 150, tN 6 6, tF], th_63, [([], some (tN 0 1), [])], [])
def an_59_174 : List ab_An := []
theorem sok_59_174 {l : Launch} {D : va_G} {cs : Nat → ClassId} {tS : Nat} (hGl : ab_Gl l ZZ wFF D vwCl cs tS) : ab_SOK l ZZ 2 D vwCl cs tS 59 sm_59_174 := zf_fin1 (DS := 1) (dp := 0) (fuel := 200000) (q := []) (il := []) (anns := an_59_174) (pcs := [118]) (cand := fun _ _ => an_59_174) (sp := (fun _ => [])) hGl gok_59 (by decide) (fun _ h => absurd h List.not_mem_nil) (fun _ h => absurd h List.not_mem_nil) (fun _ _ _ h => h) (by decide +kernel) (by decide +kernel)
-- SandFlags$Rota.placeFrom
def sm_59_175 : ab_Sm := ([tR 43, tN 0 5, tN 4 4, tN 150 150, tN 2 2, tF], th_63, [([], some (tN 0 1), [])], [])
def an_59_175 : List ab_An := []
theorem sok_59_175 {l : Launch} {D : va_G} {cs : Nat → ClassId} {tS : Nat} (hGl : ab_Gl l ZZ wFF D vwCl cs tS) : ab_SOK l ZZ 2 D vwCl cs tS 59 sm_59_175 := zf_fin1 (DS := 1) (dp := 0) (fuel := 200000) (q := []) (il := []) (anns := an_59_175) (pcs := [118]) (cand := fun _ _ => an_59_175) (sp := (fun _ => [])) hGl gok_59 (by decide) (fun _ h => absurd h List.not_mem_nil) (fun _ h => absurd h List.not_mem_nil) (fun _ _ _ h => h) (by decide +kernel) (by decide +kernel)
-- SandFlags$Rota.placeFrom
def sm_59_176 : ab_Sm := ([tR 43, tN 0 5, tN 4 4, tN 275 275, tN 0 0, tF], th_63, [([], some (tN 0 1), [])], [])
def an_59_176 : List ab_An := []
theorem sok_59_176 {l : Launch} {D : va_G} {cs : Nat → ClassId} {tS : Nat} (hGl : ab_Gl l ZZ wFF D vwCl cs tS) : ab_SOK l ZZ 2 D vwCl cs tS 59 sm_59_176 := zf_fin1 (DS := 1) (dp := 0) (fuel := 200000) (q := []) (il := []) (anns := an_59_176) (pcs := [118]) (cand := fun _ _ => an_59_176) (sp := (fun _ => [])) hGl gok_59 (by decide) (fun _ h => absurd h List.not_mem_nil) (fun _ h => absurd h List.not_mem_nil) (fun _ _ _ h => h) (by decide +kernel) (by decide +kernel)
-- SandFlags$Rota.placeFrom
def sm_59_177 : ab_Sm := ([tR 43, tN 0 5, tN 4 4, tN 275 275, tN 125 125, tF], th_63, [([], some (tN 0 1), [])], [])
def an_59_177 : List ab_An := []
theorem sok_59_177 {l : Launch} {D : va_G} {cs : Nat → ClassId} {tS : Nat} (hGl : ab_Gl l ZZ wFF D vwCl cs tS) : ab_SOK l ZZ 2 D vwCl cs tS 59 sm_59_177 := zf_fin1 (DS := 1) (dp := 0) (fuel := 200000) (q := []) (il := []) (anns := an_59_177) (pcs := [118]) (cand := fun _ _ => an_59_177) (sp := (fun _ => [])) hGl gok_59 (by decide) (fun _ h => absurd h List.not_mem_nil) (fun _ h => absurd h List.not_mem_nil) (fun _ _ _ h => h) (by decide +kernel) (by decide +kernel)
-- SandFlags$Rota.placeFrom
def sm_59_178 : ab_Sm := ([tR 43, tN 0 5, tN 4 4, tN 275 275, tN 25 25, tF], th_63, [([], some (tN 0 1), [])], [])
def an_59_178 : List ab_An := []
theorem sok_59_178 {l : Launch} {D : va_G} {cs : Nat → ClassId} {tS : Nat} (hGl : ab_Gl l ZZ wFF D vwCl cs tS) : ab_SOK l ZZ 2 D vwCl cs tS 59 sm_59_178 := zf_fin1 (DS := 1) (dp := 0) (fuel := 200000) (q := []) (il := []) (anns := an_59_178) (pcs := [118]) (cand := fun _ _ => an_59_178) (sp := (fun _ => [])) hGl gok_59 (by decide) (fun _ h => absurd h List.not_mem_nil) (fun _ h => absurd h List.not_mem_nil) (fun _ _ _ h => h) (by decide +kernel) (by decide +kernel)
-- SandFlags$Rota.placeFrom
def sm_59_179 : ab_Sm := ([tR 43, tN 0 5, tN 4 4, tN 275 275, tN 5 5, tF], th_63, [([], some (tN 0 1), [])], [])
def an_59_179 : List ab_An := []
theorem sok_59_179 {l : Launch} {D : va_G} {cs : Nat → ClassId} {tS : Nat} (hGl : ab_Gl l ZZ wFF D vwCl cs tS) : ab_SOK l ZZ 2 D vwCl cs tS 59 sm_59_179 := zf_fin1 (DS := 1) (dp := 0) (fuel := 200000) (q := []) (il := []) (anns := an_59_179) (pcs := [118]) (cand := fun _ _ => an_59_179) (sp := (fun _ => [])) hGl gok_59 (by decide) (fun _ h => absurd h List.not_mem_nil) (fun _ h => absurd h List.not_mem_nil) (fun _ _ _ h => h) (by decide +kernel) (by decide +kernel)
-- SandFlags$Rota.placeFrom
def sm_59_180 : ab_Sm := ([tR 43, tN 0 5, tN 4 4, tN 275 275, tN 1 1, tF], th_63, [([], some (tN 0 1), [])], [])
def an_59_180 : List ab_An := []
theorem sok_59_180 {l : Launch} {D : va_G} {cs : Nat → ClassId} {tS : Nat} (hGl : ab_Gl l ZZ wFF D vwCl cs tS) : ab_SOK l ZZ 2 D vwCl cs tS 59 sm_59_180 := zf_fin1 (DS := 1) (dp := 0) (fuel := 200000) (q := []) (il := []) (anns := an_59_180) (pcs := [118]) (cand := fun _ _ => an_59_180) (sp := (fun _ => [])) hGl gok_59 (by decide) (fun _ h => absurd h List.not_mem_nil) (fun _ h => absurd h List.not_mem_nil) (fun _ _ _ h => h) (by decide +kernel) (by decide +kernel)
-- SandFlags$Rota.placeFrom
def sm_59_181 : ab_Sm := ([tR 43, tN 0 5, tN 4 4, tN 400 400, tN 0 0, tF], th_63, [([], some (tN 0 1), [])], [])
def an_59_181 : List ab_An := []
theorem sok_59_181 {l : Launch} {D : va_G} {cs : Nat → ClassId} {tS : Nat} (hGl : ab_Gl l ZZ wFF D vwCl cs tS) : ab_SOK l ZZ 2 D vwCl cs tS 59 sm_59_181 := zf_fin1 (DS := 1) (dp := 0) (fuel := 200000) (q := []) (il := []) (anns := an_59_181) (pcs := [118]) (cand := fun _ _ => an_59_181) (sp := (fun _ => [])) hGl gok_59 (by decide) (fun _ h => absurd h List.not_mem_nil) (fun _ h => absurd h List.not_mem_nil) (fun _ _ _ h => h) (by decide +kernel) (by decide +kernel)
-- SandFlags$Rota.placeFrom
def sm_59_182 : ab_Sm := ([tR 43, tN 0 5, tN 4 4, tN 50 50, tN 0 0, tF], th_63, [([], some (tN 0 1), [])], [])
def an_59_182 : List ab_An := []
theorem sok_59_182 {l : Launch} {D : va_G} {cs : Nat → ClassId} {tS : Nat} (hGl : ab_Gl l ZZ wFF D vwCl cs tS) : ab_SOK l ZZ 2 D vwCl cs tS 59 sm_59_182 := zf_fin1 (DS := 1) (dp := 0) (fuel := 200000) (q := []) (il := []) (anns := an_59_182) (pcs := [118]) (cand := fun _ _ => an_59_182) (sp := (fun _ => [])) hGl gok_59 (by decide) (fun _ h => absurd h List.not_mem_nil) (fun _ h => absurd h List.not_mem_nil) (fun _ _ _ h => h) (by decide +kernel) (by decide +kernel)
-- SandFlags$Rota.placeFrom
def sm_59_183 : ab_Sm := ([tR 43, tN 0 5, tN 4 4, tN 50 50, tN 125 125, tF], th_63, [([], some (tN 0 1), [])], [])
def an_59_183 : List ab_An := []
theorem sok_59_183 {l : Launch} {D : va_G} {cs : Nat → ClassId} {tS : Nat} (hGl : ab_Gl l ZZ wFF D vwCl cs tS) : ab_SOK l ZZ 2 D vwCl cs tS 59 sm_59_183 := zf_fin1 (DS := 1) (dp := 0) (fuel := 200000) (q := []) (il := []) (anns := an_59_183) (pcs := [118]) (cand := fun _ _ => an_59_183) (sp := (fun _ => [])) hGl gok_59 (by decide) (fun _ h => absurd h List.not_mem_nil) (fun _ h => absurd h List.not_mem_nil) (fun _ _ _ h => h) (by decide +kernel) (by decide +kernel)
-- SandFlags$Rota.placeFrom
def sm_59_184 : ab_Sm := ([tR 43, tN 0 5, tN 4 4, tN 50 50, tN 250 250, tF], th_63, [([], some (tN 0 1), [])], [])
def an_59_184 : List ab_An := []
theorem sok_59_184 {l : Launch} {D : va_G} {cs : Nat → ClassId} {tS : Nat} (hGl : ab_Gl l ZZ wFF D vwCl cs tS) : ab_SOK l ZZ 2 D vwCl cs tS 59 sm_59_184 := zf_fin1 (DS := 1) (dp := 0) (fuel := 200000) (q := []) (il := []) (anns := an_59_184) (pcs := [118]) (cand := fun _ _ => an_59_184) (sp := (fun _ => [])) hGl gok_59 (by decide) (fun _ h => absurd h List.not_mem_nil) (fun _ h => absurd h List.not_mem_nil) (fun _ _ _ h => h) (by decide +kernel) (by decide +kernel)
-- SandFlags$Rota.placeFrom
def sm_59_185 : ab_Sm := ([tR 43, tN 0 5, tN 4 4, tN 50 50, tN 25 25, tF], th_63, [([], some (tN 0 1), [])], [])
def an_59_185 : List ab_An := []
theorem sok_59_185 {l : Launch} {D : va_G} {cs : Nat → ClassId} {tS : Nat} (hGl : ab_Gl l ZZ wFF D vwCl cs tS) : ab_SOK l ZZ 2 D vwCl cs tS 59 sm_59_185 := zf_fin1 (DS := 1) (dp := 0) (fuel := 200000) (q := []) (il := []) (anns := an_59_185) (pcs := [118]) (cand := fun _ _ => an_59_185) (sp := (fun _ => [])) hGl gok_59 (by decide) (fun _ h => absurd h List.not_mem_nil) (fun _ h => absurd h List.not_mem_nil) (fun _ _ _ h => h) (by decide +kernel) (by decide +kernel)
-- SandFlags$Rota.placeFrom
def sm_59_186 : ab_Sm := ([tR 43, tN 0 5, tN 4 4, tN 50 50, tN 150 150, tF], th_63, [([], some (tN 0 1), [])], [])
def an_59_186 : List ab_An := []
theorem sok_59_186 {l : Launch} {D : va_G} {cs : Nat → ClassId} {tS : Nat} (hGl : ab_Gl l ZZ wFF D vwCl cs tS) : ab_SOK l ZZ 2 D vwCl cs tS 59 sm_59_186 := zf_fin1 (DS := 1) (dp := 0) (fuel := 200000) (q := []) (il := []) (anns := an_59_186) (pcs := [118]) (cand := fun _ _ => an_59_186) (sp := (fun _ => [])) hGl gok_59 (by decide) (fun _ h => absurd h List.not_mem_nil) (fun _ h => absurd h List.not_mem_nil) (fun _ _ _ h => h) (by decide +kernel) (by decide +kernel)
-- SandFlags$Rota.placeFrom
def sm_59_187 : ab_Sm := ([tR 43, tN 0 5, tN 4 4, tN 50 50, tN 50 50, tF], th_63, [([], some (tN 0 1), [])], [])
def an_59_187 : List ab_An := []
theorem sok_59_187 {l : Launch} {D : va_G} {cs : Nat → ClassId} {tS : Nat} (hGl : ab_Gl l ZZ wFF D vwCl cs tS) : ab_SOK l ZZ 2 D vwCl cs tS 59 sm_59_187 := zf_fin1 (DS := 1) (dp := 0) (fuel := 200000) (q := []) (il := []) (anns := an_59_187) (pcs := [118]) (cand := fun _ _ => an_59_187) (sp := (fun _ => [])) hGl gok_59 (by decide) (fun _ h => absurd h List.not_mem_nil) (fun _ h => absurd h List.not_mem_nil) (fun _ _ _ h => h) (by decide +kernel) (by decide +kernel)
-- SandFlags$Rota.placeFrom
def sm_59_188 : ab_Sm := ([tR 43, tN 0 5, tN 4 4, tN 50 50, tN 5 5, tF], th_63, [([], some (tN 0 1), [])], [])
def an_59_188 : List ab_An := []
theorem sok_59_188 {l : Launch} {D : va_G} {cs : Nat → ClassId} {tS : Nat} (hGl : ab_Gl l ZZ wFF D vwCl cs tS) : ab_SOK l ZZ 2 D vwCl cs tS 59 sm_59_188 := zf_fin1 (DS := 1) (dp := 0) (fuel := 200000) (q := []) (il := []) (anns := an_59_188) (pcs := [118]) (cand := fun _ _ => an_59_188) (sp := (fun _ => [])) hGl gok_59 (by decide) (fun _ h => absurd h List.not_mem_nil) (fun _ h => absurd h List.not_mem_nil) (fun _ _ _ h => h) (by decide +kernel) (by decide +kernel)
-- SandFlags$Rota.placeFrom
def sm_59_189 : ab_Sm := ([tR 43, tN 0 5, tN 4 4, tN 50 50, tN 130 130, tF], th_63, [([], some (tN 0 1), [])], [])
def an_59_189 : List ab_An := []
theorem sok_59_189 {l : Launch} {D : va_G} {cs : Nat → ClassId} {tS : Nat} (hGl : ab_Gl l ZZ wFF D vwCl cs tS) : ab_SOK l ZZ 2 D vwCl cs tS 59 sm_59_189 := zf_fin1 (DS := 1) (dp := 0) (fuel := 200000) (q := []) (il := []) (anns := an_59_189) (pcs := [118]) (cand := fun _ _ => an_59_189) (sp := (fun _ => [])) hGl gok_59 (by decide) (fun _ h => absurd h List.not_mem_nil) (fun _ h => absurd h List.not_mem_nil) (fun _ _ _ h => h) (by decide +kernel) (by decide +kernel)
-- SandFlags$Rota.placeFrom
def sm_59_190 : ab_Sm := ([tR 43, tN 0 5, tN 4 4, tN 50 50, tN 30 30, tF], th_63, [([], some (tN 0 1), [])], [])
def an_59_190 : List ab_An := []
theorem sok_59_190 {l : Launch} {D : va_G} {cs : Nat → ClassId} {tS : Nat} (hGl : ab_Gl l ZZ wFF D vwCl cs tS) : ab_SOK l ZZ 2 D vwCl cs tS 59 sm_59_190 := zf_fin1 (DS := 1) (dp := 0) (fuel := 200000) (q := []) (il := []) (anns := an_59_190) (pcs := [118]) (cand := fun _ _ => an_59_190) (sp := (fun _ => [])) hGl gok_59 (by decide) (fun _ h => absurd h List.not_mem_nil) (fun _ h => absurd h List.not_mem_nil) (fun _ _ _ h => h) (by decide +kernel) (by decide +kernel)
-- SandFlags$Rota.placeFrom
def sm_59_191 : ab_Sm := ([tR 43, tN 0 5, tN 4 4, tN 50 50, tN 10 10, tF], th_63, [([], some (tN 0 1), [])], [])
def an_59_191 : List ab_An := []
theorem sok_59_191 {l : Launch} {D : va_G} {cs : Nat → ClassId} {tS : Nat} (hGl : ab_Gl l ZZ wFF D vwCl cs tS) : ab_SOK l ZZ 2 D vwCl cs tS 59 sm_59_191 := zf_fin1 (DS := 1) (dp := 0) (fuel := 200000) (q := []) (il := []) (anns := an_59_191) (pcs := [118]) (cand := fun _ _ => an_59_191) (sp := (fun _ => [])) hGl gok_59 (by decide) (fun _ h => absurd h List.not_mem_nil) (fun _ h => absurd h List.not_mem_nil) (fun _ _ _ h => h) (by decide +kernel) (by decide +kernel)
-- SandFlags$Rota.placeFrom
def sm_59_192 : ab_Sm := ([tR 43, tN 0 5, tN 4 4, tN 50 50, tN 1 1, tF], th_63, [([], some (tN 0 1), [])], [])
def an_59_192 : List ab_An := []
theorem sok_59_192 {l : Launch} {D : va_G} {cs : Nat → ClassId} {tS : Nat} (hGl : ab_Gl l ZZ wFF D vwCl cs tS) : ab_SOK l ZZ 2 D vwCl cs tS 59 sm_59_192 := zf_fin1 (DS := 1) (dp := 0) (fuel := 200000) (q := []) (il := []) (anns := an_59_192) (pcs := [118]) (cand := fun _ _ => an_59_192) (sp := (fun _ => [])) hGl gok_59 (by decide) (fun _ h => absurd h List.not_mem_nil) (fun _ h => absurd h List.not_mem_nil) (fun _ _ _ h => h) (by decide +kernel) (by decide +kernel)
-- SandFlags$Rota.placeFrom
def sm_59_193 : ab_Sm := ([tR 43, tN 0 5, tN 4 4, tN 50 50, tN 126 126, tF], th_63, [([], some (tN 0 1), [])], [])
def an_59_193 : List ab_An := []
theorem sok_59_193 {l : Launch} {D : va_G} {cs : Nat → ClassId} {tS : Nat} (hGl : ab_Gl l ZZ wFF D vwCl cs tS) : ab_SOK l ZZ 2 D vwCl cs tS 59 sm_59_193 := zf_fin1 (DS := 1) (dp := 0) (fuel := 200000) (q := []) (il := []) (anns := an_59_193) (pcs := [118]) (cand := fun _ _ => an_59_193) (sp := (fun _ => [])) hGl gok_59 (by decide) (fun _ h => absurd h List.not_mem_nil) (fun _ h => absurd h List.not_mem_nil) (fun _ _ _ h => h) (by decide +kernel) (by decide +kernel)
-- SandFlags$Rota.placeFrom
def sm_59_194 : ab_Sm := ([tR 43, tN 0 5, tN 4 4, tN 50 50, tN 26 26, tF], th_63, [([], some (tN 0 1), [])], [])
def an_59_194 : List ab_An := []
theorem sok_59_194 {l : Launch} {D : va_G} {cs : Nat → ClassId} {tS : Nat} (hGl : ab_Gl l ZZ wFF D vwCl cs tS) : ab_SOK l ZZ 2 D vwCl cs tS 59 sm_59_194 := zf_fin1 (DS := 1) (dp := 0) (fuel := 200000) (q := []) (il := []) (anns := an_59_194) (pcs := [118]) (cand := fun _ _ => an_59_194) (sp := (fun _ => [])) hGl gok_59 (by decide) (fun _ h => absurd h List.not_mem_nil) (fun _ h => absurd h List.not_mem_nil) (fun _ _ _ h => h) (by decide +kernel) (by decide +kernel)
-- SandFlags$Rota.placeFrom
def sm_59_195 : ab_Sm := ([tR 43, tN 0 5, tN 4 4, tN 50 50, tN 6 6, tF], th_63, [([], some (tN 0 1), [])], [])
def an_59_195 : List ab_An := []
theorem sok_59_195 {l : Launch} {D : va_G} {cs : Nat → ClassId} {tS : Nat} (hGl : ab_Gl l ZZ wFF D vwCl cs tS) : ab_SOK l ZZ 2 D vwCl cs tS 59 sm_59_195 := zf_fin1 (DS := 1) (dp := 0) (fuel := 200000) (q := []) (il := []) (anns := an_59_195) (pcs := [118]) (cand := fun _ _ => an_59_195) (sp := (fun _ => [])) hGl gok_59 (by decide) (fun _ h => absurd h List.not_mem_nil) (fun _ h => absurd h List.not_mem_nil) (fun _ _ _ h => h) (by decide +kernel) (by decide +kernel)
-- SandFlags$Rota.placeFrom
def sm_59_196 : ab_Sm := ([tR 43, tN 0 5, tN 4 4, tN 50 50, tN 2 2, tF], th_63, [([], some (tN 0 1), [])], [])
def an_59_196 : List ab_An := []
theorem sok_59_196 {l : Launch} {D : va_G} {cs : Nat → ClassId} {tS : Nat} (hGl : ab_Gl l ZZ wFF D vwCl cs tS) : ab_SOK l ZZ 2 D vwCl cs tS 59 sm_59_196 := zf_fin1 (DS := 1) (dp := 0) (fuel := 200000) (q := []) (il := []) (anns := an_59_196) (pcs := [118]) (cand := fun _ _ => an_59_196) (sp := (fun _ => [])) hGl gok_59 (by decide) (fun _ h => absurd h List.not_mem_nil) (fun _ h => absurd h List.not_mem_nil) (fun _ _ _ h => h) (by decide +kernel) (by decide +kernel)
-- SandFlags$Rota.placeFrom
def sm_59_197 : ab_Sm := ([tR 43, tN 0 5, tN 4 4, tN 175 175, tN 0 0, tF], th_63, [([], some (tN 0 1), [])], [])
def an_59_197 : List ab_An := []
theorem sok_59_197 {l : Launch} {D : va_G} {cs : Nat → ClassId} {tS : Nat} (hGl : ab_Gl l ZZ wFF D vwCl cs tS) : ab_SOK l ZZ 2 D vwCl cs tS 59 sm_59_197 := zf_fin1 (DS := 1) (dp := 0) (fuel := 200000) (q := []) (il := []) (anns := an_59_197) (pcs := [118]) (cand := fun _ _ => an_59_197) (sp := (fun _ => [])) hGl gok_59 (by decide) (fun _ h => absurd h List.not_mem_nil) (fun _ h => absurd h List.not_mem_nil) (fun _ _ _ h => h) (by decide +kernel) (by decide +kernel)
-- SandFlags$Rota.placeFrom
def sm_59_198 : ab_Sm := ([tR 43, tN 0 5, tN 4 4, tN 175 175, tN 125 125, tF], th_63, [([], some (tN 0 1), [])], [])
def an_59_198 : List ab_An := []
theorem sok_59_198 {l : Launch} {D : va_G} {cs : Nat → ClassId} {tS : Nat} (hGl : ab_Gl l ZZ wFF D vwCl cs tS) : ab_SOK l ZZ 2 D vwCl cs tS 59 sm_59_198 := zf_fin1 (DS := 1) (dp := 0) (fuel := 200000) (q := []) (il := []) (anns := an_59_198) (pcs := [118]) (cand := fun _ _ => an_59_198) (sp := (fun _ => [])) hGl gok_59 (by decide) (fun _ h => absurd h List.not_mem_nil) (fun _ h => absurd h List.not_mem_nil) (fun _ _ _ h => h) (by decide +kernel) (by decide +kernel)
-- SandFlags$Rota.placeFrom
def sm_59_199 : ab_Sm := ([tR 43, tN 0 5, tN 4 4, tN 175 175, tN 25 25, tF], th_63, [([], some (tN 0 1), [])], [])
def an_59_199 : List ab_An := []
theorem sok_59_199 {l : Launch} {D : va_G} {cs : Nat → ClassId} {tS : Nat} (hGl : ab_Gl l ZZ wFF D vwCl cs tS) : ab_SOK l ZZ 2 D vwCl cs tS 59 sm_59_199 := zf_fin1 (DS := 1) (dp := 0) (fuel := 200000) (q := []) (il := []) (anns := an_59_199) (pcs := [118]) (cand := fun _ _ => an_59_199) (sp := (fun _ => [])) hGl gok_59 (by decide) (fun _ h => absurd h List.not_mem_nil) (fun _ h => absurd h List.not_mem_nil) (fun _ _ _ h => h) (by decide +kernel) (by decide +kernel)
-- SandFlags$Rota.placeFrom
def sm_59_200 : ab_Sm := ([tR 43, tN 0 5, tN 4 4, tN 175 175, tN 5 5, tF], th_63, [([], some (tN 0 1), [])], [])
def an_59_200 : List ab_An := []
theorem sok_59_200 {l : Launch} {D : va_G} {cs : Nat → ClassId} {tS : Nat} (hGl : ab_Gl l ZZ wFF D vwCl cs tS) : ab_SOK l ZZ 2 D vwCl cs tS 59 sm_59_200 := zf_fin1 (DS := 1) (dp := 0) (fuel := 200000) (q := []) (il := []) (anns := an_59_200) (pcs := [118]) (cand := fun _ _ => an_59_200) (sp := (fun _ => [])) hGl gok_59 (by decide) (fun _ h => absurd h List.not_mem_nil) (fun _ h => absurd h List.not_mem_nil) (fun _ _ _ h => h) (by decide +kernel) (by decide +kernel)
-- SandFlags$Rota.placeFrom
def sm_59_201 : ab_Sm := ([tR 43, tN 0 5, tN 4 4, tN 175 175, tN 1 1, tF], th_63, [([], some (tN 0 1), [])], [])
def an_59_201 : List ab_An := []
theorem sok_59_201 {l : Launch} {D : va_G} {cs : Nat → ClassId} {tS : Nat} (hGl : ab_Gl l ZZ wFF D vwCl cs tS) : ab_SOK l ZZ 2 D vwCl cs tS 59 sm_59_201 := zf_fin1 (DS := 1) (dp := 0) (fuel := 200000) (q := []) (il := []) (anns := an_59_201) (pcs := [118]) (cand := fun _ _ => an_59_201) (sp := (fun _ => [])) hGl gok_59 (by decide) (fun _ h => absurd h List.not_mem_nil) (fun _ h => absurd h List.not_mem_nil) (fun _ _ _ h => h) (by decide +kernel) (by decide +kernel)
-- SandFlags$Rota.placeFrom
def sm_59_202 : ab_Sm := ([tR 43, tN 0 5, tN 4 4, tN 300 300, tN 0 0, tF], th_63, [([], some (tN 0 1), [])], [])
def an_59_202 : List ab_An := []
theorem sok_59_202 {l : Launch} {D : va_G} {cs : Nat → ClassId} {tS : Nat} (hGl : ab_Gl l ZZ wFF D vwCl cs tS) : ab_SOK l ZZ 2 D vwCl cs tS 59 sm_59_202 := zf_fin1 (DS := 1) (dp := 0) (fuel := 200000) (q := []) (il := []) (anns := an_59_202) (pcs := [118]) (cand := fun _ _ => an_59_202) (sp := (fun _ => [])) hGl gok_59 (by decide) (fun _ h => absurd h List.not_mem_nil) (fun _ h => absurd h List.not_mem_nil) (fun _ _ _ h => h) (by decide +kernel) (by decide +kernel)
-- SandFlags$Rota.placeFrom
def sm_59_203 : ab_Sm := ([tR 43, tN 0 5, tN 4 4, tN 75 75, tN 0 0, tF], th_63, [([], some (tN 0 1), [])], [])
def an_59_203 : List ab_An := []
theorem sok_59_203 {l : Launch} {D : va_G} {cs : Nat → ClassId} {tS : Nat} (hGl : ab_Gl l ZZ wFF D vwCl cs tS) : ab_SOK l ZZ 2 D vwCl cs tS 59 sm_59_203 := zf_fin1 (DS := 1) (dp := 0) (fuel := 200000) (q := []) (il := []) (anns := an_59_203) (pcs := [118]) (cand := fun _ _ => an_59_203) (sp := (fun _ => [])) hGl gok_59 (by decide) (fun _ h => absurd h List.not_mem_nil) (fun _ h => absurd h List.not_mem_nil) (fun _ _ _ h => h) (by decide +kernel) (by decide +kernel)
-- SandFlags$Rota.placeFrom
def sm_59_204 : ab_Sm := ([tR 43, tN 0 5, tN 4 4, tN 75 75, tN 125 125, tF], th_63, [([], some (tN 0 1), [])], [])
def an_59_204 : List ab_An := []
theorem sok_59_204 {l : Launch} {D : va_G} {cs : Nat → ClassId} {tS : Nat} (hGl : ab_Gl l ZZ wFF D vwCl cs tS) : ab_SOK l ZZ 2 D vwCl cs tS 59 sm_59_204 := zf_fin1 (DS := 1) (dp := 0) (fuel := 200000) (q := []) (il := []) (anns := an_59_204) (pcs := [118]) (cand := fun _ _ => an_59_204) (sp := (fun _ => [])) hGl gok_59 (by decide) (fun _ h => absurd h List.not_mem_nil) (fun _ h => absurd h List.not_mem_nil) (fun _ _ _ h => h) (by decide +kernel) (by decide +kernel)
-- SandFlags$Rota.placeFrom
def sm_59_205 : ab_Sm := ([tR 43, tN 0 5, tN 4 4, tN 75 75, tN 25 25, tF], th_63, [([], some (tN 0 1), [])], [])
def an_59_205 : List ab_An := []
theorem sok_59_205 {l : Launch} {D : va_G} {cs : Nat → ClassId} {tS : Nat} (hGl : ab_Gl l ZZ wFF D vwCl cs tS) : ab_SOK l ZZ 2 D vwCl cs tS 59 sm_59_205 := zf_fin1 (DS := 1) (dp := 0) (fuel := 200000) (q := []) (il := []) (anns := an_59_205) (pcs := [118]) (cand := fun _ _ => an_59_205) (sp := (fun _ => [])) hGl gok_59 (by decide) (fun _ h => absurd h List.not_mem_nil) (fun _ h => absurd h List.not_mem_nil) (fun _ _ _ h => h) (by decide +kernel) (by decide +kernel)
-- SandFlags$Rota.placeFrom
def sm_59_206 : ab_Sm := ([tR 43, tN 0 5, tN 4 4, tN 75 75, tN 5 5, tF], th_63, [([], some (tN 0 1), [])], [])
def an_59_206 : List ab_An := []
theorem sok_59_206 {l : Launch} {D : va_G} {cs : Nat → ClassId} {tS : Nat} (hGl : ab_Gl l ZZ wFF D vwCl cs tS) : ab_SOK l ZZ 2 D vwCl cs tS 59 sm_59_206 := zf_fin1 (DS := 1) (dp := 0) (fuel := 200000) (q := []) (il := []) (anns := an_59_206) (pcs := [118]) (cand := fun _ _ => an_59_206) (sp := (fun _ => [])) hGl gok_59 (by decide) (fun _ h => absurd h List.not_mem_nil) (fun _ h => absurd h List.not_mem_nil) (fun _ _ _ h => h) (by decide +kernel) (by decide +kernel)
-- SandFlags$Rota.placeFrom
def sm_59_207 : ab_Sm := ([tR 43, tN 0 5, tN 4 4, tN 75 75, tN 1 1, tF], th_63, [([], some (tN 0 1), [])], [])
def an_59_207 : List ab_An := []
theorem sok_59_207 {l : Launch} {D : va_G} {cs : Nat → ClassId} {tS : Nat} (hGl : ab_Gl l ZZ wFF D vwCl cs tS) : ab_SOK l ZZ 2 D vwCl cs tS 59 sm_59_207 := zf_fin1 (DS := 1) (dp := 0) (fuel := 200000) (q := []) (il := []) (anns := an_59_207) (pcs := [118]) (cand := fun _ _ => an_59_207) (sp := (fun _ => [])) hGl gok_59 (by decide) (fun _ h => absurd h List.not_mem_nil) (fun _ h => absurd h List.not_mem_nil) (fun _ _ _ h => h) (by decide +kernel) (by decide +kernel)
-- SandFlags$Rota.placeFrom
def sm_59_208 : ab_Sm := ([tR 43, tN 0 5, tN 4 4, tN 200 200, tN 0 0, tF], th_63, [([], some (tN 0 1), [])], [])
def an_59_208 : List ab_An := []
theorem sok_59_208 {l : Launch} {D : va_G} {cs : Nat → ClassId} {tS : Nat} (hGl : ab_Gl l ZZ wFF D vwCl cs tS) : ab_SOK l ZZ 2 D vwCl cs tS 59 sm_59_208 := zf_fin1 (DS := 1) (dp := 0) (fuel := 200000) (q := []) (il := []) (anns := an_59_208) (pcs := [118]) (cand := fun _ _ => an_59_208) (sp := (fun _ => [])) hGl gok_59 (by decide) (fun _ h => absurd h List.not_mem_nil) (fun _ h => absurd h List.not_mem_nil) (fun _ _ _ h => h) (by decide +kernel) (by decide +kernel)
-- SandFlags$Rota.placeFrom
def sm_59_209 : ab_Sm := ([tR 43, tN 0 5, tN 4 4, tN 100 100, tN 0 0, tF], th_63, [([], some (tN 0 1), [])], [])
def an_59_209 : List ab_An := []
theorem sok_59_209 {l : Launch} {D : va_G} {cs : Nat → ClassId} {tS : Nat} (hGl : ab_Gl l ZZ wFF D vwCl cs tS) : ab_SOK l ZZ 2 D vwCl cs tS 59 sm_59_209 := zf_fin1 (DS := 1) (dp := 0) (fuel := 200000) (q := []) (il := []) (anns := an_59_209) (pcs := [118]) (cand := fun _ _ => an_59_209) (sp := (fun _ => [])) hGl gok_59 (by decide) (fun _ h => absurd h List.not_mem_nil) (fun _ h => absurd h List.not_mem_nil) (fun _ _ _ h => h) (by decide +kernel) (by decide +kernel)
-- SandFlags$Rota.placeFrom
def sm_59_210 : ab_Sm := ([tR 43, tN 0 5, tN 4 4, tN 5 5, tN 0 0, tF], th_63, [([], some (tN 0 1), [])], [])
def an_59_210 : List ab_An := []
theorem sok_59_210 {l : Launch} {D : va_G} {cs : Nat → ClassId} {tS : Nat} (hGl : ab_Gl l ZZ wFF D vwCl cs tS) : ab_SOK l ZZ 2 D vwCl cs tS 59 sm_59_210 := zf_fin1 (DS := 1) (dp := 0) (fuel := 200000) (q := []) (il := []) (anns := an_59_210) (pcs := [118]) (cand := fun _ _ => an_59_210) (sp := (fun _ => [])) hGl gok_59 (by decide) (fun _ h => absurd h List.not_mem_nil) (fun _ h => absurd h List.not_mem_nil) (fun _ _ _ h => h) (by decide +kernel) (by decide +kernel)
-- SandFlags$Rota.placeFrom
def sm_59_211 : ab_Sm := ([tR 43, tN 0 5, tN 4 4, tN 5 5, tN 125 125, tF], th_63, [([], some (tN 0 1), [])], [])
def an_59_211 : List ab_An := []
theorem sok_59_211 {l : Launch} {D : va_G} {cs : Nat → ClassId} {tS : Nat} (hGl : ab_Gl l ZZ wFF D vwCl cs tS) : ab_SOK l ZZ 2 D vwCl cs tS 59 sm_59_211 := zf_fin1 (DS := 1) (dp := 0) (fuel := 200000) (q := []) (il := []) (anns := an_59_211) (pcs := [118]) (cand := fun _ _ => an_59_211) (sp := (fun _ => [])) hGl gok_59 (by decide) (fun _ h => absurd h List.not_mem_nil) (fun _ h => absurd h List.not_mem_nil) (fun _ _ _ h => h) (by decide +kernel) (by decide +kernel)
-- SandFlags$Rota.placeFrom
def sm_59_212 : ab_Sm := ([tR 43, tN 0 5, tN 4 4, tN 5 5, tN 250 250, tF], th_63, [([], some (tN 0 1), [])], [])
def an_59_212 : List ab_An := []
theorem sok_59_212 {l : Launch} {D : va_G} {cs : Nat → ClassId} {tS : Nat} (hGl : ab_Gl l ZZ wFF D vwCl cs tS) : ab_SOK l ZZ 2 D vwCl cs tS 59 sm_59_212 := zf_fin1 (DS := 1) (dp := 0) (fuel := 200000) (q := []) (il := []) (anns := an_59_212) (pcs := [118]) (cand := fun _ _ => an_59_212) (sp := (fun _ => [])) hGl gok_59 (by decide) (fun _ h => absurd h List.not_mem_nil) (fun _ h => absurd h List.not_mem_nil) (fun _ _ _ h => h) (by decide +kernel) (by decide +kernel)
-- SandFlags$Rota.placeFrom
def sm_59_213 : ab_Sm := ([tR 43, tN 0 5, tN 4 4, tN 5 5, tN 375 375, tF], th_63, [([], some (tN 0 1), [])], [])
def an_59_213 : List ab_An := []
theorem sok_59_213 {l : Launch} {D : va_G} {cs : Nat → ClassId} {tS : Nat} (hGl : ab_Gl l ZZ wFF D vwCl cs tS) : ab_SOK l ZZ 2 D vwCl cs tS 59 sm_59_213 := zf_fin1 (DS := 1) (dp := 0) (fuel := 200000) (q := []) (il := []) (anns := an_59_213) (pcs := [118]) (cand := fun _ _ => an_59_213) (sp := (fun _ => [])) hGl gok_59 (by decide) (fun _ h => absurd h List.not_mem_nil) (fun _ h => absurd h List.not_mem_nil) (fun _ _ _ h => h) (by decide +kernel) (by decide +kernel)
-- SandFlags$Rota.placeFrom
def sm_59_214 : ab_Sm := ([tR 43, tN 0 5, tN 4 4, tN 5 5, tN 25 25, tF], th_63, [([], some (tN 0 1), [])], [])
def an_59_214 : List ab_An := []
theorem sok_59_214 {l : Launch} {D : va_G} {cs : Nat → ClassId} {tS : Nat} (hGl : ab_Gl l ZZ wFF D vwCl cs tS) : ab_SOK l ZZ 2 D vwCl cs tS 59 sm_59_214 := zf_fin1 (DS := 1) (dp := 0) (fuel := 200000) (q := []) (il := []) (anns := an_59_214) (pcs := [118]) (cand := fun _ _ => an_59_214) (sp := (fun _ => [])) hGl gok_59 (by decide) (fun _ h => absurd h List.not_mem_nil) (fun _ h => absurd h List.not_mem_nil) (fun _ _ _ h => h) (by decide +kernel) (by decide +kernel)
-- SandFlags$Rota.placeFrom
def sm_59_215 : ab_Sm := ([tR 43, tN 0 5, tN 4 4, tN 5 5, tN 150 150, tF], th_63, [([], some (tN 0 1), [])], [])
def an_59_215 : List ab_An := []
theorem sok_59_215 {l : Launch} {D : va_G} {cs : Nat → ClassId} {tS : Nat} (hGl : ab_Gl l ZZ wFF D vwCl cs tS) : ab_SOK l ZZ 2 D vwCl cs tS 59 sm_59_215 := zf_fin1 (DS := 1) (dp := 0) (fuel := 200000) (q := []) (il := []) (anns := an_59_215) (pcs := [118]) (cand := fun _ _ => an_59_215) (sp := (fun _ => [])) hGl gok_59 (by decide) (fun _ h => absurd h List.not_mem_nil) (fun _ h => absurd h List.not_mem_nil) (fun _ _ _ h => h) (by decide +kernel) (by decide +kernel)
-- SandFlags$Rota.placeFrom
def sm_59_216 : ab_Sm := ([tR 43, tN 0 5, tN 4 4, tN 5 5, tN 275 275, tF], th_63, [([], some (tN 0 1), [])], [])
def an_59_216 : List ab_An := []
theorem sok_59_216 {l : Launch} {D : va_G} {cs : Nat → ClassId} {tS : Nat} (hGl : ab_Gl l ZZ wFF D vwCl cs tS) : ab_SOK l ZZ 2 D vwCl cs tS 59 sm_59_216 := zf_fin1 (DS := 1) (dp := 0) (fuel := 200000) (q := []) (il := []) (anns := an_59_216) (pcs := [118]) (cand := fun _ _ => an_59_216) (sp := (fun _ => [])) hGl gok_59 (by decide) (fun _ h => absurd h List.not_mem_nil) (fun _ h => absurd h List.not_mem_nil) (fun _ _ _ h => h) (by decide +kernel) (by decide +kernel)
-- SandFlags$Rota.placeFrom
def sm_59_217 : ab_Sm := ([tR 43, tN 0 5, tN 4 4, tN 5 5, tN 50 50, tF], th_63, [([], some (tN 0 1), [])], [])
def an_59_217 : List ab_An := []
theorem sok_59_217 {l : Launch} {D : va_G} {cs : Nat → ClassId} {tS : Nat} (hGl : ab_Gl l ZZ wFF D vwCl cs tS) : ab_SOK l ZZ 2 D vwCl cs tS 59 sm_59_217 := zf_fin1 (DS := 1) (dp := 0) (fuel := 200000) (q := []) (il := []) (anns := an_59_217) (pcs := [118]) (cand := fun _ _ => an_59_217) (sp := (fun _ => [])) hGl gok_59 (by decide) (fun _ h => absurd h List.not_mem_nil) (fun _ h => absurd h List.not_mem_nil) (fun _ _ _ h => h) (by decide +kernel) (by decide +kernel)
-- SandFlags$Rota.placeFrom
def sm_59_218 : ab_Sm := ([tR 43, tN 0 5, tN 4 4, tN 5 5, tN 175 175, tF], th_63, [([], some (tN 0 1), [])], [])
def an_59_218 : List ab_An := []
theorem sok_59_218 {l : Launch} {D : va_G} {cs : Nat → ClassId} {tS : Nat} (hGl : ab_Gl l ZZ wFF D vwCl cs tS) : ab_SOK l ZZ 2 D vwCl cs tS 59 sm_59_218 := zf_fin1 (DS := 1) (dp := 0) (fuel := 200000) (q := []) (il := []) (anns := an_59_218) (pcs := [118]) (cand := fun _ _ => an_59_218) (sp := (fun _ => [])) hGl gok_59 (by decide) (fun _ h => absurd h List.not_mem_nil) (fun _ h => absurd h List.not_mem_nil) (fun _ _ _ h => h) (by decide +kernel) (by decide +kernel)
-- SandFlags$Rota.placeFrom
def sm_59_219 : ab_Sm := ([tR 43, tN 0 5, tN 4 4, tN 5 5, tN 75 75, tF], th_63, [([], some (tN 0 1), [])], [])
def an_59_219 : List ab_An := []
theorem sok_59_219 {l : Launch} {D : va_G} {cs : Nat → ClassId} {tS : Nat} (hGl : ab_Gl l ZZ wFF D vwCl cs tS) : ab_SOK l ZZ 2 D vwCl cs tS 59 sm_59_219 := zf_fin1 (DS := 1) (dp := 0) (fuel := 200000) (q := []) (il := []) (anns := an_59_219) (pcs := [118]) (cand := fun _ _ => an_59_219) (sp := (fun _ => [])) hGl gok_59 (by decide) (fun _ h => absurd h List.not_mem_nil) (fun _ h => absurd h List.not_mem_nil) (fun _ _ _ h => h) (by decide +kernel) (by decide +kernel)
-- SandFlags$Rota.placeFrom
def sm_59_220 : ab_Sm := ([tR 43, tN 0 5, tN 4 4, tN 5 5, tN 5 5, tF], th_63, [([], some (tN 0 1), [])], [])
def an_59_220 : List ab_An := []
theorem sok_59_220 {l : Launch} {D : va_G} {cs : Nat → ClassId} {tS : Nat} (hGl : ab_Gl l ZZ wFF D vwCl cs tS) : ab_SOK l ZZ 2 D vwCl cs tS 59 sm_59_220 := zf_fin1 (DS := 1) (dp := 0) (fuel := 200000) (q := []) (il := []) (anns := an_59_220) (pcs := [118]) (cand := fun _ _ => an_59_220) (sp := (fun _ => [])) hGl gok_59 (by decide) (fun _ h => absurd h List.not_mem_nil) (fun _ h => absurd h List.not_mem_nil) (fun _ _ _ h => h) (by decide +kernel) (by decide +kernel)
-- SandFlags$Rota.placeFrom
def sm_59_221 : ab_Sm := ([tR 43, tN 0 5, tN 4 4, tN 5 5, tN 130 130, tF], th_63, [([], some (tN 0 1), [])], [])
def an_59_221 : List ab_An := []
theorem sok_59_221 {l : Launch} {D : va_G} {cs : Nat → ClassId} {tS : Nat} (hGl : ab_Gl l ZZ wFF D vwCl cs tS) : ab_SOK l ZZ 2 D vwCl cs tS 59 sm_59_221 := zf_fin1 (DS := 1) (dp := 0) (fuel := 200000) (q := []) (il := []) (anns := an_59_221) (pcs := [118]) (cand := fun _ _ => an_59_221) (sp := (fun _ => [])) hGl gok_59 (by decide) (fun _ h => absurd h List.not_mem_nil) (fun _ h => absurd h List.not_mem_nil) (fun _ _ _ h => h) (by decide +kernel) (by decide +kernel)
-- SandFlags$Rota.placeFrom
def sm_59_222 : ab_Sm := ([tR 43, tN 0 5, tN 4 4, tN 5 5, tN 255 255, tF], th_63, [([], some (tN 0 1), [])], [])
def an_59_222 : List ab_An := []
theorem sok_59_222 {l : Launch} {D : va_G} {cs : Nat → ClassId} {tS : Nat} (hGl : ab_Gl l ZZ wFF D vwCl cs tS) : ab_SOK l ZZ 2 D vwCl cs tS 59 sm_59_222 := zf_fin1 (DS := 1) (dp := 0) (fuel := 200000) (q := []) (il := []) (anns := an_59_222) (pcs := [118]) (cand := fun _ _ => an_59_222) (sp := (fun _ => [])) hGl gok_59 (by decide) (fun _ h => absurd h List.not_mem_nil) (fun _ h => absurd h List.not_mem_nil) (fun _ _ _ h => h) (by decide +kernel) (by decide +kernel)
-- SandFlags$Rota.placeFrom
def sm_59_223 : ab_Sm := ([tR 43, tN 0 5, tN 4 4, tN 5 5, tN 30 30, tF], th_63, [([], some (tN 0 1), [])], [])
def an_59_223 : List ab_An := []
theorem sok_59_223 {l : Launch} {D : va_G} {cs : Nat → ClassId} {tS : Nat} (hGl : ab_Gl l ZZ wFF D vwCl cs tS) : ab_SOK l ZZ 2 D vwCl cs tS 59 sm_59_223 := zf_fin1 (DS := 1) (dp := 0) (fuel := 200000) (q := []) (il := []) (anns := an_59_223) (pcs := [118]) (cand := fun _ _ => an_59_223) (sp := (fun _ => [])) hGl gok_59 (by decide) (fun _ h => absurd h List.not_mem_nil) (fun _ h => absurd h List.not_mem_nil) (fun _ _ _ h => h) (by decide +kernel) (by decide +kernel)
-- SandFlags$Rota.placeFrom
def sm_59_224 : ab_Sm := ([tR 43, tN 0 5, tN 4 4, tN 5 5, tN 155 155, tF], th_63, [([], some (tN 0 1), [])], [])
def an_59_224 : List ab_An := []
theorem sok_59_224 {l : Launch} {D : va_G} {cs : Nat → ClassId} {tS : Nat} (hGl : ab_Gl l ZZ wFF D vwCl cs tS) : ab_SOK l ZZ 2 D vwCl cs tS 59 sm_59_224 := zf_fin1 (DS := 1) (dp := 0) (fuel := 200000) (q := []) (il := []) (anns := an_59_224) (pcs := [118]) (cand := fun _ _ => an_59_224) (sp := (fun _ => [])) hGl gok_59 (by decide) (fun _ h => absurd h List.not_mem_nil) (fun _ h => absurd h List.not_mem_nil) (fun _ _ _ h => h) (by decide +kernel) (by decide +kernel)
-- SandFlags$Rota.placeFrom
def sm_59_225 : ab_Sm := ([tR 43, tN 0 5, tN 4 4, tN 5 5, tN 55 55, tF], th_63, [([], some (tN 0 1), [])], [])
def an_59_225 : List ab_An := []
theorem sok_59_225 {l : Launch} {D : va_G} {cs : Nat → ClassId} {tS : Nat} (hGl : ab_Gl l ZZ wFF D vwCl cs tS) : ab_SOK l ZZ 2 D vwCl cs tS 59 sm_59_225 := zf_fin1 (DS := 1) (dp := 0) (fuel := 200000) (q := []) (il := []) (anns := an_59_225) (pcs := [118]) (cand := fun _ _ => an_59_225) (sp := (fun _ => [])) hGl gok_59 (by decide) (fun _ h => absurd h List.not_mem_nil) (fun _ h => absurd h List.not_mem_nil) (fun _ _ _ h => h) (by decide +kernel) (by decide +kernel)
-- SandFlags$Rota.placeFrom
def sm_59_226 : ab_Sm := ([tR 43, tN 0 5, tN 4 4, tN 5 5, tN 10 10, tF], th_63, [([], some (tN 0 1), [])], [])
def an_59_226 : List ab_An := []
theorem sok_59_226 {l : Launch} {D : va_G} {cs : Nat → ClassId} {tS : Nat} (hGl : ab_Gl l ZZ wFF D vwCl cs tS) : ab_SOK l ZZ 2 D vwCl cs tS 59 sm_59_226 := zf_fin1 (DS := 1) (dp := 0) (fuel := 200000) (q := []) (il := []) (anns := an_59_226) (pcs := [118]) (cand := fun _ _ => an_59_226) (sp := (fun _ => [])) hGl gok_59 (by decide) (fun _ h => absurd h List.not_mem_nil) (fun _ h => absurd h List.not_mem_nil) (fun _ _ _ h => h) (by decide +kernel) (by decide +kernel)
-- SandFlags$Rota.placeFrom
def sm_59_227 : ab_Sm := ([tR 43, tN 0 5, tN 4 4, tN 5 5, tN 135 135, tF], th_63, [([], some (tN 0 1), [])], [])
def an_59_227 : List ab_An := []
theorem sok_59_227 {l : Launch} {D : va_G} {cs : Nat → ClassId} {tS : Nat} (hGl : ab_Gl l ZZ wFF D vwCl cs tS) : ab_SOK l ZZ 2 D vwCl cs tS 59 sm_59_227 := zf_fin1 (DS := 1) (dp := 0) (fuel := 200000) (q := []) (il := []) (anns := an_59_227) (pcs := [118]) (cand := fun _ _ => an_59_227) (sp := (fun _ => [])) hGl gok_59 (by decide) (fun _ h => absurd h List.not_mem_nil) (fun _ h => absurd h List.not_mem_nil) (fun _ _ _ h => h) (by decide +kernel) (by decide +kernel)
-- SandFlags$Rota.placeFrom
def sm_59_228 : ab_Sm := ([tR 43, tN 0 5, tN 4 4, tN 5 5, tN 35 35, tF], th_63, [([], some (tN 0 1), [])], [])
def an_59_228 : List ab_An := []
theorem sok_59_228 {l : Launch} {D : va_G} {cs : Nat → ClassId} {tS : Nat} (hGl : ab_Gl l ZZ wFF D vwCl cs tS) : ab_SOK l ZZ 2 D vwCl cs tS 59 sm_59_228 := zf_fin1 (DS := 1) (dp := 0) (fuel := 200000) (q := []) (il := []) (anns := an_59_228) (pcs := [118]) (cand := fun _ _ => an_59_228) (sp := (fun _ => [])) hGl gok_59 (by decide) (fun _ h => absurd h List.not_mem_nil) (fun _ h => absurd h List.not_mem_nil) (fun _ _ _ h => h) (by decide +kernel) (by decide +kernel)
-- SandFlags$Rota.placeFrom
def sm_59_229 : ab_Sm := ([tR 43, tN 0 5, tN 4 4, tN 5 5, tN 15 15, tF], th_63, [([], some (tN 0 1), [])], [])
def an_59_229 : List ab_An := []
theorem sok_59_229 {l : Launch} {D : va_G} {cs : Nat → ClassId} {tS : Nat} (hGl : ab_Gl l ZZ wFF D vwCl cs tS) : ab_SOK l ZZ 2 D vwCl cs tS 59 sm_59_229 := zf_fin1 (DS := 1) (dp := 0) (fuel := 200000) (q := []) (il := []) (anns := an_59_229) (pcs := [118]) (cand := fun _ _ => an_59_229) (sp := (fun _ => [])) hGl gok_59 (by decide) (fun _ h => absurd h List.not_mem_nil) (fun _ h => absurd h List.not_mem_nil) (fun _ _ _ h => h) (by decide +kernel) (by decide +kernel)
-- SandFlags$Rota.placeFrom
def sm_59_230 : ab_Sm := ([tR 43, tN 0 5, tN 4 4, tN 5 5, tN 1 1, tF], th_63, [([], some (tN 0 1), [])], [])
def an_59_230 : List ab_An := []
theorem sok_59_230 {l : Launch} {D : va_G} {cs : Nat → ClassId} {tS : Nat} (hGl : ab_Gl l ZZ wFF D vwCl cs tS) : ab_SOK l ZZ 2 D vwCl cs tS 59 sm_59_230 := zf_fin1 (DS := 1) (dp := 0) (fuel := 200000) (q := []) (il := []) (anns := an_59_230) (pcs := [118]) (cand := fun _ _ => an_59_230) (sp := (fun _ => [])) hGl gok_59 (by decide) (fun _ h => absurd h List.not_mem_nil) (fun _ h => absurd h List.not_mem_nil) (fun _ _ _ h => h) (by decide +kernel) (by decide +kernel)
-- SandFlags$Rota.placeFrom
def sm_59_231 : ab_Sm := ([tR 43, tN 0 5, tN 4 4, tN 5 5, tN 126 126, tF], th_63, [([], some (tN 0 1), [])], [])
def an_59_231 : List ab_An := []
theorem sok_59_231 {l : Launch} {D : va_G} {cs : Nat → ClassId} {tS : Nat} (hGl : ab_Gl l ZZ wFF D vwCl cs tS) : ab_SOK l ZZ 2 D vwCl cs tS 59 sm_59_231 := zf_fin1 (DS := 1) (dp := 0) (fuel := 200000) (q := []) (il := []) (anns := an_59_231) (pcs := [118]) (cand := fun _ _ => an_59_231) (sp := (fun _ => [])) hGl gok_59 (by decide) (fun _ h => absurd h List.not_mem_nil) (fun _ h => absurd h List.not_mem_nil) (fun _ _ _ h => h) (by decide +kernel) (by decide +kernel)
-- SandFlags$Rota.placeFrom
def sm_59_232 : ab_Sm := ([tR 43, tN 0 5, tN 4 4, tN 5 5, tN 251 251, tF], th_63, [([], some (tN 0 1), [])], [])
def an_59_232 : List ab_An := []
theorem sok_59_232 {l : Launch} {D : va_G} {cs : Nat → ClassId} {tS : Nat} (hGl : ab_Gl l ZZ wFF D vwCl cs tS) : ab_SOK l ZZ 2 D vwCl cs tS 59 sm_59_232 := zf_fin1 (DS := 1) (dp := 0) (fuel := 200000) (q := []) (il := []) (anns := an_59_232) (pcs := [118]) (cand := fun _ _ => an_59_232) (sp := (fun _ => [])) hGl gok_59 (by decide) (fun _ h => absurd h List.not_mem_nil) (fun _ h => absurd h List.not_mem_nil) (fun _ _ _ h => h) (by decide +kernel) (by decide +kernel)
-- SandFlags$Rota.placeFrom
def sm_59_233 : ab_Sm := ([tR 43, tN 0 5, tN 4 4, tN 5 5, tN 26 26, tF], th_63, [([], some (tN 0 1), [])], [])
def an_59_233 : List ab_An := []
theorem sok_59_233 {l : Launch} {D : va_G} {cs : Nat → ClassId} {tS : Nat} (hGl : ab_Gl l ZZ wFF D vwCl cs tS) : ab_SOK l ZZ 2 D vwCl cs tS 59 sm_59_233 := zf_fin1 (DS := 1) (dp := 0) (fuel := 200000) (q := []) (il := []) (anns := an_59_233) (pcs := [118]) (cand := fun _ _ => an_59_233) (sp := (fun _ => [])) hGl gok_59 (by decide) (fun _ h => absurd h List.not_mem_nil) (fun _ h => absurd h List.not_mem_nil) (fun _ _ _ h => h) (by decide +kernel) (by decide +kernel)
-- SandFlags$Rota.placeFrom
def sm_59_234 : ab_Sm := ([tR 43, tN 0 5, tN 4 4, tN 5 5, tN 151 151, tF], th_63, [([], some (tN 0 1), [])], [])
def an_59_234 : List ab_An := []
theorem sok_59_234 {l : Launch} {D : va_G} {cs : Nat → ClassId} {tS : Nat} (hGl : ab_Gl l ZZ wFF D vwCl cs tS) : ab_SOK l ZZ 2 D vwCl cs tS 59 sm_59_234 := zf_fin1 (DS := 1) (dp := 0) (fuel := 200000) (q := []) (il := []) (anns := an_59_234) (pcs := [118]) (cand := fun _ _ => an_59_234) (sp := (fun _ => [])) hGl gok_59 (by decide) (fun _ h => absurd h List.not_mem_nil) (fun _ h => absurd h List.not_mem_nil) (fun _ _ _ h => h) (by decide +kernel) (by decide +kernel)
-- SandFlags$Rota.placeFrom
def sm_59_235 : ab_Sm := ([tR 43, tN 0 5, tN 4 4, tN 5 5, tN 51 51, tF], th_63, [([], some (tN 0 1), [])], [])
def an_59_235 : List ab_An := []
theorem sok_59_235 {l : Launch} {D : va_G} {cs : Nat → ClassId} {tS : Nat} (hGl : ab_Gl l ZZ wFF D vwCl cs tS) : ab_SOK l ZZ 2 D vwCl cs tS 59 sm_59_235 := zf_fin1 (DS := 1) (dp := 0) (fuel := 200000) (q := []) (il := []) (anns := an_59_235) (pcs := [118]) (cand := fun _ _ => an_59_235) (sp := (fun _ => [])) hGl gok_59 (by decide) (fun _ h => absurd h List.not_mem_nil) (fun _ h => absurd h List.not_mem_nil) (fun _ _ _ h => h) (by decide +kernel) (by decide +kernel)
-- SandFlags$Rota.placeFrom
def sm_59_236 : ab_Sm := ([tR 43, tN 0 5, tN 4 4, tN 5 5, tN 6 6, tF], th_63, [([], some (tN 0 1), [])], [])
def an_59_236 : List ab_An := []
theorem sok_59_236 {l : Launch} {D : va_G} {cs : Nat → ClassId} {tS : Nat} (hGl : ab_Gl l ZZ wFF D vwCl cs tS) : ab_SOK l ZZ 2 D vwCl cs tS 59 sm_59_236 := zf_fin1 (DS := 1) (dp := 0) (fuel := 200000) (q := []) (il := []) (anns := an_59_236) (pcs := [118]) (cand := fun _ _ => an_59_236) (sp := (fun _ => [])) hGl gok_59 (by decide) (fun _ h => absurd h List.not_mem_nil) (fun _ h => absurd h List.not_mem_nil) (fun _ _ _ h => h) (by decide +kernel) (by decide +kernel)
-- SandFlags$Rota.placeFrom
def sm_59_237 : ab_Sm := ([tR 43, tN 0 5, tN 4 4, tN 5 5, tN 131 131, tF], th_63, [([], some (tN 0 1), [])], [])
def an_59_237 : List ab_An := []
theorem sok_59_237 {l : Launch} {D : va_G} {cs : Nat → ClassId} {tS : Nat} (hGl : ab_Gl l ZZ wFF D vwCl cs tS) : ab_SOK l ZZ 2 D vwCl cs tS 59 sm_59_237 := zf_fin1 (DS := 1) (dp := 0) (fuel := 200000) (q := []) (il := []) (anns := an_59_237) (pcs := [118]) (cand := fun _ _ => an_59_237) (sp := (fun _ => [])) hGl gok_59 (by decide) (fun _ h => absurd h List.not_mem_nil) (fun _ h => absurd h List.not_mem_nil) (fun _ _ _ h => h) (by decide +kernel) (by decide +kernel)
-- SandFlags$Rota.placeFrom
def sm_59_238 : ab_Sm := ([tR 43, tN 0 5, tN 4 4, tN 5 5, tN 31 31, tF], th_63, [([], some (tN 0 1), [])], [])
def an_59_238 : List ab_An := []
theorem sok_59_238 {l : Launch} {D : va_G} {cs : Nat → ClassId} {tS : Nat} (hGl : ab_Gl l ZZ wFF D vwCl cs tS) : ab_SOK l ZZ 2 D vwCl cs tS 59 sm_59_238 := zf_fin1 (DS := 1) (dp := 0) (fuel := 200000) (q := []) (il := []) (anns := an_59_238) (pcs := [118]) (cand := fun _ _ => an_59_238) (sp := (fun _ => [])) hGl gok_59 (by decide) (fun _ h => absurd h List.not_mem_nil) (fun _ h => absurd h List.not_mem_nil) (fun _ _ _ h => h) (by decide +kernel) (by decide +kernel)
-- SandFlags$Rota.placeFrom
def sm_59_239 : ab_Sm := ([tR 43, tN 0 5, tN 4 4, tN 5 5, tN 11 11, tF], th_63, [([], some (tN 0 1), [])], [])
def an_59_239 : List ab_An := []
theorem sok_59_239 {l : Launch} {D : va_G} {cs : Nat → ClassId} {tS : Nat} (hGl : ab_Gl l ZZ wFF D vwCl cs tS) : ab_SOK l ZZ 2 D vwCl cs tS 59 sm_59_239 := zf_fin1 (DS := 1) (dp := 0) (fuel := 200000) (q := []) (il := []) (anns := an_59_239) (pcs := [118]) (cand := fun _ _ => an_59_239) (sp := (fun _ => [])) hGl gok_59 (by decide) (fun _ h => absurd h List.not_mem_nil) (fun _ h => absurd h List.not_mem_nil) (fun _ _ _ h => h) (by decide +kernel) (by decide +kernel)
-- SandFlags$Rota.placeFrom
def sm_59_240 : ab_Sm := ([tR 43, tN 0 5, tN 4 4, tN 5 5, tN 2 2, tF], th_63, [([], some (tN 0 1), [])], [])
def an_59_240 : List ab_An := []
theorem sok_59_240 {l : Launch} {D : va_G} {cs : Nat → ClassId} {tS : Nat} (hGl : ab_Gl l ZZ wFF D vwCl cs tS) : ab_SOK l ZZ 2 D vwCl cs tS 59 sm_59_240 := zf_fin1 (DS := 1) (dp := 0) (fuel := 200000) (q := []) (il := []) (anns := an_59_240) (pcs := [118]) (cand := fun _ _ => an_59_240) (sp := (fun _ => [])) hGl gok_59 (by decide) (fun _ h => absurd h List.not_mem_nil) (fun _ h => absurd h List.not_mem_nil) (fun _ _ _ h => h) (by decide +kernel) (by decide +kernel)
-- SandFlags$Rota.placeFrom
def sm_59_241 : ab_Sm := ([tR 43, tN 0 5, tN 4 4, tN 5 5, tN 127 127, tF], th_63, [([], some (tN 0 1), [])], [])
def an_59_241 : List ab_An := []
theorem sok_59_241 {l : Launch} {D : va_G} {cs : Nat → ClassId} {tS : Nat} (hGl : ab_Gl l ZZ wFF D vwCl cs tS) : ab_SOK l ZZ 2 D vwCl cs tS 59 sm_59_241 := zf_fin1 (DS := 1) (dp := 0) (fuel := 200000) (q := []) (il := []) (anns := an_59_241) (pcs := [118]) (cand := fun _ _ => an_59_241) (sp := (fun _ => [])) hGl gok_59 (by decide) (fun _ h => absurd h List.not_mem_nil) (fun _ h => absurd h List.not_mem_nil) (fun _ _ _ h => h) (by decide +kernel) (by decide +kernel)
-- SandFlags$Rota.placeFrom
def sm_59_242 : ab_Sm := ([tR 43, tN 0 5, tN 4 4, tN 5 5, tN 27 27, tF], th_63, [([], some (tN 0 1), [])], [])
def an_59_242 : List ab_An := []
theorem sok_59_242 {l : Launch} {D : va_G} {cs : Nat → ClassId} {tS : Nat} (hGl : ab_Gl l ZZ wFF D vwCl cs tS) : ab_SOK l ZZ 2 D vwCl cs tS 59 sm_59_242 := zf_fin1 (DS := 1) (dp := 0) (fuel := 200000) (q := []) (il := []) (anns := an_59_242) (pcs := [118]) (cand := fun _ _ => an_59_242) (sp := (fun _ => [])) hGl gok_59 (by decide) (fun _ h => absurd h List.not_mem_nil) (fun _ h => absurd h List.not_mem_nil) (fun _ _ _ h => h) (by decide +kernel) (by decide +kernel)
-- SandFlags$Rota.placeFrom
def sm_59_243 : ab_Sm := ([tR 43, tN 0 5, tN 4 4, tN 5 5, tN 7 7, tF], th_63, [([], some (tN 0 1), [])], [])
def an_59_243 : List ab_An := []
theorem sok_59_243 {l : Launch} {D : va_G} {cs : Nat → ClassId} {tS : Nat} (hGl : ab_Gl l ZZ wFF D vwCl cs tS) : ab_SOK l ZZ 2 D vwCl cs tS 59 sm_59_243 := zf_fin1 (DS := 1) (dp := 0) (fuel := 200000) (q := []) (il := []) (anns := an_59_243) (pcs := [118]) (cand := fun _ _ => an_59_243) (sp := (fun _ => [])) hGl gok_59 (by decide) (fun _ h => absurd h List.not_mem_nil) (fun _ h => absurd h List.not_mem_nil) (fun _ _ _ h => h) (by decide +kernel) (by decide +kernel)
-- SandFlags$Rota.placeFrom
def sm_59_244 : ab_Sm := ([tR 43, tN 0 5, tN 4 4, tN 5 5, tN 3 3, tF], th_63, [([], some (tN 0 1), [])], [])
def an_59_244 : List ab_An := []
theorem sok_59_244 {l : Launch} {D : va_G} {cs : Nat → ClassId} {tS : Nat} (hGl : ab_Gl l ZZ wFF D vwCl cs tS) : ab_SOK l ZZ 2 D vwCl cs tS 59 sm_59_244 := zf_fin1 (DS := 1) (dp := 0) (fuel := 200000) (q := []) (il := []) (anns := an_59_244) (pcs := [118]) (cand := fun _ _ => an_59_244) (sp := (fun _ => [])) hGl gok_59 (by decide) (fun _ h => absurd h List.not_mem_nil) (fun _ h => absurd h List.not_mem_nil) (fun _ _ _ h => h) (by decide +kernel) (by decide +kernel)
-- SandFlags$Rota.placeFrom
def sm_59_245 : ab_Sm := ([tR 43, tN 0 5, tN 4 4, tN 130 130, tN 0 0, tF], th_63, [([], some (tN 0 1), [])], [])
def an_59_245 : List ab_An := []
theorem sok_59_245 {l : Launch} {D : va_G} {cs : Nat → ClassId} {tS : Nat} (hGl : ab_Gl l ZZ wFF D vwCl cs tS) : ab_SOK l ZZ 2 D vwCl cs tS 59 sm_59_245 := zf_fin1 (DS := 1) (dp := 0) (fuel := 200000) (q := []) (il := []) (anns := an_59_245) (pcs := [118]) (cand := fun _ _ => an_59_245) (sp := (fun _ => [])) hGl gok_59 (by decide) (fun _ h => absurd h List.not_mem_nil) (fun _ h => absurd h List.not_mem_nil) (fun _ _ _ h => h) (by decide +kernel) (by decide +kernel)
-- SandFlags$Rota.placeFrom
def sm_59_246 : ab_Sm := ([tR 43, tN 0 5, tN 4 4, tN 130 130, tN 125 125, tF], th_63, [([], some (tN 0 1), [])], [])
def an_59_246 : List ab_An := []
theorem sok_59_246 {l : Launch} {D : va_G} {cs : Nat → ClassId} {tS : Nat} (hGl : ab_Gl l ZZ wFF D vwCl cs tS) : ab_SOK l ZZ 2 D vwCl cs tS 59 sm_59_246 := zf_fin1 (DS := 1) (dp := 0) (fuel := 200000) (q := []) (il := []) (anns := an_59_246) (pcs := [118]) (cand := fun _ _ => an_59_246) (sp := (fun _ => [])) hGl gok_59 (by decide) (fun _ h => absurd h List.not_mem_nil) (fun _ h => absurd h List.not_mem_nil) (fun _ _ _ h => h) (by decide +kernel) (by decide +kernel)
-- SandFlags$Rota.placeFrom
def sm_59_247 : ab_Sm := ([tR 43, tN 0 5, tN 4 4, tN 130 130, tN 250 250, tF], th_63, [([], some (tN 0 1), [])], [])
def an_59_247 : List ab_An := []
theorem sok_59_247 {l : Launch} {D : va_G} {cs : Nat → ClassId} {tS : Nat} (hGl : ab_Gl l ZZ wFF D vwCl cs tS) : ab_SOK l ZZ 2 D vwCl cs tS 59 sm_59_247 := zf_fin1 (DS := 1) (dp := 0) (fuel := 200000) (q := []) (il := []) (anns := an_59_247) (pcs := [118]) (cand := fun _ _ => an_59_247) (sp := (fun _ => [])) hGl gok_59 (by decide) (fun _ h => absurd h List.not_mem_nil) (fun _ h => absurd h List.not_mem_nil) (fun _ _ _ h => h) (by decide +kernel) (by decide +kernel)
-- SandFlags$Rota.placeFrom
def sm_59_248 : ab_Sm := ([tR 43, tN 0 5, tN 4 4, tN 130 130, tN 25 25, tF], th_63, [([], some (tN 0 1), [])], [])
def an_59_248 : List ab_An := []
theorem sok_59_248 {l : Launch} {D : va_G} {cs : Nat → ClassId} {tS : Nat} (hGl : ab_Gl l ZZ wFF D vwCl cs tS) : ab_SOK l ZZ 2 D vwCl cs tS 59 sm_59_248 := zf_fin1 (DS := 1) (dp := 0) (fuel := 200000) (q := []) (il := []) (anns := an_59_248) (pcs := [118]) (cand := fun _ _ => an_59_248) (sp := (fun _ => [])) hGl gok_59 (by decide) (fun _ h => absurd h List.not_mem_nil) (fun _ h => absurd h List.not_mem_nil) (fun _ _ _ h => h) (by decide +kernel) (by decide +kernel)
-- SandFlags$Rota.placeFrom
def sm_59_249 : ab_Sm := ([tR 43, tN 0 5, tN 4 4, tN 130 130, tN 150 150, tF], th_63, [([], some (tN 0 1), [])], [])
def an_59_249 : List ab_An := []
theorem sok_59_249 {l : Launch} {D : va_G} {cs : Nat → ClassId} {tS : Nat} (hGl : ab_Gl l ZZ wFF D vwCl cs tS) : ab_SOK l ZZ 2 D vwCl cs tS 59 sm_59_249 := zf_fin1 (DS := 1) (dp := 0) (fuel := 200000) (q := []) (il := []) (anns := an_59_249) (pcs := [118]) (cand := fun _ _ => an_59_249) (sp := (fun _ => [])) hGl gok_59 (by decide) (fun _ h => absurd h List.not_mem_nil) (fun _ h => absurd h List.not_mem_nil) (fun _ _ _ h => h) (by decide +kernel) (by decide +kernel)
-- SandFlags$Rota.placeFrom
def sm_59_250 : ab_Sm := ([tR 43, tN 0 5, tN 4 4, tN 130 130, tN 50 50, tF], th_63, [([], some (tN 0 1), [])], [])
def an_59_250 : List ab_An := []
theorem sok_59_250 {l : Launch} {D : va_G} {cs : Nat → ClassId} {tS : Nat} (hGl : ab_Gl l ZZ wFF D vwCl cs tS) : ab_SOK l ZZ 2 D vwCl cs tS 59 sm_59_250 := zf_fin1 (DS := 1) (dp := 0) (fuel := 200000) (q := []) (il := []) (anns := an_59_250) (pcs := [118]) (cand := fun _ _ => an_59_250) (sp := (fun _ => [])) hGl gok_59 (by decide) (fun _ h => absurd h List.not_mem_nil) (fun _ h => absurd h List.not_mem_nil) (fun _ _ _ h => h) (by decide +kernel) (by decide +kernel)
-- SandFlags$Rota.placeFrom
def sm_59_251 : ab_Sm := ([tR 43, tN 0 5, tN 4 4, tN 130 130, tN 5 5, tF], th_63, [([], some (tN 0 1), [])], [])
def an_59_251 : List ab_An := []
theorem sok_59_251 {l : Launch} {D : va_G} {cs : Nat → ClassId} {tS : Nat} (hGl : ab_Gl l ZZ wFF D vwCl cs tS) : ab_SOK l ZZ 2 D vwCl cs tS 59 sm_59_251 := zf_fin1 (DS := 1) (dp := 0) (fuel := 200000) (q := []) (il := []) (anns := an_59_251) (pcs := [118]) (cand := fun _ _ => an_59_251) (sp := (fun _ => [])) hGl gok_59 (by decide) (fun _ h => absurd h List.not_mem_nil) (fun _ h => absurd h List.not_mem_nil) (fun _ _ _ h => h) (by decide +kernel) (by decide +kernel)
-- SandFlags$Rota.placeFrom
def sm_59_252 : ab_Sm := ([tR 43, tN 0 5, tN 4 4, tN 130 130, tN 130 130, tF], th_63, [([], some (tN 0 1), [])], [])
def an_59_252 : List ab_An := []
theorem sok_59_252 {l : Launch} {D : va_G} {cs : Nat → ClassId} {tS : Nat} (hGl : ab_Gl l ZZ wFF D vwCl cs tS) : ab_SOK l ZZ 2 D vwCl cs tS 59 sm_59_252 := zf_fin1 (DS := 1) (dp := 0) (fuel := 200000) (q := []) (il := []) (anns := an_59_252) (pcs := [118]) (cand := fun _ _ => an_59_252) (sp := (fun _ => [])) hGl gok_59 (by decide) (fun _ h => absurd h List.not_mem_nil) (fun _ h => absurd h List.not_mem_nil) (fun _ _ _ h => h) (by decide +kernel) (by decide +kernel)
-- SandFlags$Rota.placeFrom
def sm_59_253 : ab_Sm := ([tR 43, tN 0 5, tN 4 4, tN 130 130, tN 30 30, tF], th_63, [([], some (tN 0 1), [])], [])
def an_59_253 : List ab_An := []
theorem sok_59_253 {l : Launch} {D : va_G} {cs : Nat → ClassId} {tS : Nat} (hGl : ab_Gl l ZZ wFF D vwCl cs tS) : ab_SOK l ZZ 2 D vwCl cs tS 59 sm_59_253 := zf_fin1 (DS := 1) (dp := 0) (fuel := 200000) (q := []) (il := []) (anns := an_59_253) (pcs := [118]) (cand := fun _ _ => an_59_253) (sp := (fun _ => [])) hGl gok_59 (by decide) (fun _ h => absurd h List.not_mem_nil) (fun _ h => absurd h List.not_mem_nil) (fun _ _ _ h => h) (by decide +kernel) (by decide +kernel)
-- SandFlags$Rota.placeFrom
def sm_59_254 : ab_Sm := ([tR 43, tN 0 5, tN 4 4, tN 130 130, tN 10 10, tF], th_63, [([], some (tN 0 1), [])], [])
def an_59_254 : List ab_An := []
theorem sok_59_254 {l : Launch} {D : va_G} {cs : Nat → ClassId} {tS : Nat} (hGl : ab_Gl l ZZ wFF D vwCl cs tS) : ab_SOK l ZZ 2 D vwCl cs tS 59 sm_59_254 := zf_fin1 (DS := 1) (dp := 0) (fuel := 200000) (q := []) (il := []) (anns := an_59_254) (pcs := [118]) (cand := fun _ _ => an_59_254) (sp := (fun _ => [])) hGl gok_59 (by decide) (fun _ h => absurd h List.not_mem_nil) (fun _ h => absurd h List.not_mem_nil) (fun _ _ _ h => h) (by decide +kernel) (by decide +kernel)
-- SandFlags$Rota.placeFrom
def sm_59_255 : ab_Sm := ([tR 43, tN 0 5, tN 4 4, tN 130 130, tN 1 1, tF], th_63, [([], some (tN 0 1), [])], [])
def an_59_255 : List ab_An := []
theorem sok_59_255 {l : Launch} {D : va_G} {cs : Nat → ClassId} {tS : Nat} (hGl : ab_Gl l ZZ wFF D vwCl cs tS) : ab_SOK l ZZ 2 D vwCl cs tS 59 sm_59_255 := zf_fin1 (DS := 1) (dp := 0) (fuel := 200000) (q := []) (il := []) (anns := an_59_255) (pcs := [118]) (cand := fun _ _ => an_59_255) (sp := (fun _ => [])) hGl gok_59 (by decide) (fun _ h => absurd h List.not_mem_nil) (fun _ h => absurd h List.not_mem_nil) (fun _ _ _ h => h) (by decide +kernel) (by decide +kernel)
-- SandFlags$Rota.placeFrom
def sm_59_256 : ab_Sm := ([tR 43, tN 0 5, tN 4 4, tN 130 130, tN 126 126, tF], th_63, [([], some (tN 0 1), [])], [])
def an_59_256 : List ab_An := []
theorem sok_59_256 {l : Launch} {D : va_G} {cs : Nat → ClassId} {tS : Nat} (hGl : ab_Gl l ZZ wFF D vwCl cs tS) : ab_SOK l ZZ 2 D vwCl cs tS 59 sm_59_256 := zf_fin1 (DS := 1) (dp := 0) (fuel := 200000) (q := []) (il := []) (anns := an_59_256) (pcs := [118]) (cand := fun _ _ => an_59_256) (sp := (fun _ => [])) hGl gok_59 (by decide) (fun _ h => absurd h List.not_mem_nil) (fun _ h => absurd h List.not_mem_nil) (fun _ _ _ h => h) (by decide +kernel) (by decide +kernel)
-- SandFlags$Rota.placeFrom
def sm_59_257 : ab_Sm := ([tR 43, tN 0 5, tN 4 4, tN 130 130, tN 26 26, tF], th_63, [([], some (tN 0 1), [])], [])
def an_59_257 : List ab_An := []
theorem sok_59_257 {l : Launch} {D : va_G} {cs : Nat → ClassId} {tS : Nat} (hGl : ab_Gl l ZZ wFF D vwCl cs tS) : ab_SOK l ZZ 2 D vwCl cs tS 59 sm_59_257 := zf_fin1 (DS := 1) (dp := 0) (fuel := 200000) (q := []) (il := []) (anns := an_59_257) (pcs := [118]) (cand := fun _ _ => an_59_257) (sp := (fun _ => [])) hGl gok_59 (by decide) (fun _ h => absurd h List.not_mem_nil) (fun _ h => absurd h List.not_mem_nil) (fun _ _ _ h => h) (by decide +kernel) (by decide +kernel)
-- SandFlags$Rota.placeFrom
def sm_59_258 : ab_Sm := ([tR 43, tN 0 5, tN 4 4, tN 130 130, tN 6 6, tF], th_63, [([], some (tN 0 1), [])], [])
def an_59_258 : List ab_An := []
theorem sok_59_258 {l : Launch} {D : va_G} {cs : Nat → ClassId} {tS : Nat} (hGl : ab_Gl l ZZ wFF D vwCl cs tS) : ab_SOK l ZZ 2 D vwCl cs tS 59 sm_59_258 := zf_fin1 (DS := 1) (dp := 0) (fuel := 200000) (q := []) (il := []) (anns := an_59_258) (pcs := [118]) (cand := fun _ _ => an_59_258) (sp := (fun _ => [])) hGl gok_59 (by decide) (fun _ h => absurd h List.not_mem_nil) (fun _ h => absurd h List.not_mem_nil) (fun _ _ _ h => h) (by decide +kernel) (by decide +kernel)
-- SandFlags$Rota.placeFrom
def sm_59_259 : ab_Sm := ([tR 43, tN 0 5, tN 4 4, tN 130 130, tN 2 2, tF], th_63, [([], some (tN 0 1), [])], [])
def an_59_259 : List ab_An := []
theorem sok_59_259 {l : Launch} {D : va_G} {cs : Nat → ClassId} {tS : Nat} (hGl : ab_Gl l ZZ wFF D vwCl cs tS) : ab_SOK l ZZ 2 D vwCl cs tS 59 sm_59_259 := zf_fin1 (DS := 1) (dp := 0) (fuel := 200000) (q := []) (il := []) (anns := an_59_259) (pcs := [118]) (cand := fun _ _ => an_59_259) (sp := (fun _ => [])) hGl gok_59 (by decide) (fun _ h => absurd h List.not_mem_nil) (fun _ h => absurd h List.not_mem_nil) (fun _ _ _ h => h) (by decide +kernel) (by decide +kernel)
-- SandFlags$Rota.placeFrom
def sm_59_260 : ab_Sm := ([tR 43, tN 0 5, tN 4 4, tN 255 255, tN 0 0, tF], th_63, [([], some (tN 0 1), [])], [])
def an_59_260 : List ab_An := []
theorem sok_59_260 {l : Launch} {D : va_G} {cs : Nat → ClassId} {tS : Nat} (hGl : ab_Gl l ZZ wFF D vwCl cs tS) : ab_SOK l ZZ 2 D vwCl cs tS 59 sm_59_260 := zf_fin1 (DS := 1) (dp := 0) (fuel := 200000) (q := []) (il := []) (anns := an_59_260) (pcs := [118]) (cand := fun _ _ => an_59_260) (sp := (fun _ => [])) hGl gok_59 (by decide) (fun _ h => absurd h List.not_mem_nil) (fun _ h => absurd h List.not_mem_nil) (fun _ _ _ h => h) (by decide +kernel) (by decide +kernel)
-- SandFlags$Rota.placeFrom
def sm_59_261 : ab_Sm := ([tR 43, tN 0 5, tN 4 4, tN 255 255, tN 125 125, tF], th_63, [([], some (tN 0 1), [])], [])
def an_59_261 : List ab_An := []
theorem sok_59_261 {l : Launch} {D : va_G} {cs : Nat → ClassId} {tS : Nat} (hGl : ab_Gl l ZZ wFF D vwCl cs tS) : ab_SOK l ZZ 2 D vwCl cs tS 59 sm_59_261 := zf_fin1 (DS := 1) (dp := 0) (fuel := 200000) (q := []) (il := []) (anns := an_59_261) (pcs := [118]) (cand := fun _ _ => an_59_261) (sp := (fun _ => [])) hGl gok_59 (by decide) (fun _ h => absurd h List.not_mem_nil) (fun _ h => absurd h List.not_mem_nil) (fun _ _ _ h => h) (by decide +kernel) (by decide +kernel)
-- SandFlags$Rota.placeFrom
def sm_59_262 : ab_Sm := ([tR 43, tN 0 5, tN 4 4, tN 255 255, tN 25 25, tF], th_63, [([], some (tN 0 1), [])], [])
def an_59_262 : List ab_An := []
theorem sok_59_262 {l : Launch} {D : va_G} {cs : Nat → ClassId} {tS : Nat} (hGl : ab_Gl l ZZ wFF D vwCl cs tS) : ab_SOK l ZZ 2 D vwCl cs tS 59 sm_59_262 := zf_fin1 (DS := 1) (dp := 0) (fuel := 200000) (q := []) (il := []) (anns := an_59_262) (pcs := [118]) (cand := fun _ _ => an_59_262) (sp := (fun _ => [])) hGl gok_59 (by decide) (fun _ h => absurd h List.not_mem_nil) (fun _ h => absurd h List.not_mem_nil) (fun _ _ _ h => h) (by decide +kernel) (by decide +kernel)
-- SandFlags$Rota.placeFrom
def sm_59_263 : ab_Sm := ([tR 43, tN 0 5, tN 4 4, tN 255 255, tN 5 5, tF], th_63, [([], some (tN 0 1), [])], [])
def an_59_263 : List ab_An := []
theorem sok_59_263 {l : Launch} {D : va_G} {cs : Nat → ClassId} {tS : Nat} (hGl : ab_Gl l ZZ wFF D vwCl cs tS) : ab_SOK l ZZ 2 D vwCl cs tS 59 sm_59_263 := zf_fin1 (DS := 1) (dp := 0) (fuel := 200000) (q := []) (il := []) (anns := an_59_263) (pcs := [118]) (cand := fun _ _ => an_59_263) (sp := (fun _ => [])) hGl gok_59 (by decide) (fun _ h => absurd h List.not_mem_nil) (fun _ h => absurd h List.not_mem_nil) (fun _ _ _ h => h) (by decide +kernel) (by decide +kernel)
-- SandFlags$Rota.placeFrom
def sm_59_264 : ab_Sm := ([tR 43, tN 0 5, tN 4 4, tN 255 255, tN 1 1, tF], th_63, [([], some (tN 0 1), [])], [])
def an_59_264 : List ab_An := []
theorem sok_59_264 {l : Launch} {D : va_G} {cs : Nat → ClassId} {tS : Nat} (hGl : ab_Gl l ZZ wFF D vwCl cs tS) : ab_SOK l ZZ 2 D vwCl cs tS 59 sm_59_264 := zf_fin1 (DS := 1) (dp := 0) (fuel := 200000) (q := []) (il := []) (anns := an_59_264) (pcs := [118]) (cand := fun _ _ => an_59_264) (sp := (fun _ => [])) hGl gok_59 (by decide) (fun _ h => absurd h List.not_mem_nil) (fun _ h => absurd h List.not_mem_nil) (fun _ _ _ h => h) (by decide +kernel) (by decide +kernel)
-- SandFlags$Rota.placeFrom
def sm_59_265 : ab_Sm := ([tR 43, tN 0 5, tN 4 4, tN 380 380, tN 0 0, tF], th_63, [([], some (tN 0 1), [])], [])
def an_59_265 : List ab_An := []
theorem sok_59_265 {l : Launch} {D : va_G} {cs : Nat → ClassId} {tS : Nat} (hGl : ab_Gl l ZZ wFF D vwCl cs tS) : ab_SOK l ZZ 2 D vwCl cs tS 59 sm_59_265 := zf_fin1 (DS := 1) (dp := 0) (fuel := 200000) (q := []) (il := []) (anns := an_59_265) (pcs := [118]) (cand := fun _ _ => an_59_265) (sp := (fun _ => [])) hGl gok_59 (by decide) (fun _ h => absurd h List.not_mem_nil) (fun _ h => absurd h List.not_mem_nil) (fun _ _ _ h => h) (by decide +kernel) (by decide +kernel)
end
