noncomputable section
-- SandFlags$Rota.placeFrom
def sm_59_266 : ab_Sm := ([tR 43, tN 0 5, tN 4 4, tN 30 30, tN 0 0, tF], th_63, [([], some (tN 0 1), [])], [])
def an_59_266 : List ab_An := []
theorem sok_59_266 {l : Launch} {D : va_G} {cs : Nat → ClassId} {tS : Nat} (hGl : ab_Gl l ZZ wFF D vwCl cs tS) : ab_SOK l ZZ 2 D vwCl cs tS 59 sm_59_266 := zf_fin1 (DS := 1) (dp := 0) (fuel := 200000) (q := []) (il := []) (anns := an_59_266) (pcs := [118]) (cand := fun _ _ => an_59_266) (sp := (fun _ => [])) hGl gok_59 (by decide) (fun _ h => absurd h List.not_mem_nil) (fun _ h => absurd h List.not_mem_nil) (fun _ _ _ h => h) (by decide +kernel) (by decide +kernel)
-- SandFlags$Rota.placeFrom
def sm_59_267 : ab_Sm := ([tR 43, tN 0 5, tN 4 4, tN 30 30, tN 125 125, tF], th_63, [([], some (tN 0 1), [])], [])
def an_59_267 : List ab_An := []
theorem sok_59_267 {l : Launch} {D : va_G} {cs : Nat → ClassId} {tS : Nat} (hGl : ab_Gl l ZZ wFF D vwCl cs tS) : ab_SOK l ZZ 2 D vwCl cs tS 59 sm_59_267 := zf_fin1 (DS := 1) (dp := 0) (fuel := 200000) (q := []) (il := []) (anns := an_59_267) (pcs := [118]) (cand := fun _ _ => an_59_267) (sp := (fun _ => [])) hGl gok_59 (by decide) (fun _ h => absurd h List.not_mem_nil) (fun _ h => absurd h List.not_mem_nil) (fun _ _ _ h => h) (by decide +kernel) (by decide +kernel)
-- SandFlags$Rota.placeFrom
def sm_59_268 : ab_Sm := ([tR 43, tN 0 5, tN 4 4, tN 30 30, tN 250 250, tF], th_63, [([], some (tN 0 1), [])], [])
def an_59_268 : List ab_An := []
theorem sok_59_268 {l : Launch} {D : va_G} {cs : Nat → ClassId} {tS : Nat} (hGl : ab_Gl l ZZ wFF D vwCl cs tS) : ab_SOK l ZZ 2 D vwCl cs tS 59 sm_59_268 := zf_fin1 (DS := 1) (dp := 0) (fuel := 200000) (q := []) (il := []) (anns := an_59_268) (pcs := [118]) (cand := fun _ _ => an_59_268) (sp := (fun _ => [])) hGl gok_59 (by decide) (fun _ h => absurd h List.not_mem_nil) (fun _ h => absurd h List.not_mem_nil) (fun _ _ _ h => h) (by decide +kernel) (by decide +kernel)
-- SandFlags$Rota.placeFrom
def sm_59_269 : ab_Sm := ([tR 43, tN 0 5, tN 4 4, tN 30 30, tN 25 25, tF], th_63, [([], some (tN 0 1), [])], [])
def an_59_269 : List ab_An := []
theorem sok_59_269 {l : Launch} {D : va_G} {cs : Nat → ClassId} {tS : Nat} (hGl : ab_Gl l ZZ wFF D vwCl cs tS) : ab_SOK l ZZ 2 D vwCl cs tS 59 sm_59_269 := zf_fin1 (DS := 1) (dp := 0) (fuel := 200000) (q := []) (il := []) (anns := an_59_269) (pcs := [118]) (cand := fun _ _ => an_59_269) (sp := (fun _ => [])) hGl gok_59 (by decide) (fun _ h => absurd h List.not_mem_nil) (fun _ h => absurd h List.not_mem_nil) (fun _ _ _ h => h) (by decide +kernel) (by decide +kernel)
-- SandFlags$Rota.placeFrom
def sm_59_270 : ab_Sm := ([tR 43, tN 0 5, tN 4 4, tN 30 30, tN 150 150, tF], th_63, [([], some (tN 0 1), [])], [])
def an_59_270 : List ab_An := []
theorem sok_59_270 {l : Launch} {D : va_G} {cs : Nat → ClassId} {tS : Nat} (hGl : ab_Gl l ZZ wFF D vwCl cs tS) : ab_SOK l ZZ 2 D vwCl cs tS 59 sm_59_270 := zf_fin1 (DS := 1) (dp := 0) (fuel := 200000) (q := []) (il := []) (anns := an_59_270) (pcs := [118]) (cand := fun _ _ => an_59_270) (sp := (fun _ => [])) hGl gok_59 (by decide) (fun _ h => absurd h List.not_mem_nil) (fun _ h => absurd h List.not_mem_nil) (fun _ _ _ h => h) (by decide +kernel) (by decide +kernel)
-- SandFlags$Rota.placeFrom
def sm_59_271 : ab_Sm := ([tR 43, tN 0 5, tN 4 4, tN 30 30, tN 50 50, tF], th_63, [([], some (tN 0 1), [])], [])
def an_59_271 : List ab_An := []
theorem sok_59_271 {l : Launch} {D : va_G} {cs : Nat → ClassId} {tS : Nat} (hGl : ab_Gl l ZZ wFF D vwCl cs tS) : ab_SOK l ZZ 2 D vwCl cs tS 59 sm_59_271 := zf_fin1 (DS := 1) (dp := 0) (fuel := 200000) (q := []) (il := []) (anns := an_59_271) (pcs := [118]) (cand := fun _ _ => an_59_271) (sp := (fun _ => [])) hGl gok_59 (by decide) (fun _ h => absurd h List.not_mem_nil) (fun _ h => absurd h List.not_mem_nil) (fun _ _ _ h => h) (by decide +kernel) (by decide +kernel)
-- SandFlags$Rota.placeFrom
def sm_59_272 : ab_Sm := ([tR 43, tN 0 5, tN 4 4, tN 30 30, tN 5 5, tF], th_63, [([], some (tN 0 1), [])], [])
def an_59_272 : List ab_An := []
theorem sok_59_272 {l : Launch} {D : va_G} {cs : Nat → ClassId} {tS : Nat} (hGl : ab_Gl l ZZ wFF D vwCl cs tS) : ab_SOK l ZZ 2 D vwCl cs tS 59 sm_59_272 := zf_fin1 (DS := 1) (dp := 0) (fuel := 200000) (q := []) (il := []) (anns := an_59_272) (pcs := [118]) (cand := fun _ _ => an_59_272) (sp := (fun _ => [])) hGl gok_59 (by decide) (fun _ h => absurd h List.not_mem_nil) (fun _ h => absurd h List.not_mem_nil) (fun _ _ _ h => h) (by decide +kernel) (by decide +kernel)
-- SandFlags$Rota.placeFrom
def sm_59_273 : ab_Sm := ([tR 43, tN 0 5, tN 4 4, tN 30 30, tN 130 130, tF], th_63, [([], some (tN 0 1), [])], [])
def an_59_273 : List ab_An := []
theorem sok_59_273 {l : Launch} {D : va_G} {cs : Nat → ClassId} {tS : Nat} (hGl : ab_Gl l ZZ wFF D vwCl cs tS) : ab_SOK l ZZ 2 D vwCl cs tS 59 sm_59_273 := zf_fin1 (DS := 1) (dp := 0) (fuel := 200000) (q := []) (il := []) (anns := an_59_273) (pcs := [118]) (cand := fun _ _ => an_59_273) (sp := (fun _ => [])) hGl gok_59 (by decide) (fun _ h => absurd h List.not_mem_nil) (fun _ h => absurd h List.not_mem_nil) (fun _ _ _ h => h) (by decide +kernel) (by decide +kernel)
-- SandFlags$Rota.placeFrom
def sm_59_274 : ab_Sm := ([tR 43, tN 0 5, tN 4 4, tN 30 30, tN 30 30, tF], th_63, [([], some (tN 0 1), [])], [])
def an_59_274 : List ab_An := []
theorem sok_59_274 {l : Launch} {D : va_G} {cs : Nat → ClassId} {tS : Nat} (hGl : ab_Gl l ZZ wFF D vwCl cs tS) : ab_SOK l ZZ 2 D vwCl cs tS 59 sm_59_274 := zf_fin1 (DS := 1) (dp := 0) (fuel := 200000) (q := []) (il := []) (anns := an_59_274) (pcs := [118]) (cand := fun _ _ => an_59_274) (sp := (fun _ => [])) hGl gok_59 (by decide) (fun _ h => absurd h List.not_mem_nil) (fun _ h => absurd h List.not_mem_nil) (fun _ _ _ h => h) (by decide +kernel) (by decide +kernel)
-- SandFlags$Rota.placeFrom
def sm_59_275 : ab_Sm := ([tR 43, tN 0 5, tN 4 4, tN 30 30, tN 10 10, tF], th_63, [([], some (tN 0 1), [])], [])
def an_59_275 : List ab_An := []
theorem sok_59_275 {l : Launch} {D : va_G} {cs : Nat → ClassId} {tS : Nat} (hGl : ab_Gl l ZZ wFF D vwCl cs tS) : ab_SOK l ZZ 2 D vwCl cs tS 59 sm_59_275 := zf_fin1 (DS := 1) (dp := 0) (fuel := 200000) (q := []) (il := []) (anns := an_59_275) (pcs := [118]) (cand := fun _ _ => an_59_275) (sp := (fun _ => [])) hGl gok_59 (by decide) (fun _ h => absurd h List.not_mem_nil) (fun _ h => absurd h List.not_mem_nil) (fun _ _ _ h => h) (by decide +kernel) (by decide +kernel)
-- SandFlags$Rota.placeFrom
def sm_59_276 : ab_Sm := ([tR 43, tN 0 5, tN 4 4, tN 30 30, tN 1 1, tF], th_63, [([], some (tN 0 1), [])], [])
def an_59_276 : List ab_An := []
theorem sok_59_276 {l : Launch} {D : va_G} {cs : Nat → ClassId} {tS : Nat} (hGl : ab_Gl l ZZ wFF D vwCl cs tS) : ab_SOK l ZZ 2 D vwCl cs tS 59 sm_59_276 := zf_fin1 (DS := 1) (dp := 0) (fuel := 200000) (q := []) (il := []) (anns := an_59_276) (pcs := [118]) (cand := fun _ _ => an_59_276) (sp := (fun _ => [])) hGl gok_59 (by decide) (fun _ h => absurd h List.not_mem_nil) (fun _ h => absurd h List.not_mem_nil) (fun _ _ _ h => h) (by decide +kernel) (by decide +kernel)
-- SandFlags$Rota.placeFrom
def sm_59_277 : ab_Sm := ([tR 43, tN 0 5, tN 4 4, tN 30 30, tN 126 126, tF], th_63, [([], some (tN 0 1), [])], [])
def an_59_277 : List ab_An := []
theorem sok_59_277 {l : Launch} {D : va_G} {cs : Nat → ClassId} {tS : Nat} (hGl : ab_Gl l ZZ wFF D vwCl cs tS) : ab_SOK l ZZ 2 D vwCl cs tS 59 sm_59_277 := zf_fin1 (DS := 1) (dp := 0) (fuel := 200000) (q := []) (il := []) (anns := an_59_277) (pcs := [118]) (cand := fun _ _ => an_59_277) (sp := (fun _ => [])) hGl gok_59 (by decide) (fun _ h => absurd h List.not_mem_nil) (fun _ h => absurd h List.not_mem_nil) (fun _ _ _ h => h) (by decide +kernel) (by decide +kernel)
-- SandFlags$Rota.placeFrom
def sm_59_278 : ab_Sm := ([tR 43, tN 0 5, tN 4 4, tN 30 30, tN 26 26, tF], th_63, [([], some (tN 0 1), [])], [])
def an_59_278 : List ab_An := []
theorem sok_59_278 {l : Launch} {D : va_G} {cs : Nat → ClassId} {tS : Nat} (hGl : ab_Gl l ZZ wFF D vwCl cs tS) : ab_SOK l ZZ 2 D vwCl cs tS 59 sm_59_278 := zf_fin1 (DS := 1) (dp := 0) (fuel := 200000) (q := []) (il := []) (anns := an_59_278) (pcs := [118]) (cand := fun _ _ => an_59_278) (sp := (fun _ => [])) hGl gok_59 (by decide) (fun _ h => absurd h List.not_mem_nil) (fun _ h => absurd h List.not_mem_nil) (fun _ _ _ h => h) (by decide +kernel) (by decide +kernel)
-- SandFlags$Rota.placeFrom
def sm_59_279 : ab_Sm := ([tR 43, tN 0 5, tN 4 4, tN 30 30, tN 6 6, tF], th_63, [([], some (tN 0 1), [])], [])
def an_59_279 : List ab_An := []
theorem sok_59_279 {l : Launch} {D : va_G} {cs : Nat → ClassId} {tS : Nat} (hGl : ab_Gl l ZZ wFF D vwCl cs tS) : ab_SOK l ZZ 2 D vwCl cs tS 59 sm_59_279 := zf_fin1 (DS := 1) (dp := 0) (fuel := 200000) (q := []) (il := []) (anns := an_59_279) (pcs := [118]) (cand := fun _ _ => an_59_279) (sp := (fun _ => [])) hGl gok_59 (by decide) (fun _ h => absurd h List.not_mem_nil) (fun _ h => absurd h List.not_mem_nil) (fun _ _ _ h => h) (by decide +kernel) (by decide +kernel)
-- SandFlags$Rota.placeFrom
def sm_59_280 : ab_Sm := ([tR 43, tN 0 5, tN 4 4, tN 30 30, tN 2 2, tF], th_63, [([], some (tN 0 1), [])], [])
def an_59_280 : List ab_An := []
theorem sok_59_280 {l : Launch} {D : va_G} {cs : Nat → ClassId} {tS : Nat} (hGl : ab_Gl l ZZ wFF D vwCl cs tS) : ab_SOK l ZZ 2 D vwCl cs tS 59 sm_59_280 := zf_fin1 (DS := 1) (dp := 0) (fuel := 200000) (q := []) (il := []) (anns := an_59_280) (pcs := [118]) (cand := fun _ _ => an_59_280) (sp := (fun _ => [])) hGl gok_59 (by decide) (fun _ h => absurd h List.not_mem_nil) (fun _ h => absurd h List.not_mem_nil) (fun _ _ _ h => h) (by decide +kernel) (by decide +kernel)
-- SandFlags$Rota.placeFrom
def sm_59_281 : ab_Sm := ([tR 43, tN 0 5, tN 4 4, tN 155 155, tN 0 0, tF], th_63, [([], some (tN 0 1), [])], [])
def an_59_281 : List ab_An := []
theorem sok_59_281 {l : Launch} {D : va_G} {cs : Nat → ClassId} {tS : Nat} (hGl : ab_Gl l ZZ wFF D vwCl cs tS) : ab_SOK l ZZ 2 D vwCl cs tS 59 sm_59_281 := zf_fin1 (DS := 1) (dp := 0) (fuel := 200000) (q := []) (il := []) (anns := an_59_281) (pcs := [118]) (cand := fun _ _ => an_59_281) (sp := (fun _ => [])) hGl gok_59 (by decide) (fun _ h => absurd h List.not_mem_nil) (fun _ h => absurd h List.not_mem_nil) (fun _ _ _ h => h) (by decide +kernel) (by decide +kernel)
-- SandFlags$Rota.placeFrom
def sm_59_282 : ab_Sm := ([tR 43, tN 0 5, tN 4 4, tN 155 155, tN 125 125, tF], th_63, [([], some (tN 0 1), [])], [])
def an_59_282 : List ab_An := []
theorem sok_59_282 {l : Launch} {D : va_G} {cs : Nat → ClassId} {tS : Nat} (hGl : ab_Gl l ZZ wFF D vwCl cs tS) : ab_SOK l ZZ 2 D vwCl cs tS 59 sm_59_282 := zf_fin1 (DS := 1) (dp := 0) (fuel := 200000) (q := []) (il := []) (anns := an_59_282) (pcs := [118]) (cand := fun _ _ => an_59_282) (sp := (fun _ => [])) hGl gok_59 (by decide) (fun _ h => absurd h List.not_mem_nil) (fun _ h => absurd h List.not_mem_nil) (fun _ _ _ h => h) (by decide +kernel) (by decide +kernel)
-- SandFlags$Rota.placeFrom
def sm_59_283 : ab_Sm := ([tR 43, tN 0 5, tN 4 4, tN 155 155, tN 25 25, tF], th_63, [([], some (tN 0 1), [])], [])
def an_59_283 : List ab_An := []
theorem sok_59_283 {l : Launch} {D : va_G} {cs : Nat → ClassId} {tS : Nat} (hGl : ab_Gl l ZZ wFF D vwCl cs tS) : ab_SOK l ZZ 2 D vwCl cs tS 59 sm_59_283 := zf_fin1 (DS := 1) (dp := 0) (fuel := 200000) (q := []) (il := []) (anns := an_59_283) (pcs := [118]) (cand := fun _ _ => an_59_283) (sp := (fun _ => [])) hGl gok_59 (by decide) (fun _ h => absurd h List.not_mem_nil) (fun _ h => absurd h List.not_mem_nil) (fun _ _ _ h => h) (by decide +kernel) (by decide +kernel)
-- SandFlags$Rota.placeFrom
def sm_59_284 : ab_Sm := ([tR 43, tN 0 5, tN 4 4, tN 155 155, tN 5 5, tF], th_63, [([], some (tN 0 1), [])], [])
def an_59_284 : List ab_An := []
theorem sok_59_284 {l : Launch} {D : va_G} {cs : Nat → ClassId} {tS : Nat} (hGl : ab_Gl l ZZ wFF D vwCl cs tS) : ab_SOK l ZZ 2 D vwCl cs tS 59 sm_59_284 := zf_fin1 (DS := 1) (dp := 0) (fuel := 200000) (q := []) (il := []) (anns := an_59_284) (pcs := [118]) (cand := fun _ _ => an_59_284) (sp := (fun _ => [])) hGl gok_59 (by decide) (fun _ h => absurd h List.not_mem_nil) (fun _ h => absurd h List.not_mem_nil) (fun _ _ _ h => h) (by decide +kernel) (by decide +kernel)
-- SandFlags$Rota.placeFrom
def sm_59_285 : ab_Sm := ([tR 43, tN 0 5, tN 4 4, tN 155 155, tN 1 1, tF], th_63, [([], some (tN 0 1), [])], [])
def an_59_285 : List ab_An := []
theorem sok_59_285 {l : Launch} {D : va_G} {cs : Nat → ClassId} {tS : Nat} (hGl : ab_Gl l ZZ wFF D vwCl cs tS) : ab_SOK l ZZ 2 D vwCl cs tS 59 sm_59_285 := zf_fin1 (DS := 1) (dp := 0) (fuel := 200000) (q := []) (il := []) (anns := an_59_285) (pcs := [118]) (cand := fun _ _ => an_59_285) (sp := (fun _ => [])) hGl gok_59 (by decide) (fun _ h => absurd h List.not_mem_nil) (fun _ h => absurd h List.not_mem_nil) (fun _ _ _ h => h) (by decide +kernel) (by decide +kernel)
-- SandFlags$Rota.placeFrom
def sm_59_286 : ab_Sm := ([tR 43, tN 0 5, tN 4 4, tN 280 280, tN 0 0, tF], th_63, [([], some (tN 0 1), [])], [])
def an_59_286 : List ab_An := []
theorem sok_59_286 {l : Launch} {D : va_G} {cs : Nat → ClassId} {tS : Nat} (hGl : ab_Gl l ZZ wFF D vwCl cs tS) : ab_SOK l ZZ 2 D vwCl cs tS 59 sm_59_286 := zf_fin1 (DS := 1) (dp := 0) (fuel := 200000) (q := []) (il := []) (anns := an_59_286) (pcs := [118]) (cand := fun _ _ => an_59_286) (sp := (fun _ => [])) hGl gok_59 (by decide) (fun _ h => absurd h List.not_mem_nil) (fun _ h => absurd h List.not_mem_nil) (fun _ _ _ h => h) (by decide +kernel) (by decide +kernel)
-- SandFlags$Rota.placeFrom
def sm_59_287 : ab_Sm := ([tR 43, tN 0 5, tN 4 4, tN 55 55, tN 0 0, tF], th_63, [([], some (tN 0 1), [])], [])
def an_59_287 : List ab_An := []
theorem sok_59_287 {l : Launch} {D : va_G} {cs : Nat → ClassId} {tS : Nat} (hGl : ab_Gl l ZZ wFF D vwCl cs tS) : ab_SOK l ZZ 2 D vwCl cs tS 59 sm_59_287 := zf_fin1 (DS := 1) (dp := 0) (fuel := 200000) (q := []) (il := []) (anns := an_59_287) (pcs := [118]) (cand := fun _ _ => an_59_287) (sp := (fun _ => [])) hGl gok_59 (by decide) (fun _ h => absurd h List.not_mem_nil) (fun _ h => absurd h List.not_mem_nil) (fun _ _ _ h => h) (by decide +kernel) (by decide +kernel)
-- SandFlags$Rota.placeFrom
def sm_59_288 : ab_Sm := ([tR 43, tN 0 5, tN 4 4, tN 55 55, tN 125 125, tF], th_63, [([], some (tN 0 1), [])], [])
def an_59_288 : List ab_An := []
theorem sok_59_288 {l : Launch} {D : va_G} {cs : Nat → ClassId} {tS : Nat} (hGl : ab_Gl l ZZ wFF D vwCl cs tS) : ab_SOK l ZZ 2 D vwCl cs tS 59 sm_59_288 := zf_fin1 (DS := 1) (dp := 0) (fuel := 200000) (q := []) (il := []) (anns := an_59_288) (pcs := [118]) (cand := fun _ _ => an_59_288) (sp := (fun _ => [])) hGl gok_59 (by decide) (fun _ h => absurd h List.not_mem_nil) (fun _ h => absurd h List.not_mem_nil) (fun _ _ _ h => h) (by decide +kernel) (by decide +kernel)
-- SandFlags$Rota.placeFrom
def sm_59_289 : ab_Sm := ([tR 43, tN 0 5, tN 4 4, tN 55 55, tN 25 25, tF], th_63, [([], some (tN 0 1), [])], [])
def an_59_289 : List ab_An := []
theorem sok_59_289 {l : Launch} {D : va_G} {cs : Nat → ClassId} {tS : Nat} (hGl : ab_Gl l ZZ wFF D vwCl cs tS) : ab_SOK l ZZ 2 D vwCl cs tS 59 sm_59_289 := zf_fin1 (DS := 1) (dp := 0) (fuel := 200000) (q := []) (il := []) (anns := an_59_289) (pcs := [118]) (cand := fun _ _ => an_59_289) (sp := (fun _ => [])) hGl gok_59 (by decide) (fun _ h => absurd h List.not_mem_nil) (fun _ h => absurd h List.not_mem_nil) (fun _ _ _ h => h) (by decide +kernel) (by decide +kernel)
-- SandFlags$Rota.placeFrom
def sm_59_290 : ab_Sm := ([tR 43, tN 0 5, tN 4 4, tN 55 55, tN 5 5, tF], th_63, [([], some (tN 0 1), [])], [])
def an_59_290 : List ab_An := []
theorem sok_59_290 {l : Launch} {D : va_G} {cs : Nat → ClassId} {tS : Nat} (hGl : ab_Gl l ZZ wFF D vwCl cs tS) : ab_SOK l ZZ 2 D vwCl cs tS 59 sm_59_290 := zf_fin1 (DS := 1) (dp := 0) (fuel := 200000) (q := []) (il := []) (anns := an_59_290) (pcs := [118]) (cand := fun _ _ => an_59_290) (sp := (fun _ => [])) hGl gok_59 (by decide) (fun _ h => absurd h List.not_mem_nil) (fun _ h => absurd h List.not_mem_nil) (fun _ _ _ h => h) (by decide +kernel) (by decide +kernel)
-- SandFlags$Rota.placeFrom
def sm_59_291 : ab_Sm := ([tR 43, tN 0 5, tN 4 4, tN 55 55, tN 1 1, tF], th_63, [([], some (tN 0 1), [])], [])
def an_59_291 : List ab_An := []
theorem sok_59_291 {l : Launch} {D : va_G} {cs : Nat → ClassId} {tS : Nat} (hGl : ab_Gl l ZZ wFF D vwCl cs tS) : ab_SOK l ZZ 2 D vwCl cs tS 59 sm_59_291 := zf_fin1 (DS := 1) (dp := 0) (fuel := 200000) (q := []) (il := []) (anns := an_59_291) (pcs := [118]) (cand := fun _ _ => an_59_291) (sp := (fun _ => [])) hGl gok_59 (by decide) (fun _ h => absurd h List.not_mem_nil) (fun _ h => absurd h List.not_mem_nil) (fun _ _ _ h => h) (by decide +kernel) (by decide +kernel)
-- SandFlags$Rota.placeFrom
def sm_59_292 : ab_Sm := ([tR 43, tN 0 5, tN 4 4, tN 180 180, tN 0 0, tF], th_63, [([], some (tN 0 1), [])], [])
def an_59_292 : List ab_An := []
theorem sok_59_292 {l : Launch} {D : va_G} {cs : Nat → ClassId} {tS : Nat} (hGl : ab_Gl l ZZ wFF D vwCl cs tS) : ab_SOK l ZZ 2 D vwCl cs tS 59 sm_59_292 := zf_fin1 (DS := 1) (dp := 0) (fuel := 200000) (q := []) (il := []) (anns := an_59_292) (pcs := [118]) (cand := fun _ _ => an_59_292) (sp := (fun _ => [])) hGl gok_59 (by decide) (fun _ h => absurd h List.not_mem_nil) (fun _ h => absurd h List.not_mem_nil) (fun _ _ _ h => h) (by decide +kernel) (by decide +kernel)
-- SandFlags$Rota.placeFrom
def sm_59_293 : ab_Sm := ([tR 43, tN 0 5, tN 4 4, tN 80 80, tN 0 0, tF], th_63, [([], some (tN 0 1), [])], [])
def an_59_293 : List ab_An := []
theorem sok_59_293 {l : Launch} {D : va_G} {cs : Nat → ClassId} {tS : Nat} (hGl : ab_Gl l ZZ wFF D vwCl cs tS) : ab_SOK l ZZ 2 D vwCl cs tS 59 sm_59_293 := zf_fin1 (DS := 1) (dp := 0) (fuel := 200000) (q := []) (il := []) (anns := an_59_293) (pcs := [118]) (cand := fun _ _ => an_59_293) (sp := (fun _ => [])) hGl gok_59 (by decide) (fun _ h => absurd h List.not_mem_nil) (fun _ h => absurd h List.not_mem_nil) (fun _ _ _ h => h) (by decide +kernel) (by decide +kernel)
-- SandFlags$Rota.placeFrom
def sm_59_294 : ab_Sm := ([tR 43, tN 0 5, tN 4 4, tN 10 10, tN 0 0, tF], th_63, [([], some (tN 0 1), [])], [])
def an_59_294 : List ab_An := []
theorem sok_59_294 {l : Launch} {D : va_G} {cs : Nat → ClassId} {tS : Nat} (hGl : ab_Gl l ZZ wFF D vwCl cs tS) : ab_SOK l ZZ 2 D vwCl cs tS 59 sm_59_294 := zf_fin1 (DS := 1) (dp := 0) (fuel := 200000) (q := []) (il := []) (anns := an_59_294) (pcs := [118]) (cand := fun _ _ => an_59_294) (sp := (fun _ => [])) hGl gok_59 (by decide) (fun _ h => absurd h List.not_mem_nil) (fun _ h => absurd h List.not_mem_nil) (fun _ _ _ h => h) (by decide +kernel) (by decide +kernel)
-- SandFlags$Rota.placeFrom
def sm_59_295 : ab_Sm := ([tR 43, tN 0 5, tN 4 4, tN 10 10, tN 125 125, tF], th_63, [([], some (tN 0 1), [])], [])
def an_59_295 : List ab_An := []
theorem sok_59_295 {l : Launch} {D : va_G} {cs : Nat → ClassId} {tS : Nat} (hGl : ab_Gl l ZZ wFF D vwCl cs tS) : ab_SOK l ZZ 2 D vwCl cs tS 59 sm_59_295 := zf_fin1 (DS := 1) (dp := 0) (fuel := 200000) (q := []) (il := []) (anns := an_59_295) (pcs := [118]) (cand := fun _ _ => an_59_295) (sp := (fun _ => [])) hGl gok_59 (by decide) (fun _ h => absurd h List.not_mem_nil) (fun _ h => absurd h List.not_mem_nil) (fun _ _ _ h => h) (by decide +kernel) (by decide +kernel)
-- SandFlags$Rota.placeFrom
def sm_59_296 : ab_Sm := ([tR 43, tN 0 5, tN 4 4, tN 10 10, tN 250 250, tF], th_63, [([], some (tN 0 1), [])], [])
def an_59_296 : List ab_An := []
theorem sok_59_296 {l : Launch} {D : va_G} {cs : Nat → ClassId} {tS : Nat} (hGl : ab_Gl l ZZ wFF D vwCl cs tS) : ab_SOK l ZZ 2 D vwCl cs tS 59 sm_59_296 := zf_fin1 (DS := 1) (dp := 0) (fuel := 200000) (q := []) (il := []) (anns := an_59_296) (pcs := [118]) (cand := fun _ _ => an_59_296) (sp := (fun _ => [])) hGl gok_59 (by decide) (fun _ h => absurd h List.not_mem_nil) (fun _ h => absurd h List.not_mem_nil) (fun _ _ _ h => h) (by decide +kernel) (by decide +kernel)
-- SandFlags$Rota.placeFrom
def sm_59_297 : ab_Sm := ([tR 43, tN 0 5, tN 4 4, tN 10 10, tN 25 25, tF], th_63, [([], some (tN 0 1), [])], [])
def an_59_297 : List ab_An := []
theorem sok_59_297 {l : Launch} {D : va_G} {cs : Nat → ClassId} {tS : Nat} (hGl : ab_Gl l ZZ wFF D vwCl cs tS) : ab_SOK l ZZ 2 D vwCl cs tS 59 sm_59_297 := zf_fin1 (DS := 1) (dp := 0) (fuel := 200000) (q := []) (il := []) (anns := an_59_297) (pcs := [118]) (cand := fun _ _ => an_59_297) (sp := (fun _ => [])) hGl gok_59 (by decide) (fun _ h => absurd h List.not_mem_nil) (fun _ h => absurd h List.not_mem_nil) (fun _ _ _ h => h) (by decide +kernel) (by decide +kernel)
-- SandFlags$Rota.placeFrom
def sm_59_298 : ab_Sm := ([tR 43, tN 0 5, tN 4 4, tN 10 10, tN 150 150, tF], th_63, [([], some (tN 0 1), [])], [])
def an_59_298 : List ab_An := []
theorem sok_59_298 {l : Launch} {D : va_G} {cs : Nat → ClassId} {tS : Nat} (hGl : ab_Gl l ZZ wFF D vwCl cs tS) : ab_SOK l ZZ 2 D vwCl cs tS 59 sm_59_298 := zf_fin1 (DS := 1) (dp := 0) (fuel := 200000) (q := []) (il := []) (anns := an_59_298) (pcs := [118]) (cand := fun _ _ => an_59_298) (sp := (fun _ => [])) hGl gok_59 (by decide) (fun _ h => absurd h List.not_mem_nil) (fun _ h => absurd h List.not_mem_nil) (fun _ _ _ h => h) (by decide +kernel) (by decide +kernel)
-- SandFlags$Rota.placeFrom
def sm_59_299 : ab_Sm := ([tR 43, tN 0 5, tN 4 4, tN 10 10, tN 50 50, tF], th_63, [([], some (tN 0 1), [])], [])
def an_59_299 : List ab_An := []
theorem sok_59_299 {l : Launch} {D : va_G} {cs : Nat → ClassId} {tS : Nat} (hGl : ab_Gl l ZZ wFF D vwCl cs tS) : ab_SOK l ZZ 2 D vwCl cs tS 59 sm_59_299 := zf_fin1 (DS := 1) (dp := 0) (fuel := 200000) (q := []) (il := []) (anns := an_59_299) (pcs := [118]) (cand := fun _ _ => an_59_299) (sp := (fun _ => [])) hGl gok_59 (by decide) (fun _ h => absurd h List.not_mem_nil) (fun _ h => absurd h List.not_mem_nil) (fun _ _ _ h => h) (by decide +kernel) (by decide +kernel)
-- SandFlags$Rota.placeFrom
def sm_59_300 : ab_Sm := ([tR 43, tN 0 5, tN 4 4, tN 10 10, tN 5 5, tF], th_63, [([], some (tN 0 1), [])], [])
def an_59_300 : List ab_An := []
theorem sok_59_300 {l : Launch} {D : va_G} {cs : Nat → ClassId} {tS : Nat} (hGl : ab_Gl l ZZ wFF D vwCl cs tS) : ab_SOK l ZZ 2 D vwCl cs tS 59 sm_59_300 := zf_fin1 (DS := 1) (dp := 0) (fuel := 200000) (q := []) (il := []) (anns := an_59_300) (pcs := [118]) (cand := fun _ _ => an_59_300) (sp := (fun _ => [])) hGl gok_59 (by decide) (fun _ h => absurd h List.not_mem_nil) (fun _ h => absurd h List.not_mem_nil) (fun _ _ _ h => h) (by decide +kernel) (by decide +kernel)
-- SandFlags$Rota.placeFrom
def sm_59_301 : ab_Sm := ([tR 43, tN 0 5, tN 4 4, tN 10 10, tN 130 130, tF], th_63, [([], some (tN 0 1), [])], [])
def an_59_301 : List ab_An := []
theorem sok_59_301 {l : Launch} {D : va_G} {cs : Nat → ClassId} {tS : Nat} (hGl : ab_Gl l ZZ wFF D vwCl cs tS) : ab_SOK l ZZ 2 D vwCl cs tS 59 sm_59_301 := zf_fin1 (DS := 1) (dp := 0) (fuel := 200000) (q := []) (il := []) (anns := an_59_301) (pcs := [118]) (cand := fun _ _ => an_59_301) (sp := (fun _ => [])) hGl gok_59 (by decide) (fun _ h => absurd h List.not_mem_nil) (fun _ h => absurd h List.not_mem_nil) (fun _ _ _ h => h) (by decide +kernel) (by decide +kernel)
-- SandFlags$Rota.placeFrom
def sm_59_302 : ab_Sm := ([tR 43, tN 0 5, tN 4 4, tN 10 10, tN 30 30, tF], th_63, [([], some (tN 0 1), [])], [])
def an_59_302 : List ab_An := []
theorem sok_59_302 {l : Launch} {D : va_G} {cs : Nat → ClassId} {tS : Nat} (hGl : ab_Gl l ZZ wFF D vwCl cs tS) : ab_SOK l ZZ 2 D vwCl cs tS 59 sm_59_302 := zf_fin1 (DS := 1) (dp := 0) (fuel := 200000) (q := []) (il := []) (anns := an_59_302) (pcs := [118]) (cand := fun _ _ => an_59_302) (sp := (fun _ => [])) hGl gok_59 (by decide) (fun _ h => absurd h List.not_mem_nil) (fun _ h => absurd h List.not_mem_nil) (fun _ _ _ h => h) (by decide +kernel) (by decide +kernel)
-- SandFlags$Rota.placeFrom
def sm_59_303 : ab_Sm := ([tR 43, tN 0 5, tN 4 4, tN 10 10, tN 10 10, tF], th_63, [([], some (tN 0 1), [])], [])
def an_59_303 : List ab_An := []
theorem sok_59_303 {l : Launch} {D : va_G} {cs : Nat → ClassId} {tS : Nat} (hGl : ab_Gl l ZZ wFF D vwCl cs tS) : ab_SOK l ZZ 2 D vwCl cs tS 59 sm_59_303 := zf_fin1 (DS := 1) (dp := 0) (fuel := 200000) (q := []) (il := []) (anns := an_59_303) (pcs := [118]) (cand := fun _ _ => an_59_303) (sp := (fun _ => [])) hGl gok_59 (by decide) (fun _ h => absurd h List.not_mem_nil) (fun _ h => absurd h List.not_mem_nil) (fun _ _ _ h => h) (by decide +kernel) (by decide +kernel)
-- SandFlags$Rota.placeFrom
def sm_59_304 : ab_Sm := ([tR 43, tN 0 5, tN 4 4, tN 10 10, tN 1 1, tF], th_63, [([], some (tN 0 1), [])], [])
def an_59_304 : List ab_An := []
theorem sok_59_304 {l : Launch} {D : va_G} {cs : Nat → ClassId} {tS : Nat} (hGl : ab_Gl l ZZ wFF D vwCl cs tS) : ab_SOK l ZZ 2 D vwCl cs tS 59 sm_59_304 := zf_fin1 (DS := 1) (dp := 0) (fuel := 200000) (q := []) (il := []) (anns := an_59_304) (pcs := [118]) (cand := fun _ _ => an_59_304) (sp := (fun _ => [])) hGl gok_59 (by decide) (fun _ h => absurd h List.not_mem_nil) (fun _ h => absurd h List.not_mem_nil) (fun _ _ _ h => h) (by decide +kernel) (by decide +kernel)
-- SandFlags$Rota.placeFrom
def sm_59_305 : ab_Sm := ([tR 43, tN 0 5, tN 4 4, tN 10 10, tN 126 126, tF], th_63, [([], some (tN 0 1), [])], [])
def an_59_305 : List ab_An := []
theorem sok_59_305 {l : Launch} {D : va_G} {cs : Nat → ClassId} {tS : Nat} (hGl : ab_Gl l ZZ wFF D vwCl cs tS) : ab_SOK l ZZ 2 D vwCl cs tS 59 sm_59_305 := zf_fin1 (DS := 1) (dp := 0) (fuel := 200000) (q := []) (il := []) (anns := an_59_305) (pcs := [118]) (cand := fun _ _ => an_59_305) (sp := (fun _ => [])) hGl gok_59 (by decide) (fun _ h => absurd h List.not_mem_nil) (fun _ h => absurd h List.not_mem_nil) (fun _ _ _ h => h) (by decide +kernel) (by decide +kernel)
-- SandFlags$Rota.placeFrom
def sm_59_306 : ab_Sm := ([tR 43, tN 0 5, tN 4 4, tN 10 10, tN 26 26, tF], th_63, [([], some (tN 0 1), [])], [])
def an_59_306 : List ab_An := []
theorem sok_59_306 {l : Launch} {D : va_G} {cs : Nat → ClassId} {tS : Nat} (hGl : ab_Gl l ZZ wFF D vwCl cs tS) : ab_SOK l ZZ 2 D vwCl cs tS 59 sm_59_306 := zf_fin1 (DS := 1) (dp := 0) (fuel := 200000) (q := []) (il := []) (anns := an_59_306) (pcs := [118]) (cand := fun _ _ => an_59_306) (sp := (fun _ => [])) hGl gok_59 (by decide) (fun _ h => absurd h List.not_mem_nil) (fun _ h => absurd h List.not_mem_nil) (fun _ _ _ h => h) (by decide +kernel) (by decide +kernel)
-- SandFlags$Rota.placeFrom
def sm_59_307 : ab_Sm := ([tR 43, tN 0 5, tN 4 4, tN 10 10, tN 6 6, tF], th_63, [([], some (tN 0 1), [])], [])
def an_59_307 : List ab_An := []
theorem sok_59_307 {l : Launch} {D : va_G} {cs : Nat → ClassId} {tS : Nat} (hGl : ab_Gl l ZZ wFF D vwCl cs tS) : ab_SOK l ZZ 2 D vwCl cs tS 59 sm_59_307 := zf_fin1 (DS := 1) (dp := 0) (fuel := 200000) (q := []) (il := []) (anns := an_59_307) (pcs := [118]) (cand := fun _ _ => an_59_307) (sp := (fun _ => [])) hGl gok_59 (by decide) (fun _ h => absurd h List.not_mem_nil) (fun _ h => absurd h List.not_mem_nil) (fun _ _ _ h => h) (by decide +kernel) (by decide +kernel)
-- SandFlags$Rota.placeFrom
def sm_59_308 : ab_Sm := ([tR 43, tN 0 5, tN 4 4, tN 10 10, tN 2 2, tF], th_63, [([], some (tN 0 1), [])], [])
def an_59_308 : List ab_An := []
theorem sok_59_308 {l : Launch} {D : va_G} {cs : Nat → ClassId} {tS : Nat} (hGl : ab_Gl l ZZ wFF D vwCl cs tS) : ab_SOK l ZZ 2 D vwCl cs tS 59 sm_59_308 := zf_fin1 (DS := 1) (dp := 0) (fuel := 200000) (q := []) (il := []) (anns := an_59_308) (pcs := [118]) (cand := fun _ _ => an_59_308) (sp := (fun _ => [])) hGl gok_59 (by decide) (fun _ h => absurd h List.not_mem_nil) (fun _ h => absurd h List.not_mem_nil) (fun _ _ _ h => h) (by decide +kernel) (by decide +kernel)
-- SandFlags$Rota.placeFrom
def sm_59_309 : ab_Sm := ([tR 43, tN 0 5, tN 4 4, tN 135 135, tN 0 0, tF], th_63, [([], some (tN 0 1), [])], [])
def an_59_309 : List ab_An := []
theorem sok_59_309 {l : Launch} {D : va_G} {cs : Nat → ClassId} {tS : Nat} (hGl : ab_Gl l ZZ wFF D vwCl cs tS) : ab_SOK l ZZ 2 D vwCl cs tS 59 sm_59_309 := zf_fin1 (DS := 1) (dp := 0) (fuel := 200000) (q := []) (il := []) (anns := an_59_309) (pcs := [118]) (cand := fun _ _ => an_59_309) (sp := (fun _ => [])) hGl gok_59 (by decide) (fun _ h => absurd h List.not_mem_nil) (fun _ h => absurd h List.not_mem_nil) (fun _ _ _ h => h) (by decide +kernel) (by decide +kernel)
-- SandFlags$Rota.placeFrom
def sm_59_310 : ab_Sm := ([tR 43, tN 0 5, tN 4 4, tN 135 135, tN 125 125, tF], th_63, [([], some (tN 0 1), [])], [])
def an_59_310 : List ab_An := []
theorem sok_59_310 {l : Launch} {D : va_G} {cs : Nat → ClassId} {tS : Nat} (hGl : ab_Gl l ZZ wFF D vwCl cs tS) : ab_SOK l ZZ 2 D vwCl cs tS 59 sm_59_310 := zf_fin1 (DS := 1) (dp := 0) (fuel := 200000) (q := []) (il := []) (anns := an_59_310) (pcs := [118]) (cand := fun _ _ => an_59_310) (sp := (fun _ => [])) hGl gok_59 (by decide) (fun _ h => absurd h List.not_mem_nil) (fun _ h => absurd h List.not_mem_nil) (fun _ _ _ h => h) (by decide +kernel) (by decide +kernel)
-- SandFlags$Rota.placeFrom
def sm_59_311 : ab_Sm := ([tR 43, tN 0 5, tN 4 4, tN 135 135, tN 25 25, tF], th_63, [([], some (tN 0 1), [])], [])
def an_59_311 : List ab_An := []
theorem sok_59_311 {l : Launch} {D : va_G} {cs : Nat → ClassId} {tS : Nat} (hGl : ab_Gl l ZZ wFF D vwCl cs tS) : ab_SOK l ZZ 2 D vwCl cs tS 59 sm_59_311 := zf_fin1 (DS := 1) (dp := 0) (fuel := 200000) (q := []) (il := []) (anns := an_59_311) (pcs := [118]) (cand := fun _ _ => an_59_311) (sp := (fun _ => [])) hGl gok_59 (by decide) (fun _ h => absurd h List.not_mem_nil) (fun _ h => absurd h List.not_mem_nil) (fun _ _ _ h => h) (by decide +kernel) (by decide +kernel)
-- SandFlags$Rota.placeFrom
def sm_59_312 : ab_Sm := ([tR 43, tN 0 5, tN 4 4, tN 135 135, tN 5 5, tF], th_63, [([], some (tN 0 1), [])], [])
def an_59_312 : List ab_An := []
theorem sok_59_312 {l : Launch} {D : va_G} {cs : Nat → ClassId} {tS : Nat} (hGl : ab_Gl l ZZ wFF D vwCl cs tS) : ab_SOK l ZZ 2 D vwCl cs tS 59 sm_59_312 := zf_fin1 (DS := 1) (dp := 0) (fuel := 200000) (q := []) (il := []) (anns := an_59_312) (pcs := [118]) (cand := fun _ _ => an_59_312) (sp := (fun _ => [])) hGl gok_59 (by decide) (fun _ h => absurd h List.not_mem_nil) (fun _ h => absurd h List.not_mem_nil) (fun _ _ _ h => h) (by decide +kernel) (by decide +kernel)
-- SandFlags$Rota.placeFrom
def sm_59_313 : ab_Sm := ([tR 43, tN 0 5, tN 4 4, tN 135 135, tN 1 1, tF], th_63, [([], some (tN 0 1), [])], [])
def an_59_313 : List ab_An := []
theorem sok_59_313 {l : Launch} {D : va_G} {cs : Nat → ClassId} {tS : Nat} (hGl : ab_Gl l ZZ wFF D vwCl cs tS) : ab_SOK l ZZ 2 D vwCl cs tS 59 sm_59_313 := zf_fin1 (DS := 1) (dp := 0) (fuel := 200000) (q := []) (il := []) (anns := an_59_313) (pcs := [118]) (cand := fun _ _ => an_59_313) (sp := (fun _ => [])) hGl gok_59 (by decide) (fun _ h => absurd h List.not_mem_nil) (fun _ h => absurd h List.not_mem_nil) (fun _ _ _ h => h) (by decide +kernel) (by decide +kernel)
-- SandFlags$Rota.placeFrom
def sm_59_314 : ab_Sm := ([tR 43, tN 0 5, tN 4 4, tN 260 260, tN 0 0, tF], th_63, [([], some (tN 0 1), [])], [])
def an_59_314 : List ab_An := []
theorem sok_59_314 {l : Launch} {D : va_G} {cs : Nat → ClassId} {tS : Nat} (hGl : ab_Gl l ZZ wFF D vwCl cs tS) : ab_SOK l ZZ 2 D vwCl cs tS 59 sm_59_314 := zf_fin1 (DS := 1) (dp := 0) (fuel := 200000) (q := []) (il := []) (anns := an_59_314) (pcs := [118]) (cand := fun _ _ => an_59_314) (sp := (fun _ => [])) hGl gok_59 (by decide) (fun _ h => absurd h List.not_mem_nil) (fun _ h => absurd h List.not_mem_nil) (fun _ _ _ h => h) (by decide +kernel) (by decide +kernel)
-- SandFlags$Rota.placeFrom
def sm_59_315 : ab_Sm := ([tR 43, tN 0 5, tN 4 4, tN 35 35, tN 0 0, tF], th_63, [([], some (tN 0 1), [])], [])
def an_59_315 : List ab_An := []
theorem sok_59_315 {l : Launch} {D : va_G} {cs : Nat → ClassId} {tS : Nat} (hGl : ab_Gl l ZZ wFF D vwCl cs tS) : ab_SOK l ZZ 2 D vwCl cs tS 59 sm_59_315 := zf_fin1 (DS := 1) (dp := 0) (fuel := 200000) (q := []) (il := []) (anns := an_59_315) (pcs := [118]) (cand := fun _ _ => an_59_315) (sp := (fun _ => [])) hGl gok_59 (by decide) (fun _ h => absurd h List.not_mem_nil) (fun _ h => absurd h List.not_mem_nil) (fun _ _ _ h => h) (by decide +kernel) (by decide +kernel)
-- SandFlags$Rota.placeFrom
def sm_59_316 : ab_Sm := ([tR 43, tN 0 5, tN 4 4, tN 35 35, tN 125 125, tF], th_63, [([], some (tN 0 1), [])], [])
def an_59_316 : List ab_An := []
theorem sok_59_316 {l : Launch} {D : va_G} {cs : Nat → ClassId} {tS : Nat} (hGl : ab_Gl l ZZ wFF D vwCl cs tS) : ab_SOK l ZZ 2 D vwCl cs tS 59 sm_59_316 := zf_fin1 (DS := 1) (dp := 0) (fuel := 200000) (q := []) (il := []) (anns := an_59_316) (pcs := [118]) (cand := fun _ _ => an_59_316) (sp := (fun _ => [])) hGl gok_59 (by decide) (fun _ h => absurd h List.not_mem_nil) (fun _ h => absurd h List.not_mem_nil) (fun _ _ _ h => h) (by decide +kernel) (by decide +kernel)
-- SandFlags$Rota.placeFrom
def sm_59_317 : ab_Sm := ([tR 43, tN 0 5, tN 4 4, tN 35 35, tN 25 25, tF], th_63, [([], some (tN 0 1), [])], [])
def an_59_317 : List ab_An := []
theorem sok_59_317 {l : Launch} {D : va_G} {cs : Nat → ClassId} {tS : Nat} (hGl : ab_Gl l ZZ wFF D vwCl cs tS) : ab_SOK l ZZ 2 D vwCl cs tS 59 sm_59_317 := zf_fin1 (DS := 1) (dp := 0) (fuel := 200000) (q := []) (il := []) (anns := an_59_317) (pcs := [118]) (cand := fun _ _ => an_59_317) (sp := (fun _ => [])) hGl gok_59 (by decide) (fun _ h => absurd h List.not_mem_nil) (fun _ h => absurd h List.not_mem_nil) (fun _ _ _ h => h) (by decide +kernel) (by decide +kernel)
-- SandFlags$Rota.placeFrom
def sm_59_318 : ab_Sm := ([tR 43, tN 0 5, tN 4 4, tN 35 35, tN 5 5, tF], th_63, [([], some (tN 0 1), [])], [])
def an_59_318 : List ab_An := []
theorem sok_59_318 {l : Launch} {D : va_G} {cs : Nat → ClassId} {tS : Nat} (hGl : ab_Gl l ZZ wFF D vwCl cs tS) : ab_SOK l ZZ 2 D vwCl cs tS 59 sm_59_318 := zf_fin1 (DS := 1) (dp := 0) (fuel := 200000) (q := []) (il := []) (anns := an_59_318) (pcs := [118]) (cand := fun _ _ => an_59_318) (sp := (fun _ => [])) hGl gok_59 (by decide) (fun _ h => absurd h List.not_mem_nil) (fun _ h => absurd h List.not_mem_nil) (fun _ _ _ h => h) (by decide +kernel) (by decide +kernel)
-- SandFlags$Rota.placeFrom
def sm_59_319 : ab_Sm := ([tR 43, tN 0 5, tN 4 4, tN 35 35, tN 1 1, tF], th_63, [([], some (tN 0 1), [])], [])
def an_59_319 : List ab_An := []
theorem sok_59_319 {l : Launch} {D : va_G} {cs : Nat → ClassId} {tS : Nat} (hGl : ab_Gl l ZZ wFF D vwCl cs tS) : ab_SOK l ZZ 2 D vwCl cs tS 59 sm_59_319 := zf_fin1 (DS := 1) (dp := 0) (fuel := 200000) (q := []) (il := []) (anns := an_59_319) (pcs := [118]) (cand := fun _ _ => an_59_319) (sp := (fun _ => [])) hGl gok_59 (by decide) (fun _ h => absurd h List.not_mem_nil) (fun _ h => absurd h List.not_mem_nil) (fun _ _ _ h => h) (by decide +kernel) (by decide +kernel)
-- SandFlags$Rota.placeFrom
def sm_59_320 : ab_Sm := ([tR 43, tN 0 5, tN 4 4, tN 160 160, tN 0 0, tF], th_63, [([], some (tN 0 1), [])], [])
def an_59_320 : List ab_An := []
theorem sok_59_320 {l : Launch} {D : va_G} {cs : Nat → ClassId} {tS : Nat} (hGl : ab_Gl l ZZ wFF D vwCl cs tS) : ab_SOK l ZZ 2 D vwCl cs tS 59 sm_59_320 := zf_fin1 (DS := 1) (dp := 0) (fuel := 200000) (q := []) (il := []) (anns := an_59_320) (pcs := [118]) (cand := fun _ _ => an_59_320) (sp := (fun _ => [])) hGl gok_59 (by decide) (fun _ h => absurd h List.not_mem_nil) (fun _ h => absurd h List.not_mem_nil) (fun _ _ _ h => h) (by decide +kernel) (by decide +kernel)
-- SandFlags$Rota.placeFrom
def sm_59_321 : ab_Sm := ([tR 43, tN 0 5, tN 4 4, tN 60 60, tN 0 0, tF], th_63, [([], some (tN 0 1), [])], [])
def an_59_321 : List ab_An := []
theorem sok_59_321 {l : Launch} {D : va_G} {cs : Nat → ClassId} {tS : Nat} (hGl : ab_Gl l ZZ wFF D vwCl cs tS) : ab_SOK l ZZ 2 D vwCl cs tS 59 sm_59_321 := zf_fin1 (DS := 1) (dp := 0) (fuel := 200000) (q := []) (il := []) (anns := an_59_321) (pcs := [118]) (cand := fun _ _ => an_59_321) (sp := (fun _ => [])) hGl gok_59 (by decide) (fun _ h => absurd h List.not_mem_nil) (fun _ h => absurd h List.not_mem_nil) (fun _ _ _ h => h) (by decide +kernel) (by decide +kernel)
-- SandFlags$Rota.placeFrom
def sm_59_322 : ab_Sm := ([tR 43, tN 0 5, tN 4 4, tN 15 15, tN 0 0, tF], th_63, [([], some (tN 0 1), [])], [])
def an_59_322 : List ab_An := []
theorem sok_59_322 {l : Launch} {D : va_G} {cs : Nat → ClassId} {tS : Nat} (hGl : ab_Gl l ZZ wFF D vwCl cs tS) : ab_SOK l ZZ 2 D vwCl cs tS 59 sm_59_322 := zf_fin1 (DS := 1) (dp := 0) (fuel := 200000) (q := []) (il := []) (anns := an_59_322) (pcs := [118]) (cand := fun _ _ => an_59_322) (sp := (fun _ => [])) hGl gok_59 (by decide) (fun _ h => absurd h List.not_mem_nil) (fun _ h => absurd h List.not_mem_nil) (fun _ _ _ h => h) (by decide +kernel) (by decide +kernel)
-- SandFlags$Rota.placeFrom
def sm_59_323 : ab_Sm := ([tR 43, tN 0 5, tN 4 4, tN 15 15, tN 125 125, tF], th_63, [([], some (tN 0 1), [])], [])
def an_59_323 : List ab_An := []
theorem sok_59_323 {l : Launch} {D : va_G} {cs : Nat → ClassId} {tS : Nat} (hGl : ab_Gl l ZZ wFF D vwCl cs tS) : ab_SOK l ZZ 2 D vwCl cs tS 59 sm_59_323 := zf_fin1 (DS := 1) (dp := 0) (fuel := 200000) (q := []) (il := []) (anns := an_59_323) (pcs := [118]) (cand := fun _ _ => an_59_323) (sp := (fun _ => [])) hGl gok_59 (by decide) (fun _ h => absurd h List.not_mem_nil) (fun _ h => absurd h List.not_mem_nil) (fun _ _ _ h => h) (by decide +kernel) (by decide +kernel)
-- SandFlags$Rota.placeFrom
def sm_59_324 : ab_Sm := ([tR 43, tN 0 5, tN 4 4, tN 15 15, tN 25 25, tF], th_63, [([], some (tN 0 1), [])], [])
def an_59_324 : List ab_An := []
theorem sok_59_324 {l : Launch} {D : va_G} {cs : Nat → ClassId} {tS : Nat} (hGl : ab_Gl l ZZ wFF D vwCl cs tS) : ab_SOK l ZZ 2 D vwCl cs tS 59 sm_59_324 := zf_fin1 (DS := 1) (dp := 0) (fuel := 200000) (q := []) (il := []) (anns := an_59_324) (pcs := [118]) (cand := fun _ _ => an_59_324) (sp := (fun _ => [])) hGl gok_59 (by decide) (fun _ h => absurd h List.not_mem_nil) (fun _ h => absurd h List.not_mem_nil) (fun _ _ _ h => h) (by decide +kernel) (by decide +kernel)
-- SandFlags$Rota.placeFrom
def sm_59_325 : ab_Sm := ([tR 43, tN 0 5, tN 4 4, tN 15 15, tN 5 5, tF], th_63, [([], some (tN 0 1), [])], [])
def an_59_325 : List ab_An := []
theorem sok_59_325 {l : Launch} {D : va_G} {cs : Nat → ClassId} {tS : Nat} (hGl : ab_Gl l ZZ wFF D vwCl cs tS) : ab_SOK l ZZ 2 D vwCl cs tS 59 sm_59_325 := zf_fin1 (DS := 1) (dp := 0) (fuel := 200000) (q := []) (il := []) (anns := an_59_325) (pcs := [118]) (cand := fun _ _ => an_59_325) (sp := (fun _ => [])) hGl gok_59 (by decide) (fun _ h => absurd h List.not_mem_nil) (fun _ h => absurd h List.not_mem_nil) (fun _ _ _ h => h) (by decide +kernel) (by decide +kernel)
-- SandFlags$Rota.placeFrom
def sm_59_326 : ab_Sm := ([tR 43, tN 0 5, tN 4 4, tN 15 15, tN 1 1, tF], th_63, [([], some (tN 0 1), [])], [])
def an_59_326 : List ab_An := []
theorem sok_59_326 {l : Launch} {D : va_G} {cs : Nat → ClassId} {tS : Nat} (hGl : ab_Gl l ZZ wFF D vwCl cs tS) : ab_SOK l ZZ 2 D vwCl cs tS 59 sm_59_326 := zf_fin1 (DS := 1) (dp := 0) (fuel := 200000) (q := []) (il := []) (anns := an_59_326) (pcs := [118]) (cand := fun _ _ => an_59_326) (sp := (fun _ => [])) hGl gok_59 (by decide) (fun _ h => absurd h List.not_mem_nil) (fun _ h => absurd h List.not_mem_nil) (fun _ _ _ h => h) (by decide +kernel) (by decide +kernel)
-- SandFlags$Rota.placeFrom
def sm_59_327 : ab_Sm := ([tR 43, tN 0 5, tN 4 4, tN 140 140, tN 0 0, tF], th_63, [([], some (tN 0 1), [])], [])
def an_59_327 : List ab_An := []
theorem sok_59_327 {l : Launch} {D : va_G} {cs : Nat → ClassId} {tS : Nat} (hGl : ab_Gl l ZZ wFF D vwCl cs tS) : ab_SOK l ZZ 2 D vwCl cs tS 59 sm_59_327 := zf_fin1 (DS := 1) (dp := 0) (fuel := 200000) (q := []) (il := []) (anns := an_59_327) (pcs := [118]) (cand := fun _ _ => an_59_327) (sp := (fun _ => [])) hGl gok_59 (by decide) (fun _ h => absurd h List.not_mem_nil) (fun _ h => absurd h List.not_mem_nil) (fun _ _ _ h => h) (by decide +kernel) (by decide +kernel)
-- SandFlags$Rota.placeFrom
def sm_59_328 : ab_Sm := ([tR 43, tN 0 5, tN 4 4, tN 40 40, tN 0 0, tF], th_63, [([], some (tN 0 1), [])], [])
def an_59_328 : List ab_An := []
theorem sok_59_328 {l : Launch} {D : va_G} {cs : Nat → ClassId} {tS : Nat} (hGl : ab_Gl l ZZ wFF D vwCl cs tS) : ab_SOK l ZZ 2 D vwCl cs tS 59 sm_59_328 := zf_fin1 (DS := 1) (dp := 0) (fuel := 200000) (q := []) (il := []) (anns := an_59_328) (pcs := [118]) (cand := fun _ _ => an_59_328) (sp := (fun _ => [])) hGl gok_59 (by decide) (fun _ h => absurd h List.not_mem_nil) (fun _ h => absurd h List.not_mem_nil) (fun _ _ _ h => h) (by decide +kernel) (by decide +kernel)
-- SandFlags$Rota.placeFrom
def sm_59_329 : ab_Sm := ([tR 43, tN 0 5, tN 4 4, tN 20 20, tN 0 0, tF], th_63, [([], some (tN 0 1), [])], [])
def an_59_329 : List ab_An := []
theorem sok_59_329 {l : Launch} {D : va_G} {cs : Nat → ClassId} {tS : Nat} (hGl : ab_Gl l ZZ wFF D vwCl cs tS) : ab_SOK l ZZ 2 D vwCl cs tS 59 sm_59_329 := zf_fin1 (DS := 1) (dp := 0) (fuel := 200000) (q := []) (il := []) (anns := an_59_329) (pcs := [118]) (cand := fun _ _ => an_59_329) (sp := (fun _ => [])) hGl gok_59 (by decide) (fun _ h => absurd h List.not_mem_nil) (fun _ h => absurd h List.not_mem_nil) (fun _ _ _ h => h) (by decide +kernel) (by decide +kernel)
-- SandFlags$Rota.placeFrom
def sm_59_330 : ab_Sm := ([tR 43, tN 0 5, tN 4 4, tN 1 1, tN 0 0, tF], th_63, [([], some (tN 0 1), [])], [])
def an_59_330 : List ab_An := []
theorem sok_59_330 {l : Launch} {D : va_G} {cs : Nat → ClassId} {tS : Nat} (hGl : ab_Gl l ZZ wFF D vwCl cs tS) : ab_SOK l ZZ 2 D vwCl cs tS 59 sm_59_330 := zf_fin1 (DS := 1) (dp := 0) (fuel := 200000) (q := []) (il := []) (anns := an_59_330) (pcs := [118]) (cand := fun _ _ => an_59_330) (sp := (fun _ => [])) hGl gok_59 (by decide) (fun _ h => absurd h List.not_mem_nil) (fun _ h => absurd h List.not_mem_nil) (fun _ _ _ h => h) (by decide +kernel) (by decide +kernel)
-- SandFlags$Rota.placeFrom
def sm_59_331 : ab_Sm := ([tR 43, tN 0 5, tN 4 4, tN 1 1, tN 125 125, tF], th_63, [([], some (tN 0 1), [])], [])
def an_59_331 : List ab_An := []
theorem sok_59_331 {l : Launch} {D : va_G} {cs : Nat → ClassId} {tS : Nat} (hGl : ab_Gl l ZZ wFF D vwCl cs tS) : ab_SOK l ZZ 2 D vwCl cs tS 59 sm_59_331 := zf_fin1 (DS := 1) (dp := 0) (fuel := 200000) (q := []) (il := []) (anns := an_59_331) (pcs := [118]) (cand := fun _ _ => an_59_331) (sp := (fun _ => [])) hGl gok_59 (by decide) (fun _ h => absurd h List.not_mem_nil) (fun _ h => absurd h List.not_mem_nil) (fun _ _ _ h => h) (by decide +kernel) (by decide +kernel)
-- SandFlags$Rota.placeFrom
def sm_59_332 : ab_Sm := ([tR 43, tN 0 5, tN 4 4, tN 1 1, tN 250 250, tF], th_63, [([], some (tN 0 1), [])], [])
def an_59_332 : List ab_An := []
theorem sok_59_332 {l : Launch} {D : va_G} {cs : Nat → ClassId} {tS : Nat} (hGl : ab_Gl l ZZ wFF D vwCl cs tS) : ab_SOK l ZZ 2 D vwCl cs tS 59 sm_59_332 := zf_fin1 (DS := 1) (dp := 0) (fuel := 200000) (q := []) (il := []) (anns := an_59_332) (pcs := [118]) (cand := fun _ _ => an_59_332) (sp := (fun _ => [])) hGl gok_59 (by decide) (fun _ h => absurd h List.not_mem_nil) (fun _ h => absurd h List.not_mem_nil) (fun _ _ _ h => h) (by decide +kernel) (by decide +kernel)
-- SandFlags$Rota.placeFrom
def sm_59_333 : ab_Sm := ([tR 43, tN 0 5, tN 4 4, tN 1 1, tN 375 375, tF], th_63, [([], some (tN 0 1), [])], [])
def an_59_333 : List ab_An := []
theorem sok_59_333 {l : Launch} {D : va_G} {cs : Nat → ClassId} {tS : Nat} (hGl : ab_Gl l ZZ wFF D vwCl cs tS) : ab_SOK l ZZ 2 D vwCl cs tS 59 sm_59_333 := zf_fin1 (DS := 1) (dp := 0) (fuel := 200000) (q := []) (il := []) (anns := an_59_333) (pcs := [118]) (cand := fun _ _ => an_59_333) (sp := (fun _ => [])) hGl gok_59 (by decide) (fun _ h => absurd h List.not_mem_nil) (fun _ h => absurd h List.not_mem_nil) (fun _ _ _ h => h) (by decide +kernel) (by decide +kernel)
-- SandFlags$Rota.placeFrom
def sm_59_334 : ab_Sm := ([tR 43, tN 0 5, tN 4 4, tN 1 1, tN 25 25, tF], th_63, [([], some (tN 0 1), [])], [])
def an_59_334 : List ab_An := []
theorem sok_59_334 {l : Launch} {D : va_G} {cs : Nat → ClassId} {tS : Nat} (hGl : ab_Gl l ZZ wFF D vwCl cs tS) : ab_SOK l ZZ 2 D vwCl cs tS 59 sm_59_334 := zf_fin1 (DS := 1) (dp := 0) (fuel := 200000) (q := []) (il := []) (anns := an_59_334) (pcs := [118]) (cand := fun _ _ => an_59_334) (sp := (fun _ => [])) hGl gok_59 (by decide) (fun _ h => absurd h List.not_mem_nil) (fun _ h => absurd h List.not_mem_nil) (fun _ _ _ h => h) (by decide +kernel) (by decide +kernel)
-- SandFlags$Rota.placeFrom
def sm_59_335 : ab_Sm := ([tR 43, tN 0 5, tN 4 4, tN 1 1, tN 150 150, tF], th_63, [([], some (tN 0 1), [])], [])
def an_59_335 : List ab_An := []
theorem sok_59_335 {l : Launch} {D : va_G} {cs : Nat → ClassId} {tS : Nat} (hGl : ab_Gl l ZZ wFF D vwCl cs tS) : ab_SOK l ZZ 2 D vwCl cs tS 59 sm_59_335 := zf_fin1 (DS := 1) (dp := 0) (fuel := 200000) (q := []) (il := []) (anns := an_59_335) (pcs := [118]) (cand := fun _ _ => an_59_335) (sp := (fun _ => [])) hGl gok_59 (by decide) (fun _ h => absurd h List.not_mem_nil) (fun _ h => absurd h List.not_mem_nil) (fun _ _ _ h => h) (by decide +kernel) (by decide +kernel)
-- SandFlags$Rota.placeFrom
def sm_59_336 : ab_Sm := ([tR 43, tN 0 5, tN 4 4, tN 1 1, tN 275 275, tF], th_63, [([], some (tN 0 1), [])], [])
def an_59_336 : List ab_An := []
theorem sok_59_336 {l : Launch} {D : va_G} {cs : Nat → ClassId} {tS : Nat} (hGl : ab_Gl l ZZ wFF D vwCl cs tS) : ab_SOK l ZZ 2 D vwCl cs tS 59 sm_59_336 := zf_fin1 (DS := 1) (dp := 0) (fuel := 200000) (q := []) (il := []) (anns := an_59_336) (pcs := [118]) (cand := fun _ _ => an_59_336) (sp := (fun _ => [])) hGl gok_59 (by decide) (fun _ h => absurd h List.not_mem_nil) (fun _ h => absurd h List.not_mem_nil) (fun _ _ _ h => h) (by decide +kernel) (by decide +kernel)
-- SandFlags$Rota.placeFrom
def sm_59_337 : ab_Sm := ([tR 43, tN 0 5, tN 4 4, tN 1 1, tN 50 50, tF], th_63, [([], some (tN 0 1), [])], [])
def an_59_337 : List ab_An := []
theorem sok_59_337 {l : Launch} {D : va_G} {cs : Nat → ClassId} {tS : Nat} (hGl : ab_Gl l ZZ wFF D vwCl cs tS) : ab_SOK l ZZ 2 D vwCl cs tS 59 sm_59_337 := zf_fin1 (DS := 1) (dp := 0) (fuel := 200000) (q := []) (il := []) (anns := an_59_337) (pcs := [118]) (cand := fun _ _ => an_59_337) (sp := (fun _ => [])) hGl gok_59 (by decide) (fun _ h => absurd h List.not_mem_nil) (fun _ h => absurd h List.not_mem_nil) (fun _ _ _ h => h) (by decide +kernel) (by decide +kernel)
-- SandFlags$Rota.placeFrom
def sm_59_338 : ab_Sm := ([tR 43, tN 0 5, tN 4 4, tN 1 1, tN 175 175, tF], th_63, [([], some (tN 0 1), [])], [])
def an_59_338 : List ab_An := []
theorem sok_59_338 {l : Launch} {D : va_G} {cs : Nat → ClassId} {tS : Nat} (hGl : ab_Gl l ZZ wFF D vwCl cs tS) : ab_SOK l ZZ 2 D vwCl cs tS 59 sm_59_338 := zf_fin1 (DS := 1) (dp := 0) (fuel := 200000) (q := []) (il := []) (anns := an_59_338) (pcs := [118]) (cand := fun _ _ => an_59_338) (sp := (fun _ => [])) hGl gok_59 (by decide) (fun _ h => absurd h List.not_mem_nil) (fun _ h => absurd h List.not_mem_nil) (fun _ _ _ h => h) (by decide +kernel) (by decide +kernel)
-- SandFlags$Rota.placeFrom
def sm_59_339 : ab_Sm := ([tR 43, tN 0 5, tN 4 4, tN 1 1, tN 75 75, tF], th_63, [([], some (tN 0 1), [])], [])
def an_59_339 : List ab_An := []
theorem sok_59_339 {l : Launch} {D : va_G} {cs : Nat → ClassId} {tS : Nat} (hGl : ab_Gl l ZZ wFF D vwCl cs tS) : ab_SOK l ZZ 2 D vwCl cs tS 59 sm_59_339 := zf_fin1 (DS := 1) (dp := 0) (fuel := 200000) (q := []) (il := []) (anns := an_59_339) (pcs := [118]) (cand := fun _ _ => an_59_339) (sp := (fun _ => [])) hGl gok_59 (by decide) (fun _ h => absurd h List.not_mem_nil) (fun _ h => absurd h List.not_mem_nil) (fun _ _ _ h => h) (by decide +kernel) (by decide +kernel)
-- SandFlags$Rota.placeFrom
def sm_59_340 : ab_Sm := ([tR 43, tN 0 5, tN 4 4, tN 1 1, tN 5 5, tF], th_63, [([], some (tN 0 1), [])], [])
def an_59_340 : List ab_An := []
theorem sok_59_340 {l : Launch} {D : va_G} {cs : Nat → ClassId} {tS : Nat} (hGl : ab_Gl l ZZ wFF D vwCl cs tS) : ab_SOK l ZZ 2 D vwCl cs tS 59 sm_59_340 := zf_fin1 (DS := 1) (dp := 0) (fuel := 200000) (q := []) (il := []) (anns := an_59_340) (pcs := [118]) (cand := fun _ _ => an_59_340) (sp := (fun _ => [])) hGl gok_59 (by decide) (fun _ h => absurd h List.not_mem_nil) (fun _ h => absurd h List.not_mem_nil) (fun _ _ _ h => h) (by decide +kernel) (by decide +kernel)
-- SandFlags$Rota.placeFrom
def sm_59_341 : ab_Sm := ([tR 43, tN 0 5, tN 4 4, tN 1 1, tN 130 130, tF], th_63, [([], some (tN 0 1), [])], [])
def an_59_341 : List ab_An := []
theorem sok_59_341 {l : Launch} {D : va_G} {cs : Nat → ClassId} {tS : Nat} (hGl : ab_Gl l ZZ wFF D vwCl cs tS) : ab_SOK l ZZ 2 D vwCl cs tS 59 sm_59_341 := zf_fin1 (DS := 1) (dp := 0) (fuel := 200000) (q := []) (il := []) (anns := an_59_341) (pcs := [118]) (cand := fun _ _ => an_59_341) (sp := (fun _ => [])) hGl gok_59 (by decide) (fun _ h => absurd h List.not_mem_nil) (fun _ h => absurd h List.not_mem_nil) (fun _ _ _ h => h) (by decide +kernel) (by decide +kernel)
-- SandFlags$Rota.placeFrom
def sm_59_342 : ab_Sm := ([tR 43, tN 0 5, tN 4 4, tN 1 1, tN 255 255, tF], th_63, [([], some (tN 0 1), [])], [])
def an_59_342 : List ab_An := []
theorem sok_59_342 {l : Launch} {D : va_G} {cs : Nat → ClassId} {tS : Nat} (hGl : ab_Gl l ZZ wFF D vwCl cs tS) : ab_SOK l ZZ 2 D vwCl cs tS 59 sm_59_342 := zf_fin1 (DS := 1) (dp := 0) (fuel := 200000) (q := []) (il := []) (anns := an_59_342) (pcs := [118]) (cand := fun _ _ => an_59_342) (sp := (fun _ => [])) hGl gok_59 (by decide) (fun _ h => absurd h List.not_mem_nil) (fun _ h => absurd h List.not_mem_nil) (fun _ _ _ h => h) (by decide +kernel) (by decide +kernel)
-- SandFlags$Rota.placeFrom
def sm_59_343 : ab_Sm := ([tR 43, tN 0 5, tN 4 4, tN 1 1, tN 30 30, tF], th_63, [([], some (tN 0 1), [])], [])
def an_59_343 : List ab_An := []
theorem sok_59_343 {l : Launch} {D : va_G} {cs : Nat → ClassId} {tS : Nat} (hGl : ab_Gl l ZZ wFF D vwCl cs tS) : ab_SOK l ZZ 2 D vwCl cs tS 59 sm_59_343 := zf_fin1 (DS := 1) (dp := 0) (fuel := 200000) (q := []) (il := []) (anns := an_59_343) (pcs := [118]) (cand := fun _ _ => an_59_343) (sp := (fun _ => [])) hGl gok_59 (by decide) (fun _ h => absurd h List.not_mem_nil) (fun _ h => absurd h List.not_mem_nil) (fun _ _ _ h => h) (by decide +kernel) (by decide +kernel)
-- SandFlags$Rota.placeFrom
def sm_59_344 : ab_Sm := ([tR 43, tN 0 5, tN 4 4, tN 1 1, tN 155 155, tF], th_63, [([], some (tN 0 1), [])], [])
def an_59_344 : List ab_An := []
theorem sok_59_344 {l : Launch} {D : va_G} {cs : Nat → ClassId} {tS : Nat} (hGl : ab_Gl l ZZ wFF D vwCl cs tS) : ab_SOK l ZZ 2 D vwCl cs tS 59 sm_59_344 := zf_fin1 (DS := 1) (dp := 0) (fuel := 200000) (q := []) (il := []) (anns := an_59_344) (pcs := [118]) (cand := fun _ _ => an_59_344) (sp := (fun _ => [])) hGl gok_59 (by decide) (fun _ h => absurd h List.not_mem_nil) (fun _ h => absurd h List.not_mem_nil) (fun _ _ _ h => h) (by decide +kernel) (by decide +kernel)
-- SandFlags$Rota.placeFrom
def sm_59_345 : ab_Sm := ([tR 43, tN 0 5, tN 4 4, tN 1 1, tN 55 55, tF], th_63, [([], some (tN 0 1), [])], [])
def an_59_345 : List ab_An := []
theorem sok_59_345 {l : Launch} {D : va_G} {cs : Nat → ClassId} {tS : Nat} (hGl : ab_Gl l ZZ wFF D vwCl cs tS) : ab_SOK l ZZ 2 D vwCl cs tS 59 sm_59_345 := zf_fin1 (DS := 1) (dp := 0) (fuel := 200000) (q := []) (il := []) (anns := an_59_345) (pcs := [118]) (cand := fun _ _ => an_59_345) (sp := (fun _ => [])) hGl gok_59 (by decide) (fun _ h => absurd h List.not_mem_nil) (fun _ h => absurd h List.not_mem_nil) (fun _ _ _ h => h) (by decide +kernel) (by decide +kernel)
-- SandFlags$Rota.placeFrom
def sm_59_346 : ab_Sm := ([tR 43, tN 0 5, tN 4 4, tN 1 1, tN 10 10, tF], th_63, [([], some (tN 0 1), [])], [])
def an_59_346 : List ab_An := []
theorem sok_59_346 {l : Launch} {D : va_G} {cs : Nat → ClassId} {tS : Nat} (hGl : ab_Gl l ZZ wFF D vwCl cs tS) : ab_SOK l ZZ 2 D vwCl cs tS 59 sm_59_346 := zf_fin1 (DS := 1) (dp := 0) (fuel := 200000) (q := []) (il := []) (anns := an_59_346) (pcs := [118]) (cand := fun _ _ => an_59_346) (sp := (fun _ => [])) hGl gok_59 (by decide) (fun _ h => absurd h List.not_mem_nil) (fun _ h => absurd h List.not_mem_nil) (fun _ _ _ h => h) (by decide +kernel) (by decide +kernel)
-- SandFlags$Rota.placeFrom
def sm_59_347 : ab_Sm := ([tR 43, tN 0 5, tN 4 4, tN 1 1, tN 135 135, tF], th_63, [([], some (tN 0 1), [])], [])
def an_59_347 : List ab_An := []
theorem sok_59_347 {l : Launch} {D : va_G} {cs : Nat → ClassId} {tS : Nat} (hGl : ab_Gl l ZZ wFF D vwCl cs tS) : ab_SOK l ZZ 2 D vwCl cs tS 59 sm_59_347 := zf_fin1 (DS := 1) (dp := 0) (fuel := 200000) (q := []) (il := []) (anns := an_59_347) (pcs := [118]) (cand := fun _ _ => an_59_347) (sp := (fun _ => [])) hGl gok_59 (by decide) (fun _ h => absurd h List.not_mem_nil) (fun _ h => absurd h List.not_mem_nil) (fun _ _ _ h => h) (by decide +kernel) (by decide +kernel)
-- SandFlags$Rota.placeFrom
def sm_59_348 : ab_Sm := ([tR 43, tN 0 5, tN 4 4, tN 1 1, tN 35 35, tF], th_63, [([], some (tN 0 1), [])], [])
def an_59_348 : List ab_An := []
theorem sok_59_348 {l : Launch} {D : va_G} {cs : Nat → ClassId} {tS : Nat} (hGl : ab_Gl l ZZ wFF D vwCl cs tS) : ab_SOK l ZZ 2 D vwCl cs tS 59 sm_59_348 := zf_fin1 (DS := 1) (dp := 0) (fuel := 200000) (q := []) (il := []) (anns := an_59_348) (pcs := [118]) (cand := fun _ _ => an_59_348) (sp := (fun _ => [])) hGl gok_59 (by decide) (fun _ h => absurd h List.not_mem_nil) (fun _ h => absurd h List.not_mem_nil) (fun _ _ _ h => h) (by decide +kernel) (by decide +kernel)
-- SandFlags$Rota.placeFrom
def sm_59_349 : ab_Sm := ([tR 43, tN 0 5, tN 4 4, tN 1 1, tN 15 15, tF], th_63, [([], some (tN 0 1), [])], [])
def an_59_349 : List ab_An := []
theorem sok_59_349 {l : Launch} {D : va_G} {cs : Nat → ClassId} {tS : Nat} (hGl : ab_Gl l ZZ wFF D vwCl cs tS) : ab_SOK l ZZ 2 D vwCl cs tS 59 sm_59_349 := zf_fin1 (DS := 1) (dp := 0) (fuel := 200000) (q := []) (il := []) (anns := an_59_349) (pcs := [118]) (cand := fun _ _ => an_59_349) (sp := (fun _ => [])) hGl gok_59 (by decide) (fun _ h => absurd h List.not_mem_nil) (fun _ h => absurd h List.not_mem_nil) (fun _ _ _ h => h) (by decide +kernel) (by decide +kernel)
-- SandFlags$Rota.placeFrom
def sm_59_350 : ab_Sm := ([tR 43, tN 0 5, tN 4 4, tN 1 1, tN 1 1, tF], th_63, [([], some (tN 0 1), [])], [])
def an_59_350 : List ab_An := []
theorem sok_59_350 {l : Launch} {D : va_G} {cs : Nat → ClassId} {tS : Nat} (hGl : ab_Gl l ZZ wFF D vwCl cs tS) : ab_SOK l ZZ 2 D vwCl cs tS 59 sm_59_350 := zf_fin1 (DS := 1) (dp := 0) (fuel := 200000) (q := []) (il := []) (anns := an_59_350) (pcs := [118]) (cand := fun _ _ => an_59_350) (sp := (fun _ => [])) hGl gok_59 (by decide) (fun _ h => absurd h List.not_mem_nil) (fun _ h => absurd h List.not_mem_nil) (fun _ _ _ h => h) (by decide +kernel) (by decide +kernel)
-- SandFlags$Rota.placeFrom
def sm_59_351 : ab_Sm := ([tR 43, tN 0 5, tN 4 4, tN 1 1, tN 126 126, tF], th_63, [([], some (tN 0 1), [])], [])
def an_59_351 : List ab_An := []
theorem sok_59_351 {l : Launch} {D : va_G} {cs : Nat → ClassId} {tS : Nat} (hGl : ab_Gl l ZZ wFF D vwCl cs tS) : ab_SOK l ZZ 2 D vwCl cs tS 59 sm_59_351 := zf_fin1 (DS := 1) (dp := 0) (fuel := 200000) (q := []) (il := []) (anns := an_59_351) (pcs := [118]) (cand := fun _ _ => an_59_351) (sp := (fun _ => [])) hGl gok_59 (by decide) (fun _ h => absurd h List.not_mem_nil) (fun _ h => absurd h List.not_mem_nil) (fun _ _ _ h => h) (by decide +kernel) (by decide +kernel)
-- SandFlags$Rota.placeFrom
def sm_59_352 : ab_Sm := ([tR 43, tN 0 5, tN 4 4, tN 1 1, tN 251 251, tF], th_63, [([], some (tN 0 1), [])], [])
def an_59_352 : List ab_An := []
theorem sok_59_352 {l : Launch} {D : va_G} {cs : Nat → ClassId} {tS : Nat} (hGl : ab_Gl l ZZ wFF D vwCl cs tS) : ab_SOK l ZZ 2 D vwCl cs tS 59 sm_59_352 := zf_fin1 (DS := 1) (dp := 0) (fuel := 200000) (q := []) (il := []) (anns := an_59_352) (pcs := [118]) (cand := fun _ _ => an_59_352) (sp := (fun _ => [])) hGl gok_59 (by decide) (fun _ h => absurd h List.not_mem_nil) (fun _ h => absurd h List.not_mem_nil) (fun _ _ _ h => h) (by decide +kernel) (by decide +kernel)
-- SandFlags$Rota.placeFrom
def sm_59_353 : ab_Sm := ([tR 43, tN 0 5, tN 4 4, tN 1 1, tN 26 26, tF], th_63, [([], some (tN 0 1), [])], [])
def an_59_353 : List ab_An := []
theorem sok_59_353 {l : Launch} {D : va_G} {cs : Nat → ClassId} {tS : Nat} (hGl : ab_Gl l ZZ wFF D vwCl cs tS) : ab_SOK l ZZ 2 D vwCl cs tS 59 sm_59_353 := zf_fin1 (DS := 1) (dp := 0) (fuel := 200000) (q := []) (il := []) (anns := an_59_353) (pcs := [118]) (cand := fun _ _ => an_59_353) (sp := (fun _ => [])) hGl gok_59 (by decide) (fun _ h => absurd h List.not_mem_nil) (fun _ h => absurd h List.not_mem_nil) (fun _ _ _ h => h) (by decide +kernel) (by decide +kernel)
-- SandFlags$Rota.placeFrom
def sm_59_354 : ab_Sm := ([tR 43, tN 0 5, tN 4 4, tN 1 1, tN 151 151, tF], th_63, [([], some (tN 0 1), [])], [])
def an_59_354 : List ab_An := []
theorem sok_59_354 {l : Launch} {D : va_G} {cs : Nat → ClassId} {tS : Nat} (hGl : ab_Gl l ZZ wFF D vwCl cs tS) : ab_SOK l ZZ 2 D vwCl cs tS 59 sm_59_354 := zf_fin1 (DS := 1) (dp := 0) (fuel := 200000) (q := []) (il := []) (anns := an_59_354) (pcs := [118]) (cand := fun _ _ => an_59_354) (sp := (fun _ => [])) hGl gok_59 (by decide) (fun _ h => absurd h List.not_mem_nil) (fun _ h => absurd h List.not_mem_nil) (fun _ _ _ h => h) (by decide +kernel) (by decide +kernel)
-- SandFlags$Rota.placeFrom
def sm_59_355 : ab_Sm := ([tR 43, tN 0 5, tN 4 4, tN 1 1, tN 51 51, tF], th_63, [([], some (tN 0 1), [])], [])
def an_59_355 : List ab_An := []
theorem sok_59_355 {l : Launch} {D : va_G} {cs : Nat → ClassId} {tS : Nat} (hGl : ab_Gl l ZZ wFF D vwCl cs tS) : ab_SOK l ZZ 2 D vwCl cs tS 59 sm_59_355 := zf_fin1 (DS := 1) (dp := 0) (fuel := 200000) (q := []) (il := []) (anns := an_59_355) (pcs := [118]) (cand := fun _ _ => an_59_355) (sp := (fun _ => [])) hGl gok_59 (by decide) (fun _ h => absurd h List.not_mem_nil) (fun _ h => absurd h List.not_mem_nil) (fun _ _ _ h => h) (by decide +kernel) (by decide +kernel)
-- SandFlags$Rota.placeFrom
def sm_59_356 : ab_Sm := ([tR 43, tN 0 5, tN 4 4, tN 1 1, tN 6 6, tF], th_63, [([], some (tN 0 1), [])], [])
def an_59_356 : List ab_An := []
theorem sok_59_356 {l : Launch} {D : va_G} {cs : Nat → ClassId} {tS : Nat} (hGl : ab_Gl l ZZ wFF D vwCl cs tS) : ab_SOK l ZZ 2 D vwCl cs tS 59 sm_59_356 := zf_fin1 (DS := 1) (dp := 0) (fuel := 200000) (q := []) (il := []) (anns := an_59_356) (pcs := [118]) (cand := fun _ _ => an_59_356) (sp := (fun _ => [])) hGl gok_59 (by decide) (fun _ h => absurd h List.not_mem_nil) (fun _ h => absurd h List.not_mem_nil) (fun _ _ _ h => h) (by decide +kernel) (by decide +kernel)
-- SandFlags$Rota.placeFrom
def sm_59_357 : ab_Sm := ([tR 43, tN 0 5, tN 4 4, tN 1 1, tN 131 131, tF], th_63, [([], some (tN 0 1), [])], [])
def an_59_357 : List ab_An := []
theorem sok_59_357 {l : Launch} {D : va_G} {cs : Nat → ClassId} {tS : Nat} (hGl : ab_Gl l ZZ wFF D vwCl cs tS) : ab_SOK l ZZ 2 D vwCl cs tS 59 sm_59_357 := zf_fin1 (DS := 1) (dp := 0) (fuel := 200000) (q := []) (il := []) (anns := an_59_357) (pcs := [118]) (cand := fun _ _ => an_59_357) (sp := (fun _ => [])) hGl gok_59 (by decide) (fun _ h => absurd h List.not_mem_nil) (fun _ h => absurd h List.not_mem_nil) (fun _ _ _ h => h) (by decide +kernel) (by decide +kernel)
-- SandFlags$Rota.placeFrom
def sm_59_358 : ab_Sm := ([tR 43, tN 0 5, tN 4 4, tN 1 1, tN 31 31, tF], th_63, [([], some (tN 0 1), [])], [])
def an_59_358 : List ab_An := []
theorem sok_59_358 {l : Launch} {D : va_G} {cs : Nat → ClassId} {tS : Nat} (hGl : ab_Gl l ZZ wFF D vwCl cs tS) : ab_SOK l ZZ 2 D vwCl cs tS 59 sm_59_358 := zf_fin1 (DS := 1) (dp := 0) (fuel := 200000) (q := []) (il := []) (anns := an_59_358) (pcs := [118]) (cand := fun _ _ => an_59_358) (sp := (fun _ => [])) hGl gok_59 (by decide) (fun _ h => absurd h List.not_mem_nil) (fun _ h => absurd h List.not_mem_nil) (fun _ _ _ h => h) (by decide +kernel) (by decide +kernel)
-- SandFlags$Rota.placeFrom
def sm_59_359 : ab_Sm := ([tR 43, tN 0 5, tN 4 4, tN 1 1, tN 11 11, tF], th_63, [([], some (tN 0 1), [])], [])
def an_59_359 : List ab_An := []
theorem sok_59_359 {l : Launch} {D : va_G} {cs : Nat → ClassId} {tS : Nat} (hGl : ab_Gl l ZZ wFF D vwCl cs tS) : ab_SOK l ZZ 2 D vwCl cs tS 59 sm_59_359 := zf_fin1 (DS := 1) (dp := 0) (fuel := 200000) (q := []) (il := []) (anns := an_59_359) (pcs := [118]) (cand := fun _ _ => an_59_359) (sp := (fun _ => [])) hGl gok_59 (by decide) (fun _ h => absurd h List.not_mem_nil) (fun _ h => absurd h List.not_mem_nil) (fun _ _ _ h => h) (by decide +kernel) (by decide +kernel)
-- SandFlags$Rota.placeFrom
def sm_59_360 : ab_Sm := ([tR 43, tN 0 5, tN 4 4, tN 1 1, tN 2 2, tF], th_63, [([], some (tN 0 1), [])], [])
def an_59_360 : List ab_An := []
theorem sok_59_360 {l : Launch} {D : va_G} {cs : Nat → ClassId} {tS : Nat} (hGl : ab_Gl l ZZ wFF D vwCl cs tS) : ab_SOK l ZZ 2 D vwCl cs tS 59 sm_59_360 := zf_fin1 (DS := 1) (dp := 0) (fuel := 200000) (q := []) (il := []) (anns := an_59_360) (pcs := [118]) (cand := fun _ _ => an_59_360) (sp := (fun _ => [])) hGl gok_59 (by decide) (fun _ h => absurd h List.not_mem_nil) (fun _ h => absurd h List.not_mem_nil) (fun _ _ _ h => h) (by decide +kernel) (by decide +kernel)
-- SandFlags$Rota.placeFrom
def sm_59_361 : ab_Sm := ([tR 43, tN 0 5, tN 4 4, tN 1 1, tN 127 127, tF], th_63, [([], some (tN 0 1), [])], [])
def an_59_361 : List ab_An := []
theorem sok_59_361 {l : Launch} {D : va_G} {cs : Nat → ClassId} {tS : Nat} (hGl : ab_Gl l ZZ wFF D vwCl cs tS) : ab_SOK l ZZ 2 D vwCl cs tS 59 sm_59_361 := zf_fin1 (DS := 1) (dp := 0) (fuel := 200000) (q := []) (il := []) (anns := an_59_361) (pcs := [118]) (cand := fun _ _ => an_59_361) (sp := (fun _ => [])) hGl gok_59 (by decide) (fun _ h => absurd h List.not_mem_nil) (fun _ h => absurd h List.not_mem_nil) (fun _ _ _ h => h) (by decide +kernel) (by decide +kernel)
-- SandFlags$Rota.placeFrom
def sm_59_362 : ab_Sm := ([tR 43, tN 0 5, tN 4 4, tN 1 1, tN 27 27, tF], th_63, [([], some (tN 0 1), [])], [])
def an_59_362 : List ab_An := []
theorem sok_59_362 {l : Launch} {D : va_G} {cs : Nat → ClassId} {tS : Nat} (hGl : ab_Gl l ZZ wFF D vwCl cs tS) : ab_SOK l ZZ 2 D vwCl cs tS 59 sm_59_362 := zf_fin1 (DS := 1) (dp := 0) (fuel := 200000) (q := []) (il := []) (anns := an_59_362) (pcs := [118]) (cand := fun _ _ => an_59_362) (sp := (fun _ => [])) hGl gok_59 (by decide) (fun _ h => absurd h List.not_mem_nil) (fun _ h => absurd h List.not_mem_nil) (fun _ _ _ h => h) (by decide +kernel) (by decide +kernel)
-- SandFlags$Rota.placeFrom
def sm_59_363 : ab_Sm := ([tR 43, tN 0 5, tN 4 4, tN 1 1, tN 7 7, tF], th_63, [([], some (tN 0 1), [])], [])
def an_59_363 : List ab_An := []
theorem sok_59_363 {l : Launch} {D : va_G} {cs : Nat → ClassId} {tS : Nat} (hGl : ab_Gl l ZZ wFF D vwCl cs tS) : ab_SOK l ZZ 2 D vwCl cs tS 59 sm_59_363 := zf_fin1 (DS := 1) (dp := 0) (fuel := 200000) (q := []) (il := []) (anns := an_59_363) (pcs := [118]) (cand := fun _ _ => an_59_363) (sp := (fun _ => [])) hGl gok_59 (by decide) (fun _ h => absurd h List.not_mem_nil) (fun _ h => absurd h List.not_mem_nil) (fun _ _ _ h => h) (by decide +kernel) (by decide +kernel)
-- SandFlags$Rota.placeFrom
def sm_59_364 : ab_Sm := ([tR 43, tN 0 5, tN 4 4, tN 1 1, tN 3 3, tF], th_63, [([], some (tN 0 1), [])], [])
def an_59_364 : List ab_An := []
theorem sok_59_364 {l : Launch} {D : va_G} {cs : Nat → ClassId} {tS : Nat} (hGl : ab_Gl l ZZ wFF D vwCl cs tS) : ab_SOK l ZZ 2 D vwCl cs tS 59 sm_59_364 := zf_fin1 (DS := 1) (dp := 0) (fuel := 200000) (q := []) (il := []) (anns := an_59_364) (pcs := [118]) (cand := fun _ _ => an_59_364) (sp := (fun _ => [])) hGl gok_59 (by decide) (fun _ h => absurd h List.not_mem_nil) (fun _ h => absurd h List.not_mem_nil) (fun _ _ _ h => h) (by decide +kernel) (by decide +kernel)
-- SandFlags$Rota.placeFrom
def sm_59_365 : ab_Sm := ([tR 43, tN 0 5, tN 4 4, tN 126 126, tN 0 0, tF], th_63, [([], some (tN 0 1), [])], [])
def an_59_365 : List ab_An := []
theorem sok_59_365 {l : Launch} {D : va_G} {cs : Nat → ClassId} {tS : Nat} (hGl : ab_Gl l ZZ wFF D vwCl cs tS) : ab_SOK l ZZ 2 D vwCl cs tS 59 sm_59_365 := zf_fin1 (DS := 1) (dp := 0) (fuel := 200000) (q := []) (il := []) (anns := an_59_365) (pcs := [118]) (cand := fun _ _ => an_59_365) (sp := (fun _ => [])) hGl gok_59 (by decide) (fun _ h => absurd h List.not_mem_nil) (fun _ h => absurd h List.not_mem_nil) (fun _ _ _ h => h) (by decide +kernel) (by decide +kernel)
-- SandFlags$Rota.placeFrom
def sm_59_366 : ab_Sm := ([tR 43, tN 0 5, tN 4 4, tN 126 126, tN 125 125, tF], th_63, [([], some (tN 0 1), [])], [])
def an_59_366 : List ab_An := []
theorem sok_59_366 {l : Launch} {D : va_G} {cs : Nat → ClassId} {tS : Nat} (hGl : ab_Gl l ZZ wFF D vwCl cs tS) : ab_SOK l ZZ 2 D vwCl cs tS 59 sm_59_366 := zf_fin1 (DS := 1) (dp := 0) (fuel := 200000) (q := []) (il := []) (anns := an_59_366) (pcs := [118]) (cand := fun _ _ => an_59_366) (sp := (fun _ => [])) hGl gok_59 (by decide) (fun _ h => absurd h List.not_mem_nil) (fun _ h => absurd h List.not_mem_nil) (fun _ _ _ h => h) (by decide +kernel) (by decide +kernel)
-- SandFlags$Rota.placeFrom
def sm_59_367 : ab_Sm := ([tR 43, tN 0 5, tN 4 4, tN 126 126, tN 250 250, tF], th_63, [([], some (tN 0 1), [])], [])
def an_59_367 : List ab_An := []
theorem sok_59_367 {l : Launch} {D : va_G} {cs : Nat → ClassId} {tS : Nat} (hGl : ab_Gl l ZZ wFF D vwCl cs tS) : ab_SOK l ZZ 2 D vwCl cs tS 59 sm_59_367 := zf_fin1 (DS := 1) (dp := 0) (fuel := 200000) (q := []) (il := []) (anns := an_59_367) (pcs := [118]) (cand := fun _ _ => an_59_367) (sp := (fun _ => [])) hGl gok_59 (by decide) (fun _ h => absurd h List.not_mem_nil) (fun _ h => absurd h List.not_mem_nil) (fun _ _ _ h => h) (by decide +kernel) (by decide +kernel)
-- SandFlags$Rota.placeFrom
def sm_59_368 : ab_Sm := ([tR 43, tN 0 5, tN 4 4, tN 126 126, tN 25 25, tF], th_63, [([], some (tN 0 1), [])], [])
def an_59_368 : List ab_An := []
theorem sok_59_368 {l : Launch} {D : va_G} {cs : Nat → ClassId} {tS : Nat} (hGl : ab_Gl l ZZ wFF D vwCl cs tS) : ab_SOK l ZZ 2 D vwCl cs tS 59 sm_59_368 := zf_fin1 (DS := 1) (dp := 0) (fuel := 200000) (q := []) (il := []) (anns := an_59_368) (pcs := [118]) (cand := fun _ _ => an_59_368) (sp := (fun _ => [])) hGl gok_59 (by decide) (fun _ h => absurd h List.not_mem_nil) (fun _ h => absurd h List.not_mem_nil) (fun _ _ _ h => h) (by decide +kernel) (by decide +kernel)
-- SandFlags$Rota.placeFrom
def sm_59_369 : ab_Sm := ([tR 43, tN 0 5, tN 4 4, tN 126 126, tN 150 150, tF], th_63, [([], some (tN 0 1), [])], [])
def an_59_369 : List ab_An := []
theorem sok_59_369 {l : Launch} {D : va_G} {cs : Nat → ClassId} {tS : Nat} (hGl : ab_Gl l ZZ wFF D vwCl cs tS) : ab_SOK l ZZ 2 D vwCl cs tS 59 sm_59_369 := zf_fin1 (DS := 1) (dp := 0) (fuel := 200000) (q := []) (il := []) (anns := an_59_369) (pcs := [118]) (cand := fun _ _ => an_59_369) (sp := (fun _ => [])) hGl gok_59 (by decide) (fun _ h => absurd h List.not_mem_nil) (fun _ h => absurd h List.not_mem_nil) (fun _ _ _ h => h) (by decide +kernel) (by decide +kernel)
-- SandFlags$Rota.placeFrom
def sm_59_370 : ab_Sm := ([tR 43, tN 0 5, tN 4 4, tN 126 126, tN 50 50, tF], th_63, [([], some (tN 0 1), [])], [])
def an_59_370 : List ab_An := []
theorem sok_59_370 {l : Launch} {D : va_G} {cs : Nat → ClassId} {tS : Nat} (hGl : ab_Gl l ZZ wFF D vwCl cs tS) : ab_SOK l ZZ 2 D vwCl cs tS 59 sm_59_370 := zf_fin1 (DS := 1) (dp := 0) (fuel := 200000) (q := []) (il := []) (anns := an_59_370) (pcs := [118]) (cand := fun _ _ => an_59_370) (sp := (fun _ => [])) hGl gok_59 (by decide) (fun _ h => absurd h List.not_mem_nil) (fun _ h => absurd h List.not_mem_nil) (fun _ _ _ h => h) (by decide +kernel) (by decide +kernel)
-- SandFlags$Rota.placeFrom
def sm_59_371 : ab_Sm := ([tR 43, tN 0 5, tN 4 4, tN 126 126, tN 5 5, tF], th_63, [([], some (tN 0 1), [])], [])
def an_59_371 : List ab_An := []
theorem sok_59_371 {l : Launch} {D : va_G} {cs : Nat → ClassId} {tS : Nat} (hGl : ab_Gl l ZZ wFF D vwCl cs tS) : ab_SOK l ZZ 2 D vwCl cs tS 59 sm_59_371 := zf_fin1 (DS := 1) (dp := 0) (fuel := 200000) (q := []) (il := []) (anns := an_59_371) (pcs := [118]) (cand := fun _ _ => an_59_371) (sp := (fun _ => [])) hGl gok_59 (by decide) (fun _ h => absurd h List.not_mem_nil) (fun _ h => absurd h List.not_mem_nil) (fun _ _ _ h => h) (by decide +kernel) (by decide +kernel)
-- SandFlags$Rota.placeFrom
def sm_59_372 : ab_Sm := ([tR 43, tN 0 5, tN 4 4, tN 126 126, tN 130 130, tF], th_63, [([], some (tN 0 1), [])], [])
def an_59_372 : List ab_An := []
theorem sok_59_372 {l : Launch} {D : va_G} {cs : Nat → ClassId} {tS : Nat} (hGl : ab_Gl l ZZ wFF D vwCl cs tS) : ab_SOK l ZZ 2 D vwCl cs tS 59 sm_59_372 := zf_fin1 (DS := 1) (dp := 0) (fuel := 200000) (q := []) (il := []) (anns := an_59_372) (pcs := [118]) (cand := fun _ _ => an_59_372) (sp := (fun _ => [])) hGl gok_59 (by decide) (fun _ h => absurd h List.not_mem_nil) (fun _ h => absurd h List.not_mem_nil) (fun _ _ _ h => h) (by decide +kernel) (by decide +kernel)
-- SandFlags$Rota.placeFrom
def sm_59_373 : ab_Sm := ([tR 43, tN 0 5, tN 4 4, tN 126 126, tN 30 30, tF], th_63, [([], some (tN 0 1), [])], [])
def an_59_373 : List ab_An := []
theorem sok_59_373 {l : Launch} {D : va_G} {cs : Nat → ClassId} {tS : Nat} (hGl : ab_Gl l ZZ wFF D vwCl cs tS) : ab_SOK l ZZ 2 D vwCl cs tS 59 sm_59_373 := zf_fin1 (DS := 1) (dp := 0) (fuel := 200000) (q := []) (il := []) (anns := an_59_373) (pcs := [118]) (cand := fun _ _ => an_59_373) (sp := (fun _ => [])) hGl gok_59 (by decide) (fun _ h => absurd h List.not_mem_nil) (fun _ h => absurd h List.not_mem_nil) (fun _ _ _ h => h) (by decide +kernel) (by decide +kernel)
-- SandFlags$Rota.placeFrom
def sm_59_374 : ab_Sm := ([tR 43, tN 0 5, tN 4 4, tN 126 126, tN 10 10, tF], th_63, [([], some (tN 0 1), [])], [])
def an_59_374 : List ab_An := []
theorem sok_59_374 {l : Launch} {D : va_G} {cs : Nat → ClassId} {tS : Nat} (hGl : ab_Gl l ZZ wFF D vwCl cs tS) : ab_SOK l ZZ 2 D vwCl cs tS 59 sm_59_374 := zf_fin1 (DS := 1) (dp := 0) (fuel := 200000) (q := []) (il := []) (anns := an_59_374) (pcs := [118]) (cand := fun _ _ => an_59_374) (sp := (fun _ => [])) hGl gok_59 (by decide) (fun _ h => absurd h List.not_mem_nil) (fun _ h => absurd h List.not_mem_nil) (fun _ _ _ h => h) (by decide +kernel) (by decide +kernel)
-- SandFlags$Rota.placeFrom
def sm_59_375 : ab_Sm := ([tR 43, tN 0 5, tN 4 4, tN 126 126, tN 1 1, tF], th_63, [([], some (tN 0 1), [])], [])
def an_59_375 : List ab_An := []
theorem sok_59_375 {l : Launch} {D : va_G} {cs : Nat → ClassId} {tS : Nat} (hGl : ab_Gl l ZZ wFF D vwCl cs tS) : ab_SOK l ZZ 2 D vwCl cs tS 59 sm_59_375 := zf_fin1 (DS := 1) (dp := 0) (fuel := 200000) (q := []) (il := []) (anns := an_59_375) (pcs := [118]) (cand := fun _ _ => an_59_375) (sp := (fun _ => [])) hGl gok_59 (by decide) (fun _ h => absurd h List.not_mem_nil) (fun _ h => absurd h List.not_mem_nil) (fun _ _ _ h => h) (by decide +kernel) (by decide +kernel)
-- SandFlags$Rota.placeFrom
def sm_59_376 : ab_Sm := ([tR 43, tN 0 5, tN 4 4, tN 126 126, tN 126 126, tF], th_63, [([], some (tN 0 1), [])], [])
def an_59_376 : List ab_An := []
theorem sok_59_376 {l : Launch} {D : va_G} {cs : Nat → ClassId} {tS : Nat} (hGl : ab_Gl l ZZ wFF D vwCl cs tS) : ab_SOK l ZZ 2 D vwCl cs tS 59 sm_59_376 := zf_fin1 (DS := 1) (dp := 0) (fuel := 200000) (q := []) (il := []) (anns := an_59_376) (pcs := [118]) (cand := fun _ _ => an_59_376) (sp := (fun _ => [])) hGl gok_59 (by decide) (fun _ h => absurd h List.not_mem_nil) (fun _ h => absurd h List.not_mem_nil) (fun _ _ _ h => h) (by decide +kernel) (by decide +kernel)
-- SandFlags$Rota.placeFrom
def sm_59_377 : ab_Sm := ([tR 43, tN 0 5, tN 4 4, tN 126 126, tN 26 26, tF], th_63, [([], some (tN 0 1), [])], [])
def an_59_377 : List ab_An := []
theorem sok_59_377 {l : Launch} {D : va_G} {cs : Nat → ClassId} {tS : Nat} (hGl : ab_Gl l ZZ wFF D vwCl cs tS) : ab_SOK l ZZ 2 D vwCl cs tS 59 sm_59_377 := zf_fin1 (DS := 1) (dp := 0) (fuel := 200000) (q := []) (il := []) (anns := an_59_377) (pcs := [118]) (cand := fun _ _ => an_59_377) (sp := (fun _ => [])) hGl gok_59 (by decide) (fun _ h => absurd h List.not_mem_nil) (fun _ h => absurd h List.not_mem_nil) (fun _ _ _ h => h) (by decide +kernel) (by decide +kernel)
-- SandFlags$Rota.placeFrom
def sm_59_378 : ab_Sm := ([tR 43, tN 0 5, tN 4 4, tN 126 126, tN 6 6, tF], th_63, [([], some (tN 0 1), [])], [])
def an_59_378 : List ab_An := []
theorem sok_59_378 {l : Launch} {D : va_G} {cs : Nat → ClassId} {tS : Nat} (hGl : ab_Gl l ZZ wFF D vwCl cs tS) : ab_SOK l ZZ 2 D vwCl cs tS 59 sm_59_378 := zf_fin1 (DS := 1) (dp := 0) (fuel := 200000) (q := []) (il := []) (anns := an_59_378) (pcs := [118]) (cand := fun _ _ => an_59_378) (sp := (fun _ => [])) hGl gok_59 (by decide) (fun _ h => absurd h List.not_mem_nil) (fun _ h => absurd h List.not_mem_nil) (fun _ _ _ h => h) (by decide +kernel) (by decide +kernel)
-- SandFlags$Rota.placeFrom
def sm_59_379 : ab_Sm := ([tR 43, tN 0 5, tN 4 4, tN 126 126, tN 2 2, tF], th_63, [([], some (tN 0 1), [])], [])
def an_59_379 : List ab_An := []
theorem sok_59_379 {l : Launch} {D : va_G} {cs : Nat → ClassId} {tS : Nat} (hGl : ab_Gl l ZZ wFF D vwCl cs tS) : ab_SOK l ZZ 2 D vwCl cs tS 59 sm_59_379 := zf_fin1 (DS := 1) (dp := 0) (fuel := 200000) (q := []) (il := []) (anns := an_59_379) (pcs := [118]) (cand := fun _ _ => an_59_379) (sp := (fun _ => [])) hGl gok_59 (by decide) (fun _ h => absurd h List.not_mem_nil) (fun _ h => absurd h List.not_mem_nil) (fun _ _ _ h => h) (by decide +kernel) (by decide +kernel)
-- SandFlags$Rota.placeFrom
def sm_59_380 : ab_Sm := ([tR 43, tN 0 5, tN 4 4, tN 251 251, tN 0 0, tF], th_63, [([], some (tN 0 1), [])], [])
def an_59_380 : List ab_An := []
theorem sok_59_380 {l : Launch} {D : va_G} {cs : Nat → ClassId} {tS : Nat} (hGl : ab_Gl l ZZ wFF D vwCl cs tS) : ab_SOK l ZZ 2 D vwCl cs tS 59 sm_59_380 := zf_fin1 (DS := 1) (dp := 0) (fuel := 200000) (q := []) (il := []) (anns := an_59_380) (pcs := [118]) (cand := fun _ _ => an_59_380) (sp := (fun _ => [])) hGl gok_59 (by decide) (fun _ h => absurd h List.not_mem_nil) (fun _ h => absurd h List.not_mem_nil) (fun _ _ _ h => h) (by decide +kernel) (by decide +kernel)
-- SandFlags$Rota.placeFrom
def sm_59_381 : ab_Sm := ([tR 43, tN 0 5, tN 4 4, tN 251 251, tN 125 125, tF], th_63, [([], some (tN 0 1), [])], [])
def an_59_381 : List ab_An := []
theorem sok_59_381 {l : Launch} {D : va_G} {cs : Nat → ClassId} {tS : Nat} (hGl : ab_Gl l ZZ wFF D vwCl cs tS) : ab_SOK l ZZ 2 D vwCl cs tS 59 sm_59_381 := zf_fin1 (DS := 1) (dp := 0) (fuel := 200000) (q := []) (il := []) (anns := an_59_381) (pcs := [118]) (cand := fun _ _ => an_59_381) (sp := (fun _ => [])) hGl gok_59 (by decide) (fun _ h => absurd h List.not_mem_nil) (fun _ h => absurd h List.not_mem_nil) (fun _ _ _ h => h) (by decide +kernel) (by decide +kernel)
-- SandFlags$Rota.placeFrom
def sm_59_382 : ab_Sm := ([tR 43, tN 0 5, tN 4 4, tN 251 251, tN 25 25, tF], th_63, [([], some (tN 0 1), [])], [])
def an_59_382 : List ab_An := []
theorem sok_59_382 {l : Launch} {D : va_G} {cs : Nat → ClassId} {tS : Nat} (hGl : ab_Gl l ZZ wFF D vwCl cs tS) : ab_SOK l ZZ 2 D vwCl cs tS 59 sm_59_382 := zf_fin1 (DS := 1) (dp := 0) (fuel := 200000) (q := []) (il := []) (anns := an_59_382) (pcs := [118]) (cand := fun _ _ => an_59_382) (sp := (fun _ => [])) hGl gok_59 (by decide) (fun _ h => absurd h List.not_mem_nil) (fun _ h => absurd h List.not_mem_nil) (fun _ _ _ h => h) (by decide +kernel) (by decide +kernel)
-- SandFlags$Rota.placeFrom
def sm_59_383 : ab_Sm := ([tR 43, tN 0 5, tN 4 4, tN 251 251, tN 5 5, tF], th_63, [([], some (tN 0 1), [])], [])
def an_59_383 : List ab_An := []
theorem sok_59_383 {l : Launch} {D : va_G} {cs : Nat → ClassId} {tS : Nat} (hGl : ab_Gl l ZZ wFF D vwCl cs tS) : ab_SOK l ZZ 2 D vwCl cs tS 59 sm_59_383 := zf_fin1 (DS := 1) (dp := 0) (fuel := 200000) (q := []) (il := []) (anns := an_59_383) (pcs := [118]) (cand := fun _ _ => an_59_383) (sp := (fun _ => [])) hGl gok_59 (by decide) (fun _ h => absurd h List.not_mem_nil) (fun _ h => absurd h List.not_mem_nil) (fun _ _ _ h => h) (by decide +kernel) (by decide +kernel)
-- SandFlags$Rota.placeFrom
def sm_59_384 : ab_Sm := ([tR 43, tN 0 5, tN 4 4, tN 251 251, tN 1 1, tF], th_63, [([], some (tN 0 1), [])], [])
def an_59_384 : List ab_An := []
theorem sok_59_384 {l : Launch} {D : va_G} {cs : Nat → ClassId} {tS : Nat} (hGl : ab_Gl l ZZ wFF D vwCl cs tS) : ab_SOK l ZZ 2 D vwCl cs tS 59 sm_59_384 := zf_fin1 (DS := 1) (dp := 0) (fuel := 200000) (q := []) (il := []) (anns := an_59_384) (pcs := [118]) (cand := fun _ _ => an_59_384) (sp := (fun _ => [])) hGl gok_59 (by decide) (fun _ h => absurd h List.not_mem_nil) (fun _ h => absurd h List.not_mem_nil) (fun _ _ _ h => h) (by decide +kernel) (by decide +kernel)
-- SandFlags$Rota.placeFrom
def sm_59_385 : ab_Sm := ([tR 43, tN 0 5, tN 4 4, tN 376 376, tN 0 0, tF], th_63, [([], some (tN 0 1), [])], [])
def an_59_385 : List ab_An := []
theorem sok_59_385 {l : Launch} {D : va_G} {cs : Nat → ClassId} {tS : Nat} (hGl : ab_Gl l ZZ wFF D vwCl cs tS) : ab_SOK l ZZ 2 D vwCl cs tS 59 sm_59_385 := zf_fin1 (DS := 1) (dp := 0) (fuel := 200000) (q := []) (il := []) (anns := an_59_385) (pcs := [118]) (cand := fun _ _ => an_59_385) (sp := (fun _ => [])) hGl gok_59 (by decide) (fun _ h => absurd h List.not_mem_nil) (fun _ h => absurd h List.not_mem_nil) (fun _ _ _ h => h) (by decide +kernel) (by decide +kernel)
-- SandFlags$Rota.placeFrom
def sm_59_386 : ab_Sm := ([tR 43, tN 0 5, tN 4 4, tN 26 26, tN 0 0, tF], th_63, [([], some (tN 0 1), [])], [])
def an_59_386 : List ab_An := []
theorem sok_59_386 {l : Launch} {D : va_G} {cs : Nat → ClassId} {tS : Nat} (hGl : ab_Gl l ZZ wFF D vwCl cs tS) : ab_SOK l ZZ 2 D vwCl cs tS 59 sm_59_386 := zf_fin1 (DS := 1) (dp := 0) (fuel := 200000) (q := []) (il := []) (anns := an_59_386) (pcs := [118]) (cand := fun _ _ => an_59_386) (sp := (fun _ => [])) hGl gok_59 (by decide) (fun _ h => absurd h List.not_mem_nil) (fun _ h => absurd h List.not_mem_nil) (fun _ _ _ h => h) (by decide +kernel) (by decide +kernel)
-- SandFlags$Rota.placeFrom
def sm_59_387 : ab_Sm := ([tR 43, tN 0 5, tN 4 4, tN 26 26, tN 125 125, tF], th_63, [([], some (tN 0 1), [])], [])
def an_59_387 : List ab_An := []
theorem sok_59_387 {l : Launch} {D : va_G} {cs : Nat → ClassId} {tS : Nat} (hGl : ab_Gl l ZZ wFF D vwCl cs tS) : ab_SOK l ZZ 2 D vwCl cs tS 59 sm_59_387 := zf_fin1 (DS := 1) (dp := 0) (fuel := 200000) (q := []) (il := []) (anns := an_59_387) (pcs := [118]) (cand := fun _ _ => an_59_387) (sp := (fun _ => [])) hGl gok_59 (by decide) (fun _ h => absurd h List.not_mem_nil) (fun _ h => absurd h List.not_mem_nil) (fun _ _ _ h => h) (by decide +kernel) (by decide +kernel)
-- SandFlags$Rota.placeFrom
def sm_59_388 : ab_Sm := ([tR 43, tN 0 5, tN 4 4, tN 26 26, tN 250 250, tF], th_63, [([], some (tN 0 1), [])], [])
def an_59_388 : List ab_An := []
theorem sok_59_388 {l : Launch} {D : va_G} {cs : Nat → ClassId} {tS : Nat} (hGl : ab_Gl l ZZ wFF D vwCl cs tS) : ab_SOK l ZZ 2 D vwCl cs tS 59 sm_59_388 := zf_fin1 (DS := 1) (dp := 0) (fuel := 200000) (q := []) (il := []) (anns := an_59_388) (pcs := [118]) (cand := fun _ _ => an_59_388) (sp := (fun _ => [])) hGl gok_59 (by decide) (fun _ h => absurd h List.not_mem_nil) (fun _ h => absurd h List.not_mem_nil) (fun _ _ _ h => h) (by decide +kernel) (by decide +kernel)
-- SandFlags$Rota.placeFrom
def sm_59_389 : ab_Sm := ([tR 43, tN 0 5, tN 4 4, tN 26 26, tN 25 25, tF], th_63, [([], some (tN 0 1), [])], [])
def an_59_389 : List ab_An := []
theorem sok_59_389 {l : Launch} {D : va_G} {cs : Nat → ClassId} {tS : Nat} (hGl : ab_Gl l ZZ wFF D vwCl cs tS) : ab_SOK l ZZ 2 D vwCl cs tS 59 sm_59_389 := zf_fin1 (DS := 1) (dp := 0) (fuel := 200000) (q := []) (il := []) (anns := an_59_389) (pcs := [118]) (cand := fun _ _ => an_59_389) (sp := (fun _ => [])) hGl gok_59 (by decide) (fun _ h => absurd h List.not_mem_nil) (fun _ h => absurd h List.not_mem_nil) (fun _ _ _ h => h) (by decide +kernel) (by decide +kernel)
-- SandFlags$Rota.placeFrom
def sm_59_390 : ab_Sm := ([tR 43, tN 0 5, tN 4 4, tN 26 26, tN 150 150, tF], th_63, [([], some (tN 0 1), [])], [])
def an_59_390 : List ab_An := []
theorem sok_59_390 {l : Launch} {D : va_G} {cs : Nat → ClassId} {tS : Nat} (hGl : ab_Gl l ZZ wFF D vwCl cs tS) : ab_SOK l ZZ 2 D vwCl cs tS 59 sm_59_390 := zf_fin1 (DS := 1) (dp := 0) (fuel := 200000) (q := []) (il := []) (anns := an_59_390) (pcs := [118]) (cand := fun _ _ => an_59_390) (sp := (fun _ => [])) hGl gok_59 (by decide) (fun _ h => absurd h List.not_mem_nil) (fun _ h => absurd h List.not_mem_nil) (fun _ _ _ h => h) (by decide +kernel) (by decide +kernel)
-- SandFlags$Rota.placeFrom
def sm_59_391 : ab_Sm := ([tR 43, tN 0 5, tN 4 4, tN 26 26, tN 50 50, tF], th_63, [([], some (tN 0 1), [])], [])
def an_59_391 : List ab_An := []
theorem sok_59_391 {l : Launch} {D : va_G} {cs : Nat → ClassId} {tS : Nat} (hGl : ab_Gl l ZZ wFF D vwCl cs tS) : ab_SOK l ZZ 2 D vwCl cs tS 59 sm_59_391 := zf_fin1 (DS := 1) (dp := 0) (fuel := 200000) (q := []) (il := []) (anns := an_59_391) (pcs := [118]) (cand := fun _ _ => an_59_391) (sp := (fun _ => [])) hGl gok_59 (by decide) (fun _ h => absurd h List.not_mem_nil) (fun _ h => absurd h List.not_mem_nil) (fun _ _ _ h => h) (by decide +kernel) (by decide +kernel)
-- SandFlags$Rota.placeFrom
def sm_59_392 : ab_Sm := ([tR 43, tN 0 5, tN 4 4, tN 26 26, tN 5 5, tF], th_63, [([], some (tN 0 1), [])], [])
def an_59_392 : List ab_An := []
theorem sok_59_392 {l : Launch} {D : va_G} {cs : Nat → ClassId} {tS : Nat} (hGl : ab_Gl l ZZ wFF D vwCl cs tS) : ab_SOK l ZZ 2 D vwCl cs tS 59 sm_59_392 := zf_fin1 (DS := 1) (dp := 0) (fuel := 200000) (q := []) (il := []) (anns := an_59_392) (pcs := [118]) (cand := fun _ _ => an_59_392) (sp := (fun _ => [])) hGl gok_59 (by decide) (fun _ h => absurd h List.not_mem_nil) (fun _ h => absurd h List.not_mem_nil) (fun _ _ _ h => h) (by decide +kernel) (by decide +kernel)
-- SandFlags$Rota.placeFrom
def sm_59_393 : ab_Sm := ([tR 43, tN 0 5, tN 4 4, tN 26 26, tN 130 130, tF], th_63, [([], some (tN 0 1), [])], [])
def an_59_393 : List ab_An := []
theorem sok_59_393 {l : Launch} {D : va_G} {cs : Nat → ClassId} {tS : Nat} (hGl : ab_Gl l ZZ wFF D vwCl cs tS) : ab_SOK l ZZ 2 D vwCl cs tS 59 sm_59_393 := zf_fin1 (DS := 1) (dp := 0) (fuel := 200000) (q := []) (il := []) (anns := an_59_393) (pcs := [118]) (cand := fun _ _ => an_59_393) (sp := (fun _ => [])) hGl gok_59 (by decide) (fun _ h => absurd h List.not_mem_nil) (fun _ h => absurd h List.not_mem_nil) (fun _ _ _ h => h) (by decide +kernel) (by decide +kernel)
-- SandFlags$Rota.placeFrom
def sm_59_394 : ab_Sm := ([tR 43, tN 0 5, tN 4 4, tN 26 26, tN 30 30, tF], th_63, [([], some (tN 0 1), [])], [])
def an_59_394 : List ab_An := []
theorem sok_59_394 {l : Launch} {D : va_G} {cs : Nat → ClassId} {tS : Nat} (hGl : ab_Gl l ZZ wFF D vwCl cs tS) : ab_SOK l ZZ 2 D vwCl cs tS 59 sm_59_394 := zf_fin1 (DS := 1) (dp := 0) (fuel := 200000) (q := []) (il := []) (anns := an_59_394) (pcs := [118]) (cand := fun _ _ => an_59_394) (sp := (fun _ => [])) hGl gok_59 (by decide) (fun _ h => absurd h List.not_mem_nil) (fun _ h => absurd h List.not_mem_nil) (fun _ _ _ h => h) (by decide +kernel) (by decide +kernel)
-- SandFlags$Rota.placeFrom
def sm_59_395 : ab_Sm := ([tR 43, tN 0 5, tN 4 4, tN 26 26, tN 10 10, tF], th_63, [([], some (tN 0 1), [])], [])
def an_59_395 : List ab_An := []
theorem sok_59_395 {l : Launch} {D : va_G} {cs : Nat → ClassId} {tS : Nat} (hGl : ab_Gl l ZZ wFF D vwCl cs tS) : ab_SOK l ZZ 2 D vwCl cs tS 59 sm_59_395 := zf_fin1 (DS := 1) (dp := 0) (fuel := 200000) (q := []) (il := []) (anns := an_59_395) (pcs := [118]) (cand := fun _ _ => an_59_395) (sp := (fun _ => [])) hGl gok_59 (by decide) (fun _ h => absurd h List.not_mem_nil) (fun _ h => absurd h List.not_mem_nil) (fun _ _ _ h => h) (by decide +kernel) (by decide +kernel)
-- SandFlags$Rota.placeFrom
def sm_59_396 : ab_Sm := ([tR 43, tN 0 5, tN 4 4, tN 26 26, tN 1 1, tF], th_63, [([], some (tN 0 1), [])], [])
def an_59_396 : List ab_An := []
theorem sok_59_396 {l : Launch} {D : va_G} {cs : Nat → ClassId} {tS : Nat} (hGl : ab_Gl l ZZ wFF D vwCl cs tS) : ab_SOK l ZZ 2 D vwCl cs tS 59 sm_59_396 := zf_fin1 (DS := 1) (dp := 0) (fuel := 200000) (q := []) (il := []) (anns := an_59_396) (pcs := [118]) (cand := fun _ _ => an_59_396) (sp := (fun _ => [])) hGl gok_59 (by decide) (fun _ h => absurd h List.not_mem_nil) (fun _ h => absurd h List.not_mem_nil) (fun _ _ _ h => h) (by decide +kernel) (by decide +kernel)
-- SandFlags$Rota.placeFrom
def sm_59_397 : ab_Sm := ([tR 43, tN 0 5, tN 4 4, tN 26 26, tN 126 126, tF], th_63, [([], some (tN 0 1), [])], [])
def an_59_397 : List ab_An := []
theorem sok_59_397 {l : Launch} {D : va_G} {cs : Nat → ClassId} {tS : Nat} (hGl : ab_Gl l ZZ wFF D vwCl cs tS) : ab_SOK l ZZ 2 D vwCl cs tS 59 sm_59_397 := zf_fin1 (DS := 1) (dp := 0) (fuel := 200000) (q := []) (il := []) (anns := an_59_397) (pcs := [118]) (cand := fun _ _ => an_59_397) (sp := (fun _ => [])) hGl gok_59 (by decide) (fun _ h => absurd h List.not_mem_nil) (fun _ h => absurd h List.not_mem_nil) (fun _ _ _ h => h) (by decide +kernel) (by decide +kernel)
-- SandFlags$Rota.placeFrom
def sm_59_398 : ab_Sm := ([tR 43, tN 0 5, tN 4 4, tN 26 26, tN 26 26, tF], th_63, [([], some (tN 0 1), [])], [])
def an_59_398 : List ab_An := []
theorem sok_59_398 {l : Launch} {D : va_G} {cs : Nat → ClassId} {tS : Nat} (hGl : ab_Gl l ZZ wFF D vwCl cs tS) : ab_SOK l ZZ 2 D vwCl cs tS 59 sm_59_398 := zf_fin1 (DS := 1) (dp := 0) (fuel := 200000) (q := []) (il := []) (anns := an_59_398) (pcs := [118]) (cand := fun _ _ => an_59_398) (sp := (fun _ => [])) hGl gok_59 (by decide) (fun _ h => absurd h List.not_mem_nil) (fun _ h => absurd h List.not_mem_nil) (fun _ _ _ h => h) (by decide +kernel) (by decide +kernel)
-- SandFlags$Rota.placeFrom
def sm_59_399 : ab_Sm := ([tR 43, tN 0 5, tN 4 4, tN 26 26, tN 6 6, tF], th_63, [([], some (tN 0 1), [])], [])
def an_59_399 : List ab_An := []
theorem sok_59_399 {l : Launch} {D : va_G} {cs : Nat → ClassId} {tS : Nat} (hGl : ab_Gl l ZZ wFF D vwCl cs tS) : ab_SOK l ZZ 2 D vwCl cs tS 59 sm_59_399 := zf_fin1 (DS := 1) (dp := 0) (fuel := 200000) (q := []) (il := []) (anns := an_59_399) (pcs := [118]) (cand := fun _ _ => an_59_399) (sp := (fun _ => [])) hGl gok_59 (by decide) (fun _ h => absurd h List.not_mem_nil) (fun _ h => absurd h List.not_mem_nil) (fun _ _ _ h => h) (by decide +kernel) (by decide +kernel)
-- SandFlags$Rota.placeFrom
def sm_59_400 : ab_Sm := ([tR 43, tN 0 5, tN 4 4, tN 26 26, tN 2 2, tF], th_63, [([], some (tN 0 1), [])], [])
def an_59_400 : List ab_An := []
theorem sok_59_400 {l : Launch} {D : va_G} {cs : Nat → ClassId} {tS : Nat} (hGl : ab_Gl l ZZ wFF D vwCl cs tS) : ab_SOK l ZZ 2 D vwCl cs tS 59 sm_59_400 := zf_fin1 (DS := 1) (dp := 0) (fuel := 200000) (q := []) (il := []) (anns := an_59_400) (pcs := [118]) (cand := fun _ _ => an_59_400) (sp := (fun _ => [])) hGl gok_59 (by decide) (fun _ h => absurd h List.not_mem_nil) (fun _ h => absurd h List.not_mem_nil) (fun _ _ _ h => h) (by decide +kernel) (by decide +kernel)
-- SandFlags$Rota.placeFrom
def sm_59_401 : ab_Sm := ([tR 43, tN 0 5, tN 4 4, tN 151 151, tN 0 0, tF], th_63, [([], some (tN 0 1), [])], [])
def an_59_401 : List ab_An := []
theorem sok_59_401 {l : Launch} {D : va_G} {cs : Nat → ClassId} {tS : Nat} (hGl : ab_Gl l ZZ wFF D vwCl cs tS) : ab_SOK l ZZ 2 D vwCl cs tS 59 sm_59_401 := zf_fin1 (DS := 1) (dp := 0) (fuel := 200000) (q := []) (il := []) (anns := an_59_401) (pcs := [118]) (cand := fun _ _ => an_59_401) (sp := (fun _ => [])) hGl gok_59 (by decide) (fun _ h => absurd h List.not_mem_nil) (fun _ h => absurd h List.not_mem_nil) (fun _ _ _ h => h) (by decide +kernel) (by decide +kernel)
-- SandFlags$Rota.placeFrom
def sm_59_402 : ab_Sm := ([tR 43, tN 0 5, tN 4 4, tN 151 151, tN 125 125, tF], th_63, [([], some (tN 0 1), [])], [])
def an_59_402 : List ab_An := []
theorem sok_59_402 {l : Launch} {D : va_G} {cs : Nat → ClassId} {tS : Nat} (hGl : ab_Gl l ZZ wFF D vwCl cs tS) : ab_SOK l ZZ 2 D vwCl cs tS 59 sm_59_402 := zf_fin1 (DS := 1) (dp := 0) (fuel := 200000) (q := []) (il := []) (anns := an_59_402) (pcs := [118]) (cand := fun _ _ => an_59_402) (sp := (fun _ => [])) hGl gok_59 (by decide) (fun _ h => absurd h List.not_mem_nil) (fun _ h => absurd h List.not_mem_nil) (fun _ _ _ h => h) (by decide +kernel) (by decide +kernel)
-- SandFlags$Rota.placeFrom
def sm_59_403 : ab_Sm := ([tR 43, tN 0 5, tN 4 4, tN 151 151, tN 25 25, tF], th_63, [([], some (tN 0 1), [])], [])
def an_59_403 : List ab_An := []
theorem sok_59_403 {l : Launch} {D : va_G} {cs : Nat → ClassId} {tS : Nat} (hGl : ab_Gl l ZZ wFF D vwCl cs tS) : ab_SOK l ZZ 2 D vwCl cs tS 59 sm_59_403 := zf_fin1 (DS := 1) (dp := 0) (fuel := 200000) (q := []) (il := []) (anns := an_59_403) (pcs := [118]) (cand := fun _ _ => an_59_403) (sp := (fun _ => [])) hGl gok_59 (by decide) (fun _ h => absurd h List.not_mem_nil) (fun _ h => absurd h List.not_mem_nil) (fun _ _ _ h => h) (by decide +kernel) (by decide +kernel)
-- SandFlags$Rota.placeFrom
def sm_59_404 : ab_Sm := ([tR 43, tN 0 5, tN 4 4, tN 151 151, tN 5 5, tF], th_63, [([], some (tN 0 1), [])], [])
def an_59_404 : List ab_An := []
theorem sok_59_404 {l : Launch} {D : va_G} {cs : Nat → ClassId} {tS : Nat} (hGl : ab_Gl l ZZ wFF D vwCl cs tS) : ab_SOK l ZZ 2 D vwCl cs tS 59 sm_59_404 := zf_fin1 (DS := 1) (dp := 0) (fuel := 200000) (q := []) (il := []) (anns := an_59_404) (pcs := [118]) (cand := fun _ _ => an_59_404) (sp := (fun _ => [])) hGl gok_59 (by decide) (fun _ h => absurd h List.not_mem_nil) (fun _ h => absurd h List.not_mem_nil) (fun _ _ _ h => h) (by decide +kernel) (by decide +kernel)
-- SandFlags$Rota.placeFrom
def sm_59_405 : ab_Sm := ([tR 43, tN 0 5, tN 4 4, tN 151 151, tN 1 1, tF], th_63, [([], some (tN 0 1), [])], [])
def an_59_405 : List ab_An := []
theorem sok_59_405 {l : Launch} {D : va_G} {cs : Nat → ClassId} {tS : Nat} (hGl : ab_Gl l ZZ wFF D vwCl cs tS) : ab_SOK l ZZ 2 D vwCl cs tS 59 sm_59_405 := zf_fin1 (DS := 1) (dp := 0) (fuel := 200000) (q := []) (il := []) (anns := an_59_405) (pcs := [118]) (cand := fun _ _ => an_59_405) (sp := (fun _ => [])) hGl gok_59 (by decide) (fun _ h => absurd h List.not_mem_nil) (fun _ h => absurd h List.not_mem_nil) (fun _ _ _ h => h) (by decide +kernel) (by decide +kernel)
-- SandFlags$Rota.placeFrom
def sm_59_406 : ab_Sm := ([tR 43, tN 0 5, tN 4 4, tN 276 276, tN 0 0, tF], th_63, [([], some (tN 0 1), [])], [])
def an_59_406 : List ab_An := []
theorem sok_59_406 {l : Launch} {D : va_G} {cs : Nat → ClassId} {tS : Nat} (hGl : ab_Gl l ZZ wFF D vwCl cs tS) : ab_SOK l ZZ 2 D vwCl cs tS 59 sm_59_406 := zf_fin1 (DS := 1) (dp := 0) (fuel := 200000) (q := []) (il := []) (anns := an_59_406) (pcs := [118]) (cand := fun _ _ => an_59_406) (sp := (fun _ => [])) hGl gok_59 (by decide) (fun _ h => absurd h List.not_mem_nil) (fun _ h => absurd h List.not_mem_nil) (fun _ _ _ h => h) (by decide +kernel) (by decide +kernel)
-- SandFlags$Rota.placeFrom
def sm_59_407 : ab_Sm := ([tR 43, tN 0 5, tN 4 4, tN 51 51, tN 0 0, tF], th_63, [([], some (tN 0 1), [])], [])
def an_59_407 : List ab_An := []
theorem sok_59_407 {l : Launch} {D : va_G} {cs : Nat → ClassId} {tS : Nat} (hGl : ab_Gl l ZZ wFF D vwCl cs tS) : ab_SOK l ZZ 2 D vwCl cs tS 59 sm_59_407 := zf_fin1 (DS := 1) (dp := 0) (fuel := 200000) (q := []) (il := []) (anns := an_59_407) (pcs := [118]) (cand := fun _ _ => an_59_407) (sp := (fun _ => [])) hGl gok_59 (by decide) (fun _ h => absurd h List.not_mem_nil) (fun _ h => absurd h List.not_mem_nil) (fun _ _ _ h => h) (by decide +kernel) (by decide +kernel)
-- SandFlags$Rota.placeFrom
def sm_59_408 : ab_Sm := ([tR 43, tN 0 5, tN 4 4, tN 51 51, tN 125 125, tF], th_63, [([], some (tN 0 1), [])], [])
def an_59_408 : List ab_An := []
theorem sok_59_408 {l : Launch} {D : va_G} {cs : Nat → ClassId} {tS : Nat} (hGl : ab_Gl l ZZ wFF D vwCl cs tS) : ab_SOK l ZZ 2 D vwCl cs tS 59 sm_59_408 := zf_fin1 (DS := 1) (dp := 0) (fuel := 200000) (q := []) (il := []) (anns := an_59_408) (pcs := [118]) (cand := fun _ _ => an_59_408) (sp := (fun _ => [])) hGl gok_59 (by decide) (fun _ h => absurd h List.not_mem_nil) (fun _ h => absurd h List.not_mem_nil) (fun _ _ _ h => h) (by decide +kernel) (by decide +kernel)
-- SandFlags$Rota.placeFrom
def sm_59_409 : ab_Sm := ([tR 43, tN 0 5, tN 4 4, tN 51 51, tN 25 25, tF], th_63, [([], some (tN 0 1), [])], [])
def an_59_409 : List ab_An := []
theorem sok_59_409 {l : Launch} {D : va_G} {cs : Nat → ClassId} {tS : Nat} (hGl : ab_Gl l ZZ wFF D vwCl cs tS) : ab_SOK l ZZ 2 D vwCl cs tS 59 sm_59_409 := zf_fin1 (DS := 1) (dp := 0) (fuel := 200000) (q := []) (il := []) (anns := an_59_409) (pcs := [118]) (cand := fun _ _ => an_59_409) (sp := (fun _ => [])) hGl gok_59 (by decide) (fun _ h => absurd h List.not_mem_nil) (fun _ h => absurd h List.not_mem_nil) (fun _ _ _ h => h) (by decide +kernel) (by decide +kernel)
-- SandFlags$Rota.placeFrom
def sm_59_410 : ab_Sm := ([tR 43, tN 0 5, tN 4 4, tN 51 51, tN 5 5, tF], th_63, [([], some (tN 0 1), [])], [])
def an_59_410 : List ab_An := []
theorem sok_59_410 {l : Launch} {D : va_G} {cs : Nat → ClassId} {tS : Nat} (hGl : ab_Gl l ZZ wFF D vwCl cs tS) : ab_SOK l ZZ 2 D vwCl cs tS 59 sm_59_410 := zf_fin1 (DS := 1) (dp := 0) (fuel := 200000) (q := []) (il := []) (anns := an_59_410) (pcs := [118]) (cand := fun _ _ => an_59_410) (sp := (fun _ => [])) hGl gok_59 (by decide) (fun _ h => absurd h List.not_mem_nil) (fun _ h => absurd h List.not_mem_nil) (fun _ _ _ h => h) (by decide +kernel) (by decide +kernel)
-- SandFlags$Rota.placeFrom
def sm_59_411 : ab_Sm := ([tR 43, tN 0 5, tN 4 4, tN 51 51, tN 1 1, tF], th_63, [([], some (tN 0 1), [])], [])
def an_59_411 : List ab_An := []
theorem sok_59_411 {l : Launch} {D : va_G} {cs : Nat → ClassId} {tS : Nat} (hGl : ab_Gl l ZZ wFF D vwCl cs tS) : ab_SOK l ZZ 2 D vwCl cs tS 59 sm_59_411 := zf_fin1 (DS := 1) (dp := 0) (fuel := 200000) (q := []) (il := []) (anns := an_59_411) (pcs := [118]) (cand := fun _ _ => an_59_411) (sp := (fun _ => [])) hGl gok_59 (by decide) (fun _ h => absurd h List.not_mem_nil) (fun _ h => absurd h List.not_mem_nil) (fun _ _ _ h => h) (by decide +kernel) (by decide +kernel)
-- SandFlags$Rota.placeFrom
def sm_59_412 : ab_Sm := ([tR 43, tN 0 5, tN 4 4, tN 176 176, tN 0 0, tF], th_63, [([], some (tN 0 1), [])], [])
def an_59_412 : List ab_An := []
theorem sok_59_412 {l : Launch} {D : va_G} {cs : Nat → ClassId} {tS : Nat} (hGl : ab_Gl l ZZ wFF D vwCl cs tS) : ab_SOK l ZZ 2 D vwCl cs tS 59 sm_59_412 := zf_fin1 (DS := 1) (dp := 0) (fuel := 200000) (q := []) (il := []) (anns := an_59_412) (pcs := [118]) (cand := fun _ _ => an_59_412) (sp := (fun _ => [])) hGl gok_59 (by decide) (fun _ h => absurd h List.not_mem_nil) (fun _ h => absurd h List.not_mem_nil) (fun _ _ _ h => h) (by decide +kernel) (by decide +kernel)
-- SandFlags$Rota.placeFrom
def sm_59_413 : ab_Sm := ([tR 43, tN 0 5, tN 4 4, tN 76 76, tN 0 0, tF], th_63, [([], some (tN 0 1), [])], [])
def an_59_413 : List ab_An := []
theorem sok_59_413 {l : Launch} {D : va_G} {cs : Nat → ClassId} {tS : Nat} (hGl : ab_Gl l ZZ wFF D vwCl cs tS) : ab_SOK l ZZ 2 D vwCl cs tS 59 sm_59_413 := zf_fin1 (DS := 1) (dp := 0) (fuel := 200000) (q := []) (il := []) (anns := an_59_413) (pcs := [118]) (cand := fun _ _ => an_59_413) (sp := (fun _ => [])) hGl gok_59 (by decide) (fun _ h => absurd h List.not_mem_nil) (fun _ h => absurd h List.not_mem_nil) (fun _ _ _ h => h) (by decide +kernel) (by decide +kernel)
-- SandFlags$Rota.placeFrom
def sm_59_414 : ab_Sm := ([tR 43, tN 0 5, tN 4 4, tN 6 6, tN 0 0, tF], th_63, [([], some (tN 0 1), [])], [])
def an_59_414 : List ab_An := []
theorem sok_59_414 {l : Launch} {D : va_G} {cs : Nat → ClassId} {tS : Nat} (hGl : ab_Gl l ZZ wFF D vwCl cs tS) : ab_SOK l ZZ 2 D vwCl cs tS 59 sm_59_414 := zf_fin1 (DS := 1) (dp := 0) (fuel := 200000) (q := []) (il := []) (anns := an_59_414) (pcs := [118]) (cand := fun _ _ => an_59_414) (sp := (fun _ => [])) hGl gok_59 (by decide) (fun _ h => absurd h List.not_mem_nil) (fun _ h => absurd h List.not_mem_nil) (fun _ _ _ h => h) (by decide +kernel) (by decide +kernel)
-- SandFlags$Rota.placeFrom
def sm_59_415 : ab_Sm := ([tR 43, tN 0 5, tN 4 4, tN 6 6, tN 125 125, tF], th_63, [([], some (tN 0 1), [])], [])
def an_59_415 : List ab_An := []
theorem sok_59_415 {l : Launch} {D : va_G} {cs : Nat → ClassId} {tS : Nat} (hGl : ab_Gl l ZZ wFF D vwCl cs tS) : ab_SOK l ZZ 2 D vwCl cs tS 59 sm_59_415 := zf_fin1 (DS := 1) (dp := 0) (fuel := 200000) (q := []) (il := []) (anns := an_59_415) (pcs := [118]) (cand := fun _ _ => an_59_415) (sp := (fun _ => [])) hGl gok_59 (by decide) (fun _ h => absurd h List.not_mem_nil) (fun _ h => absurd h List.not_mem_nil) (fun _ _ _ h => h) (by decide +kernel) (by decide +kernel)
-- SandFlags$Rota.placeFrom
def sm_59_416 : ab_Sm := ([tR 43, tN 0 5, tN 4 4, tN 6 6, tN 250 250, tF], th_63, [([], some (tN 0 1), [])], [])
def an_59_416 : List ab_An := []
theorem sok_59_416 {l : Launch} {D : va_G} {cs : Nat → ClassId} {tS : Nat} (hGl : ab_Gl l ZZ wFF D vwCl cs tS) : ab_SOK l ZZ 2 D vwCl cs tS 59 sm_59_416 := zf_fin1 (DS := 1) (dp := 0) (fuel := 200000) (q := []) (il := []) (anns := an_59_416) (pcs := [118]) (cand := fun _ _ => an_59_416) (sp := (fun _ => [])) hGl gok_59 (by decide) (fun _ h => absurd h List.not_mem_nil) (fun _ h => absurd h List.not_mem_nil) (fun _ _ _ h => h) (by decide +kernel) (by decide +kernel)
-- SandFlags$Rota.placeFrom
def sm_59_417 : ab_Sm := ([tR 43, tN 0 5, tN 4 4, tN 6 6, tN 25 25, tF], th_63, [([], some (tN 0 1), [])], [])
def an_59_417 : List ab_An := []
theorem sok_59_417 {l : Launch} {D : va_G} {cs : Nat → ClassId} {tS : Nat} (hGl : ab_Gl l ZZ wFF D vwCl cs tS) : ab_SOK l ZZ 2 D vwCl cs tS 59 sm_59_417 := zf_fin1 (DS := 1) (dp := 0) (fuel := 200000) (q := []) (il := []) (anns := an_59_417) (pcs := [118]) (cand := fun _ _ => an_59_417) (sp := (fun _ => [])) hGl gok_59 (by decide) (fun _ h => absurd h List.not_mem_nil) (fun _ h => absurd h List.not_mem_nil) (fun _ _ _ h => h) (by decide +kernel) (by decide +kernel)
-- SandFlags$Rota.placeFrom
def sm_59_418 : ab_Sm := ([tR 43, tN 0 5, tN 4 4, tN 6 6, tN 150 150, tF], th_63, [([], some (tN 0 1), [])], [])
def an_59_418 : List ab_An := []
theorem sok_59_418 {l : Launch} {D : va_G} {cs : Nat → ClassId} {tS : Nat} (hGl : ab_Gl l ZZ wFF D vwCl cs tS) : ab_SOK l ZZ 2 D vwCl cs tS 59 sm_59_418 := zf_fin1 (DS := 1) (dp := 0) (fuel := 200000) (q := []) (il := []) (anns := an_59_418) (pcs := [118]) (cand := fun _ _ => an_59_418) (sp := (fun _ => [])) hGl gok_59 (by decide) (fun _ h => absurd h List.not_mem_nil) (fun _ h => absurd h List.not_mem_nil) (fun _ _ _ h => h) (by decide +kernel) (by decide +kernel)
-- SandFlags$Rota.placeFrom
def sm_59_419 : ab_Sm := ([tR 43, tN 0 5, tN 4 4, tN 6 6, tN 50 50, tF], th_63, [([], some (tN 0 1), [])], [])
def an_59_419 : List ab_An := []
theorem sok_59_419 {l : Launch} {D : va_G} {cs : Nat → ClassId} {tS : Nat} (hGl : ab_Gl l ZZ wFF D vwCl cs tS) : ab_SOK l ZZ 2 D vwCl cs tS 59 sm_59_419 := zf_fin1 (DS := 1) (dp := 0) (fuel := 200000) (q := []) (il := []) (anns := an_59_419) (pcs := [118]) (cand := fun _ _ => an_59_419) (sp := (fun _ => [])) hGl gok_59 (by decide) (fun _ h => absurd h List.not_mem_nil) (fun _ h => absurd h List.not_mem_nil) (fun _ _ _ h => h) (by decide +kernel) (by decide +kernel)
-- SandFlags$Rota.placeFrom
def sm_59_420 : ab_Sm := ([tR 43, tN 0 5, tN 4 4, tN 6 6, tN 5 5, tF], th_63, [([], some (tN 0 1), [])], [])
def an_59_420 : List ab_An := []
theorem sok_59_420 {l : Launch} {D : va_G} {cs : Nat → ClassId} {tS : Nat} (hGl : ab_Gl l ZZ wFF D vwCl cs tS) : ab_SOK l ZZ 2 D vwCl cs tS 59 sm_59_420 := zf_fin1 (DS := 1) (dp := 0) (fuel := 200000) (q := []) (il := []) (anns := an_59_420) (pcs := [118]) (cand := fun _ _ => an_59_420) (sp := (fun _ => [])) hGl gok_59 (by decide) (fun _ h => absurd h List.not_mem_nil) (fun _ h => absurd h List.not_mem_nil) (fun _ _ _ h => h) (by decide +kernel) (by decide +kernel)
-- SandFlags$Rota.placeFrom
def sm_59_421 : ab_Sm := ([tR 43, tN 0 5, tN 4 4, tN 6 6, tN 130 130, tF], th_63, [([], some (tN 0 1), [])], [])
def an_59_421 : List ab_An := []
theorem sok_59_421 {l : Launch} {D : va_G} {cs : Nat → ClassId} {tS : Nat} (hGl : ab_Gl l ZZ wFF D vwCl cs tS) : ab_SOK l ZZ 2 D vwCl cs tS 59 sm_59_421 := zf_fin1 (DS := 1) (dp := 0) (fuel := 200000) (q := []) (il := []) (anns := an_59_421) (pcs := [118]) (cand := fun _ _ => an_59_421) (sp := (fun _ => [])) hGl gok_59 (by decide) (fun _ h => absurd h List.not_mem_nil) (fun _ h => absurd h List.not_mem_nil) (fun _ _ _ h => h) (by decide +kernel) (by decide +kernel)
-- SandFlags$Rota.placeFrom
def sm_59_422 : ab_Sm := ([tR 43, tN 0 5, tN 4 4, tN 6 6, tN 30 30, tF], th_63, [([], some (tN 0 1), [])], [])
def an_59_422 : List ab_An := []
theorem sok_59_422 {l : Launch} {D : va_G} {cs : Nat → ClassId} {tS : Nat} (hGl : ab_Gl l ZZ wFF D vwCl cs tS) : ab_SOK l ZZ 2 D vwCl cs tS 59 sm_59_422 := zf_fin1 (DS := 1) (dp := 0) (fuel := 200000) (q := []) (il := []) (anns := an_59_422) (pcs := [118]) (cand := fun _ _ => an_59_422) (sp := (fun _ => [])) hGl gok_59 (by decide) (fun _ h => absurd h List.not_mem_nil) (fun _ h => absurd h List.not_mem_nil) (fun _ _ _ h => h) (by decide +kernel) (by decide +kernel)
-- SandFlags$Rota.placeFrom
def sm_59_423 : ab_Sm := ([tR 43, tN 0 5, tN 4 4, tN 6 6, tN 10 10, tF], th_63, [([], some (tN 0 1), [])], [])
def an_59_423 : List ab_An := []
theorem sok_59_423 {l : Launch} {D : va_G} {cs : Nat → ClassId} {tS : Nat} (hGl : ab_Gl l ZZ wFF D vwCl cs tS) : ab_SOK l ZZ 2 D vwCl cs tS 59 sm_59_423 := zf_fin1 (DS := 1) (dp := 0) (fuel := 200000) (q := []) (il := []) (anns := an_59_423) (pcs := [118]) (cand := fun _ _ => an_59_423) (sp := (fun _ => [])) hGl gok_59 (by decide) (fun _ h => absurd h List.not_mem_nil) (fun _ h => absurd h List.not_mem_nil) (fun _ _ _ h => h) (by decide +kernel) (by decide +kernel)
-- SandFlags$Rota.placeFrom
def sm_59_424 : ab_Sm := ([tR 43, tN 0 5, tN 4 4, tN 6 6, tN 1 1, tF], th_63, [([], some (tN 0 1), [])], [])
def an_59_424 : List ab_An := []
theorem sok_59_424 {l : Launch} {D : va_G} {cs : Nat → ClassId} {tS : Nat} (hGl : ab_Gl l ZZ wFF D vwCl cs tS) : ab_SOK l ZZ 2 D vwCl cs tS 59 sm_59_424 := zf_fin1 (DS := 1) (dp := 0) (fuel := 200000) (q := []) (il := []) (anns := an_59_424) (pcs := [118]) (cand := fun _ _ => an_59_424) (sp := (fun _ => [])) hGl gok_59 (by decide) (fun _ h => absurd h List.not_mem_nil) (fun _ h => absurd h List.not_mem_nil) (fun _ _ _ h => h) (by decide +kernel) (by decide +kernel)
-- SandFlags$Rota.placeFrom
def sm_59_425 : ab_Sm := ([tR 43, tN 0 5, tN 4 4, tN 6 6, tN 126 126, tF], th_63, [([], some (tN 0 1), [])], [])
def an_59_425 : List ab_An := []
theorem sok_59_425 {l : Launch} {D : va_G} {cs : Nat → ClassId} {tS : Nat} (hGl : ab_Gl l ZZ wFF D vwCl cs tS) : ab_SOK l ZZ 2 D vwCl cs tS 59 sm_59_425 := zf_fin1 (DS := 1) (dp := 0) (fuel := 200000) (q := []) (il := []) (anns := an_59_425) (pcs := [118]) (cand := fun _ _ => an_59_425) (sp := (fun _ => [])) hGl gok_59 (by decide) (fun _ h => absurd h List.not_mem_nil) (fun _ h => absurd h List.not_mem_nil) (fun _ _ _ h => h) (by decide +kernel) (by decide +kernel)
-- SandFlags$Rota.placeFrom
def sm_59_426 : ab_Sm := ([tR 43, tN 0 5, tN 4 4, tN 6 6, tN 26 26, tF], th_63, [([], some (tN 0 1), [])], [])
def an_59_426 : List ab_An := []
theorem sok_59_426 {l : Launch} {D : va_G} {cs : Nat → ClassId} {tS : Nat} (hGl : ab_Gl l ZZ wFF D vwCl cs tS) : ab_SOK l ZZ 2 D vwCl cs tS 59 sm_59_426 := zf_fin1 (DS := 1) (dp := 0) (fuel := 200000) (q := []) (il := []) (anns := an_59_426) (pcs := [118]) (cand := fun _ _ => an_59_426) (sp := (fun _ => [])) hGl gok_59 (by decide) (fun _ h => absurd h List.not_mem_nil) (fun _ h => absurd h List.not_mem_nil) (fun _ _ _ h => h) (by decide +kernel) (by decide +kernel)
-- SandFlags$Rota.placeFrom
def sm_59_427 : ab_Sm := ([tR 43, tN 0 5, tN 4 4, tN 6 6, tN 6 6, tF], th_63, [([], some (tN 0 1), [])], [])
def an_59_427 : List ab_An := []
theorem sok_59_427 {l : Launch} {D : va_G} {cs : Nat → ClassId} {tS : Nat} (hGl : ab_Gl l ZZ wFF D vwCl cs tS) : ab_SOK l ZZ 2 D vwCl cs tS 59 sm_59_427 := zf_fin1 (DS := 1) (dp := 0) (fuel := 200000) (q := []) (il := []) (anns := an_59_427) (pcs := [118]) (cand := fun _ _ => an_59_427) (sp := (fun _ => [])) hGl gok_59 (by decide) (fun _ h => absurd h List.not_mem_nil) (fun _ h => absurd h List.not_mem_nil) (fun _ _ _ h => h) (by decide +kernel) (by decide +kernel)
-- SandFlags$Rota.placeFrom
def sm_59_428 : ab_Sm := ([tR 43, tN 0 5, tN 4 4, tN 6 6, tN 2 2, tF], th_63, [([], some (tN 0 1), [])], [])
def an_59_428 : List ab_An := []
theorem sok_59_428 {l : Launch} {D : va_G} {cs : Nat → ClassId} {tS : Nat} (hGl : ab_Gl l ZZ wFF D vwCl cs tS) : ab_SOK l ZZ 2 D vwCl cs tS 59 sm_59_428 := zf_fin1 (DS := 1) (dp := 0) (fuel := 200000) (q := []) (il := []) (anns := an_59_428) (pcs := [118]) (cand := fun _ _ => an_59_428) (sp := (fun _ => [])) hGl gok_59 (by decide) (fun _ h => absurd h List.not_mem_nil) (fun _ h => absurd h List.not_mem_nil) (fun _ _ _ h => h) (by decide +kernel) (by decide +kernel)
-- SandFlags$Rota.placeFrom
def sm_59_429 : ab_Sm := ([tR 43, tN 0 5, tN 4 4, tN 131 131, tN 0 0, tF], th_63, [([], some (tN 0 1), [])], [])
def an_59_429 : List ab_An := []
theorem sok_59_429 {l : Launch} {D : va_G} {cs : Nat → ClassId} {tS : Nat} (hGl : ab_Gl l ZZ wFF D vwCl cs tS) : ab_SOK l ZZ 2 D vwCl cs tS 59 sm_59_429 := zf_fin1 (DS := 1) (dp := 0) (fuel := 200000) (q := []) (il := []) (anns := an_59_429) (pcs := [118]) (cand := fun _ _ => an_59_429) (sp := (fun _ => [])) hGl gok_59 (by decide) (fun _ h => absurd h List.not_mem_nil) (fun _ h => absurd h List.not_mem_nil) (fun _ _ _ h => h) (by decide +kernel) (by decide +kernel)
-- SandFlags$Rota.placeFrom
def sm_59_430 : ab_Sm := ([tR 43, tN 0 5, tN 4 4, tN 131 131, tN 125 125, tF], th_63, [([], some (tN 0 1), [])], [])
def an_59_430 : List ab_An := []
theorem sok_59_430 {l : Launch} {D : va_G} {cs : Nat → ClassId} {tS : Nat} (hGl : ab_Gl l ZZ wFF D vwCl cs tS) : ab_SOK l ZZ 2 D vwCl cs tS 59 sm_59_430 := zf_fin1 (DS := 1) (dp := 0) (fuel := 200000) (q := []) (il := []) (anns := an_59_430) (pcs := [118]) (cand := fun _ _ => an_59_430) (sp := (fun _ => [])) hGl gok_59 (by decide) (fun _ h => absurd h List.not_mem_nil) (fun _ h => absurd h List.not_mem_nil) (fun _ _ _ h => h) (by decide +kernel) (by decide +kernel)
-- SandFlags$Rota.placeFrom
def sm_59_431 : ab_Sm := ([tR 43, tN 0 5, tN 4 4, tN 131 131, tN 25 25, tF], th_63, [([], some (tN 0 1), [])], [])
def an_59_431 : List ab_An := []
theorem sok_59_431 {l : Launch} {D : va_G} {cs : Nat → ClassId} {tS : Nat} (hGl : ab_Gl l ZZ wFF D vwCl cs tS) : ab_SOK l ZZ 2 D vwCl cs tS 59 sm_59_431 := zf_fin1 (DS := 1) (dp := 0) (fuel := 200000) (q := []) (il := []) (anns := an_59_431) (pcs := [118]) (cand := fun _ _ => an_59_431) (sp := (fun _ => [])) hGl gok_59 (by decide) (fun _ h => absurd h List.not_mem_nil) (fun _ h => absurd h List.not_mem_nil) (fun _ _ _ h => h) (by decide +kernel) (by decide +kernel)
-- SandFlags$Rota.placeFrom
def sm_59_432 : ab_Sm := ([tR 43, tN 0 5, tN 4 4, tN 131 131, tN 5 5, tF], th_63, [([], some (tN 0 1), [])], [])
def an_59_432 : List ab_An := []
theorem sok_59_432 {l : Launch} {D : va_G} {cs : Nat → ClassId} {tS : Nat} (hGl : ab_Gl l ZZ wFF D vwCl cs tS) : ab_SOK l ZZ 2 D vwCl cs tS 59 sm_59_432 := zf_fin1 (DS := 1) (dp := 0) (fuel := 200000) (q := []) (il := []) (anns := an_59_432) (pcs := [118]) (cand := fun _ _ => an_59_432) (sp := (fun _ => [])) hGl gok_59 (by decide) (fun _ h => absurd h List.not_mem_nil) (fun _ h => absurd h List.not_mem_nil) (fun _ _ _ h => h) (by decide +kernel) (by decide +kernel)
-- SandFlags$Rota.placeFrom
def sm_59_433 : ab_Sm := ([tR 43, tN 0 5, tN 4 4, tN 131 131, tN 1 1, tF], th_63, [([], some (tN 0 1), [])], [])
def an_59_433 : List ab_An := []
theorem sok_59_433 {l : Launch} {D : va_G} {cs : Nat → ClassId} {tS : Nat} (hGl : ab_Gl l ZZ wFF D vwCl cs tS) : ab_SOK l ZZ 2 D vwCl cs tS 59 sm_59_433 := zf_fin1 (DS := 1) (dp := 0) (fuel := 200000) (q := []) (il := []) (anns := an_59_433) (pcs := [118]) (cand := fun _ _ => an_59_433) (sp := (fun _ => [])) hGl gok_59 (by decide) (fun _ h => absurd h List.not_mem_nil) (fun _ h => absurd h List.not_mem_nil) (fun _ _ _ h => h) (by decide +kernel) (by decide +kernel)
-- SandFlags$Rota.placeFrom
def sm_59_434 : ab_Sm := ([tR 43, tN 0 5, tN 4 4, tN 256 256, tN 0 0, tF], th_63, [([], some (tN 0 1), [])], [])
def an_59_434 : List ab_An := []
theorem sok_59_434 {l : Launch} {D : va_G} {cs : Nat → ClassId} {tS : Nat} (hGl : ab_Gl l ZZ wFF D vwCl cs tS) : ab_SOK l ZZ 2 D vwCl cs tS 59 sm_59_434 := zf_fin1 (DS := 1) (dp := 0) (fuel := 200000) (q := []) (il := []) (anns := an_59_434) (pcs := [118]) (cand := fun _ _ => an_59_434) (sp := (fun _ => [])) hGl gok_59 (by decide) (fun _ h => absurd h List.not_mem_nil) (fun _ h => absurd h List.not_mem_nil) (fun _ _ _ h => h) (by decide +kernel) (by decide +kernel)
-- SandFlags$Rota.placeFrom
def sm_59_435 : ab_Sm := ([tR 43, tN 0 5, tN 4 4, tN 31 31, tN 0 0, tF], th_63, [([], some (tN 0 1), [])], [])
def an_59_435 : List ab_An := []
theorem sok_59_435 {l : Launch} {D : va_G} {cs : Nat → ClassId} {tS : Nat} (hGl : ab_Gl l ZZ wFF D vwCl cs tS) : ab_SOK l ZZ 2 D vwCl cs tS 59 sm_59_435 := zf_fin1 (DS := 1) (dp := 0) (fuel := 200000) (q := []) (il := []) (anns := an_59_435) (pcs := [118]) (cand := fun _ _ => an_59_435) (sp := (fun _ => [])) hGl gok_59 (by decide) (fun _ h => absurd h List.not_mem_nil) (fun _ h => absurd h List.not_mem_nil) (fun _ _ _ h => h) (by decide +kernel) (by decide +kernel)
-- SandFlags$Rota.placeFrom
def sm_59_436 : ab_Sm := ([tR 43, tN 0 5, tN 4 4, tN 31 31, tN 125 125, tF], th_63, [([], some (tN 0 1), [])], [])
def an_59_436 : List ab_An := []
theorem sok_59_436 {l : Launch} {D : va_G} {cs : Nat → ClassId} {tS : Nat} (hGl : ab_Gl l ZZ wFF D vwCl cs tS) : ab_SOK l ZZ 2 D vwCl cs tS 59 sm_59_436 := zf_fin1 (DS := 1) (dp := 0) (fuel := 200000) (q := []) (il := []) (anns := an_59_436) (pcs := [118]) (cand := fun _ _ => an_59_436) (sp := (fun _ => [])) hGl gok_59 (by decide) (fun _ h => absurd h List.not_mem_nil) (fun _ h => absurd h List.not_mem_nil) (fun _ _ _ h => h) (by decide +kernel) (by decide +kernel)
-- SandFlags$Rota.placeFrom
def sm_59_437 : ab_Sm := ([tR 43, tN 0 5, tN 4 4, tN 31 31, tN 25 25, tF], th_63, [([], some (tN 0 1), [])], [])
def an_59_437 : List ab_An := []
theorem sok_59_437 {l : Launch} {D : va_G} {cs : Nat → ClassId} {tS : Nat} (hGl : ab_Gl l ZZ wFF D vwCl cs tS) : ab_SOK l ZZ 2 D vwCl cs tS 59 sm_59_437 := zf_fin1 (DS := 1) (dp := 0) (fuel := 200000) (q := []) (il := []) (anns := an_59_437) (pcs := [118]) (cand := fun _ _ => an_59_437) (sp := (fun _ => [])) hGl gok_59 (by decide) (fun _ h => absurd h List.not_mem_nil) (fun _ h => absurd h List.not_mem_nil) (fun _ _ _ h => h) (by decide +kernel) (by decide +kernel)
-- SandFlags$Rota.placeFrom
def sm_59_438 : ab_Sm := ([tR 43, tN 0 5, tN 4 4, tN 31 31, tN 5 5, tF], th_63, [([], some (tN 0 1), [])], [])
def an_59_438 : List ab_An := []
theorem sok_59_438 {l : Launch} {D : va_G} {cs : Nat → ClassId} {tS : Nat} (hGl : ab_Gl l ZZ wFF D vwCl cs tS) : ab_SOK l ZZ 2 D vwCl cs tS 59 sm_59_438 := zf_fin1 (DS := 1) (dp := 0) (fuel := 200000) (q := []) (il := []) (anns := an_59_438) (pcs := [118]) (cand := fun _ _ => an_59_438) (sp := (fun _ => [])) hGl gok_59 (by decide) (fun _ h => absurd h List.not_mem_nil) (fun _ h => absurd h List.not_mem_nil) (fun _ _ _ h => h) (by decide +kernel) (by decide +kernel)
-- SandFlags$Rota.placeFrom
def sm_59_439 : ab_Sm := ([tR 43, tN 0 5, tN 4 4, tN 31 31, tN 1 1, tF], th_63, [([], some (tN 0 1), [])], [])
def an_59_439 : List ab_An := []
theorem sok_59_439 {l : Launch} {D : va_G} {cs : Nat → ClassId} {tS : Nat} (hGl : ab_Gl l ZZ wFF D vwCl cs tS) : ab_SOK l ZZ 2 D vwCl cs tS 59 sm_59_439 := zf_fin1 (DS := 1) (dp := 0) (fuel := 200000) (q := []) (il := []) (anns := an_59_439) (pcs := [118]) (cand := fun _ _ => an_59_439) (sp := (fun _ => [])) hGl gok_59 (by decide) (fun _ h => absurd h List.not_mem_nil) (fun _ h => absurd h List.not_mem_nil) (fun _ _ _ h => h) (by decide +kernel) (by decide +kernel)
-- SandFlags$Rota.placeFrom
def sm_59_440 : ab_Sm := ([tR 43, tN 0 5, tN 4 4, tN 156 156, tN 0 0, tF], th_63, [([], some (tN 0 1), [])], [])
def an_59_440 : List ab_An := []
theorem sok_59_440 {l : Launch} {D : va_G} {cs : Nat → ClassId} {tS : Nat} (hGl : ab_Gl l ZZ wFF D vwCl cs tS) : ab_SOK l ZZ 2 D vwCl cs tS 59 sm_59_440 := zf_fin1 (DS := 1) (dp := 0) (fuel := 200000) (q := []) (il := []) (anns := an_59_440) (pcs := [118]) (cand := fun _ _ => an_59_440) (sp := (fun _ => [])) hGl gok_59 (by decide) (fun _ h => absurd h List.not_mem_nil) (fun _ h => absurd h List.not_mem_nil) (fun _ _ _ h => h) (by decide +kernel) (by decide +kernel)
-- SandFlags$Rota.placeFrom
def sm_59_441 : ab_Sm := ([tR 43, tN 0 5, tN 4 4, tN 56 56, tN 0 0, tF], th_63, [([], some (tN 0 1), [])], [])
def an_59_441 : List ab_An := []
theorem sok_59_441 {l : Launch} {D : va_G} {cs : Nat → ClassId} {tS : Nat} (hGl : ab_Gl l ZZ wFF D vwCl cs tS) : ab_SOK l ZZ 2 D vwCl cs tS 59 sm_59_441 := zf_fin1 (DS := 1) (dp := 0) (fuel := 200000) (q := []) (il := []) (anns := an_59_441) (pcs := [118]) (cand := fun _ _ => an_59_441) (sp := (fun _ => [])) hGl gok_59 (by decide) (fun _ h => absurd h List.not_mem_nil) (fun _ h => absurd h List.not_mem_nil) (fun _ _ _ h => h) (by decide +kernel) (by decide +kernel)
-- SandFlags$Rota.placeFrom
def sm_59_442 : ab_Sm := ([tR 43, tN 0 5, tN 4 4, tN 11 11, tN 0 0, tF], th_63, [([], some (tN 0 1), [])], [])
def an_59_442 : List ab_An := []
theorem sok_59_442 {l : Launch} {D : va_G} {cs : Nat → ClassId} {tS : Nat} (hGl : ab_Gl l ZZ wFF D vwCl cs tS) : ab_SOK l ZZ 2 D vwCl cs tS 59 sm_59_442 := zf_fin1 (DS := 1) (dp := 0) (fuel := 200000) (q := []) (il := []) (anns := an_59_442) (pcs := [118]) (cand := fun _ _ => an_59_442) (sp := (fun _ => [])) hGl gok_59 (by decide) (fun _ h => absurd h List.not_mem_nil) (fun _ h => absurd h List.not_mem_nil) (fun _ _ _ h => h) (by decide +kernel) (by decide +kernel)
-- SandFlags$Rota.placeFrom
def sm_59_443 : ab_Sm := ([tR 43, tN 0 5, tN 4 4, tN 11 11, tN 125 125, tF], th_63, [([], some (tN 0 1), [])], [])
def an_59_443 : List ab_An := []
theorem sok_59_443 {l : Launch} {D : va_G} {cs : Nat → ClassId} {tS : Nat} (hGl : ab_Gl l ZZ wFF D vwCl cs tS) : ab_SOK l ZZ 2 D vwCl cs tS 59 sm_59_443 := zf_fin1 (DS := 1) (dp := 0) (fuel := 200000) (q := []) (il := []) (anns := an_59_443) (pcs := [118]) (cand := fun _ _ => an_59_443) (sp := (fun _ => [])) hGl gok_59 (by decide) (fun _ h => absurd h List.not_mem_nil) (fun _ h => absurd h List.not_mem_nil) (fun _ _ _ h => h) (by decide +kernel) (by decide +kernel)
-- SandFlags$Rota.placeFrom
def sm_59_444 : ab_Sm := ([tR 43, tN 0 5, tN 4 4, tN 11 11, tN 25 25, tF], th_63, [([], some (tN 0 1), [])], [])
def an_59_444 : List ab_An := []
theorem sok_59_444 {l : Launch} {D : va_G} {cs : Nat → ClassId} {tS : Nat} (hGl : ab_Gl l ZZ wFF D vwCl cs tS) : ab_SOK l ZZ 2 D vwCl cs tS 59 sm_59_444 := zf_fin1 (DS := 1) (dp := 0) (fuel := 200000) (q := []) (il := []) (anns := an_59_444) (pcs := [118]) (cand := fun _ _ => an_59_444) (sp := (fun _ => [])) hGl gok_59 (by decide) (fun _ h => absurd h List.not_mem_nil) (fun _ h => absurd h List.not_mem_nil) (fun _ _ _ h => h) (by decide +kernel) (by decide +kernel)
-- SandFlags$Rota.placeFrom
def sm_59_445 : ab_Sm := ([tR 43, tN 0 5, tN 4 4, tN 11 11, tN 5 5, tF], th_63, [([], some (tN 0 1), [])], [])
def an_59_445 : List ab_An := []
theorem sok_59_445 {l : Launch} {D : va_G} {cs : Nat → ClassId} {tS : Nat} (hGl : ab_Gl l ZZ wFF D vwCl cs tS) : ab_SOK l ZZ 2 D vwCl cs tS 59 sm_59_445 := zf_fin1 (DS := 1) (dp := 0) (fuel := 200000) (q := []) (il := []) (anns := an_59_445) (pcs := [118]) (cand := fun _ _ => an_59_445) (sp := (fun _ => [])) hGl gok_59 (by decide) (fun _ h => absurd h List.not_mem_nil) (fun _ h => absurd h List.not_mem_nil) (fun _ _ _ h => h) (by decide +kernel) (by decide +kernel)
-- SandFlags$Rota.placeFrom
def sm_59_446 : ab_Sm := ([tR 43, tN 0 5, tN 4 4, tN 11 11, tN 1 1, tF], th_63, [([], some (tN 0 1), [])], [])
def an_59_446 : List ab_An := []
theorem sok_59_446 {l : Launch} {D : va_G} {cs : Nat → ClassId} {tS : Nat} (hGl : ab_Gl l ZZ wFF D vwCl cs tS) : ab_SOK l ZZ 2 D vwCl cs tS 59 sm_59_446 := zf_fin1 (DS := 1) (dp := 0) (fuel := 200000) (q := []) (il := []) (anns := an_59_446) (pcs := [118]) (cand := fun _ _ => an_59_446) (sp := (fun _ => [])) hGl gok_59 (by decide) (fun _ h => absurd h List.not_mem_nil) (fun _ h => absurd h List.not_mem_nil) (fun _ _ _ h => h) (by decide +kernel) (by decide +kernel)
-- SandFlags$Rota.placeFrom
def sm_59_447 : ab_Sm := ([tR 43, tN 0 5, tN 4 4, tN 136 136, tN 0 0, tF], th_63, [([], some (tN 0 1), [])], [])
def an_59_447 : List ab_An := []
theorem sok_59_447 {l : Launch} {D : va_G} {cs : Nat → ClassId} {tS : Nat} (hGl : ab_Gl l ZZ wFF D vwCl cs tS) : ab_SOK l ZZ 2 D vwCl cs tS 59 sm_59_447 := zf_fin1 (DS := 1) (dp := 0) (fuel := 200000) (q := []) (il := []) (anns := an_59_447) (pcs := [118]) (cand := fun _ _ => an_59_447) (sp := (fun _ => [])) hGl gok_59 (by decide) (fun _ h => absurd h List.not_mem_nil) (fun _ h => absurd h List.not_mem_nil) (fun _ _ _ h => h) (by decide +kernel) (by decide +kernel)
-- SandFlags$Rota.placeFrom
def sm_59_448 : ab_Sm := ([tR 43, tN 0 5, tN 4 4, tN 36 36, tN 0 0, tF], th_63, [([], some (tN 0 1), [])], [])
def an_59_448 : List ab_An := []
theorem sok_59_448 {l : Launch} {D : va_G} {cs : Nat → ClassId} {tS : Nat} (hGl : ab_Gl l ZZ wFF D vwCl cs tS) : ab_SOK l ZZ 2 D vwCl cs tS 59 sm_59_448 := zf_fin1 (DS := 1) (dp := 0) (fuel := 200000) (q := []) (il := []) (anns := an_59_448) (pcs := [118]) (cand := fun _ _ => an_59_448) (sp := (fun _ => [])) hGl gok_59 (by decide) (fun _ h => absurd h List.not_mem_nil) (fun _ h => absurd h List.not_mem_nil) (fun _ _ _ h => h) (by decide +kernel) (by decide +kernel)
-- SandFlags$Rota.placeFrom
def sm_59_449 : ab_Sm := ([tR 43, tN 0 5, tN 4 4, tN 16 16, tN 0 0, tF], th_63, [([], some (tN 0 1), [])], [])
def an_59_449 : List ab_An := []
theorem sok_59_449 {l : Launch} {D : va_G} {cs : Nat → ClassId} {tS : Nat} (hGl : ab_Gl l ZZ wFF D vwCl cs tS) : ab_SOK l ZZ 2 D vwCl cs tS 59 sm_59_449 := zf_fin1 (DS := 1) (dp := 0) (fuel := 200000) (q := []) (il := []) (anns := an_59_449) (pcs := [118]) (cand := fun _ _ => an_59_449) (sp := (fun _ => [])) hGl gok_59 (by decide) (fun _ h => absurd h List.not_mem_nil) (fun _ h => absurd h List.not_mem_nil) (fun _ _ _ h => h) (by decide +kernel) (by decide +kernel)
-- SandFlags$Rota.placeFrom
def sm_59_450 : ab_Sm := ([tR 43, tN 0 5, tN 4 4, tN 2 2, tN 0 0, tF], th_63, [([], some (tN 0 1), [])], [])
def an_59_450 : List ab_An := []
theorem sok_59_450 {l : Launch} {D : va_G} {cs : Nat → ClassId} {tS : Nat} (hGl : ab_Gl l ZZ wFF D vwCl cs tS) : ab_SOK l ZZ 2 D vwCl cs tS 59 sm_59_450 := zf_fin1 (DS := 1) (dp := 0) (fuel := 200000) (q := []) (il := []) (anns := an_59_450) (pcs := [118]) (cand := fun _ _ => an_59_450) (sp := (fun _ => [])) hGl gok_59 (by decide) (fun _ h => absurd h List.not_mem_nil) (fun _ h => absurd h List.not_mem_nil) (fun _ _ _ h => h) (by decide +kernel) (by decide +kernel)
-- SandFlags$Rota.placeFrom
def sm_59_451 : ab_Sm := ([tR 43, tN 0 5, tN 4 4, tN 2 2, tN 125 125, tF], th_63, [([], some (tN 0 1), [])], [])
def an_59_451 : List ab_An := []
theorem sok_59_451 {l : Launch} {D : va_G} {cs : Nat → ClassId} {tS : Nat} (hGl : ab_Gl l ZZ wFF D vwCl cs tS) : ab_SOK l ZZ 2 D vwCl cs tS 59 sm_59_451 := zf_fin1 (DS := 1) (dp := 0) (fuel := 200000) (q := []) (il := []) (anns := an_59_451) (pcs := [118]) (cand := fun _ _ => an_59_451) (sp := (fun _ => [])) hGl gok_59 (by decide) (fun _ h => absurd h List.not_mem_nil) (fun _ h => absurd h List.not_mem_nil) (fun _ _ _ h => h) (by decide +kernel) (by decide +kernel)
-- SandFlags$Rota.placeFrom
def sm_59_452 : ab_Sm := ([tR 43, tN 0 5, tN 4 4, tN 2 2, tN 250 250, tF], th_63, [([], some (tN 0 1), [])], [])
def an_59_452 : List ab_An := []
theorem sok_59_452 {l : Launch} {D : va_G} {cs : Nat → ClassId} {tS : Nat} (hGl : ab_Gl l ZZ wFF D vwCl cs tS) : ab_SOK l ZZ 2 D vwCl cs tS 59 sm_59_452 := zf_fin1 (DS := 1) (dp := 0) (fuel := 200000) (q := []) (il := []) (anns := an_59_452) (pcs := [118]) (cand := fun _ _ => an_59_452) (sp := (fun _ => [])) hGl gok_59 (by decide) (fun _ h => absurd h List.not_mem_nil) (fun _ h => absurd h List.not_mem_nil) (fun _ _ _ h => h) (by decide +kernel) (by decide +kernel)
-- SandFlags$Rota.placeFrom
def sm_59_453 : ab_Sm := ([tR 43, tN 0 5, tN 4 4, tN 2 2, tN 25 25, tF], th_63, [([], some (tN 0 1), [])], [])
def an_59_453 : List ab_An := []
theorem sok_59_453 {l : Launch} {D : va_G} {cs : Nat → ClassId} {tS : Nat} (hGl : ab_Gl l ZZ wFF D vwCl cs tS) : ab_SOK l ZZ 2 D vwCl cs tS 59 sm_59_453 := zf_fin1 (DS := 1) (dp := 0) (fuel := 200000) (q := []) (il := []) (anns := an_59_453) (pcs := [118]) (cand := fun _ _ => an_59_453) (sp := (fun _ => [])) hGl gok_59 (by decide) (fun _ h => absurd h List.not_mem_nil) (fun _ h => absurd h List.not_mem_nil) (fun _ _ _ h => h) (by decide +kernel) (by decide +kernel)
-- SandFlags$Rota.placeFrom
def sm_59_454 : ab_Sm := ([tR 43, tN 0 5, tN 4 4, tN 2 2, tN 150 150, tF], th_63, [([], some (tN 0 1), [])], [])
def an_59_454 : List ab_An := []
theorem sok_59_454 {l : Launch} {D : va_G} {cs : Nat → ClassId} {tS : Nat} (hGl : ab_Gl l ZZ wFF D vwCl cs tS) : ab_SOK l ZZ 2 D vwCl cs tS 59 sm_59_454 := zf_fin1 (DS := 1) (dp := 0) (fuel := 200000) (q := []) (il := []) (anns := an_59_454) (pcs := [118]) (cand := fun _ _ => an_59_454) (sp := (fun _ => [])) hGl gok_59 (by decide) (fun _ h => absurd h List.not_mem_nil) (fun _ h => absurd h List.not_mem_nil) (fun _ _ _ h => h) (by decide +kernel) (by decide +kernel)
-- SandFlags$Rota.placeFrom
def sm_59_455 : ab_Sm := ([tR 43, tN 0 5, tN 4 4, tN 2 2, tN 50 50, tF], th_63, [([], some (tN 0 1), [])], [])
def an_59_455 : List ab_An := []
theorem sok_59_455 {l : Launch} {D : va_G} {cs : Nat → ClassId} {tS : Nat} (hGl : ab_Gl l ZZ wFF D vwCl cs tS) : ab_SOK l ZZ 2 D vwCl cs tS 59 sm_59_455 := zf_fin1 (DS := 1) (dp := 0) (fuel := 200000) (q := []) (il := []) (anns := an_59_455) (pcs := [118]) (cand := fun _ _ => an_59_455) (sp := (fun _ => [])) hGl gok_59 (by decide) (fun _ h => absurd h List.not_mem_nil) (fun _ h => absurd h List.not_mem_nil) (fun _ _ _ h => h) (by decide +kernel) (by decide +kernel)
-- SandFlags$Rota.placeFrom
def sm_59_456 : ab_Sm := ([tR 43, tN 0 5, tN 4 4, tN 2 2, tN 5 5, tF], th_63, [([], some (tN 0 1), [])], [])
def an_59_456 : List ab_An := []
theorem sok_59_456 {l : Launch} {D : va_G} {cs : Nat → ClassId} {tS : Nat} (hGl : ab_Gl l ZZ wFF D vwCl cs tS) : ab_SOK l ZZ 2 D vwCl cs tS 59 sm_59_456 := zf_fin1 (DS := 1) (dp := 0) (fuel := 200000) (q := []) (il := []) (anns := an_59_456) (pcs := [118]) (cand := fun _ _ => an_59_456) (sp := (fun _ => [])) hGl gok_59 (by decide) (fun _ h => absurd h List.not_mem_nil) (fun _ h => absurd h List.not_mem_nil) (fun _ _ _ h => h) (by decide +kernel) (by decide +kernel)
-- SandFlags$Rota.placeFrom
def sm_59_457 : ab_Sm := ([tR 43, tN 0 5, tN 4 4, tN 2 2, tN 130 130, tF], th_63, [([], some (tN 0 1), [])], [])
def an_59_457 : List ab_An := []
theorem sok_59_457 {l : Launch} {D : va_G} {cs : Nat → ClassId} {tS : Nat} (hGl : ab_Gl l ZZ wFF D vwCl cs tS) : ab_SOK l ZZ 2 D vwCl cs tS 59 sm_59_457 := zf_fin1 (DS := 1) (dp := 0) (fuel := 200000) (q := []) (il := []) (anns := an_59_457) (pcs := [118]) (cand := fun _ _ => an_59_457) (sp := (fun _ => [])) hGl gok_59 (by decide) (fun _ h => absurd h List.not_mem_nil) (fun _ h => absurd h List.not_mem_nil) (fun _ _ _ h => h) (by decide +kernel) (by decide +kernel)
-- SandFlags$Rota.placeFrom
def sm_59_458 : ab_Sm := ([tR 43, tN 0 5, tN 4 4, tN 2 2, tN 30 30, tF], th_63, [([], some (tN 0 1), [])], [])
def an_59_458 : List ab_An := []
theorem sok_59_458 {l : Launch} {D : va_G} {cs : Nat → ClassId} {tS : Nat} (hGl : ab_Gl l ZZ wFF D vwCl cs tS) : ab_SOK l ZZ 2 D vwCl cs tS 59 sm_59_458 := zf_fin1 (DS := 1) (dp := 0) (fuel := 200000) (q := []) (il := []) (anns := an_59_458) (pcs := [118]) (cand := fun _ _ => an_59_458) (sp := (fun _ => [])) hGl gok_59 (by decide) (fun _ h => absurd h List.not_mem_nil) (fun _ h => absurd h List.not_mem_nil) (fun _ _ _ h => h) (by decide +kernel) (by decide +kernel)
-- SandFlags$Rota.placeFrom
def sm_59_459 : ab_Sm := ([tR 43, tN 0 5, tN 4 4, tN 2 2, tN 10 10, tF], th_63, [([], some (tN 0 1), [])], [])
def an_59_459 : List ab_An := []
theorem sok_59_459 {l : Launch} {D : va_G} {cs : Nat → ClassId} {tS : Nat} (hGl : ab_Gl l ZZ wFF D vwCl cs tS) : ab_SOK l ZZ 2 D vwCl cs tS 59 sm_59_459 := zf_fin1 (DS := 1) (dp := 0) (fuel := 200000) (q := []) (il := []) (anns := an_59_459) (pcs := [118]) (cand := fun _ _ => an_59_459) (sp := (fun _ => [])) hGl gok_59 (by decide) (fun _ h => absurd h List.not_mem_nil) (fun _ h => absurd h List.not_mem_nil) (fun _ _ _ h => h) (by decide +kernel) (by decide +kernel)
-- SandFlags$Rota.placeFrom
def sm_59_460 : ab_Sm := ([tR 43, tN 0 5, tN 4 4, tN 2 2, tN 1 1, tF], th_63, [([], some (tN 0 1), [])], [])
def an_59_460 : List ab_An := []
theorem sok_59_460 {l : Launch} {D : va_G} {cs : Nat → ClassId} {tS : Nat} (hGl : ab_Gl l ZZ wFF D vwCl cs tS) : ab_SOK l ZZ 2 D vwCl cs tS 59 sm_59_460 := zf_fin1 (DS := 1) (dp := 0) (fuel := 200000) (q := []) (il := []) (anns := an_59_460) (pcs := [118]) (cand := fun _ _ => an_59_460) (sp := (fun _ => [])) hGl gok_59 (by decide) (fun _ h => absurd h List.not_mem_nil) (fun _ h => absurd h List.not_mem_nil) (fun _ _ _ h => h) (by decide +kernel) (by decide +kernel)
-- SandFlags$Rota.placeFrom
def sm_59_461 : ab_Sm := ([tR 43, tN 0 5, tN 4 4, tN 2 2, tN 126 126, tF], th_63, [([], some (tN 0 1), [])], [])
def an_59_461 : List ab_An := []
theorem sok_59_461 {l : Launch} {D : va_G} {cs : Nat → ClassId} {tS : Nat} (hGl : ab_Gl l ZZ wFF D vwCl cs tS) : ab_SOK l ZZ 2 D vwCl cs tS 59 sm_59_461 := zf_fin1 (DS := 1) (dp := 0) (fuel := 200000) (q := []) (il := []) (anns := an_59_461) (pcs := [118]) (cand := fun _ _ => an_59_461) (sp := (fun _ => [])) hGl gok_59 (by decide) (fun _ h => absurd h List.not_mem_nil) (fun _ h => absurd h List.not_mem_nil) (fun _ _ _ h => h) (by decide +kernel) (by decide +kernel)
-- SandFlags$Rota.placeFrom
def sm_59_462 : ab_Sm := ([tR 43, tN 0 5, tN 4 4, tN 2 2, tN 26 26, tF], th_63, [([], some (tN 0 1), [])], [])
def an_59_462 : List ab_An := []
theorem sok_59_462 {l : Launch} {D : va_G} {cs : Nat → ClassId} {tS : Nat} (hGl : ab_Gl l ZZ wFF D vwCl cs tS) : ab_SOK l ZZ 2 D vwCl cs tS 59 sm_59_462 := zf_fin1 (DS := 1) (dp := 0) (fuel := 200000) (q := []) (il := []) (anns := an_59_462) (pcs := [118]) (cand := fun _ _ => an_59_462) (sp := (fun _ => [])) hGl gok_59 (by decide) (fun _ h => absurd h List.not_mem_nil) (fun _ h => absurd h List.not_mem_nil) (fun _ _ _ h => h) (by decide +kernel) (by decide +kernel)
-- SandFlags$Rota.placeFrom
def sm_59_463 : ab_Sm := ([tR 43, tN 0 5, tN 4 4, tN 2 2, tN 6 6, tF], th_63, [([], some (tN 0 1), [])], [])
def an_59_463 : List ab_An := []
theorem sok_59_463 {l : Launch} {D : va_G} {cs : Nat → ClassId} {tS : Nat} (hGl : ab_Gl l ZZ wFF D vwCl cs tS) : ab_SOK l ZZ 2 D vwCl cs tS 59 sm_59_463 := zf_fin1 (DS := 1) (dp := 0) (fuel := 200000) (q := []) (il := []) (anns := an_59_463) (pcs := [118]) (cand := fun _ _ => an_59_463) (sp := (fun _ => [])) hGl gok_59 (by decide) (fun _ h => absurd h List.not_mem_nil) (fun _ h => absurd h List.not_mem_nil) (fun _ _ _ h => h) (by decide +kernel) (by decide +kernel)
-- SandFlags$Rota.placeFrom
def sm_59_464 : ab_Sm := ([tR 43, tN 0 5, tN 4 4, tN 2 2, tN 2 2, tF], th_63, [([], some (tN 0 1), [])], [])
def an_59_464 : List ab_An := []
theorem sok_59_464 {l : Launch} {D : va_G} {cs : Nat → ClassId} {tS : Nat} (hGl : ab_Gl l ZZ wFF D vwCl cs tS) : ab_SOK l ZZ 2 D vwCl cs tS 59 sm_59_464 := zf_fin1 (DS := 1) (dp := 0) (fuel := 200000) (q := []) (il := []) (anns := an_59_464) (pcs := [118]) (cand := fun _ _ => an_59_464) (sp := (fun _ => [])) hGl gok_59 (by decide) (fun _ h => absurd h List.not_mem_nil) (fun _ h => absurd h List.not_mem_nil) (fun _ _ _ h => h) (by decide +kernel) (by decide +kernel)
-- SandFlags$Rota.placeFrom
def sm_59_465 : ab_Sm := ([tR 43, tN 0 5, tN 4 4, tN 127 127, tN 0 0, tF], th_63, [([], some (tN 0 1), [])], [])
def an_59_465 : List ab_An := []
theorem sok_59_465 {l : Launch} {D : va_G} {cs : Nat → ClassId} {tS : Nat} (hGl : ab_Gl l ZZ wFF D vwCl cs tS) : ab_SOK l ZZ 2 D vwCl cs tS 59 sm_59_465 := zf_fin1 (DS := 1) (dp := 0) (fuel := 200000) (q := []) (il := []) (anns := an_59_465) (pcs := [118]) (cand := fun _ _ => an_59_465) (sp := (fun _ => [])) hGl gok_59 (by decide) (fun _ h => absurd h List.not_mem_nil) (fun _ h => absurd h List.not_mem_nil) (fun _ _ _ h => h) (by decide +kernel) (by decide +kernel)
-- SandFlags$Rota.placeFrom
def sm_59_466 : ab_Sm := ([tR 43, tN 0 5, tN 4 4, tN 127 127, tN 125 125, tF], th_63, [([], some (tN 0 1), [])], [])
def an_59_466 : List ab_An := []
theorem sok_59_466 {l : Launch} {D : va_G} {cs : Nat → ClassId} {tS : Nat} (hGl : ab_Gl l ZZ wFF D vwCl cs tS) : ab_SOK l ZZ 2 D vwCl cs tS 59 sm_59_466 := zf_fin1 (DS := 1) (dp := 0) (fuel := 200000) (q := []) (il := []) (anns := an_59_466) (pcs := [118]) (cand := fun _ _ => an_59_466) (sp := (fun _ => [])) hGl gok_59 (by decide) (fun _ h => absurd h List.not_mem_nil) (fun _ h => absurd h List.not_mem_nil) (fun _ _ _ h => h) (by decide +kernel) (by decide +kernel)
-- SandFlags$Rota.placeFrom
def sm_59_467 : ab_Sm := ([tR 43, tN 0 5, tN 4 4, tN 127 127, tN 25 25, tF], th_63, [([], some (tN 0 1), [])], [])
def an_59_467 : List ab_An := []
theorem sok_59_467 {l : Launch} {D : va_G} {cs : Nat → ClassId} {tS : Nat} (hGl : ab_Gl l ZZ wFF D vwCl cs tS) : ab_SOK l ZZ 2 D vwCl cs tS 59 sm_59_467 := zf_fin1 (DS := 1) (dp := 0) (fuel := 200000) (q := []) (il := []) (anns := an_59_467) (pcs := [118]) (cand := fun _ _ => an_59_467) (sp := (fun _ => [])) hGl gok_59 (by decide) (fun _ h => absurd h List.not_mem_nil) (fun _ h => absurd h List.not_mem_nil) (fun _ _ _ h => h) (by decide +kernel) (by decide +kernel)
-- SandFlags$Rota.placeFrom
def sm_59_468 : ab_Sm := ([tR 43, tN 0 5, tN 4 4, tN 127 127, tN 5 5, tF], th_63, [([], some (tN 0 1), [])], [])
def an_59_468 : List ab_An := []
theorem sok_59_468 {l : Launch} {D : va_G} {cs : Nat → ClassId} {tS : Nat} (hGl : ab_Gl l ZZ wFF D vwCl cs tS) : ab_SOK l ZZ 2 D vwCl cs tS 59 sm_59_468 := zf_fin1 (DS := 1) (dp := 0) (fuel := 200000) (q := []) (il := []) (anns := an_59_468) (pcs := [118]) (cand := fun _ _ => an_59_468) (sp := (fun _ => [])) hGl gok_59 (by decide) (fun _ h => absurd h List.not_mem_nil) (fun _ h => absurd h List.not_mem_nil) (fun _ _ _ h => h) (by decide +kernel) (by decide +kernel)
-- SandFlags$Rota.placeFrom
def sm_59_469 : ab_Sm := ([tR 43, tN 0 5, tN 4 4, tN 127 127, tN 1 1, tF], th_63, [([], some (tN 0 1), [])], [])
def an_59_469 : List ab_An := []
theorem sok_59_469 {l : Launch} {D : va_G} {cs : Nat → ClassId} {tS : Nat} (hGl : ab_Gl l ZZ wFF D vwCl cs tS) : ab_SOK l ZZ 2 D vwCl cs tS 59 sm_59_469 := zf_fin1 (DS := 1) (dp := 0) (fuel := 200000) (q := []) (il := []) (anns := an_59_469) (pcs := [118]) (cand := fun _ _ => an_59_469) (sp := (fun _ => [])) hGl gok_59 (by decide) (fun _ h => absurd h List.not_mem_nil) (fun _ h => absurd h List.not_mem_nil) (fun _ _ _ h => h) (by decide +kernel) (by decide +kernel)
-- SandFlags$Rota.placeFrom
def sm_59_470 : ab_Sm := ([tR 43, tN 0 5, tN 4 4, tN 252 252, tN 0 0, tF], th_63, [([], some (tN 0 1), [])], [])
def an_59_470 : List ab_An := []
theorem sok_59_470 {l : Launch} {D : va_G} {cs : Nat → ClassId} {tS : Nat} (hGl : ab_Gl l ZZ wFF D vwCl cs tS) : ab_SOK l ZZ 2 D vwCl cs tS 59 sm_59_470 := zf_fin1 (DS := 1) (dp := 0) (fuel := 200000) (q := []) (il := []) (anns := an_59_470) (pcs := [118]) (cand := fun _ _ => an_59_470) (sp := (fun _ => [])) hGl gok_59 (by decide) (fun _ h => absurd h List.not_mem_nil) (fun _ h => absurd h List.not_mem_nil) (fun _ _ _ h => h) (by decide +kernel) (by decide +kernel)
-- SandFlags$Rota.placeFrom
def sm_59_471 : ab_Sm := ([tR 43, tN 0 5, tN 4 4, tN 27 27, tN 0 0, tF], th_63, [([], some (tN 0 1), [])], [])
def an_59_471 : List ab_An := []
theorem sok_59_471 {l : Launch} {D : va_G} {cs : Nat → ClassId} {tS : Nat} (hGl : ab_Gl l ZZ wFF D vwCl cs tS) : ab_SOK l ZZ 2 D vwCl cs tS 59 sm_59_471 := zf_fin1 (DS := 1) (dp := 0) (fuel := 200000) (q := []) (il := []) (anns := an_59_471) (pcs := [118]) (cand := fun _ _ => an_59_471) (sp := (fun _ => [])) hGl gok_59 (by decide) (fun _ h => absurd h List.not_mem_nil) (fun _ h => absurd h List.not_mem_nil) (fun _ _ _ h => h) (by decide +kernel) (by decide +kernel)
-- SandFlags$Rota.placeFrom
def sm_59_472 : ab_Sm := ([tR 43, tN 0 5, tN 4 4, tN 27 27, tN 125 125, tF], th_63, [([], some (tN 0 1), [])], [])
def an_59_472 : List ab_An := []
theorem sok_59_472 {l : Launch} {D : va_G} {cs : Nat → ClassId} {tS : Nat} (hGl : ab_Gl l ZZ wFF D vwCl cs tS) : ab_SOK l ZZ 2 D vwCl cs tS 59 sm_59_472 := zf_fin1 (DS := 1) (dp := 0) (fuel := 200000) (q := []) (il := []) (anns := an_59_472) (pcs := [118]) (cand := fun _ _ => an_59_472) (sp := (fun _ => [])) hGl gok_59 (by decide) (fun _ h => absurd h List.not_mem_nil) (fun _ h => absurd h List.not_mem_nil) (fun _ _ _ h => h) (by decide +kernel) (by decide +kernel)
-- SandFlags$Rota.placeFrom
def sm_59_473 : ab_Sm := ([tR 43, tN 0 5, tN 4 4, tN 27 27, tN 25 25, tF], th_63, [([], some (tN 0 1), [])], [])
def an_59_473 : List ab_An := []
theorem sok_59_473 {l : Launch} {D : va_G} {cs : Nat → ClassId} {tS : Nat} (hGl : ab_Gl l ZZ wFF D vwCl cs tS) : ab_SOK l ZZ 2 D vwCl cs tS 59 sm_59_473 := zf_fin1 (DS := 1) (dp := 0) (fuel := 200000) (q := []) (il := []) (anns := an_59_473) (pcs := [118]) (cand := fun _ _ => an_59_473) (sp := (fun _ => [])) hGl gok_59 (by decide) (fun _ h => absurd h List.not_mem_nil) (fun _ h => absurd h List.not_mem_nil) (fun _ _ _ h => h) (by decide +kernel) (by decide +kernel)
-- SandFlags$Rota.placeFrom
def sm_59_474 : ab_Sm := ([tR 43, tN 0 5, tN 4 4, tN 27 27, tN 5 5, tF], th_63, [([], some (tN 0 1), [])], [])
def an_59_474 : List ab_An := []
theorem sok_59_474 {l : Launch} {D : va_G} {cs : Nat → ClassId} {tS : Nat} (hGl : ab_Gl l ZZ wFF D vwCl cs tS) : ab_SOK l ZZ 2 D vwCl cs tS 59 sm_59_474 := zf_fin1 (DS := 1) (dp := 0) (fuel := 200000) (q := []) (il := []) (anns := an_59_474) (pcs := [118]) (cand := fun _ _ => an_59_474) (sp := (fun _ => [])) hGl gok_59 (by decide) (fun _ h => absurd h List.not_mem_nil) (fun _ h => absurd h List.not_mem_nil) (fun _ _ _ h => h) (by decide +kernel) (by decide +kernel)
-- SandFlags$Rota.placeFrom
def sm_59_475 : ab_Sm := ([tR 43, tN 0 5, tN 4 4, tN 27 27, tN 1 1, tF], th_63, [([], some (tN 0 1), [])], [])
def an_59_475 : List ab_An := []
theorem sok_59_475 {l : Launch} {D : va_G} {cs : Nat → ClassId} {tS : Nat} (hGl : ab_Gl l ZZ wFF D vwCl cs tS) : ab_SOK l ZZ 2 D vwCl cs tS 59 sm_59_475 := zf_fin1 (DS := 1) (dp := 0) (fuel := 200000) (q := []) (il := []) (anns := an_59_475) (pcs := [118]) (cand := fun _ _ => an_59_475) (sp := (fun _ => [])) hGl gok_59 (by decide) (fun _ h => absurd h List.not_mem_nil) (fun _ h => absurd h List.not_mem_nil) (fun _ _ _ h => h) (by decide +kernel) (by decide +kernel)
-- SandFlags$Rota.placeFrom
def sm_59_476 : ab_Sm := ([tR 43, tN 0 5, tN 4 4, tN 152 152, tN 0 0, tF], th_63, [([], some (tN 0 1), [])], [])
def an_59_476 : List ab_An := []
theorem sok_59_476 {l : Launch} {D : va_G} {cs : Nat → ClassId} {tS : Nat} (hGl : ab_Gl l ZZ wFF D vwCl cs tS) : ab_SOK l ZZ 2 D vwCl cs tS 59 sm_59_476 := zf_fin1 (DS := 1) (dp := 0) (fuel := 200000) (q := []) (il := []) (anns := an_59_476) (pcs := [118]) (cand := fun _ _ => an_59_476) (sp := (fun _ => [])) hGl gok_59 (by decide) (fun _ h => absurd h List.not_mem_nil) (fun _ h => absurd h List.not_mem_nil) (fun _ _ _ h => h) (by decide +kernel) (by decide +kernel)
-- SandFlags$Rota.placeFrom
def sm_59_477 : ab_Sm := ([tR 43, tN 0 5, tN 4 4, tN 52 52, tN 0 0, tF], th_63, [([], some (tN 0 1), [])], [])
def an_59_477 : List ab_An := []
theorem sok_59_477 {l : Launch} {D : va_G} {cs : Nat → ClassId} {tS : Nat} (hGl : ab_Gl l ZZ wFF D vwCl cs tS) : ab_SOK l ZZ 2 D vwCl cs tS 59 sm_59_477 := zf_fin1 (DS := 1) (dp := 0) (fuel := 200000) (q := []) (il := []) (anns := an_59_477) (pcs := [118]) (cand := fun _ _ => an_59_477) (sp := (fun _ => [])) hGl gok_59 (by decide) (fun _ h => absurd h List.not_mem_nil) (fun _ h => absurd h List.not_mem_nil) (fun _ _ _ h => h) (by decide +kernel) (by decide +kernel)
-- SandFlags$Rota.placeFrom
def sm_59_478 : ab_Sm := ([tR 43, tN 0 5, tN 4 4, tN 7 7, tN 0 0, tF], th_63, [([], some (tN 0 1), [])], [])
def an_59_478 : List ab_An := []
theorem sok_59_478 {l : Launch} {D : va_G} {cs : Nat → ClassId} {tS : Nat} (hGl : ab_Gl l ZZ wFF D vwCl cs tS) : ab_SOK l ZZ 2 D vwCl cs tS 59 sm_59_478 := zf_fin1 (DS := 1) (dp := 0) (fuel := 200000) (q := []) (il := []) (anns := an_59_478) (pcs := [118]) (cand := fun _ _ => an_59_478) (sp := (fun _ => [])) hGl gok_59 (by decide) (fun _ h => absurd h List.not_mem_nil) (fun _ h => absurd h List.not_mem_nil) (fun _ _ _ h => h) (by decide +kernel) (by decide +kernel)
-- SandFlags$Rota.placeFrom
def sm_59_479 : ab_Sm := ([tR 43, tN 0 5, tN 4 4, tN 7 7, tN 125 125, tF], th_63, [([], some (tN 0 1), [])], [])
def an_59_479 : List ab_An := []
theorem sok_59_479 {l : Launch} {D : va_G} {cs : Nat → ClassId} {tS : Nat} (hGl : ab_Gl l ZZ wFF D vwCl cs tS) : ab_SOK l ZZ 2 D vwCl cs tS 59 sm_59_479 := zf_fin1 (DS := 1) (dp := 0) (fuel := 200000) (q := []) (il := []) (anns := an_59_479) (pcs := [118]) (cand := fun _ _ => an_59_479) (sp := (fun _ => [])) hGl gok_59 (by decide) (fun _ h => absurd h List.not_mem_nil) (fun _ h => absurd h List.not_mem_nil) (fun _ _ _ h => h) (by decide +kernel) (by decide +kernel)
-- SandFlags$Rota.placeFrom
def sm_59_480 : ab_Sm := ([tR 43, tN 0 5, tN 4 4, tN 7 7, tN 25 25, tF], th_63, [([], some (tN 0 1), [])], [])
def an_59_480 : List ab_An := []
theorem sok_59_480 {l : Launch} {D : va_G} {cs : Nat → ClassId} {tS : Nat} (hGl : ab_Gl l ZZ wFF D vwCl cs tS) : ab_SOK l ZZ 2 D vwCl cs tS 59 sm_59_480 := zf_fin1 (DS := 1) (dp := 0) (fuel := 200000) (q := []) (il := []) (anns := an_59_480) (pcs := [118]) (cand := fun _ _ => an_59_480) (sp := (fun _ => [])) hGl gok_59 (by decide) (fun _ h => absurd h List.not_mem_nil) (fun _ h => absurd h List.not_mem_nil) (fun _ _ _ h => h) (by decide +kernel) (by decide +kernel)
-- SandFlags$Rota.placeFrom
def sm_59_481 : ab_Sm := ([tR 43, tN 0 5, tN 4 4, tN 7 7, tN 5 5, tF], th_63, [([], some (tN 0 1), [])], [])
def an_59_481 : List ab_An := []
theorem sok_59_481 {l : Launch} {D : va_G} {cs : Nat → ClassId} {tS : Nat} (hGl : ab_Gl l ZZ wFF D vwCl cs tS) : ab_SOK l ZZ 2 D vwCl cs tS 59 sm_59_481 := zf_fin1 (DS := 1) (dp := 0) (fuel := 200000) (q := []) (il := []) (anns := an_59_481) (pcs := [118]) (cand := fun _ _ => an_59_481) (sp := (fun _ => [])) hGl gok_59 (by decide) (fun _ h => absurd h List.not_mem_nil) (fun _ h => absurd h List.not_mem_nil) (fun _ _ _ h => h) (by decide +kernel) (by decide +kernel)
-- SandFlags$Rota.placeFrom
def sm_59_482 : ab_Sm := ([tR 43, tN 0 5, tN 4 4, tN 7 7, tN 1 1, tF], th_63, [([], some (tN 0 1), [])], [])
def an_59_482 : List ab_An := []
theorem sok_59_482 {l : Launch} {D : va_G} {cs : Nat → ClassId} {tS : Nat} (hGl : ab_Gl l ZZ wFF D vwCl cs tS) : ab_SOK l ZZ 2 D vwCl cs tS 59 sm_59_482 := zf_fin1 (DS := 1) (dp := 0) (fuel := 200000) (q := []) (il := []) (anns := an_59_482) (pcs := [118]) (cand := fun _ _ => an_59_482) (sp := (fun _ => [])) hGl gok_59 (by decide) (fun _ h => absurd h List.not_mem_nil) (fun _ h => absurd h List.not_mem_nil) (fun _ _ _ h => h) (by decide +kernel) (by decide +kernel)
-- SandFlags$Rota.placeFrom
def sm_59_483 : ab_Sm := ([tR 43, tN 0 5, tN 4 4, tN 132 132, tN 0 0, tF], th_63, [([], some (tN 0 1), [])], [])
def an_59_483 : List ab_An := []
theorem sok_59_483 {l : Launch} {D : va_G} {cs : Nat → ClassId} {tS : Nat} (hGl : ab_Gl l ZZ wFF D vwCl cs tS) : ab_SOK l ZZ 2 D vwCl cs tS 59 sm_59_483 := zf_fin1 (DS := 1) (dp := 0) (fuel := 200000) (q := []) (il := []) (anns := an_59_483) (pcs := [118]) (cand := fun _ _ => an_59_483) (sp := (fun _ => [])) hGl gok_59 (by decide) (fun _ h => absurd h List.not_mem_nil) (fun _ h => absurd h List.not_mem_nil) (fun _ _ _ h => h) (by decide +kernel) (by decide +kernel)
-- SandFlags$Rota.placeFrom
def sm_59_484 : ab_Sm := ([tR 43, tN 0 5, tN 4 4, tN 32 32, tN 0 0, tF], th_63, [([], some (tN 0 1), [])], [])
def an_59_484 : List ab_An := []
theorem sok_59_484 {l : Launch} {D : va_G} {cs : Nat → ClassId} {tS : Nat} (hGl : ab_Gl l ZZ wFF D vwCl cs tS) : ab_SOK l ZZ 2 D vwCl cs tS 59 sm_59_484 := zf_fin1 (DS := 1) (dp := 0) (fuel := 200000) (q := []) (il := []) (anns := an_59_484) (pcs := [118]) (cand := fun _ _ => an_59_484) (sp := (fun _ => [])) hGl gok_59 (by decide) (fun _ h => absurd h List.not_mem_nil) (fun _ h => absurd h List.not_mem_nil) (fun _ _ _ h => h) (by decide +kernel) (by decide +kernel)
-- SandFlags$Rota.placeFrom
def sm_59_485 : ab_Sm := ([tR 43, tN 0 5, tN 4 4, tN 12 12, tN 0 0, tF], th_63, [([], some (tN 0 1), [])], [])
def an_59_485 : List ab_An := []
theorem sok_59_485 {l : Launch} {D : va_G} {cs : Nat → ClassId} {tS : Nat} (hGl : ab_Gl l ZZ wFF D vwCl cs tS) : ab_SOK l ZZ 2 D vwCl cs tS 59 sm_59_485 := zf_fin1 (DS := 1) (dp := 0) (fuel := 200000) (q := []) (il := []) (anns := an_59_485) (pcs := [118]) (cand := fun _ _ => an_59_485) (sp := (fun _ => [])) hGl gok_59 (by decide) (fun _ h => absurd h List.not_mem_nil) (fun _ h => absurd h List.not_mem_nil) (fun _ _ _ h => h) (by decide +kernel) (by decide +kernel)
-- SandFlags$Rota.placeFrom
def sm_59_486 : ab_Sm := ([tR 43, tN 0 5, tN 4 4, tN 3 3, tN 0 0, tF], th_63, [([], some (tN 0 1), [])], [])
def an_59_486 : List ab_An := []
theorem sok_59_486 {l : Launch} {D : va_G} {cs : Nat → ClassId} {tS : Nat} (hGl : ab_Gl l ZZ wFF D vwCl cs tS) : ab_SOK l ZZ 2 D vwCl cs tS 59 sm_59_486 := zf_fin1 (DS := 1) (dp := 0) (fuel := 200000) (q := []) (il := []) (anns := an_59_486) (pcs := [118]) (cand := fun _ _ => an_59_486) (sp := (fun _ => [])) hGl gok_59 (by decide) (fun _ h => absurd h List.not_mem_nil) (fun _ h => absurd h List.not_mem_nil) (fun _ _ _ h => h) (by decide +kernel) (by decide +kernel)
-- SandFlags$Rota.placeFrom
def sm_59_487 : ab_Sm := ([tR 43, tN 0 5, tN 4 4, tN 3 3, tN 125 125, tF], th_63, [([], some (tN 0 1), [])], [])
def an_59_487 : List ab_An := []
theorem sok_59_487 {l : Launch} {D : va_G} {cs : Nat → ClassId} {tS : Nat} (hGl : ab_Gl l ZZ wFF D vwCl cs tS) : ab_SOK l ZZ 2 D vwCl cs tS 59 sm_59_487 := zf_fin1 (DS := 1) (dp := 0) (fuel := 200000) (q := []) (il := []) (anns := an_59_487) (pcs := [118]) (cand := fun _ _ => an_59_487) (sp := (fun _ => [])) hGl gok_59 (by decide) (fun _ h => absurd h List.not_mem_nil) (fun _ h => absurd h List.not_mem_nil) (fun _ _ _ h => h) (by decide +kernel) (by decide +kernel)
-- SandFlags$Rota.placeFrom
def sm_59_488 : ab_Sm := ([tR 43, tN 0 5, tN 4 4, tN 3 3, tN 25 25, tF], th_63, [([], some (tN 0 1), [])], [])
def an_59_488 : List ab_An := []
theorem sok_59_488 {l : Launch} {D : va_G} {cs : Nat → ClassId} {tS : Nat} (hGl : ab_Gl l ZZ wFF D vwCl cs tS) : ab_SOK l ZZ 2 D vwCl cs tS 59 sm_59_488 := zf_fin1 (DS := 1) (dp := 0) (fuel := 200000) (q := []) (il := []) (anns := an_59_488) (pcs := [118]) (cand := fun _ _ => an_59_488) (sp := (fun _ => [])) hGl gok_59 (by decide) (fun _ h => absurd h List.not_mem_nil) (fun _ h => absurd h List.not_mem_nil) (fun _ _ _ h => h) (by decide +kernel) (by decide +kernel)
-- SandFlags$Rota.placeFrom
def sm_59_489 : ab_Sm := ([tR 43, tN 0 5, tN 4 4, tN 3 3, tN 5 5, tF], th_63, [([], some (tN 0 1), [])], [])
def an_59_489 : List ab_An := []
theorem sok_59_489 {l : Launch} {D : va_G} {cs : Nat → ClassId} {tS : Nat} (hGl : ab_Gl l ZZ wFF D vwCl cs tS) : ab_SOK l ZZ 2 D vwCl cs tS 59 sm_59_489 := zf_fin1 (DS := 1) (dp := 0) (fuel := 200000) (q := []) (il := []) (anns := an_59_489) (pcs := [118]) (cand := fun _ _ => an_59_489) (sp := (fun _ => [])) hGl gok_59 (by decide) (fun _ h => absurd h List.not_mem_nil) (fun _ h => absurd h List.not_mem_nil) (fun _ _ _ h => h) (by decide +kernel) (by decide +kernel)
-- SandFlags$Rota.placeFrom
def sm_59_490 : ab_Sm := ([tR 43, tN 0 5, tN 4 4, tN 3 3, tN 1 1, tF], th_63, [([], some (tN 0 1), [])], [])
def an_59_490 : List ab_An := []
theorem sok_59_490 {l : Launch} {D : va_G} {cs : Nat → ClassId} {tS : Nat} (hGl : ab_Gl l ZZ wFF D vwCl cs tS) : ab_SOK l ZZ 2 D vwCl cs tS 59 sm_59_490 := zf_fin1 (DS := 1) (dp := 0) (fuel := 200000) (q := []) (il := []) (anns := an_59_490) (pcs := [118]) (cand := fun _ _ => an_59_490) (sp := (fun _ => [])) hGl gok_59 (by decide) (fun _ h => absurd h List.not_mem_nil) (fun _ h => absurd h List.not_mem_nil) (fun _ _ _ h => h) (by decide +kernel) (by decide +kernel)
-- SandFlags$Rota.placeFrom
def sm_59_491 : ab_Sm := ([tR 43, tN 0 5, tN 4 4, tN 128 128, tN 0 0, tF], th_63, [([], some (tN 0 1), [])], [])
def an_59_491 : List ab_An := []
theorem sok_59_491 {l : Launch} {D : va_G} {cs : Nat → ClassId} {tS : Nat} (hGl : ab_Gl l ZZ wFF D vwCl cs tS) : ab_SOK l ZZ 2 D vwCl cs tS 59 sm_59_491 := zf_fin1 (DS := 1) (dp := 0) (fuel := 200000) (q := []) (il := []) (anns := an_59_491) (pcs := [118]) (cand := fun _ _ => an_59_491) (sp := (fun _ => [])) hGl gok_59 (by decide) (fun _ h => absurd h List.not_mem_nil) (fun _ h => absurd h List.not_mem_nil) (fun _ _ _ h => h) (by decide +kernel) (by decide +kernel)
-- SandFlags$Rota.placeFrom
def sm_59_492 : ab_Sm := ([tR 43, tN 0 5, tN 4 4, tN 28 28, tN 0 0, tF], th_63, [([], some (tN 0 1), [])], [])
def an_59_492 : List ab_An := []
theorem sok_59_492 {l : Launch} {D : va_G} {cs : Nat → ClassId} {tS : Nat} (hGl : ab_Gl l ZZ wFF D vwCl cs tS) : ab_SOK l ZZ 2 D vwCl cs tS 59 sm_59_492 := zf_fin1 (DS := 1) (dp := 0) (fuel := 200000) (q := []) (il := []) (anns := an_59_492) (pcs := [118]) (cand := fun _ _ => an_59_492) (sp := (fun _ => [])) hGl gok_59 (by decide) (fun _ h => absurd h List.not_mem_nil) (fun _ h => absurd h List.not_mem_nil) (fun _ _ _ h => h) (by decide +kernel) (by decide +kernel)
-- SandFlags$Rota.placeFrom
def sm_59_493 : ab_Sm := ([tR 43, tN 0 5, tN 4 4, tN 8 8, tN 0 0, tF], th_63, [([], some (tN 0 1), [])], [])
def an_59_493 : List ab_An := []
theorem sok_59_493 {l : Launch} {D : va_G} {cs : Nat → ClassId} {tS : Nat} (hGl : ab_Gl l ZZ wFF D vwCl cs tS) : ab_SOK l ZZ 2 D vwCl cs tS 59 sm_59_493 := zf_fin1 (DS := 1) (dp := 0) (fuel := 200000) (q := []) (il := []) (anns := an_59_493) (pcs := [118]) (cand := fun _ _ => an_59_493) (sp := (fun _ => [])) hGl gok_59 (by decide) (fun _ h => absurd h List.not_mem_nil) (fun _ h => absurd h List.not_mem_nil) (fun _ _ _ h => h) (by decide +kernel) (by decide +kernel)
-- SandFlags$Rota.placeFrom
def sm_59_494 : ab_Sm := ([tR 43, tN 0 5, tN 4 4, tN 4 4, tN 0 0, tF], th_63, [([], some (tN 0 1), [])], [])
def an_59_494 : List ab_An := []
theorem sok_59_494 {l : Launch} {D : va_G} {cs : Nat → ClassId} {tS : Nat} (hGl : ab_Gl l ZZ wFF D vwCl cs tS) : ab_SOK l ZZ 2 D vwCl cs tS 59 sm_59_494 := zf_fin1 (DS := 1) (dp := 0) (fuel := 200000) (q := []) (il := []) (anns := an_59_494) (pcs := [118]) (cand := fun _ _ => an_59_494) (sp := (fun _ => [])) hGl gok_59 (by decide) (fun _ h => absurd h List.not_mem_nil) (fun _ h => absurd h List.not_mem_nil) (fun _ _ _ h => h) (by decide +kernel) (by decide +kernel)
def tc_49 : ab_TC := (4, 17, .inr (.inr (.inr (.inr [none, tR 44, none, tR 46, tR 47, none, none, tR 50, none, tR 58, tR 66, tR 67, tN 3 4, none, none, none, none]))))
def th_64 : ab_TH := [(43, tc_49), (44, ci_44), (46, ci_46), (47, ci_47), (50, ci_50), (51, ci_51), (52, ci_52), (53, ci_53), (54, ci_54), (55, ci_55), (56, ci_56), (58, ci_58), (60, ci_60), (61, ci_61), (62, ci_62), (63, ci_63), (64, ci_64), (65, ci_65), (66, ci_66), (67, ci_67)]
def tc_50 : ab_TC := (4, 17, .inr (.inr (.inr (.inr [none, tR 44, none, tR 46, tR 47, none, none, tR 50, none, tR 58, tR 66, tR 67, tN 4 4, none, none, none, none]))))
def th_65 : ab_TH := [(43, tc_50), (44, ci_44), (46, ci_46), (47, ci_47), (50, ci_50), (51, ci_51), (52, ci_52), (53, ci_53), (54, ci_54), (55, ci_55), (56, ci_56), (58, ci_58), (60, ci_60), (61, ci_61), (62, ci_62), (63, ci_63), (64, ci_64), (65, ci_65), (66, ci_66), (67, ci_67)]
-- SandFlags$Rota.placeFrom
def sm_59_495 : ab_Sm := ([tR 43, tN 0 5, tN 3 3, tN 0 0, tN 0 0, tF], th_64, [([], some (tN 0 1), [(67, ci_67)])], [67])
def an_59_495 : List ab_An := [(118, [tR 43, tN 0 5, tN 3 3, tN 0 0, tN 0 0, tF, tN 3 23, tN 0 1, tN 0 0, none], [], th_65, [], [(.ofNat 0, .ofNat 0, 0), (.ofNat 4, .negSucc 0, 8)]), (118, [tR 43, tN 0 5, tN 3 3, tN 0 0, tN 0 0, tF, tN 3 23, tN 0 1, tN 1 1, none], [], th_65, [], [(.ofNat 0, .ofNat 0, 0), (.ofNat 4, .negSucc 0, 8)]), (118, [tR 43, tN 0 5, tN 3 3, tN 0 0, tN 0 0, tF, tN 3 23, tN 0 1, tN 2 2, none], [], th_65, [], [(.ofNat 0, .ofNat 0, 0), (.ofNat 4, .negSucc 0, 8)]), (118, [tR 43, tN 0 5, tN 3 3, tN 0 0, tN 0 0, tF, tN 3 23, tN 0 1, tN 3 3, none], [], th_65, [], [(.ofNat 0, .ofNat 0, 0), (.ofNat 4, .negSucc 0, 8)]), (118, [tR 43, tN 0 5, tN 3 3, tN 0 0, tN 0 0, tF, tN 3 23, tN 0 1, tN 4 4, none], [], th_65, [], [(.ofNat 0, .ofNat 0, 0), (.ofNat 4, .negSucc 0, 8)])]
theorem sok_59_495 {l : Launch} {D : va_G} {cs : Nat → ClassId} {tS : Nat} (hGl : ab_Gl l ZZ wFF D vwCl cs tS) : ab_SOK l ZZ 4 D vwCl cs tS 59 sm_59_495 := zf_fin1 (DS := 3) (dp := 0) (fuel := 200000) (q := [(58, sm_58_0), (59, sm_59_0), (59, sm_59_1), (59, sm_59_5), (59, sm_59_15), (59, sm_59_35), (59, sm_59_70), (59, sm_59_126), (59, sm_59_210), (59, sm_59_330)]) (il := []) (anns := an_59_495) (pcs := [118]) (cand := fun _ _ => an_59_495) (sp := (fun _ => [])) hGl gok_59 (by decide) (List.forall_mem_cons.mpr ⟨ab_SOK_mono (sok_58_0 hGl) (by decide), (List.forall_mem_cons.mpr ⟨ab_SOK_mono (sok_59_0 hGl) (by decide), (List.forall_mem_cons.mpr ⟨ab_SOK_mono (sok_59_1 hGl) (by decide), (List.forall_mem_cons.mpr ⟨ab_SOK_mono (sok_59_5 hGl) (by decide), (List.forall_mem_cons.mpr ⟨ab_SOK_mono (sok_59_15 hGl) (by decide), (List.forall_mem_cons.mpr ⟨ab_SOK_mono (sok_59_35 hGl) (by decide), (List.forall_mem_cons.mpr ⟨ab_SOK_mono (sok_59_70 hGl) (by decide), (List.forall_mem_cons.mpr ⟨ab_SOK_mono (sok_59_126 hGl) (by decide), (List.forall_mem_cons.mpr ⟨ab_SOK_mono (sok_59_210 hGl) (by decide), (List.forall_mem_cons.mpr ⟨ab_SOK_mono (sok_59_330 hGl) (by decide), (fun _ h => absurd h List.not_mem_nil)⟩)⟩)⟩)⟩)⟩)⟩)⟩)⟩)⟩)⟩) (fun _ h => absurd h List.not_mem_nil) (fun _ _ _ h => h) (by decide +kernel) (by decide +kernel)
-- SandFlags$Rota.placeFrom
def sm_59_496 : ab_Sm := ([tR 43, tN 0 5, tN 3 3, tN 0 0, tN 125 125, tF], th_64, [([], some (tN 0 1), [(67, ci_67)])], [67])
def an_59_496 : List ab_An := [(118, [tR 43, tN 0 5, tN 3 3, tN 0 0, tN 125 125, tF, tN 3 23, tN 0 1, tN 0 0, none], [], th_65, [], [(.ofNat 0, .ofNat 0, 0), (.ofNat 4, .negSucc 0, 8)]), (118, [tR 43, tN 0 5, tN 3 3, tN 0 0, tN 125 125, tF, tN 3 23, tN 0 1, tN 1 1, none], [], th_65, [], [(.ofNat 0, .ofNat 0, 0), (.ofNat 4, .negSucc 0, 8)]), (118, [tR 43, tN 0 5, tN 3 3, tN 0 0, tN 125 125, tF, tN 3 23, tN 0 1, tN 2 2, none], [], th_65, [], [(.ofNat 0, .ofNat 0, 0), (.ofNat 4, .negSucc 0, 8)]), (118, [tR 43, tN 0 5, tN 3 3, tN 0 0, tN 125 125, tF, tN 3 23, tN 0 1, tN 3 3, none], [], th_65, [], [(.ofNat 0, .ofNat 0, 0), (.ofNat 4, .negSucc 0, 8)]), (118, [tR 43, tN 0 5, tN 3 3, tN 0 0, tN 125 125, tF, tN 3 23, tN 0 1, tN 4 4, none], [], th_65, [], [(.ofNat 0, .ofNat 0, 0), (.ofNat 4, .negSucc 0, 8)])]
theorem sok_59_496 {l : Launch} {D : va_G} {cs : Nat → ClassId} {tS : Nat} (hGl : ab_Gl l ZZ wFF D vwCl cs tS) : ab_SOK l ZZ 4 D vwCl cs tS 59 sm_59_496 := zf_fin1 (DS := 3) (dp := 0) (fuel := 200000) (q := [(58, sm_58_0), (59, sm_59_1), (59, sm_59_2), (59, sm_59_6), (59, sm_59_16), (59, sm_59_36), (59, sm_59_71), (59, sm_59_127), (59, sm_59_211), (59, sm_59_331)]) (il := []) (anns := an_59_496) (pcs := [118]) (cand := fun _ _ => an_59_496) (sp := (fun _ => [])) hGl gok_59 (by decide) (List.forall_mem_cons.mpr ⟨ab_SOK_mono (sok_58_0 hGl) (by decide), (List.forall_mem_cons.mpr ⟨ab_SOK_mono (sok_59_1 hGl) (by decide), (List.forall_mem_cons.mpr ⟨ab_SOK_mono (sok_59_2 hGl) (by decide), (List.forall_mem_cons.mpr ⟨ab_SOK_mono (sok_59_6 hGl) (by decide), (List.forall_mem_cons.mpr ⟨ab_SOK_mono (sok_59_16 hGl) (by decide), (List.forall_mem_cons.mpr ⟨ab_SOK_mono (sok_59_36 hGl) (by decide), (List.forall_mem_cons.mpr ⟨ab_SOK_mono (sok_59_71 hGl) (by decide), (List.forall_mem_cons.mpr ⟨ab_SOK_mono (sok_59_127 hGl) (by decide), (List.forall_mem_cons.mpr ⟨ab_SOK_mono (sok_59_211 hGl) (by decide), (List.forall_mem_cons.mpr ⟨ab_SOK_mono (sok_59_331 hGl) (by decide), (fun _ h => absurd h List.not_mem_nil)⟩)⟩)⟩)⟩)⟩)⟩)⟩)⟩)⟩)⟩) (fun _ h => absurd h List.not_mem_nil) (fun _ _ _ h => h) (by decide +kernel) (by decide +kernel)
-- SandFlags$Rota.placeFrom
def sm_59_497 : ab_Sm := ([tR 43, tN 0 5, tN 3 3, tN 0 0, tN 250 250, tF], th_64, [([], some (tN 0 1), [(67, ci_67)])], [67])
def an_59_497 : List ab_An := [(118, [tR 43, tN 0 5, tN 3 3, tN 0 0, tN 250 250, tF, tN 3 23, tN 0 1, tN 0 0, none], [], th_65, [], [(.ofNat 0, .ofNat 0, 0), (.ofNat 4, .negSucc 0, 8)]), (118, [tR 43, tN 0 5, tN 3 3, tN 0 0, tN 250 250, tF, tN 3 23, tN 0 1, tN 1 1, none], [], th_65, [], [(.ofNat 0, .ofNat 0, 0), (.ofNat 4, .negSucc 0, 8)]), (118, [tR 43, tN 0 5, tN 3 3, tN 0 0, tN 250 250, tF, tN 3 23, tN 0 1, tN 2 2, none], [], th_65, [], [(.ofNat 0, .ofNat 0, 0), (.ofNat 4, .negSucc 0, 8)]), (118, [tR 43, tN 0 5, tN 3 3, tN 0 0, tN 250 250, tF, tN 3 23, tN 0 1, tN 3 3, none], [], th_65, [], [(.ofNat 0, .ofNat 0, 0), (.ofNat 4, .negSucc 0, 8)]), (118, [tR 43, tN 0 5, tN 3 3, tN 0 0, tN 250 250, tF, tN 3 23, tN 0 1, tN 4 4, none], [], th_65, [], [(.ofNat 0, .ofNat 0, 0), (.ofNat 4, .negSucc 0, 8)])]
theorem sok_59_497 {l : Launch} {D : va_G} {cs : Nat → ClassId} {tS : Nat} (hGl : ab_Gl l ZZ wFF D vwCl cs tS) : ab_SOK l ZZ 4 D vwCl cs tS 59 sm_59_497 := zf_fin1 (DS := 3) (dp := 0) (fuel := 200000) (q := [(58, sm_58_0), (59, sm_59_2), (59, sm_59_3), (59, sm_59_7), (59, sm_59_17), (59, sm_59_37), (59, sm_59_72), (59, sm_59_128), (59, sm_59_212), (59, sm_59_332)]) (il := []) (anns := an_59_497) (pcs := [118]) (cand := fun _ _ => an_59_497) (sp := (fun _ => [])) hGl gok_59 (by decide) (List.forall_mem_cons.mpr ⟨ab_SOK_mono (sok_58_0 hGl) (by decide), (List.forall_mem_cons.mpr ⟨ab_SOK_mono (sok_59_2 hGl) (by decide), (List.forall_mem_cons.mpr ⟨ab_SOK_mono (sok_59_3 hGl) (by decide), (List.forall_mem_cons.mpr ⟨ab_SOK_mono (sok_59_7 hGl) (by decide), (List.forall_mem_cons.mpr ⟨ab_SOK_mono (sok_59_17 hGl) (by decide), (List.forall_mem_cons.mpr ⟨ab_SOK_mono (sok_59_37 hGl) (by decide), (List.forall_mem_cons.mpr ⟨ab_SOK_mono (sok_59_72 hGl) (by decide), (List.forall_mem_cons.mpr ⟨ab_SOK_mono (sok_59_128 hGl) (by decide), (List.forall_mem_cons.mpr ⟨ab_SOK_mono (sok_59_212 hGl) (by decide), (List.forall_mem_cons.mpr ⟨ab_SOK_mono (sok_59_332 hGl) (by decide), (fun _ h => absurd h List.not_mem_nil)⟩)⟩)⟩)⟩)⟩)⟩)⟩)⟩)⟩)⟩) (fun _ h => absurd h List.not_mem_nil) (fun _ _ _ h => h) (by decide +kernel) (by decide +kernel)
-- SandFlags$Rota.placeFrom
def sm_59_498 : ab_Sm := ([tR 43, tN 0 5, tN 3 3, tN 0 0, tN 375 375, tF], th_64, [([], some (tN 0 1), [(67, ci_67)])], [67])
def an_59_498 : List ab_An := [(118, [tR 43, tN 0 5, tN 3 3, tN 0 0, tN 375 375, tF, tN 3 23, tN 0 1, tN 0 0, none], [], th_65, [], [(.ofNat 0, .ofNat 0, 0), (.ofNat 4, .negSucc 0, 8)]), (118, [tR 43, tN 0 5, tN 3 3, tN 0 0, tN 375 375, tF, tN 3 23, tN 0 1, tN 1 1, none], [], th_65, [], [(.ofNat 0, .ofNat 0, 0), (.ofNat 4, .negSucc 0, 8)]), (118, [tR 43, tN 0 5, tN 3 3, tN 0 0, tN 375 375, tF, tN 3 23, tN 0 1, tN 2 2, none], [], th_65, [], [(.ofNat 0, .ofNat 0, 0), (.ofNat 4, .negSucc 0, 8)]), (118, [tR 43, tN 0 5, tN 3 3, tN 0 0, tN 375 375, tF, tN 3 23, tN 0 1, tN 3 3, none], [], th_65, [], [(.ofNat 0, .ofNat 0, 0), (.ofNat 4, .negSucc 0, 8)]), (118, [tR 43, tN 0 5, tN 3 3, tN 0 0, tN 375 375, tF, tN 3 23, tN 0 1, tN 4 4, none], [], th_65, [], [(.ofNat 0, .ofNat 0, 0), (.ofNat 4, .negSucc 0, 8)])]
theorem sok_59_498 {l : Launch} {D : va_G} {cs : Nat → ClassId} {tS : Nat} (hGl : ab_Gl l ZZ wFF D vwCl cs tS) : ab_SOK l ZZ 4 D vwCl cs tS 59 sm_59_498 := zf_fin1 (DS := 3) (dp := 0) (fuel := 200000) (q := [(58, sm_58_0), (59, sm_59_3), (59, sm_59_4), (59, sm_59_8), (59, sm_59_18), (59, sm_59_38), (59, sm_59_73), (59, sm_59_129), (59, sm_59_213), (59, sm_59_333)]) (il := []) (anns := an_59_498) (pcs := [118]) (cand := fun _ _ => an_59_498) (sp := (fun _ => [])) hGl gok_59 (by decide) (List.forall_mem_cons.mpr ⟨ab_SOK_mono (sok_58_0 hGl) (by decide), (List.forall_mem_cons.mpr ⟨ab_SOK_mono (sok_59_3 hGl) (by decide), (List.forall_mem_cons.mpr ⟨ab_SOK_mono (sok_59_4 hGl) (by decide), (List.forall_mem_cons.mpr ⟨ab_SOK_mono (sok_59_8 hGl) (by decide), (List.forall_mem_cons.mpr ⟨ab_SOK_mono (sok_59_18 hGl) (by decide), (List.forall_mem_cons.mpr ⟨ab_SOK_mono (sok_59_38 hGl) (by decide), (List.forall_mem_cons.mpr ⟨ab_SOK_mono (sok_59_73 hGl) (by decide), (List.forall_mem_cons.mpr ⟨ab_SOK_mono (sok_59_129 hGl) (by decide), (List.forall_mem_cons.mpr ⟨ab_SOK_mono (sok_59_213 hGl) (by decide), (List.forall_mem_cons.mpr ⟨ab_SOK_mono (sok_59_333 hGl) (by decide), (fun _ h => absurd h List.not_mem_nil)⟩)⟩)⟩)⟩)⟩)⟩)⟩)⟩)⟩)⟩) (fun _ h => absurd h List.not_mem_nil) (fun _ _ _ h => h) (by decide +kernel) (by decide +kernel)
-- SandFlags$Rota.placeFrom
def sm_59_499 : ab_Sm := ([tR 43, tN 0 5, tN 3 3, tN 0 0, tN 25 25, tF], th_64, [([], some (tN 0 1), [(67, ci_67)])], [67])
def an_59_499 : List ab_An := [(118, [tR 43, tN 0 5, tN 3 3, tN 0 0, tN 25 25, tF, tN 3 23, tN 0 1, tN 0 0, none], [], th_65, [], [(.ofNat 0, .ofNat 0, 0), (.ofNat 4, .negSucc 0, 8)]), (118, [tR 43, tN 0 5, tN 3 3, tN 0 0, tN 25 25, tF, tN 3 23, tN 0 1, tN 1 1, none], [], th_65, [], [(.ofNat 0, .ofNat 0, 0), (.ofNat 4, .negSucc 0, 8)]), (118, [tR 43, tN 0 5, tN 3 3, tN 0 0, tN 25 25, tF, tN 3 23, tN 0 1, tN 2 2, none], [], th_65, [], [(.ofNat 0, .ofNat 0, 0), (.ofNat 4, .negSucc 0, 8)]), (118, [tR 43, tN 0 5, tN 3 3, tN 0 0, tN 25 25, tF, tN 3 23, tN 0 1, tN 3 3, none], [], th_65, [], [(.ofNat 0, .ofNat 0, 0), (.ofNat 4, .negSucc 0, 8)]), (118, [tR 43, tN 0 5, tN 3 3, tN 0 0, tN 25 25, tF, tN 3 23, tN 0 1, tN 4 4, none], [], th_65, [], [(.ofNat 0, .ofNat 0, 0), (.ofNat 4, .negSucc 0, 8)])]
theorem sok_59_499 {l : Launch} {D : va_G} {cs : Nat → ClassId} {tS : Nat} (hGl : ab_Gl l ZZ wFF D vwCl cs tS) : ab_SOK l ZZ 4 D vwCl cs tS 59 sm_59_499 := zf_fin1 (DS := 3) (dp := 0) (fuel := 200000) (q := [(58, sm_58_0), (59, sm_59_5), (59, sm_59_6), (59, sm_59_9), (59, sm_59_19), (59, sm_59_39), (59, sm_59_74), (59, sm_59_130), (59, sm_59_214), (59, sm_59_334)]) (il := []) (anns := an_59_499) (pcs := [118]) (cand := fun _ _ => an_59_499) (sp := (fun _ => [])) hGl gok_59 (by decide) (List.forall_mem_cons.mpr ⟨ab_SOK_mono (sok_58_0 hGl) (by decide), (List.forall_mem_cons.mpr ⟨ab_SOK_mono (sok_59_5 hGl) (by decide), (List.forall_mem_cons.mpr ⟨ab_SOK_mono (sok_59_6 hGl) (by decide), (List.forall_mem_cons.mpr ⟨ab_SOK_mono (sok_59_9 hGl) (by decide), (List.forall_mem_cons.mpr ⟨ab_SOK_mono (sok_59_19 hGl) (by decide), (List.forall_mem_cons.mpr ⟨ab_SOK_mono (sok_59_39 hGl) (by decide), (List.forall_mem_cons.mpr ⟨ab_SOK_mono (sok_59_74 hGl) (by decide), (List.forall_mem_cons.mpr ⟨ab_SOK_mono (sok_59_130 hGl) (by decide), (List.forall_mem_cons.mpr ⟨ab_SOK_mono (sok_59_214 hGl) (by decide), (List.forall_mem_cons.mpr ⟨ab_SOK_mono (sok_59_334 hGl) (by decide), (fun _ h => absurd h List.not_mem_nil)⟩)⟩)⟩)⟩)⟩)⟩)⟩)⟩)⟩)⟩) (fun _ h => absurd h List.not_mem_nil) (fun _ _ _ h => h) (by decide +kernel) (by decide +kernel)
-- SandFlags$Rota.placeFrom
def sm_59_500 : ab_Sm := ([tR 43, tN 0 5, tN 3 3, tN 0 0, tN 150 150, tF], th_64, [([], some (tN 0 1), [(67, ci_67)])], [67])
def an_59_500 : List ab_An := [(118, [tR 43, tN 0 5, tN 3 3, tN 0 0, tN 150 150, tF, tN 3 23, tN 0 1, tN 0 0, none], [], th_65, [], [(.ofNat 0, .ofNat 0, 0), (.ofNat 4, .negSucc 0, 8)]), (118, [tR 43, tN 0 5, tN 3 3, tN 0 0, tN 150 150, tF, tN 3 23, tN 0 1, tN 1 1, none], [], th_65, [], [(.ofNat 0, .ofNat 0, 0), (.ofNat 4, .negSucc 0, 8)]), (118, [tR 43, tN 0 5, tN 3 3, tN 0 0, tN 150 150, tF, tN 3 23, tN 0 1, tN 2 2, none], [], th_65, [], [(.ofNat 0, .ofNat 0, 0), (.ofNat 4, .negSucc 0, 8)]), (118, [tR 43, tN 0 5, tN 3 3, tN 0 0, tN 150 150, tF, tN 3 23, tN 0 1, tN 3 3, none], [], th_65, [], [(.ofNat 0, .ofNat 0, 0), (.ofNat 4, .negSucc 0, 8)]), (118, [tR 43, tN 0 5, tN 3 3, tN 0 0, tN 150 150, tF, tN 3 23, tN 0 1, tN 4 4, none], [], th_65, [], [(.ofNat 0, .ofNat 0, 0), (.ofNat 4, .negSucc 0, 8)])]
theorem sok_59_500 {l : Launch} {D : va_G} {cs : Nat → ClassId} {tS : Nat} (hGl : ab_Gl l ZZ wFF D vwCl cs tS) : ab_SOK l ZZ 4 D vwCl cs tS 59 sm_59_500 := zf_fin1 (DS := 3) (dp := 0) (fuel := 200000) (q := [(58, sm_58_0), (59, sm_59_6), (59, sm_59_7), (59, sm_59_10), (59, sm_59_20), (59, sm_59_40), (59, sm_59_75), (59, sm_59_131), (59, sm_59_215), (59, sm_59_335)]) (il := []) (anns := an_59_500) (pcs := [118]) (cand := fun _ _ => an_59_500) (sp := (fun _ => [])) hGl gok_59 (by decide) (List.forall_mem_cons.mpr ⟨ab_SOK_mono (sok_58_0 hGl) (by decide), (List.forall_mem_cons.mpr ⟨ab_SOK_mono (sok_59_6 hGl) (by decide), (List.forall_mem_cons.mpr ⟨ab_SOK_mono (sok_59_7 hGl) (by decide), (List.forall_mem_cons.mpr ⟨ab_SOK_mono (sok_59_10 hGl) (by decide), (List.forall_mem_cons.mpr ⟨ab_SOK_mono (sok_59_20 hGl) (by decide), (List.forall_mem_cons.mpr ⟨ab_SOK_mono (sok_59_40 hGl) (by decide), (List.forall_mem_cons.mpr ⟨ab_SOK_mono (sok_59_75 hGl) (by decide), (List.forall_mem_cons.mpr ⟨ab_SOK_mono (sok_59_131 hGl) (by decide), (List.forall_mem_cons.mpr ⟨ab_SOK_mono (sok_59_215 hGl) (by decide), (List.forall_mem_cons.mpr ⟨ab_SOK_mono (sok_59_335 hGl) (by decide), (fun _ h => absurd h List.not_mem_nil)⟩)⟩)⟩)⟩)⟩)⟩)⟩)⟩)⟩)⟩) (fun _ h => absurd h List.not_mem_nil) (fun _ _ _ h => h) (by decide +kernel) (by decide +kernel)
-- SandFlags$Rota.placeFrom
def sm_59_501 : ab_Sm := ([tR 43, tN 0 5, tN 3 3, tN 0 0, tN 275 275, tF], th_64, [([], some (tN 0 1), [(67, ci_67)])], [67])
def an_59_501 : List ab_An := [(118, [tR 43, tN 0 5, tN 3 3, tN 0 0, tN 275 275, tF, tN 3 23, tN 0 1, tN 0 0, none], [], th_65, [], [(.ofNat 0, .ofNat 0, 0), (.ofNat 4, .negSucc 0, 8)]), (118, [tR 43, tN 0 5, tN 3 3, tN 0 0, tN 275 275, tF, tN 3 23, tN 0 1, tN 1 1, none], [], th_65, [], [(.ofNat 0, .ofNat 0, 0), (.ofNat 4, .negSucc 0, 8)]), (118, [tR 43, tN 0 5, tN 3 3, tN 0 0, tN 275 275, tF, tN 3 23, tN 0 1, tN 2 2, none], [], th_65, [], [(.ofNat 0, .ofNat 0, 0), (.ofNat 4, .negSucc 0, 8)]), (118, [tR 43, tN 0 5, tN 3 3, tN 0 0, tN 275 275, tF, tN 3 23, tN 0 1, tN 3 3, none], [], th_65, [], [(.ofNat 0, .ofNat 0, 0), (.ofNat 4, .negSucc 0, 8)]), (118, [tR 43, tN 0 5, tN 3 3, tN 0 0, tN 275 275, tF, tN 3 23, tN 0 1, tN 4 4, none], [], th_65, [], [(.ofNat 0, .ofNat 0, 0), (.ofNat 4, .negSucc 0, 8)])]
theorem sok_59_501 {l : Launch} {D : va_G} {cs : Nat → ClassId} {tS : Nat} (hGl : ab_Gl l ZZ wFF D vwCl cs tS) : ab_SOK l ZZ 4 D vwCl cs tS 59 sm_59_501 := zf_fin1 (DS := 3) (dp := 0) (fuel := 200000) (q := [(58, sm_58_0), (59, sm_59_7), (59, sm_59_8), (59, sm_59_11), (59, sm_59_21), (59, sm_59_41), (59, sm_59_76), (59, sm_59_132), (59, sm_59_216), (59, sm_59_336)]) (il := []) (anns := an_59_501) (pcs := [118]) (cand := fun _ _ => an_59_501) (sp := (fun _ => [])) hGl gok_59 (by decide) (List.forall_mem_cons.mpr ⟨ab_SOK_mono (sok_58_0 hGl) (by decide), (List.forall_mem_cons.mpr ⟨ab_SOK_mono (sok_59_7 hGl) (by decide), (List.forall_mem_cons.mpr ⟨ab_SOK_mono (sok_59_8 hGl) (by decide), (List.forall_mem_cons.mpr ⟨ab_SOK_mono (sok_59_11 hGl) (by decide), (List.forall_mem_cons.mpr ⟨ab_SOK_mono (sok_59_21 hGl) (by decide), (List.forall_mem_cons.mpr ⟨ab_SOK_mono (sok_59_41 hGl) (by decide), (List.forall_mem_cons.mpr ⟨ab_SOK_mono (sok_59_76 hGl) (by decide), (List.forall_mem_cons.mpr ⟨ab_SOK_mono (sok_59_132 hGl) (by decide), (List.forall_mem_cons.mpr ⟨ab_SOK_mono (sok_59_216 hGl) (by decide), (List.forall_mem_cons.mpr ⟨ab_SOK_mono (sok_59_336 hGl) (by decide), (fun _ h => absurd h List.not_mem_nil)⟩)⟩)⟩)⟩)⟩)⟩)⟩)⟩)⟩)⟩) (fun _ h => absurd h List.not_mem_nil) (fun _ _ _ h => h) (by decide +kernel) (by decide +kernel)
end
