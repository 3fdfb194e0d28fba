noncomputable section
def tc_69 : ab_TC := (9, 14, .inr (.inr (.inr (.inr [none, none, none, none, none, none, none, none, tN 1 24, tF, none, none, none, none]))))
def th_95 : ab_TH := [(1, ci_1), (68, tc_69)]
def tc_70 : ab_TC := (10, 12, .inr (.inr (.inr (.inr [tR 1, none, none, none, none, tR 68, none, none, none, none, none, none]))))
def th_96 : ab_TH := [(0, tc_70), (1, ci_1), (68, tc_69)]
-- SandFlags.set
def sm_141_0 : ab_Sm := ([tR 0, tF, tF], th_96, [([], some (tF), th_95)], [1, 68, 5360, 5361])
def an_141_0 : List ab_An := []
theorem sok_141_0 {l : Launch} {D : va_G} {cs : Nat → ClassId} {tS : Nat} (hGl : ab_Gl l ZZ wFF D vwCl cs tS) : ab_SOK l ZZ 3 D vwCl cs tS 141 sm_141_0 := zf_fin1 (DS := 1) (dp := 1) (fuel := 200000) (q := []) (il := [107, 108, 172, 175]) (anns := an_141_0) (pcs := []) (cand := fun _ _ => an_141_0) (sp := (fun _ => [])) hGl gok_141 (by decide) (fun _ h => absurd h List.not_mem_nil) (List.forall_mem_cons.mpr ⟨gok_107, (List.forall_mem_cons.mpr ⟨gok_108, (List.forall_mem_cons.mpr ⟨gok_172, (List.forall_mem_cons.mpr ⟨gok_175, (fun _ h => absurd h List.not_mem_nil)⟩)⟩)⟩)⟩) (fun _ _ _ h => h) (by decide +kernel) (by decide +kernel)
def tc_71 : ab_TC := (9, 14, .inr (.inr (.inr (.inr [none, none, none, none, none, none, none, none, none, none, none, none, tN 0 20, none]))))
def th_97 : ab_TH := [(1, ci_1), (68, tc_71), (70, ci_70), (71, ci_71), (72, ci_72), (73, ci_73)]
def tc_72 : ab_TC := (9, 14, .inr (.inr (.inr (.inr [none, tR 70, tR 71, tR 72, tR 73, none, none, none, none, none, tN 0 1, none, tN 0 20, none]))))
def th_98 : ab_TH := [(0, tc_70), (1, ci_1), (68, tc_72), (70, ci_70), (71, ci_71), (72, ci_72), (73, ci_73)]
-- SandFlags.bather
def sm_142_0 : ab_Sm := ([tR 0, tF, tF], th_98, [([], some (tM 5 19), th_97)], [1, 68, 70, 71, 72, 73, 5364])
def an_142_0 : List ab_An := []
theorem sok_142_0 {l : Launch} {D : va_G} {cs : Nat → ClassId} {tS : Nat} (hGl : ab_Gl l ZZ wFF D vwCl cs tS) : ab_SOK l ZZ 3 D vwCl cs tS 142 sm_142_0 := zf_fin1 (DS := 1) (dp := 1) (fuel := 200000) (q := []) (il := [104, 109, 110, 168, 172, 175]) (anns := an_142_0) (pcs := []) (cand := fun _ _ => an_142_0) (sp := (fun _ => [])) hGl gok_142 (by decide) (fun _ h => absurd h List.not_mem_nil) (List.forall_mem_cons.mpr ⟨gok_104, (List.forall_mem_cons.mpr ⟨gok_109, (List.forall_mem_cons.mpr ⟨gok_110, (List.forall_mem_cons.mpr ⟨gok_168, (List.forall_mem_cons.mpr ⟨gok_172, (List.forall_mem_cons.mpr ⟨gok_175, (fun _ h => absurd h List.not_mem_nil)⟩)⟩)⟩)⟩)⟩)⟩) (fun _ _ _ h => h) (by decide +kernel) (by decide +kernel)
def th_99 : ab_TH := [(1, ci_1), (68, tc_31), (71, ci_71), (72, ci_72), (73, ci_73), (74, ci_74), (75, ci_75), (76, ci_76)]
def th_100 : ab_TH := [(0, tc_70), (1, ci_1), (68, ci_68), (69, ci_69), (70, ci_70), (71, ci_71), (72, ci_72), (73, ci_73), (74, ci_74), (75, ci_75), (76, ci_76)]
-- SandFlags.minutes
def sm_143_0 : ab_Sm := ([tR 0, tF], th_100, [([], some (tF), th_99)], [1, 68, 71, 72, 73, 74, 75, 76, 5365])
def an_143_0 : List ab_An := []
theorem sok_143_0 {l : Launch} {D : va_G} {cs : Nat → ClassId} {tS : Nat} (hGl : ab_Gl l ZZ wFF D vwCl cs tS) : ab_SOK l ZZ 7 D vwCl cs tS 143 sm_143_0 := zf_fin1 (DS := 5) (dp := 1) (fuel := 200000) (q := [(117, sm_117_0)]) (il := [104, 116, 172, 175]) (anns := an_143_0) (pcs := []) (cand := fun _ _ => an_143_0) (sp := (fun _ => [])) hGl gok_143 (by decide) (List.forall_mem_cons.mpr ⟨ab_SOK_mono (sok_117_0 hGl) (by decide), (fun _ h => absurd h List.not_mem_nil)⟩) (List.forall_mem_cons.mpr ⟨gok_104, (List.forall_mem_cons.mpr ⟨gok_116, (List.forall_mem_cons.mpr ⟨gok_172, (List.forall_mem_cons.mpr ⟨gok_175, (fun _ h => absurd h List.not_mem_nil)⟩)⟩)⟩)⟩) (fun _ _ _ h => h) (by decide +kernel) (by decide +kernel)
def tc_73 : ab_TC := (9, 14, .inr (.inr (.inr (.inr [none, none, tR 71, tR 72, tR 73, none, none, none, none, none, tN 0 1, none, tN 0 20, none]))))
def th_101 : ab_TH := [(0, tc_70), (1, ci_1), (68, tc_73), (71, ci_71), (72, ci_72), (73, ci_73)]
-- SandFlags.batherOf
def sm_144_0 : ab_Sm := ([tR 0, tF, tF], th_101, [([], some (tF), [(1, ci_1)])], [1])
def an_144_0 : List ab_An := []
theorem sok_144_0 {l : Launch} {D : va_G} {cs : Nat → ClassId} {tS : Nat} (hGl : ab_Gl l ZZ wFF D vwCl cs tS) : ab_SOK l ZZ 3 D vwCl cs tS 144 sm_144_0 := zf_fin1 (DS := 1) (dp := 1) (fuel := 200000) (q := []) (il := [104, 111, 112, 113, 114, 175]) (anns := an_144_0) (pcs := []) (cand := fun _ _ => an_144_0) (sp := (fun _ => [])) hGl gok_144 (by decide) (fun _ h => absurd h List.not_mem_nil) (List.forall_mem_cons.mpr ⟨gok_104, (List.forall_mem_cons.mpr ⟨gok_111, (List.forall_mem_cons.mpr ⟨gok_112, (List.forall_mem_cons.mpr ⟨gok_113, (List.forall_mem_cons.mpr ⟨gok_114, (List.forall_mem_cons.mpr ⟨gok_175, (fun _ h => absurd h List.not_mem_nil)⟩)⟩)⟩)⟩)⟩)⟩) (fun _ _ _ h => h) (by decide +kernel) (by decide +kernel)
def tc_74 : ab_TC := (6, 12, .inr (.inr (.inr (.inr [none, none, none, none, none, none, none, none, none, none, tF, none]))))
def th_102 : ab_TH := [(1, ci_1), (77, tc_74), (78, ci_78), (79, ci_79)]
def tc_75 : ab_TC := (10, 12, .inr (.inr (.inr (.inr [tR 1, none, none, none, none, none, tR 77, none, none, none, none, none]))))
def tc_76 : ab_TC := (6, 12, .inr (.inr (.inr (.inr [tR 78, tR 79, none, none, none, none, none, none, none, none, tF, none]))))
def th_103 : ab_TH := [(0, tc_75), (1, ci_1), (77, tc_76), (78, ci_78), (79, ci_79)]
-- SandFlags.parts
def sm_145_0 : ab_Sm := ([tR 0, tF, tF], th_103, [([], some (tF), th_102)], [1, 77, 78, 79, 5938])
def an_145_0 : List ab_An := []
theorem sok_145_0 {l : Launch} {D : va_G} {cs : Nat → ClassId} {tS : Nat} (hGl : ab_Gl l ZZ wFF D vwCl cs tS) : ab_SOK l ZZ 3 D vwCl cs tS 145 sm_145_0 := zf_fin1 (DS := 1) (dp := 1) (fuel := 200000) (q := []) (il := [66, 171, 172, 175]) (anns := an_145_0) (pcs := []) (cand := fun _ _ => an_145_0) (sp := (fun _ => [])) hGl gok_145 (by decide) (fun _ h => absurd h List.not_mem_nil) (List.forall_mem_cons.mpr ⟨gok_66, (List.forall_mem_cons.mpr ⟨gok_171, (List.forall_mem_cons.mpr ⟨gok_172, (List.forall_mem_cons.mpr ⟨gok_175, (fun _ h => absurd h List.not_mem_nil)⟩)⟩)⟩)⟩) (fun _ _ _ h => h) (by decide +kernel) (by decide +kernel)
def tc_77 : ab_TC := (6, 12, .inr (.inr (.inr (.inr [none, none, none, none, none, none, none, tF, tF, tF, none, none]))))
def th_104 : ab_TH := [(1, ci_1), (77, tc_77)]
def th_105 : ab_TH := [(0, tc_75), (1, ci_1), (77, tc_77)]
-- SandFlags.drift
def sm_146_0 : ab_Sm := ([tR 0, tF, tF, tF], th_105, [([], some (tM 5 1), th_104)], [1, 77, 5935, 5936, 5937])
def an_146_0 : List ab_An := []
theorem sok_146_0 {l : Launch} {D : va_G} {cs : Nat → ClassId} {tS : Nat} (hGl : ab_Gl l ZZ wFF D vwCl cs tS) : ab_SOK l ZZ 3 D vwCl cs tS 146 sm_146_0 := zf_fin1 (DS := 1) (dp := 1) (fuel := 200000) (q := []) (il := [67, 172, 173, 175]) (anns := an_146_0) (pcs := []) (cand := fun _ _ => an_146_0) (sp := (fun _ => [])) hGl gok_146 (by decide) (fun _ h => absurd h List.not_mem_nil) (List.forall_mem_cons.mpr ⟨gok_67, (List.forall_mem_cons.mpr ⟨gok_172, (List.forall_mem_cons.mpr ⟨gok_173, (List.forall_mem_cons.mpr ⟨gok_175, (fun _ h => absurd h List.not_mem_nil)⟩)⟩)⟩)⟩) (fun _ _ _ h => h) (by decide +kernel) (by decide +kernel)
def th_106 : ab_TH := [(1, ci_1), (77, tc_74), (79, ci_79), (80, ci_80), (82, ci_82), (83, ci_83), (84, ci_84)]
def tc_78 : ab_TC := (6, 12, .inr (.inr (.inr (.inr [none, tR 79, tR 80, none, none, none, none, tF, tF, tF, tF, none]))))
def th_107 : ab_TH := [(0, tc_75), (1, ci_1), (77, tc_78), (79, ci_79), (80, ci_80), (82, ci_82), (83, ci_83), (84, ci_84)]
-- SandFlags.drifts
def sm_147_0 : ab_Sm := ([tR 0], th_107, [([], some (tF), th_106)], [1, 77, 79, 80, 82, 83, 84, 5938])
def an_147_0 : List ab_An := []
theorem sok_147_0 {l : Launch} {D : va_G} {cs : Nat → ClassId} {tS : Nat} (hGl : ab_Gl l ZZ wFF D vwCl cs tS) : ab_SOK l ZZ 4 D vwCl cs tS 147 sm_147_0 := zf_fin1 (DS := 2) (dp := 1) (fuel := 200000) (q := [(71, sm_71_0), (76, sm_76_0)]) (il := [72, 73, 175]) (anns := an_147_0) (pcs := []) (cand := fun _ _ => an_147_0) (sp := (fun _ => [])) hGl gok_147 (by decide) (List.forall_mem_cons.mpr ⟨ab_SOK_mono (sok_71_0 hGl) (by decide), (List.forall_mem_cons.mpr ⟨ab_SOK_mono (sok_76_0 hGl) (by decide), (fun _ h => absurd h List.not_mem_nil)⟩)⟩) (List.forall_mem_cons.mpr ⟨gok_72, (List.forall_mem_cons.mpr ⟨gok_73, (List.forall_mem_cons.mpr ⟨gok_175, (fun _ h => absurd h List.not_mem_nil)⟩)⟩)⟩) (fun _ _ _ h => h) (by decide +kernel) (by decide +kernel)
def th_108 : ab_TH := [(1, ci_1), (77, tc_74), (79, ci_79), (80, ci_80)]
def tc_79 : ab_TC := (6, 12, .inr (.inr (.inr (.inr [none, tR 79, tR 80, none, none, none, none, none, none, none, tF, none]))))
def th_109 : ab_TH := [(0, tc_75), (1, ci_1), (77, tc_79), (79, ci_79), (80, ci_80), (82, ci_82), (83, ci_83), (84, ci_84)]
-- SandFlags.look
def sm_148_0 : ab_Sm := ([tR 0, tF, tF], th_109, [([], some (tF), th_108)], [1, 77, 79, 80, 5938])
def an_148_0 : List ab_An := []
theorem sok_148_0 {l : Launch} {D : va_G} {cs : Nat → ClassId} {tS : Nat} (hGl : ab_Gl l ZZ wFF D vwCl cs tS) : ab_SOK l ZZ 4 D vwCl cs tS 148 sm_148_0 := zf_fin1 (DS := 2) (dp := 1) (fuel := 200000) (q := [(71, sm_71_0), (75, sm_75_0)]) (il := [72, 74, 171, 172, 173, 175]) (anns := an_148_0) (pcs := []) (cand := fun _ _ => an_148_0) (sp := (fun _ => [])) hGl gok_148 (by decide) (List.forall_mem_cons.mpr ⟨ab_SOK_mono (sok_71_0 hGl) (by decide), (List.forall_mem_cons.mpr ⟨ab_SOK_mono (sok_75_0 hGl) (by decide), (fun _ h => absurd h List.not_mem_nil)⟩)⟩) (List.forall_mem_cons.mpr ⟨gok_72, (List.forall_mem_cons.mpr ⟨gok_74, (List.forall_mem_cons.mpr ⟨gok_171, (List.forall_mem_cons.mpr ⟨gok_172, (List.forall_mem_cons.mpr ⟨gok_173, (List.forall_mem_cons.mpr ⟨gok_175, (fun _ h => absurd h List.not_mem_nil)⟩)⟩)⟩)⟩)⟩)⟩) (fun _ _ _ h => h) (by decide +kernel) (by decide +kernel)
def tc_80 : ab_TC := (6, 12, .inr (.inr (.inr (.inr [none, none, none, none, none, none, none, none, none, none, none, tN 0 31]))))
def th_110 : ab_TH := [(1, ci_1), (77, tc_80)]
def th_111 : ab_TH := [(0, tc_75), (1, ci_1), (77, tc_80)]
-- SandFlags.boat
def sm_150_0 : ab_Sm := ([tR 0, tF], th_111, [([], some (tM 0 31), th_110)], [1, 77, 5939])
def an_150_0 : List ab_An := []
theorem sok_150_0 {l : Launch} {D : va_G} {cs : Nat → ClassId} {tS : Nat} (hGl : ab_Gl l ZZ wFF D vwCl cs tS) : ab_SOK l ZZ 3 D vwCl cs tS 150 sm_150_0 := zf_fin1 (DS := 1) (dp := 1) (fuel := 200000) (q := []) (il := [68, 171, 175]) (anns := an_150_0) (pcs := []) (cand := fun _ _ => an_150_0) (sp := (fun _ => [])) hGl gok_150 (by decide) (fun _ h => absurd h List.not_mem_nil) (List.forall_mem_cons.mpr ⟨gok_68, (List.forall_mem_cons.mpr ⟨gok_171, (List.forall_mem_cons.mpr ⟨gok_175, (fun _ h => absurd h List.not_mem_nil)⟩)⟩)⟩) (fun _ _ _ h => h) (by decide +kernel) (by decide +kernel)
def th_112 : ab_TH := [(1, ci_1), (77, tc_56), (79, ci_79), (80, ci_80), (82, ci_82), (83, ci_83), (84, ci_84), (85, ci_85), (86, ci_86)]
def tc_81 : ab_TC := (6, 12, .inr (.inr (.inr (.inr [none, tR 79, tR 80, tR 81, tR 85, tR 86, tK 9223372036854775807 9223372036854775807, tF, tF, tF, tF, tN 0 31]))))
def th_113 : ab_TH := [(0, tc_75), (1, ci_1), (77, tc_81), (79, ci_79), (80, ci_80), (81, ci_81), (82, ci_82), (83, ci_83), (84, ci_84), (85, ci_85), (86, ci_86)]
-- SandFlags.seek
def sm_151_0 : ab_Sm := ([tR 0, tF, tF, tF], th_113, [([], some (tF), th_112)], [1, 77, 79, 80, 82, 83, 84, 85, 86, 5934])
def an_151_0 : List ab_An := []
theorem sok_151_0 {l : Launch} {D : va_G} {cs : Nat → ClassId} {tS : Nat} (hGl : ab_Gl l ZZ wFF D vwCl cs tS) : ab_SOK l ZZ 8 D vwCl cs tS 151 sm_151_0 := zf_fin1 (DS := 5) (dp := 2) (fuel := 200000) (q := [(71, sm_71_0), (78, sm_78_3)]) (il := [72, 77, 79, 172, 173, 174, 175]) (anns := an_151_0) (pcs := []) (cand := fun _ _ => an_151_0) (sp := (fun _ => [])) hGl gok_151 (by decide) (List.forall_mem_cons.mpr ⟨ab_SOK_mono (sok_71_0 hGl) (by decide), (List.forall_mem_cons.mpr ⟨ab_SOK_mono (sok_78_3 hGl) (by decide), (fun _ h => absurd h List.not_mem_nil)⟩)⟩) (List.forall_mem_cons.mpr ⟨gok_72, (List.forall_mem_cons.mpr ⟨gok_77, (List.forall_mem_cons.mpr ⟨gok_79, (List.forall_mem_cons.mpr ⟨gok_172, (List.forall_mem_cons.mpr ⟨gok_173, (List.forall_mem_cons.mpr ⟨gok_174, (List.forall_mem_cons.mpr ⟨gok_175, (fun _ h => absurd h List.not_mem_nil)⟩)⟩)⟩)⟩)⟩)⟩)⟩) (fun _ _ _ h => h) (by decide +kernel) (by decide +kernel)
-- SandFlags.chance
def sm_152_0 : ab_Sm := ([tR 0, tF, tF], th_113, [([], some (tF), th_112)], [1, 77, 79, 80, 82, 83, 84, 85, 86, 5934])
def an_152_0 : List ab_An := []
theorem sok_152_0 {l : Launch} {D : va_G} {cs : Nat → ClassId} {tS : Nat} (hGl : ab_Gl l ZZ wFF D vwCl cs tS) : ab_SOK l ZZ 8 D vwCl cs tS 152 sm_152_0 := zf_fin1 (DS := 5) (dp := 2) (fuel := 200000) (q := [(71, sm_71_0), (78, sm_78_3), (80, sm_80_0)]) (il := [72, 77, 172, 173, 174, 175]) (anns := an_152_0) (pcs := []) (cand := fun _ _ => an_152_0) (sp := (fun _ => [])) hGl gok_152 (by decide) (List.forall_mem_cons.mpr ⟨ab_SOK_mono (sok_71_0 hGl) (by decide), (List.forall_mem_cons.mpr ⟨ab_SOK_mono (sok_78_3 hGl) (by decide), (List.forall_mem_cons.mpr ⟨ab_SOK_mono (sok_80_0 hGl) (by decide), (fun _ h => absurd h List.not_mem_nil)⟩)⟩)⟩) (List.forall_mem_cons.mpr ⟨gok_72, (List.forall_mem_cons.mpr ⟨gok_77, (List.forall_mem_cons.mpr ⟨gok_172, (List.forall_mem_cons.mpr ⟨gok_173, (List.forall_mem_cons.mpr ⟨gok_174, (List.forall_mem_cons.mpr ⟨gok_175, (fun _ h => absurd h List.not_mem_nil)⟩)⟩)⟩)⟩)⟩)⟩) (fun _ _ _ h => h) (by decide +kernel) (by decide +kernel)
def tc_82 : ab_TC := (0, 9, .inr (.inr (.inr (.inr [none, none, none, none, tN 0 8, tN 0 8, none, none, tN 0 1]))))
def th_114 : ab_TH := [(1, ci_1), (87, tc_82), (88, ci_88), (89, ci_89)]
def tc_83 : ab_TC := (10, 12, .inr (.inr (.inr (.inr [tR 1, none, none, none, none, none, none, tR 87, none, none, none, none]))))
def tc_84 : ab_TC := (0, 9, .inr (.inr (.inr (.inr [tR 88, tR 89, none, none, tN 0 8, tN 0 8, none, none, tN 0 1]))))
def th_115 : ab_TH := [(0, tc_83), (1, ci_1), (87, tc_84), (88, ci_88), (89, ci_89)]
-- SandFlags.child
def sm_153_0 : ab_Sm := ([tR 0, tN 0 1, tF], th_115, [([], some (tM 5 7), th_114)], [1, 87, 88, 89, 6572, 6573, 6576])
def an_153_0 : List ab_An := []
theorem sok_153_0 {l : Launch} {D : va_G} {cs : Nat → ClassId} {tS : Nat} (hGl : ab_Gl l ZZ wFF D vwCl cs tS) : ab_SOK l ZZ 4 D vwCl cs tS 153 sm_153_0 := zf_fin1 (DS := 1) (dp := 2) (fuel := 200000) (q := []) (il := [1, 2, 3, 172, 175]) (anns := an_153_0) (pcs := []) (cand := fun _ _ => an_153_0) (sp := (fun _ => [])) hGl gok_153 (by decide) (fun _ h => absurd h List.not_mem_nil) (List.forall_mem_cons.mpr ⟨gok_1, (List.forall_mem_cons.mpr ⟨gok_2, (List.forall_mem_cons.mpr ⟨gok_3, (List.forall_mem_cons.mpr ⟨gok_172, (List.forall_mem_cons.mpr ⟨gok_175, (fun _ h => absurd h List.not_mem_nil)⟩)⟩)⟩)⟩)⟩) (fun _ _ _ h => h) (by decide +kernel) (by decide +kernel)
def th_116 : ab_TH := [(1, ci_1), (87, tc_14), (91, ci_91), (92, ci_92), (93, ci_93), (94, ci_94), (95, ci_95), (96, ci_96), (97, ci_97), (98, ci_98), (99, ci_99), (100, ci_100)]
def th_117 : ab_TH := [(0, tc_83), (1, ci_1), (87, ci_87), (88, ci_88), (89, ci_89), (90, ci_90), (91, ci_91), (92, ci_92), (93, ci_93), (94, ci_94), (95, ci_95), (96, ci_96), (97, ci_97), (98, ci_98), (99, ci_99), (100, ci_100)]
-- SandFlags.joins
def sm_154_0 : ab_Sm := ([tR 0, tF], th_117, [([], some (tF), th_116)], [1, 87, 91, 92, 93, 94, 95, 96, 97, 98, 99, 100, 6574, 6575, 6576])
def an_154_0 : List ab_An := []
theorem sok_154_0 {l : Launch} {D : va_G} {cs : Nat → ClassId} {tS : Nat} (hGl : ab_Gl l ZZ wFF D vwCl cs tS) : ab_SOK l ZZ 7 D vwCl cs tS 154 sm_154_0 := zf_fin1 (DS := 5) (dp := 1) (fuel := 200000) (q := [(10, sm_10_0)]) (il := [5, 6, 175]) (anns := an_154_0) (pcs := []) (cand := fun _ _ => an_154_0) (sp := (fun _ => [])) hGl gok_154 (by decide) (List.forall_mem_cons.mpr ⟨ab_SOK_mono (sok_10_0 hGl) (by decide), (fun _ h => absurd h List.not_mem_nil)⟩) (List.forall_mem_cons.mpr ⟨gok_5, (List.forall_mem_cons.mpr ⟨gok_6, (List.forall_mem_cons.mpr ⟨gok_175, (fun _ h => absurd h List.not_mem_nil)⟩)⟩)⟩) (fun _ _ _ h => h) (by decide +kernel) (by decide +kernel)
-- SandFlags.joined
def sm_155_0 : ab_Sm := ([tR 0, tF], th_117, [([], some (tM 8 7), th_116)], [1, 87, 91, 92, 93, 94, 95, 96, 97, 98, 99, 100, 6574, 6575, 6576])
def an_155_0 : List ab_An := []
theorem sok_155_0 {l : Launch} {D : va_G} {cs : Nat → ClassId} {tS : Nat} (hGl : ab_Gl l ZZ wFF D vwCl cs tS) : ab_SOK l ZZ 7 D vwCl cs tS 155 sm_155_0 := zf_fin1 (DS := 5) (dp := 1) (fuel := 200000) (q := [(10, sm_10_0)]) (il := [4, 7, 175]) (anns := an_155_0) (pcs := []) (cand := fun _ _ => an_155_0) (sp := (fun _ => [])) hGl gok_155 (by decide) (List.forall_mem_cons.mpr ⟨ab_SOK_mono (sok_10_0 hGl) (by decide), (fun _ h => absurd h List.not_mem_nil)⟩) (List.forall_mem_cons.mpr ⟨gok_4, (List.forall_mem_cons.mpr ⟨gok_7, (List.forall_mem_cons.mpr ⟨gok_175, (fun _ h => absurd h List.not_mem_nil)⟩)⟩)⟩) (fun _ _ _ h => h) (by decide +kernel) (by decide +kernel)
-- SandFlags.sure
def sm_156_0 : ab_Sm := ([tR 0, tF], th_117, [([], some (tM 0 1), th_116)], [1, 87, 91, 92, 93, 94, 95, 96, 97, 98, 99, 100, 6574, 6575, 6576])
def an_156_0 : List ab_An := []
theorem sok_156_0 {l : Launch} {D : va_G} {cs : Nat → ClassId} {tS : Nat} (hGl : ab_Gl l ZZ wFF D vwCl cs tS) : ab_SOK l ZZ 8 D vwCl cs tS 156 sm_156_0 := zf_fin1 (DS := 6) (dp := 1) (fuel := 200000) (q := [(8, sm_8_0)]) (il := [4, 175]) (anns := an_156_0) (pcs := []) (cand := fun _ _ => an_156_0) (sp := (fun _ => [])) hGl gok_156 (by decide) (List.forall_mem_cons.mpr ⟨ab_SOK_mono (sok_8_0 hGl) (by decide), (fun _ h => absurd h List.not_mem_nil)⟩) (List.forall_mem_cons.mpr ⟨gok_4, (List.forall_mem_cons.mpr ⟨gok_175, (fun _ h => absurd h List.not_mem_nil)⟩)⟩) (fun _ _ _ h => h) (by decide +kernel) (by decide +kernel)
def th_118 : ab_TH := [(1, ci_1), (101, tc_16), (102, ci_102), (103, ci_103), (104, ci_104), (105, ci_105), (106, ci_106)]
def tc_85 : ab_TC := (10, 12, .inr (.inr (.inr (.inr [tR 1, none, none, none, none, none, none, none, tR 101, none, none, none]))))
def th_119 : ab_TH := [(0, tc_85), (1, ci_1), (101, ci_101), (102, ci_102), (103, ci_103), (104, ci_104), (105, ci_105), (106, ci_106)]
-- SandFlags.report
def sm_157_0 : ab_Sm := ([tR 0, tF, tF, tF], th_119, [([], some (tM 5 39), th_118)], [1, 101, 102, 103, 104, 105, 106, 7469])
def an_157_0 : List ab_An := []
theorem sok_157_0 {l : Launch} {D : va_G} {cs : Nat → ClassId} {tS : Nat} (hGl : ab_Gl l ZZ wFF D vwCl cs tS) : ab_SOK l ZZ 6 D vwCl cs tS 157 sm_157_0 := zf_fin1 (DS := 4) (dp := 1) (fuel := 200000) (q := [(29, sm_29_0)]) (il := [28, 167, 168, 172, 175]) (anns := an_157_0) (pcs := []) (cand := fun _ _ => an_157_0) (sp := (fun _ => [])) hGl gok_157 (by decide) (List.forall_mem_cons.mpr ⟨ab_SOK_mono (sok_29_0 hGl) (by decide), (fun _ h => absurd h List.not_mem_nil)⟩) (List.forall_mem_cons.mpr ⟨gok_28, (List.forall_mem_cons.mpr ⟨gok_167, (List.forall_mem_cons.mpr ⟨gok_168, (List.forall_mem_cons.mpr ⟨gok_172, (List.forall_mem_cons.mpr ⟨gok_175, (fun _ h => absurd h List.not_mem_nil)⟩)⟩)⟩)⟩)⟩) (fun _ _ _ h => h) (by decide +kernel) (by decide +kernel)
def th_120 : ab_TH := [(0, tc_85), (1, ci_1), (101, tc_18), (102, ci_102), (105, ci_105)]
-- SandFlags.rescues
def sm_158_0 : ab_Sm := ([tR 0, tF], th_120, [([], some (tF), [(1, ci_1)])], [1])
def an_158_0 : List ab_An := []
theorem sok_158_0 {l : Launch} {D : va_G} {cs : Nat → ClassId} {tS : Nat} (hGl : ab_Gl l ZZ wFF D vwCl cs tS) : ab_SOK l ZZ 5 D vwCl cs tS 158 sm_158_0 := zf_fin1 (DS := 3) (dp := 1) (fuel := 200000) (q := [(33, sm_33_0)]) (il := [167, 175]) (anns := an_158_0) (pcs := []) (cand := fun _ _ => an_158_0) (sp := (fun _ => [])) hGl gok_158 (by decide) (List.forall_mem_cons.mpr ⟨ab_SOK_mono (sok_33_0 hGl) (by decide), (fun _ h => absurd h List.not_mem_nil)⟩) (List.forall_mem_cons.mpr ⟨gok_167, (List.forall_mem_cons.mpr ⟨gok_175, (fun _ h => absurd h List.not_mem_nil)⟩)⟩) (fun _ _ _ h => h) (by decide +kernel) (by decide +kernel)
def th_121 : ab_TH := [(0, tc_85), (1, ci_1), (101, tc_19), (102, ci_102), (105, ci_105), (106, ci_106)]
-- SandFlags.rescue
def sm_159_0 : ab_Sm := ([tR 0, tF, tF], th_121, [([], some (tF), [(1, ci_1)])], [1])
def an_159_0 : List ab_An := []
theorem sok_159_0 {l : Launch} {D : va_G} {cs : Nat → ClassId} {tS : Nat} (hGl : ab_Gl l ZZ wFF D vwCl cs tS) : ab_SOK l ZZ 7 D vwCl cs tS 159 sm_159_0 := zf_fin1 (DS := 5) (dp := 1) (fuel := 200000) (q := [(34, sm_34_0)]) (il := [167, 175]) (anns := an_159_0) (pcs := []) (cand := fun _ _ => an_159_0) (sp := (fun _ => [])) hGl gok_159 (by decide) (List.forall_mem_cons.mpr ⟨ab_SOK_mono (sok_34_0 hGl) (by decide), (fun _ h => absurd h List.not_mem_nil)⟩) (List.forall_mem_cons.mpr ⟨gok_167, (List.forall_mem_cons.mpr ⟨gok_175, (fun _ h => absurd h List.not_mem_nil)⟩)⟩) (fun _ _ _ h => h) (by decide +kernel) (by decide +kernel)
def tc_86 : ab_TC := (5, 6, .inr (.inr (.inr (.inr [none, none, none, none, none, tN 0 20]))))
def th_122 : ab_TH := [(1, ci_1), (107, tc_86), (108, ci_108), (109, ci_109), (110, ci_110), (111, ci_111), (112, ci_112)]
def tc_87 : ab_TC := (10, 12, .inr (.inr (.inr (.inr [tR 1, none, none, none, none, none, none, none, none, tR 107, none, tF]))))
def th_123 : ab_TH := [(0, tc_87), (1, ci_1), (107, ci_107), (108, ci_108), (109, ci_109), (110, ci_110), (111, ci_111), (112, ci_112)]
-- SandFlags.rule
def sm_160_0 : ab_Sm := ([tR 0, tF, tF, tF, tF, tF], th_123, [([], some (tM 5 19), th_122)], [1, 107, 108, 109, 110, 111, 112, 7853])
def an_160_0 : List ab_An := []
theorem sok_160_0 {l : Launch} {D : va_G} {cs : Nat → ClassId} {tS : Nat} (hGl : ab_Gl l ZZ wFF D vwCl cs tS) : ab_SOK l ZZ 3 D vwCl cs tS 160 sm_160_0 := zf_fin1 (DS := 1) (dp := 1) (fuel := 200000) (q := []) (il := [62, 63, 172, 173, 175]) (anns := an_160_0) (pcs := []) (cand := fun _ _ => an_160_0) (sp := (fun _ => [])) hGl gok_160 (by decide) (fun _ h => absurd h List.not_mem_nil) (List.forall_mem_cons.mpr ⟨gok_62, (List.forall_mem_cons.mpr ⟨gok_63, (List.forall_mem_cons.mpr ⟨gok_172, (List.forall_mem_cons.mpr ⟨gok_173, (List.forall_mem_cons.mpr ⟨gok_175, (fun _ h => absurd h List.not_mem_nil)⟩)⟩)⟩)⟩)⟩) (fun _ _ _ h => h) (by decide +kernel) (by decide +kernel)
end
