noncomputable section
def tc_1747 : ab_TC := (11, 68, .inr (.inr (.inr (.inr [tF, none, none, none, none, none, none, none, none, none, none, none, none, none, none, none, none, none, none, none, none, none, none, none, none, none, none, none, none, none, none, none, none, none, none, none, none, none, none, none, none, tN 10 10, none, none, none, none, none, none, none, none, none, none, none, none, none, none, none, none, none, none, none, none, none, none, none, none, none, none]))))
def th_2522 : ab_TH := [(119, tc_1747), (126, ci_126), (144, tc_1651), (145, ci_145)]
def tc_1748 : ab_TC := (11, 68, .inr (.inr (.inr (.inr [tF, none, none, none, none, none, none, none, none, tR 126, none, none, none, none, none, none, none, none, none, none, none, none, none, none, none, none, none, none, none, none, none, none, none, none, none, none, none, none, none, tR 144, tR 145, tN 9 9, tN 0 4, tN 0 4, tN 0 4, none, none, none, none, none, none, none, none, none, none, none, none, none, none, none, none, none, none, none, none, none, none, none]))))
def th_2523 : ab_TH := [(119, tc_1748), (126, ci_126), (144, tc_1488), (145, ci_145)]
-- SandFlagsModel.drifts
def sm_230_9 : ab_Sm := ([tR 119], th_2523, [([], some (tQ 4 4), th_2278), ([], some (tN 10 10), th_2522)], [119, 126, 144, 145, 8616, 8657])
def an_230_9 : List ab_An := []
theorem sok_230_9 {l : Launch} {D : va_G} {cs : Nat → ClassId} {tS : Nat} (hGl : ab_Gl l ZZ wFF D vwCl cs tS) : ab_SOK l ZZ 4 D vwCl cs tS 230 sm_230_9 := zf_fin1 (DS := 2) (dp := 1) (fuel := 200000) (q := [(227, sm_227_10), (228, sm_228_10)]) (il := [181]) (anns := an_230_9) (pcs := []) (cand := fun _ _ => an_230_9) (sp := (fun _ => [])) hGl gok_230 (by decide) (List.forall_mem_cons.mpr ⟨ab_SOK_mono (sok_227_10 hGl) (by decide), (List.forall_mem_cons.mpr ⟨ab_SOK_mono (sok_228_10 hGl) (by decide), (fun _ h => absurd h List.not_mem_nil)⟩)⟩) (List.forall_mem_cons.mpr ⟨gok_181, (fun _ h => absurd h List.not_mem_nil)⟩) (fun _ _ _ h => h) (by decide +kernel) (by decide +kernel)
def th_2524 : ab_TH := [(119, tc_1747), (126, ci_126), (144, tc_1651)]
def tc_1749 : ab_TC := (11, 68, .inr (.inr (.inr (.inr [tF, none, none, none, none, none, none, none, none, tR 126, none, none, none, none, none, none, none, none, none, none, none, none, none, none, none, none, none, none, none, none, none, none, none, none, none, none, none, none, none, tR 144, none, tN 9 9, none, none, none, none, none, none, none, none, none, none, none, none, none, none, none, none, none, none, none, none, none, none, none, none, none, none]))))
def th_2525 : ab_TH := [(119, tc_1749), (126, ci_126), (144, tc_1488)]
-- SandFlagsModel.look
def sm_231_9 : ab_Sm := ([tR 119, tF, tF], th_2525, [([], some (tQ 5 0), th_2280), ([none, some (.ofNat 0, .ofNat 31), some (.ofNat 1, .ofNat 8)], some (tN 10 10), th_2524)], [119, 126, 144, 8616, 8657])
def an_231_9 : List ab_An := []
theorem sok_231_9 {l : Launch} {D : va_G} {cs : Nat → ClassId} {tS : Nat} (hGl : ab_Gl l ZZ wFF D vwCl cs tS) : ab_SOK l ZZ 5 D vwCl cs tS 231 sm_231_9 := zf_fin1 (DS := 2) (dp := 2) (fuel := 200000) (q := [(227, sm_227_10), (229, sm_229_10)]) (il := [180, 181, 224]) (anns := an_231_9) (pcs := []) (cand := fun _ _ => an_231_9) (sp := (fun _ => [])) hGl gok_231 (by decide) (List.forall_mem_cons.mpr ⟨ab_SOK_mono (sok_227_10 hGl) (by decide), (List.forall_mem_cons.mpr ⟨ab_SOK_mono (sok_229_10 hGl) (by decide), (fun _ h => absurd h List.not_mem_nil)⟩)⟩) (List.forall_mem_cons.mpr ⟨gok_180, (List.forall_mem_cons.mpr ⟨gok_181, (List.forall_mem_cons.mpr ⟨gok_224, (fun _ h => absurd h List.not_mem_nil)⟩)⟩)⟩) (fun _ _ _ h => h) (by decide +kernel) (by decide +kernel)
def th_2526 : ab_TH := [(119, tc_280), (144, tc_1488), (145, ci_145), (146, ci_146), (147, ci_147), (148, ci_148)]
def th_2527 : ab_TH := [(119, tc_281), (144, tc_1488), (145, ci_145), (146, ci_146), (147, ci_147), (148, ci_148)]
def th_2528 : ab_TH := [(119, tc_281), (144, ci_144), (145, ci_145), (146, tc_1488), (147, ci_147), (148, ci_148)]
def th_2529 : ab_TH := [(119, tc_281), (144, tc_180), (145, ci_145), (146, tc_1488), (147, ci_147), (148, ci_148)]
def tc_1750 : ab_TC := (1, 32, .inr (.inl (ab_rp 1 (.ofNat 0, .ofNat 5159780352000000) (ab_rp 31 (.negSucc 9223372036854775807, .ofNat 9223372036854775807) []))))
def th_2530 : ab_TH := [(119, tc_281), (144, tc_1750), (145, ci_145), (146, tc_1488), (147, ci_147), (148, ci_148)]
def tc_1751 : ab_TC := (1, 32, .inr (.inl (ab_rp 10 (.ofNat 0, .ofNat 5159780352000000) (ab_rp 22 (.negSucc 9223372036854775807, .ofNat 9223372036854775807) []))))
def th_2531 : ab_TH := [(119, tc_281), (144, tc_1751), (145, ci_145), (146, tc_1488), (147, ci_147), (148, ci_148)]
def tc_1752 : ab_TC := (1, 32, .inr (.inl (ab_rp 11 (.ofNat 0, .ofNat 5159780352000000) (ab_rp 21 (.negSucc 9223372036854775807, .ofNat 9223372036854775807) []))))
def th_2532 : ab_TH := [(119, tc_281), (144, tc_1752), (145, ci_145), (146, tc_1488), (147, ci_147), (148, ci_148)]
def tc_1753 : ab_TC := (1, 32, .inr (.inl (ab_rp 12 (.ofNat 0, .ofNat 5159780352000000) (ab_rp 20 (.negSucc 9223372036854775807, .ofNat 9223372036854775807) []))))
def th_2533 : ab_TH := [(119, tc_281), (144, tc_1753), (145, ci_145), (146, tc_1488), (147, ci_147), (148, ci_148)]
def tc_1754 : ab_TC := (1, 32, .inr (.inl (ab_rp 13 (.ofNat 0, .ofNat 5159780352000000) (ab_rp 19 (.negSucc 9223372036854775807, .ofNat 9223372036854775807) []))))
def th_2534 : ab_TH := [(119, tc_281), (144, tc_1754), (145, ci_145), (146, tc_1488), (147, ci_147), (148, ci_148)]
def tc_1755 : ab_TC := (1, 32, .inr (.inl (ab_rp 14 (.ofNat 0, .ofNat 5159780352000000) (ab_rp 18 (.negSucc 9223372036854775807, .ofNat 9223372036854775807) []))))
def th_2535 : ab_TH := [(119, tc_281), (144, tc_1755), (145, ci_145), (146, tc_1488), (147, ci_147), (148, ci_148)]
def tc_1756 : ab_TC := (1, 32, .inr (.inl (ab_rp 15 (.ofNat 0, .ofNat 5159780352000000) (ab_rp 17 (.negSucc 9223372036854775807, .ofNat 9223372036854775807) []))))
def th_2536 : ab_TH := [(119, tc_281), (144, tc_1756), (145, ci_145), (146, tc_1488), (147, ci_147), (148, ci_148)]
def tc_1757 : ab_TC := (1, 32, .inr (.inl (ab_rp 16 (.ofNat 0, .ofNat 5159780352000000) (ab_rp 16 (.negSucc 9223372036854775807, .ofNat 9223372036854775807) []))))
def th_2537 : ab_TH := [(119, tc_281), (144, tc_1757), (145, ci_145), (146, tc_1488), (147, ci_147), (148, ci_148)]
def tc_1758 : ab_TC := (1, 32, .inr (.inl (ab_rp 17 (.ofNat 0, .ofNat 5159780352000000) (ab_rp 15 (.negSucc 9223372036854775807, .ofNat 9223372036854775807) []))))
def th_2538 : ab_TH := [(119, tc_281), (144, tc_1758), (145, ci_145), (146, tc_1488), (147, ci_147), (148, ci_148)]
def tc_1759 : ab_TC := (1, 32, .inr (.inl (ab_rp 18 (.ofNat 0, .ofNat 5159780352000000) (ab_rp 14 (.negSucc 9223372036854775807, .ofNat 9223372036854775807) []))))
def th_2539 : ab_TH := [(119, tc_281), (144, tc_1759), (145, ci_145), (146, tc_1488), (147, ci_147), (148, ci_148)]
def tc_1760 : ab_TC := (1, 32, .inr (.inl (ab_rp 19 (.ofNat 0, .ofNat 5159780352000000) (ab_rp 13 (.negSucc 9223372036854775807, .ofNat 9223372036854775807) []))))
def th_2540 : ab_TH := [(119, tc_281), (144, tc_1760), (145, ci_145), (146, tc_1488), (147, ci_147), (148, ci_148)]
def tc_1761 : ab_TC := (1, 32, .inr (.inl (ab_rp 2 (.ofNat 0, .ofNat 5159780352000000) (ab_rp 30 (.negSucc 9223372036854775807, .ofNat 9223372036854775807) []))))
def th_2541 : ab_TH := [(119, tc_281), (144, tc_1761), (145, ci_145), (146, tc_1488), (147, ci_147), (148, ci_148)]
def tc_1762 : ab_TC := (1, 32, .inr (.inl (ab_rp 20 (.ofNat 0, .ofNat 5159780352000000) (ab_rp 12 (.negSucc 9223372036854775807, .ofNat 9223372036854775807) []))))
def th_2542 : ab_TH := [(119, tc_281), (144, tc_1762), (145, ci_145), (146, tc_1488), (147, ci_147), (148, ci_148)]
def tc_1763 : ab_TC := (1, 32, .inr (.inl (ab_rp 21 (.ofNat 0, .ofNat 5159780352000000) (ab_rp 11 (.negSucc 9223372036854775807, .ofNat 9223372036854775807) []))))
def th_2543 : ab_TH := [(119, tc_281), (144, tc_1763), (145, ci_145), (146, tc_1488), (147, ci_147), (148, ci_148)]
def tc_1764 : ab_TC := (1, 32, .inr (.inl (ab_rp 22 (.ofNat 0, .ofNat 5159780352000000) (ab_rp 10 (.negSucc 9223372036854775807, .ofNat 9223372036854775807) []))))
def th_2544 : ab_TH := [(119, tc_281), (144, tc_1764), (145, ci_145), (146, tc_1488), (147, ci_147), (148, ci_148)]
def tc_1765 : ab_TC := (1, 32, .inr (.inl (ab_rp 23 (.ofNat 0, .ofNat 5159780352000000) (ab_rp 9 (.negSucc 9223372036854775807, .ofNat 9223372036854775807) []))))
def th_2545 : ab_TH := [(119, tc_281), (144, tc_1765), (145, ci_145), (146, tc_1488), (147, ci_147), (148, ci_148)]
def tc_1766 : ab_TC := (1, 32, .inr (.inl (ab_rp 24 (.ofNat 0, .ofNat 5159780352000000) (ab_rp 8 (.negSucc 9223372036854775807, .ofNat 9223372036854775807) []))))
def th_2546 : ab_TH := [(119, tc_281), (144, tc_1766), (145, ci_145), (146, tc_1488), (147, ci_147), (148, ci_148)]
def tc_1767 : ab_TC := (1, 32, .inr (.inl (ab_rp 25 (.ofNat 0, .ofNat 5159780352000000) (ab_rp 7 (.negSucc 9223372036854775807, .ofNat 9223372036854775807) []))))
def th_2547 : ab_TH := [(119, tc_281), (144, tc_1767), (145, ci_145), (146, tc_1488), (147, ci_147), (148, ci_148)]
def tc_1768 : ab_TC := (1, 32, .inr (.inl (ab_rp 26 (.ofNat 0, .ofNat 5159780352000000) (ab_rp 6 (.negSucc 9223372036854775807, .ofNat 9223372036854775807) []))))
def th_2548 : ab_TH := [(119, tc_281), (144, tc_1768), (145, ci_145), (146, tc_1488), (147, ci_147), (148, ci_148)]
def tc_1769 : ab_TC := (1, 32, .inr (.inl (ab_rp 27 (.ofNat 0, .ofNat 5159780352000000) (ab_rp 5 (.negSucc 9223372036854775807, .ofNat 9223372036854775807) []))))
def th_2549 : ab_TH := [(119, tc_281), (144, tc_1769), (145, ci_145), (146, tc_1488), (147, ci_147), (148, ci_148)]
def tc_1770 : ab_TC := (1, 32, .inr (.inl (ab_rp 28 (.ofNat 0, .ofNat 5159780352000000) (ab_rp 4 (.negSucc 9223372036854775807, .ofNat 9223372036854775807) []))))
def th_2550 : ab_TH := [(119, tc_281), (144, tc_1770), (145, ci_145), (146, tc_1488), (147, ci_147), (148, ci_148)]
def tc_1771 : ab_TC := (1, 32, .inr (.inl (ab_rp 29 (.ofNat 0, .ofNat 5159780352000000) (ab_rp 3 (.negSucc 9223372036854775807, .ofNat 9223372036854775807) []))))
def th_2551 : ab_TH := [(119, tc_281), (144, tc_1771), (145, ci_145), (146, tc_1488), (147, ci_147), (148, ci_148)]
def tc_1772 : ab_TC := (1, 32, .inr (.inl (ab_rp 3 (.ofNat 0, .ofNat 5159780352000000) (ab_rp 29 (.negSucc 9223372036854775807, .ofNat 9223372036854775807) []))))
def th_2552 : ab_TH := [(119, tc_281), (144, tc_1772), (145, ci_145), (146, tc_1488), (147, ci_147), (148, ci_148)]
def tc_1773 : ab_TC := (1, 32, .inr (.inl (ab_rp 30 (.ofNat 0, .ofNat 5159780352000000) (ab_rp 2 (.negSucc 9223372036854775807, .ofNat 9223372036854775807) []))))
def th_2553 : ab_TH := [(119, tc_281), (144, tc_1773), (145, ci_145), (146, tc_1488), (147, ci_147), (148, ci_148)]
def tc_1774 : ab_TC := (1, 32, .inr (.inl (ab_rp 31 (.ofNat 0, .ofNat 5159780352000000) (ab_rp 1 (.negSucc 9223372036854775807, .ofNat 9223372036854775807) []))))
def th_2554 : ab_TH := [(119, tc_281), (144, tc_1774), (145, ci_145), (146, tc_1488), (147, ci_147), (148, ci_148)]
def th_2555 : ab_TH := [(119, tc_281), (144, tc_1489), (145, ci_145), (146, tc_1488), (147, ci_147), (148, ci_148)]
def tc_1775 : ab_TC := (1, 32, .inr (.inl (ab_rp 4 (.ofNat 0, .ofNat 5159780352000000) (ab_rp 28 (.negSucc 9223372036854775807, .ofNat 9223372036854775807) []))))
def th_2556 : ab_TH := [(119, tc_281), (144, tc_1775), (145, ci_145), (146, tc_1488), (147, ci_147), (148, ci_148)]
def tc_1776 : ab_TC := (1, 32, .inr (.inl (ab_rp 5 (.ofNat 0, .ofNat 5159780352000000) (ab_rp 27 (.negSucc 9223372036854775807, .ofNat 9223372036854775807) []))))
def th_2557 : ab_TH := [(119, tc_281), (144, tc_1776), (145, ci_145), (146, tc_1488), (147, ci_147), (148, ci_148)]
def tc_1777 : ab_TC := (1, 32, .inr (.inl (ab_rp 6 (.ofNat 0, .ofNat 5159780352000000) (ab_rp 26 (.negSucc 9223372036854775807, .ofNat 9223372036854775807) []))))
def th_2558 : ab_TH := [(119, tc_281), (144, tc_1777), (145, ci_145), (146, tc_1488), (147, ci_147), (148, ci_148)]
def tc_1778 : ab_TC := (1, 32, .inr (.inl (ab_rp 7 (.ofNat 0, .ofNat 5159780352000000) (ab_rp 25 (.negSucc 9223372036854775807, .ofNat 9223372036854775807) []))))
def th_2559 : ab_TH := [(119, tc_281), (144, tc_1778), (145, ci_145), (146, tc_1488), (147, ci_147), (148, ci_148)]
def tc_1779 : ab_TC := (1, 32, .inr (.inl (ab_rp 8 (.ofNat 0, .ofNat 5159780352000000) (ab_rp 24 (.negSucc 9223372036854775807, .ofNat 9223372036854775807) []))))
def th_2560 : ab_TH := [(119, tc_281), (144, tc_1779), (145, ci_145), (146, tc_1488), (147, ci_147), (148, ci_148)]
def tc_1780 : ab_TC := (1, 32, .inr (.inl (ab_rp 9 (.ofNat 0, .ofNat 5159780352000000) (ab_rp 23 (.negSucc 9223372036854775807, .ofNat 9223372036854775807) []))))
def th_2561 : ab_TH := [(119, tc_281), (144, tc_1780), (145, ci_145), (146, tc_1488), (147, ci_147), (148, ci_148)]
def th_2562 : ab_TH := [(119, tc_281), (144, tc_1488), (145, ci_145), (146, tc_180), (147, ci_147), (148, ci_148)]
def th_2563 : ab_TH := [(119, tc_281), (144, tc_1488), (145, ci_145), (146, tc_1750), (147, ci_147), (148, ci_148)]
def th_2564 : ab_TH := [(119, tc_281), (144, tc_1488), (145, ci_145), (146, tc_1751), (147, ci_147), (148, ci_148)]
def th_2565 : ab_TH := [(119, tc_281), (144, tc_1488), (145, ci_145), (146, tc_1752), (147, ci_147), (148, ci_148)]
def th_2566 : ab_TH := [(119, tc_281), (144, tc_1488), (145, ci_145), (146, tc_1753), (147, ci_147), (148, ci_148)]
def th_2567 : ab_TH := [(119, tc_281), (144, tc_1488), (145, ci_145), (146, tc_1754), (147, ci_147), (148, ci_148)]
def th_2568 : ab_TH := [(119, tc_281), (144, tc_1488), (145, ci_145), (146, tc_1755), (147, ci_147), (148, ci_148)]
def th_2569 : ab_TH := [(119, tc_281), (144, tc_1488), (145, ci_145), (146, tc_1756), (147, ci_147), (148, ci_148)]
def th_2570 : ab_TH := [(119, tc_281), (144, tc_1488), (145, ci_145), (146, tc_1757), (147, ci_147), (148, ci_148)]
def th_2571 : ab_TH := [(119, tc_281), (144, tc_1488), (145, ci_145), (146, tc_1758), (147, ci_147), (148, ci_148)]
def th_2572 : ab_TH := [(119, tc_281), (144, tc_1488), (145, ci_145), (146, tc_1759), (147, ci_147), (148, ci_148)]
def th_2573 : ab_TH := [(119, tc_281), (144, tc_1488), (145, ci_145), (146, tc_1760), (147, ci_147), (148, ci_148)]
def th_2574 : ab_TH := [(119, tc_281), (144, tc_1488), (145, ci_145), (146, tc_1761), (147, ci_147), (148, ci_148)]
def th_2575 : ab_TH := [(119, tc_281), (144, tc_1488), (145, ci_145), (146, tc_1762), (147, ci_147), (148, ci_148)]
def th_2576 : ab_TH := [(119, tc_281), (144, tc_1488), (145, ci_145), (146, tc_1763), (147, ci_147), (148, ci_148)]
def th_2577 : ab_TH := [(119, tc_281), (144, tc_1488), (145, ci_145), (146, tc_1764), (147, ci_147), (148, ci_148)]
def th_2578 : ab_TH := [(119, tc_281), (144, tc_1488), (145, ci_145), (146, tc_1765), (147, ci_147), (148, ci_148)]
def th_2579 : ab_TH := [(119, tc_281), (144, tc_1488), (145, ci_145), (146, tc_1766), (147, ci_147), (148, ci_148)]
def th_2580 : ab_TH := [(119, tc_281), (144, tc_1488), (145, ci_145), (146, tc_1767), (147, ci_147), (148, ci_148)]
def th_2581 : ab_TH := [(119, tc_281), (144, tc_1488), (145, ci_145), (146, tc_1768), (147, ci_147), (148, ci_148)]
def th_2582 : ab_TH := [(119, tc_281), (144, tc_1488), (145, ci_145), (146, tc_1769), (147, ci_147), (148, ci_148)]
def th_2583 : ab_TH := [(119, tc_281), (144, tc_1488), (145, ci_145), (146, tc_1770), (147, ci_147), (148, ci_148)]
def th_2584 : ab_TH := [(119, tc_281), (144, tc_1488), (145, ci_145), (146, tc_1771), (147, ci_147), (148, ci_148)]
def th_2585 : ab_TH := [(119, tc_281), (144, tc_1488), (145, ci_145), (146, tc_1772), (147, ci_147), (148, ci_148)]
def th_2586 : ab_TH := [(119, tc_281), (144, tc_1488), (145, ci_145), (146, tc_1773), (147, ci_147), (148, ci_148)]
def th_2587 : ab_TH := [(119, tc_281), (144, tc_1488), (145, ci_145), (146, tc_1774), (147, ci_147), (148, ci_148)]
def th_2588 : ab_TH := [(119, tc_281), (144, tc_1488), (145, ci_145), (146, tc_1489), (147, ci_147), (148, ci_148)]
def th_2589 : ab_TH := [(119, tc_281), (144, tc_1488), (145, ci_145), (146, tc_1775), (147, ci_147), (148, ci_148)]
def th_2590 : ab_TH := [(119, tc_281), (144, tc_1488), (145, ci_145), (146, tc_1776), (147, ci_147), (148, ci_148)]
def th_2591 : ab_TH := [(119, tc_281), (144, tc_1488), (145, ci_145), (146, tc_1777), (147, ci_147), (148, ci_148)]
def th_2592 : ab_TH := [(119, tc_281), (144, tc_1488), (145, ci_145), (146, tc_1778), (147, ci_147), (148, ci_148)]
def th_2593 : ab_TH := [(119, tc_281), (144, tc_1488), (145, ci_145), (146, tc_1779), (147, ci_147), (148, ci_148)]
def th_2594 : ab_TH := [(119, tc_281), (144, tc_1488), (145, ci_145), (146, tc_1780), (147, ci_147), (148, ci_148)]
def th_2595 : ab_TH := [(119, tc_281), (144, tc_1488), (145, ci_145), (146, tc_1488), (147, ci_147), (148, ci_148)]
-- SandFlagsModel.findLooks
def sm_235_9 : ab_Sm := ([tR 119, tN 1 3, tF], th_2527, [([], none, th_2526)], [119, 144, 145, 146, 147, 148, 8665, 8666])
def an_235_9_0 : ab_An := (129, [tR 119, tN 1 3, tF, tN 7 343, tN 0 349, tL 0 9223372036854775807, none, tN 0 3], [], th_2528, [], [(.ofNat 1, .ofNat 0, 0), (.ofNat 700, .negSucc 1, 4), (.ofNat 3, .negSucc 0, 7)])
def an_235_9_1 : ab_An := (164, [tR 119, tN 1 3, tF, tN 7 343, tN 0 0, none, none, none], [], th_2529, [], [(.ofNat 0, .ofNat 0, 0), (.ofNat 32, .negSucc 0, 4)])
def an_235_9_2 : ab_An := (164, [tR 119, tN 1 3, tF, tN 7 343, tN 1 1, none, none, none], [], th_2530, [], [(.ofNat 0, .ofNat 0, 0), (.ofNat 32, .negSucc 0, 4)])
def an_235_9_3 : ab_An := (164, [tR 119, tN 1 3, tF, tN 7 349, tN 10 10, none, none, none], [], th_2531, [], [(.ofNat 0, .ofNat 0, 0), (.ofNat 32, .negSucc 0, 4)])
def an_235_9_4 : ab_An := (164, [tR 119, tN 1 3, tF, tN 7 349, tN 11 11, none, none, none], [], th_2532, [], [(.ofNat 0, .ofNat 0, 0), (.ofNat 32, .negSucc 0, 4)])
def an_235_9_5 : ab_An := (164, [tR 119, tN 1 3, tF, tN 7 349, tN 12 12, none, none, none], [], th_2533, [], [(.ofNat 0, .ofNat 0, 0), (.ofNat 32, .negSucc 0, 4)])
def an_235_9_6 : ab_An := (164, [tR 119, tN 1 3, tF, tN 7 349, tN 13 13, none, none, none], [], th_2534, [], [(.ofNat 0, .ofNat 0, 0), (.ofNat 32, .negSucc 0, 4)])
def an_235_9_7 : ab_An := (164, [tR 119, tN 1 3, tF, tN 7 349, tN 14 14, none, none, none], [], th_2535, [], [(.ofNat 0, .ofNat 0, 0), (.ofNat 32, .negSucc 0, 4)])
def an_235_9_8 : ab_An := (164, [tR 119, tN 1 3, tF, tN 7 349, tN 15 15, none, none, none], [], th_2536, [], [(.ofNat 0, .ofNat 0, 0), (.ofNat 32, .negSucc 0, 4)])
def an_235_9_9 : ab_An := (164, [tR 119, tN 1 3, tF, tN 7 349, tN 16 16, none, none, none], [], th_2537, [], [(.ofNat 0, .ofNat 0, 0), (.ofNat 32, .negSucc 0, 4)])
def an_235_9_10 : ab_An := (164, [tR 119, tN 1 3, tF, tN 7 349, tN 17 17, none, none, none], [], th_2538, [], [(.ofNat 0, .ofNat 0, 0), (.ofNat 32, .negSucc 0, 4)])
def an_235_9_11 : ab_An := (164, [tR 119, tN 1 3, tF, tN 7 349, tN 18 18, none, none, none], [], th_2539, [], [(.ofNat 0, .ofNat 0, 0), (.ofNat 32, .negSucc 0, 4)])
def an_235_9_12 : ab_An := (164, [tR 119, tN 1 3, tF, tN 7 349, tN 19 19, none, none, none], [], th_2540, [], [(.ofNat 0, .ofNat 0, 0), (.ofNat 32, .negSucc 0, 4)])
def an_235_9_13 : ab_An := (164, [tR 119, tN 1 3, tF, tN 7 349, tN 2 2, none, none, none], [], th_2541, [], [(.ofNat 0, .ofNat 0, 0), (.ofNat 32, .negSucc 0, 4)])
def an_235_9_14 : ab_An := (164, [tR 119, tN 1 3, tF, tN 7 349, tN 20 20, none, none, none], [], th_2542, [], [(.ofNat 0, .ofNat 0, 0), (.ofNat 32, .negSucc 0, 4)])
def an_235_9_15 : ab_An := (164, [tR 119, tN 1 3, tF, tN 7 349, tN 21 21, none, none, none], [], th_2543, [], [(.ofNat 0, .ofNat 0, 0), (.ofNat 32, .negSucc 0, 4)])
def an_235_9_16 : ab_An := (164, [tR 119, tN 1 3, tF, tN 7 349, tN 22 22, none, none, none], [], th_2544, [], [(.ofNat 0, .ofNat 0, 0), (.ofNat 32, .negSucc 0, 4)])
def an_235_9_17 : ab_An := (164, [tR 119, tN 1 3, tF, tN 7 349, tN 23 23, none, none, none], [], th_2545, [], [(.ofNat 0, .ofNat 0, 0), (.ofNat 32, .negSucc 0, 4)])
def an_235_9_18 : ab_An := (164, [tR 119, tN 1 3, tF, tN 7 349, tN 24 24, none, none, none], [], th_2546, [], [(.ofNat 0, .ofNat 0, 0), (.ofNat 32, .negSucc 0, 4)])
def an_235_9_19 : ab_An := (164, [tR 119, tN 1 3, tF, tN 7 349, tN 25 25, none, none, none], [], th_2547, [], [(.ofNat 0, .ofNat 0, 0), (.ofNat 32, .negSucc 0, 4)])
def an_235_9_20 : ab_An := (164, [tR 119, tN 1 3, tF, tN 7 349, tN 26 26, none, none, none], [], th_2548, [], [(.ofNat 0, .ofNat 0, 0), (.ofNat 32, .negSucc 0, 4)])
def an_235_9_21 : ab_An := (164, [tR 119, tN 1 3, tF, tN 7 349, tN 27 27, none, none, none], [], th_2549, [], [(.ofNat 0, .ofNat 0, 0), (.ofNat 32, .negSucc 0, 4)])
def an_235_9_22 : ab_An := (164, [tR 119, tN 1 3, tF, tN 7 349, tN 28 28, none, none, none], [], th_2550, [], [(.ofNat 0, .ofNat 0, 0), (.ofNat 32, .negSucc 0, 4)])
def an_235_9_23 : ab_An := (164, [tR 119, tN 1 3, tF, tN 7 349, tN 29 29, none, none, none], [], th_2551, [], [(.ofNat 0, .ofNat 0, 0), (.ofNat 32, .negSucc 0, 4)])
def an_235_9_24 : ab_An := (164, [tR 119, tN 1 3, tF, tN 7 349, tN 3 3, none, none, none], [], th_2552, [], [(.ofNat 0, .ofNat 0, 0), (.ofNat 32, .negSucc 0, 4)])
def an_235_9_25 : ab_An := (164, [tR 119, tN 1 3, tF, tN 7 349, tN 30 30, none, none, none], [], th_2553, [], [(.ofNat 0, .ofNat 0, 0), (.ofNat 32, .negSucc 0, 4)])
def an_235_9_26 : ab_An := (164, [tR 119, tN 1 3, tF, tN 7 349, tN 31 31, none, none, none], [], th_2554, [], [(.ofNat 0, .ofNat 0, 0), (.ofNat 32, .negSucc 0, 4)])
def an_235_9_27 : ab_An := (164, [tR 119, tN 1 3, tF, tN 7 349, tN 32 32, none, none, none], [], th_2555, [], [(.ofNat 0, .ofNat 0, 0), (.ofNat 32, .negSucc 0, 4)])
def an_235_9_28 : ab_An := (164, [tR 119, tN 1 3, tF, tN 7 349, tN 4 4, none, none, none], [], th_2556, [], [(.ofNat 0, .ofNat 0, 0), (.ofNat 32, .negSucc 0, 4)])
def an_235_9_29 : ab_An := (164, [tR 119, tN 1 3, tF, tN 7 349, tN 5 5, none, none, none], [], th_2557, [], [(.ofNat 0, .ofNat 0, 0), (.ofNat 32, .negSucc 0, 4)])
def an_235_9_30 : ab_An := (164, [tR 119, tN 1 3, tF, tN 7 349, tN 6 6, none, none, none], [], th_2558, [], [(.ofNat 0, .ofNat 0, 0), (.ofNat 32, .negSucc 0, 4)])
def an_235_9_31 : ab_An := (164, [tR 119, tN 1 3, tF, tN 7 349, tN 7 7, none, none, none], [], th_2559, [], [(.ofNat 0, .ofNat 0, 0), (.ofNat 32, .negSucc 0, 4)])
def an_235_9_32 : ab_An := (164, [tR 119, tN 1 3, tF, tN 7 349, tN 8 8, none, none, none], [], th_2560, [], [(.ofNat 0, .ofNat 0, 0), (.ofNat 32, .negSucc 0, 4)])
def an_235_9_33 : ab_An := (164, [tR 119, tN 1 3, tF, tN 7 349, tN 9 9, none, none, none], [], th_2561, [], [(.ofNat 0, .ofNat 0, 0), (.ofNat 32, .negSucc 0, 4)])
def an_235_9_34 : ab_An := (2, [tR 119, tN 1 3, tF, tN 0 0, none, none, none, none], [], th_2562, [], [(.ofNat 3, .ofNat 0, 0), (.ofNat 32, .negSucc 0, 3)])
def an_235_9_35 : ab_An := (2, [tR 119, tN 1 3, tF, tN 1 1, none, none, none, none], [], th_2563, [], [(.ofNat 3, .ofNat 0, 0), (.ofNat 32, .negSucc 0, 3)])
def an_235_9_36 : ab_An := (2, [tR 119, tN 1 3, tF, tN 10 10, none, none, none, none], [], th_2564, [], [(.ofNat 3, .ofNat 0, 0), (.ofNat 32, .negSucc 0, 3)])
def an_235_9_37 : ab_An := (2, [tR 119, tN 1 3, tF, tN 11 11, none, none, none, none], [], th_2565, [], [(.ofNat 3, .ofNat 0, 0), (.ofNat 32, .negSucc 0, 3)])
def an_235_9_38 : ab_An := (2, [tR 119, tN 1 3, tF, tN 12 12, none, none, none, none], [], th_2566, [], [(.ofNat 3, .ofNat 0, 0), (.ofNat 32, .negSucc 0, 3)])
def an_235_9_39 : ab_An := (2, [tR 119, tN 1 3, tF, tN 13 13, none, none, none, none], [], th_2567, [], [(.ofNat 3, .ofNat 0, 0), (.ofNat 32, .negSucc 0, 3)])
def an_235_9_40 : ab_An := (2, [tR 119, tN 1 3, tF, tN 14 14, none, none, none, none], [], th_2568, [], [(.ofNat 3, .ofNat 0, 0), (.ofNat 32, .negSucc 0, 3)])
def an_235_9_41 : ab_An := (2, [tR 119, tN 1 3, tF, tN 15 15, none, none, none, none], [], th_2569, [], [(.ofNat 3, .ofNat 0, 0), (.ofNat 32, .negSucc 0, 3)])
def an_235_9_42 : ab_An := (2, [tR 119, tN 1 3, tF, tN 16 16, none, none, none, none], [], th_2570, [], [(.ofNat 3, .ofNat 0, 0), (.ofNat 32, .negSucc 0, 3)])
def an_235_9_43 : ab_An := (2, [tR 119, tN 1 3, tF, tN 17 17, none, none, none, none], [], th_2571, [], [(.ofNat 3, .ofNat 0, 0), (.ofNat 32, .negSucc 0, 3)])
def an_235_9_44 : ab_An := (2, [tR 119, tN 1 3, tF, tN 18 18, none, none, none, none], [], th_2572, [], [(.ofNat 3, .ofNat 0, 0), (.ofNat 32, .negSucc 0, 3)])
def an_235_9_45 : ab_An := (2, [tR 119, tN 1 3, tF, tN 19 19, none, none, none, none], [], th_2573, [], [(.ofNat 3, .ofNat 0, 0), (.ofNat 32, .negSucc 0, 3)])
def an_235_9_46 : ab_An := (2, [tR 119, tN 1 3, tF, tN 2 2, none, none, none, none], [], th_2574, [], [(.ofNat 3, .ofNat 0, 0), (.ofNat 32, .negSucc 0, 3)])
def an_235_9_47 : ab_An := (2, [tR 119, tN 1 3, tF, tN 20 20, none, none, none, none], [], th_2575, [], [(.ofNat 3, .ofNat 0, 0), (.ofNat 32, .negSucc 0, 3)])
def an_235_9_48 : ab_An := (2, [tR 119, tN 1 3, tF, tN 21 21, none, none, none, none], [], th_2576, [], [(.ofNat 3, .ofNat 0, 0), (.ofNat 32, .negSucc 0, 3)])
def an_235_9_49 : ab_An := (2, [tR 119, tN 1 3, tF, tN 22 22, none, none, none, none], [], th_2577, [], [(.ofNat 3, .ofNat 0, 0), (.ofNat 32, .negSucc 0, 3)])
def an_235_9_50 : ab_An := (2, [tR 119, tN 1 3, tF, tN 23 23, none, none, none, none], [], th_2578, [], [(.ofNat 3, .ofNat 0, 0), (.ofNat 32, .negSucc 0, 3)])
def an_235_9_51 : ab_An := (2, [tR 119, tN 1 3, tF, tN 24 24, none, none, none, none], [], th_2579, [], [(.ofNat 3, .ofNat 0, 0), (.ofNat 32, .negSucc 0, 3)])
def an_235_9_52 : ab_An := (2, [tR 119, tN 1 3, tF, tN 25 25, none, none, none, none], [], th_2580, [], [(.ofNat 3, .ofNat 0, 0), (.ofNat 32, .negSucc 0, 3)])
def an_235_9_53 : ab_An := (2, [tR 119, tN 1 3, tF, tN 26 26, none, none, none, none], [], th_2581, [], [(.ofNat 3, .ofNat 0, 0), (.ofNat 32, .negSucc 0, 3)])
def an_235_9_54 : ab_An := (2, [tR 119, tN 1 3, tF, tN 27 27, none, none, none, none], [], th_2582, [], [(.ofNat 3, .ofNat 0, 0), (.ofNat 32, .negSucc 0, 3)])
def an_235_9_55 : ab_An := (2, [tR 119, tN 1 3, tF, tN 28 28, none, none, none, none], [], th_2583, [], [(.ofNat 3, .ofNat 0, 0), (.ofNat 32, .negSucc 0, 3)])
def an_235_9_56 : ab_An := (2, [tR 119, tN 1 3, tF, tN 29 29, none, none, none, none], [], th_2584, [], [(.ofNat 3, .ofNat 0, 0), (.ofNat 32, .negSucc 0, 3)])
def an_235_9_57 : ab_An := (2, [tR 119, tN 1 3, tF, tN 3 3, none, none, none, none], [], th_2585, [], [(.ofNat 3, .ofNat 0, 0), (.ofNat 32, .negSucc 0, 3)])
def an_235_9_58 : ab_An := (2, [tR 119, tN 1 3, tF, tN 30 30, none, none, none, none], [], th_2586, [], [(.ofNat 3, .ofNat 0, 0), (.ofNat 32, .negSucc 0, 3)])
def an_235_9_59 : ab_An := (2, [tR 119, tN 1 3, tF, tN 31 31, none, none, none, none], [], th_2587, [], [(.ofNat 3, .ofNat 0, 0), (.ofNat 32, .negSucc 0, 3)])
def an_235_9_60 : ab_An := (2, [tR 119, tN 1 3, tF, tN 32 32, none, none, none, none], [], th_2588, [], [(.ofNat 3, .ofNat 0, 0), (.ofNat 32, .negSucc 0, 3)])
def an_235_9_61 : ab_An := (2, [tR 119, tN 1 3, tF, tN 4 4, none, none, none, none], [], th_2589, [], [(.ofNat 3, .ofNat 0, 0), (.ofNat 32, .negSucc 0, 3)])
def an_235_9_62 : ab_An := (2, [tR 119, tN 1 3, tF, tN 5 5, none, none, none, none], [], th_2590, [], [(.ofNat 3, .ofNat 0, 0), (.ofNat 32, .negSucc 0, 3)])
def an_235_9_63 : ab_An := (2, [tR 119, tN 1 3, tF, tN 6 6, none, none, none, none], [], th_2591, [], [(.ofNat 3, .ofNat 0, 0), (.ofNat 32, .negSucc 0, 3)])
def an_235_9_64 : ab_An := (2, [tR 119, tN 1 3, tF, tN 7 7, none, none, none, none], [], th_2592, [], [(.ofNat 3, .ofNat 0, 0), (.ofNat 32, .negSucc 0, 3)])
def an_235_9_65 : ab_An := (2, [tR 119, tN 1 3, tF, tN 8 8, none, none, none, none], [], th_2593, [], [(.ofNat 3, .ofNat 0, 0), (.ofNat 32, .negSucc 0, 3)])
def an_235_9_66 : ab_An := (2, [tR 119, tN 1 3, tF, tN 9 9, none, none, none, none], [], th_2594, [], [(.ofNat 3, .ofNat 0, 0), (.ofNat 32, .negSucc 0, 3)])
def an_235_9_67 : ab_An := (39, [tR 119, tN 1 3, tF, tN 1 1, tN 0 0, none, none, none], [], th_2595, [], [(.ofNat 2, .ofNat 0, 0), (.ofNat 3, .negSucc 0, 4)])
def an_235_9_68 : ab_An := (39, [tR 119, tN 3 3, tF, tN 343 343, tN 3 3, none, none, none], [], th_2595, [], [(.ofNat 2, .ofNat 0, 0), (.ofNat 3, .negSucc 0, 4)])
def an_235_9_69 : ab_An := (39, [tR 119, tN 2 3, tF, tN 49 49, tN 2 2, none, none, none], [], th_2595, [], [(.ofNat 2, .ofNat 0, 0), (.ofNat 3, .negSucc 0, 4)])
def an_235_9_70 : ab_An := (39, [tR 119, tN 1 3, tF, tN 7 7, tN 1 1, none, none, none], [], th_2595, [], [(.ofNat 2, .ofNat 0, 0), (.ofNat 3, .negSucc 0, 4)])
def an_235_9_71 : ab_An := (78, [tR 119, tN 1 3, tF, tN 7 343, tN 0 350, none, none, none], [], th_2528, [], [(.ofNat 1, .ofNat 0, 0), (.ofNat 701, .negSucc 1, 4)])
def al_235_9_0 : List ab_An := [an_235_9_0, an_235_9_1, an_235_9_2, an_235_9_3, an_235_9_4, an_235_9_5, an_235_9_6, an_235_9_7, an_235_9_8, an_235_9_9, an_235_9_10, an_235_9_11, an_235_9_12, an_235_9_13, an_235_9_14, an_235_9_15, an_235_9_16]
def al_235_9_1 : List ab_An := [an_235_9_17, an_235_9_18, an_235_9_19, an_235_9_20, an_235_9_21, an_235_9_22, an_235_9_23, an_235_9_24, an_235_9_25, an_235_9_26, an_235_9_27, an_235_9_28, an_235_9_29, an_235_9_30, an_235_9_31, an_235_9_32, an_235_9_33]
def al_235_9_2 : List ab_An := [an_235_9_34, an_235_9_35, an_235_9_36, an_235_9_37, an_235_9_38, an_235_9_39, an_235_9_40, an_235_9_41, an_235_9_42, an_235_9_43, an_235_9_44, an_235_9_45, an_235_9_46, an_235_9_47, an_235_9_48, an_235_9_49, an_235_9_50]
def al_235_9_3 : List ab_An := [an_235_9_51, an_235_9_52, an_235_9_53, an_235_9_54, an_235_9_55, an_235_9_56, an_235_9_57, an_235_9_58, an_235_9_59, an_235_9_60, an_235_9_61, an_235_9_62, an_235_9_63, an_235_9_64, an_235_9_65, an_235_9_66, an_235_9_67]
def al_235_9_4 : List ab_An := [an_235_9_68, an_235_9_69, an_235_9_70, an_235_9_71]
def an_235_9 : List ab_An := al_235_9_0 ++ (al_235_9_1 ++ (al_235_9_2 ++ (al_235_9_3 ++ (al_235_9_4))))
def ar_235_9 : List (Nat × Int × Int × ab_An) := [(129, .ofNat 1, .ofNat 3, an_235_9_0), (164, .ofNat 0, .ofNat 0, an_235_9_1), (164, .ofNat 1, .ofNat 1, an_235_9_2), (164, .ofNat 10, .ofNat 10, an_235_9_3), (164, .ofNat 11, .ofNat 11, an_235_9_4), (164, .ofNat 12, .ofNat 12, an_235_9_5), (164, .ofNat 13, .ofNat 13, an_235_9_6), (164, .ofNat 14, .ofNat 14, an_235_9_7), (164, .ofNat 15, .ofNat 15, an_235_9_8), (164, .ofNat 16, .ofNat 16, an_235_9_9), (164, .ofNat 17, .ofNat 17, an_235_9_10), (164, .ofNat 18, .ofNat 18, an_235_9_11), (164, .ofNat 19, .ofNat 19, an_235_9_12), (164, .ofNat 2, .ofNat 2, an_235_9_13), (164, .ofNat 20, .ofNat 20, an_235_9_14), (164, .ofNat 21, .ofNat 21, an_235_9_15), (164, .ofNat 22, .ofNat 22, an_235_9_16), (164, .ofNat 23, .ofNat 23, an_235_9_17), (164, .ofNat 24, .ofNat 24, an_235_9_18), (164, .ofNat 25, .ofNat 25, an_235_9_19), (164, .ofNat 26, .ofNat 26, an_235_9_20), (164, .ofNat 27, .ofNat 27, an_235_9_21), (164, .ofNat 28, .ofNat 28, an_235_9_22), (164, .ofNat 29, .ofNat 29, an_235_9_23), (164, .ofNat 3, .ofNat 3, an_235_9_24), (164, .ofNat 30, .ofNat 30, an_235_9_25), (164, .ofNat 31, .ofNat 31, an_235_9_26), (164, .ofNat 32, .ofNat 32, an_235_9_27), (164, .ofNat 4, .ofNat 4, an_235_9_28), (164, .ofNat 5, .ofNat 5, an_235_9_29), (164, .ofNat 6, .ofNat 6, an_235_9_30), (164, .ofNat 7, .ofNat 7, an_235_9_31), (164, .ofNat 8, .ofNat 8, an_235_9_32), (164, .ofNat 9, .ofNat 9, an_235_9_33), (2, .ofNat 0, .ofNat 0, an_235_9_34), (2, .ofNat 1, .ofNat 1, an_235_9_35), (2, .ofNat 10, .ofNat 10, an_235_9_36), (2, .ofNat 11, .ofNat 11, an_235_9_37), (2, .ofNat 12, .ofNat 12, an_235_9_38), (2, .ofNat 13, .ofNat 13, an_235_9_39), (2, .ofNat 14, .ofNat 14, an_235_9_40), (2, .ofNat 15, .ofNat 15, an_235_9_41), (2, .ofNat 16, .ofNat 16, an_235_9_42), (2, .ofNat 17, .ofNat 17, an_235_9_43), (2, .ofNat 18, .ofNat 18, an_235_9_44), (2, .ofNat 19, .ofNat 19, an_235_9_45), (2, .ofNat 2, .ofNat 2, an_235_9_46), (2, .ofNat 20, .ofNat 20, an_235_9_47), (2, .ofNat 21, .ofNat 21, an_235_9_48), (2, .ofNat 22, .ofNat 22, an_235_9_49), (2, .ofNat 23, .ofNat 23, an_235_9_50), (2, .ofNat 24, .ofNat 24, an_235_9_51), (2, .ofNat 25, .ofNat 25, an_235_9_52), (2, .ofNat 26, .ofNat 26, an_235_9_53), (2, .ofNat 27, .ofNat 27, an_235_9_54), (2, .ofNat 28, .ofNat 28, an_235_9_55), (2, .ofNat 29, .ofNat 29, an_235_9_56), (2, .ofNat 3, .ofNat 3, an_235_9_57), (2, .ofNat 30, .ofNat 30, an_235_9_58), (2, .ofNat 31, .ofNat 31, an_235_9_59), (2, .ofNat 32, .ofNat 32, an_235_9_60), (2, .ofNat 4, .ofNat 4, an_235_9_61), (2, .ofNat 5, .ofNat 5, an_235_9_62), (2, .ofNat 6, .ofNat 6, an_235_9_63), (2, .ofNat 7, .ofNat 7, an_235_9_64), (2, .ofNat 8, .ofNat 8, an_235_9_65), (2, .ofNat 9, .ofNat 9, an_235_9_66), (39, .ofNat 1, .ofNat 1, an_235_9_67), (39, .ofNat 343, .ofNat 343, an_235_9_68), (39, .ofNat 49, .ofNat 49, an_235_9_69), (39, .ofNat 7, .ofNat 7, an_235_9_70), (78, .ofNat 1, .ofNat 3, an_235_9_71)]
def ai_235_9 (pc : Nat) : Nat := bif Nat.beq pc 129 then 1 else bif Nat.beq pc 2 then 3 else bif Nat.beq pc 164 then 4 else bif Nat.beq pc 39 then 3 else bif Nat.beq pc 78 then 1 else 1000
def as_235_9 : Nat → List (Nat × Int) := (fun _ => [])
def ck_235_9 (a : ab_An) : Bool := zchk1 (BdF 235).1 (fun i => zdc i (BdF 235).2.1 MtF (zOO (ab_SLl [(227, sm_227_10), (234, sm_234_0)]) (fun k => ab_mem k []) BdF ZZ MtF (fun k => ab_mem k sm_235_9.2.2.2) 200000 0) (ZZ.2.2.1 235) (fun k => ab_mem k sm_235_9.2.2.2) (BdF 235).2.2) (ZZ.2.2.2.1 235) (ZZ.2.2.1 235) sm_235_9 [2, 39, 78, 129, 164] (ab_cd ai_235_9 ar_235_9) as_235_9 200000 a
theorem ct_235_9_0 : ∀ a ∈ al_235_9_0, ck_235_9 a = true := List.all_eq_true.mp (by decide +kernel)
theorem ct_235_9_1 : ∀ a ∈ al_235_9_1, ck_235_9 a = true := List.all_eq_true.mp (by decide +kernel)
theorem ct_235_9_2 : ∀ a ∈ al_235_9_2, ck_235_9 a = true := List.all_eq_true.mp (by decide +kernel)
theorem ct_235_9_3 : ∀ a ∈ al_235_9_3, ck_235_9 a = true := List.all_eq_true.mp (by decide +kernel)
theorem ct_235_9_4 : ∀ a ∈ al_235_9_4, ck_235_9 a = true := List.all_eq_true.mp (by decide +kernel)
theorem ca_235_9 : ∀ a ∈ an_235_9, ck_235_9 a = true := (List.forall_mem_append.mpr ⟨ct_235_9_0, (List.forall_mem_append.mpr ⟨ct_235_9_1, (List.forall_mem_append.mpr ⟨ct_235_9_2, (List.forall_mem_append.mpr ⟨ct_235_9_3, ct_235_9_4⟩)⟩)⟩)⟩)
theorem sok_235_9 {l : Launch} {D : va_G} {cs : Nat → ClassId} {tS : Nat} (hGl : ab_Gl l ZZ wFF D vwCl cs tS) : ab_SOK l ZZ 6 D vwCl cs tS 235 sm_235_9 := zf_fin2 (DS := 5) (dp := 0) (fuel := 200000) (q := [(227, sm_227_10), (234, sm_234_0)]) (il := []) (anns := an_235_9) (pcs := [2, 39, 78, 129, 164]) (cand := ab_cd ai_235_9 ar_235_9) (sp := as_235_9) hGl gok_235 (by decide) (List.forall_mem_cons.mpr ⟨ab_SOK_mono (sok_227_10 hGl) (by decide), (List.forall_mem_cons.mpr ⟨ab_SOK_mono (sok_234_0 hGl) (by decide), (fun _ h => absurd h List.not_mem_nil)⟩)⟩) (fun _ h => absurd h List.not_mem_nil) (ab_cd_mem rfl) (by decide +kernel) ca_235_9
-- SandFlagsModel.seek
def sm_237_9 : ab_Sm := ([tR 119, tF, tF, tF], th_2525, [([], some (tQ 5 3), th_183)], [119, 126, 8616])
def an_237_9 : List ab_An := []
theorem sok_237_9 {l : Launch} {D : va_G} {cs : Nat → ClassId} {tS : Nat} (hGl : ab_Gl l ZZ wFF D vwCl cs tS) : ab_SOK l ZZ 4 D vwCl cs tS 237 sm_237_9 := zf_fin1 (DS := 2) (dp := 1) (fuel := 200000) (q := [(227, sm_227_10)]) (il := [181, 236]) (anns := an_237_9) (pcs := []) (cand := fun _ _ => an_237_9) (sp := (fun _ => [])) hGl gok_237 (by decide) (List.forall_mem_cons.mpr ⟨ab_SOK_mono (sok_227_10 hGl) (by decide), (fun _ h => absurd h List.not_mem_nil)⟩) (List.forall_mem_cons.mpr ⟨gok_181, (List.forall_mem_cons.mpr ⟨gok_236, (fun _ h => absurd h List.not_mem_nil)⟩)⟩) (fun _ _ _ h => h) (by decide +kernel) (by decide +kernel)
def th_2596 : ab_TH := [(119, tc_132), (144, tc_1651)]
-- SandFlagsModel.allParts
def sm_227_11 : ab_Sm := ([tR 119], th_2596, [([], some (tL 0 1981355655168000000), [])], [])
def an_227_11_0 : ab_An := (4, [tR 119, tL 0 0, none, tN 0 0], [], th_2596, [], [(.ofNat 0, .ofNat 0, 0), (.ofNat 32, .negSucc 0, 3)])
def an_227_11_1 : ab_An := (4, [tR 119, tL 0 61917364224000000, none, tN 1 1], [], th_2596, [], [(.ofNat 0, .ofNat 0, 0), (.ofNat 32, .negSucc 0, 3)])
def an_227_11_2 : ab_An := (4, [tR 119, tL 0 619173642240000000, none, tN 10 10], [], th_2596, [], [(.ofNat 0, .ofNat 0, 0), (.ofNat 32, .negSucc 0, 3)])
def an_227_11_3 : ab_An := (4, [tR 119, tL 0 681091006464000000, none, tN 11 11], [], th_2596, [], [(.ofNat 0, .ofNat 0, 0), (.ofNat 32, .negSucc 0, 3)])
def an_227_11_4 : ab_An := (4, [tR 119, tL 0 743008370688000000, none, tN 12 12], [], th_2596, [], [(.ofNat 0, .ofNat 0, 0), (.ofNat 32, .negSucc 0, 3)])
def an_227_11_5 : ab_An := (4, [tR 119, tL 0 804925734912000000, none, tN 13 13], [], th_2596, [], [(.ofNat 0, .ofNat 0, 0), (.ofNat 32, .negSucc 0, 3)])
def an_227_11_6 : ab_An := (4, [tR 119, tL 0 866843099136000000, none, tN 14 14], [], th_2596, [], [(.ofNat 0, .ofNat 0, 0), (.ofNat 32, .negSucc 0, 3)])
def an_227_11_7 : ab_An := (4, [tR 119, tL 0 928760463360000000, none, tN 15 15], [], th_2596, [], [(.ofNat 0, .ofNat 0, 0), (.ofNat 32, .negSucc 0, 3)])
def an_227_11_8 : ab_An := (4, [tR 119, tL 0 990677827584000000, none, tN 16 16], [], th_2596, [], [(.ofNat 0, .ofNat 0, 0), (.ofNat 32, .negSucc 0, 3)])
def an_227_11_9 : ab_An := (4, [tR 119, tL 0 1052595191808000000, none, tN 17 17], [], th_2596, [], [(.ofNat 0, .ofNat 0, 0), (.ofNat 32, .negSucc 0, 3)])
def an_227_11_10 : ab_An := (4, [tR 119, tL 0 1114512556032000000, none, tN 18 18], [], th_2596, [], [(.ofNat 0, .ofNat 0, 0), (.ofNat 32, .negSucc 0, 3)])
def an_227_11_11 : ab_An := (4, [tR 119, tL 0 1176429920256000000, none, tN 19 19], [], th_2596, [], [(.ofNat 0, .ofNat 0, 0), (.ofNat 32, .negSucc 0, 3)])
def an_227_11_12 : ab_An := (4, [tR 119, tL 0 123834728448000000, none, tN 2 2], [], th_2596, [], [(.ofNat 0, .ofNat 0, 0), (.ofNat 32, .negSucc 0, 3)])
def an_227_11_13 : ab_An := (4, [tR 119, tL 0 1238347284480000000, none, tN 20 20], [], th_2596, [], [(.ofNat 0, .ofNat 0, 0), (.ofNat 32, .negSucc 0, 3)])
def an_227_11_14 : ab_An := (4, [tR 119, tL 0 1300264648704000000, none, tN 21 21], [], th_2596, [], [(.ofNat 0, .ofNat 0, 0), (.ofNat 32, .negSucc 0, 3)])
def an_227_11_15 : ab_An := (4, [tR 119, tL 0 1362182012928000000, none, tN 22 22], [], th_2596, [], [(.ofNat 0, .ofNat 0, 0), (.ofNat 32, .negSucc 0, 3)])
def an_227_11_16 : ab_An := (4, [tR 119, tL 0 1424099377152000000, none, tN 23 23], [], th_2596, [], [(.ofNat 0, .ofNat 0, 0), (.ofNat 32, .negSucc 0, 3)])
def an_227_11_17 : ab_An := (4, [tR 119, tL 0 1486016741376000000, none, tN 24 24], [], th_2596, [], [(.ofNat 0, .ofNat 0, 0), (.ofNat 32, .negSucc 0, 3)])
def an_227_11_18 : ab_An := (4, [tR 119, tL 0 1547934105600000000, none, tN 25 25], [], th_2596, [], [(.ofNat 0, .ofNat 0, 0), (.ofNat 32, .negSucc 0, 3)])
def an_227_11_19 : ab_An := (4, [tR 119, tL 0 1609851469824000000, none, tN 26 26], [], th_2596, [], [(.ofNat 0, .ofNat 0, 0), (.ofNat 32, .negSucc 0, 3)])
def an_227_11_20 : ab_An := (4, [tR 119, tL 0 1671768834048000000, none, tN 27 27], [], th_2596, [], [(.ofNat 0, .ofNat 0, 0), (.ofNat 32, .negSucc 0, 3)])
def an_227_11_21 : ab_An := (4, [tR 119, tL 0 1733686198272000000, none, tN 28 28], [], th_2596, [], [(.ofNat 0, .ofNat 0, 0), (.ofNat 32, .negSucc 0, 3)])
def an_227_11_22 : ab_An := (4, [tR 119, tL 0 1795603562496000000, none, tN 29 29], [], th_2596, [], [(.ofNat 0, .ofNat 0, 0), (.ofNat 32, .negSucc 0, 3)])
def an_227_11_23 : ab_An := (4, [tR 119, tL 0 185752092672000000, none, tN 3 3], [], th_2596, [], [(.ofNat 0, .ofNat 0, 0), (.ofNat 32, .negSucc 0, 3)])
def an_227_11_24 : ab_An := (4, [tR 119, tL 0 1857520926720000000, none, tN 30 30], [], th_2596, [], [(.ofNat 0, .ofNat 0, 0), (.ofNat 32, .negSucc 0, 3)])
def an_227_11_25 : ab_An := (4, [tR 119, tL 0 1919438290944000000, none, tN 31 31], [], th_2596, [], [(.ofNat 0, .ofNat 0, 0), (.ofNat 32, .negSucc 0, 3)])
def an_227_11_26 : ab_An := (4, [tR 119, tL 0 1981355655168000000, none, tN 32 32], [], th_2596, [], [(.ofNat 0, .ofNat 0, 0), (.ofNat 32, .negSucc 0, 3)])
def an_227_11_27 : ab_An := (4, [tR 119, tL 0 247669456896000000, none, tN 4 4], [], th_2596, [], [(.ofNat 0, .ofNat 0, 0), (.ofNat 32, .negSucc 0, 3)])
def an_227_11_28 : ab_An := (4, [tR 119, tL 0 309586821120000000, none, tN 5 5], [], th_2596, [], [(.ofNat 0, .ofNat 0, 0), (.ofNat 32, .negSucc 0, 3)])
def an_227_11_29 : ab_An := (4, [tR 119, tL 0 371504185344000000, none, tN 6 6], [], th_2596, [], [(.ofNat 0, .ofNat 0, 0), (.ofNat 32, .negSucc 0, 3)])
def an_227_11_30 : ab_An := (4, [tR 119, tL 0 433421549568000000, none, tN 7 7], [], th_2596, [], [(.ofNat 0, .ofNat 0, 0), (.ofNat 32, .negSucc 0, 3)])
def an_227_11_31 : ab_An := (4, [tR 119, tL 0 495338913792000000, none, tN 8 8], [], th_2596, [], [(.ofNat 0, .ofNat 0, 0), (.ofNat 32, .negSucc 0, 3)])
def an_227_11_32 : ab_An := (4, [tR 119, tL 0 557256278016000000, none, tN 9 9], [], th_2596, [], [(.ofNat 0, .ofNat 0, 0), (.ofNat 32, .negSucc 0, 3)])
def al_227_11_0 : List ab_An := [an_227_11_0, an_227_11_1, an_227_11_2, an_227_11_3, an_227_11_4, an_227_11_5, an_227_11_6, an_227_11_7, an_227_11_8, an_227_11_9, an_227_11_10, an_227_11_11, an_227_11_12, an_227_11_13, an_227_11_14, an_227_11_15, an_227_11_16, an_227_11_17, an_227_11_18, an_227_11_19, an_227_11_20]
def al_227_11_1 : List ab_An := [an_227_11_21, an_227_11_22, an_227_11_23, an_227_11_24, an_227_11_25, an_227_11_26, an_227_11_27, an_227_11_28, an_227_11_29, an_227_11_30, an_227_11_31, an_227_11_32]
def an_227_11 : List ab_An := al_227_11_0 ++ (al_227_11_1)
def ar_227_11 : List (Nat × Int × Int × ab_An) := [(4, .ofNat 0, .ofNat 0, an_227_11_0), (4, .ofNat 1, .ofNat 1, an_227_11_1), (4, .ofNat 10, .ofNat 10, an_227_11_2), (4, .ofNat 11, .ofNat 11, an_227_11_3), (4, .ofNat 12, .ofNat 12, an_227_11_4), (4, .ofNat 13, .ofNat 13, an_227_11_5), (4, .ofNat 14, .ofNat 14, an_227_11_6), (4, .ofNat 15, .ofNat 15, an_227_11_7), (4, .ofNat 16, .ofNat 16, an_227_11_8), (4, .ofNat 17, .ofNat 17, an_227_11_9), (4, .ofNat 18, .ofNat 18, an_227_11_10), (4, .ofNat 19, .ofNat 19, an_227_11_11), (4, .ofNat 2, .ofNat 2, an_227_11_12), (4, .ofNat 20, .ofNat 20, an_227_11_13), (4, .ofNat 21, .ofNat 21, an_227_11_14), (4, .ofNat 22, .ofNat 22, an_227_11_15), (4, .ofNat 23, .ofNat 23, an_227_11_16), (4, .ofNat 24, .ofNat 24, an_227_11_17), (4, .ofNat 25, .ofNat 25, an_227_11_18), (4, .ofNat 26, .ofNat 26, an_227_11_19), (4, .ofNat 27, .ofNat 27, an_227_11_20), (4, .ofNat 28, .ofNat 28, an_227_11_21), (4, .ofNat 29, .ofNat 29, an_227_11_22), (4, .ofNat 3, .ofNat 3, an_227_11_23), (4, .ofNat 30, .ofNat 30, an_227_11_24), (4, .ofNat 31, .ofNat 31, an_227_11_25), (4, .ofNat 32, .ofNat 32, an_227_11_26), (4, .ofNat 4, .ofNat 4, an_227_11_27), (4, .ofNat 5, .ofNat 5, an_227_11_28), (4, .ofNat 6, .ofNat 6, an_227_11_29), (4, .ofNat 7, .ofNat 7, an_227_11_30), (4, .ofNat 8, .ofNat 8, an_227_11_31), (4, .ofNat 9, .ofNat 9, an_227_11_32)]
def ai_227_11 (pc : Nat) : Nat := bif Nat.beq pc 4 then 3 else 1000
def as_227_11 : Nat → List (Nat × Int) := (fun _ => [])
def ck_227_11 (a : ab_An) : Bool := zchk1 (BdF 227).1 (fun i => zdc i (BdF 227).2.1 MtF (zOO (ab_SLl []) (fun k => ab_mem k []) BdF ZZ MtF (fun k => ab_mem k sm_227_11.2.2.2) 200000 0) (ZZ.2.2.1 227) (fun k => ab_mem k sm_227_11.2.2.2) (BdF 227).2.2) (ZZ.2.2.2.1 227) (ZZ.2.2.1 227) sm_227_11 [4] (ab_cd ai_227_11 ar_227_11) as_227_11 200000 a
theorem ct_227_11_0 : ∀ a ∈ al_227_11_0, ck_227_11 a = true := List.all_eq_true.mp (by decide +kernel)
theorem ct_227_11_1 : ∀ a ∈ al_227_11_1, ck_227_11 a = true := List.all_eq_true.mp (by decide +kernel)
theorem ca_227_11 : ∀ a ∈ an_227_11, ck_227_11 a = true := (List.forall_mem_append.mpr ⟨ct_227_11_0, ct_227_11_1⟩)
theorem sok_227_11 {l : Launch} {D : va_G} {cs : Nat → ClassId} {tS : Nat} (hGl : ab_Gl l ZZ wFF D vwCl cs tS) : ab_SOK l ZZ 2 D vwCl cs tS 227 sm_227_11 := zf_fin2 (DS := 1) (dp := 0) (fuel := 200000) (q := []) (il := []) (anns := an_227_11) (pcs := [4]) (cand := ab_cd ai_227_11 ar_227_11) (sp := as_227_11) hGl gok_227 (by decide) (fun _ h => absurd h List.not_mem_nil) (fun _ h => absurd h List.not_mem_nil) (ab_cd_mem rfl) (by decide +kernel) ca_227_11
def th_2597 : ab_TH := [(119, tc_1747), (126, ci_126), (143, ci_143), (144, tc_1651)]
def tc_1781 : ab_TC := (11, 68, .inr (.inr (.inr (.inr [tF, none, none, none, none, none, none, none, none, tR 126, none, none, none, none, none, none, none, none, none, none, none, none, none, none, none, none, none, none, none, none, none, none, none, none, none, none, none, none, tR 143, tR 144, none, tN 10 10, none, none, none, none, none, none, none, none, none, none, none, none, none, none, none, none, none, none, none, none, none, none, none, none, none, none]))))
def th_2598 : ab_TH := [(119, tc_1781), (126, ci_126), (143, ci_143), (144, tc_1651)]
def th_2599 : ab_TH := [(119, tc_1781), (126, ci_126), (143, ci_143), (144, tc_1652)]
def tc_1782 : ab_TC := (1, 32, .inr (.inl (ab_rp 1 (.ofNat 0, .ofNat 0) (ab_rp 31 (.ofNat 0, .ofNat 61917364224000000) []))))
def th_2600 : ab_TH := [(119, tc_1781), (126, ci_126), (143, ci_143), (144, tc_1782)]
def tc_1783 : ab_TC := (1, 32, .inr (.inl (ab_rp 10 (.ofNat 0, .ofNat 0) (ab_rp 22 (.ofNat 0, .ofNat 61917364224000000) []))))
def th_2601 : ab_TH := [(119, tc_1781), (126, ci_126), (143, ci_143), (144, tc_1783)]
def tc_1784 : ab_TC := (1, 32, .inr (.inl (ab_rp 11 (.ofNat 0, .ofNat 0) (ab_rp 21 (.ofNat 0, .ofNat 61917364224000000) []))))
def th_2602 : ab_TH := [(119, tc_1781), (126, ci_126), (143, ci_143), (144, tc_1784)]
def tc_1785 : ab_TC := (1, 32, .inr (.inl (ab_rp 12 (.ofNat 0, .ofNat 0) (ab_rp 20 (.ofNat 0, .ofNat 61917364224000000) []))))
def th_2603 : ab_TH := [(119, tc_1781), (126, ci_126), (143, ci_143), (144, tc_1785)]
def tc_1786 : ab_TC := (1, 32, .inr (.inl (ab_rp 13 (.ofNat 0, .ofNat 0) (ab_rp 19 (.ofNat 0, .ofNat 61917364224000000) []))))
def th_2604 : ab_TH := [(119, tc_1781), (126, ci_126), (143, ci_143), (144, tc_1786)]
def tc_1787 : ab_TC := (1, 32, .inr (.inl (ab_rp 14 (.ofNat 0, .ofNat 0) (ab_rp 18 (.ofNat 0, .ofNat 61917364224000000) []))))
def th_2605 : ab_TH := [(119, tc_1781), (126, ci_126), (143, ci_143), (144, tc_1787)]
def tc_1788 : ab_TC := (1, 32, .inr (.inl (ab_rp 15 (.ofNat 0, .ofNat 0) (ab_rp 17 (.ofNat 0, .ofNat 61917364224000000) []))))
def th_2606 : ab_TH := [(119, tc_1781), (126, ci_126), (143, ci_143), (144, tc_1788)]
def tc_1789 : ab_TC := (1, 32, .inr (.inl (ab_rp 16 (.ofNat 0, .ofNat 0) (ab_rp 16 (.ofNat 0, .ofNat 61917364224000000) []))))
def th_2607 : ab_TH := [(119, tc_1781), (126, ci_126), (143, ci_143), (144, tc_1789)]
def tc_1790 : ab_TC := (1, 32, .inr (.inl (ab_rp 17 (.ofNat 0, .ofNat 0) (ab_rp 15 (.ofNat 0, .ofNat 61917364224000000) []))))
def th_2608 : ab_TH := [(119, tc_1781), (126, ci_126), (143, ci_143), (144, tc_1790)]
def tc_1791 : ab_TC := (1, 32, .inr (.inl (ab_rp 18 (.ofNat 0, .ofNat 0) (ab_rp 14 (.ofNat 0, .ofNat 61917364224000000) []))))
def th_2609 : ab_TH := [(119, tc_1781), (126, ci_126), (143, ci_143), (144, tc_1791)]
def tc_1792 : ab_TC := (1, 32, .inr (.inl (ab_rp 19 (.ofNat 0, .ofNat 0) (ab_rp 13 (.ofNat 0, .ofNat 61917364224000000) []))))
def th_2610 : ab_TH := [(119, tc_1781), (126, ci_126), (143, ci_143), (144, tc_1792)]
def tc_1793 : ab_TC := (1, 32, .inr (.inl (ab_rp 2 (.ofNat 0, .ofNat 0) (ab_rp 30 (.ofNat 0, .ofNat 61917364224000000) []))))
def th_2611 : ab_TH := [(119, tc_1781), (126, ci_126), (143, ci_143), (144, tc_1793)]
def tc_1794 : ab_TC := (1, 32, .inr (.inl (ab_rp 20 (.ofNat 0, .ofNat 0) (ab_rp 12 (.ofNat 0, .ofNat 61917364224000000) []))))
def th_2612 : ab_TH := [(119, tc_1781), (126, ci_126), (143, ci_143), (144, tc_1794)]
def tc_1795 : ab_TC := (1, 32, .inr (.inl (ab_rp 21 (.ofNat 0, .ofNat 0) (ab_rp 11 (.ofNat 0, .ofNat 61917364224000000) []))))
def th_2613 : ab_TH := [(119, tc_1781), (126, ci_126), (143, ci_143), (144, tc_1795)]
def tc_1796 : ab_TC := (1, 32, .inr (.inl (ab_rp 22 (.ofNat 0, .ofNat 0) (ab_rp 10 (.ofNat 0, .ofNat 61917364224000000) []))))
def th_2614 : ab_TH := [(119, tc_1781), (126, ci_126), (143, ci_143), (144, tc_1796)]
def tc_1797 : ab_TC := (1, 32, .inr (.inl (ab_rp 23 (.ofNat 0, .ofNat 0) (ab_rp 9 (.ofNat 0, .ofNat 61917364224000000) []))))
def th_2615 : ab_TH := [(119, tc_1781), (126, ci_126), (143, ci_143), (144, tc_1797)]
def tc_1798 : ab_TC := (1, 32, .inr (.inl (ab_rp 24 (.ofNat 0, .ofNat 0) (ab_rp 8 (.ofNat 0, .ofNat 61917364224000000) []))))
def th_2616 : ab_TH := [(119, tc_1781), (126, ci_126), (143, ci_143), (144, tc_1798)]
def tc_1799 : ab_TC := (1, 32, .inr (.inl (ab_rp 25 (.ofNat 0, .ofNat 0) (ab_rp 7 (.ofNat 0, .ofNat 61917364224000000) []))))
def th_2617 : ab_TH := [(119, tc_1781), (126, ci_126), (143, ci_143), (144, tc_1799)]
def tc_1800 : ab_TC := (1, 32, .inr (.inl (ab_rp 26 (.ofNat 0, .ofNat 0) (ab_rp 6 (.ofNat 0, .ofNat 61917364224000000) []))))
def th_2618 : ab_TH := [(119, tc_1781), (126, ci_126), (143, ci_143), (144, tc_1800)]
def tc_1801 : ab_TC := (1, 32, .inr (.inl (ab_rp 27 (.ofNat 0, .ofNat 0) (ab_rp 5 (.ofNat 0, .ofNat 61917364224000000) []))))
def th_2619 : ab_TH := [(119, tc_1781), (126, ci_126), (143, ci_143), (144, tc_1801)]
def tc_1802 : ab_TC := (1, 32, .inr (.inl (ab_rp 28 (.ofNat 0, .ofNat 0) (ab_rp 4 (.ofNat 0, .ofNat 61917364224000000) []))))
def th_2620 : ab_TH := [(119, tc_1781), (126, ci_126), (143, ci_143), (144, tc_1802)]
def tc_1803 : ab_TC := (1, 32, .inr (.inl (ab_rp 29 (.ofNat 0, .ofNat 0) (ab_rp 3 (.ofNat 0, .ofNat 61917364224000000) []))))
def th_2621 : ab_TH := [(119, tc_1781), (126, ci_126), (143, ci_143), (144, tc_1803)]
def tc_1804 : ab_TC := (1, 32, .inr (.inl (ab_rp 3 (.ofNat 0, .ofNat 0) (ab_rp 29 (.ofNat 0, .ofNat 61917364224000000) []))))
def th_2622 : ab_TH := [(119, tc_1781), (126, ci_126), (143, ci_143), (144, tc_1804)]
def tc_1805 : ab_TC := (1, 32, .inr (.inl (ab_rp 30 (.ofNat 0, .ofNat 0) (ab_rp 2 (.ofNat 0, .ofNat 61917364224000000) []))))
def th_2623 : ab_TH := [(119, tc_1781), (126, ci_126), (143, ci_143), (144, tc_1805)]
def tc_1806 : ab_TC := (1, 32, .inr (.inl (ab_rp 31 (.ofNat 0, .ofNat 0) (ab_rp 1 (.ofNat 0, .ofNat 61917364224000000) []))))
def th_2624 : ab_TH := [(119, tc_1781), (126, ci_126), (143, ci_143), (144, tc_1806)]
def th_2625 : ab_TH := [(119, tc_1781), (126, ci_126), (143, ci_143), (144, tc_206)]
def tc_1807 : ab_TC := (1, 32, .inr (.inl (ab_rp 4 (.ofNat 0, .ofNat 0) (ab_rp 28 (.ofNat 0, .ofNat 61917364224000000) []))))
def th_2626 : ab_TH := [(119, tc_1781), (126, ci_126), (143, ci_143), (144, tc_1807)]
def tc_1808 : ab_TC := (1, 32, .inr (.inl (ab_rp 5 (.ofNat 0, .ofNat 0) (ab_rp 27 (.ofNat 0, .ofNat 61917364224000000) []))))
def th_2627 : ab_TH := [(119, tc_1781), (126, ci_126), (143, ci_143), (144, tc_1808)]
def tc_1809 : ab_TC := (1, 32, .inr (.inl (ab_rp 6 (.ofNat 0, .ofNat 0) (ab_rp 26 (.ofNat 0, .ofNat 61917364224000000) []))))
def th_2628 : ab_TH := [(119, tc_1781), (126, ci_126), (143, ci_143), (144, tc_1809)]
def tc_1810 : ab_TC := (1, 32, .inr (.inl (ab_rp 7 (.ofNat 0, .ofNat 0) (ab_rp 25 (.ofNat 0, .ofNat 61917364224000000) []))))
def th_2629 : ab_TH := [(119, tc_1781), (126, ci_126), (143, ci_143), (144, tc_1810)]
def tc_1811 : ab_TC := (1, 32, .inr (.inl (ab_rp 8 (.ofNat 0, .ofNat 0) (ab_rp 24 (.ofNat 0, .ofNat 61917364224000000) []))))
def th_2630 : ab_TH := [(119, tc_1781), (126, ci_126), (143, ci_143), (144, tc_1811)]
def tc_1812 : ab_TC := (1, 32, .inr (.inl (ab_rp 9 (.ofNat 0, .ofNat 0) (ab_rp 23 (.ofNat 0, .ofNat 61917364224000000) []))))
def th_2631 : ab_TH := [(119, tc_1781), (126, ci_126), (143, ci_143), (144, tc_1812)]
-- SandFlagsModel.parts
def sm_225_10 : ab_Sm := ([tR 119, tF, tF], th_2598, [([], some (tQ 5 0), th_2597), ([], some (tF), th_403)], [119, 126, 143, 144, 8616, 8657])
def an_225_10_0 : ab_An := (60, [tR 119, tN 0 31, tN 0 1000000, tF, tN 0 0], [], th_2599, [], [(.ofNat 1, .ofNat 0, 0), (.ofNat 32, .negSucc 0, 4)])
def an_225_10_1 : ab_An := (60, [tR 119, tN 0 31, tN 0 1000000, tF, tN 1 1], [], th_2600, [], [(.ofNat 1, .ofNat 0, 0), (.ofNat 32, .negSucc 0, 4)])
def an_225_10_2 : ab_An := (60, [tR 119, tN 0 31, tN 0 1000000, tF, tN 10 10], [], th_2601, [], [(.ofNat 1, .ofNat 0, 0), (.ofNat 32, .negSucc 0, 4)])
def an_225_10_3 : ab_An := (60, [tR 119, tN 0 31, tN 0 1000000, tF, tN 11 11], [], th_2602, [], [(.ofNat 1, .ofNat 0, 0), (.ofNat 32, .negSucc 0, 4)])
def an_225_10_4 : ab_An := (60, [tR 119, tN 0 31, tN 0 1000000, tF, tN 12 12], [], th_2603, [], [(.ofNat 1, .ofNat 0, 0), (.ofNat 32, .negSucc 0, 4)])
def an_225_10_5 : ab_An := (60, [tR 119, tN 0 31, tN 0 1000000, tF, tN 13 13], [], th_2604, [], [(.ofNat 1, .ofNat 0, 0), (.ofNat 32, .negSucc 0, 4)])
def an_225_10_6 : ab_An := (60, [tR 119, tN 0 31, tN 0 1000000, tF, tN 14 14], [], th_2605, [], [(.ofNat 1, .ofNat 0, 0), (.ofNat 32, .negSucc 0, 4)])
def an_225_10_7 : ab_An := (60, [tR 119, tN 0 31, tN 0 1000000, tF, tN 15 15], [], th_2606, [], [(.ofNat 1, .ofNat 0, 0), (.ofNat 32, .negSucc 0, 4)])
def an_225_10_8 : ab_An := (60, [tR 119, tN 0 31, tN 0 1000000, tF, tN 16 16], [], th_2607, [], [(.ofNat 1, .ofNat 0, 0), (.ofNat 32, .negSucc 0, 4)])
def an_225_10_9 : ab_An := (60, [tR 119, tN 0 31, tN 0 1000000, tF, tN 17 17], [], th_2608, [], [(.ofNat 1, .ofNat 0, 0), (.ofNat 32, .negSucc 0, 4)])
def an_225_10_10 : ab_An := (60, [tR 119, tN 0 31, tN 0 1000000, tF, tN 18 18], [], th_2609, [], [(.ofNat 1, .ofNat 0, 0), (.ofNat 32, .negSucc 0, 4)])
def an_225_10_11 : ab_An := (60, [tR 119, tN 0 31, tN 0 1000000, tF, tN 19 19], [], th_2610, [], [(.ofNat 1, .ofNat 0, 0), (.ofNat 32, .negSucc 0, 4)])
def an_225_10_12 : ab_An := (60, [tR 119, tN 0 31, tN 0 1000000, tF, tN 2 2], [], th_2611, [], [(.ofNat 1, .ofNat 0, 0), (.ofNat 32, .negSucc 0, 4)])
def an_225_10_13 : ab_An := (60, [tR 119, tN 0 31, tN 0 1000000, tF, tN 20 20], [], th_2612, [], [(.ofNat 1, .ofNat 0, 0), (.ofNat 32, .negSucc 0, 4)])
def an_225_10_14 : ab_An := (60, [tR 119, tN 0 31, tN 0 1000000, tF, tN 21 21], [], th_2613, [], [(.ofNat 1, .ofNat 0, 0), (.ofNat 32, .negSucc 0, 4)])
def an_225_10_15 : ab_An := (60, [tR 119, tN 0 31, tN 0 1000000, tF, tN 22 22], [], th_2614, [], [(.ofNat 1, .ofNat 0, 0), (.ofNat 32, .negSucc 0, 4)])
def an_225_10_16 : ab_An := (60, [tR 119, tN 0 31, tN 0 1000000, tF, tN 23 23], [], th_2615, [], [(.ofNat 1, .ofNat 0, 0), (.ofNat 32, .negSucc 0, 4)])
def an_225_10_17 : ab_An := (60, [tR 119, tN 0 31, tN 0 1000000, tF, tN 24 24], [], th_2616, [], [(.ofNat 1, .ofNat 0, 0), (.ofNat 32, .negSucc 0, 4)])
def an_225_10_18 : ab_An := (60, [tR 119, tN 0 31, tN 0 1000000, tF, tN 25 25], [], th_2617, [], [(.ofNat 1, .ofNat 0, 0), (.ofNat 32, .negSucc 0, 4)])
def an_225_10_19 : ab_An := (60, [tR 119, tN 0 31, tN 0 1000000, tF, tN 26 26], [], th_2618, [], [(.ofNat 1, .ofNat 0, 0), (.ofNat 32, .negSucc 0, 4)])
def an_225_10_20 : ab_An := (60, [tR 119, tN 0 31, tN 0 1000000, tF, tN 27 27], [], th_2619, [], [(.ofNat 1, .ofNat 0, 0), (.ofNat 32, .negSucc 0, 4)])
def an_225_10_21 : ab_An := (60, [tR 119, tN 0 31, tN 0 1000000, tF, tN 28 28], [], th_2620, [], [(.ofNat 1, .ofNat 0, 0), (.ofNat 32, .negSucc 0, 4)])
def an_225_10_22 : ab_An := (60, [tR 119, tN 0 31, tN 0 1000000, tF, tN 29 29], [], th_2621, [], [(.ofNat 1, .ofNat 0, 0), (.ofNat 32, .negSucc 0, 4)])
def an_225_10_23 : ab_An := (60, [tR 119, tN 0 31, tN 0 1000000, tF, tN 3 3], [], th_2622, [], [(.ofNat 1, .ofNat 0, 0), (.ofNat 32, .negSucc 0, 4)])
def an_225_10_24 : ab_An := (60, [tR 119, tN 0 31, tN 0 1000000, tF, tN 30 30], [], th_2623, [], [(.ofNat 1, .ofNat 0, 0), (.ofNat 32, .negSucc 0, 4)])
def an_225_10_25 : ab_An := (60, [tR 119, tN 0 31, tN 0 1000000, tF, tN 31 31], [], th_2624, [], [(.ofNat 1, .ofNat 0, 0), (.ofNat 32, .negSucc 0, 4)])
def an_225_10_26 : ab_An := (60, [tR 119, tN 0 31, tN 0 1000000, tF, tN 32 32], [], th_2625, [], [(.ofNat 1, .ofNat 0, 0), (.ofNat 32, .negSucc 0, 4)])
def an_225_10_27 : ab_An := (60, [tR 119, tN 0 31, tN 0 1000000, tF, tN 4 4], [], th_2626, [], [(.ofNat 1, .ofNat 0, 0), (.ofNat 32, .negSucc 0, 4)])
def an_225_10_28 : ab_An := (60, [tR 119, tN 0 31, tN 0 1000000, tF, tN 5 5], [], th_2627, [], [(.ofNat 1, .ofNat 0, 0), (.ofNat 32, .negSucc 0, 4)])
def an_225_10_29 : ab_An := (60, [tR 119, tN 0 31, tN 0 1000000, tF, tN 6 6], [], th_2628, [], [(.ofNat 1, .ofNat 0, 0), (.ofNat 32, .negSucc 0, 4)])
def an_225_10_30 : ab_An := (60, [tR 119, tN 0 31, tN 0 1000000, tF, tN 7 7], [], th_2629, [], [(.ofNat 1, .ofNat 0, 0), (.ofNat 32, .negSucc 0, 4)])
def an_225_10_31 : ab_An := (60, [tR 119, tN 0 31, tN 0 1000000, tF, tN 8 8], [], th_2630, [], [(.ofNat 1, .ofNat 0, 0), (.ofNat 32, .negSucc 0, 4)])
def an_225_10_32 : ab_An := (60, [tR 119, tN 0 31, tN 0 1000000, tF, tN 9 9], [], th_2631, [], [(.ofNat 1, .ofNat 0, 0), (.ofNat 32, .negSucc 0, 4)])
def an_225_10_33 : ab_An := (94, [tR 119, tN 0 31, tN 0 1000000, tF, tN 32 32], [], th_190, [], [(.ofNat 0, .ofNat 0, 0)])
def al_225_10_0 : List ab_An := [an_225_10_0, an_225_10_1, an_225_10_2, an_225_10_3, an_225_10_4, an_225_10_5, an_225_10_6, an_225_10_7, an_225_10_8, an_225_10_9, an_225_10_10, an_225_10_11, an_225_10_12, an_225_10_13]
def al_225_10_1 : List ab_An := [an_225_10_14, an_225_10_15, an_225_10_16, an_225_10_17, an_225_10_18, an_225_10_19, an_225_10_20, an_225_10_21, an_225_10_22, an_225_10_23, an_225_10_24, an_225_10_25, an_225_10_26, an_225_10_27]
def al_225_10_2 : List ab_An := [an_225_10_28, an_225_10_29, an_225_10_30, an_225_10_31, an_225_10_32, an_225_10_33]
def an_225_10 : List ab_An := al_225_10_0 ++ (al_225_10_1 ++ (al_225_10_2))
def ar_225_10 : List (Nat × Int × Int × ab_An) := [(60, .ofNat 0, .ofNat 0, an_225_10_0), (60, .ofNat 1, .ofNat 1, an_225_10_1), (60, .ofNat 10, .ofNat 10, an_225_10_2), (60, .ofNat 11, .ofNat 11, an_225_10_3), (60, .ofNat 12, .ofNat 12, an_225_10_4), (60, .ofNat 13, .ofNat 13, an_225_10_5), (60, .ofNat 14, .ofNat 14, an_225_10_6), (60, .ofNat 15, .ofNat 15, an_225_10_7), (60, .ofNat 16, .ofNat 16, an_225_10_8), (60, .ofNat 17, .ofNat 17, an_225_10_9), (60, .ofNat 18, .ofNat 18, an_225_10_10), (60, .ofNat 19, .ofNat 19, an_225_10_11), (60, .ofNat 2, .ofNat 2, an_225_10_12), (60, .ofNat 20, .ofNat 20, an_225_10_13), (60, .ofNat 21, .ofNat 21, an_225_10_14), (60, .ofNat 22, .ofNat 22, an_225_10_15), (60, .ofNat 23, .ofNat 23, an_225_10_16), (60, .ofNat 24, .ofNat 24, an_225_10_17), (60, .ofNat 25, .ofNat 25, an_225_10_18), (60, .ofNat 26, .ofNat 26, an_225_10_19), (60, .ofNat 27, .ofNat 27, an_225_10_20), (60, .ofNat 28, .ofNat 28, an_225_10_21), (60, .ofNat 29, .ofNat 29, an_225_10_22), (60, .ofNat 3, .ofNat 3, an_225_10_23), (60, .ofNat 30, .ofNat 30, an_225_10_24), (60, .ofNat 31, .ofNat 31, an_225_10_25), (60, .ofNat 32, .ofNat 32, an_225_10_26), (60, .ofNat 4, .ofNat 4, an_225_10_27), (60, .ofNat 5, .ofNat 5, an_225_10_28), (60, .ofNat 6, .ofNat 6, an_225_10_29), (60, .ofNat 7, .ofNat 7, an_225_10_30), (60, .ofNat 8, .ofNat 8, an_225_10_31), (60, .ofNat 9, .ofNat 9, an_225_10_32), (94, .ofNat 0, .ofNat 31, an_225_10_33)]
def ai_225_10 (pc : Nat) : Nat := bif Nat.beq pc 60 then 4 else bif Nat.beq pc 94 then 1 else 1000
def as_225_10 : Nat → List (Nat × Int) := (fun _ => [])
def ck_225_10 (a : ab_An) : Bool := zchk1 (BdF 225).1 (fun i => zdc i (BdF 225).2.1 MtF (zOO (ab_SLl []) (fun k => ab_mem k [180, 181, 224]) BdF ZZ MtF (fun k => ab_mem k sm_225_10.2.2.2) 200000 2) (ZZ.2.2.1 225) (fun k => ab_mem k sm_225_10.2.2.2) (BdF 225).2.2) (ZZ.2.2.2.1 225) (ZZ.2.2.1 225) sm_225_10 [60, 94] (ab_cd ai_225_10 ar_225_10) as_225_10 200000 a
theorem ct_225_10_0 : ∀ a ∈ al_225_10_0, ck_225_10 a = true := List.all_eq_true.mp (by decide +kernel)
theorem ct_225_10_1 : ∀ a ∈ al_225_10_1, ck_225_10 a = true := List.all_eq_true.mp (by decide +kernel)
theorem ct_225_10_2 : ∀ a ∈ al_225_10_2, ck_225_10 a = true := List.all_eq_true.mp (by decide +kernel)
theorem ca_225_10 : ∀ a ∈ an_225_10, ck_225_10 a = true := (List.forall_mem_append.mpr ⟨ct_225_10_0, (List.forall_mem_append.mpr ⟨ct_225_10_1, ct_225_10_2⟩)⟩)
theorem sok_225_10 {l : Launch} {D : va_G} {cs : Nat → ClassId} {tS : Nat} (hGl : ab_Gl l ZZ wFF D vwCl cs tS) : ab_SOK l ZZ 4 D vwCl cs tS 225 sm_225_10 := zf_fin2 (DS := 1) (dp := 2) (fuel := 200000) (q := []) (il := [180, 181, 224]) (anns := an_225_10) (pcs := [60, 94]) (cand := ab_cd ai_225_10 ar_225_10) (sp := as_225_10) hGl gok_225 (by decide) (fun _ h => absurd h List.not_mem_nil) (List.forall_mem_cons.mpr ⟨gok_180, (List.forall_mem_cons.mpr ⟨gok_181, (List.forall_mem_cons.mpr ⟨gok_224, (fun _ h => absurd h List.not_mem_nil)⟩)⟩)⟩) (ab_cd_mem rfl) (by decide +kernel) ca_225_10
def tc_1813 : ab_TC := (11, 68, .inr (.inr (.inr (.inr [tF, none, none, none, none, none, none, none, none, tR 126, none, none, none, none, none, none, none, none, none, none, none, none, none, none, none, none, none, none, none, none, none, none, none, none, none, none, none, none, none, tR 144, none, tN 10 10, none, none, none, none, none, none, none, none, none, none, none, none, none, none, none, none, none, none, none, none, none, none, none, none, none, none]))))
def th_2632 : ab_TH := [(119, tc_1813), (126, ci_126), (144, tc_1651)]
-- SandFlagsModel.drifts
def sm_230_10 : ab_Sm := ([tR 119], th_2632, [([], some (tQ 5 4), th_183)], [119, 126, 8616])
def an_230_10 : List ab_An := []
theorem sok_230_10 {l : Launch} {D : va_G} {cs : Nat → ClassId} {tS : Nat} (hGl : ab_Gl l ZZ wFF D vwCl cs tS) : ab_SOK l ZZ 4 D vwCl cs tS 230 sm_230_10 := zf_fin1 (DS := 2) (dp := 1) (fuel := 200000) (q := [(227, sm_227_11)]) (il := [181]) (anns := an_230_10) (pcs := []) (cand := fun _ _ => an_230_10) (sp := (fun _ => [])) hGl gok_230 (by decide) (List.forall_mem_cons.mpr ⟨ab_SOK_mono (sok_227_11 hGl) (by decide), (fun _ h => absurd h List.not_mem_nil)⟩) (List.forall_mem_cons.mpr ⟨gok_181, (fun _ h => absurd h List.not_mem_nil)⟩) (fun _ _ _ h => h) (by decide +kernel) (by decide +kernel)
-- SandFlagsModel.look
def sm_231_10 : ab_Sm := ([tR 119, tF, tF], th_2632, [([], some (tQ 5 0), th_183)], [119, 126, 8616])
def an_231_10 : List ab_An := []
theorem sok_231_10 {l : Launch} {D : va_G} {cs : Nat → ClassId} {tS : Nat} (hGl : ab_Gl l ZZ wFF D vwCl cs tS) : ab_SOK l ZZ 5 D vwCl cs tS 231 sm_231_10 := zf_fin1 (DS := 2) (dp := 2) (fuel := 200000) (q := [(227, sm_227_11)]) (il := [180, 181, 224]) (anns := an_231_10) (pcs := []) (cand := fun _ _ => an_231_10) (sp := (fun _ => [])) hGl gok_231 (by decide) (List.forall_mem_cons.mpr ⟨ab_SOK_mono (sok_227_11 hGl) (by decide), (fun _ h => absurd h List.not_mem_nil)⟩) (List.forall_mem_cons.mpr ⟨gok_180, (List.forall_mem_cons.mpr ⟨gok_181, (List.forall_mem_cons.mpr ⟨gok_224, (fun _ h => absurd h List.not_mem_nil)⟩)⟩)⟩) (fun _ _ _ h => h) (by decide +kernel) (by decide +kernel)
def th_2633 : ab_TH := [(119, tc_280), (144, tc_1651), (145, ci_145), (146, ci_146), (147, ci_147), (148, ci_148)]
def th_2634 : ab_TH := [(119, tc_281), (144, tc_1651), (145, ci_145), (146, ci_146), (147, ci_147), (148, ci_148)]
def th_2635 : ab_TH := [(119, tc_281), (144, ci_144), (145, ci_145), (146, tc_1651), (147, ci_147), (148, ci_148)]
def th_2636 : ab_TH := [(119, tc_281), (144, tc_180), (145, ci_145), (146, tc_1651), (147, ci_147), (148, ci_148)]
def tc_1814 : ab_TC := (1, 32, .inr (.inl (ab_rp 1 (.ofNat 0, .ofNat 61917364224000000) (ab_rp 31 (.negSucc 9223372036854775807, .ofNat 9223372036854775807) []))))
def th_2637 : ab_TH := [(119, tc_281), (144, tc_1814), (145, ci_145), (146, tc_1651), (147, ci_147), (148, ci_148)]
def tc_1815 : ab_TC := (1, 32, .inr (.inl (ab_rp 10 (.ofNat 0, .ofNat 61917364224000000) (ab_rp 22 (.negSucc 9223372036854775807, .ofNat 9223372036854775807) []))))
def th_2638 : ab_TH := [(119, tc_281), (144, tc_1815), (145, ci_145), (146, tc_1651), (147, ci_147), (148, ci_148)]
def tc_1816 : ab_TC := (1, 32, .inr (.inl (ab_rp 11 (.ofNat 0, .ofNat 61917364224000000) (ab_rp 21 (.negSucc 9223372036854775807, .ofNat 9223372036854775807) []))))
def th_2639 : ab_TH := [(119, tc_281), (144, tc_1816), (145, ci_145), (146, tc_1651), (147, ci_147), (148, ci_148)]
def tc_1817 : ab_TC := (1, 32, .inr (.inl (ab_rp 12 (.ofNat 0, .ofNat 61917364224000000) (ab_rp 20 (.negSucc 9223372036854775807, .ofNat 9223372036854775807) []))))
def th_2640 : ab_TH := [(119, tc_281), (144, tc_1817), (145, ci_145), (146, tc_1651), (147, ci_147), (148, ci_148)]
def tc_1818 : ab_TC := (1, 32, .inr (.inl (ab_rp 13 (.ofNat 0, .ofNat 61917364224000000) (ab_rp 19 (.negSucc 9223372036854775807, .ofNat 9223372036854775807) []))))
def th_2641 : ab_TH := [(119, tc_281), (144, tc_1818), (145, ci_145), (146, tc_1651), (147, ci_147), (148, ci_148)]
def tc_1819 : ab_TC := (1, 32, .inr (.inl (ab_rp 14 (.ofNat 0, .ofNat 61917364224000000) (ab_rp 18 (.negSucc 9223372036854775807, .ofNat 9223372036854775807) []))))
def th_2642 : ab_TH := [(119, tc_281), (144, tc_1819), (145, ci_145), (146, tc_1651), (147, ci_147), (148, ci_148)]
def tc_1820 : ab_TC := (1, 32, .inr (.inl (ab_rp 15 (.ofNat 0, .ofNat 61917364224000000) (ab_rp 17 (.negSucc 9223372036854775807, .ofNat 9223372036854775807) []))))
def th_2643 : ab_TH := [(119, tc_281), (144, tc_1820), (145, ci_145), (146, tc_1651), (147, ci_147), (148, ci_148)]
def tc_1821 : ab_TC := (1, 32, .inr (.inl (ab_rp 16 (.ofNat 0, .ofNat 61917364224000000) (ab_rp 16 (.negSucc 9223372036854775807, .ofNat 9223372036854775807) []))))
def th_2644 : ab_TH := [(119, tc_281), (144, tc_1821), (145, ci_145), (146, tc_1651), (147, ci_147), (148, ci_148)]
def tc_1822 : ab_TC := (1, 32, .inr (.inl (ab_rp 17 (.ofNat 0, .ofNat 61917364224000000) (ab_rp 15 (.negSucc 9223372036854775807, .ofNat 9223372036854775807) []))))
def th_2645 : ab_TH := [(119, tc_281), (144, tc_1822), (145, ci_145), (146, tc_1651), (147, ci_147), (148, ci_148)]
def tc_1823 : ab_TC := (1, 32, .inr (.inl (ab_rp 18 (.ofNat 0, .ofNat 61917364224000000) (ab_rp 14 (.negSucc 9223372036854775807, .ofNat 9223372036854775807) []))))
def th_2646 : ab_TH := [(119, tc_281), (144, tc_1823), (145, ci_145), (146, tc_1651), (147, ci_147), (148, ci_148)]
def tc_1824 : ab_TC := (1, 32, .inr (.inl (ab_rp 19 (.ofNat 0, .ofNat 61917364224000000) (ab_rp 13 (.negSucc 9223372036854775807, .ofNat 9223372036854775807) []))))
def th_2647 : ab_TH := [(119, tc_281), (144, tc_1824), (145, ci_145), (146, tc_1651), (147, ci_147), (148, ci_148)]
def tc_1825 : ab_TC := (1, 32, .inr (.inl (ab_rp 2 (.ofNat 0, .ofNat 61917364224000000) (ab_rp 30 (.negSucc 9223372036854775807, .ofNat 9223372036854775807) []))))
def th_2648 : ab_TH := [(119, tc_281), (144, tc_1825), (145, ci_145), (146, tc_1651), (147, ci_147), (148, ci_148)]
def tc_1826 : ab_TC := (1, 32, .inr (.inl (ab_rp 20 (.ofNat 0, .ofNat 61917364224000000) (ab_rp 12 (.negSucc 9223372036854775807, .ofNat 9223372036854775807) []))))
def th_2649 : ab_TH := [(119, tc_281), (144, tc_1826), (145, ci_145), (146, tc_1651), (147, ci_147), (148, ci_148)]
def tc_1827 : ab_TC := (1, 32, .inr (.inl (ab_rp 21 (.ofNat 0, .ofNat 61917364224000000) (ab_rp 11 (.negSucc 9223372036854775807, .ofNat 9223372036854775807) []))))
def th_2650 : ab_TH := [(119, tc_281), (144, tc_1827), (145, ci_145), (146, tc_1651), (147, ci_147), (148, ci_148)]
def tc_1828 : ab_TC := (1, 32, .inr (.inl (ab_rp 22 (.ofNat 0, .ofNat 61917364224000000) (ab_rp 10 (.negSucc 9223372036854775807, .ofNat 9223372036854775807) []))))
def th_2651 : ab_TH := [(119, tc_281), (144, tc_1828), (145, ci_145), (146, tc_1651), (147, ci_147), (148, ci_148)]
def tc_1829 : ab_TC := (1, 32, .inr (.inl (ab_rp 23 (.ofNat 0, .ofNat 61917364224000000) (ab_rp 9 (.negSucc 9223372036854775807, .ofNat 9223372036854775807) []))))
def th_2652 : ab_TH := [(119, tc_281), (144, tc_1829), (145, ci_145), (146, tc_1651), (147, ci_147), (148, ci_148)]
def tc_1830 : ab_TC := (1, 32, .inr (.inl (ab_rp 24 (.ofNat 0, .ofNat 61917364224000000) (ab_rp 8 (.negSucc 9223372036854775807, .ofNat 9223372036854775807) []))))
def th_2653 : ab_TH := [(119, tc_281), (144, tc_1830), (145, ci_145), (146, tc_1651), (147, ci_147), (148, ci_148)]
def tc_1831 : ab_TC := (1, 32, .inr (.inl (ab_rp 25 (.ofNat 0, .ofNat 61917364224000000) (ab_rp 7 (.negSucc 9223372036854775807, .ofNat 9223372036854775807) []))))
def th_2654 : ab_TH := [(119, tc_281), (144, tc_1831), (145, ci_145), (146, tc_1651), (147, ci_147), (148, ci_148)]
def tc_1832 : ab_TC := (1, 32, .inr (.inl (ab_rp 26 (.ofNat 0, .ofNat 61917364224000000) (ab_rp 6 (.negSucc 9223372036854775807, .ofNat 9223372036854775807) []))))
def th_2655 : ab_TH := [(119, tc_281), (144, tc_1832), (145, ci_145), (146, tc_1651), (147, ci_147), (148, ci_148)]
def tc_1833 : ab_TC := (1, 32, .inr (.inl (ab_rp 27 (.ofNat 0, .ofNat 61917364224000000) (ab_rp 5 (.negSucc 9223372036854775807, .ofNat 9223372036854775807) []))))
def th_2656 : ab_TH := [(119, tc_281), (144, tc_1833), (145, ci_145), (146, tc_1651), (147, ci_147), (148, ci_148)]
def tc_1834 : ab_TC := (1, 32, .inr (.inl (ab_rp 28 (.ofNat 0, .ofNat 61917364224000000) (ab_rp 4 (.negSucc 9223372036854775807, .ofNat 9223372036854775807) []))))
def th_2657 : ab_TH := [(119, tc_281), (144, tc_1834), (145, ci_145), (146, tc_1651), (147, ci_147), (148, ci_148)]
def tc_1835 : ab_TC := (1, 32, .inr (.inl (ab_rp 29 (.ofNat 0, .ofNat 61917364224000000) (ab_rp 3 (.negSucc 9223372036854775807, .ofNat 9223372036854775807) []))))
def th_2658 : ab_TH := [(119, tc_281), (144, tc_1835), (145, ci_145), (146, tc_1651), (147, ci_147), (148, ci_148)]
def tc_1836 : ab_TC := (1, 32, .inr (.inl (ab_rp 3 (.ofNat 0, .ofNat 61917364224000000) (ab_rp 29 (.negSucc 9223372036854775807, .ofNat 9223372036854775807) []))))
def th_2659 : ab_TH := [(119, tc_281), (144, tc_1836), (145, ci_145), (146, tc_1651), (147, ci_147), (148, ci_148)]
def tc_1837 : ab_TC := (1, 32, .inr (.inl (ab_rp 30 (.ofNat 0, .ofNat 61917364224000000) (ab_rp 2 (.negSucc 9223372036854775807, .ofNat 9223372036854775807) []))))
def th_2660 : ab_TH := [(119, tc_281), (144, tc_1837), (145, ci_145), (146, tc_1651), (147, ci_147), (148, ci_148)]
def tc_1838 : ab_TC := (1, 32, .inr (.inl (ab_rp 31 (.ofNat 0, .ofNat 61917364224000000) (ab_rp 1 (.negSucc 9223372036854775807, .ofNat 9223372036854775807) []))))
def th_2661 : ab_TH := [(119, tc_281), (144, tc_1838), (145, ci_145), (146, tc_1651), (147, ci_147), (148, ci_148)]
def th_2662 : ab_TH := [(119, tc_281), (144, tc_1652), (145, ci_145), (146, tc_1651), (147, ci_147), (148, ci_148)]
def tc_1839 : ab_TC := (1, 32, .inr (.inl (ab_rp 4 (.ofNat 0, .ofNat 61917364224000000) (ab_rp 28 (.negSucc 9223372036854775807, .ofNat 9223372036854775807) []))))
def th_2663 : ab_TH := [(119, tc_281), (144, tc_1839), (145, ci_145), (146, tc_1651), (147, ci_147), (148, ci_148)]
def tc_1840 : ab_TC := (1, 32, .inr (.inl (ab_rp 5 (.ofNat 0, .ofNat 61917364224000000) (ab_rp 27 (.negSucc 9223372036854775807, .ofNat 9223372036854775807) []))))
def th_2664 : ab_TH := [(119, tc_281), (144, tc_1840), (145, ci_145), (146, tc_1651), (147, ci_147), (148, ci_148)]
def tc_1841 : ab_TC := (1, 32, .inr (.inl (ab_rp 6 (.ofNat 0, .ofNat 61917364224000000) (ab_rp 26 (.negSucc 9223372036854775807, .ofNat 9223372036854775807) []))))
def th_2665 : ab_TH := [(119, tc_281), (144, tc_1841), (145, ci_145), (146, tc_1651), (147, ci_147), (148, ci_148)]
def tc_1842 : ab_TC := (1, 32, .inr (.inl (ab_rp 7 (.ofNat 0, .ofNat 61917364224000000) (ab_rp 25 (.negSucc 9223372036854775807, .ofNat 9223372036854775807) []))))
def th_2666 : ab_TH := [(119, tc_281), (144, tc_1842), (145, ci_145), (146, tc_1651), (147, ci_147), (148, ci_148)]
def tc_1843 : ab_TC := (1, 32, .inr (.inl (ab_rp 8 (.ofNat 0, .ofNat 61917364224000000) (ab_rp 24 (.negSucc 9223372036854775807, .ofNat 9223372036854775807) []))))
def th_2667 : ab_TH := [(119, tc_281), (144, tc_1843), (145, ci_145), (146, tc_1651), (147, ci_147), (148, ci_148)]
def tc_1844 : ab_TC := (1, 32, .inr (.inl (ab_rp 9 (.ofNat 0, .ofNat 61917364224000000) (ab_rp 23 (.negSucc 9223372036854775807, .ofNat 9223372036854775807) []))))
def th_2668 : ab_TH := [(119, tc_281), (144, tc_1844), (145, ci_145), (146, tc_1651), (147, ci_147), (148, ci_148)]
def th_2669 : ab_TH := [(119, tc_281), (144, tc_1651), (145, ci_145), (146, tc_180), (147, ci_147), (148, ci_148)]
def th_2670 : ab_TH := [(119, tc_281), (144, tc_1651), (145, ci_145), (146, tc_1814), (147, ci_147), (148, ci_148)]
def th_2671 : ab_TH := [(119, tc_281), (144, tc_1651), (145, ci_145), (146, tc_1815), (147, ci_147), (148, ci_148)]
def th_2672 : ab_TH := [(119, tc_281), (144, tc_1651), (145, ci_145), (146, tc_1816), (147, ci_147), (148, ci_148)]
def th_2673 : ab_TH := [(119, tc_281), (144, tc_1651), (145, ci_145), (146, tc_1817), (147, ci_147), (148, ci_148)]
def th_2674 : ab_TH := [(119, tc_281), (144, tc_1651), (145, ci_145), (146, tc_1818), (147, ci_147), (148, ci_148)]
def th_2675 : ab_TH := [(119, tc_281), (144, tc_1651), (145, ci_145), (146, tc_1819), (147, ci_147), (148, ci_148)]
def th_2676 : ab_TH := [(119, tc_281), (144, tc_1651), (145, ci_145), (146, tc_1820), (147, ci_147), (148, ci_148)]
def th_2677 : ab_TH := [(119, tc_281), (144, tc_1651), (145, ci_145), (146, tc_1821), (147, ci_147), (148, ci_148)]
def th_2678 : ab_TH := [(119, tc_281), (144, tc_1651), (145, ci_145), (146, tc_1822), (147, ci_147), (148, ci_148)]
def th_2679 : ab_TH := [(119, tc_281), (144, tc_1651), (145, ci_145), (146, tc_1823), (147, ci_147), (148, ci_148)]
def th_2680 : ab_TH := [(119, tc_281), (144, tc_1651), (145, ci_145), (146, tc_1824), (147, ci_147), (148, ci_148)]
def th_2681 : ab_TH := [(119, tc_281), (144, tc_1651), (145, ci_145), (146, tc_1825), (147, ci_147), (148, ci_148)]
def th_2682 : ab_TH := [(119, tc_281), (144, tc_1651), (145, ci_145), (146, tc_1826), (147, ci_147), (148, ci_148)]
def th_2683 : ab_TH := [(119, tc_281), (144, tc_1651), (145, ci_145), (146, tc_1827), (147, ci_147), (148, ci_148)]
def th_2684 : ab_TH := [(119, tc_281), (144, tc_1651), (145, ci_145), (146, tc_1828), (147, ci_147), (148, ci_148)]
def th_2685 : ab_TH := [(119, tc_281), (144, tc_1651), (145, ci_145), (146, tc_1829), (147, ci_147), (148, ci_148)]
def th_2686 : ab_TH := [(119, tc_281), (144, tc_1651), (145, ci_145), (146, tc_1830), (147, ci_147), (148, ci_148)]
def th_2687 : ab_TH := [(119, tc_281), (144, tc_1651), (145, ci_145), (146, tc_1831), (147, ci_147), (148, ci_148)]
def th_2688 : ab_TH := [(119, tc_281), (144, tc_1651), (145, ci_145), (146, tc_1832), (147, ci_147), (148, ci_148)]
def th_2689 : ab_TH := [(119, tc_281), (144, tc_1651), (145, ci_145), (146, tc_1833), (147, ci_147), (148, ci_148)]
def th_2690 : ab_TH := [(119, tc_281), (144, tc_1651), (145, ci_145), (146, tc_1834), (147, ci_147), (148, ci_148)]
def th_2691 : ab_TH := [(119, tc_281), (144, tc_1651), (145, ci_145), (146, tc_1835), (147, ci_147), (148, ci_148)]
def th_2692 : ab_TH := [(119, tc_281), (144, tc_1651), (145, ci_145), (146, tc_1836), (147, ci_147), (148, ci_148)]
def th_2693 : ab_TH := [(119, tc_281), (144, tc_1651), (145, ci_145), (146, tc_1837), (147, ci_147), (148, ci_148)]
def th_2694 : ab_TH := [(119, tc_281), (144, tc_1651), (145, ci_145), (146, tc_1838), (147, ci_147), (148, ci_148)]
def th_2695 : ab_TH := [(119, tc_281), (144, tc_1651), (145, ci_145), (146, tc_1652), (147, ci_147), (148, ci_148)]
def th_2696 : ab_TH := [(119, tc_281), (144, tc_1651), (145, ci_145), (146, tc_1839), (147, ci_147), (148, ci_148)]
def th_2697 : ab_TH := [(119, tc_281), (144, tc_1651), (145, ci_145), (146, tc_1840), (147, ci_147), (148, ci_148)]
def th_2698 : ab_TH := [(119, tc_281), (144, tc_1651), (145, ci_145), (146, tc_1841), (147, ci_147), (148, ci_148)]
def th_2699 : ab_TH := [(119, tc_281), (144, tc_1651), (145, ci_145), (146, tc_1842), (147, ci_147), (148, ci_148)]
def th_2700 : ab_TH := [(119, tc_281), (144, tc_1651), (145, ci_145), (146, tc_1843), (147, ci_147), (148, ci_148)]
def th_2701 : ab_TH := [(119, tc_281), (144, tc_1651), (145, ci_145), (146, tc_1844), (147, ci_147), (148, ci_148)]
def th_2702 : ab_TH := [(119, tc_281), (144, tc_1651), (145, ci_145), (146, tc_1651), (147, ci_147), (148, ci_148)]
-- SandFlagsModel.findLooks
def sm_235_10 : ab_Sm := ([tR 119, tN 1 3, tF], th_2634, [([], none, th_2633)], [119, 144, 145, 146, 147, 148, 8665, 8666])
def an_235_10_0 : ab_An := (129, [tR 119, tN 1 3, tF, tN 7 343, tN 0 349, tL 0 9223372036854775807, none, tN 0 3], [], th_2635, [], [(.ofNat 1, .ofNat 0, 0), (.ofNat 700, .negSucc 1, 4), (.ofNat 3, .negSucc 0, 7)])
def an_235_10_1 : ab_An := (164, [tR 119, tN 1 3, tF, tN 7 343, tN 0 0, none, none, none], [], th_2636, [], [(.ofNat 0, .ofNat 0, 0), (.ofNat 32, .negSucc 0, 4)])
def an_235_10_2 : ab_An := (164, [tR 119, tN 1 3, tF, tN 7 343, tN 1 1, none, none, none], [], th_2637, [], [(.ofNat 0, .ofNat 0, 0), (.ofNat 32, .negSucc 0, 4)])
def an_235_10_3 : ab_An := (164, [tR 119, tN 1 3, tF, tN 7 349, tN 10 10, none, none, none], [], th_2638, [], [(.ofNat 0, .ofNat 0, 0), (.ofNat 32, .negSucc 0, 4)])
def an_235_10_4 : ab_An := (164, [tR 119, tN 1 3, tF, tN 7 349, tN 11 11, none, none, none], [], th_2639, [], [(.ofNat 0, .ofNat 0, 0), (.ofNat 32, .negSucc 0, 4)])
def an_235_10_5 : ab_An := (164, [tR 119, tN 1 3, tF, tN 7 349, tN 12 12, none, none, none], [], th_2640, [], [(.ofNat 0, .ofNat 0, 0), (.ofNat 32, .negSucc 0, 4)])
def an_235_10_6 : ab_An := (164, [tR 119, tN 1 3, tF, tN 7 349, tN 13 13, none, none, none], [], th_2641, [], [(.ofNat 0, .ofNat 0, 0), (.ofNat 32, .negSucc 0, 4)])
def an_235_10_7 : ab_An := (164, [tR 119, tN 1 3, tF, tN 7 349, tN 14 14, none, none, none], [], th_2642, [], [(.ofNat 0, .ofNat 0, 0), (.ofNat 32, .negSucc 0, 4)])
def an_235_10_8 : ab_An := (164, [tR 119, tN 1 3, tF, tN 7 349, tN 15 15, none, none, none], [], th_2643, [], [(.ofNat 0, .ofNat 0, 0), (.ofNat 32, .negSucc 0, 4)])
def an_235_10_9 : ab_An := (164, [tR 119, tN 1 3, tF, tN 7 349, tN 16 16, none, none, none], [], th_2644, [], [(.ofNat 0, .ofNat 0, 0), (.ofNat 32, .negSucc 0, 4)])
def an_235_10_10 : ab_An := (164, [tR 119, tN 1 3, tF, tN 7 349, tN 17 17, none, none, none], [], th_2645, [], [(.ofNat 0, .ofNat 0, 0), (.ofNat 32, .negSucc 0, 4)])
def an_235_10_11 : ab_An := (164, [tR 119, tN 1 3, tF, tN 7 349, tN 18 18, none, none, none], [], th_2646, [], [(.ofNat 0, .ofNat 0, 0), (.ofNat 32, .negSucc 0, 4)])
def an_235_10_12 : ab_An := (164, [tR 119, tN 1 3, tF, tN 7 349, tN 19 19, none, none, none], [], th_2647, [], [(.ofNat 0, .ofNat 0, 0), (.ofNat 32, .negSucc 0, 4)])
def an_235_10_13 : ab_An := (164, [tR 119, tN 1 3, tF, tN 7 349, tN 2 2, none, none, none], [], th_2648, [], [(.ofNat 0, .ofNat 0, 0), (.ofNat 32, .negSucc 0, 4)])
def an_235_10_14 : ab_An := (164, [tR 119, tN 1 3, tF, tN 7 349, tN 20 20, none, none, none], [], th_2649, [], [(.ofNat 0, .ofNat 0, 0), (.ofNat 32, .negSucc 0, 4)])
def an_235_10_15 : ab_An := (164, [tR 119, tN 1 3, tF, tN 7 349, tN 21 21, none, none, none], [], th_2650, [], [(.ofNat 0, .ofNat 0, 0), (.ofNat 32, .negSucc 0, 4)])
def an_235_10_16 : ab_An := (164, [tR 119, tN 1 3, tF, tN 7 349, tN 22 22, none, none, none], [], th_2651, [], [(.ofNat 0, .ofNat 0, 0), (.ofNat 32, .negSucc 0, 4)])
def an_235_10_17 : ab_An := (164, [tR 119, tN 1 3, tF, tN 7 349, tN 23 23, none, none, none], [], th_2652, [], [(.ofNat 0, .ofNat 0, 0), (.ofNat 32, .negSucc 0, 4)])
def an_235_10_18 : ab_An := (164, [tR 119, tN 1 3, tF, tN 7 349, tN 24 24, none, none, none], [], th_2653, [], [(.ofNat 0, .ofNat 0, 0), (.ofNat 32, .negSucc 0, 4)])
def an_235_10_19 : ab_An := (164, [tR 119, tN 1 3, tF, tN 7 349, tN 25 25, none, none, none], [], th_2654, [], [(.ofNat 0, .ofNat 0, 0), (.ofNat 32, .negSucc 0, 4)])
def an_235_10_20 : ab_An := (164, [tR 119, tN 1 3, tF, tN 7 349, tN 26 26, none, none, none], [], th_2655, [], [(.ofNat 0, .ofNat 0, 0), (.ofNat 32, .negSucc 0, 4)])
def an_235_10_21 : ab_An := (164, [tR 119, tN 1 3, tF, tN 7 349, tN 27 27, none, none, none], [], th_2656, [], [(.ofNat 0, .ofNat 0, 0), (.ofNat 32, .negSucc 0, 4)])
def an_235_10_22 : ab_An := (164, [tR 119, tN 1 3, tF, tN 7 349, tN 28 28, none, none, none], [], th_2657, [], [(.ofNat 0, .ofNat 0, 0), (.ofNat 32, .negSucc 0, 4)])
def an_235_10_23 : ab_An := (164, [tR 119, tN 1 3, tF, tN 7 349, tN 29 29, none, none, none], [], th_2658, [], [(.ofNat 0, .ofNat 0, 0), (.ofNat 32, .negSucc 0, 4)])
def an_235_10_24 : ab_An := (164, [tR 119, tN 1 3, tF, tN 7 349, tN 3 3, none, none, none], [], th_2659, [], [(.ofNat 0, .ofNat 0, 0), (.ofNat 32, .negSucc 0, 4)])
def an_235_10_25 : ab_An := (164, [tR 119, tN 1 3, tF, tN 7 349, tN 30 30, none, none, none], [], th_2660, [], [(.ofNat 0, .ofNat 0, 0), (.ofNat 32, .negSucc 0, 4)])
def an_235_10_26 : ab_An := (164, [tR 119, tN 1 3, tF, tN 7 349, tN 31 31, none, none, none], [], th_2661, [], [(.ofNat 0, .ofNat 0, 0), (.ofNat 32, .negSucc 0, 4)])
def an_235_10_27 : ab_An := (164, [tR 119, tN 1 3, tF, tN 7 349, tN 32 32, none, none, none], [], th_2662, [], [(.ofNat 0, .ofNat 0, 0), (.ofNat 32, .negSucc 0, 4)])
def an_235_10_28 : ab_An := (164, [tR 119, tN 1 3, tF, tN 7 349, tN 4 4, none, none, none], [], th_2663, [], [(.ofNat 0, .ofNat 0, 0), (.ofNat 32, .negSucc 0, 4)])
def an_235_10_29 : ab_An := (164, [tR 119, tN 1 3, tF, tN 7 349, tN 5 5, none, none, none], [], th_2664, [], [(.ofNat 0, .ofNat 0, 0), (.ofNat 32, .negSucc 0, 4)])
def an_235_10_30 : ab_An := (164, [tR 119, tN 1 3, tF, tN 7 349, tN 6 6, none, none, none], [], th_2665, [], [(.ofNat 0, .ofNat 0, 0), (.ofNat 32, .negSucc 0, 4)])
def an_235_10_31 : ab_An := (164, [tR 119, tN 1 3, tF, tN 7 349, tN 7 7, none, none, none], [], th_2666, [], [(.ofNat 0, .ofNat 0, 0), (.ofNat 32, .negSucc 0, 4)])
def an_235_10_32 : ab_An := (164, [tR 119, tN 1 3, tF, tN 7 349, tN 8 8, none, none, none], [], th_2667, [], [(.ofNat 0, .ofNat 0, 0), (.ofNat 32, .negSucc 0, 4)])
def an_235_10_33 : ab_An := (164, [tR 119, tN 1 3, tF, tN 7 349, tN 9 9, none, none, none], [], th_2668, [], [(.ofNat 0, .ofNat 0, 0), (.ofNat 32, .negSucc 0, 4)])
def an_235_10_34 : ab_An := (2, [tR 119, tN 1 3, tF, tN 0 0, none, none, none, none], [], th_2669, [], [(.ofNat 3, .ofNat 0, 0), (.ofNat 32, .negSucc 0, 3)])
def an_235_10_35 : ab_An := (2, [tR 119, tN 1 3, tF, tN 1 1, none, none, none, none], [], th_2670, [], [(.ofNat 3, .ofNat 0, 0), (.ofNat 32, .negSucc 0, 3)])
def an_235_10_36 : ab_An := (2, [tR 119, tN 1 3, tF, tN 10 10, none, none, none, none], [], th_2671, [], [(.ofNat 3, .ofNat 0, 0), (.ofNat 32, .negSucc 0, 3)])
def an_235_10_37 : ab_An := (2, [tR 119, tN 1 3, tF, tN 11 11, none, none, none, none], [], th_2672, [], [(.ofNat 3, .ofNat 0, 0), (.ofNat 32, .negSucc 0, 3)])
def an_235_10_38 : ab_An := (2, [tR 119, tN 1 3, tF, tN 12 12, none, none, none, none], [], th_2673, [], [(.ofNat 3, .ofNat 0, 0), (.ofNat 32, .negSucc 0, 3)])
def an_235_10_39 : ab_An := (2, [tR 119, tN 1 3, tF, tN 13 13, none, none, none, none], [], th_2674, [], [(.ofNat 3, .ofNat 0, 0), (.ofNat 32, .negSucc 0, 3)])
def an_235_10_40 : ab_An := (2, [tR 119, tN 1 3, tF, tN 14 14, none, none, none, none], [], th_2675, [], [(.ofNat 3, .ofNat 0, 0), (.ofNat 32, .negSucc 0, 3)])
def an_235_10_41 : ab_An := (2, [tR 119, tN 1 3, tF, tN 15 15, none, none, none, none], [], th_2676, [], [(.ofNat 3, .ofNat 0, 0), (.ofNat 32, .negSucc 0, 3)])
def an_235_10_42 : ab_An := (2, [tR 119, tN 1 3, tF, tN 16 16, none, none, none, none], [], th_2677, [], [(.ofNat 3, .ofNat 0, 0), (.ofNat 32, .negSucc 0, 3)])
def an_235_10_43 : ab_An := (2, [tR 119, tN 1 3, tF, tN 17 17, none, none, none, none], [], th_2678, [], [(.ofNat 3, .ofNat 0, 0), (.ofNat 32, .negSucc 0, 3)])
def an_235_10_44 : ab_An := (2, [tR 119, tN 1 3, tF, tN 18 18, none, none, none, none], [], th_2679, [], [(.ofNat 3, .ofNat 0, 0), (.ofNat 32, .negSucc 0, 3)])
def an_235_10_45 : ab_An := (2, [tR 119, tN 1 3, tF, tN 19 19, none, none, none, none], [], th_2680, [], [(.ofNat 3, .ofNat 0, 0), (.ofNat 32, .negSucc 0, 3)])
def an_235_10_46 : ab_An := (2, [tR 119, tN 1 3, tF, tN 2 2, none, none, none, none], [], th_2681, [], [(.ofNat 3, .ofNat 0, 0), (.ofNat 32, .negSucc 0, 3)])
def an_235_10_47 : ab_An := (2, [tR 119, tN 1 3, tF, tN 20 20, none, none, none, none], [], th_2682, [], [(.ofNat 3, .ofNat 0, 0), (.ofNat 32, .negSucc 0, 3)])
def an_235_10_48 : ab_An := (2, [tR 119, tN 1 3, tF, tN 21 21, none, none, none, none], [], th_2683, [], [(.ofNat 3, .ofNat 0, 0), (.ofNat 32, .negSucc 0, 3)])
def an_235_10_49 : ab_An := (2, [tR 119, tN 1 3, tF, tN 22 22, none, none, none, none], [], th_2684, [], [(.ofNat 3, .ofNat 0, 0), (.ofNat 32, .negSucc 0, 3)])
def an_235_10_50 : ab_An := (2, [tR 119, tN 1 3, tF, tN 23 23, none, none, none, none], [], th_2685, [], [(.ofNat 3, .ofNat 0, 0), (.ofNat 32, .negSucc 0, 3)])
def an_235_10_51 : ab_An := (2, [tR 119, tN 1 3, tF, tN 24 24, none, none, none, none], [], th_2686, [], [(.ofNat 3, .ofNat 0, 0), (.ofNat 32, .negSucc 0, 3)])
def an_235_10_52 : ab_An := (2, [tR 119, tN 1 3, tF, tN 25 25, none, none, none, none], [], th_2687, [], [(.ofNat 3, .ofNat 0, 0), (.ofNat 32, .negSucc 0, 3)])
def an_235_10_53 : ab_An := (2, [tR 119, tN 1 3, tF, tN 26 26, none, none, none, none], [], th_2688, [], [(.ofNat 3, .ofNat 0, 0), (.ofNat 32, .negSucc 0, 3)])
def an_235_10_54 : ab_An := (2, [tR 119, tN 1 3, tF, tN 27 27, none, none, none, none], [], th_2689, [], [(.ofNat 3, .ofNat 0, 0), (.ofNat 32, .negSucc 0, 3)])
def an_235_10_55 : ab_An := (2, [tR 119, tN 1 3, tF, tN 28 28, none, none, none, none], [], th_2690, [], [(.ofNat 3, .ofNat 0, 0), (.ofNat 32, .negSucc 0, 3)])
def an_235_10_56 : ab_An := (2, [tR 119, tN 1 3, tF, tN 29 29, none, none, none, none], [], th_2691, [], [(.ofNat 3, .ofNat 0, 0), (.ofNat 32, .negSucc 0, 3)])
def an_235_10_57 : ab_An := (2, [tR 119, tN 1 3, tF, tN 3 3, none, none, none, none], [], th_2692, [], [(.ofNat 3, .ofNat 0, 0), (.ofNat 32, .negSucc 0, 3)])
def an_235_10_58 : ab_An := (2, [tR 119, tN 1 3, tF, tN 30 30, none, none, none, none], [], th_2693, [], [(.ofNat 3, .ofNat 0, 0), (.ofNat 32, .negSucc 0, 3)])
def an_235_10_59 : ab_An := (2, [tR 119, tN 1 3, tF, tN 31 31, none, none, none, none], [], th_2694, [], [(.ofNat 3, .ofNat 0, 0), (.ofNat 32, .negSucc 0, 3)])
def an_235_10_60 : ab_An := (2, [tR 119, tN 1 3, tF, tN 32 32, none, none, none, none], [], th_2695, [], [(.ofNat 3, .ofNat 0, 0), (.ofNat 32, .negSucc 0, 3)])
def an_235_10_61 : ab_An := (2, [tR 119, tN 1 3, tF, tN 4 4, none, none, none, none], [], th_2696, [], [(.ofNat 3, .ofNat 0, 0), (.ofNat 32, .negSucc 0, 3)])
def an_235_10_62 : ab_An := (2, [tR 119, tN 1 3, tF, tN 5 5, none, none, none, none], [], th_2697, [], [(.ofNat 3, .ofNat 0, 0), (.ofNat 32, .negSucc 0, 3)])
def an_235_10_63 : ab_An := (2, [tR 119, tN 1 3, tF, tN 6 6, none, none, none, none], [], th_2698, [], [(.ofNat 3, .ofNat 0, 0), (.ofNat 32, .negSucc 0, 3)])
def an_235_10_64 : ab_An := (2, [tR 119, tN 1 3, tF, tN 7 7, none, none, none, none], [], th_2699, [], [(.ofNat 3, .ofNat 0, 0), (.ofNat 32, .negSucc 0, 3)])
def an_235_10_65 : ab_An := (2, [tR 119, tN 1 3, tF, tN 8 8, none, none, none, none], [], th_2700, [], [(.ofNat 3, .ofNat 0, 0), (.ofNat 32, .negSucc 0, 3)])
def an_235_10_66 : ab_An := (2, [tR 119, tN 1 3, tF, tN 9 9, none, none, none, none], [], th_2701, [], [(.ofNat 3, .ofNat 0, 0), (.ofNat 32, .negSucc 0, 3)])
def an_235_10_67 : ab_An := (39, [tR 119, tN 1 3, tF, tN 1 1, tN 0 0, none, none, none], [], th_2702, [], [(.ofNat 2, .ofNat 0, 0), (.ofNat 3, .negSucc 0, 4)])
def an_235_10_68 : ab_An := (39, [tR 119, tN 3 3, tF, tN 343 343, tN 3 3, none, none, none], [], th_2702, [], [(.ofNat 2, .ofNat 0, 0), (.ofNat 3, .negSucc 0, 4)])
def an_235_10_69 : ab_An := (39, [tR 119, tN 2 3, tF, tN 49 49, tN 2 2, none, none, none], [], th_2702, [], [(.ofNat 2, .ofNat 0, 0), (.ofNat 3, .negSucc 0, 4)])
def an_235_10_70 : ab_An := (39, [tR 119, tN 1 3, tF, tN 7 7, tN 1 1, none, none, none], [], th_2702, [], [(.ofNat 2, .ofNat 0, 0), (.ofNat 3, .negSucc 0, 4)])
def an_235_10_71 : ab_An := (78, [tR 119, tN 1 3, tF, tN 7 343, tN 0 350, none, none, none], [], th_2635, [], [(.ofNat 1, .ofNat 0, 0), (.ofNat 701, .negSucc 1, 4)])
def al_235_10_0 : List ab_An := [an_235_10_0, an_235_10_1, an_235_10_2, an_235_10_3, an_235_10_4, an_235_10_5, an_235_10_6, an_235_10_7, an_235_10_8, an_235_10_9, an_235_10_10, an_235_10_11, an_235_10_12, an_235_10_13, an_235_10_14, an_235_10_15, an_235_10_16]
def al_235_10_1 : List ab_An := [an_235_10_17, an_235_10_18, an_235_10_19, an_235_10_20, an_235_10_21, an_235_10_22, an_235_10_23, an_235_10_24, an_235_10_25, an_235_10_26, an_235_10_27, an_235_10_28, an_235_10_29, an_235_10_30, an_235_10_31, an_235_10_32, an_235_10_33]
def al_235_10_2 : List ab_An := [an_235_10_34, an_235_10_35, an_235_10_36, an_235_10_37, an_235_10_38, an_235_10_39, an_235_10_40, an_235_10_41, an_235_10_42, an_235_10_43, an_235_10_44, an_235_10_45, an_235_10_46, an_235_10_47, an_235_10_48, an_235_10_49, an_235_10_50]
def al_235_10_3 : List ab_An := [an_235_10_51, an_235_10_52, an_235_10_53, an_235_10_54, an_235_10_55, an_235_10_56, an_235_10_57, an_235_10_58, an_235_10_59, an_235_10_60, an_235_10_61, an_235_10_62, an_235_10_63, an_235_10_64, an_235_10_65, an_235_10_66, an_235_10_67]
def al_235_10_4 : List ab_An := [an_235_10_68, an_235_10_69, an_235_10_70, an_235_10_71]
def an_235_10 : List ab_An := al_235_10_0 ++ (al_235_10_1 ++ (al_235_10_2 ++ (al_235_10_3 ++ (al_235_10_4))))
def ar_235_10 : List (Nat × Int × Int × ab_An) := [(129, .ofNat 1, .ofNat 3, an_235_10_0), (164, .ofNat 0, .ofNat 0, an_235_10_1), (164, .ofNat 1, .ofNat 1, an_235_10_2), (164, .ofNat 10, .ofNat 10, an_235_10_3), (164, .ofNat 11, .ofNat 11, an_235_10_4), (164, .ofNat 12, .ofNat 12, an_235_10_5), (164, .ofNat 13, .ofNat 13, an_235_10_6), (164, .ofNat 14, .ofNat 14, an_235_10_7), (164, .ofNat 15, .ofNat 15, an_235_10_8), (164, .ofNat 16, .ofNat 16, an_235_10_9), (164, .ofNat 17, .ofNat 17, an_235_10_10), (164, .ofNat 18, .ofNat 18, an_235_10_11), (164, .ofNat 19, .ofNat 19, an_235_10_12), (164, .ofNat 2, .ofNat 2, an_235_10_13), (164, .ofNat 20, .ofNat 20, an_235_10_14), (164, .ofNat 21, .ofNat 21, an_235_10_15), (164, .ofNat 22, .ofNat 22, an_235_10_16), (164, .ofNat 23, .ofNat 23, an_235_10_17), (164, .ofNat 24, .ofNat 24, an_235_10_18), (164, .ofNat 25, .ofNat 25, an_235_10_19), (164, .ofNat 26, .ofNat 26, an_235_10_20), (164, .ofNat 27, .ofNat 27, an_235_10_21), (164, .ofNat 28, .ofNat 28, an_235_10_22), (164, .ofNat 29, .ofNat 29, an_235_10_23), (164, .ofNat 3, .ofNat 3, an_235_10_24), (164, .ofNat 30, .ofNat 30, an_235_10_25), (164, .ofNat 31, .ofNat 31, an_235_10_26), (164, .ofNat 32, .ofNat 32, an_235_10_27), (164, .ofNat 4, .ofNat 4, an_235_10_28), (164, .ofNat 5, .ofNat 5, an_235_10_29), (164, .ofNat 6, .ofNat 6, an_235_10_30), (164, .ofNat 7, .ofNat 7, an_235_10_31), (164, .ofNat 8, .ofNat 8, an_235_10_32), (164, .ofNat 9, .ofNat 9, an_235_10_33), (2, .ofNat 0, .ofNat 0, an_235_10_34), (2, .ofNat 1, .ofNat 1, an_235_10_35), (2, .ofNat 10, .ofNat 10, an_235_10_36), (2, .ofNat 11, .ofNat 11, an_235_10_37), (2, .ofNat 12, .ofNat 12, an_235_10_38), (2, .ofNat 13, .ofNat 13, an_235_10_39), (2, .ofNat 14, .ofNat 14, an_235_10_40), (2, .ofNat 15, .ofNat 15, an_235_10_41), (2, .ofNat 16, .ofNat 16, an_235_10_42), (2, .ofNat 17, .ofNat 17, an_235_10_43), (2, .ofNat 18, .ofNat 18, an_235_10_44), (2, .ofNat 19, .ofNat 19, an_235_10_45), (2, .ofNat 2, .ofNat 2, an_235_10_46), (2, .ofNat 20, .ofNat 20, an_235_10_47), (2, .ofNat 21, .ofNat 21, an_235_10_48), (2, .ofNat 22, .ofNat 22, an_235_10_49), (2, .ofNat 23, .ofNat 23, an_235_10_50), (2, .ofNat 24, .ofNat 24, an_235_10_51), (2, .ofNat 25, .ofNat 25, an_235_10_52), (2, .ofNat 26, .ofNat 26, an_235_10_53), (2, .ofNat 27, .ofNat 27, an_235_10_54), (2, .ofNat 28, .ofNat 28, an_235_10_55), (2, .ofNat 29, .ofNat 29, an_235_10_56), (2, .ofNat 3, .ofNat 3, an_235_10_57), (2, .ofNat 30, .ofNat 30, an_235_10_58), (2, .ofNat 31, .ofNat 31, an_235_10_59), (2, .ofNat 32, .ofNat 32, an_235_10_60), (2, .ofNat 4, .ofNat 4, an_235_10_61), (2, .ofNat 5, .ofNat 5, an_235_10_62), (2, .ofNat 6, .ofNat 6, an_235_10_63), (2, .ofNat 7, .ofNat 7, an_235_10_64), (2, .ofNat 8, .ofNat 8, an_235_10_65), (2, .ofNat 9, .ofNat 9, an_235_10_66), (39, .ofNat 1, .ofNat 1, an_235_10_67), (39, .ofNat 343, .ofNat 343, an_235_10_68), (39, .ofNat 49, .ofNat 49, an_235_10_69), (39, .ofNat 7, .ofNat 7, an_235_10_70), (78, .ofNat 1, .ofNat 3, an_235_10_71)]
def ai_235_10 (pc : Nat) : Nat := bif Nat.beq pc 129 then 1 else bif Nat.beq pc 2 then 3 else bif Nat.beq pc 164 then 4 else bif Nat.beq pc 39 then 3 else bif Nat.beq pc 78 then 1 else 1000
def as_235_10 : Nat → List (Nat × Int) := (fun _ => [])
def ck_235_10 (a : ab_An) : Bool := zchk1 (BdF 235).1 (fun i => zdc i (BdF 235).2.1 MtF (zOO (ab_SLl [(227, sm_227_11), (234, sm_234_0)]) (fun k => ab_mem k []) BdF ZZ MtF (fun k => ab_mem k sm_235_10.2.2.2) 200000 0) (ZZ.2.2.1 235) (fun k => ab_mem k sm_235_10.2.2.2) (BdF 235).2.2) (ZZ.2.2.2.1 235) (ZZ.2.2.1 235) sm_235_10 [2, 39, 78, 129, 164] (ab_cd ai_235_10 ar_235_10) as_235_10 200000 a
theorem ct_235_10_0 : ∀ a ∈ al_235_10_0, ck_235_10 a = true := List.all_eq_true.mp (by decide +kernel)
theorem ct_235_10_1 : ∀ a ∈ al_235_10_1, ck_235_10 a = true := List.all_eq_true.mp (by decide +kernel)
theorem ct_235_10_2 : ∀ a ∈ al_235_10_2, ck_235_10 a = true := List.all_eq_true.mp (by decide +kernel)
theorem ct_235_10_3 : ∀ a ∈ al_235_10_3, ck_235_10 a = true := List.all_eq_true.mp (by decide +kernel)
theorem ct_235_10_4 : ∀ a ∈ al_235_10_4, ck_235_10 a = true := List.all_eq_true.mp (by decide +kernel)
theorem ca_235_10 : ∀ a ∈ an_235_10, ck_235_10 a = true := (List.forall_mem_append.mpr ⟨ct_235_10_0, (List.forall_mem_append.mpr ⟨ct_235_10_1, (List.forall_mem_append.mpr ⟨ct_235_10_2, (List.forall_mem_append.mpr ⟨ct_235_10_3, ct_235_10_4⟩)⟩)⟩)⟩)
theorem sok_235_10 {l : Launch} {D : va_G} {cs : Nat → ClassId} {tS : Nat} (hGl : ab_Gl l ZZ wFF D vwCl cs tS) : ab_SOK l ZZ 6 D vwCl cs tS 235 sm_235_10 := zf_fin2 (DS := 5) (dp := 0) (fuel := 200000) (q := [(227, sm_227_11), (234, sm_234_0)]) (il := []) (anns := an_235_10) (pcs := [2, 39, 78, 129, 164]) (cand := ab_cd ai_235_10 ar_235_10) (sp := as_235_10) hGl gok_235 (by decide) (List.forall_mem_cons.mpr ⟨ab_SOK_mono (sok_227_11 hGl) (by decide), (List.forall_mem_cons.mpr ⟨ab_SOK_mono (sok_234_0 hGl) (by decide), (fun _ h => absurd h List.not_mem_nil)⟩)⟩) (fun _ h => absurd h List.not_mem_nil) (ab_cd_mem rfl) (by decide +kernel) ca_235_10
-- SandFlagsModel.seek
def sm_237_10 : ab_Sm := ([tR 119, tF, tF, tF], th_2632, [([], some (tQ 5 3), th_183)], [119, 126, 8616])
def an_237_10 : List ab_An := []
theorem sok_237_10 {l : Launch} {D : va_G} {cs : Nat → ClassId} {tS : Nat} (hGl : ab_Gl l ZZ wFF D vwCl cs tS) : ab_SOK l ZZ 4 D vwCl cs tS 237 sm_237_10 := zf_fin1 (DS := 2) (dp := 1) (fuel := 200000) (q := [(227, sm_227_11)]) (il := [181, 236]) (anns := an_237_10) (pcs := []) (cand := fun _ _ => an_237_10) (sp := (fun _ => [])) hGl gok_237 (by decide) (List.forall_mem_cons.mpr ⟨ab_SOK_mono (sok_227_11 hGl) (by decide), (fun _ h => absurd h List.not_mem_nil)⟩) (List.forall_mem_cons.mpr ⟨gok_181, (List.forall_mem_cons.mpr ⟨gok_236, (fun _ h => absurd h List.not_mem_nil)⟩)⟩) (fun _ _ _ h => h) (by decide +kernel) (by decide +kernel)
def tc_1845 : ab_TC := (11, 68, .inr (.inr (.inr (.inr [tF, none, none, none, none, none, none, none, none, none, none, none, none, none, none, none, none, none, none, none, none, none, tF, none, none, none, none, none, none, none, none, none, none, none, none, none, none, none, none, none, none, none, none, none, none, none, none, none, none, none, none, none, none, none, none, none, none, none, none, none, none, none, none, none, none, none, none, none]))))
def th_2703 : ab_TH := [(119, tc_1845), (120, ci_120), (126, ci_126)]
def tc_1846 : ab_TC := (11, 68, .inr (.inr (.inr (.inr [tF, none, tR 120, none, none, none, none, none, none, tR 126, none, none, none, none, none, none, none, none, none, none, none, none, tF, none, none, none, none, none, none, none, none, none, none, none, none, none, none, none, none, none, none, none, none, none, none, none, none, none, none, none, none, none, none, none, none, none, none, none, none, none, none, none, none, none, none, none, none, none]))))
def th_2704 : ab_TH := [(119, tc_1846), (120, ci_120), (126, ci_126)]
-- SandFlagsModel.mile
def sm_186_0 : ab_Sm := ([tR 119, tF, tF], th_2704, [([], some (tM 5 40), th_2703)], [119, 120, 126, 8616, 8638])
def an_186_0 : List ab_An := []
theorem sok_186_0 {l : Launch} {D : va_G} {cs : Nat → ClassId} {tS : Nat} (hGl : ab_Gl l ZZ wFF D vwCl cs tS) : ab_SOK l ZZ 4 D vwCl cs tS 186 sm_186_0 := zf_fin1 (DS := 1) (dp := 2) (fuel := 200000) (q := []) (il := [180, 181, 183]) (anns := an_186_0) (pcs := []) (cand := fun _ _ => an_186_0) (sp := (fun _ => [])) hGl gok_186 (by decide) (fun _ h => absurd h List.not_mem_nil) (List.forall_mem_cons.mpr ⟨gok_180, (List.forall_mem_cons.mpr ⟨gok_181, (List.forall_mem_cons.mpr ⟨gok_183, (fun _ h => absurd h List.not_mem_nil)⟩)⟩)⟩) (fun _ _ _ h => h) (by decide +kernel) (by decide +kernel)
def th_2705 : ab_TH := [(119, tc_138), (121, ci_121), (126, ci_126)]
def tc_1847 : ab_TC := (11, 68, .inr (.inr (.inr (.inr [tF, none, none, tR 121, none, none, none, none, none, tR 126, none, none, none, none, none, none, none, none, none, none, none, none, none, none, none, none, none, none, none, none, none, none, none, none, none, none, none, none, none, none, none, none, none, none, none, none, none, none, none, none, none, none, none, none, none, none, none, none, none, none, none, none, none, none, none, none, none, none]))))
def th_2706 : ab_TH := [(119, tc_1847), (121, ci_121), (126, ci_126)]
-- SandFlagsModel.bank
def sm_187_0 : ab_Sm := ([tR 119, tF, tF, tF], th_2706, [([], some (tM 8 1000000006), th_2705)], [119, 121, 126, 8616])
def an_187_0 : List ab_An := []
theorem sok_187_0 {l : Launch} {D : va_G} {cs : Nat → ClassId} {tS : Nat} (hGl : ab_Gl l ZZ wFF D vwCl cs tS) : ab_SOK l ZZ 4 D vwCl cs tS 187 sm_187_0 := zf_fin1 (DS := 1) (dp := 2) (fuel := 200000) (q := []) (il := [180, 182, 183, 184]) (anns := an_187_0) (pcs := []) (cand := fun _ _ => an_187_0) (sp := (fun _ => [])) hGl gok_187 (by decide) (fun _ h => absurd h List.not_mem_nil) (List.forall_mem_cons.mpr ⟨gok_180, (List.forall_mem_cons.mpr ⟨gok_182, (List.forall_mem_cons.mpr ⟨gok_183, (List.forall_mem_cons.mpr ⟨gok_184, (fun _ h => absurd h List.not_mem_nil)⟩)⟩)⟩)⟩) (fun _ _ _ h => h) (by decide +kernel) (by decide +kernel)
def th_2707 : ab_TH := [(119, tc_138), (122, ci_122), (123, ci_123), (126, ci_126)]
def tc_1848 : ab_TC := (11, 68, .inr (.inr (.inr (.inr [tF, none, none, none, tR 122, tR 123, none, none, none, tR 126, none, none, none, none, none, none, none, none, none, none, none, none, none, none, none, none, none, none, none, none, none, none, none, none, none, none, none, none, none, none, none, none, none, none, none, none, none, none, none, none, none, none, none, none, none, none, none, none, none, none, none, none, none, none, none, none, none, none]))))
def th_2708 : ab_TH := [(119, tc_1848), (122, ci_122), (123, ci_123), (126, ci_126)]
-- SandFlagsModel.gauge
def sm_188_0 : ab_Sm := ([tR 119, tF, tF, tF], th_2708, [([], some (tM 8 1000000006), th_2707)], [119, 122, 123, 126, 8616])
def an_188_0 : List ab_An := []
theorem sok_188_0 {l : Launch} {D : va_G} {cs : Nat → ClassId} {tS : Nat} (hGl : ab_Gl l ZZ wFF D vwCl cs tS) : ab_SOK l ZZ 4 D vwCl cs tS 188 sm_188_0 := zf_fin1 (DS := 1) (dp := 2) (fuel := 200000) (q := []) (il := [180, 182, 185]) (anns := an_188_0) (pcs := []) (cand := fun _ _ => an_188_0) (sp := (fun _ => [])) hGl gok_188 (by decide) (fun _ h => absurd h List.not_mem_nil) (List.forall_mem_cons.mpr ⟨gok_180, (List.forall_mem_cons.mpr ⟨gok_182, (List.forall_mem_cons.mpr ⟨gok_185, (fun _ h => absurd h List.not_mem_nil)⟩)⟩)⟩) (fun _ _ _ h => h) (by decide +kernel) (by decide +kernel)
def tc_1849 : ab_TC := (11, 68, .inr (.inr (.inr (.inr [tF, none, none, none, tR 122, tR 123, none, none, none, tR 126, tM 8 9, tM 8 9, tN 0 99, none, none, none, none, none, none, none, none, none, none, none, none, none, none, none, none, none, none, none, none, none, none, none, none, none, none, none, none, none, none, none, none, none, none, none, none, none, none, none, none, none, none, none, none, none, none, none, none, none, none, none, none, none, none, none]))))
def th_2709 : ab_TH := [(119, tc_1849), (122, ci_122), (123, ci_123), (126, ci_126)]
-- SandFlagsModel.may
def sm_191_0 : ab_Sm := ([tR 119, tF, tF], th_2709, [([], some (tM 8 1000000002), th_186)], [119, 126, 8616, 8626, 8627, 8628])
def an_191_0 : List ab_An := []
theorem sok_191_0 {l : Launch} {D : va_G} {cs : Nat → ClassId} {tS : Nat} (hGl : ab_Gl l ZZ wFF D vwCl cs tS) : ab_SOK l ZZ 5 D vwCl cs tS 191 sm_191_0 := zf_fin1 (DS := 2) (dp := 2) (fuel := 200000) (q := [(189, sm_189_0)]) (il := [180, 182, 185]) (anns := an_191_0) (pcs := []) (cand := fun _ _ => an_191_0) (sp := (fun _ => [])) hGl gok_191 (by decide) (List.forall_mem_cons.mpr ⟨ab_SOK_mono (sok_189_0 hGl) (by decide), (fun _ h => absurd h List.not_mem_nil)⟩) (List.forall_mem_cons.mpr ⟨gok_180, (List.forall_mem_cons.mpr ⟨gok_182, (List.forall_mem_cons.mpr ⟨gok_185, (fun _ h => absurd h List.not_mem_nil)⟩)⟩)⟩) (fun _ _ _ h => h) (by decide +kernel) (by decide +kernel)
def tc_1850 : ab_TC := (11, 68, .inr (.inr (.inr (.inr [tF, none, none, tR 121, tR 122, tR 123, none, none, none, tR 126, tM 8 9, tM 8 9, tN 0 99, none, none, none, none, none, none, none, none, none, none, none, none, none, none, none, none, none, none, none, none, none, none, none, none, none, none, none, none, none, none, none, none, none, none, none, none, none, none, none, none, none, none, none, none, none, none, none, none, none, none, none, none, none, none, none]))))
def th_2710 : ab_TH := [(119, tc_1850), (121, ci_121), (122, ci_122), (123, ci_123), (126, ci_126)]
-- SandFlagsModel.safe
def sm_195_0 : ab_Sm := ([tR 119, tF, tF, tF], th_2710, [([], some (tM 0 2), th_186)], [119, 126, 8616, 8626, 8627, 8628])
def an_195_0 : List ab_An := []
theorem sok_195_0 {l : Launch} {D : va_G} {cs : Nat → ClassId} {tS : Nat} (hGl : ab_Gl l ZZ wFF D vwCl cs tS) : ab_SOK l ZZ 10 D vwCl cs tS 195 sm_195_0 := zf_fin1 (DS := 7) (dp := 2) (fuel := 200000) (q := [(194, sm_194_0)]) (il := [180, 181, 183, 184, 185]) (anns := an_195_0) (pcs := []) (cand := fun _ _ => an_195_0) (sp := (fun _ => [])) hGl gok_195 (by decide) (List.forall_mem_cons.mpr ⟨ab_SOK_mono (sok_194_0 hGl) (by decide), (fun _ h => absurd h List.not_mem_nil)⟩) (List.forall_mem_cons.mpr ⟨gok_180, (List.forall_mem_cons.mpr ⟨gok_181, (List.forall_mem_cons.mpr ⟨gok_183, (List.forall_mem_cons.mpr ⟨gok_184, (List.forall_mem_cons.mpr ⟨gok_185, (fun _ h => absurd h List.not_mem_nil)⟩)⟩)⟩)⟩)⟩) (fun _ _ _ h => h) (by decide +kernel) (by decide +kernel)
-- SandFlagsModel.flags
def sm_202_0 : ab_Sm := ([tR 119, tF, tF, tF, tF], th_145, [([], some (tF), th_144)], [119, 126, 127, 128, 129, 8616, 8626, 8627, 8628])
def an_202_0 : List ab_An := []
theorem sok_202_0 {l : Launch} {D : va_G} {cs : Nat → ClassId} {tS : Nat} (hGl : ab_Gl l ZZ wFF D vwCl cs tS) : ab_SOK l ZZ 14 D vwCl cs tS 202 sm_202_0 := zf_fin1 (DS := 10) (dp := 3) (fuel := 200000) (q := [(200, sm_200_0)]) (il := [180, 181, 183, 185, 201]) (anns := an_202_0) (pcs := []) (cand := fun _ _ => an_202_0) (sp := (fun _ => [])) hGl gok_202 (by decide) (List.forall_mem_cons.mpr ⟨ab_SOK_mono (sok_200_0 hGl) (by decide), (fun _ h => absurd h List.not_mem_nil)⟩) (List.forall_mem_cons.mpr ⟨gok_180, (List.forall_mem_cons.mpr ⟨gok_181, (List.forall_mem_cons.mpr ⟨gok_183, (List.forall_mem_cons.mpr ⟨gok_185, (List.forall_mem_cons.mpr ⟨gok_201, (fun _ h => absurd h List.not_mem_nil)⟩)⟩)⟩)⟩)⟩) (fun _ _ _ h => h) (by decide +kernel) (by decide +kernel)
def th_2711 : ab_TH := [(119, tc_1845), (124, ci_124), (126, ci_126)]
def tc_1851 : ab_TC := (11, 68, .inr (.inr (.inr (.inr [tF, none, none, none, none, none, tR 124, none, none, tR 126, none, none, none, none, none, none, none, none, none, none, none, none, tF, none, none, none, none, none, none, none, none, none, none, none, none, none, none, none, none, none, none, none, none, none, none, none, none, none, none, none, none, none, none, none, none, none, none, none, none, none, none, none, none, none, none, none, none, none]))))
def th_2712 : ab_TH := [(119, tc_1851), (124, ci_124), (126, ci_126)]
-- SandFlagsModel.crowd
def sm_204_0 : ab_Sm := ([tR 119, tF, tF, tF], th_2712, [([], some (tM 5 999), th_2711)], [119, 124, 126, 8616, 8638])
def an_204_0 : List ab_An := []
theorem sok_204_0 {l : Launch} {D : va_G} {cs : Nat → ClassId} {tS : Nat} (hGl : ab_Gl l ZZ wFF D vwCl cs tS) : ab_SOK l ZZ 4 D vwCl cs tS 204 sm_204_0 := zf_fin1 (DS := 1) (dp := 2) (fuel := 200000) (q := []) (il := [180, 181, 183, 185]) (anns := an_204_0) (pcs := []) (cand := fun _ _ => an_204_0) (sp := (fun _ => [])) hGl gok_204 (by decide) (fun _ h => absurd h List.not_mem_nil) (List.forall_mem_cons.mpr ⟨gok_180, (List.forall_mem_cons.mpr ⟨gok_181, (List.forall_mem_cons.mpr ⟨gok_183, (List.forall_mem_cons.mpr ⟨gok_185, (fun _ h => absurd h List.not_mem_nil)⟩)⟩)⟩)⟩) (fun _ _ _ h => h) (by decide +kernel) (by decide +kernel)
def tc_1852 : ab_TC := (11, 68, .inr (.inr (.inr (.inr [tF, none, none, none, none, none, none, none, tN 0 4, none, none, none, none, none, none, none, none, none, none, none, none, none, tF, none, none, none, none, none, none, none, none, none, none, none, none, none, none, none, none, none, none, none, none, none, none, none, none, none, none, none, none, none, none, none, none, none, none, none, none, none, none, none, none, none, none, none, none, none]))))
def th_2713 : ab_TH := [(119, tc_1852), (126, ci_126)]
def tc_1853 : ab_TC := (11, 68, .inr (.inr (.inr (.inr [tF, none, none, none, none, none, none, none, tN 0 4, tR 126, none, none, none, none, none, none, none, none, none, none, none, none, tF, none, none, none, none, none, none, none, none, none, none, none, none, none, none, none, none, none, none, none, none, none, none, none, none, none, none, none, none, none, none, none, none, none, none, none, none, none, none, none, none, none, none, none, none, none]))))
def th_2714 : ab_TH := [(119, tc_1853), (126, ci_126)]
-- SandFlagsModel.guards
def sm_205_0 : ab_Sm := ([tR 119, tF], th_2714, [([], some (tM 5 4), th_2713)], [119, 126, 8616, 8624, 8638])
def an_205_0 : List ab_An := []
theorem sok_205_0 {l : Launch} {D : va_G} {cs : Nat → ClassId} {tS : Nat} (hGl : ab_Gl l ZZ wFF D vwCl cs tS) : ab_SOK l ZZ 3 D vwCl cs tS 205 sm_205_0 := zf_fin1 (DS := 1) (dp := 1) (fuel := 200000) (q := []) (il := [181]) (anns := an_205_0) (pcs := []) (cand := fun _ _ => an_205_0) (sp := (fun _ => [])) hGl gok_205 (by decide) (fun _ h => absurd h List.not_mem_nil) (List.forall_mem_cons.mpr ⟨gok_181, (fun _ h => absurd h List.not_mem_nil)⟩) (fun _ _ _ h => h) (by decide +kernel) (by decide +kernel)
def tc_1854 : ab_TC := (11, 68, .inr (.inr (.inr (.inr [tF, none, none, none, none, none, none, none, none, none, none, none, none, none, none, none, none, none, none, none, none, none, none, none, none, none, none, none, none, tN 1 24, tF, none, none, none, none, none, none, none, none, none, none, none, none, none, none, none, none, none, none, none, none, none, none, none, none, none, none, none, none, none, none, none, none, none, none, none, none, none]))))
def th_2715 : ab_TH := [(119, tc_1854), (126, ci_126)]
def tc_1855 : ab_TC := (11, 68, .inr (.inr (.inr (.inr [tF, none, none, none, none, none, none, none, none, tR 126, none, none, none, none, none, none, none, none, none, none, none, none, none, none, none, none, none, none, none, tN 1 24, tF, none, none, none, none, none, none, none, none, none, none, none, none, none, none, none, none, none, none, none, none, none, none, none, none, none, none, none, none, none, none, none, none, none, none, none, none, none]))))
def th_2716 : ab_TH := [(119, tc_1855), (126, ci_126)]
-- SandFlagsModel.set
def sm_216_0 : ab_Sm := ([tR 119, tF, tF], th_2716, [([], some (tF), th_2715)], [119, 126, 8616, 8645, 8646])
def an_216_0 : List ab_An := []
theorem sok_216_0 {l : Launch} {D : va_G} {cs : Nat → ClassId} {tS : Nat} (hGl : ab_Gl l ZZ wFF D vwCl cs tS) : ab_SOK l ZZ 3 D vwCl cs tS 216 sm_216_0 := zf_fin1 (DS := 1) (dp := 1) (fuel := 200000) (q := []) (il := [180, 181]) (anns := an_216_0) (pcs := []) (cand := fun _ _ => an_216_0) (sp := (fun _ => [])) hGl gok_216 (by decide) (fun _ h => absurd h List.not_mem_nil) (List.forall_mem_cons.mpr ⟨gok_180, (List.forall_mem_cons.mpr ⟨gok_181, (fun _ h => absurd h List.not_mem_nil)⟩)⟩) (fun _ _ _ h => h) (by decide +kernel) (by decide +kernel)
def tc_1856 : ab_TC := (11, 68, .inr (.inr (.inr (.inr [tF, none, none, none, none, none, none, none, none, none, none, none, none, none, none, none, none, none, none, none, none, none, none, none, none, none, none, none, none, none, none, tN 0 20, none, none, none, none, none, none, none, none, none, none, none, none, none, none, none, none, none, none, none, none, none, none, none, none, none, none, none, none, none, none, none, none, none, none, none, none]))))
def th_2717 : ab_TH := [(119, tc_1856), (126, ci_126), (137, ci_137), (138, ci_138), (139, ci_139), (140, ci_140)]
def tc_1857 : ab_TC := (11, 68, .inr (.inr (.inr (.inr [tF, none, none, none, none, none, none, none, none, tR 126, none, none, none, none, none, none, none, none, none, none, none, none, none, none, tN 0 1, none, none, none, none, none, none, tN 0 20, tR 137, tR 138, tR 139, tR 140, none, none, none, none, none, none, none, none, none, none, none, none, none, none, none, none, none, none, none, none, none, none, none, none, none, none, none, none, none, none, none, none]))))
def th_2718 : ab_TH := [(119, tc_1857), (126, ci_126), (137, ci_137), (138, ci_138), (139, ci_139), (140, ci_140)]
-- SandFlagsModel.bather
def sm_217_0 : ab_Sm := ([tR 119, tF, tF], th_2718, [([], some (tM 5 19), th_2717)], [119, 126, 137, 138, 139, 140, 8616, 8647])
def an_217_0 : List ab_An := []
theorem sok_217_0 {l : Launch} {D : va_G} {cs : Nat → ClassId} {tS : Nat} (hGl : ab_Gl l ZZ wFF D vwCl cs tS) : ab_SOK l ZZ 4 D vwCl cs tS 217 sm_217_0 := zf_fin1 (DS := 1) (dp := 2) (fuel := 200000) (q := []) (il := [180, 181, 184]) (anns := an_217_0) (pcs := []) (cand := fun _ _ => an_217_0) (sp := (fun _ => [])) hGl gok_217 (by decide) (fun _ h => absurd h List.not_mem_nil) (List.forall_mem_cons.mpr ⟨gok_180, (List.forall_mem_cons.mpr ⟨gok_181, (List.forall_mem_cons.mpr ⟨gok_184, (fun _ h => absurd h List.not_mem_nil)⟩)⟩)⟩) (fun _ _ _ h => h) (by decide +kernel) (by decide +kernel)
def tc_1858 : ab_TC := (11, 68, .inr (.inr (.inr (.inr [tF, none, none, none, none, none, none, none, none, tR 126, none, none, none, none, none, none, none, none, none, none, none, none, none, none, tN 0 1, none, none, none, none, none, none, tN 0 20, none, tR 138, tR 139, tR 140, none, none, none, none, none, none, none, none, none, none, none, none, none, none, none, none, none, none, none, none, none, none, none, none, none, none, none, none, none, none, none, none]))))
def th_2719 : ab_TH := [(119, tc_1858), (126, ci_126), (138, ci_138), (139, ci_139), (140, ci_140)]
-- SandFlagsModel.batherOf
def sm_223_0 : ab_Sm := ([tR 119, tF, tF], th_2719, [([], some (tF), th_183)], [119, 126, 8616])
def an_223_0 : List ab_An := []
theorem sok_223_0 {l : Launch} {D : va_G} {cs : Nat → ClassId} {tS : Nat} (hGl : ab_Gl l ZZ wFF D vwCl cs tS) : ab_SOK l ZZ 3 D vwCl cs tS 223 sm_223_0 := zf_fin1 (DS := 1) (dp := 1) (fuel := 200000) (q := []) (il := [180, 181]) (anns := an_223_0) (pcs := []) (cand := fun _ _ => an_223_0) (sp := (fun _ => [])) hGl gok_223 (by decide) (fun _ h => absurd h List.not_mem_nil) (List.forall_mem_cons.mpr ⟨gok_180, (List.forall_mem_cons.mpr ⟨gok_181, (fun _ h => absurd h List.not_mem_nil)⟩)⟩) (fun _ _ _ h => h) (by decide +kernel) (by decide +kernel)
def tc_1859 : ab_TC := (11, 68, .inr (.inr (.inr (.inr [tF, none, none, none, none, none, none, none, none, none, none, none, none, none, none, none, none, none, none, none, none, none, none, none, none, none, none, none, none, none, none, none, none, none, none, none, none, none, none, none, none, none, tN 0 4, tN 0 4, tN 0 4, none, none, none, none, none, none, none, none, none, none, none, none, none, none, none, none, none, none, none, none, none, none, none]))))
def th_2720 : ab_TH := [(119, tc_1859), (126, ci_126)]
def tc_1860 : ab_TC := (11, 68, .inr (.inr (.inr (.inr [tF, none, none, none, none, none, none, none, none, tR 126, none, none, none, none, none, none, none, none, none, none, none, none, none, none, none, none, none, none, none, none, none, none, none, none, none, none, none, none, none, none, none, none, tN 0 4, tN 0 4, tN 0 4, none, none, none, none, none, none, none, none, none, none, none, none, none, none, none, none, none, none, none, none, none, none, none]))))
def th_2721 : ab_TH := [(119, tc_1860), (126, ci_126)]
-- SandFlagsModel.drift
def sm_226_0 : ab_Sm := ([tR 119, tF, tF, tF], th_2721, [([], some (tM 5 1), th_2720)], [119, 126, 8616, 8658, 8659, 8660])
def an_226_0 : List ab_An := []
theorem sok_226_0 {l : Launch} {D : va_G} {cs : Nat → ClassId} {tS : Nat} (hGl : ab_Gl l ZZ wFF D vwCl cs tS) : ab_SOK l ZZ 3 D vwCl cs tS 226 sm_226_0 := zf_fin1 (DS := 1) (dp := 1) (fuel := 200000) (q := []) (il := [181]) (anns := an_226_0) (pcs := []) (cand := fun _ _ => an_226_0) (sp := (fun _ => [])) hGl gok_226 (by decide) (fun _ h => absurd h List.not_mem_nil) (List.forall_mem_cons.mpr ⟨gok_181, (fun _ h => absurd h List.not_mem_nil)⟩) (fun _ _ _ h => h) (by decide +kernel) (by decide +kernel)
def tc_1861 : ab_TC := (11, 68, .inr (.inr (.inr (.inr [tF, none, none, none, none, none, none, none, none, none, none, none, none, none, none, none, none, none, none, none, none, none, none, none, none, none, none, none, none, none, none, none, none, none, none, none, none, none, none, tR 144, none, none, none, none, none, none, none, none, none, none, none, none, none, none, none, none, none, none, none, none, none, none, none, none, none, none, none, none]))))
def th_2722 : ab_TH := [(119, tc_1861), (144, ci_144)]
-- SandFlagsModel.now
def sm_232_0 : ab_Sm := ([tR 119, tF, tN 0 1], th_2722, [([], some (tK 9223372036854775807 9223372036854775807), [(119, tc_138)])], [119, 8616])
def an_232_0 : List ab_An := []
theorem sok_232_0 {l : Launch} {D : va_G} {cs : Nat → ClassId} {tS : Nat} (hGl : ab_Gl l ZZ wFF D vwCl cs tS) : ab_SOK l ZZ 5 D vwCl cs tS 232 sm_232_0 := zf_fin1 (DS := 2) (dp := 2) (fuel := 200000) (q := [(227, sm_227_0)]) (il := [180, 224]) (anns := an_232_0) (pcs := []) (cand := fun _ _ => an_232_0) (sp := (fun _ => [])) hGl gok_232 (by decide) (List.forall_mem_cons.mpr ⟨ab_SOK_mono (sok_227_0 hGl) (by decide), (fun _ h => absurd h List.not_mem_nil)⟩) (List.forall_mem_cons.mpr ⟨gok_180, (List.forall_mem_cons.mpr ⟨gok_224, (fun _ h => absurd h List.not_mem_nil)⟩)⟩) (fun _ _ _ h => h) (by decide +kernel) (by decide +kernel)
def tc_1862 : ab_TC := (11, 68, .inr (.inr (.inr (.inr [tF, none, none, none, none, none, none, none, none, none, none, none, none, none, none, none, none, none, none, none, none, none, none, none, none, none, none, none, none, none, none, none, none, none, none, none, none, none, none, none, none, none, none, none, none, tF, none, none, none, none, none, none, none, none, none, none, none, none, none, none, none, none, none, none, none, none, none, none]))))
def th_2723 : ab_TH := [(119, tc_1862), (126, ci_126)]
def tc_1863 : ab_TC := (11, 68, .inr (.inr (.inr (.inr [tF, none, none, none, none, none, none, none, none, tR 126, none, none, none, none, none, none, none, none, none, none, none, none, none, none, none, none, none, none, none, none, none, none, none, none, none, none, none, none, none, none, none, none, none, none, none, tF, none, none, none, none, none, none, none, none, none, none, none, none, none, none, none, none, none, none, none, none, none, none]))))
def th_2724 : ab_TH := [(119, tc_1863), (126, ci_126)]
-- SandFlagsModel.boat
def sm_233_0 : ab_Sm := ([tR 119, tF], th_2724, [([], some (tF), th_2723)], [119, 126, 8616, 8661])
def an_233_0 : List ab_An := []
theorem sok_233_0 {l : Launch} {D : va_G} {cs : Nat → ClassId} {tS : Nat} (hGl : ab_Gl l ZZ wFF D vwCl cs tS) : ab_SOK l ZZ 4 D vwCl cs tS 233 sm_233_0 := zf_fin1 (DS := 1) (dp := 2) (fuel := 200000) (q := []) (il := [180, 181, 224]) (anns := an_233_0) (pcs := []) (cand := fun _ _ => an_233_0) (sp := (fun _ => [])) hGl gok_233 (by decide) (fun _ h => absurd h List.not_mem_nil) (List.forall_mem_cons.mpr ⟨gok_180, (List.forall_mem_cons.mpr ⟨gok_181, (List.forall_mem_cons.mpr ⟨gok_224, (fun _ h => absurd h List.not_mem_nil)⟩)⟩)⟩) (fun _ _ _ h => h) (by decide +kernel) (by decide +kernel)
def th_2725 : ab_TH := [(119, tc_138), (126, ci_126), (149, ci_149), (150, ci_150)]
def tc_1864 : ab_TC := (11, 68, .inr (.inr (.inr (.inr [tF, none, none, none, none, none, none, none, none, tR 126, none, none, none, none, none, none, none, none, none, none, none, none, none, none, none, none, none, none, none, none, none, none, none, none, none, none, none, none, none, none, none, none, none, none, none, none, none, none, none, none, none, tR 149, tR 150, none, none, none, none, none, none, none, none, none, none, none, none, none, none, none]))))
def th_2726 : ab_TH := [(119, tc_1864), (126, ci_126), (149, ci_149), (150, ci_150)]
-- SandFlagsModel.child
def sm_239_0 : ab_Sm := ([tR 119, tN 0 1, tF], th_2726, [([], some (tM 5 7), th_2725)], [119, 126, 149, 150, 8616])
def an_239_0 : List ab_An := []
theorem sok_239_0 {l : Launch} {D : va_G} {cs : Nat → ClassId} {tS : Nat} (hGl : ab_Gl l ZZ wFF D vwCl cs tS) : ab_SOK l ZZ 3 D vwCl cs tS 239 sm_239_0 := zf_fin1 (DS := 1) (dp := 1) (fuel := 200000) (q := []) (il := [181]) (anns := an_239_0) (pcs := []) (cand := fun _ _ => an_239_0) (sp := (fun _ => [])) hGl gok_239 (by decide) (fun _ h => absurd h List.not_mem_nil) (List.forall_mem_cons.mpr ⟨gok_181, (fun _ h => absurd h List.not_mem_nil)⟩) (fun _ _ _ h => h) (by decide +kernel) (by decide +kernel)
-- SandFlagsModel.joined
def sm_244_0 : ab_Sm := ([tR 119, tF], th_181, [([], some (tM 8 7), th_180)], [119, 126, 151, 152, 8616])
def an_244_0 : List ab_An := []
theorem sok_244_0 {l : Launch} {D : va_G} {cs : Nat → ClassId} {tS : Nat} (hGl : ab_Gl l ZZ wFF D vwCl cs tS) : ab_SOK l ZZ 6 D vwCl cs tS 244 sm_244_0 := zf_fin1 (DS := 4) (dp := 1) (fuel := 200000) (q := [(242, sm_242_0)]) (il := [180, 181]) (anns := an_244_0) (pcs := []) (cand := fun _ _ => an_244_0) (sp := (fun _ => [])) hGl gok_244 (by decide) (List.forall_mem_cons.mpr ⟨ab_SOK_mono (sok_242_0 hGl) (by decide), (fun _ h => absurd h List.not_mem_nil)⟩) (List.forall_mem_cons.mpr ⟨gok_180, (List.forall_mem_cons.mpr ⟨gok_181, (fun _ h => absurd h List.not_mem_nil)⟩)⟩) (fun _ _ _ h => h) (by decide +kernel) (by decide +kernel)
def tc_1865 : ab_TC := (11, 68, .inr (.inr (.inr (.inr [tF, none, none, none, none, none, none, none, none, none, none, none, none, none, none, none, none, none, none, none, none, none, none, none, none, none, none, none, none, none, none, none, none, none, none, none, none, none, none, none, none, none, none, none, none, none, none, none, none, none, none, none, none, none, none, tN 0 40, none, none, none, none, none, none, none, none, none, none, none, none]))))
def th_2727 : ab_TH := [(119, tc_1865), (126, ci_126), (153, ci_153), (154, ci_154), (155, ci_155)]
def tc_1866 : ab_TC := (11, 68, .inr (.inr (.inr (.inr [tF, none, none, none, none, none, none, none, none, tR 126, none, none, none, none, none, none, none, none, none, none, none, none, none, none, none, none, none, none, none, none, none, none, none, none, none, none, none, none, none, none, none, none, none, none, none, none, none, none, none, none, none, none, none, none, none, tN 0 40, tR 153, tR 154, tR 155, none, none, none, none, none, none, none, none, none]))))
def th_2728 : ab_TH := [(119, tc_1866), (126, ci_126), (153, ci_153), (154, ci_154), (155, ci_155)]
-- SandFlagsModel.report
def sm_246_0 : ab_Sm := ([tR 119, tF, tF, tF], th_2728, [([], some (tM 5 39), th_2727)], [119, 126, 153, 154, 155, 8616, 8671])
def an_246_0 : List ab_An := []
theorem sok_246_0 {l : Launch} {D : va_G} {cs : Nat → ClassId} {tS : Nat} (hGl : ab_Gl l ZZ wFF D vwCl cs tS) : ab_SOK l ZZ 4 D vwCl cs tS 246 sm_246_0 := zf_fin1 (DS := 1) (dp := 2) (fuel := 200000) (q := []) (il := [180, 181, 183, 184]) (anns := an_246_0) (pcs := []) (cand := fun _ _ => an_246_0) (sp := (fun _ => [])) hGl gok_246 (by decide) (fun _ h => absurd h List.not_mem_nil) (List.forall_mem_cons.mpr ⟨gok_180, (List.forall_mem_cons.mpr ⟨gok_181, (List.forall_mem_cons.mpr ⟨gok_183, (List.forall_mem_cons.mpr ⟨gok_184, (fun _ h => absurd h List.not_mem_nil)⟩)⟩)⟩)⟩) (fun _ _ _ h => h) (by decide +kernel) (by decide +kernel)
def tc_1867 : ab_TC := (11, 68, .inr (.inr (.inr (.inr [tF, none, none, none, none, none, none, none, none, none, none, none, none, none, none, none, none, none, none, none, none, none, none, none, none, none, none, none, none, none, none, none, none, none, none, none, none, none, none, none, none, none, none, none, none, none, none, none, none, none, none, none, none, none, none, none, none, none, none, none, none, tN 0 20, none, none, none, none, none, none]))))
def th_2729 : ab_TH := [(119, tc_1867), (126, ci_126), (158, ci_158), (159, ci_159), (160, ci_160), (161, ci_161), (162, ci_162)]
def tc_1868 : ab_TC := (11, 68, .inr (.inr (.inr (.inr [tF, tF, none, none, none, none, none, none, none, tR 126, none, none, none, none, none, none, none, none, none, none, none, none, none, none, none, none, none, none, none, none, none, none, none, none, none, none, none, none, none, none, none, none, none, none, none, none, none, none, none, none, none, none, none, none, none, none, none, none, none, none, none, tN 0 20, tR 158, tR 159, tR 160, tR 161, tR 162, none]))))
def th_2730 : ab_TH := [(119, tc_1868), (126, ci_126), (158, ci_158), (159, ci_159), (160, ci_160), (161, ci_161), (162, ci_162)]
-- SandFlagsModel.rule
def sm_252_0 : ab_Sm := ([tR 119, tF, tF, tF, tF, tF], th_2730, [([], some (tM 5 19), th_2729)], [119, 126, 158, 159, 160, 161, 162, 8616, 8677])
def an_252_0 : List ab_An := []
theorem sok_252_0 {l : Launch} {D : va_G} {cs : Nat → ClassId} {tS : Nat} (hGl : ab_Gl l ZZ wFF D vwCl cs tS) : ab_SOK l ZZ 3 D vwCl cs tS 252 sm_252_0 := zf_fin1 (DS := 1) (dp := 1) (fuel := 200000) (q := []) (il := [181]) (anns := an_252_0) (pcs := []) (cand := fun _ _ => an_252_0) (sp := (fun _ => [])) hGl gok_252 (by decide) (fun _ h => absurd h List.not_mem_nil) (List.forall_mem_cons.mpr ⟨gok_181, (fun _ h => absurd h List.not_mem_nil)⟩) (fun _ _ _ h => h) (by decide +kernel) (by decide +kernel)
def th_2731 : ab_TH := [(119, tc_138), (125, ci_125), (126, ci_126)]
def tc_1869 : ab_TC := (11, 68, .inr (.inr (.inr (.inr [tF, none, none, none, none, none, none, tR 125, none, tR 126, none, none, none, none, none, none, none, none, none, none, none, none, none, none, none, none, none, none, none, none, none, none, none, none, none, none, none, none, none, none, none, none, none, none, none, none, none, none, none, none, none, none, none, none, none, none, none, none, none, none, none, none, none, none, none, none, none, none]))))
def th_2732 : ab_TH := [(119, tc_1869), (125, ci_125), (126, ci_126)]
-- SandFlagsModel.jelly
def sm_253_0 : ab_Sm := ([tR 119, tF, tF, tF], th_2732, [([], some (tF), th_2731)], [119, 125, 126, 8616])
def an_253_0 : List ab_An := []
theorem sok_253_0 {l : Launch} {D : va_G} {cs : Nat → ClassId} {tS : Nat} (hGl : ab_Gl l ZZ wFF D vwCl cs tS) : ab_SOK l ZZ 4 D vwCl cs tS 253 sm_253_0 := zf_fin1 (DS := 1) (dp := 2) (fuel := 200000) (q := []) (il := [180, 181, 183, 185]) (anns := an_253_0) (pcs := []) (cand := fun _ _ => an_253_0) (sp := (fun _ => [])) hGl gok_253 (by decide) (fun _ h => absurd h List.not_mem_nil) (List.forall_mem_cons.mpr ⟨gok_180, (List.forall_mem_cons.mpr ⟨gok_181, (List.forall_mem_cons.mpr ⟨gok_183, (List.forall_mem_cons.mpr ⟨gok_185, (fun _ h => absurd h List.not_mem_nil)⟩)⟩)⟩)⟩) (fun _ _ _ h => h) (by decide +kernel) (by decide +kernel)
def tc_1870 : ab_TC := (11, 68, .inr (.inr (.inr (.inr [tF, tF, none, none, none, none, none, none, none, none, none, none, none, none, none, none, none, none, none, none, none, none, tF, none, none, none, none, none, none, none, none, none, none, none, none, none, none, none, none, none, none, none, none, none, none, none, none, none, none, none, none, none, none, none, none, none, none, none, none, none, none, none, none, none, none, none, none, none]))))
def th_2733 : ab_TH := [(119, tc_1870), (122, ci_122), (123, ci_123), (124, ci_124), (125, ci_125), (126, ci_126)]
def tc_1871 : ab_TC := (11, 68, .inr (.inr (.inr (.inr [tF, tF, none, none, tR 122, tR 123, tR 124, tR 125, none, tR 126, none, none, none, none, none, none, none, none, none, none, none, none, tF, none, none, none, none, none, none, none, none, none, none, none, none, none, none, none, none, none, none, none, none, none, none, none, none, none, none, none, none, none, none, none, none, none, none, none, none, none, none, none, none, none, none, none, none, none]))))
def th_2734 : ab_TH := [(119, tc_1871), (122, ci_122), (123, ci_123), (124, ci_124), (125, ci_125), (126, ci_126)]
-- SandFlagsModel.days
def sm_255_0 : ab_Sm := ([tR 119, tF], th_2734, [([], some (tF), th_2733)], [119, 122, 123, 124, 125, 126, 8616, 8617, 8638])
def an_255_0 : List ab_An := []
theorem sok_255_0 {l : Launch} {D : va_G} {cs : Nat → ClassId} {tS : Nat} (hGl : ab_Gl l ZZ wFF D vwCl cs tS) : ab_SOK l ZZ 4 D vwCl cs tS 255 sm_255_0 := zf_fin1 (DS := 2) (dp := 1) (fuel := 200000) (q := [(179, sm_179_0)]) (il := [181]) (anns := an_255_0) (pcs := []) (cand := fun _ _ => an_255_0) (sp := (fun _ => [])) hGl gok_255 (by decide) (List.forall_mem_cons.mpr ⟨ab_SOK_mono (sok_179_0 hGl) (by decide), (fun _ h => absurd h List.not_mem_nil)⟩) (List.forall_mem_cons.mpr ⟨gok_181, (fun _ h => absurd h List.not_mem_nil)⟩) (fun _ _ _ h => h) (by decide +kernel) (by decide +kernel)
def th_2735 : ab_TH := [(119, tc_138), (126, ci_126), (163, ci_163)]
-- SandFlagsModel.drawn
def sm_256_0 : ab_Sm := ([tR 119, tF, tF, tF], th_184, [([], some (tF), th_2735)], [119, 126, 163, 8616])
def an_256_0 : List ab_An := []
theorem sok_256_0 {l : Launch} {D : va_G} {cs : Nat → ClassId} {tS : Nat} (hGl : ab_Gl l ZZ wFF D vwCl cs tS) : ab_SOK l ZZ 5 D vwCl cs tS 256 sm_256_0 := zf_fin1 (DS := 2) (dp := 2) (fuel := 200000) (q := [(257, sm_257_0)]) (il := [180, 181, 183, 184]) (anns := an_256_0) (pcs := []) (cand := fun _ _ => an_256_0) (sp := (fun _ => [])) hGl gok_256 (by decide) (List.forall_mem_cons.mpr ⟨ab_SOK_mono (sok_257_0 hGl) (by decide), (fun _ h => absurd h List.not_mem_nil)⟩) (List.forall_mem_cons.mpr ⟨gok_180, (List.forall_mem_cons.mpr ⟨gok_181, (List.forall_mem_cons.mpr ⟨gok_183, (List.forall_mem_cons.mpr ⟨gok_184, (fun _ h => absurd h List.not_mem_nil)⟩)⟩)⟩)⟩) (fun _ _ _ h => h) (by decide +kernel) (by decide +kernel)
end
