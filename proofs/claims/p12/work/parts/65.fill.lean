noncomputable section
theorem ab_set_self {ws : va_W} {q : Nat} {v : Nat × va_E} (h : ws[q]? = some v) : ws.set q v = ws := by
  apply List.ext_getElem?
  intro i
  by_cases e : q = i
  · subst e
    rw [List.getElem?_set_self (List.getElem?_eq_some_iff.mp h).1, h]
  · rw [List.getElem?_set_ne e]
theorem ab_i32n {k : Nat} (h : k ≤ 1000000) : (Int32.ofNat k).toInt = (k : Int) := by
  rw [show Int32.ofNat k = Int32.ofInt (k : Int) from (Int32.ofInt_eq_ofNat).symm, Int32.toInt_ofInt]
  exact ab_bm (by omega) (by omega)
theorem ab_i32c {k : Nat} (h : k ≤ 1000000) : (Int32.ofNat k).toNatClampNeg = k := by
  have h1 := ab_i32n h
  have h2 := ab_clamp (x := Int32.ofNat k) (by omega)
  omega
section FIL
variable {l : Launch} {D : va_G} {cs : Nat → ClassId} {tS : Nat}
theorem fp_0 : decode bFF.1 0 = .ok (.iconst 0, 1) := by decide +kernel
theorem fp_1 : decode bFF.1 1 = .ok (.istore_n 2, 1) := by decide +kernel
theorem fp_2 : decode bFF.1 2 = .ok (.aload_n 0, 1) := by decide +kernel
theorem fp_3 : decode bFF.1 3 = .ok (.arraylength, 1) := by decide +kernel
theorem fp_4 : decode bFF.1 4 = .ok (.istore_n 3, 1) := by decide +kernel
theorem fp_5 : decode bFF.1 5 = .ok (.iload_n 2, 1) := by decide +kernel
theorem fp_6 : decode bFF.1 6 = .ok (.iload_n 3, 1) := by decide +kernel
theorem fp_7 : decode bFF.1 7 = .ok (.if_icmp .ge 13, 3) := by decide +kernel
theorem fp_10 : decode bFF.1 10 = .ok (.aload_n 0, 1) := by decide +kernel
theorem fp_11 : decode bFF.1 11 = .ok (.iload_n 2, 1) := by decide +kernel
theorem fp_12 : decode bFF.1 12 = .ok (.iload_n 1, 1) := by decide +kernel
theorem fp_13 : decode bFF.1 13 = .ok (.iastore, 1) := by decide +kernel
theorem fp_14 : decode bFF.1 14 = .ok (.iinc 2 1, 3) := by decide +kernel
theorem fp_17 : decode bFF.1 17 = .ok (.goto (-12), 3) := by decide +kernel
theorem fp_20 : decode bFF.1 20 = .ok (.return_, 1) := by decide +kernel
theorem fp_go {cl : List vw_C} {ws : va_W} {q1 N1 a1 : Nat} {g : Nat → Int32} {x : Int32} (hw : ws[q1]? = some (a1, .inl (cs 0, N1, .inl g))) (hN : N1 ≤ 1000000) : ab_Ct l ab_yFI (Cond.code ab_yFI bFF.1 4 none :: ab_BIG) (ab_rm 1 0 0) 0 0 D cl cs tS [.ref a1, .int x] ws (fun rv ws' => rv = none ∧ ws' = ws.set q1 (a1, .inl (cs 0, N1, .inl (fun i => if i < N1 then x else g i)))) := by
  intro sz
  refine Met.ofW (cc := bFF.1) (maxL := 4) (ret := none) (by decide) rfl ?_
  intro p e s m args below meth c s₁ B hml hv
  obtain ⟨rfl, hsz, hP, hK, hD, hZ, hT⟩ := hv
  subst hsz
  rw [lg_entry_eq]
  have hx := B.exec
  have hb := B.bytes
  have hl := lv_entry [.ref a1, .int x] (n := 4) (Nat.le_of_ble_eq_true rfl)
  have hq1 : q1 < ws.length := (List.getElem?_eq_some_iff.mp hw).1
  have loop : ∀ (r k : Nat), k + r = N1 → ∀ (H : Heap) (locs : List Loc) (ls : Array Slot), lv_has ls 4 [(2, .int (Int32.ofNat k)), (3, .int (Int32.ofNat N1)), (0, .ref a1), (1, .int x)] → va_P D cl (ws.set q1 (a1, .inl (cs 0, N1, .inl (fun i => if i < k then x else g i)))) H → va_D (va_A ws s.heap.size) (ws.set q1 (a1, .inl (cs 0, N1, .inl (fun i => if i < k then x else g i)))) → va_S (va_A ws s.heap.size) s.heap H locs →
      W p l e (ab_rm 1 0 0) s m [Value.ref a1, .int x].toArray below meth c H locs 0 0 (MQ below (fun _ st oc t => (∃ rv ws', oc = .returned rv ∧ (rv = none ∧ ws' = ws.set q1 (a1, .inl (cs 0, N1, .inl (fun i => if i < N1 then x else g i)))) ∧ va_P D cl ws' t.heap ∧ va_D (va_A ws s.heap.size) ws' ∧ va_K D cl (ab_tys cs) t) ∧ va_F (va_A ws s.heap.size) st t) [Value.ref a1, .int x].toArray s 0 0 (va_A ws s.heap.size)) (F0 m 5 ls []) := by
    intro r
    induction r with
    | zero =>
      intro k hk H locs ls hl hP hD hS
      have hk : k = N1 := by omega
      subst hk
      refine lv_iload_n hx hb fp_5 rfl (hl.2.2 (2, .int (Int32.ofNat k)) (by simp)) ?_
      refine lv_iload_n hx hb fp_6 rfl (hl.2.2 (3, .int (Int32.ofNat k)) (by simp)) ?_
      refine ab_row_icmp (t := 20) hx hb fp_7 (by decide) (fun _ => ?_) (fun hc => ?_)
      · exact W.vret hx hb B.returns (fun t ht hW => ⟨⟨none, _, rfl, ⟨rfl, rfl⟩, by rw [ht]; exact hP, hD, va_K.moved hW.alike hK⟩, hS.F ht⟩) hS.2.2 fp_20 B.notSynchronized
      · exact absurd (show (Int32.ofNat k).toInt ≤ (Int32.ofNat k).toInt from Int.le_refl _) hc
    | succ r ih =>
      intro k hk H locs ls hl hP hD hS
      have h1 := ab_i32n (k := k) (by omega)
      have h2 := ab_i32n (k := N1) hN
      have h3 := ab_i32c (k := k) (by omega)
      refine lv_iload_n hx hb fp_5 rfl (hl.2.2 (2, .int (Int32.ofNat k)) (by simp)) ?_
      refine lv_iload_n hx hb fp_6 rfl (hl.2.2 (3, .int (Int32.ofNat N1)) (by simp)) ?_
      refine ab_row_icmp (t := 20) hx hb fp_7 (by decide) (fun hc => ?_) (fun hc => ?_)
      · have hc2 : (Int32.ofNat N1).toInt ≤ (Int32.ofNat k).toInt := hc
        omega
      · refine lv_aload_n hx hb fp_10 rfl (hl.2.2 (0, .ref a1) (by simp)) ?_
        refine lv_iload_n hx hb fp_11 rfl (hl.2.2 (2, .int (Int32.ofNat k)) (by simp)) ?_
        refine lv_iload_n hx hb fp_12 rfl (hl.2.2 (1, .int x) (by simp)) ?_
        have hin : vp_in (Int32.ofNat k) N1 := by
          rintro (q | q)
          · rw [Int32.lt_iff_toInt_lt, h1, show (0 : Int32).toInt = 0 from rfl] at q; omega
          · omega
        refine va_iast hx hb hK hP hD hS q1 0 (cA := cs 0) (n := N1) (List.getElem?_set_self hq1) rfl hin fp_13 (fun H1 locs1 hP1 hD1 hS1 => ?_)
        rw [List.set_set, h3] at hP1 hD1
        have ef : upd (fun i => if i < k then x else g i) k x = (fun i => if i < k + 1 then x else g i) := by
          funext i
          unfold upd
          by_cases e1 : i = k
          · subst e1; simp
          · by_cases e2 : i < k
            · simp [e1, e2, show i < k + 1 by omega]
            · simp [e1, e2, show ¬ i < k + 1 by omega]
        rw [ef] at hP1 hD1
        refine lv_iinc (k := 0) hx hb fp_14 hl rfl rfl (by decide) rfl (fun ls1 hl1 => ?_)
        refine lv_goto (tgt := 5) hx hb fp_17 (by decide) ?_
        refine ih (k + 1) (by omega) H1 locs1 ls1 ⟨hl1.1, hl1.2.1, fun q hq => ?_⟩ hP1 hD1 hS1
        simp only [List.mem_cons, List.not_mem_nil, or_false] at hq
        rcases hq with rfl | rfl | rfl | rfl
        · have e3 : Int32.ofNat (k + 1) = Int32.ofNat k + Int32.ofInt 1 := by
            apply Int32.toInt_inj.mp
            rw [ab_i32n (by omega), Int32.toInt_add, h1, show (Int32.ofInt 1).toInt = 1 from rfl]
            rw [ab_bm (by omega) (by omega)]
            omega
          show ls1[2]? = some (Slot.val (.int (Int32.ofNat (k + 1))))
          rw [e3]
          exact hl1.2.2 (2, .int (Int32.ofNat k + Int32.ofInt 1)) List.mem_cons_self
        · exact hl1.2.2 (3, .int (Int32.ofNat N1)) (List.mem_cons_of_mem _ (by exact List.mem_cons_self))
        · exact hl1.2.2 (0, .ref a1) (List.mem_cons_of_mem _ (List.mem_cons_of_mem _ (by exact List.mem_cons_self)))
        · exact hl1.2.2 (1, .int x) (List.mem_cons_of_mem _ (List.mem_cons_of_mem _ (List.mem_cons_of_mem _ (by exact List.mem_cons_self))))
  refine lv_iconst hx hb fp_0 rfl ?_
  refine lv_istore_n hx hb fp_1 rfl hl (by decide) rfl (fun ls1 hl1 => ?_)
  refine lv_aload_n hx hb fp_2 rfl (hl1.2.2 (0, .ref a1) (List.mem_cons_of_mem _ (by exact List.mem_cons_self))) ?_
  refine va_alen hx hb hK hP q1 0 hw (ty := .int) rfl rfl fp_3 ?_
  refine lv_istore_n hx hb fp_4 rfl hl1 (by decide) rfl (fun ls2 hl2 => ?_)
  have e0 : ws.set q1 (a1, .inl (cs 0, N1, .inl (fun i => if i < 0 then x else g i))) = ws := by
    refine ab_set_self ?_
    rw [hw]
    congr
  refine loop N1 0 (by omega) s.heap [] ls2 ⟨hl2.1, hl2.2.1, fun q hq => ?_⟩ (by rw [e0]; exact hP) (by rw [e0]; exact hD) va_S.rf
  simp only [List.mem_cons, List.not_mem_nil, or_false] at hq
  rcases hq with rfl | rfl | rfl | rfl
  · exact hl2.2.2 (2, .int 0) (List.mem_cons_of_mem _ (by exact List.mem_cons_self))
  · exact hl2.2.2 (3, .int (Int32.ofNat N1)) (by exact List.mem_cons_self)
  · exact hl2.2.2 (0, .ref a1) (List.mem_cons_of_mem _ (List.mem_cons_of_mem _ (by exact List.mem_cons_self)))
  · exact hl2.2.2 (1, .int x) (List.mem_cons_of_mem _ (List.mem_cons_of_mem _ (List.mem_cons_of_mem _ (by exact List.mem_cons_self))))
theorem fq_0 : decode bFF.2 0 = .ok (.iconst 0, 1) := by decide +kernel
theorem fq_1 : decode bFF.2 1 = .ok (.istore_n 3, 1) := by decide +kernel
theorem fq_2 : decode bFF.2 2 = .ok (.aload_n 0, 1) := by decide +kernel
theorem fq_3 : decode bFF.2 3 = .ok (.arraylength, 1) := by decide +kernel
theorem fq_4 : decode bFF.2 4 = .ok (.istore 4, 2) := by decide +kernel
theorem fq_6 : decode bFF.2 6 = .ok (.iload_n 3, 1) := by decide +kernel
theorem fq_7 : decode bFF.2 7 = .ok (.iload 4, 2) := by decide +kernel
theorem fq_9 : decode bFF.2 9 = .ok (.if_icmp .ge 13, 3) := by decide +kernel
theorem fq_12 : decode bFF.2 12 = .ok (.aload_n 0, 1) := by decide +kernel
theorem fq_13 : decode bFF.2 13 = .ok (.iload_n 3, 1) := by decide +kernel
theorem fq_14 : decode bFF.2 14 = .ok (.lload_n 1, 1) := by decide +kernel
theorem fq_15 : decode bFF.2 15 = .ok (.lastore, 1) := by decide +kernel
theorem fq_16 : decode bFF.2 16 = .ok (.iinc 3 1, 3) := by decide +kernel
theorem fq_19 : decode bFF.2 19 = .ok (.goto (-13), 3) := by decide +kernel
theorem fq_22 : decode bFF.2 22 = .ok (.return_, 1) := by decide +kernel
theorem fq_go {cl : List vw_C} {ws : va_W} {q1 N1 a1 : Nat} {g : Nat → Int64} {x : Int64} (hw : ws[q1]? = some (a1, .inl (cs 1, N1, .inr (.inl g)))) (hN : N1 ≤ 1000000) : ab_Ct l ab_yFL (Cond.code ab_yFL bFF.2 5 none :: ab_BIG) (ab_rm 1 0 0) 0 0 D cl cs tS [.ref a1, .long x] ws (fun rv ws' => rv = none ∧ ws' = ws.set q1 (a1, .inl (cs 1, N1, .inr (.inl (fun i => if i < N1 then x else g i))))) := by
  intro sz
  refine Met.ofW (cc := bFF.2) (maxL := 5) (ret := none) (by decide) rfl ?_
  intro p e s m args below meth c s₁ B hml hv
  obtain ⟨rfl, hsz, hP, hK, hD, hZ, hT⟩ := hv
  subst hsz
  rw [lg_entry_eq]
  have hx := B.exec
  have hb := B.bytes
  have hl := lv_entry [.ref a1, .long x] (n := 5) (Nat.le_of_ble_eq_true rfl)
  have hq1 : q1 < ws.length := (List.getElem?_eq_some_iff.mp hw).1
  have loop : ∀ (r k : Nat), k + r = N1 → ∀ (H : Heap) (locs : List Loc) (ls : Array Slot), lv_has ls 5 [(3, .int (Int32.ofNat k)), (4, .int (Int32.ofNat N1)), (0, .ref a1), (1, .long x)] → va_P D cl (ws.set q1 (a1, .inl (cs 1, N1, .inr (.inl (fun i => if i < k then x else g i))))) H → va_D (va_A ws s.heap.size) (ws.set q1 (a1, .inl (cs 1, N1, .inr (.inl (fun i => if i < k then x else g i))))) → va_S (va_A ws s.heap.size) s.heap H locs →
      W p l e (ab_rm 1 0 0) s m [Value.ref a1, .long x].toArray below meth c H locs 0 0 (MQ below (fun _ st oc t => (∃ rv ws', oc = .returned rv ∧ (rv = none ∧ ws' = ws.set q1 (a1, .inl (cs 1, N1, .inr (.inl (fun i => if i < N1 then x else g i))))) ∧ va_P D cl ws' t.heap ∧ va_D (va_A ws s.heap.size) ws' ∧ va_K D cl (ab_tys cs) t) ∧ va_F (va_A ws s.heap.size) st t) [Value.ref a1, .long x].toArray s 0 0 (va_A ws s.heap.size)) (F0 m 6 ls []) := by
    intro r
    induction r with
    | zero =>
      intro k hk H locs ls hl hP hD hS
      have hk : k = N1 := by omega
      subst hk
      refine lv_iload_n hx hb fq_6 rfl (hl.2.2 (3, .int (Int32.ofNat k)) (by simp)) ?_
      refine lv_iload hx hb fq_7 (hl.2.2 (4, .int (Int32.ofNat k)) (by simp)) ?_
      refine ab_row_icmp (t := 22) hx hb fq_9 (by decide) (fun _ => ?_) (fun hc => ?_)
      · exact W.vret hx hb B.returns (fun t ht hW => ⟨⟨none, _, rfl, ⟨rfl, rfl⟩, by rw [ht]; exact hP, hD, va_K.moved hW.alike hK⟩, hS.F ht⟩) hS.2.2 fq_22 B.notSynchronized
      · exact absurd (show (Int32.ofNat k).toInt ≤ (Int32.ofNat k).toInt from Int.le_refl _) hc
    | succ r ih =>
      intro k hk H locs ls hl hP hD hS
      have h1 := ab_i32n (k := k) (by omega)
      have h2 := ab_i32n (k := N1) hN
      have h3 := ab_i32c (k := k) (by omega)
      refine lv_iload_n hx hb fq_6 rfl (hl.2.2 (3, .int (Int32.ofNat k)) (by simp)) ?_
      refine lv_iload hx hb fq_7 (hl.2.2 (4, .int (Int32.ofNat N1)) (by simp)) ?_
      refine ab_row_icmp (t := 22) hx hb fq_9 (by decide) (fun hc => ?_) (fun hc => ?_)
      · have hc2 : (Int32.ofNat N1).toInt ≤ (Int32.ofNat k).toInt := hc
        omega
      · refine lv_aload_n hx hb fq_12 rfl (hl.2.2 (0, .ref a1) (by simp)) ?_
        refine lv_iload_n hx hb fq_13 rfl (hl.2.2 (3, .int (Int32.ofNat k)) (by simp)) ?_
        refine lv_lload_n hx hb fq_14 rfl (hl.2.2 (1, .long x) (by simp)) ?_
        have hin : vp_in (Int32.ofNat k) N1 := by
          rintro (q | q)
          · rw [Int32.lt_iff_toInt_lt, h1, show (0 : Int32).toInt = 0 from rfl] at q; omega
          · omega
        refine va_last hx hb hK hP hD hS q1 1 (cA := cs 1) (n := N1) (List.getElem?_set_self hq1) rfl hin fq_15 (fun H1 locs1 hP1 hD1 hS1 => ?_)
        rw [List.set_set, h3] at hP1 hD1
        have ef : vp_updL (fun i => if i < k then x else g i) k x = (fun i => if i < k + 1 then x else g i) := by
          funext i
          unfold vp_updL
          by_cases e1 : i = k
          · subst e1; simp
          · by_cases e2 : i < k
            · simp [e1, e2, show i < k + 1 by omega]
            · simp [e1, e2, show ¬ i < k + 1 by omega]
        rw [ef] at hP1 hD1
        refine lv_iinc (k := 0) hx hb fq_16 hl rfl rfl (by decide) rfl (fun ls1 hl1 => ?_)
        refine lv_goto (tgt := 6) hx hb fq_19 (by decide) ?_
        refine ih (k + 1) (by omega) H1 locs1 ls1 ⟨hl1.1, hl1.2.1, fun q hq => ?_⟩ hP1 hD1 hS1
        simp only [List.mem_cons, List.not_mem_nil, or_false] at hq
        rcases hq with rfl | rfl | rfl | rfl
        · have e3 : Int32.ofNat (k + 1) = Int32.ofNat k + Int32.ofInt 1 := by
            apply Int32.toInt_inj.mp
            rw [ab_i32n (by omega), Int32.toInt_add, h1, show (Int32.ofInt 1).toInt = 1 from rfl]
            rw [ab_bm (by omega) (by omega)]
            omega
          show ls1[3]? = some (Slot.val (.int (Int32.ofNat (k + 1))))
          rw [e3]
          exact hl1.2.2 (3, .int (Int32.ofNat k + Int32.ofInt 1)) List.mem_cons_self
        · exact hl1.2.2 (4, .int (Int32.ofNat N1)) (List.mem_cons_of_mem _ (by exact List.mem_cons_self))
        · exact hl1.2.2 (0, .ref a1) (List.mem_cons_of_mem _ (List.mem_cons_of_mem _ (by exact List.mem_cons_self)))
        · exact hl1.2.2 (1, .long x) (List.mem_cons_of_mem _ (List.mem_cons_of_mem _ (List.mem_cons_of_mem _ (by exact List.mem_cons_self))))
  refine lv_iconst hx hb fq_0 rfl ?_
  refine lv_istore_n hx hb fq_1 rfl hl (by decide) rfl (fun ls1 hl1 => ?_)
  refine lv_aload_n hx hb fq_2 rfl (hl1.2.2 (0, .ref a1) (List.mem_cons_of_mem _ (by exact List.mem_cons_self))) ?_
  refine va_alen hx hb hK hP q1 1 hw (ty := .long) rfl rfl fq_3 ?_
  refine lv_istore hx hb fq_4 hl1 (by decide) rfl (fun ls2 hl2 => ?_)
  have e0 : ws.set q1 (a1, .inl (cs 1, N1, .inr (.inl (fun i => if i < 0 then x else g i)))) = ws := by
    refine ab_set_self ?_
    rw [hw]
    congr
  refine loop N1 0 (by omega) s.heap [] ls2 ⟨hl2.1, hl2.2.1, fun q hq => ?_⟩ (by rw [e0]; exact hP) (by rw [e0]; exact hD) va_S.rf
  simp only [List.mem_cons, List.not_mem_nil, or_false] at hq
  rcases hq with rfl | rfl | rfl | rfl
  · exact hl2.2.2 (3, .int 0) (List.mem_cons_of_mem _ (by exact List.mem_cons_self))
  · exact hl2.2.2 (4, .int (Int32.ofNat N1)) (by exact List.mem_cons_self)
  · exact hl2.2.2 (0, .ref a1) (List.mem_cons_of_mem _ (List.mem_cons_of_mem _ (by exact List.mem_cons_self)))
  · exact hl2.2.2 (1, .long x) (List.mem_cons_of_mem _ (List.mem_cons_of_mem _ (List.mem_cons_of_mem _ (by exact List.mem_cons_self))))
end FIL
theorem ab_Gl_ok {l : Launch} {D : va_G} {cs : Nat → ClassId} {tS : Nat} : ab_Gl l ZZ wFF D vwCl cs tS := ⟨ab_BIG_good, fun _ _ _ _ _ _ hw hN => fp_go hw hN, fun _ _ _ _ _ _ hw hN => fq_go hw hN⟩
end
