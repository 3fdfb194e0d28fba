noncomputable section
def va_AOA (ty : FieldType) (U : State) : Prop := (Cond.arrayOver (.array ty)).before #[] U = true
theorem va_AOA.use {ty : FieldType} {A : Array Value} {U : State} (h : va_AOA ty U) : (Cond.arrayOver (.array ty)).before A U = true := h
def gw_is (comp : ClassId) (x : Class) : Bool := match x.kind with
  | .array component _ => component == comp
  | _ => false
theorem gw_bare (vm : Vm) (comp : ClassId) : vm.bare.classes.findIdx? (gw_is comp) = vm.classes.findIdx? (gw_is comp) := by
  simp only [Vm.bare, Array.findIdx?_map]
  rfl
theorem va_AOA.parts {ty : FieldType} {U : State} (h : va_AOA ty U) : ∃ comp c k, U.vm.findClass (FieldType.array ty).toString = some comp ∧ U.vm.classes.findIdx? (gw_is comp) = some c ∧ U.vm.classes[c]? = some k ∧ k.kind = .array comp (.array ty) ∧ U.vm.findClass ("[" ++ (FieldType.array ty).toString) = some c := by
  have h2 : (Cond.arrayOver (.array ty)).before #[] U = true := h
  simp only [Cond.before, Cond.holds, Cond.value, beq_iff_eq] at h2
  obtain ⟨comp, hc, h3⟩ := Option.bind_eq_some_iff.mp h2
  obtain ⟨c, hi, h4⟩ := Option.bind_eq_some_iff.mp h3
  obtain ⟨k, hk, hb⟩ := Option.map_eq_some_iff.mp h4
  obtain ⟨hlt, hp, -⟩ := Array.findIdx?_eq_some_iff_getElem.mp hi
  rw [(Array.getElem?_eq_some_iff.mp hk).2] at hp
  cases hq : k.kind with
  | array a b =>
    rw [hq] at hb hp
    simp at hb hp
    exact ⟨comp, c, k, hc, hi, hk, by rw [hq, hp, hb.1], hb.2⟩
  | _ => rw [hq] at hb; simp at hb
theorem va_AOA.moved {ty : FieldType} {u U : State} (hvm : u.vm.Alike U.vm) (h : va_AOA ty u) : va_AOA ty U := by
  obtain ⟨comp, c, k, h1, h2, h3, h4, h5⟩ := h.parts
  obtain ⟨k', hk', he⟩ := hvm.2.2 _ _ h3
  have hi : U.vm.classes.findIdx? (gw_is comp) = some c := by
    rw [← gw_bare]
    first | rw [hvm.bare_eq] | rw [← hvm.bare_eq]
    rw [gw_bare]
    exact h2
  have hkind : k'.kind = .array comp (.array ty) := by rw [he]; exact h4
  have f1 : U.vm.findClass (FieldType.array ty).toString = some comp := by rw [hvm.findClass]; exact h1
  have f2 : U.vm.findClass ("[" ++ (FieldType.array ty).toString) = some c := by rw [hvm.findClass]; exact h5
  unfold va_AOA Cond.before Cond.holds
  simp only [Cond.value]
  rw [f1, Option.bind_some]
  refine (congrArg (fun o : Option Nat => (o.bind (fun c => (U.vm.classes[c]?).map fun (k : Class) => match k.kind with | .array _ t => decide (t = FieldType.array ty) && decide (U.vm.findClass ("[" ++ (FieldType.array ty).toString) = some c) | _ => false) == some true)) hi).trans ?_
  simp [hk', hkind, f2]
/-- a grid while its rows come -/
def gw_s (s : State) (o : Nat → Cell) (r : Cell) : Nat → State
  | 0 => s.pushCell (o 0)
  | i + 1 => ((gw_s s o r i).pushCell r).setCell s.heap.size (o (i + 1))
theorem gw_facts {s : State} {o : Nat → Cell} {r : Cell} {N M : Nat} (ho : ∀ i, (o i).slots.size = N) (hr : r.slots.size = M) : ∀ i, (gw_s s o r i).heap.size = s.heap.size + 1 + i ∧ (gw_s s o r i).heap[s.heap.size]? = some (o i) ∧ (gw_s s o r i).vm = s.vm ∧ (gw_s s o r i).slotsUsed = s.slotsUsed + N + i * M
  | 0 => ⟨by simp [gw_s], by simp [gw_s], rfl, by simp [gw_s, ho]⟩
  | i + 1 => by
    obtain ⟨a, b, d, u⟩ := gw_facts (s := s) ho hr i
    have hlt : s.heap.size < (gw_s s o r i).heap.size := by omega
    have hb : ((gw_s s o r i).pushCell r).heap[s.heap.size]? = some (o i) := by rw [State.heap_pushCell_of_lt (h := hlt)]; exact b
    refine ⟨?_, State.heap_setCell_self hb, by simp [gw_s, d], ?_⟩
    · simp [gw_s, State.setCell, a]; omega
    · simp [gw_s, u, hr, Nat.succ_mul]; omega
theorem gw_top {s : State} {f : JFrame} {o : Nat → Cell} {r : Cell} : ∀ i, gw_s (s.setTop f) o r i = (gw_s s o r i).setTop f
  | 0 => rfl
  | i + 1 => by simp only [gw_s, gw_top (s := s) (f := f) i, State.heap_setTop, State.pushCell_setTop, State.setCell_setTop]
theorem gw_old {s : State} {o : Nat → Cell} {r : Cell} {N M : Nat} (ho : ∀ i, (o i).slots.size = N) (hr : r.slots.size = M) {a : Addr} (ha : a < s.heap.size) : ∀ i, (gw_s s o r i).heap[a]? = s.heap[a]?
  | 0 => State.heap_pushCell_of_lt _ _ ha
  | i + 1 => by
    have f1 := (gw_facts (s := s) ho hr i).1
    show (((gw_s s o r i).pushCell r).setCell s.heap.size _).heap[a]? = _
    have hl : a < (gw_s s o r i).heap.size := Nat.lt_of_lt_of_le ha (by rw [f1]; omega)
    rw [State.heap_setCell_other (Nat.ne_of_gt ha), State.heap_pushCell_of_lt (h := hl)]
    exact gw_old ho hr ha i
theorem gw_row {s : State} {o : Nat → Cell} {r : Cell} {N M : Nat} (ho : ∀ i, (o i).slots.size = N) (hr : r.slots.size = M) : ∀ i j, j < i → (gw_s s o r i).heap[s.heap.size + 1 + j]? = some r
  | 0, _, h => absurd h (Nat.not_lt_zero _)
  | i + 1, j, h => by
    have f1 := (gw_facts (s := s) ho hr i).1
    show (((gw_s s o r i).pushCell r).setCell s.heap.size _).heap[s.heap.size + 1 + j]? = _
    rw [State.heap_setCell_other (show s.heap.size ≠ s.heap.size + 1 + j by omega)]
    by_cases hj : j < i
    · have hl : s.heap.size + 1 + j < (gw_s s o r i).heap.size := by rw [f1]; omega
      rw [State.heap_pushCell_of_lt (h := hl)]
      exact gw_row ho hr i j hj
    · have e : j = i := by omega
      subst e
      rw [← f1]
      exact State.heap_pushCell_size _ _
def gw_o (c : ClassId) (N h0 i : Nat) : Cell := arrV c N (fun j => va_rf (if j < i then some (h0 + 1 + j) else none))
theorem gw_o_step (c : ClassId) (N h0 i : Nat) : (gw_o c N h0 i).setSlot i (.ref (h0 + 1 + i)) = gw_o c N h0 (i + 1) := by
  unfold gw_o
  rw [arrV_store]
  refine congrArg (arrV c N) (funext fun j => ?_)
  by_cases e : j = i
  · subst e; simp [updV, va_rf]
  · by_cases h : j < i
    · simp [updV, e, h, Nat.lt_succ_of_lt h]
    · simp [updV, e, h, show ¬ j < i + 1 by omega]
theorem gw_o_size (c : ClassId) (N h0 : Nat) : ∀ i, (gw_o c N h0 i).slots.size = N := fun i => arrV_size _ _ _
section GWM
variable {E : CtlPost} {e : Env} {d : Bool} {acts : List Action} {s : State}
theorem gw_wpNew {c comp : ClassId} {k : Class} {ty : FieldType} {n : Nat} {v : Value} (hk : s.vm.classes[c]? = some k) (hkind : k.kind = .array comp ty) (h3 : ¬ n > e.platform.arrayLengthLimit) (h4 : ¬ n * componentBytes ty > e.platform.maxHeapBytes) (hfit : fits ty v = true) (hdef : v.isDefault = true) {Q : Addr → Pre}
    (h1 : s.heap.size < e.platform.maxCells) (h2 : s.slotsUsed + n ≤ e.platform.maxSlots) (hq : Q s.heap.size d acts (s.pushCell (arrV c n (fun _ => v)))) : Sem.wp (Jvm.newArray c n v) Q E e d acts s := by
  rw [← arrV_new] at hq
  have hf : ∀ i x, (Array.replicate n v)[i]? = some x → s.fitsSlot c .none i x = true := by
    intro i x hx
    rw [Array.getElem?_replicate] at hx
    split at hx
    · cases hx; simp [State.fitsSlot, State.slotType?, hk, hkind, hfit]
    · cases hx
  have ha : allocActs (Array.replicate n v) s.heap.size acts = acts := by
    unfold allocActs
    rw [if_pos (by rw [Array.all_replicate]; split <;> simp [hdef])]
  simp only [Jvm.newArray, Jvm.arrayFits, wp_bind', W.ask, W.ite, h3, if_false, wp_pure', W.theClass, hk, hkind, h4, W.alloc, W.stop, Option.some.injEq, exists_eq_left', Array.size_replicate, ha]
  rw [if_neg (by omega)]
  exact ⟨h1, h2, hf, hq⟩
theorem gw_wp {c comp cc : ClassId} {k kc : Class} {ty : FieldType} {n m : Int32} (hk : s.vm.classes[c]? = some k) (hkind : k.kind = .array comp (.array ty)) (hkc : s.vm.classes[comp]? = some kc) (hkindc : kc.kind = .array cc ty) (hn : ¬ n < 0) (hm : ¬ m < 0)
    (hl1 : ¬ n.toNatClampNeg > e.platform.arrayLengthLimit) (hh1 : ¬ n.toNatClampNeg * 4 > e.platform.maxHeapBytes) (hl2 : ¬ m.toNatClampNeg > e.platform.arrayLengthLimit) (hh2 : ¬ m.toNatClampNeg * componentBytes ty > e.platform.maxHeapBytes) (hdf : fits ty (defaultValue ty) = true) (hdd : (defaultValue ty).isDefault = true)
    (hc : s.heap.size + 1 + n.toNatClampNeg ≤ e.platform.maxCells) (hs : s.slotsUsed + n.toNatClampNeg + n.toNatClampNeg * m.toNatClampNeg ≤ e.platform.maxSlots)
    {Q : Addr → Pre} (hq : ∀ d' acts', Q s.heap.size d' acts' (gw_s s (gw_o c n.toNatClampNeg s.heap.size) (arrV comp m.toNatClampNeg (fun _ => defaultValue ty)) n.toNatClampNeg)) : Sem.wp (Op.multianewarray.make c [n, m]) Q E e d acts s := by
  have hfind : ([m].find? (· < 0)) = none := by simp [hm]
  have hf1 : ∀ v : Value, v = .null ∨ (∃ a, v = .ref a) → fits (.array ty) v = true := by
    intro v hv
    rcases hv with rfl | ⟨a, rfl⟩ <;> rfl
  have go := gw_o_size c n.toNatClampNeg s.heap.size
  have gr : (arrV comp m.toNatClampNeg (fun _ => defaultValue ty)).slots.size = m.toNatClampNeg := arrV_size _ _ _
  rw [Op.multianewarray.make]
  simp only [wp_bind', W.ite, hn, if_false, wp_pure', W.theClass, hk, hkind, Option.some.injEq, exists_eq_left']
  refine gw_wpNew hk hkind hl1 hh1 (hf1 _ (Or.inl rfl)) rfl (by omega) (by have := Nat.zero_le (n.toNatClampNeg * m.toNatClampNeg); omega) ?_
  simp only [hfind]
  rw [ite_self, wp_bind', Std.Legacy.Range.forIn_eq_forIn_range']
  have hsz : ([:n.toNatClampNeg] : Std.Legacy.Range).size = n.toNatClampNeg := by simp [Std.Legacy.Range.size]
  rw [hsz]
  show Sem.wp (forIn (List.range' 0 n.toNatClampNeg 1) PUnit.unit _) _ E e d acts _
  refine wp_forIn_inv (fun rest s' => ∃ i, i ≤ n.toNatClampNeg ∧ rest = List.range' i (n.toNatClampNeg - i) ∧ s' = gw_s s (gw_o c n.toNatClampNeg s.heap.size) (arrV comp m.toNatClampNeg (fun _ => defaultValue ty)) i) _ _ ⟨0, Nat.zero_le _, rfl, ?_⟩ ?_ ?_
  · show s.pushCell _ = s.pushCell _
    refine congrArg s.pushCell ?_
    unfold gw_o
    refine congrArg (arrV c _) (funext fun j => ?_)
    simp [va_rf]
  · rintro x rest s' d' acts' Q' ⟨i, hi, hl, rfl⟩ hnext
    have hlt : i < n.toNatClampNeg := by
      rcases Nat.lt_or_ge i n.toNatClampNeg with h | h
      · exact h
      · rw [show n.toNatClampNeg - i = 0 by omega] at hl; simp at hl
    rw [show n.toNatClampNeg - i = (n.toNatClampNeg - (i + 1)) + 1 by omega, List.range'_succ] at hl
    obtain ⟨rfl, hrest⟩ := List.cons.inj hl
    obtain ⟨f1, f2, f3, f4⟩ := gw_facts (s := s) go gr x
    have hmul : x * m.toNatClampNeg + m.toNatClampNeg ≤ n.toNatClampNeg * m.toNatClampNeg := by
      have := Nat.mul_le_mul_right m.toNatClampNeg (show x + 1 ≤ n.toNatClampNeg from hlt)
      rw [Nat.succ_mul] at this; exact this
    simp only [wp_bind']
    rw [Op.multianewarray.make]
    simp only [wp_bind', W.ite, hm, if_false, wp_pure', W.theClass, f3, hkc, hkindc, Option.some.injEq, exists_eq_left']
    refine gw_wpNew (by rw [f3]; exact hkc) hkindc hl2 hh2 hdf hdd (by rw [f1]; omega) (by rw [f4]; omega) ?_
    have hlt0 : s.heap.size < (gw_s s (gw_o c n.toNatClampNeg s.heap.size) (arrV comp m.toNatClampNeg (fun _ => defaultValue ty)) x).heap.size := by rw [f1]; omega
    simp only [wp_bind', W.writeLoc, wp_pure']
    refine ⟨gw_o c n.toNatClampNeg s.heap.size x, by rw [State.heap_pushCell_of_lt (h := hlt0)]; exact f2, by unfold gw_o arrV; simp, by rw [go]; exact hlt, ?_, hnext _ _ _ ⟨x + 1, hlt, hrest, ?_⟩⟩
    · show State.fitsSlot _ c .none x _ = true
      simp [State.fitsSlot, State.slotType?, f3, hk, hkind, hf1 _ (Or.inr ⟨_, rfl⟩)]
    · rw [f1, gw_o_step]; rfl
  · rintro s' d' acts' ⟨i, hi, hl, rfl⟩
    have hiN : i = n.toNatClampNeg := by
      rcases Nat.lt_or_ge i n.toNatClampNeg with h | h
      · rw [show n.toNatClampNeg - i = (n.toNatClampNeg - (i + 1)) + 1 by omega, List.range'_succ] at hl; cases hl
      · omega
    subst hiN
    simp only [wp_pure']
    exact hq _ _
end GWM
theorem gw_stand {p : Program} {l : Launch} {e : Env} {R : Room} {s : State} {m : MethodId} {args : Array Value} {below : List Frame} {meth : Method} {c : Code} {T : State} {locs : List Loc} {cells slots N M : Nat} (X : Stand p l e R s m args below meth c T locs cells slots) {cA : ClassId} {r : Cell} (hr : r.slots.size = M) :
    ∀ i, Stand p l e R s m args below meth c (gw_s T (gw_o cA N T.heap.size) r i) (locs ++ (List.range i).map fun j => ⟨T.heap.size, j⟩) (cells + 1 + i) (slots + N + i * M)
  | 0 => by
    have h := X.pushed (gw_o cA N T.heap.size 0)
    rw [gw_o_size] at h
    simpa [gw_s] using h
  | i + 1 => by
    have Xi := gw_stand (N := N) (cA := cA) X hr i
    obtain ⟨f1, f2, f3, f4⟩ := gw_facts (s := T) (gw_o_size cA N T.heap.size) hr i
    have hl : T.heap.size < (gw_s T (gw_o cA N T.heap.size) r i).heap.size := by rw [f1]; omega
    have hcell : ((gw_s T (gw_o cA N T.heap.size) r i).pushCell r).heap[T.heap.size]? = some (gw_o cA N T.heap.size i) := by rw [State.heap_pushCell_of_lt (h := hl)]; exact f2
    have h := (Xi.pushed r).stored hcell i (.ref (T.heap.size + 1 + i))
    rw [hr, gw_o_step] at h
    rw [show (locs ++ (List.range (i + 1)).map fun j => (⟨T.heap.size, j⟩ : Loc)) = (locs ++ (List.range i).map fun j => (⟨T.heap.size, j⟩ : Loc)) ++ [⟨T.heap.size, i⟩] by simp [List.range_succ, List.append_assoc], show slots + N + (i + 1) * M = slots + N + i * M + M by rw [Nat.succ_mul]; omega]
    exact h
section GWW
variable {p : Program} {l : Launch} {e : Env} {R : Room} {s : State} {m : MethodId} {args : Array Value} {below : List Frame} {meth : Method} {c : Code} {H : Heap} {locs : List Loc} {cells slots : Nat} {Q : State → Prop}
variable {cc : ByteArray} {pc : Nat} {ls : Array Slot} {rest : List Value} {D : va_G} {cl : List vw_C} {A : Nat → Prop} {ws : va_W}
/-- new T[n][k]: the outer row, then the rows -/
theorem gw_new (hexec : p.tables.exec = Jvm.exec) (hb : c.code = cc) {own : String} {index : Nat} {ty : FieldType} {cy cA : ClassId} (hown : s.vm.findClass own = some m.cls) (hclink : (Cond.classLink own index ("[" ++ (FieldType.array ty).toString)).before args s = true) (hover : va_AOA ty s) (harr : (Cond.arrayClass ty).before args s = true) (hcy : s.vm.findClass (FieldType.array ty).toString = some cy) (hcA : s.vm.findClass ("[" ++ (FieldType.array ty).toString) = some cA)
    (hP : va_P D cl ws H) (hD : va_D A ws) (hS : va_S A s.heap H locs) (hA : ∀ q, s.heap.size ≤ q → A q) {n k : Int32} {N M : Nat} {z : vp_A} (hz : vp_cell cy z = arrV cy M (fun _ => defaultValue ty)) (hn : ¬ n < 0) (hk : ¬ k < 0) (hN : n.toNatClampNeg = N) (hM : k.toNatClampNeg = M)
    (hb1 : N * 4 ≤ 536870912) (hb2 : M * componentBytes ty ≤ 536870912) (hb3 : M ≤ 536870912) (hdf : fits ty (defaultValue ty) = true) (hdd : (defaultValue ty).isDefault = true) (hcells : cells + (1 + N) ≤ R.cells) (hslots : slots + (N + N * M) ≤ R.slots) (hdg : decode cc pc = .ok (.multianewarray index 2, 4))
    (kk : ∀ (q : Nat) (H1 : Heap) (locs1 : List Loc), va_P D cl (ws ++ ((q, .inl (cA, N, .inr (.inr (.inr (.inr (fun i => if i < N then some (q + 1 + i) else none)))))) :: (List.range N).map (fun i => (q + 1 + i, .inl (cy, z))))) H1 → va_D A (ws ++ ((q, .inl (cA, N, .inr (.inr (.inr (.inr (fun i => if i < N then some (q + 1 + i) else none)))))) :: (List.range N).map (fun i => (q + 1 + i, .inl (cy, z))))) → va_S A s.heap H1 locs1 →
      W p l e R s m args below meth c H1 locs1 (cells + 1 + N) (slots + N + N * M) Q (F0 m (pc + 4) ls (.ref q :: rest))) : W p l e R s m args below meth c H locs cells slots Q (F0 m pc ls (.int k :: .int n :: rest)) := by
  subst hN
  subst hM
  intro T hT X
  have hpl : e.platform.magicAccessors = ({} : Platform).magicAccessors := by rw [X.admits.platform]
  obtain ⟨comp, cA', kA, h1, -, hkA, hkindA, h2⟩ := hover.parts
  obtain ⟨comp', kC, cc', h3, hkC, hkindC⟩ := Cond.arrayClass_spec harr
  cases hcA.symm.trans h2
  cases hcy.symm.trans h1
  have ecomp : comp' = cy := Option.some.inj (h3.symm.trans h1)
  subst ecomp
  obtain ⟨c0, hfc0, hcl⟩ := Cond.classLink_spec hown hclink e.platform hpl
  cases hcA.symm.trans hfc0
  obtain ⟨hg1, hwarm1, -⟩ := State.classEntry (e := e) X.warmed hcl
  generalize T.vm.noted m.cls index (.cls cA) = vm1 at hg1 hwarm1
  have hal : s.vm.Alike vm1 := hwarm1.alike
  obtain ⟨kA1, hkA1, heA⟩ := hal.2.2 _ _ hkA
  obtain ⟨kC1, hkC1, heC⟩ := hal.2.2 _ _ hkC
  have hkindA1 : kA1.kind = .array comp' (.array ty) := by rw [heA]; exact hkindA
  have hkindC1 : kC1.kind = .array cc' ty := by rw [heC]; exact hkindC
  have X1 := X.noted hwarm1
  obtain ⟨hr1, hr2⟩ := X.roomAbove hcells hslots
  have hl1 : ¬ n.toNatClampNeg > e.platform.arrayLengthLimit := by rw [Launch.admits_arrayLengthLimit X.admits]; omega
  have hh1 : ¬ n.toNatClampNeg * 4 > e.platform.maxHeapBytes := by rw [Launch.admits_maxHeapBytes X.admits]; omega
  have hl2 : ¬ k.toNatClampNeg > e.platform.arrayLengthLimit := by rw [Launch.admits_arrayLengthLimit X.admits]; omega
  have hh2 : ¬ k.toNatClampNeg * componentBytes ty > e.platform.maxHeapBytes := by rw [Launch.admits_maxHeapBytes X.admits]; omega
  have hTh : (T.setVm vm1).heap = H := hT
  have hrz : (arrV comp' k.toNatClampNeg (fun _ => defaultValue ty)).slots.size = k.toNatClampNeg := arrV_size _ _ _
  have XF := gw_stand (N := n.toNatClampNeg) (cA := cA) X1 hrz n.toNatClampNeg
  obtain ⟨f1, f2, -, -⟩ := gw_facts (s := T.setVm vm1) (gw_o_size cA n.toNatClampNeg (T.setVm vm1).heap.size) hrz n.toNatClampNeg
  have hold : ∀ x : Nat, x < H.size → (gw_s (T.setVm vm1) (gw_o cA n.toNatClampNeg (T.setVm vm1).heap.size) (arrV comp' k.toNatClampNeg (fun _ => defaultValue ty)) n.toNatClampNeg).heap[x]? = H[x]? := fun x hx => by
    rw [gw_old (gw_o_size cA n.toNatClampNeg _) hrz (by rw [hTh]; exact hx), hTh]
  have hrow := fun j hj => gw_row (s := T.setVm vm1) (gw_o_size cA n.toNatClampNeg (T.setVm vm1).heap.size) hrz n.toNatClampNeg j hj
  rw [hTh] at f1 f2 hold hrow XF
  generalize hF : gw_s (T.setVm vm1) (gw_o cA n.toNatClampNeg H.size) (arrV comp' k.toNatClampNeg (fun _ => defaultValue ty)) n.toNatClampNeg = F at f1 f2 hold hrow XF
  have hnew : ∀ (k9 : Nat) (x : Nat × va_E), (((H.size, .inl (cA, n.toNatClampNeg, .inr (.inr (.inr (.inr (fun i => if i < n.toNatClampNeg then some (H.size + 1 + i) else none)))))) :: (List.range n.toNatClampNeg).map (fun i => (H.size + 1 + i, .inl (comp', z))) : va_W))[k9]? = some x → va_at D cl x F.heap ∧ H.size ≤ x.1 := by
    intro k9 x hx
    match k9, hx with
    | 0, hx =>
      have hx2 : ((H.size, .inl (cA, n.toNatClampNeg, .inr (.inr (.inr (.inr (fun i => if i < n.toNatClampNeg then some (H.size + 1 + i) else none)))))) : Nat × va_E) = x := by simpa using hx
      subst hx2
      refine ⟨?_, Nat.le_refl _⟩
      show F.heap[H.size]? = some (vp_cell _ _)
      rw [f2]
      rfl
    | j + 1, hx =>
      have hx2 : ((List.range n.toNatClampNeg).map (fun i => ((H.size + 1 + i, .inl (comp', z)) : Nat × va_E)))[j]? = some x := by simpa using hx
      obtain ⟨i, hi, rfl⟩ := List.mem_map.mp (List.mem_of_getElem? hx2)
      refine ⟨?_, by show H.size ≤ H.size + 1 + i; omega⟩
      show F.heap[H.size + 1 + i]? = some (vp_cell _ _)
      rw [hz]
      exact hrow i (List.mem_range.mp hi)
  have hP1 := (hP.kept (H1 := F.heap) (fun k9 x hx => hold x.1 ((hP k9 x hx).lt))).app (fun k9 x hx => (hnew k9 x hx).1)
  have hsz : s.heap.size ≤ H.size := hS.1
  have hD1 : va_D A (ws ++ ((H.size, .inl (cA, n.toNatClampNeg, .inr (.inr (.inr (.inr (fun i => if i < n.toNatClampNeg then some (H.size + 1 + i) else none)))))) :: (List.range n.toNatClampNeg).map (fun i => (H.size + 1 + i, .inl (comp', z))))) := by
    have hget : ∀ (j : Nat) (x : Nat × va_E), (((H.size, .inl (cA, n.toNatClampNeg, .inr (.inr (.inr (.inr (fun i => if i < n.toNatClampNeg then some (H.size + 1 + i) else none)))))) :: (List.range n.toNatClampNeg).map (fun i => (H.size + 1 + i, .inl (comp', z))) : va_W))[j]? = some x → x.1 = H.size + j := by
      intro j x hx
      match j, hx with
      | 0, hx =>
        have hx2 : ((H.size, .inl (cA, n.toNatClampNeg, .inr (.inr (.inr (.inr (fun i => if i < n.toNatClampNeg then some (H.size + 1 + i) else none)))))) : Nat × va_E) = x := by simpa using hx
        subst hx2; rfl
      | j + 1, hx =>
        have hx2 : ((List.range n.toNatClampNeg).map (fun i => ((H.size + 1 + i, .inl (comp', z)) : Nat × va_E)))[j]? = some x := by simpa using hx
        rw [List.getElem?_map] at hx2
        obtain ⟨i, hi, rfl⟩ := Option.map_eq_some_iff.mp hx2
        obtain ⟨h1, h2⟩ := List.getElem?_eq_some_iff.mp hi
        rw [List.getElem_range] at h2
        subst h2
        show H.size + 1 + j = H.size + (j + 1)
        omega
    refine ⟨fun i j x y hi hj he => ?_, fun k9 x hx => ?_⟩
    · by_cases hli : i < ws.length
      · rw [List.getElem?_append_left hli] at hi
        by_cases hlj : j < ws.length
        · rw [List.getElem?_append_left hlj] at hj
          exact hD.1 i j x y hi hj he
        · rw [List.getElem?_append_right (by omega)] at hj
          have q1 := (hP i x hi).lt
          have q2 := hget _ y hj
          omega
      · rw [List.getElem?_append_right (by omega)] at hi
        by_cases hlj : j < ws.length
        · rw [List.getElem?_append_left hlj] at hj
          have q1 := (hP j y hj).lt
          have q2 := hget _ x hi
          omega
        · rw [List.getElem?_append_right (by omega)] at hj
          have q1 := hget _ x hi
          have q2 := hget _ y hj
          omega
    · by_cases hl : k9 < ws.length
      · rw [List.getElem?_append_left hl] at hx
        exact hD.2 k9 x hx
      · rw [List.getElem?_append_right (by omega)] at hx
        exact hA _ (Nat.le_trans hsz (hnew _ x hx).2)
  have hS1 : va_S A s.heap F.heap (locs ++ (List.range n.toNatClampNeg).map fun j => ⟨H.size, j⟩) := by
    refine ⟨by rw [f1]; omega, fun q h1 h2 => ?_, fun q hq => ?_⟩
    · rw [hold q (by omega)]
      exact hS.2.1 q h1 h2
    · rcases List.mem_append.mp hq with h | h
      · exact hS.2.2 q h
      · obtain ⟨j, -, rfl⟩ := List.mem_map.mp h
        exact hA _ hsz
  obtain ⟨t, b1, b2⟩ := kk H.size F.heap _ hP1 hD1 hS1 F rfl XF
  refine ⟨t, ?_, b2⟩
  jvm_step X.here [X.here.top, hexec, hb, hdg]
  simp only [Op.multianewarray.sem, wp_bind', W.resolveClassAt_links (State.method?_setTop (F0 m pc ls (.int k :: .int n :: rest)) X.here.top) hg1]
  rw [W.popN, if_neg (by decide)]
  refine ⟨F0 m pc ls (.int k :: .int n :: rest), State.topJava?_setTop' (s := T.setVm vm1) _ X.here.top, [.int n, .int k], rest, rfl, rfl, ?_⟩
  simp only [List.mapM_cons, List.mapM_nil, wp_bind', wp_pure']
  refine gw_wp (k := kA1) (kc := kC1) (comp := comp') (cc := cc') (ty := ty) hkA1 hkindA1 hkC1 hkindC1 hn hk hl1 hh1 hl2 hh2 hdf hdd (by show T.heap.size + 1 + _ ≤ _; omega) (by show T.slotsUsed + _ + _ ≤ _; omega) (fun d' acts' => ?_)
  have eS : ((T.setTop (F0 m pc ls (.int k :: .int n :: rest))).setVm vm1).setTop (F0 m pc ls rest) = (T.setVm vm1).setTop (F0 m pc ls rest) := by
    show ((T.setVm vm1).setTop _).setTop _ = _
    rw [State.setTop_setTop]
  have eF : gw_s (((T.setTop (F0 m pc ls (.int k :: .int n :: rest))).setVm vm1).setTop (F0 m pc ls rest)) (gw_o cA n.toNatClampNeg H.size) (arrV comp' k.toNatClampNeg (fun _ => defaultValue ty)) n.toNatClampNeg = F.setTop (F0 m pc ls rest) := by
    rw [eS, gw_top, hF]
  have eH : (((T.setTop (F0 m pc ls (.int k :: .int n :: rest))).setVm vm1).setTop (F0 m pc ls rest)).heap = H := by
    rw [eS, State.heap_setTop]; exact hTh
  show Sem.wp _ _ _ _ _ _ (gw_s (((T.setTop (F0 m pc ls (.int k :: .int n :: rest))).setVm vm1).setTop (F0 m pc ls rest)) (gw_o cA n.toNatClampNeg (((T.setTop (F0 m pc ls (.int k :: .int n :: rest))).setVm vm1).setTop (F0 m pc ls rest)).heap.size) (arrV comp' k.toNatClampNeg (fun _ => defaultValue ty)) n.toNatClampNeg)
  rw [eH, eF]
  simp only [wp_bind', W.mark, W.pushRef, State.topJava?_setTop' _ XF.here.top, Option.some.injEq, exists_eq_left', State.setTop_setTop, State.heap_setTop]
  intro acts
  simp [jvm, XF.here.top]
  exact b1
end GWW
end
