noncomputable section
def ab_Site (Z : ab_Ms) (Mt : ab_Mt) (cl : List vw_C) (own : String) (ix j : Nat) : Prop :=
  Cond.methodLink own ix (Z.1 j) ∈ Z.2.2.2.2 ∧ Cond.initialized (Z.1 j).cls ∈ Z.2.2.2.2 ∧ Cond.code (Z.1 j) (Z.2.1 j) (Z.2.2.1 j) (Z.2.2.2.1 j) ∈ Z.2.2.2.2 ∧ ((Z.1 j).cls ≠ "java/lang/invoke/MethodHandle" ∧ (Z.1 j).cls ≠ "java/lang/invoke/VarHandle" ∧ (parseMethodDescriptor (Z.1 j).desc).map (fun d => d.parameters.length) = some (Mt j).1) ∧ Z.2.2.1 j ≤ 21 ∧
  ((Mt j).2.2 = true → Cond.static (Z.1 j) ∈ Z.2.2.2.2) ∧ ((Mt j).2.2 = false → Cond.instanceMethod (Z.1 j) ∈ Z.2.2.2.2 ∧ Cond.selects (Z.1 j).cls (Z.1 j) (Z.1 j) ∈ Z.2.2.2.2 ∧ ∃ T N, cl[(Mt j).2.1]? = some ((Z.1 j).cls, T, N))
def ab_yFI : MethodName := ⟨"java/util/Arrays", "fill", "([II)V"⟩
def ab_yFL : MethodName := ⟨"java/util/Arrays", "fill", "([JJ)V"⟩
def ab_Js (B : List Cond) (wF : List Cond × List Cond) (bF : ByteArray × ByteArray) (own : String) (ix k : Nat) : Prop := match k with
  | 1 => Cond.methodLink own ix Lib.Math.max.name ∈ B ∧ Cond.static Lib.Math.max.name ∈ B ∧ Cond.initialized "java/lang/Math" ∈ B ∧ Cond.code Lib.Math.max.name Lib.Math.max.code 2 (some .int) ∈ B
  | 2 => Cond.methodLink own ix Lib.Math.min.name ∈ B ∧ Cond.static Lib.Math.min.name ∈ B ∧ Cond.initialized "java/lang/Math" ∈ B ∧ Cond.code Lib.Math.min.name Lib.Math.min.code 2 (some .int) ∈ B
  | 3 => Cond.methodLink own ix Lib.Math.abs.name ∈ B ∧ Cond.static Lib.Math.abs.name ∈ B ∧ Cond.initialized "java/lang/Math" ∈ B ∧ Cond.code Lib.Math.abs.name Lib.Math.abs.code 1 (some .int) ∈ B
  | 4 => Cond.methodLink own ix arraycopyName ∈ B ∧ Cond.native arraycopyName ∈ B ∧ Cond.static arraycopyName ∈ B ∧ Cond.initialized "java/lang/System" ∈ B
  | 6 => Cond.methodLink own ix ab_yFI ∈ B ∧ Cond.static ab_yFI ∈ B ∧ Cond.initialized "java/util/Arrays" ∈ B ∧ wF.1 = Cond.code ab_yFI bF.1 4 none :: B ∧ Cond.code ab_yFI bF.1 4 none ∈ B
  | 7 => Cond.methodLink own ix ab_yFL ∈ B ∧ Cond.static ab_yFL ∈ B ∧ Cond.initialized "java/util/Arrays" ∈ B ∧ wF.2 = Cond.code ab_yFL bF.2 5 none :: B ∧ Cond.code ab_yFL bF.2 5 none ∈ B
  | _ => True
/-- fill, of ints and of longs -/
def ab_FI (l : Launch) (wF : List Cond × List Cond) (D : va_G) (cl : List vw_C) (cs : Nat → ClassId) (tS : Nat) : Prop := ∀ (ws : va_W) (q1 N1 a1 : Nat) (g : Nat → Int32) (x : Int32), ws[q1]? = some (a1, .inl (cs 0, N1, .inl g)) → N1 ≤ 1000000 → ab_Ct l ab_yFI wF.1 (ab_rm 1 0 0) 0 0 D cl cs tS [.ref a1, .int x] ws (fun rv ws' => rv = none ∧ ws' = ws.set q1 (a1, .inl (cs 0, N1, .inl (fun i => if i < N1 then x else g i))))
def ab_FL (l : Launch) (wF : List Cond × List Cond) (D : va_G) (cl : List vw_C) (cs : Nat → ClassId) (tS : Nat) : Prop := ∀ (ws : va_W) (q1 N1 a1 : Nat) (g : Nat → Int64) (x : Int64), ws[q1]? = some (a1, .inl (cs 1, N1, .inr (.inl g))) → N1 ≤ 1000000 → ab_Ct l ab_yFL wF.2 (ab_rm 1 0 0) 0 0 D cl cs tS [.ref a1, .long x] ws (fun rv ws' => rv = none ∧ ws' = ws.set q1 (a1, .inl (cs 1, N1, .inr (.inl (fun i => if i < N1 then x else g i)))))
def ab_MOK (Z : ab_Ms) (Mt : ab_Mt) (wF : List Cond × List Cond) (bF : ByteArray × ByteArray) (cl : List vw_C) (T : ab_Tb) (own : String) : Prop :=
  ab_TOK Z.2.2.2.2 own cl T ∧ (∀ ix j, T.2.2.2.2 ix = some (.inr j) → ab_Site Z Mt cl own ix j) ∧ (∀ ix k, T.2.2.2.2 ix = some (.inl k) → ab_Js Z.2.2.2.2 wF bF own ix k)
theorem ab_TOK_mono {B Ts : List Cond} {own : String} {cl : List vw_C} {T : ab_Tb} (h : ab_TOK B own cl T) (hs : ∀ w ∈ B, w ∈ Ts) : ab_TOK Ts own cl T := by
  obtain ⟨h1, h2, h3, h4⟩ := h
  refine ⟨fun ix q hq => ?_, fun ix v hv => ?_, fun ix v hv => ?_, fun ix hv => hs _ (h4 ix hv)⟩
  · obtain ⟨C, Tb, N, ty0, f1, f2, f3, f4, f5⟩ := h1 ix q hq
    exact ⟨C, Tb, N, ty0, f1, f2, fun w hw => hs _ (f3 w hw), hs _ f4, f5⟩
  · obtain ⟨w, h5, h6⟩ := h2 ix v hv
    exact ⟨w, h5, hs _ h6⟩
  · obtain ⟨w, h5, h6⟩ := h3 ix v hv
    exact ⟨w, h5, hs _ h6⟩
section ABX
variable {p : Program} {l : Launch} {e : Env} {s : State} {m : MethodId} {args : Array Value} {below : List Frame} {meth : Method} {c : Code} {D : va_G} {cl : List vw_C} {A : Nat → Prop} {Q : State → Prop}
variable {I : (Nat → Value) → Nat → va_W → Prop} {tS : Nat} {cs : Nat → ClassId} {pc d d0 j mc ms cells slots : Nat} {Mt : ab_Mt} {T : ab_Tb} {O : ab_Cf} {M : Nat → Bool} {Z : ab_Ms} {wF : List Cond × List Cond} {bF : ByteArray × ByteArray} {ini : Bool}
theorem ab_goodB (hG : ∀ w ∈ Z.2.2.2.2, goodWord w = true) {w : Cond} {B' : List Cond} (hc : w ∈ Z.2.2.2.2) (hB' : B' = Z.2.2.2.2) {i : Nat} : GoodIn (ab_wM Z i) (w :: B') := by
  subst hB'
  intro v hv
  rcases List.mem_cons.mp hv with rfl | hv
  · exact ⟨List.mem_cons_of_mem _ hc, good_of_word (hG _ hc)⟩
  · exact ⟨List.mem_cons_of_mem _ hv, good_of_word (hG _ hv)⟩
theorem ab_jdk_ok (hcs : cells ≤ mc ∧ slots ≤ ms) (hI : ab_IC I M) (X : ab_X l Z j d D cl cs tS p s m args meth c A) (hG : ∀ w ∈ Z.2.2.2.2, goodWord w = true) (hd2 : 2 ≤ d) (hFI : ab_FI l wF D cl cs tS) (hFL : ab_FL l wF D cl cs tS) {ix k : Nat} {st st' : ab_St} (hJ : ab_Js Z.2.2.2.2 wF bF (Z.1 j).cls ix k) (hd : decode (Z.2.1 j) pc = .ok (.invokestatic ix, 3)) (h : ab_jdk k M st = some st')
    (kk : ab_Ok p l e (ab_rm d mc ms) s m args below meth c D cl A Q I tS (ab_tys cs) (Z.2.2.1 j) cells slots (pc + 3) st') : ab_Ok p l e (ab_rm d mc ms) s m args below meth c D cl A Q I tS (ab_tys cs) (Z.2.2.1 j) cells slots pc st := by
  obtain ⟨hx, hb, hml, hown, hts, hK, hA, hZ, hT, hr, hlocks, hname⟩ := X
  have hB : ∀ w ∈ Z.2.2.2.2, w.before args s = true := fun w hw => hts w (List.mem_cons_of_mem _ hw)
  have hloc : 80 ≤ (ab_rm d mc ms).locals := by show 80 ≤ 40 * d; omega
  have hfr : 2 ≤ (ab_rm d mc ms).frames := hd2
  match k, hJ, h with
  | 1, hJ, h =>
    obtain ⟨j1, j2, j3, j4⟩ := hJ
    exact ab_s_binR hI.e ab_maxQ (fun x y => if x < y then y else x) (fun _ _ _ _ _ _ _ a b q => ab_maxQ_ok a b q) (fun x y H locs ls rest hsz hrl q => va_mmax hx hb (by rw [hml, hsz]) hown (hB _ j1) (hB _ j2) (hB _ j3) (hB _ j4) (by omega) (by have := ab_catsum rest; omega) hcs.1 hcs.2 hd q) h kk
  | 2, hJ, h =>
    obtain ⟨j1, j2, j3, j4⟩ := hJ
    exact ab_s_binR hI.e ab_minQ (fun x y => if y < x then y else x) (fun _ _ _ _ _ _ _ a b q => ab_minQ_ok a b q) (fun x y H locs ls rest hsz hrl q => va_mmin hx hb (by rw [hml, hsz]) hown (hB _ j1) (hB _ j2) (hB _ j3) (hB _ j4) (by omega) (by have := ab_catsum rest; omega) hcs.1 hcs.2 hd q) h kk
  | 3, hJ, h =>
    obtain ⟨j1, j2, j3, j4⟩ := hJ
    exact ab_s_iabs hI.e (fun x H locs ls rest hsz hrl q => va_mabs hx hb (by rw [hml, hsz]) hown (hB _ j1) (hB _ j2) (hB _ j3) (hB _ j4) (by omega) (by have := ab_catsum rest; omega) hcs.1 hcs.2 hd q) h kk
  | 4, hJ, h =>
    obtain ⟨j1, j2, j3, j4⟩ := hJ
    have z0 : (0 : Int32).toNatClampNeg = 0 := by decide
    have zn : ¬ (0 : Int32) < 0 := by decide
    have hnw : nativeFrameWords "java/lang/System" "arraycopy" 5 = 7 := by decide
    simp only [ab_jdk] at h
    split at h
    · rename_i s1 hs1
      cases h
      refine ab_s_cpyI hI.m (fun q0 q1 N0 N1 a0 a1 f g i ws H locs ls rest hP hD hS hsz hrl hw0 hw1 i0 i1 i2 q => ?_) hs1 kk
      have hcl := ab_clamp i0
      have hi0 : ¬ i < 0 := by rw [Int32.lt_iff_toInt_lt]; simp; omega
      refine va_copyi hx hb (by rw [hml, hsz]) hown (hB _ j1) (hB _ j2) (hB _ j3) (hB _ j4) hK hP hD hS q0 q1 0 0 hw0 hw1 (ty := .int) rfl rfl rfl zn zn hi0 (by rw [z0]; omega) (by rw [z0]; omega) (fun _ _ => rfl) (by omega) (by have := ab_catsum rest; rw [hnw]; omega) hd ?_
      rw [z0]
      exact q
    · refine ab_s_cpyL hI.m (fun q0 q1 N0 N1 a0 a1 f g i ws H locs ls rest hP hD hS hsz hrl hw0 hw1 i0 i1 i2 q => ?_) h kk
      have hcl := ab_clamp i0
      have hi0 : ¬ i < 0 := by rw [Int32.lt_iff_toInt_lt]; simp; omega
      refine va_copyl hx hb (by rw [hml, hsz]) hown (hB _ j1) (hB _ j2) (hB _ j3) (hB _ j4) hK hP hD hS q0 q1 1 1 hw0 hw1 (ty := .long) rfl rfl rfl zn zn hi0 (by rw [z0]; omega) (by rw [z0]; omega) (fun _ _ => rfl) (by omega) (by have := ab_catsum rest; rw [hnw]; omega) hd ?_
      rw [z0]
      exact q
  | 6, hJ, h =>
    obtain ⟨j1, j2, j3, j4, j5⟩ := hJ
    refine ab_s_fillI hI.m (fun q1 N1 a1 g x ws H locs ls rest hP hD hS hsz hrl hw hN q => ?_) h kk
    refine ab_callS (As := [.ref a1, .int x]) ⟨hx, hb, hml, hown, hts⟩ (hFI ws q1 N1 a1 g x hw hN) ⟨callB_of 2 hts (by rw [j4]; exact ab_goodB hG j5 rfl) j4 rfl rfl (hB _ j3) (hB _ j1) (by decide +kernel) ⟨hfr, by show 8 + (4 + 11) + 40 * 1 ≤ _; omega⟩, hB _ j2⟩ hP hD hS hA hK hZ hT rfl hsz (by have := ab_catsum rest; omega) hd hcs (fun rv ws' H1 locs1 hp hP1 hD1 hS1 => ?_)
    obtain ⟨rfl, rfl⟩ := hp
    exact q H1 locs1 hP1 hD1 hS1
  | 7, hJ, h =>
    obtain ⟨j1, j2, j3, j4, j5⟩ := hJ
    refine ab_s_fillL hI.m (fun q1 N1 a1 g x ws H locs ls rest hP hD hS hsz hrl hw hN q => ?_) h kk
    refine ab_callS (As := [.ref a1, .long x]) ⟨hx, hb, hml, hown, hts⟩ (hFL ws q1 N1 a1 g x hw hN) ⟨callB_of 2 hts (by rw [j4]; exact ab_goodB hG j5 rfl) j4 rfl rfl (hB _ j3) (hB _ j1) (by decide +kernel) ⟨hfr, by show 8 + (5 + 11) + 40 * 1 ≤ _; omega⟩, hB _ j2⟩ hP hD hS hA hK hZ hT rfl hsz (by have := ab_catsum rest; omega) hd hcs (fun rv ws' H1 locs1 hp hP1 hD1 hS1 => ?_)
    obtain ⟨rfl, rfl⟩ := hp
    exact q H1 locs1 hP1 hD1 hS1
  | 0, _, h => simp [ab_jdk] at h
  | 5, _, h => simp [ab_jdk] at h
  | k + 8, _, h => simp [ab_jdk] at h
/-- a step in a method's body -/
theorem ab_ctx_step (hcs : cells ≤ mc ∧ slots ≤ ms) (hI : ab_IC I M) (X : ab_X l Z j d D cl cs tS p s m args meth c A) (hG : ∀ w ∈ Z.2.2.2.2, goodWord w = true) (hd2 : 2 ≤ d) (hFI : ab_FI l wF D cl cs tS) (hFL : ab_FL l wF D cl cs tS) (hMO : ab_MOK Z Mt wF bF cl T (Z.1 j).cls) (CO : ab_CO l Z d0 D cl cs tS M O) (hd0 : d0 + 1 ≤ d) (hini : ini = true → (Z.1 j).name = "<init>") :
    ∀ i len pc st sl, decode (Z.2.1 j) pc = .ok (i, len) → ab_step T Mt O (Z.2.2.1 j) M ini i len pc st = some sl → (∀ w ∈ sl, ab_Ok p l e (ab_rm d mc ms) s m args below meth c D cl A Q I tS (ab_tys cs) (Z.2.2.1 j) cells slots w.1 w.2) → ab_Ok p l e (ab_rm d mc ms) s m args below meth c D cl A Q I tS (ab_tys cs) (Z.2.2.1 j) cells slots pc st := by
  intro i len pc st sl hd h k
  have X' := X
  obtain ⟨hx, hb, hml, hown, hts, hK, hA, hZ, hT, hr, hlocks, hname⟩ := X
  have hsub : ∀ w ∈ Z.2.2.2.2, w ∈ ab_wM Z j := fun w hw => List.mem_cons_of_mem _ hw
  have hB : ∀ w ∈ Z.2.2.2.2, w.before args s = true := fun w hw => hts w (hsub w hw)
  refine ab_step_ok hI hx hb hown hts hK hZ hT (fun q => by rw [hname]; exact hini q) (ab_TOK_mono hMO.1 hsub) (fun ix kk st st' h1 h2 h3 h4 => ab_jdk_ok hcs hI X' hG hd2 hFI hFL (hMO.2.2 ix kk h1) h2 h3 h4) (fun ix j' st sl h1 h2 h3 h4 => ?_) hd h k
  obtain ⟨s1, s2, s3, s4, s5, s6, s7⟩ := hMO.2.1 ix j' h1
  have hroom : ∀ d', d' ≤ d0 → (ab_rm d' 0 0).frames + 1 ≤ (ab_rm d mc ms).frames ∧ 8 + (Z.2.2.1 j' + 11) + (ab_rm d' 0 0).locals ≤ (ab_rm d mc ms).locals := fun d' hd' => ⟨by show d' + 1 ≤ d; omega, by show 8 + (Z.2.2.1 j' + 11) + 40 * d' ≤ 40 * d; omega⟩
  have hcB : ∀ d', d' ≤ d0 → CallB (ab_rm d mc ms) s args (Z.1 j).cls ix (Z.1 j') (Z.2.1 j') (Z.2.2.1 j') (Z.2.2.2.1 j') (ab_wM Z j') (ab_rm d' 0 0) 0 0 (Mt j').1 := fun d' hd' => callB_of (Mt j').1 hts (ab_goodB hG s3 rfl) rfl rfl rfl (hB _ s2) (hB _ s1) s4 (hroom d' hd')
  cases hst : (Mt j').2.2 with
  | true =>
    refine ab_call_ok (q := ("", fun _ => ("", "", "", false), 0)) hI ⟨hx, hb, hml, hown, hts⟩ hK hA hZ hT hcs CO (fun q => by rw [hst] at q; cases q) (fun q => by rw [hst] at q; cases q) (fun _ d' hd' => ⟨hcB d' hd', hB _ (s6 hst)⟩) h2 h3 h4
  | false =>
    obtain ⟨t1, t2, Tb, N, t3⟩ := s7 hst
    refine ab_call_ok (q := ((Z.1 j').cls, Tb, N)) hI ⟨hx, hb, hml, hown, hts⟩ hK hA hZ hT hcs CO (fun _ => t3) (fun _ d' hd' => ⟨hcB d' hd', hB _ t1, hB _ t2⟩) (fun q => by rw [hst] at q; cases q) h2 h3 h4
end ABX
end
