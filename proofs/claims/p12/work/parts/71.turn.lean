noncomputable section
def lw_run (tb : List (Nat × Instr × Nat)) (stp : Instr → Nat → Nat → ab_St → Option (List (Nat × ab_St))) (ter : ab_St → Bool) : Nat → Nat → ab_St → Bool
  | 0, _, _ => false
  | f + 1, pc, st => bif Nat.beq pc 1810 then ter st else (match ab_lk tb pc with
    | none => false
    | some q => (match stp q.1 q.2 pc st with
      | none => false
      | some sl => sl.all (fun w => lw_run tb stp ter f w.1 w.2)))
theorem lw_run_ok {tb : List (Nat × Instr × Nat)} {stp : Instr → Nat → Nat → ab_St → Option (List (Nat × ab_St))} {ter : ab_St → Bool} {P : Nat → ab_St → Prop} (htb : ∀ pc i len, (pc, i, len) ∈ tb → decode code pc = .ok (i, len))
    (hs : ∀ i len pc st sl, decode code pc = .ok (i, len) → stp i len pc st = some sl → (∀ w ∈ sl, P w.1 w.2) → P pc st) (ht : ∀ st, ter st = true → P 1810 st) : ∀ (f pc : Nat) (st : ab_St), lw_run tb stp ter f pc st = true → P pc st
  | 0, _, _, h => by simp [lw_run] at h
  | f + 1, pc, st, h => by
    rw [lw_run] at h
    cases hb : Nat.beq pc 1810 with
    | true =>
      rw [hb] at h
      have e1 : pc = 1810 := Nat.eq_of_beq_eq_true hb
      subst e1
      exact ht st h
    | false =>
      rw [hb] at h
      simp only [cond_false] at h
      split at h
      · cases h
      · rename_i q hq
        split at h
        · cases h
        · rename_i sl hsl
          exact hs _ _ _ _ sl (htb _ _ _ (ab_lk_mem hq)) hsl (fun w hw => lw_run_ok htb hs ht f w.1 w.2 (List.all_eq_true.mp h w hw))
def lw_rf (k : Nat) (v : Option ab_SV) : Bool := match v with
  | some (some (.inr (.inl [j]))) => Nat.beq j k
  | _ => false
theorem lw_rf_ok {k : Nat} {v : Option ab_SV} (h : lw_rf k v = true) : v = some (some (.inr (.inl [k]))) := by
  unfold lw_rf at h
  split at h
  · rw [Nat.eq_of_beq_eq_true h]
  · cases h
def lw_ids : List Nat → List Nat → Bool
  | [], [] => true
  | a :: r, b :: s => Nat.beq a b && lw_ids r s
  | _, _ => false
theorem lw_ids_ok : ∀ {a b : List Nat}, lw_ids a b = true → a = b
  | [], [], _ => rfl
  | x :: r, y :: s, h => by
    rw [lw_ids, Bool.and_eq_true] at h
    rw [Nat.eq_of_beq_eq_true h.1, lw_ids_ok h.2]
  | [], _ :: _, h => by simp [lw_ids] at h
  | _ :: _, [], h => by simp [lw_ids] at h
def lw_Lc (b : Nat) (iv : Int32) (ws : va_W) (ls : Array Slot) : Prop := ls.size = 8 ∧ lv_wf ls ∧ ls[0]? = some (Slot.val (.ref b)) ∧ (∃ a, (ws.map (·.1))[0]? = some a ∧ ls[1]? = some (Slot.val (.ref a))) ∧ (∃ a, (ws.map (·.1))[119]? = some a ∧ ls[2]? = some (Slot.val (.ref a))) ∧ (∃ a, (ws.map (·.1))[164]? = some a ∧ ls[3]? = some (Slot.val (.ref a))) ∧ ls[4]? = some (Slot.val (.int iv))
theorem lw_one {ρ : Nat → Value} {n tS k : Nat} {ad : List Nat} {x : Value} (h : ab_val ρ n ad tS (some (.inr (.inl [k]))) x) : ∃ a, ad[k]? = some a ∧ x = .ref a := by
  obtain ⟨k', a, h1, h2, h3⟩ := h
  rw [List.mem_singleton] at h1
  subst h1
  exact ⟨a, h2, h3⟩
def lw_L : List ab_SV := [some (.inl 7), some (.inr (.inl [0])), some (.inr (.inl [119])), some (.inr (.inl [164])), some (.inl 0), none, none, none]
def lw_e0 (bl bh : Int) : ab_En := [(0, false, .ofNat 0, .ofNat 3066, 0, .ofNat 0), (1, false, ab_m31, ab_p31, 1, .ofNat 0), (2, false, bl, bh, 2, .ofNat 0), (3, false, ab_m31, ab_p31, 3, .ofNat 0), (4, false, ab_m31, ab_p31, 4, .ofNat 0), (5, false, ab_m31, ab_p31, 5, .ofNat 0), (6, false, ab_m31, ab_p31, 6, .ofNat 0)]
def lw_sg (th : ab_TH) : ab_St := ((ab_inH th 8 (lw_e0 ab_m31 ab_p31)).2.1, (ab_inH th 8 (lw_e0 ab_m31 ab_p31)).2.2, (ab_inH th 8 (lw_e0 ab_m31 ab_p31)).1, lw_L, [])
def lw_ρ (iv : Int32) (i0 b : Nat) (xs g : Nat → Int32) : Nat → Value := fun i => if i = 0 then .int iv else if i < 7 then .int (xs (i0 + (i - 1))) else if i = 7 then .ref b else .int (g (i - 8))
theorem lw_fullI (x : Int32) : ab_m31 ≤ x.toInt ∧ x.toInt ≤ ab_p31 := by
  rw [ab_m31_eq, ab_p31_eq]
  have h1 := Int32.le_toInt x
  have h2 := Int32.toInt_lt x
  omega
theorem lw_ev {ρ : Nat → Value} {n i : Nat} {x : Int32} {lo hi : Int} (h : ρ i = .int x) (hlt : i < n) (h1 : lo ≤ x.toInt) (h2 : x.toInt ≤ hi) : ab_evok ρ n (i, false, lo, hi, i, .ofNat 0) := ⟨hlt, hlt, Or.inr ⟨rfl, x, h, h1, h2, x, h, by show x.toInt = x.toInt + 0; omega⟩⟩
theorem lw_env0 {iv : Int32} {i0 b n : Nat} {xs g : Nat → Int32} {bl bh : Int} (hiv : iv.toInt = (i0 : Int)) (hi : i0 ≤ 3066) (hb : bl ≤ (xs (i0 + 1)).toInt ∧ (xs (i0 + 1)).toInt ≤ bh) (hn : 8 ≤ n) : ab_env (lw_ρ iv i0 b xs g) n (lw_e0 bl bh) := by
  intro q hq
  unfold lw_e0 at hq
  simp only [List.mem_cons, List.not_mem_nil, or_false] at hq
  rcases hq with rfl | rfl | rfl | rfl | rfl | rfl | rfl
  · exact lw_ev (i := 0) (x := iv) rfl (by omega) (by show (0 : Int) ≤ _; omega) (by show _ ≤ (3066 : Int); omega)
  · exact lw_ev (i := 1) (x := xs (i0 + 0)) rfl (by omega) (lw_fullI _).1 (lw_fullI _).2
  · exact lw_ev (i := 2) (x := xs (i0 + 1)) rfl (by omega) hb.1 hb.2
  · exact lw_ev (i := 3) (x := xs (i0 + 2)) rfl (by omega) (lw_fullI _).1 (lw_fullI _).2
  · exact lw_ev (i := 4) (x := xs (i0 + 3)) rfl (by omega) (lw_fullI _).1 (lw_fullI _).2
  · exact lw_ev (i := 5) (x := xs (i0 + 4)) rfl (by omega) (lw_fullI _).1 (lw_fullI _).2
  · exact lw_ev (i := 6) (x := xs (i0 + 5)) rfl (by omega) (lw_fullI _).1 (lw_fullI _).2
theorem lw_I0 {iv : Int32} {i0 b n : Nat} {xs g : Nat → Int32} {M : Nat → Bool} {ws : va_W} (hn : 8 ≤ n) : lw_I iv i0 b xs M ws (lw_ρ iv i0 b xs g) n ws := by
  refine ⟨⟨rfl, fun k hk => ?_, rfl, hn⟩, ab_gr.refl⟩
  unfold lw_ρ
  rw [if_neg (by omega), if_pos (by omega), show 1 + k - 1 = k by omega]
theorem lw_loc {iv : Int32} {i0 b n tS : Nat} {xs g : Nat → Int32} {ws : va_W} {ls : Array Slot} (hn : 8 ≤ n) (h : lw_Lc b iv ws ls) : ab_loc (lw_ρ iv i0 b xs g) n (ws.map (·.1)) tS 8 lw_L ls := by
  obtain ⟨h1, h2, h3, ⟨a1, h4, h5⟩, ⟨a2, h6, h7⟩, ⟨a3, h8, h9⟩, h10⟩ := h
  refine ⟨h1, h2, rfl, fun i v hv => ?_⟩
  match i, hv with
  | 0, hv => cases hv; exact ⟨_, h3, by show 7 < n; omega, rfl⟩
  | 1, hv => cases hv; exact ⟨_, h5, 0, a1, List.mem_singleton.mpr rfl, h4, rfl⟩
  | 2, hv => cases hv; exact ⟨_, h7, 119, a2, List.mem_singleton.mpr rfl, h6, rfl⟩
  | 3, hv => cases hv; exact ⟨_, h9, 164, a3, List.mem_singleton.mpr rfl, h8, rfl⟩
  | 4, hv => cases hv; exact ⟨_, h10, by show 0 < n; omega, rfl⟩
  | 5, hv => cases hv
  | 6, hv => cases hv
  | 7, hv => cases hv
  | i + 8, hv => simp [lw_L] at hv
theorem lw_sg_ok {iv : Int32} {i0 b tS : Nat} {xs : Nat → Int32} {cs : Nat → ClassId} {M : Nat → Bool} {ws : va_W} {ls : Array Slot} {th : ab_TH} (hiv : iv.toInt = (i0 : Int)) (hi : i0 ≤ 3066) (hl : lw_Lc b iv ws ls) (hth : ab_th tS (ab_tys cs) th ws) : ∃ ρ, lw_I iv i0 b xs M ws ρ (lw_sg th).1 ws ∧ ab_sat ρ tS (ab_tys cs) 8 (lw_sg th) ls [] ws := by
  obtain ⟨ρ, x1, x2, x3⟩ := ab_inH_ok (lw_env0 (b := b) (g := fun _ => 0) (n := 8) hiv hi (lw_fullI _) (Nat.le_refl _)) hth
  exact ⟨ρ, lw_I_IC _ _ _ _ _ _ (lw_I0 (Nat.le_refl 8)) x1 ab_gr.refl, x2, x3, ab_loc_ext x1 (lw_loc (Nat.le_refl 8) hl), trivial⟩
def lw_ter (rel : Bool) (ths : List ab_TH) (st : ab_St) : Bool := match st.2.2.2.2 with
  | [] => ((lw_sv 7 st.2.2.2.1[0]? && lw_rf 0 st.2.2.2.1[1]?) && ((lw_rf 119 st.2.2.2.1[2]? && lw_rf 164 st.2.2.2.1[3]?) && lw_sv 0 st.2.2.2.1[4]?)) && ((!rel || rl_ck RP st.2.1 st.2.2.1) && ths.any (fun t => ab_leH st.2.1 st.2.2.1 t))
  | _ => false
/-- the same numbers in the places that are the same -/
def lw_sr (th : ab_TH) : ab_St := ((lw_sg th).1, rl_bs RP (rl_al RP (lw_sg th).2.2.1) (lw_sg th).2.1, rl_al RP (lw_sg th).2.2.1, (lw_sg th).2.2.2)
theorem lw_sr_ok {iv : Int32} {i0 b tS : Nat} {xs : Nat → Int32} {cs : Nat → ClassId} {M : Nat → Bool} {ws : va_W} {ls : Array Slot} {th : ab_TH} (hiv : iv.toInt = (i0 : Int)) (hi : i0 ≤ 3066) (hl : lw_Lc b iv ws ls) (hth : ab_th tS (ab_tys cs) th ws) (hE : rl_EQ RP ws) : ∃ ρ, lw_I iv i0 b xs M ws ρ (lw_sr th).1 ws ∧ ab_sat ρ tS (ab_tys cs) 8 (lw_sr th) ls [] ws := by
  obtain ⟨ρ, h1, h2⟩ := lw_sg_ok (M := M) (xs := xs) hiv hi hl hth
  exact ⟨ρ, h1, rl_bs_ok h2.1 (rl_al_ok h2.2.1 hE) hE, rl_al_ok h2.2.1 hE, h2.2.2⟩
end
