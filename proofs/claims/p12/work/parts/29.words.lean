noncomputable section
/-- the words that the mask marks are good -/
def zgm (ws : List Cond) (ms : List Bool) : Bool := @List.rec Cond (fun _ => List Bool → Bool) (fun _ => true) (fun w _ ih ms => @List.rec Bool (fun _ => Bool) true (fun b r _ => @Bool.rec (fun _ => Bool) (ih r) (@Bool.rec (fun _ => Bool) false (ih r) (goodWord w)) b) ms) ws ms
theorem zgood : ∀ {ws : List Cond} {ms : List Bool} {j : Nat} {w : Cond}, zget ws j = some w → zget ms j = some true → zgm ws ms = true → goodWord w = true
  | [], ms, j, w, h, _, _ => by rw [zget_eq] at h; simp at h
  | v :: ws, [], j, w, _, h, _ => by rw [zget_eq] at h; simp at h
  | v :: ws, b :: ms, 0, w, h, g, k => by
    have h : some v = some w := h
    have g : some b = some true := g
    cases h; cases g
    exact (zl_b (c := goodWord v) (a := zgm ws ms) k).1
  | v :: ws, b :: ms, j + 1, w, h, g, k => by
    have k2 : zgm ws ms = true := by
      cases b with
      | false => exact k
      | true => exact (zl_b (c := goodWord v) (a := zgm ws ms) k).2
    exact zgood (ws := ws) (ms := ms) (j := j) h g k2
theorem kw_1 {w : Cond} {j : Nat} (h : zget tables_1_1 j = some w) : w ∈ tables_1 := by
  have h : w ∈ tables_1_1 := List.mem_of_getElem? (by rw [← zget_eq]; exact h)
  exact List.mem_append_left _ h
theorem kw_2 {w : Cond} {j : Nat} (h : zget tables_1_2 j = some w) : w ∈ tables_1 := by
  have h : w ∈ tables_1_2 := List.mem_of_getElem? (by rw [← zget_eq]; exact h)
  exact List.mem_append_right _ (List.mem_append_left _ h)
theorem kw_3 {w : Cond} {j : Nat} (h : zget tables_1_3 j = some w) : w ∈ tables_1 := by
  have h : w ∈ tables_1_3 := List.mem_of_getElem? (by rw [← zget_eq]; exact h)
  exact List.mem_append_right _ (List.mem_append_right _ (List.mem_append_left _ h))
theorem kw_4 {w : Cond} {j : Nat} (h : zget tables_1_4 j = some w) : w ∈ tables_1 := by
  have h : w ∈ tables_1_4 := List.mem_of_getElem? (by rw [← zget_eq]; exact h)
  exact List.mem_append_right _ (List.mem_append_right _ (List.mem_append_right _ (List.mem_append_left _ h)))
theorem kw_5 {w : Cond} {j : Nat} (h : zget tables_1_5 j = some w) : w ∈ tables_1 := by
  have h : w ∈ tables_1_5 := List.mem_of_getElem? (by rw [← zget_eq]; exact h)
  exact List.mem_append_right _ (List.mem_append_right _ (List.mem_append_right _ (List.mem_append_right _ (List.mem_append_left _ h))))
theorem kw_6 {w : Cond} {j : Nat} (h : zget tables_1_6 j = some w) : w ∈ tables_1 := by
  have h : w ∈ tables_1_6 := List.mem_of_getElem? (by rw [← zget_eq]; exact h)
  exact List.mem_append_right _ (List.mem_append_right _ (List.mem_append_right _ (List.mem_append_right _ (List.mem_append_right _ (List.mem_append_left _ h)))))
theorem kw_7 {w : Cond} {j : Nat} (h : zget tables_1_7 j = some w) : w ∈ tables_1 := by
  have h : w ∈ tables_1_7 := List.mem_of_getElem? (by rw [← zget_eq]; exact h)
  exact List.mem_append_right _ (List.mem_append_right _ (List.mem_append_right _ (List.mem_append_right _ (List.mem_append_right _ (List.mem_append_right _ (List.mem_append_left _ h))))))
theorem kw_8 {w : Cond} {j : Nat} (h : zget tables_1_8 j = some w) : w ∈ tables_1 := by
  have h : w ∈ tables_1_8 := List.mem_of_getElem? (by rw [← zget_eq]; exact h)
  exact List.mem_append_right _ (List.mem_append_right _ (List.mem_append_right _ (List.mem_append_right _ (List.mem_append_right _ (List.mem_append_right _ (List.mem_append_right _ (h)))))))
end
