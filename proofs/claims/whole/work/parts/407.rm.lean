/-! Lists with their barriers. -/
def rpos (l : List Int) : Prop := ∀ x, x ∈ l → 0 ≤ x ∧ x < 2147483648
theorem rpos_get {l : List Int} (h : rpos l) {i : Nat} (hi : i < l.length) : 0 ≤ l.getD i 0 ∧ l.getD i 0 < 2147483648 := by
  rw [List.getD_eq_getElem?_getD, List.getElem?_eq_getElem hi]
  exact h _ (List.getElem_mem hi)
/-- a barrier stands within its list -/
def rwi (b : Int) (n : Nat) : Prop := b = -1 ∨ 0 ≤ b ∧ b ≤ n
theorem qins_len {b : Int} {l : List Int} (h : rwi b l.length) : (qins b l).length = l.length + if b = -1 then 0 else 1 := by
  unfold qins
  rcases h with h | h
  · rw [if_pos h, if_pos h]; rfl
  · rw [if_neg (by omega), if_neg (by omega), List.length_append, List.length_cons, List.length_take, List.length_drop]; omega
theorem qins_rok {b : Int} {l : List Int} (h : rpos l) : rok (qins b l) := by
  intro x hx
  unfold qins at hx
  split at hx
  · have := h x hx; omega
  · rw [List.mem_append, List.mem_cons] at hx
    rcases hx with hx | rfl | hx
    · have := h x (List.mem_of_mem_take hx); omega
    · omega
    · have := h x (List.mem_of_mem_drop hx); omega
theorem rpos_rok {l : List Int} (h : rpos l) : rok l := fun x hx => by have := h x hx; omega
theorem rbar_pos {l : List Int} (h : rpos l) : rbar l = 0 := by
  unfold rbar
  rw [List.countP_eq_zero]
  intro x hx
  have := h x hx
  simp only [decide_eq_true_eq]
  omega
theorem qins_bar {b : Int} {l : List Int} (h : rpos l) : rbar (qins b l) = if b = -1 then 0 else 1 := by
  unfold qins
  split
  · exact rbar_pos h
  · have e1 : rbar (l.take b.toNat) = 0 := rbar_pos (fun x hx => h x (List.mem_of_mem_take hx))
    have e2 : rbar (l.drop b.toNat) = 0 := rbar_pos (fun x hx => h x (List.mem_of_mem_drop hx))
    unfold rbar at e1 e2 ⊢
    rw [List.countP_append, List.countP_cons, e1, e2]
    rfl
theorem qins_getD {b : Int} {l : List Int} {i : Nat} (hb : 0 ≤ b) (h2 : b ≤ l.length) : (qins b l).getD i 0 = if i < b.toNat then l.getD i 0 else if i = b.toNat then -1 else l.getD (i - 1) 0 := by
  unfold qins
  rw [if_neg (by omega), List.getD_eq_getElem?_getD, List.getElem?_append, List.length_take, Nat.min_eq_left (by omega)]
  split
  · rw [List.getElem?_take, if_pos (by assumption), List.getD_eq_getElem?_getD]
  · split
    · rename_i e
      rw [e, Nat.sub_self]; rfl
    · obtain ⟨j, hj⟩ : ∃ j, i - b.toNat = j + 1 := ⟨i - b.toNat - 1, by omega⟩
      rw [hj, List.getElem?_cons_succ, List.getElem?_drop, List.getD_eq_getElem?_getD]
      congr 2
      omega
theorem qins_first {b : Int} {l : List Int} (h : rpos l) (hb : rwi b l.length) : rfirst (qins b l) b := by
  rcases hb with rfl | ⟨h1, h2⟩
  · refine Or.inl ⟨rfl, fun i hi => ?_⟩
    unfold qins at hi ⊢
    rw [if_pos rfl] at hi ⊢
    have := rpos_get h hi; omega
  · refine Or.inr ⟨b.toNat, by omega, ?_, ?_, fun i hi => ?_⟩
    · rw [qins_len (Or.inr ⟨h1, h2⟩), if_neg (by omega)]; omega
    · rw [qins_getD h1 h2, if_neg (by omega), if_pos rfl]
    · rw [qins_getD h1 h2, if_pos hi]
      have := rpos_get h (show i < l.length from by omega); omega
theorem qins_end {l : List Int} : qins (l.length : Int) l = l ++ [-1] := by
  unfold qins
  rw [if_neg (by omega), Int.toNat_natCast, List.take_length, List.drop_length]
theorem qins_none {l : List Int} : qins (-1) l = l := if_pos rfl
theorem qins_snoc {b x : Int} {l : List Int} (h : rwi b l.length) : qins b (l ++ [x]) = qins b l ++ [x] := by
  unfold qins
  rcases h with h | h
  · rw [if_pos h, if_pos h]
  · rw [if_neg (by omega), if_neg (by omega), List.take_append_of_le_length (by omega), List.drop_append_of_le_length (by omega)]
    simp only [List.append_assoc, List.cons_append]
theorem qins_take {b : Int} {l : List Int} (h1 : 0 ≤ b) (h2 : b ≤ l.length) : (qins b l).take b.toNat = l.take b.toNat := by
  unfold qins
  rw [if_neg (by omega), List.take_append_of_le_length (by rw [List.length_take]; omega), List.take_take, Nat.min_self]
theorem qins_erase {b : Int} {l : List Int} (h1 : 0 ≤ b) (h2 : b ≤ l.length) : (qins b l).eraseIdx b.toNat = l := by
  unfold qins
  rw [if_neg (by omega), List.eraseIdx_append_of_length_le (by rw [List.length_take]; omega), List.length_take, Nat.min_eq_left (by omega), Nat.sub_self, List.eraseIdx_cons_zero, List.take_append_drop]
theorem qins_tail {b x : Int} {l : List Int} (hb : b ≠ 0) (h : rwi b (l.length + 1)) : (qins b (x :: l)).getD 0 0 = x ∧ (qins b (x :: l)).eraseIdx 0 = qins (if 0 < b then b - 1 else b) l := by
  rcases h with rfl | h
  · exact ⟨rfl, rfl⟩
  · obtain ⟨j, rfl⟩ : ∃ j : Nat, b = (j : Int) + 1 := ⟨(b - 1).toNat, by omega⟩
    have e1 : (if (0 : Int) < (j : Int) + 1 then (j : Int) + 1 - 1 else (j : Int) + 1) = j := by rw [if_pos (by omega)]; omega
    rw [e1]
    unfold qins
    rw [if_neg (by omega), if_neg (by omega), show ((j : Int) + 1).toNat = j + 1 from by omega, Int.toNat_natCast, List.take_succ_cons, List.drop_succ_cons]
    exact ⟨rfl, rfl⟩
section RQ
variable {P : qP} {M : qM}
theorem qen_pos {c n : Nat} (h : n < 800) : 0 ≤ qen P c n ∧ qen P c n < 2147483648 := by
  have h1 := qres_lt (P := P) h
  have h2 := qkey_lt (P := P) h
  unfold qen
  split <;> omega
theorem qI_pos (hI : qI P M) {c : Nat} (hc : c < 78) (k : Nat) : rpos ((M.2.1 c).map (qen P k)) := by
  intro x hx
  rw [List.mem_map] at hx
  obtain ⟨n, hn, rfl⟩ := hx
  exact qen_pos (hI.1.2.2.1 c n hc hn).1
theorem qI_wi (hI : qI P M) {c : Nat} (hc : c < 24) (k : Nat) : rwi (M.2.2 c) ((M.2.1 c).map (qen P k)).length := by
  rw [List.length_map]
  exact qI_B hI hc
theorem qI_rok (hI : qI P M) {c : Nat} (hc : c < 78) : rok (pR P M c) := by
  unfold pR
  split
  · exact qins_rok (qI_pos hI hc _)
  · exact rpos_rok (qI_pos hI hc _)
theorem pR_ch {c : Nat} (hc : c < 24) : pR P M c = qins (M.2.2 c) ((M.2.1 c).map (qen P c)) := if_pos hc
theorem pR_ls {c : Nat} (hc : 24 ≤ c) : pR P M c = (M.2.1 c).map (qen P (qch c)) := if_neg (by omega)
theorem pR_same {N : qM} {c : Nat} (h1 : N.2.1 c = M.2.1 c) (h2 : c < 24 → N.2.2 c = M.2.2 c) : pR P N c = pR P M c := by
  unfold pR
  rw [h1]
  split
  · rw [h2 (by assumption)]
  · rfl
/-- how many records a channel has is what it has but barriers -/
theorem pR_things (hI : qI P M) {c : Nat} (hc : c < 24) : ((pR P M c).length : Int) - rbar (pR P M c) = (M.2.1 c).length := by
  rw [pR_ch hc, qins_len (qI_wi hI hc _), qins_bar (qI_pos hI (by omega) _), List.length_map]
  split <;> omega
end RQ
