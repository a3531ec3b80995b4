/-! WHAT GROWS, AND WHAT IS NOTED: positions and sums grow but for a failure; what is noted lies below. -/
def qps (M : qM) : Int := M.1 13 + M.1 14 + M.1 15 + M.1 16
/-- M grows to N, with c records sent at most -/
def qG (c : Int) (M N : qM) : Prop :=
  (∀ k, (k < 8 ∨ k = 67 ∨ 118 ≤ k ∧ k < 123 ∨ 124 ≤ k ∧ k < 144) → N.1 k = M.1 k) ∧ (∀ j, j < 20 → M.1 (13 + j) ≤ N.1 (13 + j)) ∧ (∀ j, j < 20 → N.1 (98 + j) = M.1 (98 + j) ∨ N.1 (98 + j) ≤ N.1 (13 + j)) ∧ N.1 8 - qps N = M.1 8 - qps M ∧ N.1 8 ≤ M.1 8 + c
theorem qG_refl (M : qM) : qG 0 M M := ⟨fun _ _ => rfl, fun _ _ => Int.le_refl _, fun _ _ => Or.inl rfl, rfl, by omega⟩
theorem qG_trans {a b : Int} {A B C : qM} (h : qG a A B) (g : qG b B C) : qG (a + b) A C := by
  obtain ⟨h1, h2, h3, h4, h5⟩ := h
  obtain ⟨g1, g2, g3, g4, g5⟩ := g
  refine ⟨fun k hk => (g1 k hk).trans (h1 k hk), fun j hj => Int.le_trans (h2 j hj) (g2 j hj), fun j hj => ?_, g4.trans h4, by omega⟩
  rcases g3 j hj with e | e
  · rcases h3 j hj with e2 | e2
    · exact Or.inl (e.trans e2)
    · exact Or.inr (by rw [e]; exact Int.le_trans e2 (g2 j hj))
  · exact Or.inr e
theorem qG_0 {A B C : qM} (h : qG 0 A B) (g : qG 0 B C) : qG 0 A C := qG_trans h g
theorem qG_of {M N : qM} (h : ∀ k, (k < 33 ∨ k = 67 ∨ 118 ≤ k ∧ k < 123 ∨ 124 ≤ k ∧ k < 144) → N.1 k = M.1 k) (h2 : ∀ j, j < 20 → N.1 (98 + j) = M.1 (98 + j) ∨ N.1 (98 + j) ≤ M.1 (13 + j)) : qG 0 M N := by
  refine ⟨fun k hk => h k (by omega), fun j hj => by rw [h (13 + j) (by omega)]; exact Int.le_refl _, fun j hj => ?_, ?_, by rw [h 8 (by omega)]; omega⟩
  · rcases h2 j hj with e | e
    · exact Or.inl e
    · exact Or.inr (by rw [h (13 + j) (by omega)]; exact e)
  · unfold qps
    rw [h 8 (by omega), h 13 (by omega), h 14 (by omega), h 15 (by omega), h 16 (by omega)]
section QG
variable {P : qP} {M : qM}
theorem qG_put {s : Nat} (hs : s < 4) : qG 0 M (qput s M) := by
  unfold qput
  by_cases e : M.1 67 = 1 ∧ M.1 (70 + s) = 0 ∧ M.1 (9 + s) ≤ M.1 0 - M.1 68
  · rw [if_pos e]
    refine qG_of (fun k hk => ?_) (fun j hj => ?_)
    · show qu (qu M.1 (70 + s) 1) (98 + s) (M.1 (13 + s)) k = _
      rw [qu_ne (by omega), qu_ne (by omega)]
    · show qu (qu M.1 (70 + s) 1) (98 + s) (M.1 (13 + s)) (98 + j) = _ ∨ qu (qu M.1 (70 + s) 1) (98 + s) (M.1 (13 + s)) (98 + j) ≤ _
      by_cases e2 : j = s
      · subst e2
        rw [qu_at]
        exact Or.inr (Int.le_refl _)
      · rw [qu_ne (by omega), qu_ne (by omega)]
        exact Or.inl rfl
  · rw [if_neg e]
    exact qG_refl M
theorem qG_send {s : Nat} (hs : s < 4) : qG 1 M (qsend P s M) := by
  have r1 : qG 1 M M := ⟨fun _ _ => rfl, fun _ _ => Int.le_refl _, fun _ _ => Or.inl rfl, rfl, by omega⟩
  unfold qsend
  dsimp only
  split
  · exact r1
  · split
    · exact r1
    · have e8 : qu (qu M.1 (13 + s) (M.1 (13 + s) + 1)) 8 (M.1 8 + 1) 8 = M.1 8 + 1 := qu_at _ _ _
      have eo : ∀ k, k ≠ 8 → k ≠ 13 + s → qu (qu M.1 (13 + s) (M.1 (13 + s) + 1)) 8 (M.1 8 + 1) k = M.1 k := fun k h1 h2 => by rw [qu_ne h1, qu_ne h2]
      have es : qu (qu M.1 (13 + s) (M.1 (13 + s) + 1)) 8 (M.1 8 + 1) (13 + s) = M.1 (13 + s) + 1 := by rw [qu_ne (by omega), qu_at]
      generalize qu (qu M.1 (13 + s) (M.1 (13 + s) + 1)) 8 (M.1 8 + 1) = F at e8 eo es
      refine ⟨fun k hk => eo k (by omega) (by omega), fun j hj => ?_, fun j hj => Or.inl (eo _ (by omega) (by omega)), ?_, ?_⟩
      · show _ ≤ F (13 + j)
        by_cases e : j = s
        · rw [e, es]; omega
        · rw [eo _ (by omega) (by omega)]; exact Int.le_refl _
      · unfold qps
        show F 8 - (F 13 + F 14 + F 15 + F 16) = _
        rcases (show s = 0 ∨ s = 1 ∨ s = 2 ∨ s = 3 by omega) with rfl | rfl | rfl | rfl
        · have g : F 13 = M.1 13 + 1 := es
          rw [e8, g, eo 14 (by omega) (by omega), eo 15 (by omega) (by omega), eo 16 (by omega) (by omega)]; omega
        · have g : F 14 = M.1 14 + 1 := es
          rw [e8, g, eo 13 (by omega) (by omega), eo 15 (by omega) (by omega), eo 16 (by omega) (by omega)]; omega
        · have g : F 15 = M.1 15 + 1 := es
          rw [e8, g, eo 13 (by omega) (by omega), eo 14 (by omega) (by omega), eo 16 (by omega) (by omega)]; omega
        · have g : F 16 = M.1 16 + 1 := es
          rw [e8, g, eo 13 (by omega) (by omega), eo 14 (by omega) (by omega), eo 15 (by omega) (by omega)]; omega
      · show F 8 ≤ _
        rw [e8]; exact Int.le_refl _
theorem qG_cut {r : Nat} (hr : r < 6) : qG 0 M (qcut P r M) := by
  unfold qcut
  split
  · refine qG_of (fun k hk => ?_) (fun j hj => ?_)
    · dsimp only
      rw [if_neg (by omega), if_neg (by omega)]
    · dsimp only
      split
      · rw [show 98 + j - 85 = 13 + j from by omega]
        exact Or.inr (Int.le_refl _)
      · rw [if_neg (by omega)]
        exact Or.inl rfl
  · exact qG_of (fun k hk => qu_ne (by omega)) (fun j hj => Or.inl (qu_ne (by omega)))
theorem qG_over {r x : Nat} (hr : r < 6) (hx : x < 4) : qG 0 M (qover P r x M) := by
  unfold qover
  dsimp only
  have h1 : qG 0 M (if qcnt P M r = 0 then qcut P r M else M) := by
    split
    · exact qG_cut hr
    · exact qG_refl M
  generalize (if qcnt P M r = 0 then qcut P r M else M) = M1 at h1
  exact qG_0 h1 (qG_of (fun k hk => qu_ne (by omega)) (fun j hj => Or.inl (qu_ne (by omega))))
theorem qG_align {r x : Nat} (hr : r < 6) (hx : x < 4) : qG 0 M (qalign P r x M) := by
  unfold qalign
  dsimp only
  have h1 : qG 0 M (qu (qu M.1 (74 + (4 * r + x)) 1) (43 + (4 * r + x)) 1, M.2.1, qu M.2.2 (4 * r + x) (-1)) :=
    qG_of (fun k hk => by
      show qu (qu M.1 (74 + (4 * r + x)) 1) (43 + (4 * r + x)) 1 k = _
      rw [qu_ne (by omega), qu_ne (by omega)]) (fun j hj => Or.inl (by
      show qu (qu M.1 (74 + (4 * r + x)) 1) (43 + (4 * r + x)) 1 (98 + j) = _
      rw [qu_ne (by omega), qu_ne (by omega)]))
  generalize ((qu (qu M.1 (74 + (4 * r + x)) 1) (43 + (4 * r + x)) 1, M.2.1, qu M.2.2 (4 * r + x) (-1)) : qM) = M1 at h1
  split
  · refine qG_0 h1 (qG_0 (qG_cut (P := P) (r := r) hr) (qG_of (fun k hk => ?_) (fun j hj => Or.inl ?_)))
    · dsimp only; rw [if_neg (by omega)]
    · dsimp only; rw [if_neg (by omega)]
  · exact h1
theorem qG_mv {g : Bool} {r x n : Nat} {rest : List Nat} (hr : r < 6) (hn : n < 800) : qG 0 M (qmv P g r x n rest M) := by
  have hk := qkey_lt (P := P) hn
  unfold qmv
  by_cases e : r < 4
  · rw [if_pos e]
    have eo : ∀ k, k ≠ 37 + r → k ≠ 17 + qkey P n → k ≠ 33 + r → qu (qu (qu M.1 (37 + r) ((x : Int) + 1)) (17 + qkey P n) (M.1 (17 + qkey P n) + qval P n)) (33 + r) (M.1 (33 + r) + 1) k = M.1 k := fun k h1 h2 h3 => by rw [qu_ne h3, qu_ne h2, qu_ne h1]
    refine ⟨fun k h => eo k (by omega) (by omega) (by omega), fun j hj => ?_, fun j hj => Or.inl (eo _ (by omega) (by omega) (by omega)), ?_, ?_⟩
    · show _ ≤ qu (qu (qu M.1 (37 + r) ((x : Int) + 1)) (17 + qkey P n) (M.1 (17 + qkey P n) + qval P n)) (33 + r) (M.1 (33 + r) + 1) (13 + j)
      by_cases e2 : 13 + j = 17 + qkey P n
      · rw [e2, qu_ne (by omega), qu_at]
        omega
      · rw [eo _ (by omega) e2 (by omega)]
        exact Int.le_refl _
    · unfold qps
      show qu (qu (qu M.1 (37 + r) ((x : Int) + 1)) (17 + qkey P n) (M.1 (17 + qkey P n) + qval P n)) (33 + r) (M.1 (33 + r) + 1) 8 - (qu (qu (qu M.1 (37 + r) ((x : Int) + 1)) (17 + qkey P n) (M.1 (17 + qkey P n) + qval P n)) (33 + r) (M.1 (33 + r) + 1) 13 + qu (qu (qu M.1 (37 + r) ((x : Int) + 1)) (17 + qkey P n) (M.1 (17 + qkey P n) + qval P n)) (33 + r) (M.1 (33 + r) + 1) 14 + qu (qu (qu M.1 (37 + r) ((x : Int) + 1)) (17 + qkey P n) (M.1 (17 + qkey P n) + qval P n)) (33 + r) (M.1 (33 + r) + 1) 15 + qu (qu (qu M.1 (37 + r) ((x : Int) + 1)) (17 + qkey P n) (M.1 (17 + qkey P n) + qval P n)) (33 + r) (M.1 (33 + r) + 1) 16) = _
      rw [eo 8 (by omega) (by omega) (by omega), eo 13 (by omega) (by omega) (by omega), eo 14 (by omega) (by omega) (by omega), eo 15 (by omega) (by omega) (by omega), eo 16 (by omega) (by omega) (by omega)]
    · show qu (qu (qu M.1 (37 + r) ((x : Int) + 1)) (17 + qkey P n) (M.1 (17 + qkey P n) + qval P n)) (33 + r) (M.1 (33 + r) + 1) 8 ≤ _
      rw [eo 8 (by omega) (by omega) (by omega)]
      omega
  · rw [if_neg e]
    exact qG_of (fun k hk => qu_ne (by omega)) (fun j hj => Or.inl (qu_ne (by omega)))
theorem qG_handle {r : Nat} (hI : qI P M) (hr : r < 6) : qG 0 M (qhandle P r M) := by
  have hm := qN_many hI.1.2.1
  have hP4 := hI.1.1.2.1
  unfold qhandle
  cases e : qturn P r M with
  | none => exact qG_refl M
  | some x =>
    have hx : x < 4 := by
      have := (qturn_mem e).1
      unfold qns at this
      split at this <;> omega
    show qG 0 M (qtake P r x M)
    unfold qtake
    split
    · refine qG_0 (qG_of (M := M) (N := qS M (37 + r) (x + 1)) (fun k hk => qu_ne (by omega)) (fun j hj => Or.inl (qu_ne (by omega)))) (qG_align hr hx)
    · cases e2 : M.2.1 (4 * r + x) with
      | nil => exact qG_refl M
      | cons n rest =>
        refine qG_mv hr ?_
        exact (hI.1.2.2.1 (4 * r + x) n (by omega) (by rw [e2]; exact List.mem_cons_self)).1
theorem qG_overs {r : Nat} (hr : r < 6) (hn : qns P M r ≤ 4) : qG 0 M (qovers P r M) := by
  unfold qovers
  exact q_fold (fun M x => if M.2.2 (4 * r + x) = -1 then M else qover P r x M) (fun _ N => qG 0 M N) (qns P M r) M (qG_refl M) (fun i N hi hN => by
    split
    · exact hN
    · exact qG_0 hN (qG_over hr (by omega)))
theorem qG_C (hP : qPok P) : qG 4 M (qtickC P M) := by
  have h4 := hP.2.1
  unfold qtickC
  have key := q_fold (fun M s => qsend P s (qput s M)) (fun (i : Nat) N => i ≤ P.1 → qG (i : Int) M N) P.1 M (fun _ => qG_refl M) (fun i N hi ih _ => by
    have h := qG_trans (ih (by omega)) (qG_trans (qG_put (M := N) (s := i) (by omega)) (qG_send (P := P) (M := qput i N) (s := i) (by omega)))
    rw [show ((i + 1 : Nat) : Int) = (i : Int) + (0 + 1) from by omega]
    exact h)
  obtain ⟨k1, k2, k3, k4, k5⟩ := key (Nat.le_refl _)
  exact ⟨k1, k2, k3, k4, by omega⟩
theorem qG_foldO {a n : Nat} (hP : qPok P) (hm : qmany M ≤ 4) (ha : a + n ≤ 6) : qG 0 M ((List.range n).foldl (fun M k => qovers P (a + k) M) M) := by
  have h4 := hP.2.1
  exact q_fold (fun M k => qovers P (a + k) M) (fun _ N => qG 0 M N) n M (qG_refl M) (fun i N hi hN => by
    refine qG_0 hN (qG_overs (by omega) ?_)
    have e1 : N.1 1 = M.1 1 := hN.1 1 (by omega)
    unfold qns
    split
    · exact h4
    · rw [qmany_eq e1]; exact hm)
theorem qG_D (hI : qI P M) : qG 0 M (qtickD P M) := by
  have h4 := qN_many hI.1.2.1
  have ed : qtickD P M = (if qovert M then (List.range (qmany M)).foldl (fun M k => qovers P (0 + k) M) M else M) := by
    unfold qtickD
    simp only [Nat.zero_add]
  rw [ed]
  split
  · exact qG_foldO hI.1.1 (by omega) (by omega)
  · exact qG_refl M
theorem qG_F (hI : qI P M) : qG 0 M (qtickF P M) := by
  have h4 := qN_many hI.1.2.1
  have h2 := hI.1.1.2.2.2.1
  unfold qtickF
  split
  · exact qG_foldO hI.1.1 (by omega) (by omega)
  · exact qG_refl M
theorem qG_E (hI : qI P M) (hno : ¬ qhid M) (hnb : ∀ r, r < 4 → qNB M r) : qG 0 M (qtickE P M) := by
  have h4 := qN_many hI.1.2.1
  unfold qtickE
  have key := q_fold (fun M i => qhandle P i M) (fun i N => qI P N ∧ ¬ qhid N ∧ qG 0 M N ∧ ∀ r, r < 4 → qNB N r) (qmany M) M ⟨hI, hno, qG_refl M, hnb⟩ (fun t N ht hN => by
    obtain ⟨n1, n2, n4, n5⟩ := hN
    have hmN : t < qmany N := by rw [qmany_eq (n4.1 1 (by omega))]; exact ht
    have hlr : qlr P N t := by unfold qlr; rw [if_pos (by omega)]; exact hmN
    obtain ⟨o1, o2, o3⟩ := qI_handle n1 n2 (r := t) (by omega) hlr (n5 t (by omega))
    refine ⟨o1, ?_, qG_0 n4 (qG_handle n1 (by omega)), fun r hr a b x hx => ?_⟩
    · unfold qhid; rw [o2 118 (by omega), o2 123 (by omega)]; exact n2
    · rw [o2 67 (by omega)] at a
      rw [o2 69 (by omega)] at b
      exact o3 a b _ (n5 r hr a b x hx))
  exact key.2.2.1
theorem qG_G (hI : qI P M) (hno : ¬ qhid M) (hnb : ∀ r, 4 ≤ r → r < 6 → qNB M r) : qG 0 M (qtickG P M) := by
  have h2 := hI.1.1.2.2.2.1
  unfold qtickG
  have key := q_fold (fun M k => qhandle P (4 + k) M) (fun i N => qI P N ∧ ¬ qhid N ∧ qG 0 M N ∧ ∀ r, 4 ≤ r → r < 6 → qNB N r) P.2.1 M ⟨hI, hno, qG_refl M, hnb⟩ (fun t N ht hN => by
    obtain ⟨n1, n2, n4, n5⟩ := hN
    have hlr : qlr P N (4 + t) := by unfold qlr; rw [if_neg (by omega)]; omega
    obtain ⟨o1, o2, o3⟩ := qI_handle n1 n2 (r := 4 + t) (by omega) hlr (n5 (4 + t) (by omega) (by omega))
    refine ⟨o1, ?_, qG_0 n4 (qG_handle n1 (by omega)), fun r hr1 hr a b x hx => ?_⟩
    · unfold qhid; rw [o2 118 (by omega), o2 123 (by omega)]; exact n2
    · rw [o2 67 (by omega)] at a
      rw [o2 69 (by omega)] at b
      exact o3 a b _ (n5 r hr1 hr a b x hx))
  exact key.2.2.1
/-- noted is below now; sent; what began, what was completed -/
def qJ (M : qM) : Prop := (∀ j, j < 20 → M.1 (124 + j) ≤ M.1 (13 + j)) ∧ (M.1 67 = 1 → ∀ j, j < 20 → M.1 (98 + j) ≤ M.1 (13 + j)) ∧ (qps M ≤ M.1 8 ∧ M.1 8 ≤ 4 * M.1 0) ∧ (0 ≤ M.1 6 ∧ M.1 6 + M.1 67 ≤ M.1 5) ∧ (M.1 118 = 1 ↔ M.1 6 ≠ 0)
theorem qpos0 (hI : qI P M) : ∀ j, j < 20 → 0 ≤ M.1 (13 + j) := by
  intro j hj
  by_cases e : j < 4
  · exact (hI.1.2.1.2.2.2.2.2.1 j e).1
  · have := (hI.1.2.2.2.1 (j - 4) (by omega)).1.2
    rw [show 13 + j = 17 + (j - 4) from by omega, this]
    omega
theorem qJ_begin {o : Int} (hI : qI P M) (h : qJ M) (h67 : M.1 67 ≠ 1) : qJ (qbegin o M) := by
  obtain ⟨a, b, ⟨c1, c2⟩, ⟨d1, d2⟩, f⟩ := h
  have h0 := hI.1.2.1.2.2.2.2.2.2.2.1
  have hp := qpos0 hI
  have es : ∀ k, (k < 5 ∨ 5 < k ∧ k < 67 ∨ 118 ≤ k ∧ k < 144) → (qbegin o M).1 k = M.1 k := fun k hk => by
    show (if 70 ≤ k ∧ k < 118 ∨ 144 ≤ k then (0 : Int) else if k = 5 then M.1 5 + 1 else if k = 67 then 1 else if k = 68 then M.1 0 else if k = 69 then o else M.1 k) = M.1 k
    rw [if_neg (by omega), if_neg (by omega), if_neg (by omega), if_neg (by omega), if_neg (by omega)]
  have e5 : (qbegin o M).1 5 = M.1 5 + 1 := rfl
  have e67 : (qbegin o M).1 67 = 1 := rfl
  refine ⟨fun j hj => by rw [es _ (by omega), es _ (by omega)]; exact a j hj, fun _ j hj => ?_, ⟨?_, ?_⟩, ⟨?_, ?_⟩, ?_⟩
  · rw [es (13 + j) (by omega)]
    show (if 70 ≤ 98 + j ∧ 98 + j < 118 ∨ 144 ≤ 98 + j then (0 : Int) else _) ≤ _
    rw [if_pos (by omega)]
    exact hp j hj
  · unfold qps at c1 ⊢
    rw [es 13 (by omega), es 14 (by omega), es 15 (by omega), es 16 (by omega), es 8 (by omega)]
    exact c1
  · rw [es 8 (by omega), es 0 (by omega)]; exact c2
  · rw [es 6 (by omega)]; exact d1
  · rw [es 6 (by omega), e5, e67]; omega
  · rw [es 6 (by omega), es 118 (by omega)]; exact f
theorem qJ_num {k : Nat} {v : Int} (h : qJ M) (hk : k = 1 ∨ k = 2 ∨ k = 3 ∨ k = 4 ∨ 9 ≤ k ∧ k < 13 ∨ k = 123) : qJ (qS M k v) := by
  have es : ∀ i, i ≠ k → (qS M k v).1 i = M.1 i := fun i hi => qu_ne hi
  obtain ⟨a, b, ⟨c1, c2⟩, ⟨d1, d2⟩, f⟩ := h
  refine ⟨fun j hj => by rw [es _ (by omega), es _ (by omega)]; exact a j hj, fun q j hj => by rw [es _ (by omega)] at q; rw [es _ (by omega), es _ (by omega)]; exact b q j hj, ⟨?_, ?_⟩, ⟨?_, ?_⟩, ?_⟩
  · unfold qps at c1 ⊢
    rw [es 13 (by omega), es 14 (by omega), es 15 (by omega), es 16 (by omega), es 8 (by omega)]
    exact c1
  · rw [es 8 (by omega), es 0 (by omega)]; exact c2
  · rw [es 6 (by omega)]; exact d1
  · rw [es 6 (by omega), es 5 (by omega), es 67 (by omega)]; exact d2
  · rw [es 6 (by omega), es 118 (by omega)]; exact f
theorem qJ_same {N : qM} (h : qJ M) (e : N.1 = M.1) : qJ N := by
  unfold qJ qps at *
  rw [e]
  exact h
theorem qJ_show (h : qJ M) : qJ (qshow P M) := by
  unfold qshow
  split
  · exact qJ_same (qJ_num (v := 1) h (k := 123) (by omega)) rfl
  · exact h
theorem qJ_fail (hI : qI P M) (h : qJ M) : qJ (qfail P M) := by
  have hS := qJ_show (P := P) h
  have h67 : (qshow P M).1 67 = M.1 67 := qshow_S (by omega)
  have h0 := hI.1.2.1.2.2.2.2.2.2.2.1
  rw [← h67] at h0
  unfold qfail
  dsimp only
  generalize qshow P M = S at hS h0
  obtain ⟨a, b, ⟨c1, c2⟩, ⟨d1, d2⟩, f⟩ := hS
  generalize hN : (fun k => if k = 67 then (0 : Int) else if k = 7 then S.1 7 + 1 else if 13 ≤ k ∧ k < 33 then S.1 (k + 111) else if 33 ≤ k ∧ k < 67 then 0 else S.1 k) = N
  have es : ∀ k, k < 7 ∨ 7 < k ∧ k < 13 ∨ 68 ≤ k → N k = S.1 k := fun k hk => by
    rw [← hN]
    dsimp only
    rw [if_neg (by omega), if_neg (by omega), if_neg (by omega), if_neg (by omega)]
  have ep : ∀ j, j < 20 → N (13 + j) = S.1 (124 + j) := fun j hj => by
    rw [← hN]
    dsimp only
    rw [if_neg (by omega), if_neg (by omega), if_pos (by omega), show 13 + j + 111 = 124 + j from by omega]
  have e67 : N 67 = 0 := by rw [← hN]; rfl
  refine ⟨fun j hj => by show N _ ≤ N _; rw [es _ (by omega), ep j hj]; exact Int.le_refl _, fun q => ?_, ⟨?_, ?_⟩, ⟨?_, ?_⟩, ?_⟩
  · have q2 : N 67 = 1 := q
    rw [e67] at q2; cases q2
  · unfold qps at c1 ⊢
    show N 13 + N 14 + N 15 + N 16 ≤ N 8
    have p0 := ep 0 (by omega)
    have p1 := ep 1 (by omega)
    have p2 := ep 2 (by omega)
    have p3 := ep 3 (by omega)
    have a0 := a 0 (by omega)
    have a1 := a 1 (by omega)
    have a2 := a 2 (by omega)
    have a3 := a 3 (by omega)
    have e8 := es 8 (by omega)
    simp only [Nat.reduceAdd] at p0 p1 p2 p3 a0 a1 a2 a3
    omega
  · show N 8 ≤ 4 * N 0
    rw [es 8 (by omega), es 0 (by omega)]; exact c2
  · show 0 ≤ N 6
    rw [es 6 (by omega)]; exact d1
  · show N 6 + N 67 ≤ N 5
    rw [es 6 (by omega), es 5 (by omega), e67]; omega
  · show N 118 = 1 ↔ N 6 ≠ 0
    rw [es 6 (by omega), es 118 (by omega)]; exact f
theorem qJ_rescale {m : Nat} (hI : qI P M) (h : qJ M) : qJ (qrescale P m M) :=
  qJ_same (qJ_num (v := m) (qJ_fail hI h) (k := 1) (by omega)) rfl
theorem qJ_start {m room every over : Int} {lag : Nat → Int} : qJ (qstart m room every over lag) := by
  have hS : ∀ k, (k = 0 ∨ 5 ≤ k ∧ k < 9 ∨ 13 ≤ k) → (qstart m room every over lag).1 k = 0 := by
    intro k hk
    unfold qstart
    dsimp only
    rw [if_neg (by omega), if_neg (by omega), if_neg (by omega), if_neg (by omega), if_neg (by omega)]
  refine ⟨fun j hj => by rw [hS _ (by omega), hS _ (by omega)]; exact Int.le_refl _, fun q => (by rw [hS _ (by omega)] at q; cases q), ⟨?_, ?_⟩, ⟨?_, ?_⟩, ?_⟩
  · unfold qps
    rw [hS 13 (by omega), hS 14 (by omega), hS 15 (by omega), hS 16 (by omega), hS 8 (by omega)]; omega
  · rw [hS 8 (by omega), hS 0 (by omega)]; omega
  · rw [hS 6 (by omega)]; omega
  · rw [hS 6 (by omega), hS 67 (by omega), hS 5 (by omega)]; omega
  · rw [hS 6 (by omega), hS 118 (by omega)]
    exact ⟨fun q => (by cases q), fun q => absurd rfl q⟩
theorem qfull_67 (h : qfull P M = true) : M.1 67 = 1 := by
  unfold qfull at h
  simp only [Bool.and_eq_true, decide_eq_true_eq] at h
  exact h.1.1.1
theorem qJ_tick (hI : qI P M) (ht : 0 ≤ M.1 0 ∧ 0 ≤ M.1 5) (h : qJ M) : qJ (qtick P M) := by
  have hA := qI_A hI ht
  have jA : qJ (qtickA M) := by
    unfold qtickA
    split
    · rename_i e
      exact qJ_begin hI h (by rw [e.2.2]; decide)
    · exact h
  obtain ⟨b1, b2⟩ := qI_show0 hA
  have jS := qJ_show (P := P) jA
  obtain ⟨c1, c2⟩ := qI_C b1 b2
  have n2 := qG_C (P := P) (M := qshow P (qtickA M)) hI.1.1
  obtain ⟨d1, d2, d3⟩ := qI_D c1 c2
  have n3 := qG_D c1
  obtain ⟨g1, g2⟩ := qI_E d1 d2 d3
  have n4 := qG_E d1 d2 d3
  obtain ⟨f1, f2, f3⟩ := qI_F g1 g2
  have n5 := qG_F g1
  have n6 := qG_G f1 f2 f3
  have n := qG_trans n2 (qG_trans n3 (qG_trans n4 (qG_trans n5 n6)))
  have i6 := (qI_G f1 f2 f3).1
  unfold qtick
  generalize qtickG P (qtickF P (qtickE P (qtickD P (qtickC P (qshow P (qtickA M)))))) = N at n i6
  generalize qshow P (qtickA M) = S at n jS
  have h67 := i6.1.2.1.2.2.2.2.2.2.2.1
  obtain ⟨m1, m2, m3, m4, m5⟩ := n
  obtain ⟨a, b, ⟨e1, e2⟩, ⟨e3, e4⟩, f⟩ := jS
  have s0 := m1 0 (by omega)
  have s5 := m1 5 (by omega)
  have s6 := m1 6 (by omega)
  have s67 := m1 67 (by omega)
  have s118 := m1 118 (by omega)
  have kA : ∀ j, j < 20 → N.1 (124 + j) ≤ N.1 (13 + j) := fun j hj => by
    rw [m1 (124 + j) (by omega)]
    exact Int.le_trans (a j hj) (m2 j hj)
  have kB : N.1 67 = 1 → ∀ j, j < 20 → N.1 (98 + j) ≤ N.1 (13 + j) := fun q j hj => by
    rcases m3 j hj with w | w
    · rw [w]
      rw [s67] at q
      exact Int.le_trans (b q j hj) (m2 j hj)
    · exact w
  dsimp only
  have es : ∀ (K : qM) k, k ≠ 0 → (qS K 0 (K.1 0 + 1)).1 k = K.1 k := fun K k hk => qu_ne hk
  have e0 : ∀ K : qM, (qS K 0 (K.1 0 + 1)).1 0 = K.1 0 + 1 := fun K => (show qu K.1 0 (K.1 0 + 1) 0 = K.1 0 + 1 from qu_at _ _ _)
  have fin : ∀ K : qM, K.1 0 = N.1 0 → K.1 8 = N.1 8 → qps K = qps N → (∀ j, j < 20 → K.1 (124 + j) ≤ K.1 (13 + j)) → (K.1 67 = 1 → ∀ j, j < 20 → K.1 (98 + j) ≤ K.1 (13 + j)) → (0 ≤ K.1 6 ∧ K.1 6 + K.1 67 ≤ K.1 5) → (K.1 118 = 1 ↔ K.1 6 ≠ 0) → qJ (qS K 0 (K.1 0 + 1)) := by
    intro K k0 k8 kp ka kb kc kd
    refine ⟨fun j hj => by rw [es _ _ (by omega), es _ _ (by omega)]; exact ka j hj, fun q j hj => by rw [es _ _ (by omega)] at q; rw [es _ _ (by omega), es _ _ (by omega)]; exact kb q j hj, ⟨?_, ?_⟩, ?_, ?_⟩
    · have : qps (qS K 0 (K.1 0 + 1)) = qps K := by
        unfold qps
        rw [es _ 13 (by omega), es _ 14 (by omega), es _ 15 (by omega), es _ 16 (by omega)]
      rw [this, es _ 8 (by omega), kp, k8]
      omega
    · rw [es _ 8 (by omega), e0, k8, k0]
      omega
    · rw [es _ 6 (by omega), es _ 67 (by omega), es _ 5 (by omega)]; exact kc
    · rw [es _ 6 (by omega), es _ 118 (by omega)]; exact kd
  unfold qtickH
  split
  · rename_i hf
    have q67 := qfull_67 hf
    have cs : ∀ k, (k < 6 ∨ 6 < k ∧ k < 67 ∨ 68 ≤ k ∧ k < 118) → (qcomplete N).1 k = N.1 k := fun k hk => by
      show (if k = 67 then (0 : Int) else if k = 6 then N.1 6 + 1 else if k = 118 then 1 else if k = 119 then N.1 5 else if k = 120 then N.1 68 else if k = 121 then N.1 0 else if k = 122 then N.1 69 else if k = 123 then 0 else if 124 ≤ k ∧ k < 144 then N.1 (k - 26) else N.1 k) = N.1 k
      rw [if_neg (by omega), if_neg (by omega), if_neg (by omega), if_neg (by omega), if_neg (by omega), if_neg (by omega), if_neg (by omega), if_neg (by omega), if_neg (by omega)]
    have cn : ∀ j, j < 20 → (qcomplete N).1 (124 + j) = N.1 (98 + j) := fun j hj => by
      show (if 124 + j = 67 then (0 : Int) else if 124 + j = 6 then N.1 6 + 1 else if 124 + j = 118 then 1 else if 124 + j = 119 then N.1 5 else if 124 + j = 120 then N.1 68 else if 124 + j = 121 then N.1 0 else if 124 + j = 122 then N.1 69 else if 124 + j = 123 then 0 else if 124 ≤ 124 + j ∧ 124 + j < 144 then N.1 (124 + j - 26) else N.1 (124 + j)) = _
      rw [if_neg (by omega), if_neg (by omega), if_neg (by omega), if_neg (by omega), if_neg (by omega), if_neg (by omega), if_neg (by omega), if_neg (by omega), if_pos (by omega), show 124 + j - 26 = 98 + j from by omega]
    have c67 : (qcomplete N).1 67 = 0 := rfl
    have c6 : (qcomplete N).1 6 = N.1 6 + 1 := rfl
    have c118 : (qcomplete N).1 118 = 1 := rfl
    refine fin _ (cs 0 (by omega)) (cs 8 (by omega)) ?_ (fun j hj => by rw [cn j hj, cs _ (by omega)]; exact kB q67 j hj) (fun q => (by rw [c67] at q; cases q)) ⟨?_, ?_⟩ ⟨fun _ => ?_, fun _ => c118⟩
    · unfold qps
      rw [cs 13 (by omega), cs 14 (by omega), cs 15 (by omega), cs 16 (by omega)]
    · rw [c6]; omega
    · rw [c6, c67, cs 5 (by omega)]; omega
    · rw [c6]; omega
  · exact fin N rfl rfl rfl kA kB ⟨by omega, by omega⟩ (by rw [s118, s6]; exact f)
end QG
theorem qJ_it {P : qP} {M : qM} {z : Int} (hI : qI P M) (h : KB z M) (hJ : qJ M) : ∀ n : Nat, qJ (qit P n M)
  | 0 => hJ
  | n + 1 => by
    obtain ⟨a, b⟩ := qI_it hI h n
    exact qJ_tick a ⟨b.1.1, b.2.1.1⟩ (qJ_it hI h hJ n)
