/-! Numbers that grow by one a tick at most; many ticks; forecasts. -/
def KB (z : Int) (M : qM) : Prop := (0 ≤ M.1 0 ∧ M.1 0 ≤ z) ∧ (0 ≤ M.1 5 ∧ M.1 5 ≤ z) ∧ M.1 119 ≤ z
theorem KB_T {z : Int} {M : qM} (h : KB z M) (hz : z < 999999999) : KT M := ⟨h.1.1, by have := h.1.2; omega, by have := h.2.1.2; omega, by have := h.2.2; omega⟩
theorem KB_5 {z : Int} {M : qM} (h : KB z M) (hz : z < 999999999) : 0 ≤ M.1 5 ∧ M.1 5 + 1 < 1000000000 := ⟨h.2.1.1, by have := h.2.1.2; omega⟩
theorem KB_le {y z : Int} {M : qM} (h : KB y M) (hz : y ≤ z) : KB z M := ⟨⟨h.1.1, by have := h.1.2; omega⟩, ⟨h.2.1.1, by have := h.2.1.2; omega⟩, by have := h.2.2; omega⟩
theorem KB_N {z : Int} {M N : qM} (h : KB z M) (k : KN M N) : KB z N := by
  obtain ⟨a, b, c, d⟩ := k
  unfold KB
  rw [a, c, d]
  exact h
section QK
variable {P : qP} {M : qM} {z : Int}
theorem KN_C (hP : qPok P) : KN M (qtickC P M) := by
  have h4 := hP.2.1
  unfold qtickC
  have key := q_fold (fun M s => qsend P s (qput s M)) (fun _ N => KN M N) P.1 M (KN_refl M) (fun i N hi hN => by
    refine KN_trans hN ⟨?_, ?_, ?_, ?_⟩
    · rw [qsend_same 0 (by omega) (by omega), qput_same 0 (by omega) (by omega)]
    · rw [qsend_same 1 (by omega) (by omega), qput_same 1 (by omega) (by omega)]
    · rw [qsend_same 5 (by omega) (by omega), qput_same 5 (by omega) (by omega)]
    · rw [qsend_same 119 (by omega) (by omega), qput_same 119 (by omega) (by omega)])
  exact key
theorem KN_D (hI : qI P M) : KN M (qtickD P M) := by
  have h4 := qN_many hI.1.2.1
  have ed : qtickD P M = (if qovert M then (List.range (qmany M)).foldl (fun M k => qovers P (0 + k) M) M else M) := by
    unfold qtickD
    simp only [Nat.zero_add]
  rw [ed]
  by_cases eo : qovert M = true
  · rw [if_pos eo]
    obtain ⟨e67, e69⟩ := qovert_iff.mp eo
    exact KN_overs hI e67 e69 (by omega) (fun k hk => by unfold qlr; rw [if_pos (by omega)]; omega)
  · rw [if_neg eo]
    exact KN_refl M
theorem KN_F (hI : qI P M) : KN M (qtickF P M) := by
  have h2 := hI.1.1.2.2.2.1
  unfold qtickF
  by_cases eo : qovert M = true
  · rw [if_pos eo]
    obtain ⟨e67, e69⟩ := qovert_iff.mp eo
    exact KN_overs hI e67 e69 (by omega) (fun k hk => by unfold qlr; rw [if_neg (by omega)]; omega)
  · rw [if_neg eo]
    exact KN_refl M
theorem KN_E (hI : qI P M) (hno : ¬ qhid M) (hnb : ∀ r, r < 4 → qNB M r) : KN M (qtickE P M) := by
  have h4 := qN_many hI.1.2.1
  unfold qtickE
  have key := q_fold (fun M i => qhandle P i M) (fun i N => qI P N ∧ ¬ qhid N ∧ KN M N ∧ ∀ r, r < 4 → qNB N r) (qmany M) M ⟨hI, hno, KN_refl M, hnb⟩ (fun t N ht hN => by
    obtain ⟨n1, n2, n4, n5⟩ := hN
    have hmN : t < qmany N := by rw [KN_many n4]; exact ht
    have hlr : qlr P N t := by unfold qlr; rw [if_pos (by omega)]; exact hmN
    obtain ⟨o1, o2, o3⟩ := qI_handle n1 n2 (r := t) (by omega) hlr (n5 t (by omega))
    have key : ∀ k, k < 9 → (qhandle P t N).1 k = N.1 k := fun k hk => qhandle_lo n1 (by omega) hlr hk
    refine ⟨o1, ?_, ⟨(key 0 (by omega)).trans n4.1, (key 1 (by omega)).trans n4.2.1, (key 5 (by omega)).trans n4.2.2.1, (o2 119 (by omega)).trans n4.2.2.2⟩, fun r hr a b x hx => ?_⟩
    · unfold qhid; rw [o2 118 (by omega), o2 123 (by omega)]; exact n2
    · rw [o2 67 (by omega)] at a
      rw [o2 69 (by omega)] at b
      exact o3 a b _ (n5 r hr a b x hx))
  exact key.2.2.1
theorem KN_G (hI : qI P M) (hno : ¬ qhid M) (hnb : ∀ r, 4 ≤ r → r < 6 → qNB M r) : KN M (qtickG P M) := by
  have h2 := hI.1.1.2.2.2.1
  unfold qtickG
  have key := q_fold (fun M k => qhandle P (4 + k) M) (fun i N => qI P N ∧ ¬ qhid N ∧ KN M N ∧ ∀ r, 4 ≤ r → r < 6 → qNB N r) P.2.1 M ⟨hI, hno, KN_refl M, hnb⟩ (fun t N ht hN => by
    obtain ⟨n1, n2, n4, n5⟩ := hN
    have hlr : qlr P N (4 + t) := by unfold qlr; rw [if_neg (by omega)]; omega
    obtain ⟨o1, o2, o3⟩ := qI_handle n1 n2 (r := 4 + t) (by omega) hlr (n5 (4 + t) (by omega) (by omega))
    have key : ∀ k, k < 9 → (qhandle P (4 + t) N).1 k = N.1 k := fun k hk => qhandle_lo n1 (by omega) hlr hk
    refine ⟨o1, ?_, ⟨(key 0 (by omega)).trans n4.1, (key 1 (by omega)).trans n4.2.1, (key 5 (by omega)).trans n4.2.2.1, (o2 119 (by omega)).trans n4.2.2.2⟩, fun r hr1 hr a b x hx => ?_⟩
    · unfold qhid; rw [o2 118 (by omega), o2 123 (by omega)]; exact n2
    · rw [o2 67 (by omega)] at a
      rw [o2 69 (by omega)] at b
      exact o3 a b _ (n5 r hr1 hr a b x hx))
  exact key.2.2.1
theorem KB_tick (hI : qI P M) (h : KB z M) : KB (z + 1) (qtick P M) := by
  have hA := qI_A hI ⟨h.1.1, h.2.1.1⟩
  have kA : KB (z + 1) (qtickA M) ∧ (qtickA M).1 0 = M.1 0 := by
    unfold qtickA
    split
    · exact ⟨⟨⟨h.1.1, by have := h.1.2; show M.1 0 ≤ z + 1; omega⟩, ⟨by have := h.2.1.1; show 0 ≤ M.1 5 + 1; omega, by have := h.2.1.2; show M.1 5 + 1 ≤ z + 1; omega⟩, by have := h.2.2; show M.1 119 ≤ z + 1; omega⟩, rfl⟩
    · exact ⟨KB_le h (by omega), rfl⟩
  obtain ⟨k1, k0⟩ := kA
  obtain ⟨b1, b2⟩ := qI_show0 hA
  have t1 := KB_N k1 (KN_show (P := P) (M := qtickA M))
  have u1 := (KN_show (P := P) (M := qtickA M)).1
  obtain ⟨c1, c2⟩ := qI_C b1 b2
  have n2 := KN_C (P := P) (M := qshow P (qtickA M)) hI.1.1
  obtain ⟨d1, d2, d3⟩ := qI_D c1 c2
  have n3 := KN_D c1
  obtain ⟨g1, g2⟩ := qI_E d1 d2 d3
  have n4 := KN_E d1 d2 d3
  obtain ⟨f1, f2, f3⟩ := qI_F g1 g2
  have n5 := KN_F g1
  have n6 := KN_G f1 f2 f3
  have n := KN_trans n2 (KN_trans n3 (KN_trans n4 (KN_trans n5 n6)))
  have t2 := KB_N t1 n
  have u2 := n.1
  unfold qtick
  generalize qtickG P (qtickF P (qtickE P (qtickD P (qtickC P (qshow P (qtickA M)))))) = N at t2 u2
  have h0 : N.1 0 ≤ z := by rw [u2, u1, k0]; exact h.1.2
  have key : KB (z + 1) (qtickH P N) ∧ (qtickH P N).1 0 = N.1 0 := by
    unfold qtickH
    split
    · exact ⟨⟨t2.1, t2.2.1, by show N.1 5 ≤ z + 1; exact t2.2.1.2⟩, rfl⟩
    · exact ⟨t2, rfl⟩
  obtain ⟨v1, v2⟩ := key
  dsimp only
  refine ⟨⟨?_, ?_⟩, ?_, ?_⟩
  · show 0 ≤ qu (qtickH P N).1 0 ((qtickH P N).1 0 + 1) 0
    rw [qu_at]; have := v1.1.1; omega
  · show qu (qtickH P N).1 0 ((qtickH P N).1 0 + 1) 0 ≤ z + 1
    rw [qu_at, v2]; omega
  · show 0 ≤ qu (qtickH P N).1 0 ((qtickH P N).1 0 + 1) 5 ∧ qu (qtickH P N).1 0 ((qtickH P N).1 0 + 1) 5 ≤ z + 1
    rw [qu_ne (by omega)]; exact v1.2.1
  · show qu (qtickH P N).1 0 ((qtickH P N).1 0 + 1) 119 ≤ z + 1
    rw [qu_ne (by omega)]; exact v1.2.2
theorem KB_begin {o : Int} (h : KB z M) : KB (z + 1) (qbegin o M) :=
  ⟨⟨h.1.1, by have := h.1.2; show M.1 0 ≤ z + 1; omega⟩, ⟨by have := h.2.1.1; show 0 ≤ M.1 5 + 1; omega, by have := h.2.1.2; show M.1 5 + 1 ≤ z + 1; omega⟩, by have := h.2.2; show M.1 119 ≤ z + 1; omega⟩
theorem KB_fail (h : KB z M) : KB z (qfail P M) := KB_N (KB_N h (KN_show (P := P) (M := M))) ⟨rfl, rfl, rfl, rfl⟩
theorem KB_res {n : Nat} (h : KB z M) : KB z (qrescale P n M) := KB_fail (P := P) h
/-- n ticks -/
def qit (P : qP) : Nat → qM → qM
  | 0, M => M
  | n + 1, M => qtick P (qit P n M)
theorem qI_it (hI : qI P M) (h : KB z M) : ∀ n : Nat, qI P (qit P n M) ∧ KB (z + n) (qit P n M)
  | 0 => ⟨hI, KB_le h (by omega)⟩
  | n + 1 => by
    obtain ⟨a, b⟩ := qI_it hI h n
    exact ⟨qI_tick a ⟨b.1.1, b.2.1.1⟩, KB_le (KB_tick a b) (by omega)⟩
/-- the first of n steps that has something -/
def qfind (p : Nat → Bool) (n : Nat) : Int := match (List.range n).find? p with | none => -1 | some k => (k : Int)
theorem qfind_at {p : Nat → Bool} {n k : Nat} (h : ∀ i, i < k → p i = false) (hk : k < n) (hp : p k = true) : qfind p n = k := by
  unfold qfind
  have := q_find (f := fun i : Nat => i) (p := p) h hk hp
  rw [List.map_id'] at this
  rw [this]
theorem qfind_no {p : Nat → Bool} {n : Nat} (h : ∀ i, i < n → p i = false) : qfind p n = -1 := by
  unfold qfind
  have := q_find0 (f := fun i : Nat => i) (p := p) h
  rw [List.map_id'] at this
  rw [this]
/-- whether a checkpoint is completed in tick k, counted from 1 -/
def qcomp (P : qP) (M : qM) (k : Nat) : Bool := decide (1 ≤ k) && decide (zi (M.1 6) < zi ((qit P k M).1 6))
def qcw (P : qP) (M : qM) (t : Nat) : Int := qfind (qcomp P M) (t + 1)
/-- what is left when the forecast ends -/
def qcwM (P : qP) (M : qM) (t : Nat) : qM := qit P (if qcw P M t = -1 then t else (qcw P M t).toNat) M
def qquiet (P : qP) (M : qM) : Bool := (List.range P.1).all (fun s => decide ((P.2.2.1 s : Int) ≤ M.1 (13 + s))) && (List.range 28).all (fun c => decide (M.2.1 c = []))
def qqw (P : qP) (M : qM) : Int := qfind (fun k => qquiet P (qit P k M)) 1001
def qhand (M : qM) : Int := ((List.range (qmany M)).map (fun i => M.1 (33 + i))).sum
/-- best number of workers and its records, after the first n -/
def qbest (P : qP) (M : qM) (t : Nat) : Nat → Int × Int
  | 0 => (1, -1)
  | n + 1 => if zi (qbest P M t n).2 < zi (qhand (qit P t (qrescale P (n + 1) M))) then ((n : Int) + 1, qhand (qit P t (qrescale P (n + 1) M))) else qbest P M t n
def qrisk (P : qP) (M : qM) : Int := ((List.range P.1).map (fun s => M.1 (13 + s) - M.1 (124 + s))).sum
end QK
