/-! The class's checkpoint completes. -/
def qs4 (M : qM) (r : Nat) : Int := M.1 (74 + (4 * r + 0)) + M.1 (74 + (4 * r + 1)) + M.1 (74 + (4 * r + 2)) + M.1 (74 + (4 * r + 3))
def qas (M : qM) (a : Nat) : Nat → Int
  | 0 => 0
  | k + 1 => qas M a k + qs4 M (a + k)
section KC
variable {σ : zS} {f b u : Nat} {V : Nat → Nat → Int32} {M : qM} {P : qP}
theorem k_arrived {a e : Nat} (h : fsh σ f) (hI : qI P M) (hC : RC V b M) (e67 : M.1 67 = 1) (hae : a ≤ e) (he : e ≤ 6) : fX0_arrivedFrom (fput σ f V b u) (f + b) (zi a) (zi e) = some (fput σ f V b u, zi (qas M a (e - a))) := by
  have hx := hC.1
  have fb := flen_k hx
  obtain ⟨y, hy, rfl⟩ := zloop_run (step := sX0_arrivedFrom_5 (f + b) (zi e)) (s := (fput σ f V b u, zi 0, zi (a : Int))) (fuel := zfuel) (e - a)
    (fun i s => s = (fput σ f V b u, zi (qas M a i), zi ((a + i : Nat) : Int))) (fun y => y = (fput σ f V b u, zi (qas M a (e - a))))
    (fun i s hi hs => by
      subst hs
      refine Or.inl ⟨_, ?_, rfl⟩
      unfold sX0_arrivedFrom_5 sX0_arrivedFrom_5b
      dsimp only
      rw [if_neg (zi_nle (by omega) (by omega) (by omega)), if_neg (zi_nle (by omega) (by omega) (by omega)), cr_7 h hx, Option.bind_some, fa_rd (b + 1) (a + i) h (by omega) rfl (by rw [fb.1]; omega), Option.bind_some, (hC.2.2.1.2 e67).2.2.2.2.2.1 (a + i) (by omega), m_cnt (k_flags hI e67 (by omega)), Option.bind_some]
      dsimp only
      rw [zi_add, zi_add]
      rfl)
    (fun s hs => by
      subst hs
      refine ⟨_, ?_, rfl⟩
      unfold sX0_arrivedFrom_5 sX0_arrivedFrom_5b
      dsimp only
      rw [if_pos (by rw [zi_le (by omega) (by omega) (by omega) (by omega)]; omega)])
    (zfuel_lt (by omega)) rfl
  unfold fX0_arrivedFrom
  rw [hy, Option.bind_some]
theorem fp_swap {b2 : Nat} (h : fsh σ f) (hb : b2 = 31 - b) (hb2 : b = 31 - b2) : ((zpR 1 16 (fput σ f V b u) f (some (f + b))).bind fun σ23 => zpR 1 15 σ23 f (some (f + b2))) = some (fput σ f V b2 u) := by
  unfold zpR
  rw [if_pos (show ((fput σ f V b u).1 f).1 = 1 + 5 from h.1), Option.bind_some, if_pos (show ((zuR (fput σ f V b u) f 16 (some (f + b))).1 f).1 = 1 + 5 from h.1)]
  refine congrArg some (Prod.ext rfl (Prod.ext rfl (Prod.ext ?_ rfl)))
  funext p j
  unfold zuR zu fput
  dsimp only
  by_cases e : p = f
  · subst e
    rw [if_pos rfl, if_pos rfl]
    by_cases e1 : j = 15
    · rw [if_pos ⟨rfl, e1⟩, if_pos e1]
    · rw [if_neg (fun q => e1 q.2), if_neg e1]
      by_cases e2 : j = 16
      · rw [if_pos ⟨rfl, e2⟩, if_neg e1, if_pos e2, ← hb2]
      · rw [if_neg (fun q => e2 q.2), if_neg e1, if_neg e2, if_neg e2]
  · rw [if_neg (fun q => e q.1), if_neg (fun q => e q.1), if_neg e, if_neg e]
theorem k_s4 (hI : qI P M) (e67 : M.1 67 = 1) {r : Nat} (hr : r < 6) : (0 ≤ qs4 M r ∧ qs4 M r ≤ qns P M r) ∧ (¬ qlr P M r → qs4 M r = 0) ∧ (qs4 M r = qns P M r ↔ ∀ x, x < qns P M r → M.1 (74 + (4 * r + x)) = 1) := by
  have e := k_cnt (qns_le hI.1.1 hI.1.2.1 r).1 (fun x h1 h2 => k_none hI e67 hr h1 h2)
  obtain ⟨q1, q2, q3, q4⟩ := qcnt_eq hI.1 e67 hr
  unfold qs4
  rw [e]
  refine ⟨⟨q1, q2⟩, fun hn => q3.mpr (fun x hx => ?_), q4⟩
  have h4 := (qns_le hI.1.1 hI.1.2.1 r).1
  obtain ⟨o69, o70, o74, o144, o98, o5, o68, o7, o8, o9⟩ := (hI.1.2.2.2.2.2.1 e67).1
  rcases o74 (4 * r + x) (by omega) with q | q
  · exact q
  · exact absurd (o8 r x hr (by omega) q).1 hn
theorem k_full (hI : qI P M) (e67 : M.1 67 = 1) : qfull P M = true ↔ (P.1 : Int) ≤ M.1 (70 + 0) + M.1 (70 + 1) + M.1 (70 + 2) + M.1 (70 + 3) ∧ (P.1 : Int) * M.1 1 ≤ qas M 0 4 ∧ M.1 1 * (P.2.1 : Int) ≤ qas M 4 2 := by
  have hP := hI.1.1
  have h1 := hP.1
  have h2 := hP.2.1
  have h3 := hP.2.2.1
  have h4 := hP.2.2.2.1
  have hm := hI.1.2.1.1
  have hmq : M.1 1 = (qmany M : Int) := by unfold qmany; omega
  obtain ⟨o69, o70, o74, o144, o98, o5, o68, o7, o8, o9⟩ := (hI.1.2.2.2.2.2.1 e67).1
  have key : qfull P M = true ↔ (∀ s, s < P.1 → M.1 (70 + s) = 1) ∧ (∀ r, r < 4 → r < qmany M → qs4 M r = P.1) ∧ ∀ k, k < 2 → k < P.2.1 → qs4 M (4 + k) = qmany M := by
    unfold qfull
    rw [decide_eq_true e67]
    simp only [Bool.true_and, Bool.and_eq_true, List.all_eq_true, List.mem_range, decide_eq_true_eq]
    have q1 : ∀ r, r < 4 → (qs4 M r = P.1 ↔ ∀ x, x < P.1 → M.1 (74 + (4 * r + x)) = 1) := fun r hr => by
      have := (k_s4 hI e67 (r := r) (by omega)).2.2
      unfold qns at this
      rw [if_pos hr] at this
      exact this
    have q2 : ∀ k, k < 2 → (qs4 M (4 + k) = qmany M ↔ ∀ x, x < qmany M → M.1 (74 + (4 * (4 + k) + x)) = 1) := fun k hk => by
      have := (k_s4 hI e67 (r := 4 + k) (by omega)).2.2
      unfold qns at this
      rw [if_neg (by omega)] at this
      exact this
    constructor
    · rintro ⟨⟨a1, a2⟩, a3⟩
      exact ⟨a1, fun r hr hn => (q1 r hr).mpr (a2 r hn), fun k hk hn => (q2 k hk).mpr (a3 k hn)⟩
    · rintro ⟨a1, a2, a3⟩
      exact ⟨⟨a1, fun r hn => (q1 r (by omega)).mp (a2 r (by omega) hn)⟩, fun k hn => (q2 k (by omega)).mp (a3 k (by omega) hn)⟩
  have lo : ∀ r, r < 4 → (0 ≤ qs4 M r ∧ qs4 M r ≤ P.1) ∧ (¬ r < qmany M → qs4 M r = 0) := fun r hr => by
    obtain ⟨b1, b2, -⟩ := k_s4 hI e67 (r := r) (by omega)
    unfold qns at b1
    unfold qlr at b2
    rw [if_pos hr] at b1 b2
    exact ⟨b1, b2⟩
  have hi : ∀ k, k < 2 → (0 ≤ qs4 M (4 + k) ∧ qs4 M (4 + k) ≤ qmany M) ∧ (¬ k < P.2.1 → qs4 M (4 + k) = 0) := fun k hk => by
    obtain ⟨b1, b2, -⟩ := k_s4 hI e67 (r := 4 + k) (by omega)
    unfold qns at b1
    unfold qlr at b2
    rw [if_neg (by omega)] at b1 b2
    rw [show 4 + k - 4 = k from by omega] at b2
    exact ⟨b1, b2⟩
  rw [key, hmq, show qas M 0 4 = 0 + qs4 M (0 + 0) + qs4 M (0 + 1) + qs4 M (0 + 2) + qs4 M (0 + 3) from rfl, show qas M 4 2 = 0 + qs4 M (4 + 0) + qs4 M (4 + 1) from rfl]
  have l0 := lo 0 (by omega)
  have l1 := lo 1 (by omega)
  have l2 := lo 2 (by omega)
  have l3 := lo 3 (by omega)
  have g0 := hi 0 (by omega)
  have g1 := hi 1 (by omega)
  have p0 := o70 0 (by omega)
  have p1 := o70 1 (by omega)
  have p2 := o70 2 (by omega)
  have p3 := o70 3 (by omega)
  have r0 := o7 0 (by omega)
  have r1 := o7 1 (by omega)
  have r2 := o7 2 (by omega)
  have r3 := o7 3 (by omega)
  clear o69 o70 o74 o144 o98 o5 o68 o7 o8 o9 lo hi key
  have hn : qmany M = 1 ∨ qmany M = 2 ∨ qmany M = 3 ∨ qmany M = 4 := by omega
  constructor
  · rintro ⟨a1, a2, a3⟩
    have b0 := a1 0
    have b1 := a1 1
    have b2 := a1 2
    have b3 := a1 3
    have c0 := a2 0 (by omega)
    have c1 := a2 1 (by omega)
    have c2 := a2 2 (by omega)
    have c3 := a2 3 (by omega)
    have d0 := a3 0 (by omega)
    have d1 := a3 1 (by omega)
    clear a1 a2 a3
    rw [Nat.zero_add, Nat.zero_add, Nat.zero_add, Nat.zero_add]
    refine ⟨by omega, ?_, ?_⟩
    · rcases hn with e | e | e | e <;> (rw [e] at c0 c1 c2 c3 l0 l1 l2 l3 ⊢; omega)
    · have : P.2.1 = 1 ∨ P.2.1 = 2 := by omega
      rcases this with e | e <;> (rw [e] at d0 d1 g0 g1 ⊢; omega)
  · rintro ⟨a1, a2, a3⟩
    rw [Nat.zero_add, Nat.zero_add, Nat.zero_add, Nat.zero_add] at a2
    have c : ∀ r, (r = 0 ∨ r = 1 ∨ r = 2 ∨ r = 3) → r < qmany M → qs4 M r = P.1 := by
      rintro r (rfl | rfl | rfl | rfl) hr <;> (rcases hn with e | e | e | e <;> (rw [e] at a2 l0 l1 l2 l3 hr; omega))
    have d : ∀ k, (k = 0 ∨ k = 1) → k < P.2.1 → qs4 M (4 + k) = qmany M := by
      have : P.2.1 = 1 ∨ P.2.1 = 2 := by omega
      rintro k (rfl | rfl) hk <;> (rcases this with e | e <;> (rw [e] at a3 g0 g1 hk; omega))
    have b : ∀ s, (s = 0 ∨ s = 1 ∨ s = 2 ∨ s = 3) → s < P.1 → M.1 (70 + s) = 1 := by
      rintro s (rfl | rfl | rfl | rfl) hs <;> omega
    exact ⟨fun s hs => b s (by omega) hs, fun r hr => c r (by omega), fun k hk => d k (by omega)⟩
end KC
