/-! The class's queries: checkpoints, accounts. -/
section CQ3
variable {σ : zS} {X w b sz q : Nat} {P : qP} {M : qM} {nm : Nat → List Int32} {sv : Bool} {tx ou : List Int32} {er ea : Int} {V : Nat → Nat → Int32}
theorem CN_k {x j : Nat} (h : CN σ X w V b P M) (hx : fx x) : zgI 0 j σ (fpl X 0 + x) = some (V x j) := fi_k h.1 hx
theorem CN_arr {a e : Nat} (h : CN σ X w V b P M) (e67 : M.1 67 = 1) (hae : a ≤ e) (he : e ≤ 6) : fX0_arrivedFrom σ (fpl X 0 + b) (zi a) (zi e) = some (σ, zi (qas M a (e - a))) := by
  have := k_arrived (u := X + w) h.1.1 h.2.2.1 h.2.1 e67 hae he
  rwa [fput_self h.1] at this
theorem flag_if {x : Int} {σ : zS} (h : x = 0 ∨ x = 1) : (if zi x = zi 0 then some (σ, zi 0) else some (σ, zi 1)) = some (σ, zi x) := by
  rcases h with rfl | rfl
  · exact if_pos rfl
  · exact if_neg (by decide)
theorem cq_prog {c : Int} (hR : CR σ X w P nm sv sz q tx er ea ou) (h : CN σ X w V b P M) (hc : zin c) : ((aProg M c).1 = 0 → fX9_progress σ X (zi c) = some (σ, zi (aProg M c).2)) ∧ ((aProg M c).1 ≠ 0 → tX9_progress σ X (zi c) = some 2) := by
  have hx := h.2.1.1
  unfold aProg
  by_cases k : 0 ≤ c ∧ c ≤ 6
  · rw [if_pos k]
    refine ⟨fun _ => ?_, fun q => absurd rfl q⟩
    unfold fX9_progress
    rw [if_neg (by rw [zi_lt hc.1 hc.2 (by omega) (by omega)]; omega), if_pos (zi_yle (by omega) (by omega) (by omega)), cx_now hR.1, Option.bind_some, fi_15 h.1, Option.bind_some, CN_0 h hx, CN_exists h, Option.bind_some]
    dsimp only
    by_cases e : M.1 67 = 1
    · obtain ⟨p1, p3, p4, p5, p6, r1, r2, r3, r4⟩ := h.2.1.2.2.1.2 e
      obtain ⟨o69, o70, o74, -⟩ := (h.2.2.1.1.2.2.2.2.2.1 e).1
      rw [decide_eq_true e, if_neg (show ¬ zb true = zi 0 from by decide), if_pos e]
      have hc6 : c = 0 ∨ c = 1 ∨ c = 2 ∨ c = 3 ∨ c = 4 ∨ c = 5 ∨ c = 6 := by omega
      rcases hc6 with rfl | rfl | rfl | rfl | rfl | rfl | rfl
      · rw [if_pos rfl, CN_k h hx, Option.bind_some, h.2.1.2.2.1.1, if_pos e]; rfl
      · rw [if_neg (by decide), if_pos rfl, CN_k h hx, Option.bind_some, p1]; rfl
      · rw [if_neg (by decide), if_neg (by decide), if_pos rfl, CN_k h hx, Option.bind_some, p3]
        exact flag_if o69
      · rw [if_neg (by decide), if_neg (by decide), if_neg (by decide), if_pos rfl, CN_k h hx, Option.bind_some, p5, m_cnt (fun s hs => o70 s hs), Option.bind_some]; rfl
      · rw [if_neg (by decide), if_neg (by decide), if_neg (by decide), if_neg (by decide), if_pos rfl, CN_0 h hx]
        have := CN_arr (a := 0) (e := 4) h e (by omega) (by omega)
        rw [show zi 0 = zi ((0 : Nat) : Int) from rfl, show zi 4 = zi ((4 : Nat) : Int) from rfl, this, Option.bind_some]; rfl
      · rw [if_neg (by decide), if_neg (by decide), if_neg (by decide), if_neg (by decide), if_neg (by decide), if_pos rfl, CN_0 h hx]
        have := CN_arr (a := 4) (e := 6) h e (by omega) (by omega)
        rw [show zi 4 = zi ((4 : Nat) : Int) from rfl, show zi 6 = zi ((6 : Nat) : Int) from rfl, this, Option.bind_some]; rfl
      · rw [if_neg (by decide), if_neg (by decide), if_neg (by decide), if_neg (by decide), if_neg (by decide), if_neg (by decide), CN_k h hx, Option.bind_some, p6]; rfl
    · rw [decide_eq_false e, if_pos (show zb false = zi 0 from rfl), if_neg e]
  · rw [if_neg k]
    refine ⟨fun q => absurd q (by decide), fun _ => ?_⟩
    unfold tX9_progress
    by_cases k4 : c < 0
    · rw [if_pos (by rw [zi_lt hc.1 hc.2 (by omega) (by omega)]; exact k4)]
    · rw [if_neg (by rw [zi_lt hc.1 hc.2 (by omega) (by omega)]; exact k4), if_neg (zi_nle (by omega) (by have := hc.2; omega) (by omega))]
theorem cq_comp {c : Int} (hR : CR σ X w P nm sv sz q tx er ea ou) (h : CN σ X w V b P M) (hc : zin c) : ((aComp M c).1 = 0 → fX9_completed σ X (zi c) = some (σ, zi (aComp M c).2)) ∧ ((aComp M c).1 ≠ 0 → tX9_completed σ X (zi c) = some 2) := by
  have hx := (fx_other h.2.1.1).1
  have hN := h.2.2.1.1.2.1
  unfold aComp
  by_cases k : 0 ≤ c ∧ c ≤ 5
  · rw [if_pos k]
    refine ⟨fun _ => ?_, fun q => absurd rfl q⟩
    unfold fX9_completed
    rw [if_neg (by rw [zi_lt hc.1 hc.2 (by omega) (by omega)]; omega), if_pos (zi_yle (by omega) (by omega) (by omega)), cx_now hR.1, Option.bind_some, fi_16 h.1, Option.bind_some, CN_0 h hx, CN_done h, Option.bind_some]
    dsimp only
    by_cases e : M.1 118 = 1
    · obtain ⟨p1, p2, p3, p4, p6, -⟩ := h.2.1.2.2.2.2 e
      rw [decide_eq_true e, if_neg (show ¬ zb true = zi 0 from by decide), if_pos e]
      have hc6 : c = 0 ∨ c = 1 ∨ c = 2 ∨ c = 3 ∨ c = 4 ∨ c = 5 := by omega
      rcases hc6 with rfl | rfl | rfl | rfl | rfl | rfl
      · rw [if_pos rfl, CN_k h hx, Option.bind_some, h.2.1.2.2.2.1, if_pos e]; rfl
      · rw [if_neg (by decide), if_pos rfl, CN_k h hx, Option.bind_some, p1]; rfl
      · rw [if_neg (by decide), if_neg (by decide), if_pos rfl, CN_k h hx, Option.bind_some, p2]; rfl
      · rw [if_neg (by decide), if_neg (by decide), if_neg (by decide), if_pos rfl, CN_k h hx, Option.bind_some, p3]
        exact flag_if hN.2.2.2.2.2.2.2.2.2.2.1
      · rw [if_neg (by decide), if_neg (by decide), if_neg (by decide), if_neg (by decide), if_pos rfl, CN_k h hx, Option.bind_some, p6]; rfl
      · rw [if_neg (by decide), if_neg (by decide), if_neg (by decide), if_neg (by decide), if_neg (by decide), CN_k h hx, Option.bind_some, p4]
        exact flag_if hN.2.2.2.2.2.2.2.2.2.1
    · rw [decide_eq_false e, if_pos (show zb false = zi 0 from rfl), if_neg e]
  · rw [if_neg k]
    refine ⟨fun q => absurd q (by decide), fun _ => ?_⟩
    unfold tX9_completed
    by_cases k4 : c < 0
    · rw [if_pos (by rw [zi_lt hc.1 hc.2 (by omega) (by omega)]; exact k4)]
    · rw [if_neg (by rw [zi_lt hc.1 hc.2 (by omega) (by omega)]; exact k4), if_neg (zi_nle (by omega) (by have := hc.2; omega) (by omega))]
theorem cq_npos {a : Int} (hR : CR σ X w P nm sv sz q tx er ea ou) (h : CN σ X w V b P M) (ha : zin a) : ((aNPos P M a).1 = 0 → fX9_notedPosition σ X (zi a) = some (σ, zi (aNPos P M a).2)) ∧ ((aNPos P M a).1 ≠ 0 → tX9_notedPosition σ X (zi a) = some 1) := by
  obtain ⟨n1, n2⟩ := cq_needSource hR ha
  have hx := (fx_other h.2.1.1).1
  have fk := flen_k hx
  have hP4 := hR.2.2.2.1.2.2.2.1
  unfold aNPos
  by_cases k : 0 ≤ a ∧ a < P.1
  · rw [if_pos k]
    refine ⟨fun _ => ?_, fun q => absurd rfl q⟩
    obtain ⟨m1, m2⟩ := n1 k
    obtain ⟨s, rfl⟩ := nat_of k.1
    unfold fX9_notedPosition
    rw [cx_c hR.1, m1, Option.bind_some, cx_now hR.1, Option.bind_some, fi_16 h.1, Option.bind_some, CN_0 h hx, CN_done h, Option.bind_some]
    dsimp only
    rw [Int.toNat_natCast]
    by_cases e : M.1 118 = 1
    · obtain ⟨p1, p2, p3, p4, p6, r2, -⟩ := h.2.1.2.2.2.2 e
      rw [decide_eq_true e, if_neg (show ¬ zb true = zi 0 from by decide), cx_now hR.1, Option.bind_some, fi_16 h.1, Option.bind_some, fi_k8 h.1 hx, Option.bind_some, CN_a (31 - b + 2) s h (by omega) rfl (by omega), Option.bind_some, r2 s (by omega)]
    · have e0 : M.1 118 = 0 := by
        rcases h.2.2.1.1.2.1.2.2.2.2.2.2.2.2.1 with q | q
        · exact q
        · exact absurd q e
      rw [decide_eq_false e, if_pos (show zb false = zi 0 from rfl), (h.2.2.1.1.2.2.2.2.2.2.2.1 e0).1 s (by omega)]
  · rw [if_neg k]
    refine ⟨fun q => absurd q (by decide), fun _ => ?_⟩
    unfold tX9_notedPosition
    rw [n2 k]
theorem cq_nsum {a : Int} (hR : CR σ X w P nm sv sz q tx er ea ou) (h : CN σ X w V b P M) (ha : zin a) : ((aNSum M a).1 = 0 → fX9_notedSum σ X (zi a) = some (σ, zi (aNSum M a).2)) ∧ ((aNSum M a).1 ≠ 0 → tX9_notedSum σ X (zi a) = some 2) := by
  obtain ⟨n1, n2⟩ := cq_needKey (τ := σ) ha
  have hx := (fx_other h.2.1.1).1
  have fk := flen_k hx
  unfold aNSum
  by_cases k : 0 ≤ a ∧ a < 16
  · rw [if_pos k]
    refine ⟨fun _ => ?_, fun q => absurd rfl q⟩
    obtain ⟨m1, m2⟩ := n1 k
    obtain ⟨s, rfl⟩ := nat_of k.1
    unfold fX9_notedSum
    rw [m1, Option.bind_some, cx_now hR.1, Option.bind_some, fi_16 h.1, Option.bind_some, CN_0 h hx, CN_done h, Option.bind_some]
    dsimp only
    rw [Int.toNat_natCast]
    by_cases e : M.1 118 = 1
    · obtain ⟨p1, p2, p3, p4, p6, r2, r3, -⟩ := h.2.1.2.2.2.2 e
      rw [decide_eq_true e, if_neg (show ¬ zb true = zi 0 from by decide), cx_now hR.1, Option.bind_some, fi_16 h.1, Option.bind_some, fi_k9 h.1 hx, Option.bind_some, CN_a (31 - b + 3) s h (by omega) rfl (by omega), Option.bind_some, r3 s (by omega)]
    · have e0 : M.1 118 = 0 := by
        rcases h.2.2.1.1.2.1.2.2.2.2.2.2.2.2.1 with q | q
        · exact q
        · exact absurd q e
      have := (h.2.2.1.1.2.2.2.2.2.2.2.1 e0).1 (4 + s) (by omega)
      rw [show 124 + (4 + s) = 128 + s from by omega] at this
      rw [decide_eq_false e, if_pos (show zb false = zi 0 from rfl), this]
  · rw [if_neg k]
    refine ⟨fun q => absurd q (by decide), fun _ => ?_⟩
    unfold tX9_notedSum
    rw [n2 k]
theorem qf_take_s {k : Nat} {l : List Nat} {t : Nat} (h : t < l.length) : (qf P k (l.take (t + 1))).length = (qf P k (l.take t)).length + if qkey P (l.getD t 0) = k then 1 else 0 := by
  rw [take_s h, qf_app, List.length_append]
  split
  · rename_i e; rw [qf_pos e]; rfl
  · rename_i e; rw [qf_neg e]; rfl
theorem cq_shownOf {a : Int} (hR : CR σ X w P nm sv sz q tx er ea ou) (h : CN σ X w V b P M) (ha : zin a) : ((aShownOf P M a).1 = 0 → fX9_shownOf σ X (zi a) = some (σ, zi (aShownOf P M a).2)) ∧ ((aShownOf P M a).1 ≠ 0 → tX9_shownOf σ X (zi a) = some 2) := by
  obtain ⟨n1, n2⟩ := cq_needKey (τ := σ) ha
  have hS := hR.2.2.2.1.1
  have hP := hR.2.2.2.1.2.2
  have hP2 := hP.2.2.2.1
  unfold aShownOf
  by_cases k : 0 ≤ a ∧ a < 16
  · rw [if_pos k]
    refine ⟨fun _ => ?_, fun q => absurd rfl q⟩
    obtain ⟨m1, m2⟩ := n1 k
    obtain ⟨s, rfl⟩ := nat_of k.1
    rw [Int.toNat_natCast]
    have hsk := qsk_lt (k := s) hP.2.2.1
    generalize hl : 28 + qsk P s = l
    have hlen := (qI_len h.2.2.1 (c := l) (by omega)).1
    have hLL := h.2.1.2.1.2.2.2.2.2.2.2.2 l (by omega)
    obtain ⟨y, hy, hq⟩ := zloop_run (step := sX9_shownOf_44 X (zi s)) (s := (σ, zi 0, zi (lhd (M.2.1 l)), zi (M.2.1 l).length)) (fuel := zfuel) (M.2.1 l).length
      (fun t z => ∃ x, z = (σ, zi ((qf P s ((M.2.1 l).take t)).length : Nat), x, zi ((M.2.1 l).length - (t : Int))) ∧ (t < (M.2.1 l).length → x = zi ((M.2.1 l).getD t 0 : Nat)))
      (fun y => y = (σ, zi ((qf P s (M.2.1 l)).length : Nat)))
      (fun t z ht hz => by
        obtain ⟨x, rfl, hx⟩ := hz
        rw [hx ht]
        have hrec := qI_rec h.2.2.1 (c := l) (by omega) (getD_mem (L := M.2.1 l) (i := t) ht)
        have hk16 := qkey_lt (P := P) hrec.1
        have nx : t + 1 < (M.2.1 l).length → V 7 ((M.2.1 l).getD t 0) = zi ((M.2.1 l).getD (t + 1) 0 : Nat) := fun q => hLL.2.2.2.1 t q
        refine Or.inl ⟨(σ, zi ((qf P s ((M.2.1 l).take (t + 1))).length : Nat), V 7 ((M.2.1 l).getD t 0), zi ((M.2.1 l).length - ((t + 1 : Nat) : Int))), ?_, _, rfl, nx⟩
        unfold sX9_shownOf_44 sX9_shownOf_44b
        dsimp only
        rw [if_neg (zi_nle (by omega) (by omega) (by omega)), cx_set hR, Option.bind_some, su_c hS, su_key hS hrec.1 hrec.2.1, Option.bind_some]
        dsimp only
        unfold jX9_shownOf_65_L44
        rw [cx_now hR.1, Option.bind_some, Option.bind_some, fi_14 h.1, Option.bind_some, Option.bind_some, CN_3 h, CN_behind h hrec.1, Option.bind_some, Option.bind_some, qf_take_s ht, zi_add (((M.2.1 l).length : Int) - (t : Int)) (-1)]
        dsimp only
        rw [show ((M.2.1 l).length : Int) - (t : Int) + -1 = ((M.2.1 l).length : Int) - ((t + 1 : Nat) : Int) from by omega]
        by_cases e : qkey P ((M.2.1 l).getD t 0) = s
        · rw [if_pos (by rw [e]), if_pos e, zi_add]; rfl
        · rw [if_neg (by rw [zi_eq (by omega) (by omega) (by omega) (by omega)]; omega), if_neg e]; rfl)
      (fun z hz => by
        obtain ⟨x, rfl, hx⟩ := hz
        refine ⟨_, ?_, rfl⟩
        unfold sX9_shownOf_44 sX9_shownOf_44b
        dsimp only
        rw [if_pos (zi_yle (by omega) (by omega) (by omega)), List.take_length])
      (zfuel_lt (by omega)) ⟨_, by rw [List.take_zero, show ((M.2.1 l).length : Int) - ((0 : Nat) : Int) = ((M.2.1 l).length : Int) from by omega]; rfl, fun q => by rw [lhd_getD (fun q2 => by rw [q2] at q; exact absurd q (Nat.not_lt_zero _))]⟩
    unfold fX9_shownOf
    rw [m1, Option.bind_some, cx_set hR, Option.bind_some, su_c hS, c_sink hS (by omega) hP.2.2.1 hP2, Option.bind_some, cx_now hR.1, Option.bind_some, fi_14 h.1, Option.bind_some, CN_3 h, zi_add, show (28 : Int) + (qsk P s : Int) = ((l : Nat) : Int) from by omega, CN_first h (by omega), Option.bind_some]
    dsimp only
    rw [cx_now hR.1, Option.bind_some, fi_14 h.1, Option.bind_some, CN_3 h, CN_size h (by omega), Option.bind_some]
    dsimp only
    rw [hy, Option.bind_some, hq]
  · rw [if_neg k]
    refine ⟨fun q => absurd q (by decide), fun _ => ?_⟩
    unfold tX9_shownOf
    rw [n2 k]
theorem qupto_pre {k p n : Nat} (h : p ≤ n) : ∃ t, qupto P k n = qupto P k p ++ t := by
  induction n with
  | zero => exact ⟨[], by rw [show p = 0 from by omega]; simp⟩
  | succ n ih =>
    by_cases e : p = n + 1
    · exact ⟨[], by rw [e]; simp⟩
    · obtain ⟨t, ht⟩ := ih (by omega)
      exact ⟨t ++ qf P k [200 * (k % 4) + n], by rw [qupto_succ, ht, List.append_assoc]⟩
theorem qfrom_0 {k : Nat} : qfrom P k 0 = qupto P k (P.2.2.1 (k % 4)) := rfl
/-- the many-th record of a key: the sum behind it -/
theorem qexp_at {k m i : Nat} (hi : i < P.2.2.1 (k % 4)) (hk : qkey P (200 * (k % 4) + i) = k) (h2 : P.2.2.1 (k % 4) ≤ 200) (hm : (qupto P k i).length + 1 = m) : qexp P k m = qres P (200 * (k % 4) + i) := by
  obtain ⟨t, ht⟩ := qupto_pre (P := P) (k := k) (p := i + 1) (n := P.2.2.1 (k % 4)) (by omega)
  have e1 : (qupto P k (i + 1)).length = m := by rw [qupto_succ, qf_pos hk, List.length_append]; exact hm
  unfold qexp qres
  rw [qfrom_0, ht, hk, show (200 * (k % 4) + i) % 200 + 1 = i + 1 from by omega, if_pos (by rw [List.length_append]; omega), ← e1, List.take_left']
  rfl
theorem cq_exp {k m : Int} (hR : CR σ X w P nm sv sz q tx er ea ou) (hk : zin k) (hm : zin m) : ((aExp P k m).1 = 0 → fX9_expected σ X (zi k) (zi m) = some (σ, zi (aExp P k m).2)) ∧ ((aExp P k m).1 ≠ 0 → tX9_expected σ X (zi k) (zi m) = some 2) := by
  obtain ⟨n1, n2⟩ := cq_needKey (τ := σ) hk
  have hS := hR.2.2.2.1.1
  have hP := hR.2.2.2.1.2.2
  have hP4 := hP.2.1
  unfold aExp
  by_cases k1 : 0 ≤ k ∧ k < 16
  · obtain ⟨m1, m2⟩ := n1 k1
    obtain ⟨s, rfl⟩ := nat_of k1.1
    by_cases k2 : 1 ≤ m
    · rw [if_pos ⟨k1, k2⟩]
      refine ⟨fun _ => ?_, fun q => absurd rfl q⟩
      obtain ⟨c, rfl⟩ := nat_of (show 0 ≤ m from by omega)
      rw [Int.toNat_natCast, Int.toNat_natCast]
      have h200 := hP.2.2.2.2.1 (s % 4)
      have hmm := hm.2
      generalize hN : P.2.2.1 (s % 4) = N at h200
      have e4 : zi (s : Int) - zi (s : Int) / zi 4 * zi 4 = zi ((s % 4 : Nat) : Int) := by
        rw [zi_mod (by omega) (by omega) (by omega) (by omega)]
        congr 1
      have hz0 : N ≠ 0 → s % 4 < P.1 := fun q => Nat.lt_of_not_le (fun q2 => q (by rw [← hN]; exact hP.2.2.2.2.2.1 _ q2))
      obtain ⟨y, hy, hq⟩ := zloop_run (step := sX7_resultBehind_10 (X + w) (zi s) (zi ((s % 4 : Nat) : Int))) (s := (σ, zi c, zi 0)) (fuel := zfuel) N
        (fun i z => z = (σ, zi ((c : Int) - (qupto P s i).length), zi (i : Int)) ∧ (qupto P s i).length < c)
        (fun y => (∃ i, i < N ∧ y = .inl (σ, zi ((200 * (s % 4) + i : Nat) : Int)) ∧ qkey P (200 * (s % 4) + i) = s ∧ (qupto P s i).length + 1 = c) ∨ y = .inr σ ∧ (qupto P s N).length < c)
        (fun i z hi hz => by
          obtain ⟨rfl, hlt⟩ := hz
          have hs4 := hz0 (by omega)
          have hkey := su_key (n := 200 * (s % 4) + i) hS (by omega) (by rw [show (200 * (s % 4) + i) % 200 = i from by omega, show (200 * (s % 4) + i) / 200 = s % 4 from by omega, hN]; exact hi)
          have hk16 := qkey_lt (P := P) (n := 200 * (s % 4) + i) (by omega)
          have e2 : (200 : Int) * ((s % 4 : Nat) : Int) + (i : Int) = ((200 * (s % 4) + i : Nat) : Int) := by omega
          have com : sX7_resultBehind_10 (X + w) (zi s) (zi ((s % 4 : Nat) : Int)) (σ, zi ((c : Int) - (qupto P s i).length), zi (i : Int)) = if zi (qkey P (200 * (s % 4) + i)) = zi s then (if zi ((c : Int) - (qupto P s i).length) + zi (-1) = zi 0 then some (.inr (.inl (σ, zi ((200 * (s % 4) + i : Nat) : Int)))) else some (.inl (σ, zi ((c : Int) - (qupto P s i).length) + zi (-1), zi (i : Int) + zi 1))) else some (.inl (σ, zi ((c : Int) - (qupto P s i).length), zi (i : Int) + zi 1)) := by
            unfold sX7_resultBehind_10 sX7_resultBehind_10b
            dsimp only
            rw [cs_0 hS, Option.bind_some, if_neg (zi_nle (by omega) (by omega) (by omega)), su_r hS (by omega) (by omega), Option.bind_some, su_rec hS (by omega), Option.bind_some, hN, if_neg (zi_nle (by omega) (by omega) (by omega))]
            unfold fX9_numberOf
            rw [Option.bind_some, zi_mul, zi_add]
            dsimp only
            rw [e2, su_c hS, hkey, Option.bind_some]
            rfl
          rw [com]
          by_cases e : qkey P (200 * (s % 4) + i) = s
          · rw [if_pos (by rw [e])]
            have el : (qupto P s (i + 1)).length = (qupto P s i).length + 1 := by rw [qupto_succ, qf_pos e, List.length_append]; rfl
            by_cases e3 : (qupto P s i).length + 1 = c
            · rw [if_pos (by rw [zi_add]; congr 1; omega)]
              exact Or.inr ⟨_, rfl, Or.inl ⟨i, hi, rfl, e, e3⟩⟩
            · rw [if_neg (by rw [zi_add, zi_eq (by omega) (by omega) (by omega) (by omega)]; omega)]
              refine Or.inl ⟨_, rfl, ?_, by omega⟩
              rw [zi_add, zi_add, el]
              congr 2
              congr 1
              omega
          · rw [if_neg (by rw [zi_eq (by omega) (by omega) (by omega) (by omega)]; omega)]
            have el : (qupto P s (i + 1)).length = (qupto P s i).length := by rw [qupto_succ, qf_neg e, List.append_nil]
            refine Or.inl ⟨_, rfl, ?_, by omega⟩
            rw [zi_add, el]
            rfl)
        (fun z hz => by
          obtain ⟨rfl, hlt⟩ := hz
          refine ⟨_, ?_, Or.inr ⟨rfl, hlt⟩⟩
          unfold sX7_resultBehind_10 sX7_resultBehind_10b
          dsimp only
          rw [cs_0 hS, Option.bind_some]
          by_cases e : P.1 ≤ s % 4
          · rw [if_pos (zi_yle (by omega) (by omega) (by omega))]
          · rw [if_neg (zi_nle (by omega) (by omega) (by omega)), su_r hS (by omega) (by omega), Option.bind_some, su_rec hS (by omega), Option.bind_some, hN, if_pos (zi_yle (by omega) (by omega) (Int.le_refl _))])
        (zfuel_lt (by omega)) ⟨by rw [show (c : Int) - ((qupto P s 0).length : Int) = (c : Int) from by simp [qupto]]; rfl, by simp [qupto]; omega⟩
      unfold fX9_expected
      rw [m1, Option.bind_some, if_pos (zi_yle (by omega) (by omega) k2), cx_set hR, Option.bind_some, su_c hS]
      unfold fX7_resultBehind
      rw [e4, hy, Option.bind_some]
      rcases hq with ⟨i, hi, rfl, hk2, hc2⟩ | ⟨rfl, hlt⟩
      · dsimp only
        rw [su_c hS, su_res hS (by omega) (by rw [show (200 * (s % 4) + i) % 200 = i from by omega, show (200 * (s % 4) + i) / 200 = s % 4 from by omega, hN]; exact hi), Option.bind_some, Option.bind_some, qexp_at (by omega) hk2 (by omega) hc2]
      · dsimp only
        rw [Option.bind_some]
        unfold qexp
        rw [qfrom_0, hN, if_neg (by omega)]
    · rw [if_neg (fun q => k2 q.2)]
      refine ⟨fun q => absurd q (by decide), fun _ => ?_⟩
      unfold tX9_expected
      rw [m2]
      dsimp only
      rw [m1, Option.bind_some, if_neg (zi_nle (by have := hm.1; omega) (by omega) (by omega))]
  · rw [if_neg (fun q => k1 q.1)]
    refine ⟨fun q => absurd q (by decide), fun _ => ?_⟩
    unfold tX9_expected
    rw [n2 k1]
theorem cq_risk (hc : csh σ X) (h : CN σ X w V b P M) : fX9_atRisk σ X = some (σ, zi (qrisk P M)) := by
  unfold fX9_atRisk
  rw [cx_now hc, Option.bind_some, CN_c h, CN_risk h, Option.bind_some]
end CQ3
