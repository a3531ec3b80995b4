/-! The reference's queries: checkpoints, accounts. -/
section RQ2
variable {σ : zS} {m : Nat} {P : qP} {M : qM}
/-- a loop that adds up from a counter on -/
theorem zsumF {τ : zS} {step : zS × Int32 × Int32 → Option ((zS × Int32 × Int32) ⊕ (zS × Int32))} (a n : Nat) (g : Nat → Int) (hs : ∀ i y, i < n → step (τ, zi y, zi ((a + i : Nat) : Int)) = some (.inl (τ, zi (y + g i), zi ((a + i : Nat) : Int) + zi 1))) (he : ∀ y, step (τ, zi y, zi ((a + n : Nat) : Int)) = some (.inr (τ, zi y))) (hn : n < 1000000) (b : Int) : zloop step zfuel (τ, zi b, zi (a : Int)) = some (τ, zi (b + ((List.range n).map g).sum)) := by
  obtain ⟨y, hy, hq⟩ := zloop_run (step := step) (s := (τ, zi b, zi (a : Int))) (fuel := zfuel) n (fun i s => s = (τ, zi (b + ((List.range i).map g).sum), zi ((a + i : Nat) : Int))) (fun y => y = (τ, zi (b + ((List.range n).map g).sum)))
    (fun i s hi hs2 => by
      subst hs2
      refine Or.inl ⟨_, hs i _ hi, ?_⟩
      rw [zi_add, List.range_succ, List.map_append, List.sum_append]
      have : b + (List.map g (List.range i)).sum + g i = b + ((List.map g (List.range i)).sum + (List.map g [i]).sum) := by simp [Int.add_assoc]
      rw [this]; rfl)
    (fun s hs2 => by subst hs2; exact ⟨_, he _, rfl⟩)
    (zfuel_lt hn) (by simp)
  rw [hy, hq]
theorem rq_sumOf {a n : Nat} (h : RN σ m P M) (ha : a + n ≤ 144) : fX10_sumOf σ m (zi a) (zi n) = some (σ, zi ((List.range n).map (fun i => pS M (a + i))).sum) := by
  unfold fX10_sumOf
  rw [zsumF a n (fun i => pS M (a + i)) (fun i y hi => by
    unfold sX10_sumOf_5 sX10_sumOf_5b
    dsimp only
    rw [zi_add (a : Int) (n : Int), if_neg (zi_nle (by omega) (by omega) (by omega)), RN_now h, Option.bind_some, RN_S (a + i) h rfl (by omega), Option.bind_some, zi_add]) (fun y => by
    unfold sX10_sumOf_5 sX10_sumOf_5b
    dsimp only
    rw [zi_add (a : Int) (n : Int), if_pos (zi_yle (by omega) (by omega) (by omega))]) (by omega), Option.bind_some, Int.zero_add]
theorem sum4 (g : Nat → Int) : ((List.range 4).map g).sum = g 0 + g 1 + g 2 + g 3 := by
  simp only [List.range_succ, List.range_zero, List.map_append, List.map_cons, List.map_nil, List.sum_append, List.sum_cons, List.sum_nil, List.nil_append]
  omega
theorem sum8 (g : Nat → Int) : ((List.range 8).map g).sum = g 0 + g 1 + g 2 + g 3 + g 4 + g 5 + g 6 + g 7 := by
  simp only [List.range_succ, List.range_zero, List.map_append, List.map_cons, List.map_nil, List.sum_append, List.sum_cons, List.sum_nil, List.nil_append]
  omega
theorem sum16 (g : Nat → Int) : ((List.range 16).map g).sum = g 0 + g 1 + g 2 + g 3 + g 4 + g 5 + g 6 + g 7 + g 8 + g 9 + g 10 + g 11 + g 12 + g 13 + g 14 + g 15 := by
  simp only [List.range_succ, List.range_zero, List.map_append, List.map_cons, List.map_nil, List.sum_append, List.sum_cons, List.sum_nil, List.nil_append]
  omega
theorem sum_ai : ((List.range 16).map (fun i => pS M (74 + i))).sum = qas M 0 4 := by
  rw [sum16]
  have e : ∀ s i, s < 4 → i < 4 → pS M (74 + (4 * s + i)) = M.1 (74 + (4 * i + s)) := fun s i hs hi => pS_ai hs hi
  have a0 := e 0 0 (by omega) (by omega)
  have a1 := e 0 1 (by omega) (by omega)
  have a2 := e 0 2 (by omega) (by omega)
  have a3 := e 0 3 (by omega) (by omega)
  have a4 := e 1 0 (by omega) (by omega)
  have a5 := e 1 1 (by omega) (by omega)
  have a6 := e 1 2 (by omega) (by omega)
  have a7 := e 1 3 (by omega) (by omega)
  have a8 := e 2 0 (by omega) (by omega)
  have a9 := e 2 1 (by omega) (by omega)
  have a10 := e 2 2 (by omega) (by omega)
  have a11 := e 2 3 (by omega) (by omega)
  have a12 := e 3 0 (by omega) (by omega)
  have a13 := e 3 1 (by omega) (by omega)
  have a14 := e 3 2 (by omega) (by omega)
  have a15 := e 3 3 (by omega) (by omega)
  simp only [qas, qs4, Nat.reduceMul, Nat.reduceAdd, Nat.zero_add, Nat.add_zero] at *
  omega
theorem sum_ao : ((List.range 8).map (fun i => pS M (90 + i))).sum = qas M 4 2 := by
  rw [sum8]
  have e : ∀ k i, k < 2 → i < 4 → pS M (90 + (2 * i + k)) = M.1 (74 + (4 * (4 + k) + i)) := fun k i hk hi => pS_ao hk hi
  have a0 := e 0 0 (by omega) (by omega)
  have a1 := e 0 1 (by omega) (by omega)
  have a2 := e 0 2 (by omega) (by omega)
  have a3 := e 0 3 (by omega) (by omega)
  have a4 := e 1 0 (by omega) (by omega)
  have a5 := e 1 1 (by omega) (by omega)
  have a6 := e 1 2 (by omega) (by omega)
  have a7 := e 1 3 (by omega) (by omega)
  simp only [qas, qs4, Nat.reduceMul, Nat.reduceAdd, Nat.zero_add, Nat.add_zero] at *
  omega
theorem rq_allIn {o : Nat} (h : RN σ m P M) (ho : o = 30 ∨ o = 54) : fX10_allIn σ m (zi (if o = 30 then 14598 else 24246)) (zi (if o = 30 then 17830 else 27478)) = some (σ, zi (gtot M o)) := by
  have hA : ∀ k, k < 16 → (if o = 30 then 14598 else 24246 : Int) + 202 * (k : Nat) = (rb (o + (4 * (k % 4) + k / 4)) : Nat) := fun k hk => by
    rcases ho with rfl | rfl
    · rw [if_pos rfl, rb_ki (s := k / 4) (i := k % 4) (by omega) (by omega)]; omega
    · rw [if_neg (by decide), rb_di (s := k / 4) (i := k % 4) (by omega) (by omega)]; omega
  have hB : ∀ k, k < 8 → (if o = 30 then 17830 else 27478 : Int) + 802 * (k : Nat) = (rb (o + (4 * (4 + k % 2) + k / 2)) : Nat) := fun k hk => by
    rcases ho with rfl | rfl
    · rw [if_pos rfl, rb_ko (k := k % 2) (i := k / 2) (by omega) (by omega)]; omega
    · rw [if_neg (by decide), rb_do (k := k % 2) (i := k / 2) (by omega) (by omega)]; omega
  generalize (if o = 30 then 14598 else 24246 : Int) = u at hA ⊢
  generalize (if o = 30 then 17830 else 27478 : Int) = v at hB ⊢
  unfold fX10_allIn
  rw [zsum 16 (fun k => ((M.2.1 (o + (4 * (k % 4) + k / 4))).length : Int)) 0 (fun k y hk => by
    unfold sX10_allIn_5 sX10_allIn_5b
    dsimp only
    rw [if_neg (zi_nle (by omega) (by omega) (by omega)), RN_now h, Option.bind_some, zi_mul, zi_add, RN_len (o + (4 * (k % 4) + k / 4)) h (hA k hk) (by omega), Option.bind_some, pR_len (by omega), zi_add]) (fun y => by
    unfold sX10_allIn_5 sX10_allIn_5b
    dsimp only
    rw [if_pos (by decide)]) (by omega), Option.bind_some]
  dsimp only
  rw [zsum 8 (fun k => ((M.2.1 (o + (4 * (4 + k % 2) + k / 2))).length : Int)) _ (fun k y hk => by
    unfold sX10_allIn_37 sX10_allIn_37b
    dsimp only
    rw [if_neg (zi_nle (by omega) (by omega) (by omega)), RN_now h, Option.bind_some, zi_mul, zi_add, RN_len (o + (4 * (4 + k % 2) + k / 2)) h (hB k hk) (by omega), Option.bind_some, pR_len (by omega), zi_add]) (fun y => by
    unfold sX10_allIn_37 sX10_allIn_37b
    dsimp only
    rw [if_pos (by decide)]) (by omega), Option.bind_some]
  dsimp only
  refine congrArg (fun q => some (σ, zi q)) ?_
  unfold gtot
  rw [sum16, sum8, sum24]
  simp only [Nat.reduceMul, Nat.reduceAdd, Nat.reduceMod, Nat.reduceDiv, Nat.zero_add, Nat.add_zero]
  omega
theorem rq_allK (h : RN σ m P M) : fX10_allIn σ m (zi 14598) (zi 17830) = some (σ, zi (gtot M 30)) := rq_allIn (o := 30) h (Or.inl rfl)
theorem rq_allD (h : RN σ m P M) : fX10_allIn σ m (zi 24246) (zi 27478) = some (σ, zi (gtot M 54)) := rq_allIn (o := 54) h (Or.inr rfl)
theorem L_of {x : Int} (k : Nat) (h : RN σ m P M) (hx : x = k) (hk : k < 37 ∨ 67 ≤ k ∧ k < 74 ∨ 98 ≤ k ∧ k < 144) : zaI σ (m + 4) (zi x) = some (zi (M.1 k)) := RN_lo k h hx hk
theorem rq_prog {c : Int} (h : RN σ m P M) (hc : zin c) : fX10_progress σ m (zi c) = some (zuI σ m 0 (zi (aProg M c).1), zi (aProg M c).2) := by
  have h2 := RN_tl (v := zi 0) h
  have hN := h.2.2.2.1.2.1
  unfold fX10_progress aProg
  rw [f_in (l := 0) (h := 6) (l_zi hc) rfl rfl, Option.bind_some]
  dsimp only
  rw [RN_ck h.1, r_is h.1, Option.bind_some]
  dsimp only
  by_cases k : 0 ≤ c ∧ c ≤ 6
  · rw [decide_eq_true k, if_neg zt, if_pos k, if_pos (show true = true from rfl), RN_now h2, Option.bind_some, L_of (x := 67) 67 h2 rfl (by omega), Option.bind_some]
    rcases hN.2.2.2.2.2.2.2.1 with e | e
    · rw [e, if_pos rfl, if_neg (by decide)]
    · rw [e, if_neg z10, if_pos (show (1 : Int) = 1 from rfl)]
      have hc6 : c = 0 ∨ c = 1 ∨ c = 2 ∨ c = 3 ∨ c = 4 ∨ c = 5 ∨ c = 6 := by omega
      rcases hc6 with rfl | rfl | rfl | rfl | rfl | rfl | rfl
      · rw [if_pos rfl, Option.bind_some, L_of (x := 5) 5 h2 rfl (by omega), Option.bind_some]; rfl
      · rw [if_neg (by decide), if_pos rfl, Option.bind_some, L_of (x := 68) 68 h2 rfl (by omega), Option.bind_some]; rfl
      · rw [if_neg (by decide), if_neg (by decide), if_pos rfl, Option.bind_some, L_of (x := 69) 69 h2 rfl (by omega), Option.bind_some]; rfl
      · have := rq_sumOf (a := 70) (n := 4) h2 (by omega)
        rw [sum4, pS_lo (by omega), pS_lo (by omega), pS_lo (by omega), pS_lo (by omega)] at this
        rw [if_neg (by decide), if_neg (by decide), if_neg (by decide), if_pos rfl, RN_ck h2.1, show zi 70 = zi ((70 : Nat) : Int) from rfl, show zi 4 = zi ((4 : Nat) : Int) from rfl, this, Option.bind_some]; rfl
      · have := rq_sumOf (a := 74) (n := 16) h2 (by omega)
        rw [sum_ai] at this
        rw [if_neg (by decide), if_neg (by decide), if_neg (by decide), if_neg (by decide), if_pos rfl, RN_ck h2.1, show zi 74 = zi ((74 : Nat) : Int) from rfl, show zi 16 = zi ((16 : Nat) : Int) from rfl, this, Option.bind_some]; rfl
      · have := rq_sumOf (a := 90) (n := 8) h2 (by omega)
        rw [sum_ao] at this
        rw [if_neg (by decide), if_neg (by decide), if_neg (by decide), if_neg (by decide), if_neg (by decide), if_pos rfl, RN_ck h2.1, show zi 90 = zi ((90 : Nat) : Int) from rfl, show zi 8 = zi ((8 : Nat) : Int) from rfl, this, Option.bind_some]; rfl
      · rw [if_neg (by decide), if_neg (by decide), if_neg (by decide), if_neg (by decide), if_neg (by decide), if_neg (by decide), RN_ck h2.1, rq_allK h2, Option.bind_some]; rfl
  · rw [decide_eq_false k, if_pos zf, if_neg k, if_neg (show ¬ false = true from by decide)]
theorem rq_comp {c : Int} (h : RN σ m P M) (hc : zin c) : fX10_completed σ m (zi c) = some (zuI σ m 0 (zi (aComp M c).1), zi (aComp M c).2) := by
  have h2 := RN_tl (v := zi 0) h
  have hN := h.2.2.2.1.2.1
  unfold fX10_completed aComp
  rw [f_in (l := 0) (h := 5) (l_zi hc) rfl rfl, Option.bind_some]
  dsimp only
  rw [RN_ck h.1, r_is h.1, Option.bind_some]
  dsimp only
  by_cases k : 0 ≤ c ∧ c ≤ 5
  · rw [decide_eq_true k, if_neg zt, if_pos k, if_pos (show true = true from rfl), RN_now h2, Option.bind_some, L_of (x := 118) 118 h2 rfl (by omega), Option.bind_some]
    rcases hN.2.2.2.2.2.2.2.2.1 with e | e
    · rw [e, if_pos rfl, if_neg (by decide)]
    · rw [e, if_neg z10, if_pos (show (1 : Int) = 1 from rfl)]
      have hc6 : c = 0 ∨ c = 1 ∨ c = 2 ∨ c = 3 ∨ c = 4 ∨ c = 5 := by omega
      rcases hc6 with rfl | rfl | rfl | rfl | rfl | rfl
      · rw [if_pos rfl, Option.bind_some, L_of (x := 119) 119 h2 rfl (by omega), Option.bind_some]; rfl
      · rw [if_neg (by decide), if_pos rfl, Option.bind_some, L_of (x := 120) 120 h2 rfl (by omega), Option.bind_some]; rfl
      · rw [if_neg (by decide), if_neg (by decide), if_pos rfl, Option.bind_some, L_of (x := 121) 121 h2 rfl (by omega), Option.bind_some]; rfl
      · rw [if_neg (by decide), if_neg (by decide), if_neg (by decide), if_pos rfl, Option.bind_some, L_of (x := 122) 122 h2 rfl (by omega), Option.bind_some]; rfl
      · rw [if_neg (by decide), if_neg (by decide), if_neg (by decide), if_neg (by decide), if_pos rfl, RN_ck h2.1, rq_allD h2, Option.bind_some]; rfl
      · rw [if_neg (by decide), if_neg (by decide), if_neg (by decide), if_neg (by decide), if_neg (by decide), Option.bind_some, L_of (x := 123) 123 h2 rfl (by omega), Option.bind_some]; rfl
  · rw [decide_eq_false k, if_pos zf, if_neg k, if_neg (show ¬ false = true from by decide)]
theorem rq_shownOf {a : Int} (h : RN σ m P M) (ha : zin a) : fX10_shownOf σ m (zi a) = some (zuI σ m 0 (zi (aShownOf P M a).1), zi (aShownOf P M a).2) := by
  have h2 := RN_tl (v := zi 0) h
  have hP := h.2.2.2.1.1
  unfold fX10_shownOf aShownOf
  rw [r_isKey ha, Option.bind_some]
  dsimp only
  rw [RN_ck h.1, r_is h.1, Option.bind_some]
  dsimp only
  by_cases k : 0 ≤ a ∧ a < 16
  · rw [decide_eq_true k, if_neg zt, if_pos k, if_pos (show true = true from rfl)]
    obtain ⟨s, rfl⟩ := nat_of k.1
    rw [Int.toNat_natCast]
    have hsk := qsk_lt (k := s) hP.2.2.1
    have hP2 := hP.2.2.2.1
    rw [RN_ck h2.1, RN_sink h2 (by omega), Option.bind_some]
    dsimp only
    rw [f_shown (by omega), Option.bind_some]
    dsimp only
    generalize hl : 28 + qsk P s = l
    generalize zuI σ m 0 (zi 0) = τ at h2
    have hlen := (qI_len h.2.2.2 (c := l) (by omega)).1
    obtain ⟨y, hy, hq⟩ := zloop_run (step := sX10_shownOf_30 m (zi s) (zi (rb l))) (s := (τ, zi 0, zi 0)) (fuel := zfuel) (M.2.1 l).length
      (fun t z => z = (τ, zi ((qf P s ((M.2.1 l).take t)).length : Nat), zi (t : Int)))
      (fun y => y = (τ, zi ((qf P s (M.2.1 l)).length : Nat)))
      (fun t z ht hz => by
        subst hz
        have hrec := qI_rec h.2.2.2 (c := l) (by omega) (getD_mem (L := M.2.1 l) (i := t) ht)
        have hk16 := qkey_lt (P := P) hrec.1
        obtain ⟨q1, -⟩ := qen_div (P := P) (c := qch l) (n := (M.2.1 l).getD t 0) (by unfold qch; rw [if_pos (by omega)]; omega) hrec.1
        refine Or.inl ⟨(τ, zi ((qf P s ((M.2.1 l).take (t + 1))).length : Nat), zi ((t + 1 : Nat) : Int)), ?_, rfl⟩
        unfold sX10_shownOf_30 sX10_shownOf_30b
        dsimp only
        rw [RN_now h2, Option.bind_some, RN_len l h2 rfl (by omega), Option.bind_some, pR_len (by omega), if_neg (zi_nle (by omega) (by omega) (by omega)), RN_ck h2.1, RN_at l t h2 rfl (by omega) rfl (by rw [pR_len (by omega)]; omega), Option.bind_some, pR_get (by omega) ht]
        dsimp only
        rw [q1, qf_take_s ht]
        unfold jX10_shownOf_60_L30
        by_cases e : qkey P ((M.2.1 l).getD t 0) = s
        · rw [if_pos (by rw [e]), if_pos e, zi_add, zi_add]; rfl
        · rw [if_neg (by rw [zi_eq (by omega) (by omega) (by omega) (by omega)]; omega), if_neg e, zi_add]; rfl)
      (fun z hz => by
        subst hz
        refine ⟨_, ?_, rfl⟩
        unfold sX10_shownOf_30 sX10_shownOf_30b
        dsimp only
        rw [RN_now h2, Option.bind_some, RN_len l h2 rfl (by omega), Option.bind_some, pR_len (by omega), if_pos (zi_yle (by omega) (by omega) (Int.le_refl _)), List.take_length])
      (zfuel_lt (by omega)) (by rw [List.take_zero]; rfl)
    rw [hy, Option.bind_some, hq]
  · rw [decide_eq_false k, if_pos zf, if_neg k, if_neg (show ¬ false = true from by decide)]
theorem rq_exp {k c : Int} (h : RN σ m P M) (hk : zin k) (hm : zin c) : fX10_expected σ m (zi k) (zi c) = some (zuI σ m 0 (zi (aExp P k c).1), zi (aExp P k c).2) := by
  have h2 := RN_tl (v := zi 0) h
  have hP := h.2.2.2.1.1
  have hP4 := hP.2.1
  have bad : jX10_expected_17 σ m (zi k) (zi c) m = some (zuI σ m 0 (zi 1), zi 0) := by
    unfold jX10_expected_17 jX10_expected_18
    rw [RN_ck h.1, r_is0 h.1, Option.bind_some]
    exact if_pos rfl
  unfold fX10_expected aExp
  rw [r_isKey hk, Option.bind_some]
  dsimp only
  by_cases k1 : 0 ≤ k ∧ k < 16
  · rw [decide_eq_true k1, if_neg zt]
    by_cases k2 : 1 ≤ c
    · rw [if_neg (by rw [zi_lt hm.1 hm.2 (by omega) (by omega)]; omega), if_pos ⟨k1, k2⟩]
      obtain ⟨s, rfl⟩ := nat_of k1.1
      obtain ⟨n, rfl⟩ := nat_of (show 0 ≤ c from by omega)
      rw [Int.toNat_natCast, Int.toNat_natCast]
      have hmm := hm.2
      have h200 := hP.2.2.2.2.1 (s % 4)
      have e4 : zi (s : Int) - zi (s : Int) / zi 4 * zi 4 = zi ((s % 4 : Nat) : Int) := by
        rw [zi_mod (by omega) (by omega) (by omega) (by omega)]
        congr 1
      unfold jX10_expected_18
      rw [RN_ck h.1, r_is1 h.1, Option.bind_some]
      dsimp only
      rw [if_neg z10, e4, RN_ck h2.1, r_isSource h2 ⟨by omega, by omega⟩, Option.bind_some]
      dsimp only
      by_cases k3 : s % 4 < P.1
      · rw [decide_eq_true (show (0 : Int) ≤ ((s % 4 : Nat) : Int) ∧ ((s % 4 : Nat) : Int) < P.1 by omega), if_neg zt]
        generalize hN : P.2.2.1 (s % 4) = N at h200
        generalize zuI σ m 0 (zi 0) = τ at h2
        obtain ⟨y, hy, i, hi, rfl, hc2⟩ := zloop_run (step := sX10_expected_49 m (zi s) (zi ((s % 4 : Nat) : Int))) (s := (τ, zi n, zi 0, zi 0)) (fuel := zfuel) N
          (fun i z => z = (τ, zi ((n : Int) - (qupto P s i).length), zi (qsum P (qupto P s i)), zi (i : Int)) ∧ (qupto P s i).length ≤ n)
          (fun y => ∃ i, i ≤ N ∧ y = (τ, zi ((n : Int) - (qupto P s i).length), zi (qsum P (qupto P s i))) ∧ ((qupto P s i).length = n ∨ i = N ∧ (qupto P s i).length < n))
          (fun i z hi hz => by
            obtain ⟨rfl, hlt⟩ := hz
            have hk16 := qkey_lt (P := P) (n := 200 * (s % 4) + i) (by omega)
            by_cases e0 : (qupto P s i).length = n
            · refine Or.inr ⟨(τ, zi ((n : Int) - (qupto P s i).length), zi (qsum P (qupto P s i))), ?_, i, by omega, rfl, Or.inl e0⟩
              unfold sX10_expected_49 sX10_expected_49b
              dsimp only
              rw [RN_recs h2, Option.bind_some, RN_rec h2 k3, Option.bind_some, hN, if_neg (zi_nle (by omega) (by omega) (by omega)), if_pos (zi_yle (by omega) (by omega) (by omega))]
            · have com : sX10_expected_49 m (zi s) (zi ((s % 4 : Nat) : Int)) (τ, zi ((n : Int) - (qupto P s i).length), zi (qsum P (qupto P s i)), zi (i : Int)) = if zi (qkey P (200 * (s % 4) + i)) = zi s then some (.inl (τ, zi ((n : Int) - (qupto P s i).length) - zi 1, zi (qsum P (qupto P s i)) + zi (qval P (200 * (s % 4) + i)), zi (i : Int) + zi 1)) else some (.inl (τ, zi ((n : Int) - (qupto P s i).length), zi (qsum P (qupto P s i)), zi (i : Int) + zi 1)) := by
                unfold sX10_expected_49 sX10_expected_49b
                dsimp only
                rw [RN_recs h2, Option.bind_some, RN_rec h2 k3, Option.bind_some, hN, if_neg (zi_nle (by omega) (by omega) (by omega)), if_neg (zi_nle (by omega) (by omega) (by omega)), RN_ck h2.1, RN_key h2 k3 (by omega), Option.bind_some]
                dsimp only
                rw [RN_ck h2.1, RN_val h2 k3 (by omega), Option.bind_some]
                rfl
              rw [com]
              by_cases e : qkey P (200 * (s % 4) + i) = s
              · have el : qupto P s (i + 1) = qupto P s i ++ [200 * (s % 4) + i] := by rw [qupto_succ, qf_pos e]
                rw [if_pos (by rw [e])]
                refine Or.inl ⟨_, rfl, ?_, by rw [el, List.length_append, List.length_singleton]; omega⟩
                rw [zi_sub, zi_add, zi_add, el, qsum_app, qsum_one, List.length_append, List.length_singleton]
                refine Prod.ext rfl (Prod.ext ?_ rfl)
                refine congrArg zi ?_
                omega
              · have el : qupto P s (i + 1) = qupto P s i := by rw [qupto_succ, qf_neg e, List.append_nil]
                rw [if_neg (by rw [zi_eq (by omega) (by omega) (by omega) (by omega)]; omega)]
                refine Or.inl ⟨_, rfl, ?_, by rw [el]; exact hlt⟩
                rw [zi_add, el]
                rfl)
          (fun z hz => by
            obtain ⟨rfl, hlt⟩ := hz
            refine ⟨(τ, zi ((n : Int) - (qupto P s N).length), zi (qsum P (qupto P s N))), ?_, N, Nat.le_refl _, rfl, ?_⟩
            · unfold sX10_expected_49 sX10_expected_49b
              dsimp only
              rw [RN_recs h2, Option.bind_some, RN_rec h2 k3, Option.bind_some, hN, if_pos (zi_yle (by omega) (by omega) (Int.le_refl _))]
            · by_cases e0 : (qupto P s N).length = n
              · exact Or.inl e0
              · exact Or.inr ⟨rfl, by omega⟩)
          (zfuel_lt (by omega)) ⟨by rw [show (n : Int) - ((qupto P s 0).length : Int) = (n : Int) from by simp [qupto]]; rfl, by simp [qupto]⟩
        rw [hy, Option.bind_some]
        dsimp only
        unfold jX10_expected_103 qexp
        rw [qfrom_0, hN]
        obtain ⟨t, ht⟩ := qupto_pre (P := P) (k := s) hi
        rcases hc2 with hc2 | ⟨rfl, hc2⟩
        · rw [if_pos (zi_yle (by omega) (by omega) (by omega)), ht, if_pos (by rw [List.length_append]; omega), ← hc2, List.take_left']
          rfl
        · rw [if_neg (zi_nle (by omega) (by omega) (by omega)), if_neg (by omega)]
      · have hz : P.2.2.1 (s % 4) = 0 := hP.2.2.2.2.2.1 _ (by omega)
        rw [decide_eq_false (show ¬ ((0 : Int) ≤ ((s % 4 : Nat) : Int) ∧ ((s % 4 : Nat) : Int) < P.1) by omega), if_pos zf]
        unfold qexp
        rw [qfrom_0, hz, if_neg (by show ¬ n ≤ (qupto P s 0).length; simp [qupto]; omega)]
    · rw [if_pos (by rw [zi_lt hm.1 hm.2 (by omega) (by omega)]; omega), if_neg (fun q => k2 q.2)]
      exact bad
  · rw [decide_eq_false k1, if_pos zf, if_neg (fun q => k1 q.1)]
    exact bad
theorem rq_risk0 (h : RN σ m P M) : fX10_risk σ m = some (σ, zi (qrisk P M)) := by
  have hP4 := h.2.2.2.1.1.2.1
  unfold fX10_risk
  rw [zsum P.1 (fun s => M.1 (13 + s) - M.1 (124 + s)) 0 (fun s y hs => by
    unfold sX10_risk_4 sX10_risk_4b
    dsimp only
    rw [RN_src h, Option.bind_some, if_neg (zi_nle (by omega) (by omega) (by omega)), RN_now h, Option.bind_some, zi_add, L_of (13 + s) h (by omega) (by omega), Option.bind_some, Option.bind_some, zi_add, L_of (124 + s) h (by omega) (by omega), Option.bind_some, zi_add, zi_sub, Int.add_sub_assoc]) (fun y => by
    unfold sX10_risk_4 sX10_risk_4b
    dsimp only
    rw [RN_src h, Option.bind_some, if_pos (zi_yle (by omega) (by omega) (Int.le_refl _))]) (by omega), Option.bind_some]
  dsimp only
  rw [Int.zero_add]
  rfl
theorem rq_risk (h : RN σ m P M) : fX10_atRisk σ m = some (zuI σ m 0 (zi 0), zi (qrisk P M)) := by
  have h2 := RN_tl (v := zi 0) h
  unfold fX10_atRisk
  rw [r_tl h.1, Option.bind_some, RN_ck h2.1, rq_risk0 h2, Option.bind_some]
theorem sum_4of {n : Nat} {g : Nat → Int} (hn : n ≤ 4) (h0 : ∀ s, n ≤ s → s < 4 → g s = 0) : ((List.range 4).map g).sum = ((List.range n).map g).sum := by
  have : n = 0 ∨ n = 1 ∨ n = 2 ∨ n = 3 ∨ n = 4 := by omega
  rw [sum4]
  rcases this with rfl | rfl | rfl | rfl | rfl
  · rw [h0 0 (by omega) (by omega), h0 1 (by omega) (by omega), h0 2 (by omega) (by omega), h0 3 (by omega) (by omega)]; rfl
  · rw [h0 1 (by omega) (by omega), h0 2 (by omega) (by omega), h0 3 (by omega) (by omega)]; simp [List.range_succ]
  · rw [h0 2 (by omega) (by omega), h0 3 (by omega) (by omega)]; simp [List.range_succ]
  · rw [h0 3 (by omega) (by omega)]; simp [List.range_succ]; omega
  · rw [sum4]
theorem rq_pos (h : RN σ m P M) : fX10_sumOf σ m (zi 13) (zi 4) = some (σ, zi (qpos P M)) := by
  have := rq_sumOf (a := 13) (n := 4) h (by omega)
  have hP := h.2.2.2.1.1
  have hN := h.2.2.2.1.2.1.2.2.2.2.2.1
  have e : ((List.range 4).map (fun i => pS M (13 + i))).sum = qpos P M := by
    unfold qpos
    rw [sum_4of hP.2.1 (fun s s1 s2 => by
      rw [pS_lo (by omega)]
      have h0 := hP.2.2.2.2.2.1 s s1
      have := hN s s2
      rw [h0] at this
      omega)]
    exact congrArg List.sum (List.map_congr_left (fun s hs => by
      rw [List.mem_range] at hs
      have := hP.2.1
      exact pS_lo (by omega)))
  rw [e] at this
  exact this
theorem rq_rep (h : RN σ m P M) : fX10_repeated σ m = (aRep P M).bind fun v => some (zuI σ m 0 (zi 0), v) := by
  have h2 := RN_tl (v := zi 0) h
  unfold fX10_repeated aRep
  rw [r_tl h.1, Option.bind_some, RN_now h2, Option.bind_some, L_of (x := 8) 8 h2 rfl (by omega), Option.bind_some]
  by_cases e : zi (M.1 8) = zi 0
  · rw [if_pos e, if_pos e]; rfl
  · rw [if_neg e, if_neg e, RN_ck h2.1, rq_pos h2, Option.bind_some]
theorem rq_hand (h : RN σ m P M) : fX10_allHandled σ m = some (σ, zi (qhand M)) := by
  have h4 := qN_many h.2.2.2.1.2.1
  unfold fX10_allHandled
  rw [zsum (qmany M) (fun i => M.1 (33 + i)) 0 (fun i y hi => by
    unfold sX10_allHandled_4 sX10_allHandled_4b
    dsimp only
    rw [RN_now h, Option.bind_some, RN_many h, Option.bind_some, if_neg (zi_nle (by omega) (by omega) (by omega)), Option.bind_some, zi_add, L_of (33 + i) h (by omega) (by omega), Option.bind_some, zi_add]) (fun y => by
    unfold sX10_allHandled_4 sX10_allHandled_4b
    dsimp only
    rw [RN_now h, Option.bind_some, RN_many h, Option.bind_some, if_pos (zi_yle (by omega) (by omega) (Int.le_refl _))]) (by omega), Option.bind_some]
  dsimp only
  rw [Int.zero_add]
  rfl
theorem rq_skew (h : RN σ m P M) : fX10_skew σ m = (aSkew M).bind fun v => some (zuI σ m 0 (zi 0), v) := by
  have h2 := RN_tl (v := zi 0) h
  have h4 := qN_many h.2.2.2.1.2.1
  unfold fX10_skew aSkew
  rw [r_tl h.1, Option.bind_some]
  generalize zuI σ m 0 (zi 0) = τ at h2
  obtain ⟨y, hy, hq⟩ := zloop_run (step := sX10_skew_9 m) (s := (τ, zi 0, zi 0)) (fuel := zfuel) (qmany M) (fun i s => s = (τ, zi ((List.range i).foldl (fun a i => if zi a < zi (M.1 (33 + i)) then M.1 (33 + i) else a) 0), zi (i : Int))) (fun y => y = (τ, zi (qmost M)))
    (fun i s hi hs => by
      subst hs
      refine Or.inl ⟨(τ, zi ((List.range (i + 1)).foldl (fun a i => if zi a < zi (M.1 (33 + i)) then M.1 (33 + i) else a) 0), zi ((i + 1 : Nat) : Int)), ?_, rfl⟩
      rw [fold_s]
      generalize (List.range i).foldl (fun a i => if zi a < zi (M.1 (33 + i)) then M.1 (33 + i) else a) 0 = u
      unfold sX10_skew_9 sX10_skew_9b
      dsimp only
      rw [RN_now h2, Option.bind_some, RN_many h2, Option.bind_some, if_neg (zi_nle (by omega) (by omega) (by omega)), Option.bind_some, zi_add, L_of (33 + i) h2 (by omega) (by omega), Option.bind_some]
      unfold jX10_skew_42_L9
      by_cases e : zi u < zi (M.1 (33 + i))
      · rw [if_neg (Int32.not_le.mpr e), if_pos e, Option.bind_some, L_of (33 + i) h2 (by omega) (by omega), Option.bind_some, zi_add]; rfl
      · rw [if_pos (Int32.not_lt.mp e), if_neg e, zi_add]; rfl)
    (fun s hs => by
      subst hs
      refine ⟨_, ?_, rfl⟩
      unfold sX10_skew_9 sX10_skew_9b
      dsimp only
      rw [RN_now h2, Option.bind_some, RN_many h2, Option.bind_some, if_pos (zi_yle (by omega) (by omega) (Int.le_refl _))]
      rfl)
    (zfuel_lt (by omega)) rfl
  rw [hy, Option.bind_some, hq]
  dsimp only
  by_cases e : zi (qmost M) = zi 0
  · rw [if_pos e, if_pos e]; rfl
  · rw [if_neg e, if_neg e, RN_ck h2.1, rq_hand h2, Option.bind_some]
    dsimp only
    rw [RN_now h2, Option.bind_some, RN_many h2, Option.bind_some, Option.bind_assoc]
theorem rq_full (h : RN σ m P M) : fX10_fullest σ m = some (zuI σ m 0 (zi 0), zi (qful P M).1) := by
  have h2 := RN_tl (v := zi 0) h
  have h4 := qN_many h.2.2.2.1.2.1
  have hP4 := h.2.2.2.1.1.2.1
  unfold fX10_fullest
  rw [r_tl h.1, Option.bind_some]
  generalize zuI σ m 0 (zi 0) = τ at h2
  have inn : ∀ s : Nat, s < 4 → ∀ a : Int × Int, -1 ≤ a.2 ∧ a.2 ≤ 1000 → zloop (sX10_fullest_22 m (zi (s : Int))) zfuel (τ, zi a.1, zi a.2, zi 0) = some (τ, zi (qfulI M s (qmany M) a).1, zi (qfulI M s (qmany M) a).2) ∧ -1 ≤ (qfulI M s (qmany M) a).2 ∧ (qfulI M s (qmany M) a).2 ≤ 1000 := by
    intro s hs a ha
    obtain ⟨y, hy, hq, hb⟩ := zloop_run (step := sX10_fullest_22 m (zi (s : Int))) (s := (τ, zi a.1, zi a.2, zi 0)) (fuel := zfuel) (qmany M) (fun i z => z = (τ, zi (qfulI M s i a).1, zi (qfulI M s i a).2, zi (i : Int)) ∧ -1 ≤ (qfulI M s i a).2 ∧ (qfulI M s i a).2 ≤ 1000) (fun y => y = (τ, zi (qfulI M s (qmany M) a).1, zi (qfulI M s (qmany M) a).2) ∧ -1 ≤ (qfulI M s (qmany M) a).2 ∧ (qfulI M s (qmany M) a).2 ≤ 1000)
      (fun i z hi hz => by
        obtain ⟨rfl, hb⟩ := hz
        have hlen := (qI_len h.2.2.2 (c := 4 * i + s) (by omega)).1
        have es : qfulI M s (i + 1) a = if (qfulI M s i a).2 < ((M.2.1 (4 * i + s)).length : Int) then (10 * (s : Int) + i, ((M.2.1 (4 * i + s)).length : Int)) else qfulI M s i a := fold_s _ _ _
        refine Or.inl ⟨(τ, zi (qfulI M s (i + 1) a).1, zi (qfulI M s (i + 1) a).2, zi (i : Int) + zi 1), ?_, by rw [zi_add]; rfl, ?_⟩
        · unfold sX10_fullest_22 sX10_fullest_22b
          dsimp only
          rw [RN_now h2, Option.bind_some, RN_many h2, Option.bind_some, if_neg (zi_nle (by omega) (by omega) (by omega)), f_toInstance hs (by omega), Option.bind_some]
          dsimp only
          rw [RN_ck h2.1, RN_things (4 * i + s) h2 rfl (by omega), Option.bind_some]
          dsimp only
          unfold jX10_fullest_65_L22
          rw [es]
          by_cases e : (qfulI M s i a).2 < ((M.2.1 (4 * i + s)).length : Int)
          · rw [if_pos (by rw [zi_lt (by omega) (by omega) (by omega) (by omega)]; exact e), if_pos e, zi_mul, zi_add]
          · rw [if_neg (by rw [zi_lt (by omega) (by omega) (by omega) (by omega)]; exact e), if_neg e]
        · rw [es]
          split
          · dsimp only; omega
          · exact hb)
      (fun z hz => by
        obtain ⟨rfl, hb⟩ := hz
        refine ⟨_, ?_, rfl, hb⟩
        unfold sX10_fullest_22 sX10_fullest_22b
        dsimp only
        rw [RN_now h2, Option.bind_some, RN_many h2, Option.bind_some, if_pos (zi_yle (by omega) (by omega) (Int.le_refl _))])
      (zfuel_lt (by omega)) ⟨rfl, ha⟩
    exact ⟨by rw [hy, hq], hb⟩
  obtain ⟨y, hy, hq⟩ := zloop_run (step := sX10_fullest_11 m) (s := (τ, zi (-1), zi 0, zi 0)) (fuel := zfuel) P.1 (fun s z => ∃ a : Int × Int, a = (List.range s).foldl (fun a s => qfulI M s (qmany M) a) (-1, 0) ∧ z = (τ, zi a.1, zi a.2, zi (s : Int)) ∧ -1 ≤ a.2 ∧ a.2 ≤ 1000) (fun y => y = (τ, zi (qful P M).1))
    (fun s z hs hz => by
      obtain ⟨a, ha, rfl, hb⟩ := hz
      obtain ⟨e1, e2⟩ := inn s (by omega) a hb
      refine Or.inl ⟨_, ?_, qfulI M s (qmany M) a, by rw [fold_s, ha], rfl, e2⟩
      unfold sX10_fullest_11 sX10_fullest_11b
      dsimp only
      rw [RN_src h2, Option.bind_some, if_neg (zi_nle (by omega) (by omega) (by omega)), e1, Option.bind_some, zi_add]
      rfl)
    (fun z hz => by
      obtain ⟨a, ha, rfl, hb⟩ := hz
      refine ⟨_, ?_, rfl⟩
      unfold sX10_fullest_11 sX10_fullest_11b
      dsimp only
      rw [RN_src h2, Option.bind_some, if_pos (zi_yle (by omega) (by omega) (Int.le_refl _)), ha]
      rfl)
    (zfuel_lt (by omega)) ⟨(-1, 0), rfl, rfl, by omega, by omega⟩
  rw [hy, Option.bind_some, hq]
/-- whether it is quiet -/
theorem rq_quiet (h : RN σ m P M) : fX10_isQuiet σ m = some (σ, zb (qquiet P M)) := by
  have hP := h.2.2.2.1.1
  have hP4 := hP.2.1
  have hP2 := hP.2.2.2.1
  have hN := h.2.2.2.1.2.1
  have e1 := zall (τ := σ) (step := sX10_isQuiet_2 m) P.1 (fun s => decide ((P.2.2.1 s : Int) ≤ M.1 (13 + s))) (fun s hs => by
    have a1 := hN.2.2.2.2.2.1 s (by omega)
    have a2 := hP.2.2.2.2.1 s
    unfold sX10_isQuiet_2 sX10_isQuiet_2b
    dsimp only
    rw [RN_src h, Option.bind_some, if_neg (zi_nle (by omega) (by omega) (by omega)), RN_now h, Option.bind_some, zi_add, L_of (13 + s) h (by omega) (by omega), Option.bind_some, RN_recs h, Option.bind_some, RN_rec h hs, Option.bind_some]
    by_cases q : (P.2.2.1 s : Int) ≤ M.1 (13 + s)
    · rw [if_pos (zi_yle (by omega) (by omega) q), if_pos (decide_eq_true q)]
    · rw [if_neg (zi_nle (by omega) (by omega) (by omega)), if_neg (by rw [decide_eq_false q]; decide)]) (by
    unfold sX10_isQuiet_2 sX10_isQuiet_2b
    dsimp only
    rw [RN_src h, Option.bind_some, if_pos (zi_yle (by omega) (by omega) (Int.le_refl _))]) (by omega)
  have nil : ∀ c, c < 30 → ∀ (x : zS) (y : Int), (if zi ((M.2.1 c).length : Int) ≤ zi 0 then some (Sum.inl (x, zi y + zi 1)) else some (Sum.inr (Sum.inl x)) : Option ((zS × Int32) ⊕ (zS ⊕ zS))) = if decide (M.2.1 c = []) = true then some (.inl (x, zi y + zi 1)) else some (.inr (.inl x)) := fun c hc x y => by
    have a1 := (qI_len h.2.2.2 (c := c) hc).1
    by_cases q : M.2.1 c = []
    · rw [if_pos (by rw [q]; decide), if_pos (decide_eq_true q)]
    · have := List.length_pos_iff.mpr q
      rw [if_neg (zi_nle (by omega) (by omega) (by omega)), if_neg (by rw [decide_eq_false q]; decide)]
  have e2 := zall (τ := σ) (step := sX10_isQuiet_38 m) 16 (fun k => decide (M.2.1 (4 * (k % 4) + k / 4) = [])) (fun k hk => by
    unfold sX10_isQuiet_38 sX10_isQuiet_38b
    dsimp only
    rw [if_neg (zi_nle (by omega) (by omega) (by omega)), zi_mul, zi_add, RN_ck h.1, RN_things (4 * (k % 4) + k / 4) h (by rw [rb_ci (s := k / 4) (i := k % 4) (by omega) (by omega)]; omega) (by omega), Option.bind_some]
    exact nil _ (by omega) _ _) (by
    unfold sX10_isQuiet_38 sX10_isQuiet_38b
    dsimp only
    rw [if_pos (by decide)]) (by omega)
  have e3 := zall (τ := σ) (step := sX10_isQuiet_70 m) 8 (fun k => decide (M.2.1 (4 * (4 + k % 2) + k / 2) = [])) (fun k hk => by
    unfold sX10_isQuiet_70 sX10_isQuiet_70b
    dsimp only
    rw [if_neg (zi_nle (by omega) (by omega) (by omega)), zi_mul, zi_add, RN_ck h.1, RN_things (4 * (4 + k % 2) + k / 2) h (by rw [rb_co (k := k % 2) (i := k / 2) (by omega) (by omega)]; omega) (by omega), Option.bind_some]
    exact nil _ (by omega) _ _) (by
    unfold sX10_isQuiet_70 sX10_isQuiet_70b
    dsimp only
    rw [if_pos (by decide)]) (by omega)
  have e4 := zall (τ := σ) (step := sX10_isQuiet_102 m) P.2.1 (fun k => decide (M.2.1 (24 + k) = []) && decide (M.2.1 (26 + k) = [])) (fun k hk => by
    have a1 := (qI_len h.2.2.2 (c := 24 + k) (by omega)).1
    have a2 := (qI_len h.2.2.2 (c := 26 + k) (by omega)).1
    unfold sX10_isQuiet_102 sX10_isQuiet_102b
    dsimp only
    rw [RN_snk h, Option.bind_some, if_neg (zi_nle (by omega) (by omega) (by omega)), RN_now h, Option.bind_some, f_open (by omega), Option.bind_some]
    dsimp only
    rw [RN_len (24 + k) h rfl (by omega), Option.bind_some, RN_now h, Option.bind_some, f_closed (by omega), Option.bind_some]
    dsimp only
    rw [RN_len (26 + k) h rfl (by omega), Option.bind_some, pR_len (by omega), pR_len (by omega), zi_add]
    by_cases q : M.2.1 (24 + k) = []
    · by_cases q2 : M.2.1 (26 + k) = []
      · rw [q, q2, if_pos (by decide), if_pos (by decide)]
      · have := List.length_pos_iff.mpr q2
        rw [if_neg (zi_nle (by omega) (by omega) (by omega)), if_neg (by rw [decide_eq_false q2, Bool.and_false]; decide)]
    · have := List.length_pos_iff.mpr q
      rw [if_neg (zi_nle (by omega) (by omega) (by omega)), if_neg (by rw [decide_eq_false q, Bool.false_and]; decide)]) (by
    unfold sX10_isQuiet_102 sX10_isQuiet_102b
    dsimp only
    rw [RN_snk h, Option.bind_some, if_pos (zi_yle (by omega) (by omega) (Int.le_refl _))]) (by omega)
  -- the lists of sinks that are not there are empty
  have hz : ∀ k, P.2.1 ≤ k → k < 2 → M.2.1 (24 + k) = [] ∧ M.2.1 (26 + k) = [] := fun k k1 k2 => by
    have hv := h.2.2.2.1.2.2.1
    have key : ∀ c, c = 24 + k ∨ c = 26 + k → M.2.1 c = [] := fun c hc => by
      rw [List.eq_nil_iff_forall_not_mem]
      intro n hn
      have a := (hv c n (by omega) hn).2.2.2 (by unfold qch; rw [if_pos (by omega)]; omega)
      unfold qch at a
      rw [if_pos (by omega)] at a
      have := qsk_lt (k := qkey P n) hP.2.2.1
      omega
    exact ⟨key _ (Or.inl rfl), key _ (Or.inr rfl)⟩
  have all28 : (List.range 28).all (fun c => decide (M.2.1 c = [])) = ((List.range 16).all (fun k => decide (M.2.1 (4 * (k % 4) + k / 4) = [])) && ((List.range 8).all (fun k => decide (M.2.1 (4 * (4 + k % 2) + k / 2) = [])) && (List.range P.2.1).all (fun k => decide (M.2.1 (24 + k) = []) && decide (M.2.1 (26 + k) = [])))) := by
    rw [Bool.eq_iff_iff, Bool.and_eq_true, Bool.and_eq_true, all_s, all_s, all_s, all_s]
    simp only [decide_eq_true_eq, Bool.and_eq_true]
    constructor
    · intro q
      exact ⟨fun k hk => q _ (by omega), fun k hk => q _ (by omega), fun k hk => ⟨q _ (by omega), q _ (by omega)⟩⟩
    · rintro ⟨q1, q2, q3⟩ c hc
      by_cases c1 : c < 16
      · have := q1 (4 * (c % 4) + c / 4) (by omega)
        rw [show 4 * ((4 * (c % 4) + c / 4) % 4) + (4 * (c % 4) + c / 4) / 4 = c from by omega] at this
        exact this
      · by_cases c2 : c < 24
        · have := q2 (2 * (c % 4) + (c / 4 - 4)) (by omega)
          rw [show 4 * (4 + (2 * (c % 4) + (c / 4 - 4)) % 2) + (2 * (c % 4) + (c / 4 - 4)) / 2 = c from by omega] at this
          exact this
        · by_cases c3 : c < 26
          · by_cases c4 : c - 24 < P.2.1
            · have := (q3 (c - 24) c4).1
              rw [show 24 + (c - 24) = c from by omega] at this
              exact this
            · have := (hz (c - 24) (by omega) (by omega)).1
              rw [show 24 + (c - 24) = c from by omega] at this
              exact this
          · by_cases c4 : c - 26 < P.2.1
            · have := (q3 (c - 26) c4).2
              rw [show 26 + (c - 26) = c from by omega] at this
              exact this
            · have := (hz (c - 26) (by omega) (by omega)).2
              rw [show 26 + (c - 26) = c from by omega] at this
              exact this
  unfold fX10_isQuiet qquiet
  rw [e1, Option.bind_some, all28]
  cases (List.range P.1).all (fun s => decide ((P.2.2.1 s : Int) ≤ M.1 (13 + s))) with
  | false => exact zrZ_0 _
  | true =>
    rw [if_pos rfl]
    dsimp only
    rw [e2, Option.bind_some]
    cases (List.range 16).all (fun k => decide (M.2.1 (4 * (k % 4) + k / 4) = [])) with
    | false => exact zrZ_0 _
    | true =>
      rw [if_pos rfl]
      dsimp only
      rw [e3, Option.bind_some]
      cases (List.range 8).all (fun k => decide (M.2.1 (4 * (4 + k % 2) + k / 2) = [])) with
      | false => exact zrZ_0 _
      | true =>
        rw [if_pos rfl]
        dsimp only
        rw [e4, Option.bind_some]
        cases (List.range P.2.1).all (fun k => decide (M.2.1 (24 + k) = []) && decide (M.2.1 (26 + k) = [])) with
        | false => exact zrZ_0 _
        | true => exact zrZ_1 _
end RQ2
