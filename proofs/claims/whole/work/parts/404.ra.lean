/-! What the reference reads of its row; an entry that goes. -/
theorem q_sq {i : Nat} (h : i ≤ 200) : i * i ≤ 40000 := by
  have := Nat.mul_le_mul h h
  omega
theorem f_keyOf {σ : zS} {m s i : Nat} {A : Nat → Int32} {P : qP} (h : rsh σ m) (hP : qPok P) (hs : rset σ m P) (hl : s < P.1) (hi : i < 200) : fX10_keyOf (rput σ m A) m (zi s) (zi i) = some (rput σ m A, zi (qkey P (200 * s + i))) := by
  have h9 := hP.2.2.2.2.2.2 s
  have h2 := q_sq (i := i) (by omega)
  have hm := hP.2.1
  unfold fX10_keyOf
  rw [rd_seeds h, Option.bind_some, rd_seed s h hP hs rfl hl, Option.bind_some, zi_mul, zi_div (by omega) (by omega) (by omega) (by omega), zi_add, zi_add]
  generalize hx : (P.2.2.2 s : Int) + (i : Int) * (i : Int) + (i : Int) / 2 = x
  have hx2 : x = ((P.2.2.2 s + i * i + i / 2 : Nat) : Int) := by rw [← hx]; push_cast; rfl
  generalize hw : P.2.2.2 s + i * i + i / 2 = w at hx2
  have hw2 : w ≤ 50000 := by omega
  rw [zi_mod (by omega) (by omega) (by omega) (by omega), zi_mul, zi_add]
  congr 3
  unfold qkey
  rw [show (200 * s + i) / 200 = s from by omega, show (200 * s + i) % 200 = i from by omega, hw]
  omega
theorem f_valueOf {σ : zS} {m s i : Nat} {A : Nat → Int32} {P : qP} (h : rsh σ m) (hP : qPok P) (hs : rset σ m P) (hl : s < P.1) (hi : i < 200) : fX10_valueOf (rput σ m A) m (zi s) (zi i) = some (rput σ m A, zi (qval P (200 * s + i))) := by
  have h9 := hP.2.2.2.2.2.2 s
  unfold fX10_valueOf
  rw [rd_seeds h, Option.bind_some, rd_seed s h hP hs rfl hl, Option.bind_some, zi_mul, zi_add, zi_mod (by omega) (by omega) (by omega) (by omega), zi_add]
  congr 3
  unfold qval
  rw [show (200 * s + i) / 200 = s from by omega, show (200 * s + i) % 200 = i from by omega]
  omega
theorem f_ownerAmong {τ : zS} {g n : Nat} (hg : g < 16) (hn : n ≤ 4) : fX10_ownerAmong τ (zi g) (zi n) = some (τ, zi ((g * n / 8 : Nat) : Int)) := by
  have h1 : g * n ≤ 60 := by
    have := Nat.mul_le_mul (show g ≤ 15 from by omega) hn
    omega
  have e : (g : Int) * (n : Int) = ((g * n : Nat) : Int) := by push_cast; rfl
  unfold fX10_ownerAmong
  rw [zi_mul, e]
  generalize g * n = w at h1
  rw [zi_div (by omega) (by omega) (by omega) (by omega)]
  congr 3
section RR
variable {σ : zS} {m : Nat} {A : Nat → Int32} {S : Nat → Int} {R : Nat → List Int} {P : qP} {M : qM}
theorem f_ownerOf {k : Nat} (h : rsh σ m) (hA : RM A P M) (hN : qN P M) (hk : k < 16) : fX10_ownerOf (rput σ m A) m (zi k) = some (rput σ m A, zi (qown k (qmany M))) := by
  have h4 := qN_many hN
  have e : pS M 1 = ((qmany M : Nat) : Int) := by rw [pS_lo (by omega)]; unfold qmany; have := hN.1; omega
  unfold fX10_ownerOf
  rw [rd_now h, Option.bind_some, ra_S 1 h hA (by omega) (by omega), Option.bind_some, e, zi_mod (by omega) (by omega) (by omega) (by omega), show (k : Int) % 8 = ((k % 8 : Nat) : Int) from rfl, f_ownerAmong (by omega) h4.2, Option.bind_some]
  rfl
theorem f_sinkOf {k : Nat} (h : rsh σ m) (hP : qPok P) (hs : rset σ m P) (hk : k < 16) : fX10_sinkOf (rput σ m A) m (zi k) = some (rput σ m A, zi (qsk P k)) := by
  have h1 := hP.2.2.1
  have h2 := hP.2.2.2.1
  unfold fX10_sinkOf
  rw [rd_snk h hs, Option.bind_some, znz_zi (by omega) (by omega) (by omega), Option.bind_some, zi_div (by omega) (by omega) (by omega) (by omega), zi_mod (by omega) (by omega) (by omega) (by omega)]
  rfl
def rbar (l : List Int) : Nat := l.countP (fun x => decide (x = -1))
theorem rbar_le (l : List Int) : rbar l ≤ l.length := List.countP_le_length
theorem take_getD {l : List Int} {i : Nat} (h : i < l.length) : l.take (i + 1) = l.take i ++ [l.getD i 0] := by
  rw [List.take_succ_eq_append_getElem h, List.getD_eq_getElem?_getD, List.getElem?_eq_getElem h]
  rfl
theorem zi_m1 {a : Int} (h1 : -2147483648 ≤ a) (h2 : a < 2147483648) : zi a = zi (-1) ↔ a = -1 := zi_eq h1 h2 (by decide) (by decide)
/-- the entries of a list are numbers of the machine -/
def rok (l : List Int) : Prop := ∀ x, x ∈ l → -1 ≤ x ∧ x < 2147483648
theorem rok_get {l : List Int} (h : rok l) {i : Nat} (hi : i < l.length) : -1 ≤ l.getD i 0 ∧ l.getD i 0 < 2147483648 := by
  rw [List.getD_eq_getElem?_getD, List.getElem?_eq_getElem hi]
  exact h _ (List.getElem_mem hi)
theorem ra_barriers {x : Int} (c : Nat) (h : rsh σ m) (hA : RA A S R) (hx : x = rb c) (hc : c < 78) (ho : rok (R c)) : fX10_barriers (rput σ m A) m (zi x) = some (rput σ m A, zi (rbar (R c))) := by
  have hb := rb_in hc
  have hl := (hA.2 c hc).2.1
  have key := zloop_run (step := sX10_barriers_4 m (zi x)) (R c).length (fun i z => z = (rput σ m A, zi (rbar ((R c).take i)), zi i)) (fun o => o = (rput σ m A, zi (rbar (R c)))) (by
    rintro i z hi rfl
    refine Or.inl ⟨(rput σ m A, zi (rbar ((R c).take (i + 1))), zi ((i + 1 : Nat) : Int)), ?_, rfl⟩
    unfold sX10_barriers_4 sX10_barriers_4b
    dsimp only
    rw [rd_now h, Option.bind_some, ra_len c h hA hx hc, Option.bind_some, if_neg (by rw [zi_le (by omega) (by omega) (by omega) (by omega)]; omega), rd_ck h, ra_at c i h hA hx hc rfl hi, Option.bind_some]
    dsimp only
    have hg := rok_get ho hi
    have e2 : rbar ((R c).take (i + 1)) = rbar ((R c).take i) + if (R c).getD i 0 = -1 then 1 else 0 := by
      unfold rbar
      rw [take_getD hi, List.countP_append]
      congr 1
      by_cases e : (R c).getD i 0 = -1
      · rw [if_pos e, e]; rfl
      · rw [if_neg e]; simp only [List.countP_cons, List.countP_nil, e, decide_false]; rfl
    unfold jX10_barriers_28_L4
    by_cases e : (R c).getD i 0 = -1
    · rw [if_pos (by rw [e]), e2, if_pos e, zi_add, zi_add]; rfl
    · rw [if_neg (by rw [zi_m1 (by omega) hg.2]; exact e), e2, if_neg e, zi_add]; rfl) (by
    rintro z rfl
    refine ⟨_, ?_, rfl⟩
    unfold sX10_barriers_4 sX10_barriers_4b
    dsimp only
    rw [rd_now h, Option.bind_some, ra_len c h hA hx hc, Option.bind_some, if_pos (by rw [zi_le (by omega) (by omega) (by omega) (by omega)]; omega), List.take_length]) (zfuel_lt (by omega)) (s := (rput σ m A, zi 0, zi 0)) rfl
  obtain ⟨o, e, rfl⟩ := key
  unfold fX10_barriers
  rw [e, Option.bind_some]
theorem ra_things {x : Int} (c : Nat) (h : rsh σ m) (hA : RA A S R) (hx : x = rb c) (hc : c < 78) (ho : rok (R c)) : fX10_things (rput σ m A) m (zi x) = some (rput σ m A, zi (((R c).length : Int) - rbar (R c))) := by
  unfold fX10_things
  rw [rd_now h, Option.bind_some, ra_len c h hA hx hc, Option.bind_some, rd_ck h, ra_barriers c h hA hx hc ho, Option.bind_some, zi_sub]
theorem ra_isFull {x : Int} (c : Nat) (h : rsh σ m) (hA : RA A S R) (hx : x = rb c) (hc : c < 78) (ho : rok (R c)) (hr : -2147483648 ≤ S 2 ∧ S 2 < 2147483648) : fX10_isFull (rput σ m A) m (zi x) = some (rput σ m A, zb (decide (S 2 ≤ ((R c).length : Int) - rbar (R c)))) := by
  have hb := rb_in hc
  have hl := (hA.2 c hc).2.1
  have hl2 := rbar_le (R c)
  unfold fX10_isFull
  rw [rd_ck h, ra_things c h hA hx hc ho, Option.bind_some, rd_now h, Option.bind_some, ra_S 2 h hA (by omega) (by omega), Option.bind_some]
  by_cases e : S 2 ≤ ((R c).length : Int) - rbar (R c)
  · rw [if_neg (by rw [zi_lt (by omega) (by omega) (by omega) (by omega)]; omega), zrZ_1, decide_eq_true e]; rfl
  · rw [if_pos (by rw [zi_lt (by omega) (by omega) (by omega) (by omega)]; omega), zrZ_0, decide_eq_false e]; rfl
theorem ra_overtakes (h : rsh σ m) (hA : RM A P M) (h1 : M.1 67 = 0 ∨ M.1 67 = 1) (h2 : M.1 67 = 1 → M.1 69 = 0 ∨ M.1 69 = 1) : fX10_overtakes (rput σ m A) m = some (rput σ m A, zb (qovert M)) := by
  unfold fX10_overtakes
  rw [rd_now h, Option.bind_some, ra_S 67 h hA (by omega) (by omega), Option.bind_some, pS_lo (by omega)]
  rcases h1 with e | e
  · rw [e, if_neg (by decide), zrZ_0]
    unfold qovert
    rw [e]; rfl
  · rw [e, if_pos rfl, Option.bind_some, ra_S 69 h hA (by omega) (by omega), Option.bind_some, pS_lo (by omega)]
    unfold qovert
    rcases h2 e with q | q
    · rw [q, if_neg (by decide), zrZ_0, e]; rfl
    · rw [q, if_pos rfl, zrZ_1, e]; rfl
/-- the sum of the first flags -/
def qcn (f : Nat → Int) (n : Nat) : Int := ((List.range n).map f).sum
theorem qcn_succ (f : Nat → Int) (n : Nat) : qcn f (n + 1) = qcn f n + f n := by
  unfold qcn
  rw [List.range_succ, List.map_append, List.sum_append]
  simp
theorem ra_arrivedAt {i : Nat} (h : rsh σ m) (hA : RM A P M) (hP : qPok P) (hs : rset σ m P) (hi : i < 4) : fX10_arrivedAt (rput σ m A) m (zi i) = some (rput σ m A, zi (qcnt P M i)) := by
  have h4 := hP.2.1
  have e0 : qcnt P M i = qcn (fun x => M.1 (74 + (4 * i + x))) P.1 := by unfold qcnt qcn qns; rw [if_pos hi]
  have key := zloop_run (step := sX10_arrivedAt_4 m (zi i)) P.1 (fun j z => z = (rput σ m A, zi (qcn (fun x => M.1 (74 + (4 * i + x))) j), zi j)) (fun o => o = (rput σ m A, zi (qcnt P M i))) (by
    rintro j z hj rfl
    refine Or.inl ⟨_, ?_, rfl⟩
    unfold sX10_arrivedAt_4 sX10_arrivedAt_4b
    dsimp only
    rw [rd_src h hs, Option.bind_some, if_neg (by rw [zi_le (by omega) (by omega) (by omega) (by omega)]; omega), rd_now h, Option.bind_some, f_channelIn, Option.bind_some, zi_add, ra_S (74 + (4 * j + i)) h hA (by omega) (by omega), Option.bind_some, pS_ai (by omega) hi, zi_add, zi_add, qcn_succ]
    rfl) (by
    rintro z rfl
    refine ⟨_, ?_, rfl⟩
    unfold sX10_arrivedAt_4 sX10_arrivedAt_4b
    dsimp only
    rw [rd_src h hs, Option.bind_some, if_pos (by rw [zi_le (by omega) (by omega) (by omega) (by omega)]; omega), e0]) (zfuel_lt (by omega)) (s := (rput σ m A, zi 0, zi 0)) rfl
  obtain ⟨o, e, rfl⟩ := key
  unfold fX10_arrivedAt
  rw [e, Option.bind_some]
theorem ra_many (h : rsh σ m) (hA : RM A P M) (hN : qN P M) : zaI (rput σ m A) (m + 4) (zi 1) = some (zi (qmany M)) := by
  rw [ra_S 1 h hA (by omega) (by omega), pS_lo (by omega)]
  congr 2
  unfold qmany
  have := hN.1
  omega
theorem ra_arrivedAtSink {k : Nat} (h : rsh σ m) (hA : RM A P M) (hN : qN P M) (hk : k < 2) : fX10_arrivedAtSink (rput σ m A) m (zi k) = some (rput σ m A, zi (qcnt P M (4 + k))) := by
  have h4 := qN_many hN
  have e0 : qcnt P M (4 + k) = qcn (fun x => M.1 (74 + (4 * (4 + k) + x))) (qmany M) := by unfold qcnt qcn qns; rw [if_neg (by omega)]
  have key := zloop_run (step := sX10_arrivedAtSink_4 m (zi k)) (qmany M) (fun j z => z = (rput σ m A, zi (qcn (fun x => M.1 (74 + (4 * (4 + k) + x))) j), zi j)) (fun o => o = (rput σ m A, zi (qcnt P M (4 + k)))) (by
    rintro j z hj rfl
    refine Or.inl ⟨_, ?_, rfl⟩
    unfold sX10_arrivedAtSink_4 sX10_arrivedAtSink_4b
    dsimp only
    rw [rd_now h, Option.bind_some, ra_many h hA hN, Option.bind_some, if_neg (by rw [zi_le (by omega) (by omega) (by omega) (by omega)]; omega), Option.bind_some, f_channelOut, Option.bind_some, zi_add, ra_S (90 + (2 * j + k)) h hA (by omega) (by omega), Option.bind_some, pS_ao hk (by omega), zi_add, zi_add, qcn_succ]
    rfl) (by
    rintro z rfl
    refine ⟨_, ?_, rfl⟩
    unfold sX10_arrivedAtSink_4 sX10_arrivedAtSink_4b
    dsimp only
    rw [rd_now h, Option.bind_some, ra_many h hA hN, Option.bind_some, if_pos (by rw [zi_le (by omega) (by omega) (by omega) (by omega)]; omega), e0]) (zfuel_lt (by omega)) (s := (rput σ m A, zi 0, zi 0)) rfl
  obtain ⟨o, e, rfl⟩ := key
  unfold fX10_arrivedAtSink
  rw [e, Option.bind_some]
end RR
