/-! A worker of the reference handles one thing. -/
theorem q_find {α : Type} {n : Nat} {f : Nat → α} {p : α → Bool} {j : Nat} (h : ∀ k, k < j → p (f k) = false) (hj : j < n) (hp : p (f j) = true) : ((List.range n).map f).find? p = some (f j) := by
  induction n with
  | zero => omega
  | succ n ih =>
    rw [List.range_succ, List.map_append, List.find?_append]
    by_cases e : j = n
    · subst e
      have : ((List.range j).map f).find? p = none := by
        rw [List.find?_eq_none]
        intro x hx
        rw [List.mem_map] at hx
        obtain ⟨k, hk, rfl⟩ := hx
        rw [List.mem_range] at hk
        rw [h k hk]; decide
      rw [this]
      simp [hp]
    · rw [ih (by omega)]
      rfl
theorem q_find0 {α : Type} {n : Nat} {f : Nat → α} {p : α → Bool} (h : ∀ k, k < n → p (f k) = false) : ((List.range n).map f).find? p = none := by
  rw [List.find?_eq_none]
  intro x hx
  rw [List.mem_map] at hx
  obtain ⟨k, hk, rfl⟩ := hx
  rw [List.mem_range] at hk
  rw [h k hk]; decide
theorem qcnt_same {P : qP} {M N : qM} {r : Nat} (h1 : N.1 1 = M.1 1) (hf : ∀ x, x < qns P M r → N.1 (74 + (4 * r + x)) = M.1 (74 + (4 * r + x))) : qcnt P N r = qcnt P M r := by
  unfold qcnt
  rw [qns_eq h1]
  congr 1
  apply List.map_congr_left
  intro x hx
  exact hf x (List.mem_range.mp hx)
section RW
variable {σ : zS} {m : Nat} {A : Nat → Int32} {S : Nat → Int} {R : Nat → List Int} {P : qP} {M N : qM}
theorem RM_ext (hA : RM A P M) (h1 : ∀ k, k < 144 → N.1 k = M.1 k) (h2 : ∀ c, c < 78 → N.2.1 c = M.2.1 c) (h3 : ∀ c, c < 24 → N.2.2 c = M.2.2 c) : RM A P N :=
  RA_congr hA (fun k hk => (pS_same h1 k hk).symm) (fun c hc => (pR_same (h2 c hc) (h3 c)).symm)
theorem pR_len0 (hI : qI P M) {c : Nat} (hc : c < 24) : (pR P M c).length = 0 ↔ M.2.1 c = [] ∧ M.2.2 c = -1 := by
  have hb := qI_B hI hc
  rw [pR_ch hc, qins_len (qI_wi hI hc _), List.length_map]
  constructor
  · intro h
    have h1 : (M.2.1 c).length = 0 := by omega
    refine ⟨List.eq_nil_of_length_eq_zero h1, ?_⟩
    apply Decidable.byContradiction
    intro q
    rw [if_neg q] at h
    omega
  · rintro ⟨h1, h2⟩
    rw [h1, h2]
    rfl
theorem ra_canTake {s i : Nat} (h : rsh σ m) (hs : rset σ m P) (hI : qI P M) (hA : RM A P M) (hs4 : s < P.1) (hi : i < qmany M) : fX10_canTake (rput σ m A) m (zi s) (zi i) = some (rput σ m A, zb (qcan P i s M)) := by
  have hN := hI.1.2.1
  have hP := hI.1.1
  have h4 := qN_many hN
  have hP4 := hP.2.1
  have hb := qI_B hI (c := 4 * i + s) (by omega)
  have hbl := hN.2.2.2.2.2.2.2.2.2.2.2.2.2 (4 * i + s) (by omega)
  have hlr := (hA.2 (4 * i + s) (by omega)).2.1
  rw [rcap_a (by omega)] at hlr
  unfold fX10_canTake
  rw [f_toInstance (by omega) (by omega), Option.bind_some, rd_now h, Option.bind_some, ra_len (4 * i + s) h hA rfl (by omega), Option.bind_some]
  have hl0 := pR_len0 hI (c := 4 * i + s) (by omega)
  by_cases e0 : (pR P M (4 * i + s)).length = 0
  · obtain ⟨q1, q2⟩ := hl0.mp e0
    rw [e0, if_pos (show zi ((0 : Nat) : Int) = zi 0 from rfl), zrZ_0]
    have : qcan P i s M = false := by
      unfold qcan
      dsimp only
      split
      · rfl
      · rw [if_neg (by omega), q1]
    rw [this]; rfl
  · rw [if_neg (by rw [zi_eq (by omega) (by omega) (by omega) (by omega)]; omega), Option.bind_some, f_channelIn, Option.bind_some, zi_add, ra_S (43 + (4 * s + i)) h hA (by omega) (by omega), Option.bind_some, pS_bi (by omega) (by omega)]
    by_cases eb : M.1 (43 + (4 * i + s)) = 1
    · rw [if_pos (by rw [eb]), zrZ_0]
      have : qcan P i s M = false := by
        unfold qcan
        dsimp only
        rw [if_pos eb]
      rw [this]; rfl
    · rw [if_neg (by rw [zi_eq (by omega) (by omega) (by omega) (by omega)]; exact eb)]
      by_cases eB : M.2.2 (4 * i + s) = 0
      · have h0 := (RM_bar h hA (c := 4 * i + s) (by omega) eB).1
        rw [rd_ck h, h0, Option.bind_some, if_pos rfl, zrZ_1]
        have : qcan P i s M = true := by
          unfold qcan
          dsimp only
          rw [if_neg eb, if_pos eB]
        rw [this]; rfl
      · cases hL : M.2.1 (4 * i + s) with
        | nil =>
          exfalso
          rw [hL] at hb
          simp only [List.length_nil] at hb
          exact e0 (hl0.mpr ⟨hL, by omega⟩)
        | cons n rest =>
          have hat := hI.1.2.2.1 (4 * i + s) n (by omega) (by rw [hL]; exact List.mem_cons_self)
          rw [qch_lo (by omega)] at hat
          have hn8 := hat.1
          have hns : n / 200 = s := by have := hat.2.1 (by omega); omega
          have hk16 := qkey_lt (P := P) hn8
          obtain ⟨w1, w2, w3, w4, w5, w6⟩ := qix hP hN (qkey P n)
          rw [hL] at hb
          have h0 := (RM_head h hA (c := 4 * i + s) (by omega) hL eB (by rw [List.length_cons] at hb; exact hb)).1
          have hq : qen P (4 * i + s) n = ((n % 200 : Nat) : Int) := by unfold qen; rw [if_pos (by omega)]
          have hn2 : 200 * s + n % 200 = n := by omega
          have hkey := f_keyOf (A := A) h hP hs hs4 (i := n % 200) (by omega)
          rw [hn2] at hkey
          rw [rd_ck h, h0, Option.bind_some]
          dsimp only
          rw [hq, if_neg (by rw [zi_m1 (by omega) (by omega)]; omega), rd_ck h, h0, Option.bind_some]
          dsimp only
          rw [hq, rd_ck h, hkey, Option.bind_some, rd_ck h, f_sinkOf h hP hs hk16, Option.bind_some, f_toSink (by omega) (by omega), Option.bind_some, rd_ck h, ra_isFull _ h hA rfl (by omega) (qI_rok hI (by omega)) (by rw [pS_lo (by omega)]; have := hN.2.1; omega), Option.bind_some, pR_things hI (by omega), pS_lo (by omega)]
          dsimp only
          rw [zb_if, zrZ_0, zrZ_1]
          have : qcan P i s M = decide (((M.2.1 (4 * (4 + qsk P (qkey P n)) + i)).length : Int) < M.1 2) := by
            unfold qcan
            dsimp only
            rw [if_neg eb, if_neg eB, hL]
            dsimp only
            rw [decide_eq_false (by omega), Bool.false_or, show 16 + 4 * qsk P (qkey P n) + i = 4 * (4 + qsk P (qkey P n)) + i from by omega]
          rw [this]
          by_cases e3 : M.1 2 ≤ ((M.2.1 (4 * (4 + qsk P (qkey P n)) + i)).length : Int)
          · rw [if_pos (decide_eq_true e3), decide_eq_false (by omega)]; rfl
          · rw [if_neg (by rw [decide_eq_false e3]; decide), decide_eq_true (by omega)]; rfl
/-- a record adds to the sum of its key, the new sum goes as a result -/
theorem ra_takes85 {s i n : Nat} (h : rsh σ m) (hs : rset σ m P) (hP : qPok P) (hA : RM A P N) (hs4 : s < P.1) (hi : i < 4) (hn8 : n < 800) (hns : n / 200 = s) (hres : N.1 (17 + qkey P n) + qval P n = qres P n)
    (hw : rwi (N.2.2 (4 * (4 + qsk P (qkey P n)) + i)) (N.2.1 (4 * (4 + qsk P (qkey P n)) + i)).length) (hl : (pR P N (4 * (4 + qsk P (qkey P n)) + i)).length < 801) :
    ∃ B, jX10_takes_85 (rput σ m A) m (zi s) (zi i) (zi ((n % 200 : Nat) : Int)) = some (rput σ m B) ∧ RM B P (qu (qu N.1 (17 + qkey P n) (N.1 (17 + qkey P n) + qval P n)) (33 + i) (N.1 (33 + i) + 1), qu N.2.1 (4 * (4 + qsk P (qkey P n)) + i) (N.2.1 (4 * (4 + qsk P (qkey P n)) + i) ++ [n]), N.2.2) := by
  have hk16 := qkey_lt (P := P) hn8
  have hsk := qsk_lt (P := P) (k := qkey P n) hP.2.2.1
  have hk2 := hP.2.2.2.1
  have hn2 : 200 * s + n % 200 = n := by omega
  have hkey := f_keyOf (A := A) h hP hs hs4 (i := n % 200) (by omega)
  rw [hn2] at hkey
  have hval := f_valueOf (A := A) h hP hs hs4 (i := n % 200) (by omega)
  rw [hn2] at hval
  have b1 := RM_set (k0 := 17 + qkey P n) (j := 17 + qkey P n) (v := N.1 (17 + qkey P n) + qval P n) (w := N.1 (17 + qkey P n) + qval P n) hA (by omega) (ri_lo (by omega)) (by rw [if_neg (by omega)]; omega)
  have b2 := RM_set (k0 := 33 + i) (j := 33 + i) (v := N.1 (33 + i) + 1) (w := N.1 (33 + i) + 1) b1 (by omega) (ri_lo (by omega)) (by rw [if_neg (by omega)]; omega)
  dsimp only at b2
  obtain ⟨B, eB, hB⟩ := RM_add (n := n) (d := 4 * (4 + qsk P (qkey P n)) + i) h b2 (by omega) (fun _ => hw) (by rw [rcap_c (by omega)]; exact hl)
  refine ⟨B, ?_, hB⟩
  have hq : qen P (qch (4 * (4 + qsk P (qkey P n)) + i)) n = 20000 * (qkey P n : Int) + (N.1 (17 + qkey P n) + qval P n) := by
    rw [qch_lo (by omega)]
    unfold qen
    rw [if_neg (by omega)]
    omega
  rw [hq] at eB
  unfold jX10_takes_85
  rw [rd_ck h, hkey, Option.bind_some]
  dsimp only
  rw [rd_now h, Option.bind_some, Option.bind_some, zi_add, ra_S (17 + qkey P n) h hA (by omega) (by omega), Option.bind_some, rd_ck h, hval, Option.bind_some, pS_lo (by omega)]
  dsimp only
  rw [zi_add, ra_w (17 + qkey P n) h (by omega) (by omega), Option.bind_some, rd_now h, Option.bind_some, Option.bind_some, zi_add, ra_S (33 + i) h b1 (by omega) (by omega), Option.bind_some, pS_lo (by omega)]
  dsimp only
  rw [qu_ne (by omega), zi_add, ra_w (33 + i) h (by omega) (by omega), Option.bind_some, rd_ck h]
  have hsnk := f_sinkOf (A := qu (qu A (17 + qkey P n) (zi (N.1 (17 + qkey P n) + qval P n))) (33 + i) (zi (N.1 (33 + i) + 1))) h hP hs hk16
  rw [hsnk, Option.bind_some, f_toSink (by omega) (by omega), Option.bind_some, rd_now h, Option.bind_some, ra_S (17 + qkey P n) h b2 (by omega) (by omega), Option.bind_some, pS_lo (by omega)]
  dsimp only
  rw [qu_ne (by omega), qu_at, zi_mul, zi_add, rd_ck h, eB, Option.bind_some]
theorem ra_takes {s i : Nat} (h : rsh σ m) (hs : rset σ m P) (hI : qI P M) (hA : RM A P M) (hno : ¬ qhid M) (hs4 : s < P.1) (hi : i < qmany M) (hc : qcan P i s M = true) (hnb : qNB M i) : ∃ B, fX10_takes (rput σ m A) m (zi s) (zi i) = some (rput σ m B) ∧ RM B P (qtake P i s M) := by
  have hN := hI.1.2.1
  have hP := hI.1.1
  have h4 := qN_many hN
  have hP4 := hP.2.1
  have hlc : qlc P M i s := by
    unfold qlc qlr qns
    rw [if_pos (by omega), if_pos (by omega)]
    omega
  have hpost := (qI_take hI hno (by omega) hlc hc hnb).1
  have hb := qI_B hI (c := 4 * i + s) (by omega)
  unfold fX10_takes
  unfold qtake at hpost ⊢
  rw [f_toInstance (by omega) (by omega), Option.bind_some, rd_ck h]
  by_cases eB : M.2.2 (4 * i + s) = 0
  · rw [if_pos eB] at hpost ⊢
    obtain ⟨h0, B, e1, hB⟩ := RM_bar h hA (c := 4 * i + s) (by omega) eB
    have h67 : M.1 67 = 1 := by
      rcases hN.2.2.2.2.2.2.2.1 with q | q
      · have := ((hI.1.2.2.2.2.1 q).1 (4 * i + s) (by omega)).1; omega
      · exact q
    have h69 : M.1 69 = 0 := by
      rcases (hI.1.2.2.2.2.2.1 h67).1.1 with q | q
      · exact q
      · have := hnb h67 q s (by omega); omega
    have hI2 := qI_num (k := 37 + i) (v := (s : Int) + 1) hI (by
      have := hlc.2
      rw [show 37 + i - 37 = i from by omega]
      omega)
    have b1 := RM_set (k0 := 37 + i) (j := 37 + i) (v := (s : Int)) (w := (s : Int) + 1) hB (by omega) (ri_lo (by omega)) (by rw [if_pos (by omega)])
    have e : ∀ k, k ≠ 37 + i → (qS M (37 + i) ((s : Int) + 1)).1 k = M.1 k := fun k hk => qu_ne hk
    obtain ⟨C, e2, hC⟩ := ra_aligns h hs hI2 (by rw [e 67 (by omega)]; exact h67) (by rw [e 69 (by omega)]; exact h69) hs4 (by rw [qmany_eq (e 1 (by omega))]; exact hi) eB b1
    refine ⟨C, ?_, hC⟩
    rw [h0, Option.bind_some, rd_ck h, e1, Option.bind_some, rd_now h, Option.bind_some, zi_add, ra_w (37 + i) h (by omega) (by omega), Option.bind_some, if_pos rfl, rd_ck h, e2, Option.bind_some]
  · rw [if_neg eB] at hpost ⊢
    cases hL : M.2.1 (4 * i + s) with
    | nil =>
      exfalso
      unfold qcan at hc
      dsimp only at hc
      rw [hL] at hc
      split at hc
      · cases hc
      · cases hc
    | cons n rest =>
      rw [hL] at hpost
      dsimp only at hpost ⊢
      have hat := hI.1.2.2.1 (4 * i + s) n (by omega) (by rw [hL]; exact List.mem_cons_self)
      rw [qch_lo (by omega)] at hat
      have hn8 := hat.1
      have hns : n / 200 = s := by have := hat.2.1 (by omega); omega
      have hk16 := qkey_lt (P := P) hn8
      obtain ⟨w1, w2, w3, w4, w5, w6⟩ := qix hP hN (qkey P n)
      have hres := qI_res hI (c := 4 * i + s) (by omega) hL
      rw [hL] at hb
      obtain ⟨h0, B, e1, hB⟩ := RM_head h hA (c := 4 * i + s) (by omega) hL eB (by rw [List.length_cons] at hb; exact hb)
      have b1 := RM_set (k0 := 37 + i) (j := 37 + i) (v := (s : Int)) (w := (s : Int) + 1) hB (by omega) (ri_lo (by omega)) (by rw [if_pos (by omega)])
      dsimp only at b1
      have hq : qen P (4 * i + s) n = ((n % 200 : Nat) : Int) := by unfold qen; rw [if_pos (by omega)]
      rw [h0, Option.bind_some, rd_ck h, e1, Option.bind_some, rd_now h, Option.bind_some, zi_add, ra_w (37 + i) h (by omega) (by omega), Option.bind_some]
      dsimp only
      rw [hq, if_neg (by rw [zi_m1 (by omega) (by omega)]; omega), rd_ck h]
      unfold qmove at hpost ⊢
      generalize hg : decide (M.1 67 = 1 ∧ M.1 69 = 1 ∧ qcnt P M i ≠ 0 ∧ M.1 (74 + (4 * i + s)) = 0) = g at hpost ⊢
      have hdest : qdest P i n = 4 * (4 + qsk P (qkey P n)) + i := by unfold qdest; rw [if_pos (by omega)]; omega
      -- the end is the same whether the record is kept or not
      have fin : ∀ (D : Nat → Int32) (N : qM), RM D P N → (N.1 = qu M.1 (37 + i) ((s : Int) + 1)) → (∀ d, d < 78 → N.2.1 d = qu (qu M.2.1 (4 * i + s) rest) (30 + (4 * i + s)) (M.2.1 (30 + (4 * i + s)) ++ if g then [n] else []) d) → (∀ d, d < 24 → N.2.2 d = (if 0 < M.2.2 (4 * i + s) then qu M.2.2 (4 * i + s) (M.2.2 (4 * i + s) - 1) else M.2.2) d) →
          ∃ E, jX10_takes_85 (rput σ m D) m (zi s) (zi i) (zi ((n % 200 : Nat) : Int)) = some (rput σ m E) ∧ RM E P (qmv P g i s n rest M) := by
        intro D N hD n1 n2 n3
        have hwo := qI_B hI (c := 4 * (4 + qsk P (qkey P n)) + i) (by omega)
        have eo : N.2.1 (4 * (4 + qsk P (qkey P n)) + i) = M.2.1 (4 * (4 + qsk P (qkey P n)) + i) := by rw [n2 _ (by omega), qu_ne (by omega), qu_ne (by omega)]
        have bo : N.2.2 (4 * (4 + qsk P (qkey P n)) + i) = M.2.2 (4 * (4 + qsk P (qkey P n)) + i) := by
          rw [n3 _ (by omega)]
          split
          · rw [qu_ne (by omega)]
          · rfl
        have hpl := (qI_len hpost (c := qdest P i n) (by omega)).1
        rw [qmv_Ld, hdest, List.length_append, List.length_singleton] at hpl
        obtain ⟨E, eE, hE⟩ := ra_takes85 (s := s) (i := i) (n := n) h hs hP hD hs4 (by omega) hn8 hns (by rw [n1, qu_ne (by omega)]; exact hres) (by rw [eo, bo]; exact hwo) (by
          rw [pR_ch (by omega), qins_len (by rw [eo, bo, List.length_map]; exact hwo), eo, bo, List.length_map]
          split <;> omega)
        refine ⟨E, eE, RM_ext hE (fun k hk => ?_) (fun d hd => ?_) (fun d hd => ?_)⟩
        · unfold qmv
          dsimp only
          rw [if_pos (show i < 4 from by omega), n1, qu_ne (show 17 + qkey P n ≠ 37 + i from by omega), qu_ne (show 33 + i ≠ 37 + i from by omega)]
        · unfold qmv
          dsimp only
          rw [hdest, eo]
          by_cases ed : d = 4 * (4 + qsk P (qkey P n)) + i
          · subst ed; rw [qu_at, qu_at]
          · rw [qu_ne ed, qu_ne ed, n2 d hd]
        · rw [n3 d hd]
          rfl
      have c0 : qcnt P ((qu M.1 (37 + i) ((s : Int) + 1), qu M.2.1 (4 * i + s) rest, if 0 < M.2.2 (4 * i + s) then qu M.2.2 (4 * i + s) (M.2.2 (4 * i + s) - 1) else M.2.2) : qM) i = qcnt P M i := qcnt_same (qu_ne (by omega)) (fun x _ => qu_ne (by omega))
      have ho := ra_overtakes h b1 (by dsimp only; rw [qu_ne (by omega)]; exact hN.2.2.2.2.2.2.2.1) (fun q => by
        dsimp only at q ⊢
        rw [qu_ne (by omega)] at q ⊢
        exact (hI.1.2.2.2.2.2.1 q).1.1)
      have hov : qovert ((qu M.1 (37 + i) ((s : Int) + 1), qu M.2.1 (4 * i + s) rest, if 0 < M.2.2 (4 * i + s) then qu M.2.2 (4 * i + s) (M.2.2 (4 * i + s) - 1) else M.2.2) : qM) = qovert M := by
        have q1 : qu M.1 (37 + i) ((s : Int) + 1) 67 = M.1 67 := qu_ne (by omega)
        have q2 : qu M.1 (37 + i) ((s : Int) + 1) 69 = M.1 69 := qu_ne (by omega)
        unfold qovert
        simp only [q1, q2]
      rw [ho, Option.bind_some, hov]
      dsimp only
      have nokeep : g = false → ∃ E, jX10_takes_85 (rput σ m (qu B (37 + i) (zi s))) m (zi s) (zi i) (zi ((n % 200 : Nat) : Int)) = some (rput σ m E) ∧ RM E P (qmv P g i s n rest M) := by
        intro q
        refine fin _ _ b1 rfl (fun d hd => ?_) (fun d _ => rfl)
        rw [q]
        simp only [Bool.false_eq_true, if_false, List.append_nil]
        by_cases ed : d = 30 + (4 * i + s)
        · subst ed; rw [qu_at, qu_ne (by omega)]
        · rw [qu_ne (j := d) ed]
      rw [zb_if]
      by_cases e3 : qovert M = true
      · obtain ⟨h67, h69⟩ := qovert_iff.mp e3
        have hqq := qcnt_eq hI.1 h67 (r := i) (by omega)
        have hns4 := qns_le hP hN i
        rw [if_pos e3, rd_ck h, ra_arrivedAt h b1 hP hs (by omega), Option.bind_some, c0]
        dsimp only
        by_cases e4 : qcnt P M i = 0
        · rw [if_pos (by rw [e4]; exact Int32.le_refl _)]
          exact nokeep (by rw [← hg]; exact decide_eq_false (fun q => q.2.2.1 e4))
        · rw [if_neg (zi_nle (by omega) (by omega) (by omega)), rd_now h, Option.bind_some, f_channelIn, Option.bind_some, zi_add, ra_S (74 + (4 * s + i)) h b1 (by omega) (by omega), Option.bind_some, pS_ai (by omega) (by omega)]
          have q1 : qu M.1 (37 + i) ((s : Int) + 1) (74 + (4 * i + s)) = M.1 (74 + (4 * i + s)) := qu_ne (by omega)
          simp only [q1]
          rcases (hI.1.2.2.2.2.2.1 h67).1.2.2.1 (4 * i + s) (by omega) with e5 | e5
          · have hgt : g = true := by rw [← hg]; exact decide_eq_true ⟨h67, h69, e4, e5⟩
            have hpk := (qI_lenF hpost (f := 30) (Or.inl ⟨rfl, by rw [qmv_S (by omega) (by omega) (by omega)]; exact h67⟩) (c := 4 * i + s) (by omega)).2 (by omega)
            rw [qmv_Lk (by omega), hgt, List.length_append] at hpk
            simp only [if_true, List.length_singleton] at hpk
            obtain ⟨C, eC, hC⟩ := RM_add (n := n) (d := 30 + (4 * i + s)) h b1 (by omega) (fun q => by omega) (by
              rw [pR_ls (by omega), List.length_map, rcap_a (by omega)]
              dsimp only
              rw [qu_ne (by omega)]
              omega)
            have hqk : qen P (qch (30 + (4 * i + s))) n = ((n % 200 : Nat) : Int) := by
              unfold qch
              rw [if_neg (by omega), if_pos (by omega), show 30 + (4 * i + s) - 30 = 4 * i + s from by omega]
              exact hq
            rw [hqk] at eC
            obtain ⟨E, eE, hE⟩ := fin C _ hC rfl (fun d hd => by
              dsimp only
              rw [hgt, qu_ne (show 30 + (4 * i + s) ≠ 4 * i + s from by omega)]
              rfl) (fun d _ => rfl)
            refine ⟨E, ?_, hE⟩
            rw [e5, if_pos rfl, f_keptIn (by omega) (by omega), Option.bind_some, rd_ck h, eC, Option.bind_some]
            exact eE
          · rw [e5, if_neg (by decide)]
            exact nokeep (by rw [← hg]; exact decide_eq_false (fun q => by have := q.2.2.2; omega))
      · rw [if_neg e3]
        exact nokeep (by rw [← hg]; exact decide_eq_false (fun q => e3 (qovert_iff.mpr ⟨q.1, q.2.1⟩)))
end RW
