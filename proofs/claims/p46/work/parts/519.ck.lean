/-! The class's receiver takes a record. -/
section KE
theorem qovert_of {M N : qM} (h67 : N.1 67 = M.1 67) (h69 : N.1 69 = M.1 69) : qovert N = qovert M := by
  unfold qovert
  simp only [h67, h69]
variable {σ : zS} {f b u : Nat} {V : Nat → Nat → Int32} {M : qM} {P : qP}
theorem qdest_lt {r n : Nat} (hP : qPok P) (hr : r < 6) : 16 ≤ qdest P r n ∧ qdest P r n < 26 ∧ (r < 4 → qdest P r n = 4 * (4 + qsk P (qkey P n)) + r) ∧ (¬ r < 4 → qdest P r n = 20 + r) := by
  have hsk := qsk_lt (P := P) (k := qkey P n) hP.2.2.1
  have h2P := hP.2.2.2.1
  unfold qdest
  by_cases e : r < 4
  · rw [if_pos e]; omega
  · rw [if_neg e]; omega
theorem k_dest {r n : Nat} (h : KS σ f u P) (hC : RC V b M) (hr : r < 6) (hn : n < 800) (hnr : n % 200 < P.2.2.1 (n / 200)) (hD0 : LD M.2.1) (hD : LD (qu M.2.1 (qdest P r n) (M.2.1 (qdest P r n) ++ [n]))) :
    ∃ W, jX1_take_98 (fput σ f V b u) f (zi r) (zi n) = some (fput σ f W b u) ∧ RC W b ((if r < 4 then qu (qu M.1 (17 + qkey P n) (M.1 (17 + qkey P n) + qval P n)) (33 + r) (M.1 (33 + r) + 1) else M.1), qu M.2.1 (qdest P r n) (M.2.1 (qdest P r n) ++ [n]), M.2.2) := by
  have hS := h.1
  have hP := h.2.2.2
  obtain ⟨q1, q2, q3, q4⟩ := qdest_lt (P := P) (r := r) (n := n) hP hr
  have hk := qkey_lt (P := P) hn
  have lq : ∀ c, 30 ≤ c → c < 78 → qu M.2.1 (qdest P r n) (M.2.1 (qdest P r n) ++ [n]) c = M.2.1 c := fun c c1 c2 => qu_ne (by omega)
  unfold jX1_take_98
  by_cases e : r < 4
  · rw [if_neg (by rw [zi_le (by omega) (by omega) (by omega) (by omega)]; omega), if_pos e, fc_1 hS]
    unfold fX1_addUp
    rw [fr_17 hS, Option.bind_some, su_c (KS_su h), su_key (KS_su h) hn hnr, Option.bind_some]
    dsimp only
    rw [if_neg (by rw [zi_lt (by omega) (by omega) (by omega) (by omega)]; omega), if_pos (by rw [zi_lt (by omega) (by omega) (by omega) (by omega)]; omega), fr_11 hS, Option.bind_some, fa_rd 3 (qkey P n) hS (by omega) rfl (by show qkey P n < 16; exact hk), Option.bind_some, fr_17 hS, Option.bind_some, su_c (KS_su h), su_val (KS_su h) hn hnr, Option.bind_some, hC.2.1.2.2.2.1 (qkey P n) hk]
    dsimp only
    rw [zi_add, fa_wr 3 (qkey P n) hS (by omega) rfl (by show qkey P n < 16; exact hk), Option.bind_some, fr_12 hS, Option.bind_some, fa_rd 4 r hS (by omega) rfl (by show r < 4; exact e), Option.bind_some, vs_no (by omega), hC.2.1.2.2.2.2.1 r e]
    dsimp only
    rw [zi_add, fa_wr 4 r hS (by omega) rfl (by show r < 4; exact e), Option.bind_some, fr_14 hS, Option.bind_some, fc_1 hS, k_result h hn hnr, Option.bind_some]
    dsimp only
    have hC2 := RC_hand (i := r) (v := M.1 (33 + r) + 1) (RC_sum (i := qkey P n) (v := M.1 (17 + qkey P n) + qval P n) hC hk) e
    rw [q3 e] at hD lq ⊢
    obtain ⟨W, eW, hW, fW⟩ := d_add (σ := σ) (f := f) (b := b) (u := u) (r := n) (l := 4 * (4 + qsk P (qkey P n)) + r) hS (Or.inl rfl) ⟨hC2.2.1.2.2.2.2.2.2.2.2, show LD M.2.1 from hD0⟩ (by have := q3 e; omega) hn (fresh_of (show LD (qu M.2.1 (4 * (4 + qsk P (qkey P n)) + r) (M.2.1 (4 * (4 + qsk P (qkey P n)) + r) ++ [n])) from hD) (by have := q3 e; omega))
    rw [fc_3 hS (Or.inl rfl), eW, Option.bind_some]
    exact ⟨W, rfl, RC_ls hC2 hW.1 fW lq⟩
  · rw [if_pos (by rw [zi_le (by omega) (by omega) (by omega) (by omega)]; omega), if_neg e, fr_14 hS, Option.bind_some, fc_3 hS (Or.inl rfl), zi_add, zi_sub, show (24 : Int) + (r : Int) - 4 = ((20 + r : Nat) : Int) from by omega]
    rw [q4 e] at hD lq ⊢
    obtain ⟨W, eW, hW, fW⟩ := d_add (σ := σ) (f := f) (b := b) (u := u) (V := V) (r := n) (l := 20 + r) hS (Or.inl rfl) ⟨hC.2.1.2.2.2.2.2.2.2.2, hD0⟩ (by omega) hn (fresh_of hD (by omega))
    rw [eW, Option.bind_some]
    exact ⟨W, rfl, RC_ls hC hW.1 fW lq⟩
theorem k_move {r x n : Nat} {rest : List Nat} (h : KS σ f u P) (hT : KT M) (hI : qI P M) (hC : RC V b M) (hr : r < 6) (hx4 : x < 4) (eL : M.2.1 (4 * r + x) = n :: rest) (hB : 0 ≠ M.2.2 (4 * r + x)) (hI2 : qI P (qmove P r x n rest M)) :
    ∃ W, jX1_take_56 (fput σ f (if 0 < M.2.2 (4 * r + x) then vs (vs V 29 r (zi ((x : Int) + 1))) 30 (4 * r + x) (zi (M.2.2 (4 * r + x) - 1)) else vs V 29 r (zi ((x : Int) + 1))) b u) f (zi r) (zi x) (zi ((4 * r + x : Nat) : Int)) = some (fput σ f W b u) ∧ RC W b (qmove P r x n rest M) := by
  have hS := h.1
  have hx := hC.1
  have fb := flen_k hx
  have hP := h.2.2.2
  obtain ⟨n8, nr, -⟩ := qI_rec hI (c := 4 * r + x) (n := n) (by omega) (by rw [eL]; exact List.mem_cons_self)
  obtain ⟨q1, q2, q3, q4⟩ := qdest_lt (P := P) (r := r) (n := n) hP hr
  have hk := qkey_lt (P := P) n8
  have c24 : 4 * r + x < 24 := by omega
  -- the sender is noted, what stands before the barrier is one less
  obtain ⟨V1, hV1⟩ : ∃ V1, V1 = (if 0 < M.2.2 (4 * r + x) then vs (vs V 29 r (zi ((x : Int) + 1))) 30 (4 * r + x) (zi (M.2.2 (4 * r + x) - 1)) else vs V 29 r (zi ((x : Int) + 1))) := ⟨_, rfl⟩
  obtain ⟨Bs, hBs⟩ : ∃ Bs, Bs = (if 0 < M.2.2 (4 * r + x) then qu M.2.2 (4 * r + x) (M.2.2 (4 * r + x) - 1) else M.2.2) := ⟨_, rfl⟩
  rw [← hV1]
  have hC1 : RC V1 b (qu M.1 (37 + r) ((x : Int) + 1), M.2.1, Bs) := by
    rw [hV1, hBs]
    by_cases e : 0 < M.2.2 (4 * r + x)
    · rw [if_pos e, if_pos e]
      exact RC_bar (RC_turn hC hr)
    · rw [if_neg e, if_neg e]
      exact RC_turn hC hr
  obtain ⟨S, hS1⟩ : ∃ S, S = qu M.1 (37 + r) ((x : Int) + 1) := ⟨_, rfl⟩
  have hSn : ∀ k, k ≠ 37 + r → S k = M.1 k := fun k hk => by rw [hS1]; exact qu_ne hk
  rw [← hS1] at hC1
  obtain ⟨W1, eW1, hW1, fW1⟩ := d_take (σ := σ) (f := f) (b := b) (u := u) (V := V1) (l := 4 * r + x) (r := n) (t := rest) hS (Or.inl rfl) ⟨hC1.2.1.2.2.2.2.2.2.2.2, show LD M.2.1 from LD_I hI⟩ (by omega) eL
  have hC2 : RC W1 b (S, qu M.2.1 (4 * r + x) rest, Bs) := RC_ls hC1 hW1.1 (fun p hp => fW1 p (by omega)) (fun c c1 c2 => qu_ne (by omega))
  have hqm : ∀ g, qmv P g r x n rest M = ((if r < 4 then qu (qu S (17 + qkey P n) (M.1 (17 + qkey P n) + qval P n)) (33 + r) (M.1 (33 + r) + 1) else S), qu (qu (qu M.2.1 (4 * r + x) rest) (30 + (4 * r + x)) (M.2.1 (30 + (4 * r + x)) ++ if g then [n] else [])) (qdest P r n) (M.2.1 (qdest P r n) ++ [n]), Bs) := fun g => by
    unfold qmv
    rw [hS1, hBs]
  have hDf : LD (qmove P r x n rest M).2.1 := LD_I hI2
  have dne : qdest P r n ≠ 4 * r + x := by
    by_cases e : r < 4
    · omega
    · have := q4 e; omega
  -- what comes after, with the lists L3
  have last : ∀ (W3 : Nat → Nat → Int32) (L3 : Nat → List Nat), RC W3 b (S, L3, Bs) → LD L3 → LD (qu L3 (qdest P r n) (L3 (qdest P r n) ++ [n])) → L3 (qdest P r n) = M.2.1 (qdest P r n) → (S, qu L3 (qdest P r n) (M.2.1 (qdest P r n) ++ [n]), Bs) = ((S, (qmove P r x n rest M).2) : qM) →
      ∃ W, jX1_take_98 (fput σ f W3 b u) f (zi r) (zi n) = some (fput σ f W b u) ∧ RC W b (qmove P r x n rest M) := fun W3 L3 g1 g2 g3 g4 g5 => by
    obtain ⟨W, eW, hW⟩ := k_dest h g1 hr n8 nr g2 g3
    refine ⟨W, eW, ?_⟩
    dsimp only at hW
    rw [g4, hSn _ (by omega), hSn _ (by omega)] at hW
    have e1 : (qmove P r x n rest M).1 = (if r < 4 then qu (qu S (17 + qkey P n) (M.1 (17 + qkey P n) + qval P n)) (33 + r) (M.1 (33 + r) + 1) else S) := by
      unfold qmove
      rw [hqm]
    have e2 : (qu L3 (qdest P r n) (M.2.1 (qdest P r n) ++ [n]), Bs) = (qmove P r x n rest M).2 := congrArg Prod.snd g5
    rw [show qmove P r x n rest M = ((qmove P r x n rest M).1, (qmove P r x n rest M).2) from rfl, e1, ← e2]
    exact hW
  have hov : qovert (S, qu M.2.1 (4 * r + x) rest, Bs) = qovert M := by
    exact qovert_of (hSn 67 (by omega)) (hSn 69 (by omega))
  have hLD2 : LD (qu M.2.1 (4 * r + x) rest) := hW1.2
  have plain : (decide (M.1 67 = 1 ∧ M.1 69 = 1 ∧ qcnt P M r ≠ 0 ∧ M.1 (74 + (4 * r + x)) = 0)) = false → ∃ W, jX1_take_98 (fput σ f W1 b u) f (zi r) (zi n) = some (fput σ f W b u) ∧ RC W b (qmove P r x n rest M) := fun hg => by
    have e5 : (S, qu (qu M.2.1 (4 * r + x) rest) (qdest P r n) (M.2.1 (qdest P r n) ++ [n]), Bs) = ((S, (qmove P r x n rest M).2) : qM) := by
      unfold qmove
      rw [hg, hqm]
      refine Prod.ext rfl (Prod.ext ?_ rfl)
      refine congrArg (fun L => qu L (qdest P r n) (M.2.1 (qdest P r n) ++ [n])) ?_
      funext d
      by_cases e : d = 30 + (4 * r + x)
      · rw [e, qu_at, qu_ne (by omega)]
        exact (List.append_nil _).symm
      · rw [qu_ne e]
    refine last W1 _ hC2 hLD2 ?_ (qu_ne dne) e5
    rw [qu_ne dne, show qu (qu M.2.1 (4 * r + x) rest) (qdest P r n) (M.2.1 (qdest P r n) ++ [n]) = (qmove P r x n rest M).2.1 from congrArg (fun N : qM => N.2.1) e5]
    exact hDf
  unfold jX1_take_56
  rw [fr_14 hS, Option.bind_some, fc_3 hS (Or.inl rfl), eW1, Option.bind_some]
  dsimp only
  rw [fr_15 hS, Option.bind_some, fc_0 hS hx, k_overt hS hC2 (by
    show 1 ≤ S 5 ∨ S 67 ≠ 1
    rw [hSn 5 (by omega), hSn 67 (by omega)]
    by_cases e : M.1 67 = 1
    · exact Or.inl (hI.1.2.2.2.2.2.1 e).1.2.2.2.2.2.1
    · exact Or.inr e) (by
    show S 5 < 1000000000
    rw [hSn 5 (by omega)]; exact hT.2.2.1) (fun e => by
    have e : S 67 = 1 := e
    show S 69 = 0 ∨ S 69 = 1
    rw [hSn 67 (by omega)] at e
    rw [hSn 69 (by omega)]
    exact (hI.1.2.2.2.2.2.1 e).1.1), Option.bind_some, hov]
  dsimp only
  by_cases e : qovert M = true
  · have e2 := e
    unfold qovert at e2
    rw [Bool.and_eq_true, decide_eq_true_eq, decide_eq_true_eq] at e2
    rw [e, if_neg (show ¬ zb true = zi 0 from by decide), fr_15 hS, Option.bind_some, fc_0 hS hx, k_behind (q0 := qcnt P M r = 0) hS hC2 (by
      show S 67 = 1
      rw [hSn 67 (by omega)]; exact e2.1) (fun y hy => by
      show S (74 + (4 * r + y)) = 0 ∨ S (74 + (4 * r + y)) = 1
      rw [hSn _ (by omega)]; exact k_flags hI e2.1 hr y hy) (by
      rw [← k_first hI e2.1 hr]
      rw [show gmask (fun y => (S, qu M.2.1 (4 * r + x) rest, Bs).1 (74 + (4 * r + y))) = gmask (fun y => M.1 (74 + (4 * r + y))) from gmask_of fun y hy => hSn _ (by omega)]) hr hx4, Option.bind_some]
    dsimp only
    have h74 : S (74 + (4 * r + x)) = M.1 (74 + (4 * r + x)) := hSn _ (by omega)
    by_cases e3 : ¬ qcnt P M r = 0 ∧ S (74 + (4 * r + x)) = 0
    · rw [decide_eq_true e3, if_neg (show ¬ zb true = zi 0 from by decide), fr_15 hS, Option.bind_some, fc_0 hS hx]
      have hg : (decide (M.1 67 = 1 ∧ M.1 69 = 1 ∧ qcnt P M r ≠ 0 ∧ M.1 (74 + (4 * r + x)) = 0)) = true := decide_eq_true ⟨e2.1, e2.2, e3.1, h74.symm.trans e3.2⟩
      have e5 : (S, qu (qu (qu M.2.1 (4 * r + x) rest) (30 + (4 * r + x)) (M.2.1 (30 + (4 * r + x)) ++ [n])) (qdest P r n) (M.2.1 (qdest P r n) ++ [n]), Bs) = ((S, (qmove P r x n rest M).2) : qM) := by
        unfold qmove
        rw [hg, hqm]
        rfl
      have eK : gK (S, qu M.2.1 (4 * r + x) rest, Bs) 30 = gK M 30 := gK_of (fun c c1 c2 => qu_ne (by omega))
      have e30 : qu M.2.1 (4 * r + x) rest (30 + (4 * r + x)) = M.2.1 (30 + (4 * r + x)) := qu_ne (by omega)
      have on : (qmove P r x n rest M).1 67 = 1 := by
        unfold qmove
        rw [hqm]
        dsimp only
        by_cases e6 : r < 4
        · rw [if_pos e6, qu_ne (by omega), qu_ne (by omega), hSn 67 (by omega)]; exact e2.1
        · rw [if_neg e6, hSn 67 (by omega)]; exact e2.1
      have hDk := LD_K hI2 (o := 30) (Or.inl ⟨rfl, on⟩)
      have eK2 : gK (qmove P r x n rest M) 30 = qu (gK M 30) (4 * r + x) (M.2.1 (30 + (4 * r + x)) ++ [n]) := by
        rw [← eK, ← gK_qu c24]
        refine gK_of (fun c c1 c2 => ?_)
        rw [← show qu (qu (qu M.2.1 (4 * r + x) rest) (30 + (4 * r + x)) (M.2.1 (30 + (4 * r + x)) ++ [n])) (qdest P r n) (M.2.1 (qdest P r n) ++ [n]) = (qmove P r x n rest M).2.1 from congrArg (fun N : qM => N.2.1) e5]
        exact qu_ne (by omega)
      rw [eK2] at hDk
      obtain ⟨W3, eW3, hW3⟩ := k_keep1 (c := 4 * r + x) (n := n) h hC2 (by
        show S 67 = 1
        rw [hSn 67 (by omega)]; exact e2.1) c24 n8 (by rw [eK]; exact LD_K hI (Or.inl ⟨rfl, e2.1⟩)) (by
        rw [eK]
        show LD (qu (gK M 30) (4 * r + x) (qu M.2.1 (4 * r + x) rest (30 + (4 * r + x)) ++ [n]))
        rw [e30]; exact hDk)
      rw [eW3, Option.bind_some]
      dsimp only at hW3
      rw [e30] at hW3
      refine last W3 _ hW3 (LD_congr hLD2 (fun l hl => qu_ne (by omega))) ?_ (by rw [qu_ne (by omega), qu_ne dne]) e5
      rw [qu_ne (by omega), qu_ne dne, show qu (qu (qu M.2.1 (4 * r + x) rest) (30 + (4 * r + x)) (M.2.1 (30 + (4 * r + x)) ++ [n])) (qdest P r n) (M.2.1 (qdest P r n) ++ [n]) = (qmove P r x n rest M).2.1 from congrArg (fun N : qM => N.2.1) e5]
      exact hDf
    · rw [decide_eq_false e3, if_pos (show zb false = zi 0 from rfl)]
      exact plain (decide_eq_false (fun q => e3 ⟨q.2.2.1, h74.trans q.2.2.2⟩))
  · rw [show qovert M = false from by simpa using e, if_pos (show zb false = zi 0 from rfl)]
    refine plain (decide_eq_false (fun q => e ?_))
    unfold qovert
    rw [decide_eq_true q.1, decide_eq_true q.2.1]
    rfl
end KE
