theorem qf_take {P : qP} {k n b : Nat} (h : qkey P n ≠ k) (l : List Nat) : qf P k ((l ++ [n]).take b) = qf P k (l.take b) := by
  rw [List.take_append, qf_app]
  have : qf P k (List.take (b - l.length) [n]) = [] := by
    cases e : b - l.length with
    | zero => rfl
    | succ m => rw [List.take_succ_cons, List.take_nil]; exact qf_neg h
  rw [this, List.append_nil]
theorem qI_mv {P : qP} {M : qM} {r x n : Nat} {rest : List Nat} {g : Bool} (hI : qI0 P M) (hr : r < 6) (hx : x < 4) (hlc : qlc P M r x) (hL : M.2.1 (4 * r + x) = n :: rest) (hB : qhush (M.2.2 (4 * r + x) ≠ 0)) (hbl : qhush (M.1 (43 + (4 * r + x)) ≠ 1))
    (hg : qhush (g = true ↔ M.1 67 = 1 ∧ M.1 69 = 1 ∧ M.1 (144 + r) = 1 ∧ M.1 (74 + (4 * r + x)) = 0)) (hno : ¬ qhid M) : qI0 P (qmv P g r x n rest M) := by
  obtain ⟨hP, hN, hV, hFG, hZ, hOn, hX, hC, hC2⟩ := hI
  have hk := qix hP hN
  have hm4 := qN_many hN
  have hnk := hP.2.2.2.1
  have hat := hV (4 * r + x) n (by omega) (by rw [hL]; exact List.mem_cons_self)
  have hch : qch (4 * r + x) = 4 * r + x := by unfold qch; exact if_pos (by omega)
  rw [hch] at hat
  have hn8 := hat.1
  have hk16 := qkey_lt (P := P) hn8
  have hkm := qkey_mod (P := P) hn8
  obtain ⟨w1, w2, w3, w4, w5, w6⟩ := hk (qkey P n)
  -- where the record goes
  have hplace : qhush ((r < 4 ∧ r = qown (qkey P n) (qmany M) ∧ x = qkey P n % 4 ∧ qci (qkey P n) (qmany M) = 4 * r + x ∧ qdest P r n = qco P (qkey P n) (qmany M) ∧ 16 ≤ qdest P r n ∧ qdest P r n < 24) ∨ (4 ≤ r ∧ r = 4 + qsk P (qkey P n) ∧ x = qown (qkey P n) (qmany M) ∧ qco P (qkey P n) (qmany M) = 4 * r + x ∧ qdest P r n = 24 + qsk P (qkey P n))) := by
    by_cases h : r < 4
    · refine Or.inl ⟨h, ?_⟩
      have e := hat.2.1 (by omega)
      have : n / 200 < 4 := by omega
      have e1 : r = qown (qkey P n) (qmany M) := by omega
      refine ⟨e1, by omega, by omega, ?_, ?_, ?_⟩
      · unfold qdest; rw [if_pos h, w6]; omega
      · unfold qdest; rw [if_pos h]; omega
      · unfold qdest; rw [if_pos h]; omega
    · refine Or.inr ⟨by omega, ?_⟩
      have e := hat.2.2.1 (by omega) (by omega)
      have e1 : r = 4 + qsk P (qkey P n) := by omega
      refine ⟨e1, by omega, by omega, ?_⟩
      unfold qdest; rw [if_neg h]; omega
  have hdest : 16 ≤ qdest P r n ∧ qdest P r n < 26 ∧ qdest P r n ≠ 4 * r + x := by
    rcases hplace with h | h <;> omega
  have h1 : (qmv P g r x n rest M).1 1 = M.1 1 := qmv_S (by omega) (by omega) (by omega)
  have hB1 : qhush (M.2.2 (4 * r + x) = -1 ∨ 0 < M.2.2 (4 * r + x) ∧ M.2.2 (4 * r + x) ≤ (n :: rest).length) := by
    show _ ∨ _
    rw [← hL]
    rcases hN.2.2.2.2.2.2.2.1 with h | h
    · exact Or.inl ((hZ h).1 _ (by omega)).1
    · rcases ((hOn h).2.1.1 r x hr hx hlc).1 with h | h
      · exact Or.inl h
      · exact Or.inr (by have : M.2.2 (4 * r + x) ≠ 0 := hB; omega)
  have hfo : ∀ k, qkey P n ≠ k → ∀ d, qf P k ((qmv P g r x n rest M).2.1 d) = qf P k (M.2.1 d) := by
    intro k hkn d
    by_cases e : d = qdest P r n
    · subst e; rw [qmv_Ld, qf_app, qf_neg hkn, List.append_nil]
    · by_cases e2 : d = 4 * r + x
      · subst e2; rw [qmv_Lc (by omega), hL, qf_cons, qf_neg hkn, List.nil_append]
      · by_cases e3 : d = 30 + (4 * r + x)
        · subst e3; rw [qmv_Lk (by omega), qf_app]
          cases g
          · simp [qf_nil]
          · simp only [if_true]; rw [qf_neg hkn, List.append_nil]
        · rw [qmv_L e2 e3 e]
  have hupc : qup M (4 * r + x) = n :: qup (qmv P g r x n rest M) (4 * r + x) := by
    unfold qup
    rw [qmv_Bc, qmv_Lc (by omega), hL]
    rcases hB1 with h | h
    · simp [h]
    · rw [if_neg (by omega), if_pos h.1, if_neg (by omega), show (M.2.2 (4 * r + x)).toNat = (M.2.2 (4 * r + x) - 1).toNat + 1 from by omega, List.take_succ_cons]
  have hhid : qhid (qmv P g r x n rest M) ↔ qhid M := by
    unfold qhid
    rw [qmv_S (by omega) (by omega) (by omega), qmv_S (by omega) (by omega) (by omega)]
  have hgl : ∀ d, d ∈ (if g then [n] else ([] : List Nat)) → d = n := by
    intro d hd
    cases g
    · cases hd
    · simpa using hd
  refine ⟨hP, ?_, ?_, fun k hk16' => ⟨?_, ?_⟩, ?_, fun h67 => ?_, ?_, ?_, ?_⟩
  · obtain ⟨a1, a2, a3, a4, a5, a6, a7, a8, a9, a10, a11, a12, a13, a14⟩ := hN
    refine ⟨?_, ?_, ?_, ?_, ?_, ?_, ?_, ?_, ?_, ?_, ?_, ?_, ?_, ?_⟩
    · rw [h1]; exact a1
    · rw [qmv_S (by omega) (by omega) (by omega)]; exact a2
    · rw [qmv_S (by omega) (by omega) (by omega)]; exact a3
    · rw [qmv_S (by omega) (by omega) (by omega)]; exact a4
    · intro s hs; rw [qmv_S (by omega) (by omega) (by omega)]; exact a5 s hs
    · intro s hs; rw [qmv_S (by omega) (by omega) (by omega)]; exact a6 s hs
    · intro s hs; rw [qmv_S (by omega) (by omega) (by omega)]; exact a7 s hs
    · rw [qmv_S (by omega) (by omega) (by omega)]; exact a8
    · rw [qmv_S (by omega) (by omega) (by omega)]; exact a9
    · rw [qmv_S (by omega) (by omega) (by omega)]; exact a10
    · rw [qmv_S (by omega) (by omega) (by omega)]; exact a11
    · intro t ht
      rw [qlr_eq h1, qns_eq h1]
      by_cases e : t = r
      · subst e
        rw [qmv_37 hk16]
        have := hlc.2
        exact ⟨by omega, fun _ => by omega⟩
      · by_cases e2 : 37 + t = 33 + r
        · rw [e2]
          have b1 := a12 t ht
          have hr4 : ¬ r < 4 := by omega
          have : (qmv P g r x n rest M).1 (33 + r) = M.1 (33 + r) := by
            unfold qmv; dsimp only; rw [if_neg hr4]; exact qu_ne (by omega)
          rw [this, ← e2]; exact b1
        · rw [qmv_S (by omega) (by omega) (by omega)]; exact a12 t ht
    · intro i hi
      by_cases e : i = r
      · subst e; exact qmv_33 (a13 i hi)
      · rw [qmv_S (by omega) (by omega) (by omega)]; exact a13 i hi
    · intro s hs; rw [qmv_S (by omega) (by omega) (by omega)]; exact a14 s hs
  · intro d m hd hmm
    rw [qmany_eq h1]
    by_cases d1 : d = qdest P r n
    · subst d1
      rw [qmv_Ld, List.mem_append, List.mem_singleton] at hmm
      rcases hmm with h | rfl
      · exact hV _ m hd h
      · unfold qch
        rw [if_pos (by omega)]
        rcases hplace with ⟨p1, p2, p3, p4, p5, p6, p7⟩ | ⟨p1, p2, p3, p4, p5⟩
        · exact ⟨hn8, fun _ => by omega, fun _ _ => p5, fun _ => by omega⟩
        · exact ⟨hn8, fun _ => by omega, fun _ _ => by omega, fun _ => by omega⟩
    · by_cases d2 : d = 4 * r + x
      · subst d2
        rw [qmv_Lc (by omega)] at hmm
        exact hV _ m hd (by rw [hL]; exact List.mem_cons_of_mem _ hmm)
      · by_cases d3 : d = 30 + (4 * r + x)
        · subst d3
          rw [qmv_Lk (by omega), List.mem_append] at hmm
          rcases hmm with h | h
          · exact hV _ m hd h
          · have := hgl m h
            subst this
            unfold qch
            rw [if_neg (by omega), if_pos (by omega), show 30 + (4 * r + x) - 30 = 4 * r + x from by omega]
            exact hat
        · rw [qmv_L d2 d3 d1] at hmm; exact hV d m hd hmm
  · have hF := (hFG k hk16').1
    by_cases hkn : qkey P n = k
    · subst hkn
      unfold qIF qseq at hF ⊢
      rw [qmany_eq h1, qmv_S (k := 13 + qkey P n % 4) (by omega) (by omega) (by omega), qmv_17 hk16]
      rcases hplace with ⟨p1, p2, p3, p4, p5, p6, p7⟩ | ⟨p1, p2, p3, p4, p5⟩
      · rw [if_pos p1, p4, qmv_Lc (by omega), ← p5, qmv_Ld, qmv_L (by omega) (by omega) (by omega), qmv_L (by omega) (by omega) (by omega), qmv_L (by omega) (by omega) (by omega), qf_app, qf_pos rfl]
        rw [p4, hL, qf_cons, qf_pos rfl, ← p5] at hF
        obtain ⟨h3, h4⟩ := hF
        refine ⟨by simpa only [List.append_assoc] using h3, ?_⟩
        rw [h4]
        simp only [qsum_app, qsum_one]
        omega
      · rw [if_neg (by omega), p4, qmv_Lc (by omega), ← p5, qmv_Ld, qmv_L (by omega) (by omega) (by omega), qmv_L (by omega) (by omega) (by omega), qmv_L (by omega) (by omega) (by omega), qf_app, qf_pos rfl]
        rw [p4, hL, qf_cons, qf_pos rfl, ← p5] at hF
        obtain ⟨h3, h4⟩ := hF
        refine ⟨by simpa only [List.append_assoc] using h3, ?_⟩
        rw [h4]
        simp only [qsum_app, qsum_one]
        omega
    · exact qIF_congr hP hN h1 (qmv_S (by omega) (by omega) (by omega)) (qmv_S (by omega) (by omega) (by omega)) (fun d _ => hfo k hkn d) hF
  · exact qIG_congr hP hN h1 (qbase_congr hP (qmv_S (by omega) (by omega) (by omega)) (qmv_S (by omega) (by omega) (by omega)) (fun d _ hc => by rw [qmv_L (by omega) (by omega) (by omega)])) (qmv_S (by omega) (by omega) (by omega)) (qmv_S (by omega) (by omega) (by omega)) (fun d h54 hd => by rw [qmv_L (by omega) (by omega) (by omega)]) (hFG k hk16').2
  · intro h67
    rw [qmv_S (by omega) (by omega) (by omega)] at h67
    obtain ⟨z1, z2⟩ := hZ h67
    refine ⟨fun d hd => ?_, fun h j hj => ?_⟩
    · rw [qmv_S (by omega) (by omega) (by omega)]
      refine ⟨?_, (z1 d hd).2⟩
      by_cases e : d = 4 * r + x
      · subst e; rw [qmv_Bc, (z1 _ hd).1, if_neg (by omega)]
      · rw [qmv_B e]; exact (z1 d hd).1
    · rw [qmv_L (by omega) (by omega) (by omega)]; exact z2 (fun u => h (hhid.mpr u)) j hj
  · rw [qmv_S (by omega) (by omega) (by omega)] at h67
    obtain ⟨hO, ⟨e1, e3, e4⟩, hH⟩ := hOn h67
    have hc1 : qhush _ := e1 r x hr hx hlc
    have hf01 : qhush _ := hO.2.2.1 (4 * r + x) (by omega)
    have hcut01 : qhush _ := hO.2.2.2.1 r hr
    have h69 : qhush _ := hO.1
    -- a channel whose barrier has arrived is taken from only behind the cut
    have hcutf : qhush (M.1 (74 + (4 * r + x)) = 1 → M.1 (144 + r) = 1) := by
      intro h
      rcases h69 with h0 | h0
      · rcases hcut01 with q | q
        · exact absurd (((show _ ∧ _ from hc1).2.2.2.2.2 h0).1.mpr ⟨h, q⟩) hbl
        · exact q
      · exact ((show _ ∧ _ from hc1).2.2.2.2.1 h0).2 h
    have hg1 : qhush (M.1 (74 + (4 * r + x)) = 0 → M.1 (144 + r) = 1 → g = true) := by
      intro h q
      refine (show _ ↔ _ from hg).mpr ⟨h67, ?_, q, h⟩
      rcases h69 with h0 | h0
      · have := ((show _ ∧ _ from hc1).2.2.2.2.2 h0).2.2 q; omega
      · exact h0
    have hg0 : qhush (M.1 (74 + (4 * r + x)) = 1 ∨ M.1 (144 + r) = 0 ∨ M.1 69 = 0 → g = false) := by
      intro h
      cases e : g
      · rfl
      · obtain ⟨-, q1, q2, q3⟩ := (show _ ↔ _ from hg).mp e
        omega
    have hk0 : M.1 (144 + r) = 0 → M.2.1 (30 + (4 * r + x)) = [] := (show _ ∧ _ from hc1).2.2.2.1
    have hB2 : qhush ((qmv P g r x n rest M).2.2 (4 * r + x) = -1 ↔ M.2.2 (4 * r + x) = -1) := by
      show _ ↔ _
      rw [qmv_Bc]
      rcases hB1 with h | h
      · rw [h]; simp
      · rw [if_pos h.1]; omega
    refine ⟨?_, ?_, fun k hk16' => ?_⟩
    · obtain ⟨o1, o2, o3, o4, o5, o6, o7, o8, o9, o10⟩ := hO
      refine ⟨?_, ?_, ?_, ?_, ?_, ?_, ?_, ?_, ?_, ?_⟩
      · rw [qmv_S (by omega) (by omega) (by omega)]; exact o1
      · intro s hs; rw [qmv_S (by omega) (by omega) (by omega)]; exact o2 s hs
      · intro s hs; rw [qmv_S (by omega) (by omega) (by omega)]; exact o3 s hs
      · intro s hs; rw [qmv_S (by omega) (by omega) (by omega)]; exact o4 s hs
      · intro s hs; rw [qmv_S (by omega) (by omega) (by omega)]; exact o5 s hs
      · rw [qmv_S (by omega) (by omega) (by omega)]; exact o6
      · rw [qmv_S (by omega) (by omega) (by omega), qmv_S (by omega) (by omega) (by omega)]; exact o7
      · intro s hs; rw [qmv_S (by omega) (by omega) (by omega)]; exact o8 s hs
      · intro t y ht hy; rw [qlc_eq h1, qmv_S (by omega) (by omega) (by omega)]; exact o9 t y ht hy
      · intro s hs; rw [qlr_eq h1, qmv_S (by omega) (by omega) (by omega)]; exact o10 s hs
    · refine ⟨fun t y ht hy hlc2 => ?_, fun h => absurd (hhid.mp h) hno, fun h i hi hh => ?_⟩
      · rw [qlc_eq h1] at hlc2
        have hc2 : qhush _ := e1 t y ht hy hlc2
        have es : qsrc (qmv P g r x n rest M) t y = qsrc M t y := by
          unfold qsrc
          split <;> exact qmv_S (by omega) (by omega) (by omega)
        have s1 : (qmv P g r x n rest M).1 (74 + (4 * t + y)) = M.1 (74 + (4 * t + y)) := qmv_S (by omega) (by omega) (by omega)
        have s2 : (qmv P g r x n rest M).1 (144 + t) = M.1 (144 + t) := qmv_S (by omega) (by omega) (by omega)
        have s3 : (qmv P g r x n rest M).1 (43 + (4 * t + y)) = M.1 (43 + (4 * t + y)) := qmv_S (by omega) (by omega) (by omega)
        have s4 : (qmv P g r x n rest M).1 69 = M.1 69 := qmv_S (by omega) (by omega) (by omega)
        rw [es, s1, s2, s3, s4]
        by_cases e : 4 * t + y = 4 * r + x
        · have ee1 : t = r := by omega
          have ee2 : y = x := by omega
          subst ee1 ee2
          have l1 : (qmv P g t y n rest M).2.1 (4 * t + y) = rest := qmv_Lc (by omega)
          have l2 : (qmv P g t y n rest M).2.1 (30 + (4 * t + y)) = M.2.1 (30 + (4 * t + y)) ++ if g then [n] else [] := qmv_Lk (by omega)
          have l3 : (qmv P g t y n rest M).2.2 (4 * t + y) = -1 ∨ 0 ≤ (qmv P g t y n rest M).2.2 (4 * t + y) ∧ (qmv P g t y n rest M).2.2 (4 * t + y) ≤ rest.length := by
            rw [qmv_Bc]
            rcases show _ ∨ _ from hB1 with h | h
            · rw [h]; exact Or.inl (if_neg (by omega))
            · rw [if_pos h.1]; have := h.2; simp only [List.length_cons] at this; omega
          obtain ⟨g1, g2, g3, g4, g5, g6⟩ := show _ ∧ _ from hc2
          rw [l1, l2]
          refine ⟨l3, ?_, g3, fun h => ?_, g5, fun h => ⟨(g6 h).1, ?_, (g6 h).2.2⟩⟩
          · rw [ne_eq, show _ ↔ _ from hB2]; exact g2
          · rw [hk0 h, hg0 (Or.inr (Or.inl h))]; rfl
          · rw [(g6 h).2.1, hg0 (Or.inr (Or.inr h))]; rfl
        · rw [qmv_B e, qmv_L (d := 30 + (4 * t + y)) (by omega) (by omega) (by omega)]
          by_cases e2 : 4 * t + y = qdest P r n
          · have l1 : (qmv P g r x n rest M).2.1 (4 * t + y) = M.2.1 (4 * t + y) ++ [n] := by rw [e2]; exact qmv_Ld
            rw [l1, List.length_append]
            obtain ⟨g1, gr⟩ := show _ ∧ _ from hc2
            refine ⟨?_, gr⟩
            clear gr
            omega
          · rw [qmv_L e (by omega) e2]; exact hc2
      · rw [qmv_S (by omega) (by omega) (by omega)] at hh
        rw [qmv_L (by omega) (by omega) (by omega)]
        exact e4 hno i hi hh
    · have hH : qhush _ := hH k hk16'
      obtain ⟨k1, k2, k3, k4, k5, k6⟩ := hk k
      have s1 : (qmv P g r x n rest M).1 (74 + qco P k (qmany M)) = M.1 (74 + qco P k (qmany M)) := qmv_S (by omega) (by omega) (by omega)
      have s2 : (qmv P g r x n rest M).1 (74 + qci k (qmany M)) = M.1 (74 + qci k (qmany M)) := qmv_S (by omega) (by omega) (by omega)
      have s3 : (qmv P g r x n rest M).1 (148 + qsk P k) = M.1 (148 + qsk P k) := qmv_S (by omega) (by omega) (by omega)
      have s4 : (qmv P g r x n rest M).1 (144 + qown k (qmany M)) = M.1 (144 + qown k (qmany M)) := qmv_S (by omega) (by omega) (by omega)
      have s5 : (qmv P g r x n rest M).1 (102 + k) = M.1 (102 + k) := qmv_S (by omega) (by omega) (by omega)
      have s6 : (qmv P g r x n rest M).1 (70 + k % 4) = M.1 (70 + k % 4) := qmv_S (by omega) (by omega) (by omega)
      have s7 : (qmv P g r x n rest M).1 (98 + k % 4) = M.1 (98 + k % 4) := qmv_S (by omega) (by omega) (by omega)
      have s8 : (qmv P g r x n rest M).1 (13 + k % 4) = M.1 (13 + k % 4) := qmv_S (by omega) (by omega) (by omega)
      have l28 : (qmv P g r x n rest M).2.1 (28 + qsk P k) = M.2.1 (28 + qsk P k) := qmv_L (by omega) (by omega) (by omega)
      have l26 : (qmv P g r x n rest M).2.1 (26 + qsk P k) = M.2.1 (26 + qsk P k) := qmv_L (by omega) (by omega) (by omega)
      by_cases hkn : qkey P n = k
      · subst hkn
        rcases show _ ∨ _ from hplace with ⟨p1, p2, p3, p4, p5, p6, p7⟩ | ⟨p1, p2, p3, p4, p5⟩
        · -- a worker
          have hlo : qlc P M (4 + qsk P (qkey P n)) (qown (qkey P n) (qmany M)) := by
            unfold qlc qlr qns
            rw [if_neg (by omega), if_neg (by omega)]
            omega
          have hc3 : qhush _ := e1 (4 + qsk P (qkey P n)) (qown (qkey P n) (qmany M)) (by omega) (by omega) hlo
          have eo : 4 * (4 + qsk P (qkey P n)) + qown (qkey P n) (qmany M) = qdest P r n := by omega
          have l24 : (qmv P g r x n rest M).2.1 (24 + qsk P (qkey P n)) = M.2.1 (24 + qsk P (qkey P n)) := qmv_L (by omega) (by omega) (by omega)
          have lko : (qmv P g r x n rest M).2.1 (30 + qdest P r n) = M.2.1 (30 + qdest P r n) := qmv_L (by omega) (by omega) (by omega)
          have lki : (qmv P g r x n rest M).2.1 (30 + (4 * r + x)) = M.2.1 (30 + (4 * r + x)) ++ if g then [n] else [] := qmv_Lk (by omega)
          have bo : (qmv P g r x n rest M).2.2 (qdest P r n) = M.2.2 (qdest P r n) := qmv_B (by omega)
          rw [eo] at hc3
          have es : qsrc M (4 + qsk P (qkey P n)) (qown (qkey P n) (qmany M)) = M.1 (144 + r) := by unfold qsrc; rw [if_neg (by omega), p2]
          rw [es] at hc3
          obtain ⟨g1, g2, g3, -, -, -⟩ := show _ ∧ _ from hc3
          have hH : qIH P M (qkey P n) := hH
          unfold qIH qpre qpri at hH ⊢
          rw [qmany_eq h1, s1, s2, s3, s4, s5, s6, s7, s8, l28, l26, l24, ← p5, lko, p4, lki, ← p2]
          rw [← p5, p4, ← p2, hupc] at hH
          rw [p4] at s2
          -- the cut is made
          have hup1 : M.1 (144 + r) = 1 → (if M.1 (74 + qdest P r n) = 1 then [] else qf P (qkey P n) (qup (qmv P g r x n rest M) (qdest P r n))) = (if M.1 (74 + qdest P r n) = 1 then [] else qf P (qkey P n) (qup M (qdest P r n))) := by
            intro hc
            by_cases hf : M.1 (74 + qdest P r n) = 1
            · rw [if_pos hf, if_pos hf]
            · rw [if_neg hf, if_neg hf]
              have hb : M.2.2 (qdest P r n) ≠ -1 := g2.mpr ⟨hc, by
                rcases hO.2.2.1 (qdest P r n) p7 with q | q
                · exact q
                · exact absurd q hf⟩
              unfold qup
              rw [bo, qmv_Ld, if_neg hb, if_neg hb]
              rcases g1 with q | q
              · exact absurd q hb
              · rw [List.take_append_of_le_length (by omega)]
          rcases show _ ∨ _ from hf01 with hf | hf
          · rw [hf, if_neg (show ¬ (0 : Int) = 1 from by decide)] at hH ⊢
            rcases show _ ∨ _ from hcut01 with hc | hc
            · -- not cut
              have hf2 : ¬ M.1 (74 + qdest P r n) = 1 := fun q => by have := g3 q; omega
              have hb : M.2.2 (qdest P r n) = -1 := by
                apply Decidable.byContradiction
                intro q
                have := (g2.mp q).1
                omega
              have hup : qup (qmv P g r x n rest M) (qdest P r n) = qup M (qdest P r n) ++ [n] := by
                unfold qup
                rw [bo, qmv_Ld, if_pos hb, if_pos hb]
              obtain rfl : g = false := hg0 (Or.inr (Or.inl hc))
              rw [hc, hk0 hc, if_neg hf2, hup, qf_app, qf_pos rfl]
              rw [hc, hk0 hc, if_neg hf2, qf_cons, qf_pos rfl] at hH
              refine ⟨?_, fun q => absurd q (by decide), hH.2.2⟩
              have := hH.1
              simp only [qf_nil, List.append_nil, List.nil_append, List.append_assoc, Bool.false_eq_true, if_false] at this ⊢
              exact this
            · obtain rfl : g = true := hg1 hf hc
              rw [hup1 hc]
              refine ⟨?_, hH.2⟩
              have := hH.1
              rw [qf_cons, qf_pos rfl] at this
              simp only [if_true, qf_app, qf_pos, List.append_assoc] at this ⊢
              exact this
          · have hc := hcutf hf
            obtain rfl : g = false := hg0 (Or.inl hf)
            rw [hup1 hc]
            rw [hf, if_pos rfl] at hH ⊢
            simp only [Bool.false_eq_true, if_false, List.append_nil] at hH ⊢
            exact hH
        · -- a sink
          have l24 : (qmv P g r x n rest M).2.1 (24 + qsk P (qkey P n)) = M.2.1 (24 + qsk P (qkey P n)) ++ [n] := by rw [← p5]; exact qmv_Ld
          have lko : (qmv P g r x n rest M).2.1 (30 + (4 * r + x)) = M.2.1 (30 + (4 * r + x)) ++ if g then [n] else [] := qmv_Lk (by omega)
          have lki : (qmv P g r x n rest M).2.1 (30 + qci (qkey P n) (qmany M)) = M.2.1 (30 + qci (qkey P n) (qmany M)) := qmv_L (by omega) (by omega) (by omega)
          have ui : qup (qmv P g r x n rest M) (qci (qkey P n) (qmany M)) = qup M (qci (qkey P n) (qmany M)) := by
            unfold qup
            rw [qmv_B (by omega), qmv_L (by omega) (by omega) (by omega)]
          have e148 : 148 + qsk P (qkey P n) = 144 + r := by omega
          have hH : qIH P M (qkey P n) := hH
          unfold qIH qpre qpri at hH ⊢
          rw [qmany_eq h1, s1, s2, s3, s4, s5, s6, s7, s8, l28, l26, l24, p4, lko, lki, ui, e148]
          rw [p4, hupc, e148] at hH
          rcases show _ ∨ _ from hf01 with hf | hf
          · rw [hf, if_neg (show ¬ (0 : Int) = 1 from by decide)] at hH ⊢
            rw [qf_cons, qf_pos rfl] at hH
            rcases show _ ∨ _ from hcut01 with hc | hc
            · obtain rfl : g = false := hg0 (Or.inr (Or.inl hc))
              rw [hc, hk0 hc, if_neg (show ¬ (0 : Int) = 1 from by decide), qf_app, qf_pos rfl]
              rw [hc, hk0 hc, if_neg (show ¬ (0 : Int) = 1 from by decide)] at hH
              simp only [qf_nil, List.append_nil, List.nil_append, List.append_assoc, Bool.false_eq_true, if_false] at hH ⊢
              exact ⟨hH.1, hH.2.1, fun q => by cases q⟩
            · obtain rfl : g = true := hg1 hf hc
              rw [hc, if_pos rfl]
              rw [hc, if_pos rfl] at hH
              simp only [if_true, qf_app, qf_pos, List.append_nil, List.append_assoc] at hH ⊢
              exact ⟨hH.1, hH.2.1, fun q1 q2 => by rw [hH.2.2 q1 q2]⟩
          · have hc := hcutf hf
            obtain rfl : g = false := hg0 (Or.inl hf)
            rw [hf, hc, if_pos rfl]
            rw [hf, hc, if_pos rfl] at hH
            simp only [Bool.false_eq_true, if_false, List.append_nil] at hH ⊢
            exact ⟨hH.1, hH.2.1, fun _ q => by cases q⟩
      · have hfu : ∀ d, qf P k (qup (qmv P g r x n rest M) d) = qf P k (qup M d) := by
          intro d
          by_cases d2 : d = 4 * r + x
          · subst d2; rw [hupc, qf_cons, qf_neg hkn, List.nil_append]
          · by_cases d1 : d = qdest P r n
            · subst d1
              unfold qup
              rw [qmv_B d2, qmv_Ld]
              split
              · rw [qf_app, qf_neg hkn, List.append_nil]
              · exact qf_take hkn _
            · unfold qup
              rw [qmv_B d2]
              split
              · exact hfo k hkn d
              · by_cases d3 : d = 30 + (4 * r + x)
                · subst d3
                  rw [qmv_Lk (by omega)]
                  cases g
                  · simp only [Bool.false_eq_true, if_false, List.append_nil]
                  · simp only [if_true]; exact qf_take hkn _
                · rw [qmv_L d2 d3 d1]
        have hH : qIH P M k := hH
        unfold qIH qpre qpri at hH ⊢
        simp only [hfo k hkn, hfu]
        rw [qmany_eq h1, s1, s2, s3, s4, s5, s6, s7, s8]
        exact hH
  · intro t y ht hy h
    rw [qlc_eq h1] at h
    have hne : ¬ (4 * t + y = 4 * r + x) := by
      intro e
      have e1 : t = r := by omega
      have e2 : y = x := by omega
      subst e1 e2
      exact h hlc
    rw [qmv_B hne, qmv_S (by omega) (by omega) (by omega)]
    exact hX t y ht hy h
  · intro h
    rw [qmv_S (by omega) (by omega) (by omega)] at h
    refine ⟨fun i hi => ?_, fun d hd => ?_⟩
    · rw [qmv_S (by omega) (by omega) (by omega)]; exact (hC h).1 i hi
    · rw [qmv_L (by omega) (by omega) (by omega)]; exact (hC h).2 d hd
  · intro h
    rw [qmv_S (by omega) (by omega) (by omega)] at h ⊢
    exact hC2 h
