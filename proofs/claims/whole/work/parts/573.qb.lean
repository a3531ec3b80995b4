/-! The reference's parser: words; a token. -/
def pws (n : Nat) : Nat := [0, 10, 16, 21, 27, 36, 43, 51, 56, 60].getD n 0
theorem pws_t : ∀ n, n < 9 → pws n + (zsByt.getD ((n + 4) % 9) []).length < 60 ∧ (zsByt.getD 9 []).getD (pws n + (zsByt.getD ((n + 4) % 9) []).length) 0 = zi 32 ∧ pws (n + 1) = pws n + (zsByt.getD ((n + 4) % 9) []).length + 1 ∧ (∀ j, j < (zsByt.getD ((n + 4) % 9) []).length → (zsByt.getD 9 []).getD (pws n + j) 0 = (zsByt.getD ((n + 4) % 9) []).getD j 0 ∧ (zsByt.getD ((n + 4) % 9) []).getD j 0 ≠ zi 32) := by decide
theorem pws_9 : (zsByt.getD 9 []).length = 60 := by decide
theorem pwi : ∀ i, i < 9 → ∀ j, j < 9 → zsByt.getD i [] = zsByt.getD j [] → i = j := by decide
def rwd (o : Option Nat) : Int := match o with | none => -1 | some w => ((w + 5) % 9 : Nat)
def rtk (tx : List Int32) (p : Nat) : Nat := if pK tx p = 2 ∧ ¬ pT tx p - pF tx p ≤ 3 then 4 else pK tx p
def RT (τ : zS) (m : Nat) (tx : List Int32) (p : Nat) : Prop := τ.2.1 m 17 = zi (pT tx p) ∧ τ.2.1 m 18 = zi (pF tx p) ∧ τ.2.1 m 19 = zi (rtk tx p) ∧ (pK tx p = 1 → τ.2.1 m 20 = zi (rwd (pW tx p))) ∧ (pK tx p = 2 → pT tx p - pF tx p ≤ 3 → τ.2.1 m 21 = zi (pnum tx (pF tx p) (pT tx p - pF tx p)))
theorem pwo_at {tx : List Int32} {f t w : Nat} (hw : w < 9) (h : ptx tx f t = zsByt.getD w []) : pwo tx f t = some w := by
  unfold pwo
  rw [List.find?_range_eq_some]
  refine ⟨decide_eq_true h, List.mem_range.2 hw, fun i hi => ?_⟩
  rw [decide_eq_false (fun q => by have := pwi i (by omega) w hw (q.symm.trans h); omega)]
  rfl
theorem pwo_no {tx : List Int32} {f t : Nat} (h : ∀ w, w < 9 → ptx tx f t ≠ zsByt.getD w []) : pwo tx f t = none := by
  unfold pwo
  rw [List.find?_range_eq_none]
  intro i hi
  rw [decide_eq_false (h i hi)]
  rfl
section QB
variable {σ τ υ : zS} {m p k : Nat} {tx : List Int32}
theorem rb_inner {n f t : Nat} (h : RSh τ m tx) (h17 : τ.2.1 m 17 = zi t) (h18 : τ.2.1 m 18 = zi f) (hn : n < 9) (hft : f ≤ t) (htl : t ≤ tx.length) : ∃ o, zloop (sX10_wordHere_16 m (zi n) (zi (pws n))) zfuel (τ, zi 0) = some o ∧ ∃ i : Nat, o = (τ, zi (i : Nat)) ∧ i ≤ (zsByt.getD ((n + 4) % 9) []).length ∧ i ≤ t - f ∧ (∀ j, j < i → (zsByt.getD ((n + 4) % 9) []).getD j 0 = tx.getD (f + j) 0) ∧ (i = (zsByt.getD ((n + 4) % 9) []).length ∨ i = t - f ∨ (i < (zsByt.getD ((n + 4) % 9) []).length ∧ i < t - f ∧ (zsByt.getD ((n + 4) % 9) []).getD i 0 ≠ tx.getD (f + i) 0)) := by
  have hl := rlen h
  obtain ⟨w1, w2, w3, w4⟩ := pws_t n hn
  have w9 := pws_9
  generalize hL : zsByt.getD ((n + 4) % 9) [] = L at *
  refine zloop_run L.length (fun i s => s = (τ, zi (i : Nat)) ∧ i ≤ t - f ∧ ∀ j, j < i → L.getD j 0 = tx.getD (f + j) 0) _ (fun i s hi hp => ?_) (fun s hp => ?_) (zfuel_lt (by omega)) ⟨rfl, by omega, fun j hj => absurd hj (by omega)⟩
  · obtain ⟨rfl, q1, q2⟩ := hp
    obtain ⟨c1, c2⟩ := w4 i hi
    unfold sX10_wordHere_16 sX10_wordHere_16b
    dsimp only
    rw [zi_add, ps_chr (σ := τ) (pws n + i) (by omega) (by omega) (by omega), Option.bind_some]
    dsimp only
    rw [c1, if_neg c2, rg_i h.1, Option.bind_some, rg_i h.1, Option.bind_some, h17, h18, zi_add]
    by_cases e : t ≤ f + i
    · rw [if_pos ((zi_le (by omega) (by omega) (by omega) (by omega)).2 (by omega))]
      exact Or.inr ⟨_, rfl, i, rfl, by omega, q1, q2, Or.inr (Or.inl (by omega))⟩
    · rw [if_neg (show ¬ zi (t : Int) ≤ zi ((f : Int) + i) by rw [zi_le (by omega) (by omega) (by omega) (by omega)]; omega), rg_buf h.1, Option.bind_some, Option.bind_some, zi_add, zaB_of (f + i) (rk_buf h.1) (by omega) (by omega) (by decide), Option.bind_some, h.2.1.2.2 (f + i) (by omega), ps_chr (σ := τ) (pws n + i) (by omega) (by omega) (by omega), Option.bind_some, c1]
      by_cases g : tx.getD (f + i) 0 = L.getD i 0
      · rw [if_pos g]
        refine Or.inl ⟨_, rfl, by rw [zi_add]; rfl, by omega, fun j hj => ?_⟩
        by_cases g2 : j = i
        · rw [g2]
          exact g.symm
        · exact q2 j (by omega)
      · rw [if_neg g]
        exact Or.inr ⟨_, rfl, i, rfl, by omega, q1, q2, Or.inr (Or.inr ⟨hi, by omega, fun q => g q.symm⟩)⟩
  · obtain ⟨rfl, q1, q2⟩ := hp
    refine ⟨_, ?_, L.length, rfl, Nat.le_refl _, q1, q2, Or.inl rfl⟩
    unfold sX10_wordHere_16 sX10_wordHere_16b
    dsimp only
    rw [zi_add, ps_chr (σ := τ) (pws n + L.length) (by omega) (by omega) (by omega), Option.bind_some]
    dsimp only
    rw [if_pos w2]
theorem rb_skip {n : Nat} (hn : n < 9) : ∃ o, zloop (sX10_wordHere_102 m (zi n)) zfuel (τ, zi (pws n)) = some o ∧ o = (τ, zi ((pws n + (zsByt.getD ((n + 4) % 9) []).length : Nat) : Int)) := by
  obtain ⟨w1, w2, w3, w4⟩ := pws_t n hn
  have w9 := pws_9
  generalize hL : zsByt.getD ((n + 4) % 9) [] = L at *
  refine zloop_run L.length (fun i s => s = (τ, zi ((pws n + i : Nat) : Int))) _ (fun i s hi hp => ?_) (fun s hp => ?_) (zfuel_lt (by omega)) rfl
  · subst hp
    obtain ⟨c1, c2⟩ := w4 i hi
    unfold sX10_wordHere_102 sX10_wordHere_102b
    dsimp only
    rw [ps_chr (σ := τ) (pws n + i) (by omega) (by omega) (by omega), Option.bind_some]
    dsimp only
    rw [c1, if_neg c2, zi_add]
    exact Or.inl ⟨_, rfl, rfl⟩
  · subst hp
    refine ⟨_, ?_, rfl⟩
    unfold sX10_wordHere_102 sX10_wordHere_102b
    dsimp only
    rw [ps_chr (σ := τ) (pws n + L.length) (by omega) (by omega) (by omega), Option.bind_some]
    dsimp only
    rw [if_pos w2]
theorem rb_word {f t : Nat} (h : RSh τ m tx) (h17 : τ.2.1 m 17 = zi t) (h18 : τ.2.1 m 18 = zi f) (hft : f ≤ t) (htl : t ≤ tx.length) : fX10_wordHere τ m = some (τ, zi (rwd (pwo tx f t))) := by
  have hl := rlen h
  have w9 := pws_9
  unfold fX10_wordHere
  obtain ⟨o, e1, e2⟩ := zloop_run (step := sX10_wordHere_4 m) (fuel := zfuel) 9 (fun n s => s = (τ, zi (n : Nat), zi (pws n)) ∧ ∀ j, j < n → ptx tx f t ≠ zsByt.getD ((j + 4) % 9) []) (fun o => (∃ n : Nat, o = .inl (τ, zi (n : Nat)) ∧ n < 9 ∧ ptx tx f t = zsByt.getD ((n + 4) % 9) []) ∨ o = .inr τ ∧ ∀ j, j < 9 → ptx tx f t ≠ zsByt.getD ((j + 4) % 9) []) (fun n s hn hp => by
    obtain ⟨rfl, q⟩ := hp
    obtain ⟨w1, w2, w3, w4⟩ := pws_t n hn
    obtain ⟨o, e1, i, rfl, i1, i2, i3, i4⟩ := rb_inner h h17 h18 hn hft htl
    obtain ⟨o2, e2, rfl⟩ := rb_skip (τ := τ) (m := m) hn
    unfold sX10_wordHere_4 sX10_wordHere_4b
    dsimp only
    rw [ps_len (σ := τ) (show 9 < 10 by omega), Option.bind_some, w9]
    dsimp only
    rw [if_neg (show ¬ zi ((60 : Nat) : Int) ≤ zi (pws n : Int) by rw [zi_le (by omega) (by omega) (by omega) (by omega)]; omega), e1, Option.bind_some]
    have jl : ptx tx f t ≠ zsByt.getD ((n + 4) % 9) [] → (∃ s2, jX10_wordHere_102_L4 τ m (zi n) (zi (pws n)) = some (.inl s2) ∧ s2 = (τ, zi ((n + 1 : Nat) : Int), zi (pws (n + 1))) ∧ ∀ j, j < n + 1 → ptx tx f t ≠ zsByt.getD ((j + 4) % 9) []) := fun hne => by
      unfold jX10_wordHere_102_L4
      rw [e2, Option.bind_some]
      refine ⟨_, rfl, by rw [zi_add, zi_add, w3]; rfl, fun j hj => ?_⟩
      by_cases g2 : j = n
      · rw [g2]
        exact hne
      · exact q j (by omega)
    unfold jX10_wordHere_73_L4
    dsimp only
    rw [zi_add, ps_chr (σ := τ) (pws n + i) (by omega) (by omega) (by omega), Option.bind_some]
    dsimp only
    generalize hL : zsByt.getD ((n + 4) % 9) [] = L at *
    by_cases iL : i = L.length
    · subst iL
      rw [if_pos w2, rg_i h.1, Option.bind_some, rg_i h.1, Option.bind_some, h17, h18, zi_add]
      by_cases it : L.length = t - f
      · rw [if_pos (show zi ((f : Int) + (L.length : Nat)) = zi (t : Int) by congr 1; omega)]
        refine Or.inr ⟨_, rfl, Or.inl ⟨n, rfl, hn, ?_⟩⟩
        rw [hL]
        exact gD_ext (by rw [ptx_len htl, it]) (fun j hj => by
          rw [ptx_len htl] at hj
          rw [ptx_at hj, i3 j (by omega)])
      · rw [if_neg (show ¬ zi ((f : Int) + (L.length : Nat)) = zi (t : Int) by rw [zi_eq (by omega) (by omega) (by omega) (by omega)]; omega)]
        exact Or.inl (jl (fun q2 => it (by rw [← q2, ptx_len htl])))
    · rw [(w4 i (by omega)).1, if_neg (w4 i (by omega)).2]
      refine Or.inl (jl (fun q2 => ?_))
      rcases i4 with g | g | g
      · exact iL g
      · exact iL (by rw [g, ← q2, ptx_len htl])
      · exact g.2.2 (by rw [← q2, ptx_at g.2.1])) (fun s hp => by
    obtain ⟨rfl, q⟩ := hp
    refine ⟨.inr τ, ?_, Or.inr ⟨rfl, q⟩⟩
    unfold sX10_wordHere_4 sX10_wordHere_4b
    dsimp only
    rw [ps_len (σ := τ) (show 9 < 10 by omega), Option.bind_some, w9]
    exact if_pos (show zi ((60 : Nat) : Int) ≤ zi (pws 9 : Int) by decide)) (by decide) (s := (τ, zi 0, zi 0)) ⟨rfl, fun j hj => absurd hj (by omega)⟩
  rw [e1]
  rcases e2 with ⟨n, rfl, hn, g⟩ | ⟨rfl, g⟩
  · rw [pwo_at (w := (n + 4) % 9) (by omega) g]
    unfold rwd
    dsimp only
    rw [show ((n + 4) % 9 + 5) % 9 = n by omega]
    rfl
  · rw [pwo_no (fun w hw q => g ((w + 5) % 9) (by omega) (by rw [show ((w + 5) % 9 + 4) % 9 = w by omega]; exact q))]
    rfl
theorem pT_1 (h : pK tx p = 1) (hp : p ≤ tx.length) : pT tx p = pru tx 1 (pF tx p) := by
  unfold pT pE
  have h2 : pk tx (pF tx p) = 1 := h
  rw [if_neg (by omega), if_pos (by omega), h2, ← pru_f h2 (ppk_in (by omega))]
theorem pT_2 (h : pK tx p = 2) (hp : p ≤ tx.length) : pT tx p = pru tx 2 (pF tx p) := by
  unfold pT pE
  have h2 : pk tx (pF tx p) = 2 := h
  rw [if_neg (by omega), if_pos (by omega), h2, ← pru_f h2 (ppk_in (by omega))]
theorem rb_next {p0 : Nat} (h : RSh τ m tx) (h17 : τ.2.1 m 17 = zi p0) (hp : p0 ≤ tx.length) : ∃ υ, fX10_next τ m = some υ ∧ rfT m τ υ ∧ RT υ m tx p0 := by
  have hl := rlen h
  obtain ⟨b1, b2, b3, -⟩ := pT_in hp
  have hf := pF_in hp
  obtain ⟨s, e1, q1, q17⟩ := ra_skip h h17 hp
  have h2 := RSh_T h q1
  have q2 : rfT m τ (zuI s m 18 (zi (pF tx p0))) := rfT_trans q1 (rfT_I (by omega) (by omega))
  have h3 := RSh_T h q2
  have r17 : (zuI s m 18 (zi (pF tx p0))).2.1 m 17 = zi (pF tx p0) := by rw [zuI_rd, if_neg (by omega), q17]
  have r18 : (zuI s m 18 (zi (pF tx p0))).2.1 m 18 = zi (pF tx p0) := by rw [zuI_rd, if_pos rfl]
  generalize hs3 : zuI s m 18 (zi (pF tx p0)) = s3 at *
  have hle := ppk_le (tx := tx) (p := pF tx p0)
  have hin := hc_in (k := pF tx p0) h.2.2
  unfold fX10_next
  simp only [e1, rg_i h2.1, q17, Option.bind_some, rp_i h2.1, hs3, rg_i h3.1, r17, r_here (pF tx p0) h3 rfl (by omega), rck9 h3, r_letter h3, r_digit h3]
  have hK : pK tx p0 = pk tx (pF tx p0) := rfl
  by_cases k0 : pK tx p0 = 0
  · rw [if_pos (show zi (hc tx (pF tx p0)) = zi (-1) by rw [(hc_end h.2.2).2 k0]), rp_i h3.1]
    refine ⟨_, rfl, rfT_trans q2 (rfT_I (by omega) (by omega)), ?_, ?_, ?_, fun q => absurd q (by omega), fun q => absurd q (by omega)⟩
    · rw [zuI_rd, if_neg (by omega), r17]
      unfold pT pE
      rw [if_pos (show pk tx (pF tx p0) = 0 from k0)]
    · rw [zuI_rd, if_neg (by omega), r18]
    · rw [zuI_rd, if_pos rfl]
      unfold rtk
      rw [if_neg (by omega), k0]
      rfl
  · have hlt := ppk_in k0
    rw [if_neg (show ¬ zi (hc tx (pF tx p0)) = zi (-1) by rw [zi_eq (by omega) (by omega) (by omega) (by omega), hc_end h.2.2]; exact k0)]
    by_cases k1 : pK tx p0 = 1
    · rw [decide_eq_true (show pk tx (pF tx p0) = 1 from k1), if_neg zt]
      obtain ⟨s4, e4, q4, w18, w17⟩ := ra_letters h3 r17 hf.2
      rw [← pT_1 k1 hp] at w17
      have h4 := RSh_T h3 q4
      have h5 : RSh (zuI s4 m 19 (zi 1)) m tx := RSh_T h4 (rfT_I (by omega) (by omega))
      rw [e4, Option.bind_some, rp_i h4.1, Option.bind_some, rck9 h5, rb_word (t := pT tx p0) (f := pF tx p0) h5 (by rw [zuI_rd, if_neg (by omega), w17]) (by rw [zuI_rd, if_neg (by omega), w18, r18]) b1 b2, Option.bind_some, rp_i h5.1]
      refine ⟨_, rfl, rfT_trans q2 (rfT_trans q4 (rfT_trans (rfT_I (by omega) (by omega)) (rfT_I (by omega) (by omega)))), ?_, ?_, ?_, fun _ => ?_, fun q => absurd q (by omega)⟩
      · rw [zuI_rd, if_neg (by omega), zuI_rd, if_neg (by omega), w17]
      · rw [zuI_rd, if_neg (by omega), zuI_rd, if_neg (by omega), w18, r18]
      · rw [zuI_rd, if_neg (by omega), zuI_rd, if_pos rfl]
        unfold rtk
        rw [if_neg (by omega), k1]
        rfl
      · rw [zuI_rd, if_pos rfl]
        unfold pW
        rw [if_pos k1]
    · rw [decide_eq_false (show ¬ pk tx (pF tx p0) = 1 from k1), if_pos zf]
      by_cases k2 : pK tx p0 = 2
      · rw [decide_eq_true (show pk tx (pF tx p0) = 2 from k2), if_neg zt, rp_i h3.1, Option.bind_some]
        have h4 : RSh (zuI s3 m 21 (zi 0)) m tx := RSh_T h3 (rfT_I (by omega) (by omega))
        obtain ⟨s4, e4, q4, w18, w17, w21⟩ := ra_digits (f := pF tx p0) h4 (by rw [zuI_rd, if_neg (by omega), r17]) (by rw [zuI_rd, if_neg (by omega), r18]) (by rw [zuI_rd, if_pos rfl]) hf.2
        rw [← pT_2 k2 hp] at w17 w21
        have h5 := RSh_T h4 q4
        have qq : rfT m τ s4 := rfT_trans q2 (rfT_trans (rfT_I (by omega) (by omega)) q4)
        rw [e4, Option.bind_some, rg_i h5.1, Option.bind_some, rg_i h5.1, Option.bind_some, w17, w18, zi_sub]
        unfold jX10_next_241
        by_cases k3 : pT tx p0 - pF tx p0 ≤ 3
        · rw [if_pos ((zi_le (by omega) (by omega) (by omega) (by omega)).2 (show (pT tx p0 : Int) - pF tx p0 ≤ 3 by omega)), rp_i h5.1]
          refine ⟨_, rfl, rfT_trans qq (rfT_I (by omega) (by omega)), by rw [zuI_rd, if_neg (by omega), w17], by rw [zuI_rd, if_neg (by omega), w18], ?_, fun q => absurd q (by omega), fun _ _ => ?_⟩
          · rw [zuI_rd, if_pos rfl]
            unfold rtk
            rw [if_neg (by omega), k2]
            rfl
          · rw [zuI_rd, if_neg (by omega), w21, show (if pT tx p0 - pF tx p0 < 3 then pT tx p0 - pF tx p0 else 3) = pT tx p0 - pF tx p0 by split <;> omega]
        · rw [if_neg (show ¬ zi ((pT tx p0 : Int) - pF tx p0) ≤ zi 3 by rw [zi_le (by omega) (by omega) (by omega) (by omega)]; omega), rp_i h5.1]
          refine ⟨_, rfl, rfT_trans qq (rfT_I (by omega) (by omega)), by rw [zuI_rd, if_neg (by omega), w17], by rw [zuI_rd, if_neg (by omega), w18], ?_, fun q => absurd q (by omega), fun _ q => absurd q k3⟩
          rw [zuI_rd, if_pos rfl]
          unfold rtk
          rw [if_pos ⟨k2, k3⟩]
          rfl
      · rw [decide_eq_false (show ¬ pk tx (pF tx p0) = 2 from k2), if_pos zf, rp_i h3.1, Option.bind_some, zi_add]
        have h4 : RSh (zuI s3 m 17 (zi ((pF tx p0 : Int) + 1))) m tx := RSh_T h3 (rfT_I (by omega) (by omega))
        have qq : rfT m τ (zuI s3 m 17 (zi ((pF tx p0 : Int) + 1))) := rfT_trans q2 (rfT_I (by omega) (by omega))
        have hT : pT tx p0 = pF tx p0 + 1 := by
          unfold pT pE
          rw [if_neg (by omega), if_neg (by omega)]
        have h59 : hc tx (pF tx p0) = 59 ↔ pK tx p0 = 3 := by
          rw [hc_32 h.2.2 (by omega) (by omega)]
          unfold pK pk pck at k1 k2 ⊢
          rw [if_pos hlt] at k1 k2 ⊢
          by_cases a : 97 ≤ pc tx (pF tx p0) ∧ pc tx (pF tx p0) ≤ 122
          · rw [if_pos a] at k1
            exact absurd rfl k1
          · rw [if_neg a] at k2 ⊢
            by_cases b : 48 ≤ pc tx (pF tx p0) ∧ pc tx (pF tx p0) ≤ 57
            · rw [if_pos b] at k2
              exact absurd rfl k2
            · rw [if_neg b]
              split <;> omega
        have fin : ∀ x : Int, x = rtk tx p0 → ∃ υ, (zpI 9 19 (zuI s3 m 17 (zi ((pF tx p0 : Int) + 1))) m (zi x)).bind (fun σ => some σ) = some υ ∧ rfT m τ υ ∧ RT υ m tx p0 := fun x hx => by
          rw [rp_i h4.1]
          refine ⟨_, rfl, rfT_trans qq (rfT_I (by omega) (by omega)), ?_, ?_, ?_, fun q => absurd q k1, fun q => absurd q k2⟩
          · rw [zuI_rd, if_neg (by omega), zuI_rd, if_pos rfl, hT]
            rfl
          · rw [zuI_rd, if_neg (by omega), zuI_rd, if_neg (by omega), r18]
          · rw [zuI_rd, if_pos rfl, hx]
        have hr : rtk tx p0 = pK tx p0 := by
          unfold rtk
          rw [if_neg (by omega)]
        by_cases k3 : pK tx p0 = 3
        · rw [if_pos (show zi (hc tx (pF tx p0)) = zi 59 by rw [h59.2 k3])]
          exact fin 3 (by omega)
        · rw [if_neg (show ¬ zi (hc tx (pF tx p0)) = zi 59 by rw [zi_eq (by omega) (by omega) (by omega) (by omega), h59]; exact k3)]
          exact fin 4 (by omega)
end QB
