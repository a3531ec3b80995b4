/-! The class's parser: words and numbers. -/
theorem zrZ0 {σ : zS} : zrZ σ (zi 0) = some (σ, zi 0) := if_pos (by decide)
theorem zrZ1 {σ : zS} : zrZ σ (zi 1) = some (σ, zi 1) := if_pos (by decide)
theorem ps_byt : ∀ t, t < 19 → zsLen.getD t 0 = (zsByt.getD t []).length ∧ (zsByt.getD t []).length < 100 ∧ ∀ i, i < (zsByt.getD t []).length → ((((zsByt.getD t []).getD i 0 &&& ((zi 255)) : Int32).toUInt32 % 65536).toInt32 = (zsByt.getD t []).getD i 0 ∧ (((zsByt.getD t []).getD i 0).toUInt32 % 65536).toInt32 = (zsByt.getD t []).getD i 0) := by decide
theorem ps_l0 : ∀ t, t < 19 → Int32.ofNat (zsLen.getD t 0) >>> ((0 : Int32) &&& 31) = zi ((zsByt.getD t []).length : Nat) := by decide
theorem ps_len {σ : zS} {t : Nat} (ht : t < 19) : zsck t (fJ0_length_8abf5 σ t) = some (σ, zi (zsByt.getD t []).length) := by
  unfold zsck fJ0_length_8abf5 zstV zstL fJ0_coder_7d493 zsck zstC
  simp only [if_pos ht, Option.bind_some]
  rw [if_neg (show ¬ (1 : Int32) = zi 0 by decide), show zrB σ 0 = some (σ, 0) from if_pos (by decide), Option.bind_some, ps_l0 t ht]
theorem ps_chr {σ : zS} {t : Nat} {x : Int} (i : Nat) (ht : t < 19) (hx : x = i) (hi : i < (zsByt.getD t []).length) : zsck t (fJ0_charAt_5068e σ t (zi x)) = some (σ, (zsByt.getD t []).getD i 0) := by
  subst hx
  obtain ⟨e1, e2, e3⟩ := ps_byt t ht
  obtain ⟨e4, e5⟩ := e3 i hi
  unfold zsck fJ0_charAt_5068e fJ0_isLatin1_aae02 zsck zstC zstV fJ1_charAt_3b067 zstL zstA fJ0_checkIndex_df160 fJ3_checkIndex_8e157
  simp only [if_pos ht, Option.bind_some, zrZ1]
  rw [if_neg (show ¬ (1 : Int32) = zi 0 by decide), if_pos (show (0 : Int32) = zi 0 by decide), Option.bind_some, if_neg (show ¬ zi 1 = zi 0 by decide)]
  rw [e1, show Int32.ofNat (zsByt.getD t []).length = zi ((zsByt.getD t []).length : Nat) from rfl, if_neg (by rw [zi_lt (by omega) (by omega) (by omega) (by omega)]; omega), if_pos ((zi_lt (by omega) (by omega) (by omega) (by omega)).2 (by omega))]
  rw [Option.bind_some, Option.bind_some, zi_nat (by omega) (by omega), Int.toNat_natCast, if_neg (by
    rintro (q | q)
    · rw [show ((0 : Int32) = zi 0) from rfl, zi_lt (by omega) (by omega) (by omega) (by omega)] at q
      omega
    · omega), Option.bind_some]
  unfold zrC
  rw [e4, if_pos e5, Option.bind_some, if_pos e5]
theorem ptx_len {tx : List Int32} {f t : Nat} (h : t ≤ tx.length) : (ptx tx f t).length = t - f := by
  unfold ptx
  rw [List.length_take, List.length_drop]
  omega
theorem ptx_at {tx : List Int32} {f t i : Nat} (hi : i < t - f) : (ptx tx f t).getD i 0 = tx.getD (f + i) 0 := by
  unfold ptx
  rw [List.getD_eq_getElem?_getD, List.getElem?_take_of_lt hi, List.getElem?_drop, ← List.getD_eq_getElem?_getD]
theorem gD_ext {a b : List Int32} (hl : a.length = b.length) (h : ∀ i, i < a.length → a.getD i 0 = b.getD i 0) : a = b := by
  refine List.ext_getElem hl fun i h1 h2 => ?_
  have := h i h1
  rwa [List.getD_eq_getElem?_getD, List.getD_eq_getElem?_getD, List.getElem?_eq_getElem h1, List.getElem?_eq_getElem h2] at this
/-- what the parser alone changes, its error aside -/
def pfP (X : Nat) (σ τ : zS) : Prop := τ.1 = σ.1 ∧ τ.2.2 = σ.2.2 ∧ (∀ a, a ≠ X + 3 → τ.2.1 a = σ.2.1 a) ∧ ∀ j, j < 2 → τ.2.1 (X + 3) j = σ.2.1 (X + 3) j
def PBad (X u : Nat) (σ τ : zS) (e : Nat × Nat) : Prop := pfr X u σ τ ∧ τ.2.1 (X + 3) 0 = zi e.1 ∧ τ.2.1 (X + 3) 1 = zi e.2
section PW
variable {σ τ υ : zS} {X u p w c : Nat} {tx : List Int32}
theorem pfT_P (h : pfT X σ τ) : pfP X σ τ := ⟨h.1, h.2.1, h.2.2.1, fun j hj => h.2.2.2 j (by omega) (by omega) (by omega)⟩
theorem pfP_pfr (h : pfP X σ τ) : pfr X u σ τ := ⟨h.1, h.2.1, fun a a1 _ => h.2.2.1 a a1⟩
theorem pfP_trans (h : pfP X σ τ) (g : pfP X τ υ) : pfP X σ υ := ⟨g.1.trans h.1, g.2.1.trans h.2.1, fun a a1 => (g.2.2.1 a a1).trans (h.2.2.1 a a1), fun j j1 => (g.2.2.2 j j1).trans (h.2.2.2 j j1)⟩
theorem pfP_refl : pfP X σ σ := ⟨rfl, rfl, fun _ _ => rfl, fun _ _ => rfl⟩
theorem pfP_7 {v : Int32} : pfP X σ (zuI σ (X + 3) 7 v) := ⟨rfl, rfl, fun a a1 => zu_off _ _ _ a1, fun j hj => by rw [zuI_rd, if_neg (by omega)]⟩
theorem PBad_fr {e : Nat × Nat} (h : pfr X u σ τ) (g : PBad X u τ υ e) : PBad X u σ υ e := ⟨pfr_trans h g.1, g.2⟩
theorem pl_refuse (h : PSh τ X u tx) (h5 : τ.2.1 (X + 3) 5 = zi p) : ∃ υ, fX5_refuse τ (X + 3) (zi c) = some (υ, zi 0) ∧ PBad X u τ υ (c, p) := by
  refine ⟨zuI (zuI τ (X + 3) 0 (zi c)) (X + 3) 1 (zi p), ?_, pfr_trans pfr_3 pfr_3, ?_, ?_⟩
  · unfold fX5_refuse
    rw [pp_i h, Option.bind_some, pg_i (PSh_fr h pfr_3), Option.bind_some, zuI_rd, if_neg (by omega), h5, pp_i (PSh_fr h pfr_3), Option.bind_some, zrZ0]
  · rw [zuI_rd, if_neg (by omega), zuI_rd, if_pos rfl]
  · rw [zuI_rd, if_pos rfl]
theorem pl_token (h : PSh τ X u tx) (ht : PT τ X tx p) (hp : p ≤ tx.length) (hw : w < 9) : fX5_isToken τ (X + 3) w = some (τ, zb (decide (ptx tx (pF tx p) (pT tx p) = zsByt.getD w []))) := by
  have hl := plen h
  obtain ⟨b1, b2, b3, -⟩ := pT_in hp
  obtain ⟨-, b4, -⟩ := ps_byt w (by omega)
  unfold fX5_isToken
  simp only [ps_len (σ := τ) (show w < 19 by omega), pg_i h, ht.2.1, ht.2.2, Option.bind_some, zi_sub]
  by_cases e : (zsByt.getD w []).length = pT tx p - pF tx p
  · rw [if_pos (by congr 1; omega)]
    obtain ⟨o, e1, e2⟩ := zloop_run (step := sX5_isToken_20 (X + 3) w) (fuel := zfuel) (zsByt.getD w []).length (fun i s => s = (τ, zi (i : Nat)) ∧ ∀ j, j < i → (zsByt.getD w []).getD j 0 = tx.getD (pF tx p + j) 0) (fun o => (o = .inl τ ∧ ∃ j, j < (zsByt.getD w []).length ∧ (zsByt.getD w []).getD j 0 ≠ tx.getD (pF tx p + j) 0) ∨ o = .inr τ ∧ ∀ j, j < (zsByt.getD w []).length → (zsByt.getD w []).getD j 0 = tx.getD (pF tx p + j) 0) (fun i s hi hp2 => by
      obtain ⟨rfl, q⟩ := hp2
      unfold sX5_isToken_20 sX5_isToken_20b
      simp only [ps_len (σ := τ) (show w < 19 by omega), ps_chr (σ := τ) i (show w < 19 by omega) rfl hi, pg_i h, pg_t h, ht.2.1, Option.bind_some, zi_add]
      rw [if_neg (by rw [zi_le (by omega) (by omega) (by omega) (by omega)]; omega), px_byte (x := ((pF tx p : Nat) : Int) + (i : Nat)) (pF tx p + i) h (by omega) (by omega), pck2 h, Option.bind_some]
      by_cases g : (zsByt.getD w []).getD i 0 = tx.getD (pF tx p + i) 0
      · rw [if_pos g]
        refine Or.inl ⟨_, rfl, rfl, fun j hj => ?_⟩
        by_cases g2 : j = i
        · rw [g2]
          exact g
        · exact q j (by omega)
      · rw [if_neg g]
        exact Or.inr ⟨_, rfl, Or.inl ⟨rfl, i, hi, g⟩⟩) (fun s hp2 => by
      obtain ⟨rfl, q⟩ := hp2
      refine ⟨.inr τ, ?_, Or.inr ⟨rfl, q⟩⟩
      unfold sX5_isToken_20 sX5_isToken_20b
      rw [ps_len (σ := τ) (show w < 19 by omega), Option.bind_some]
      exact if_pos ((zi_le (by omega) (by omega) (by omega) (by omega)).2 (by omega))) (zfuel_lt (by omega)) (s := (τ, zi 0)) ⟨rfl, fun j hj => absurd hj (by omega)⟩
    rw [e1]
    rcases e2 with ⟨rfl, j, j1, j2⟩ | ⟨rfl, g⟩
    · rw [decide_eq_false (fun q => j2 (by rw [← q, ptx_at (by omega)]))]
      exact zrZ0
    · rw [decide_eq_true (gD_ext (by rw [ptx_len b2, e]) fun i hi => by
        rw [ptx_len b2] at hi
        rw [ptx_at hi, g i (by omega)])]
      exact zrZ1
  · rw [if_neg (by rw [zi_eq (by omega) (by omega) (by omega) (by omega)]; omega), decide_eq_false (fun q => e (by rw [← q, ptx_len b2]))]
    exact zrZ0
theorem pl_quoted (h : PSh τ X u tx) (ht : PT τ X tx p) (hp : p ≤ tx.length) : fX5_quotedWord τ (X + 3) = some (τ, pW tx p) := by
  have hk := ppk_le (tx := tx) (p := pF tx p)
  unfold fX5_quotedWord pW
  rw [pg_i h, Option.bind_some, ht.1]
  by_cases k1 : pK tx p = 1
  · rw [if_pos (by rw [k1]; rfl), if_pos k1]
    unfold zwN
    rw [Option.bind_some]
    obtain ⟨o, e1, e2⟩ := zloop_run (step := sX5_quotedWord_19 (X + 3) 9) (fuel := zfuel) 9 (fun i s => s = (τ, zi (i : Nat)) ∧ ∀ j, j < i → ptx tx (pF tx p) (pT tx p) ≠ zsByt.getD j []) (fun o => (∃ j, o = .inl (τ, j) ∧ j < 9 ∧ ptx tx (pF tx p) (pT tx p) = zsByt.getD j [] ∧ ∀ i, i < j → ptx tx (pF tx p) (pT tx p) ≠ zsByt.getD i []) ∨ o = .inr τ ∧ ∀ j, j < 9 → ptx tx (pF tx p) (pT tx p) ≠ zsByt.getD j []) (fun i s hi hp2 => by
      obtain ⟨rfl, q⟩ := hp2
      have a1 : zwA (zi (i : Nat)) = some i := by
        unfold zwA
        rw [zi_nat (by omega) (by omega), Int.toNat_natCast, if_neg]
        rintro (q | q)
        · rw [show ((0 : Int32) = zi 0) from rfl, zi_lt (by omega) (by omega) (by omega) (by omega)] at q
          omega
        · omega
      unfold sX5_quotedWord_19 sX5_quotedWord_19b
      dsimp only
      rw [if_neg (by rw [show ((9 : Int32) = zi 9) from rfl, zi_le (by omega) (by omega) (by omega) (by omega)]; omega), a1, Option.bind_some, show zwX i = some i from if_pos hi, Option.bind_some, pl_token h ht hp hi, pck5 h, Option.bind_some]
      by_cases g : ptx tx (pF tx p) (pT tx p) = zsByt.getD i []
      · rw [decide_eq_true g, if_neg zt]
        exact Or.inr ⟨_, rfl, Or.inl ⟨i, rfl, hi, g, q⟩⟩
      · rw [decide_eq_false g, if_pos zf]
        refine Or.inl ⟨_, rfl, by rw [zi_add]; rfl, fun j hj => ?_⟩
        by_cases g2 : j = i
        · rw [g2]
          exact g
        · exact q j (by omega)) (fun s hp2 => by
      obtain ⟨rfl, q⟩ := hp2
      refine ⟨.inr τ, ?_, Or.inr ⟨rfl, q⟩⟩
      unfold sX5_quotedWord_19 sX5_quotedWord_19b
      exact if_pos (show (9 : Int32) ≤ zi ((9 : Nat) : Int) by decide)) (by decide) (s := (τ, zi 0)) ⟨rfl, fun j hj => absurd hj (by omega)⟩
    rw [e1]
    rcases e2 with ⟨j, rfl, j1, j2, j3⟩ | ⟨rfl, g⟩
    · have : pwo tx (pF tx p) (pT tx p) = some j := by
        unfold pwo
        rw [List.find?_range_eq_some]
        refine ⟨decide_eq_true j2, List.mem_range.2 j1, fun i hi => ?_⟩
        rw [decide_eq_false (j3 i hi)]
        rfl
      rw [this]
      rfl
    · have : pwo tx (pF tx p) (pT tx p) = none := by
        unfold pwo
        rw [List.find?_range_eq_none]
        intro i hi
        rw [decide_eq_false (g i hi)]
        rfl
      rw [this]
      rfl
  · rw [if_neg (by rw [zi_eq (by unfold pK; omega) (by unfold pK; omega) (by omega) (by omega)]; omega), if_neg k1]
theorem pW_lt (h : pW tx p = some w) : w < 9 := by
  unfold pW at h
  split at h
  · unfold pwo at h
    rw [List.find?_range_eq_some] at h
    exact List.mem_range.1 h.2.1
  · cases h
theorem pl_word (h : PSh τ X u tx) (ht : PT τ X tx p) (hp : p ≤ tx.length) (hw : w < 9) : (∀ p2, pwd tx w p = .inr p2 → ∃ υ, fX5_readWord τ (X + 3) w = some (υ, zi 1) ∧ pfP X τ υ ∧ PT υ X tx p2) ∧ ∀ e, pwd tx w p = .inl e → ∃ υ, fX5_readWord τ (X + 3) w = some (υ, zi 0) ∧ PBad X u τ υ e := by
  obtain ⟨b1, b2, b3, -⟩ := pT_in hp
  obtain ⟨υ, r1, r2⟩ := pl_refuse (c := 1) h ht.2.1
  unfold fX5_readWord pwd
  rw [pl_quoted h ht hp, pck5 h, Option.bind_some]
  cases hW : pW tx p with
  | none =>
    rw [if_neg (by intro q; cases q)]
    refine ⟨fun p2 q => (by cases q), fun e q => ?_⟩
    cases q
    refine ⟨υ, ?_, r2⟩
    dsimp only
    rw [pck5 h, show fX5_refuse τ (X + 3) (zi 1) = some (υ, zi 0) from r1]
    exact zrZ0
  | some a =>
    have ha := pW_lt hW
    dsimp only
    rw [show zwE a w = some (if a = w then 1 else 0) from if_pos ⟨ha, hw⟩, Option.bind_some]
    by_cases g : a = w
    · subst g
      rw [if_pos rfl, if_pos rfl, if_pos rfl]
      refine ⟨fun p2 q => ?_, fun e q => (by cases q)⟩
      cases q
      obtain ⟨υ, w1, w2, w3⟩ := pl_adv (p0 := pT tx p) h ht.2.2 b2
      refine ⟨υ, ?_, pfT_P w2, w3⟩
      rw [pck5 h, w1]
      exact zrZ1
    · rw [if_neg g, if_neg (show ¬ (0 : Int32) = 1 by decide), if_neg (show ¬ some a = some w from fun q => g (Option.some.inj q))]
      refine ⟨fun p2 q => (by cases q), fun e q => ?_⟩
      cases q
      refine ⟨υ, ?_, r2⟩
      rw [pck5 h, show fX5_refuse τ (X + 3) (zi 1) = some (υ, zi 0) from r1]
      exact zrZ0
theorem pl_semi (h : PSh τ X u tx) (ht : PT τ X tx p) (hp : p ≤ tx.length) : (∀ p2, psm tx p = .inr p2 → ∃ υ, fX5_readSemicolon τ (X + 3) = some (υ, zi 1) ∧ pfP X τ υ ∧ PT υ X tx p2) ∧ ∀ e, psm tx p = .inl e → ∃ υ, fX5_readSemicolon τ (X + 3) = some (υ, zi 0) ∧ PBad X u τ υ e := by
  obtain ⟨b1, b2, b3, -⟩ := pT_in hp
  have hk := ppk_le (tx := tx) (p := pF tx p)
  unfold fX5_readSemicolon psm
  rw [pg_i h, Option.bind_some, ht.1]
  by_cases k3 : pK tx p = 3
  · rw [if_pos (show zi (pK tx p) = zi 3 by rw [k3]; rfl), if_pos k3]
    refine ⟨fun p2 q => ?_, fun e q => (by cases q)⟩
    cases q
    obtain ⟨υ, w1, w2, w3⟩ := pl_adv (p0 := pT tx p) h ht.2.2 b2
    refine ⟨υ, ?_, pfT_P w2, w3⟩
    rw [pck5 h, w1]
    exact zrZ1
  · rw [if_neg (show ¬ zi (pK tx p) = zi 3 by rw [zi_eq (by unfold pK; omega) (by unfold pK; omega) (by omega) (by omega)]; omega), if_neg k3]
    refine ⟨fun p2 q => (by cases q), fun e q => ?_⟩
    cases q
    obtain ⟨υ, r1, r2⟩ := pl_refuse (c := 1) h ht.2.1
    refine ⟨υ, ?_, r2⟩
    rw [pck5 h, show fX5_refuse τ (X + 3) (zi 1) = some (υ, zi 0) from r1]
    exact zrZ0
end PW
