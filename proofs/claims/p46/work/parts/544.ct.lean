/-! The class's texts: bytes told, cut, and what is read of them. -/
def b8 (v : Int32) : Int32 := v.toInt8.toInt32
theorem b8_b8 (v : Int32) : (b8 v).toInt8.toInt32 = b8 v := by
  unfold b8
  rw [Int8.toInt8_toInt32]
theorem b8_lo (v : Int32) : -128 ≤ (b8 v).toInt ∧ (b8 v).toInt ≤ 127 := by
  unfold b8
  rw [Int8.toInt_toInt32]
  have h1 := Int8.le_toInt v.toInt8
  have h2 := Int8.toInt_lt v.toInt8
  omega
def fourb (w : Int32) : List Int32 := [b8 (w >>> 24), b8 (w >>> 16), b8 (w >>> 8), b8 (w >>> 0)]
theorem sh_24 (w : Int32) : b8 ((w.toUInt32 >>> (((zi 24) : Int32).toUInt32 &&& Int32.toUInt32 31)).toInt32) = b8 (w >>> 24) := by
  have e : (((zi 24) : Int32).toUInt32 &&& Int32.toUInt32 31) = 24 := by decide
  rw [e]
  unfold b8
  refine congrArg Int8.toInt32 (Int8.toBitVec_inj.1 ?_)
  simp only [Int32.toBitVec_toInt8, UInt32.toBitVec_toInt32, UInt32.toBitVec_shiftRight, Int32.toBitVec_shiftRight, Int32.toBitVec_toUInt32]
  rw [BitVec.signExtend_eq_setWidth_of_le _ (by decide), BitVec.signExtend_eq_setWidth_of_le _ (by decide)]
  ext i hi
  rw [BitVec.getElem_setWidth, BitVec.getElem_setWidth]
  have : i = 0 ∨ i = 1 ∨ i = 2 ∨ i = 3 ∨ i = 4 ∨ i = 5 ∨ i = 6 ∨ i = 7 := by omega
  rcases this with rfl | rfl | rfl | rfl | rfl | rfl | rfl | rfl <;> simp [BitVec.getElem_sshiftRight]
theorem sh_16 (w : Int32) : b8 ((w.toUInt32 >>> (((zi 16) : Int32).toUInt32 &&& Int32.toUInt32 31)).toInt32) = b8 (w >>> 16) := by
  have e : (((zi 16) : Int32).toUInt32 &&& Int32.toUInt32 31) = 16 := by decide
  rw [e]
  unfold b8
  refine congrArg Int8.toInt32 (Int8.toBitVec_inj.1 ?_)
  simp only [Int32.toBitVec_toInt8, UInt32.toBitVec_toInt32, UInt32.toBitVec_shiftRight, Int32.toBitVec_shiftRight, Int32.toBitVec_toUInt32]
  rw [BitVec.signExtend_eq_setWidth_of_le _ (by decide), BitVec.signExtend_eq_setWidth_of_le _ (by decide)]
  ext i hi
  rw [BitVec.getElem_setWidth, BitVec.getElem_setWidth]
  have : i = 0 ∨ i = 1 ∨ i = 2 ∨ i = 3 ∨ i = 4 ∨ i = 5 ∨ i = 6 ∨ i = 7 := by omega
  rcases this with rfl | rfl | rfl | rfl | rfl | rfl | rfl | rfl <;> simp [BitVec.getElem_sshiftRight]
theorem sh_8 (w : Int32) : b8 ((w.toUInt32 >>> (((zi 8) : Int32).toUInt32 &&& Int32.toUInt32 31)).toInt32) = b8 (w >>> 8) := by
  have e : (((zi 8) : Int32).toUInt32 &&& Int32.toUInt32 31) = 8 := by decide
  rw [e]
  unfold b8
  refine congrArg Int8.toInt32 (Int8.toBitVec_inj.1 ?_)
  simp only [Int32.toBitVec_toInt8, UInt32.toBitVec_toInt32, UInt32.toBitVec_shiftRight, Int32.toBitVec_shiftRight, Int32.toBitVec_toUInt32]
  rw [BitVec.signExtend_eq_setWidth_of_le _ (by decide), BitVec.signExtend_eq_setWidth_of_le _ (by decide)]
  ext i hi
  rw [BitVec.getElem_setWidth, BitVec.getElem_setWidth]
  have : i = 0 ∨ i = 1 ∨ i = 2 ∨ i = 3 ∨ i = 4 ∨ i = 5 ∨ i = 6 ∨ i = 7 := by omega
  rcases this with rfl | rfl | rfl | rfl | rfl | rfl | rfl | rfl <;> simp [BitVec.getElem_sshiftRight]
theorem sh_0 (w : Int32) : w >>> 0 = w := by
  refine Int32.toBitVec_inj.1 ?_
  ext i hi
  simp
theorem zsB_of {σ : zS} {a len : Nat} {x : Int} {v : Int32} (i : Nat) (hk : σ.1 a = (2, len)) (hx : x = i) (hi : i < len) (h31 : len < 2147483648) : zsB σ a (zi x) v = some (zuI σ a i (b8 v)) := by
  subst hx
  unfold zsB b8
  rw [hk, if_pos rfl, if_neg, zi_nat (by omega) (by omega), Int.toNat_natCast]
  rw [zi_nat (by omega) (by omega), Int.toNat_natCast, show ((0 : Int32) = zi 0) from rfl, zi_lt (by omega) (by omega) (by omega) (by omega)]
  dsimp only
  omega
theorem zaB_of {σ : zS} {a len : Nat} {x : Int} (i : Nat) (hk : σ.1 a = (2, len)) (hx : x = i) (hi : i < len) (h31 : len < 2147483648) : zaB σ a (zi x) = some (σ.2.1 a i) := by
  subst hx
  unfold zaB
  rw [hk, if_pos rfl, if_neg, zi_nat (by omega) (by omega), Int.toNat_natCast]
  rw [zi_nat (by omega) (by omega), Int.toNat_natCast, show ((0 : Int32) = zi 0) from rfl, zi_lt (by omega) (by omega) (by omega) (by omega)]
  dsimp only
  omega
theorem gD_app {t u : List Int32} {i : Nat} (h : i < t.length) : (t ++ u).getD i 0 = t.getD i 0 := by
  rw [List.getD_eq_getElem?_getD, List.getD_eq_getElem?_getD, List.getElem?_append_left h]
theorem gD_end {t : List Int32} {v : Int32} : (t ++ [v]).getD t.length 0 = v := by
  rw [List.getD_eq_getElem?_getD, List.getElem?_append_right (Nat.le_refl _), Nat.sub_self]
  rfl
section CT
variable {σ τ : zS} {X w : Nat} {P : qP} {M : qM} {H : List qM} {S : Option qM} {nm : Nat → List Int32} {tx ou t o : List Int32} {er ea e2 a2 : Int}
theorem CI_io (h : CI σ X P nm M H S tx er ea ou) (e1 : τ.1 = σ.1) (e3 : τ.2.2 = σ.2.2) (e : ∀ a, (a < X + 1 ∨ X + 6 ≤ a) → τ.2.1 a = σ.2.1 a) (ht : τ.2.1 (X + 1) 1 = zi t.length ∧ t.length ≤ 300 ∧ ∀ i, i < t.length → τ.2.1 (X + 2) i = t.getD i 0) (hr : τ.2.1 (X + 3) 0 = zi e2 ∧ τ.2.1 (X + 3) 1 = zi a2) (ho : τ.2.1 (X + 4) 1 = zi o.length ∧ o.length ≤ 8000 ∧ ∀ i, i < o.length → τ.2.1 (X + 5) i = o.getD i 0) : CI τ X P nm M H S t e2 a2 o := by
  obtain ⟨v, q, G, ⟨a1, a2, a3, ⟨b1, b2, b3⟩, ⟨c1, c2⟩, a6, a7, a8, a9, a10⟩, hF, h0, hS, hH⟩ := h
  have z : ∀ lo hi, X + 6 ≤ lo → zeq σ τ lo hi := fun lo hi hl a h1 h2 => ⟨by rw [e1], e a (by omega), by rw [e3], by rw [e3]⟩
  have e2 : τ.2.2.1 = σ.2.2.1 := by rw [e3]
  refine ⟨v, q, G, ⟨csh_eq a1 e1 (fun j _ => by rw [e2]) (fun j a _ => by rw [e2]) (by rw [e2]), a2, by rw [e2]; exact a3, ⟨SU_eq b1 (z _ _ (by omega)), SN_eq b2 (z _ _ (by omega)), b3⟩, ⟨sush_eq c1 (z _ _ (by omega)), sush_eq c2 (z _ _ (by omega))⟩, by rw [e X (by omega)]; exact a6, by rw [e (X + 119) (by omega)]; exact a7, ht, hr, ho⟩, FW_eq hF (fun i hi => z _ _ (by have := fpl_in (X := X) hi; omega)), h0, hS, hH⟩
/-- what bytes told do to the class's text -/
def TA (σ τ : zS) (X : Nat) (t : List Int32) : Prop := τ.1 = σ.1 ∧ τ.2.2 = σ.2.2 ∧ (∀ a, a ≠ X + 1 → a ≠ X + 2 → τ.2.1 a = σ.2.1 a) ∧ τ.2.1 (X + 1) 1 = zi t.length ∧ t.length ≤ 300 ∧ ∀ i, i < t.length → τ.2.1 (X + 2) i = t.getD i 0
theorem ct_byte {v : Int32} (hs : csh σ X) (h : TA σ τ X t) (hl : t.length < 300) : ∃ υ, fX2_addByte τ (X + 1) v = some υ ∧ TA σ υ X (t ++ [b8 v]) := by
  obtain ⟨h1, h2, h3, h4, h5, h6⟩ := h
  obtain ⟨-, -, -, ⟨k1, k2, k3⟩, -⟩ := hs
  have g1 : zgI 2 1 τ (X + 1) = some (zi t.length) := by
    rw [show zgI 2 1 τ (X + 1) = some (τ.2.1 (X + 1) 1) from if_pos (by rw [h1]; exact k1), h4]
  have g2 : zgR 2 0 τ (X + 1) = some (X + 2) := by
    rw [show zgR 2 0 τ (X + 1) = τ.2.2.1 (X + 1) 0 from if_pos (by rw [h1]; exact k1), h2]
    exact k2
  have g3 : zlen τ (X + 2) = some (zi 300) := by
    unfold zlen
    rw [h1, k3, if_neg (by decide)]
    rfl
  have g4 : zsB τ (X + 2) (zi t.length) v.toInt8.toInt32 = some (zuI τ (X + 2) t.length (b8 v)) := by
    rw [zsB_of t.length (by rw [h1]; exact k3) rfl hl (by decide)]
    unfold b8
    rw [Int8.toInt8_toInt32]
  have g5 : zgI 2 1 (zuI τ (X + 2) t.length (b8 v)) (X + 1) = some (zi t.length) := by
    rw [show zgI 2 1 (zuI τ (X + 2) t.length (b8 v)) (X + 1) = some ((zuI τ (X + 2) t.length (b8 v)).2.1 (X + 1) 1) from if_pos (by rw [show (zuI τ (X + 2) t.length (b8 v)).1 = τ.1 from rfl, h1]; exact k1), show (zuI τ (X + 2) t.length (b8 v)).2.1 (X + 1) = τ.2.1 (X + 1) from zu_off _ _ _ (by omega), h4]
  refine ⟨zuI (zuI τ (X + 2) t.length (b8 v)) (X + 1) 1 (zi (t.length + 1)), ?_, h1, h2, fun a n1 n2 => ?_, ?_, ?_, fun i hi => ?_⟩
  · unfold fX2_addByte
    simp only [g1, g2, g3, g4, g5, Option.bind_some, zi_lt (show (-2147483648 : Int) ≤ t.length by omega) (show (t.length : Int) < 2147483648 by omega) (show (-2147483648 : Int) ≤ 0 by omega) (show (0 : Int) < 2147483648 by omega), zi_le (show (-2147483648 : Int) ≤ 300 by omega) (show (300 : Int) < 2147483648 by omega) (show (-2147483648 : Int) ≤ t.length by omega) (show (t.length : Int) < 2147483648 by omega)]
    rw [if_neg (by omega), if_neg (by omega), zi_add, show zpI 2 1 (zuI τ (X + 2) t.length (b8 v)) (X + 1) (zi (t.length + 1)) = some (zuI (zuI τ (X + 2) t.length (b8 v)) (X + 1) 1 (zi (t.length + 1))) from if_pos (by rw [show (zuI τ (X + 2) t.length (b8 v)).1 = τ.1 from rfl, h1]; exact k1)]
    rfl
  · rw [show (zuI (zuI τ (X + 2) t.length (b8 v)) (X + 1) 1 (zi (t.length + 1))).2.1 a = (zuI τ (X + 2) t.length (b8 v)).2.1 a from zu_off _ _ _ n1, show (zuI τ (X + 2) t.length (b8 v)).2.1 a = τ.2.1 a from zu_off _ _ _ n2]
    exact h3 a n1 n2
  · rw [zuI_rd, if_pos rfl, List.length_append, List.length_singleton, Int.natCast_add]
    rfl
  · rw [List.length_append, List.length_singleton]
    omega
  · rw [show (zuI (zuI τ (X + 2) t.length (b8 v)) (X + 1) 1 (zi (t.length + 1))).2.1 (X + 2) = (zuI τ (X + 2) t.length (b8 v)).2.1 (X + 2) from zu_off _ _ _ (by omega), zuI_rd]
    rw [List.length_append, List.length_singleton] at hi
    by_cases e : i = t.length
    · subst e
      rw [if_pos rfl, gD_end]
    · rw [if_neg e, gD_app (by omega)]
      exact h6 i (by omega)
theorem ct_four {v : Int32} (hs : csh σ X) (h : TA σ τ X t) (hl : t.length + 4 ≤ 300) : ∃ υ, fX2_addFourBytes τ (X + 1) v = some υ ∧ TA σ υ X (t ++ fourb v) := by
  have ck : ∀ (τ2 : zS) (t2 : List Int32) {o : Option zS}, TA σ τ2 X t2 → zck 2 τ2 (X + 1) o = o := fun τ2 t2 o h2 => if_pos (by rw [h2.1]; exact hs.2.2.2.1.1)
  obtain ⟨υ1, e1, h1⟩ := ct_byte (v := (v.toUInt32 >>> (((zi 24) : Int32).toUInt32 &&& Int32.toUInt32 31)).toInt32) hs h (by omega)
  obtain ⟨υ2, e2, h2⟩ := ct_byte (v := (v.toUInt32 >>> (((zi 16) : Int32).toUInt32 &&& Int32.toUInt32 31)).toInt32) hs h1 (by rw [List.length_append, List.length_singleton]; omega)
  obtain ⟨υ3, e3, h3⟩ := ct_byte (v := (v.toUInt32 >>> (((zi 8) : Int32).toUInt32 &&& Int32.toUInt32 31)).toInt32) hs h2 (by simp only [List.length_append, List.length_singleton]; omega)
  obtain ⟨υ4, e4, h4⟩ := ct_byte (v := v) hs h3 (by simp only [List.length_append, List.length_singleton]; omega)
  refine ⟨υ4, ?_, ?_⟩
  · unfold fX2_addFourBytes
    rw [ck _ _ h, e1, Option.bind_some, ck _ _ h1, e2, Option.bind_some, ck _ _ h2, e3, Option.bind_some, ck _ _ h3, e4]
    rfl
  · have : t ++ fourb v = t ++ [b8 ((v.toUInt32 >>> (((zi 24) : Int32).toUInt32 &&& Int32.toUInt32 31)).toInt32)] ++ [b8 ((v.toUInt32 >>> (((zi 16) : Int32).toUInt32 &&& Int32.toUInt32 31)).toInt32)] ++ [b8 ((v.toUInt32 >>> (((zi 8) : Int32).toUInt32 &&& Int32.toUInt32 31)).toInt32)] ++ [b8 v] := by
      rw [sh_24, sh_16, sh_8]
      unfold fourb
      rw [sh_0]
      simp only [List.append_assoc, List.singleton_append, List.cons_append, List.nil_append]
    rw [this]
    exact h4
/-- a text with five words more -/
def aFeed (t : List Int32) (a b c d e : Int32) : List Int32 := if t.length + 20 ≤ 300 then t ++ fourb a ++ fourb b ++ fourb c ++ fourb d ++ fourb e else t
def aFed (t : List Int32) : Int := if t.length + 20 ≤ 300 then t.length + 20 else -1
theorem ca_feed {a b c d e : Int32} (h : CI σ X P nm M H S tx er ea ou) : ∃ τ, fX9_feed σ X a b c d e = some (τ, zi (aFed tx)) ∧ CI τ X P nm M H S (aFeed tx a b c d e) er ea ou ∧ zfr X (X + 307) σ τ := by
  obtain ⟨v, q, G, hR, hF⟩ := id h
  have hs := hR.1
  have ht := hR.2.2.2.2.2.2.2.1
  have k1 := hs.2.2.2.1.1
  have g0 : zgI 2 1 σ (X + 1) = some (zi tx.length) := by
    rw [show zgI 2 1 σ (X + 1) = some (σ.2.1 (X + 1) 1) from if_pos k1, ht.1]
  have h0 : TA σ σ X tx := ⟨rfl, rfl, fun _ _ _ => rfl, ht⟩
  unfold fX9_feed aFeed aFed
  simp only [cx_in hs, g0, Option.bind_some, zi_add]
  by_cases hl : tx.length + 20 ≤ 300
  · rw [if_pos ((zi_le (by omega) (by omega) (by omega) (by omega)).2 (by omega)), if_pos hl, if_pos hl]
    have L : ∀ (t : List Int32) (w : Int32), (t ++ fourb w).length = t.length + 4 := fun t w => by rw [List.length_append]; rfl
    obtain ⟨υ1, e1, h1⟩ := ct_four (v := a) hs h0 (by omega)
    obtain ⟨υ2, e2, h2⟩ := ct_four (v := b) hs h1 (by simp only [L]; omega)
    obtain ⟨υ3, e3, h3⟩ := ct_four (v := c) hs h2 (by simp only [L]; omega)
    obtain ⟨υ4, e4, h4⟩ := ct_four (v := d) hs h3 (by simp only [L]; omega)
    obtain ⟨υ5, e5, h5⟩ := ct_four (v := e) hs h4 (by simp only [L]; omega)
    have ck : ∀ (τ2 : zS) (t2 : List Int32) {o : Option zS}, TA σ τ2 X t2 → zck 2 τ2 (X + 1) o = o := fun τ2 t2 o h2 => if_pos (by rw [h2.1]; exact hs.2.2.2.1.1)
    have ci : ∀ (τ2 : zS) (t2 : List Int32), TA σ τ2 X t2 → zgR 8 0 τ2 X = some (X + 1) := fun τ2 t2 h2 => by
      rw [show zgR 8 0 τ2 X = zgR 8 0 σ X from by unfold zgR; rw [h2.1, h2.2.1]]
      exact cx_in hs
    have g6 : zgI 2 1 υ5 (X + 1) = some (zi (tx.length + 20)) := by
      rw [show zgI 2 1 υ5 (X + 1) = some (υ5.2.1 (X + 1) 1) from if_pos (by rw [h5.1]; exact k1), h5.2.2.2.1]
      simp only [L]
      rfl
    simp only [ck _ _ h0, e1, Option.bind_some, ci _ _ h1, ck _ _ h1, e2, ci _ _ h2, ck _ _ h2, e3, ci _ _ h3, ck _ _ h3, e4, ci _ _ h4, ck _ _ h4, e5, ci _ _ h5, g6]
    refine ⟨υ5, rfl, CI_io h h5.1 h5.2.1 (fun c hc => h5.2.2.1 c (by omega) (by omega)) h5.2.2.2 ?_ ?_, h5.1, fun c hc => ⟨h5.2.2.1 c (by omega) (by omega), by rw [h5.2.1], by rw [h5.2.1]⟩⟩
    · rw [h5.2.2.1 (X + 3) (by omega) (by omega)]
      exact hR.2.2.2.2.2.2.2.2.1
    · rw [h5.2.2.1 (X + 4) (by omega) (by omega), h5.2.2.1 (X + 5) (by omega) (by omega)]
      exact hR.2.2.2.2.2.2.2.2.2
  · rw [if_neg (fun q => hl (by have := (zi_le (by omega) (by omega) (by omega) (by omega)).1 q; omega)), if_neg hl, if_neg hl]
    exact ⟨σ, rfl, h, zfr_refl _ _ _⟩
def aTrunc (t : List Int32) (n : Int) : Bool := decide (0 ≤ n ∧ n ≤ t.length)
def aTruncT (t : List Int32) (n : Int) : List Int32 := if 0 ≤ n ∧ n ≤ t.length then t.take n.toNat else t
theorem gD_take {t : List Int32} {i n : Nat} (h : i < n) : (t.take n).getD i 0 = t.getD i 0 := by
  rw [List.getD_eq_getElem?_getD, List.getD_eq_getElem?_getD, List.getElem?_take_of_lt h]
theorem ca_trunc {n : Int} (h : CI σ X P nm M H S tx er ea ou) (hn : zin n) : ∃ τ, fX9_truncate σ X (zi n) = some (τ, zb (aTrunc tx n)) ∧ CI τ X P nm M H S (aTruncT tx n) er ea ou ∧ zfr X (X + 307) σ τ := by
  obtain ⟨v, q, G, hR, hF⟩ := id h
  have hs := hR.1
  obtain ⟨t1, t2, t3⟩ := hR.2.2.2.2.2.2.2.1
  have k1 := hs.2.2.2.1.1
  have g0 : zgI 2 1 σ (X + 1) = some (zi tx.length) := by
    rw [show zgI 2 1 σ (X + 1) = some (σ.2.1 (X + 1) 1) from if_pos k1, t1]
  unfold fX9_truncate aTrunc aTruncT
  simp only [cx_in hs, g0, Option.bind_some, zi_lt hn.1 hn.2 (show (-2147483648 : Int) ≤ 0 by omega) (show (0 : Int) < 2147483648 by omega), zi_le hn.1 hn.2 (show (-2147483648 : Int) ≤ tx.length by omega) (show (tx.length : Int) < 2147483648 by omega)]
  by_cases h1 : n < 0
  · rw [if_pos h1, if_neg (by omega), decide_eq_false (by omega)]
    exact ⟨σ, rfl, h, zfr_refl _ _ _⟩
  · rw [if_neg h1]
    by_cases h2 : n ≤ tx.length
    · rw [if_pos h2, if_pos (by omega), decide_eq_true (by omega), show zpI 2 1 σ (X + 1) (zi n) = some (zuI σ (X + 1) 1 (zi n)) from if_pos k1]
      have hl : (tx.take n.toNat).length = n.toNat := by
        rw [List.length_take]
        omega
      refine ⟨zuI σ (X + 1) 1 (zi n), rfl, CI_io h rfl rfl (fun c hc => zu_off _ _ _ (by omega)) ⟨?_, by omega, fun i hi => ?_⟩ ?_ ?_, rfl, fun c hc => ⟨zu_off _ _ _ (by omega), rfl, rfl⟩⟩
      · rw [zuI_rd, if_pos rfl, hl]
        congr 1
        omega
      · rw [show (zuI σ (X + 1) 1 (zi n)).2.1 (X + 2) = σ.2.1 (X + 2) from zu_off _ _ _ (by omega), gD_take (by omega)]
        exact t3 i (by omega)
      · rw [show (zuI σ (X + 1) 1 (zi n)).2.1 (X + 3) = σ.2.1 (X + 3) from zu_off _ _ _ (by omega)]
        exact hR.2.2.2.2.2.2.2.2.1
      · rw [show (zuI σ (X + 1) 1 (zi n)).2.1 (X + 4) = σ.2.1 (X + 4) from zu_off _ _ _ (by omega), show (zuI σ (X + 1) 1 (zi n)).2.1 (X + 5) = σ.2.1 (X + 5) from zu_off _ _ _ (by omega)]
        exact hR.2.2.2.2.2.2.2.2.2
    · rw [if_neg h2, if_neg (by omega), decide_eq_false (by omega)]
      exact ⟨σ, rfl, h, zfr_refl _ _ _⟩
def aByte (o : List Int32) (i : Int) : Int32 := if 0 ≤ i ∧ i < o.length then o.getD i.toNat 0 else zi (-1)
end CT
