/-! The words of a made text that are fed. -/
theorem zi_nI (n : Nat) : zi (n : Int) = nI n := by
  unfold zi nI
  rw [Int32.ofInt_eq_ofNat]
theorem fa_or (a b : Nat) : nI a ||| nI b = nI (a ||| b) := by
  apply Int32.toBitVec_inj.1
  show BitVec.ofNat 32 a ||| BitVec.ofNat 32 b = BitVec.ofNat 32 (a ||| b)
  apply BitVec.eq_of_getLsbD_eq
  intro i hi
  simp [hi]
theorem fa_or_sum {a k : Nat} (b : Nat) (h : a < 2 ^ k) : nI (2 ^ k * b) ||| nI a = nI (2 ^ k * b + a) := by rw [fa_or, Nat.two_pow_add_eq_or_of_lt h]
theorem b8_nI {V : Nat} (h : V % 256 < 128) : b8 (nI V) = nI (V % 256) := by
  unfold b8
  apply Int32.toInt_inj.1
  rw [Int8.toInt_toInt32, Int32.toInt_toInt8]
  have : (nI V).toInt = (V : Int).bmod (2 ^ 32) := by
    unfold nI
    rw [Int32.toInt_ofNat']
  rw [this, nI_toInt (n := V % 256) (by omega), Int.bmod_bmod_of_dvd (by decide)]
  have e8 : ((2 ^ 8 : Nat) : Int) = 256 := rfl
  unfold Int.bmod
  rw [e8]
  dsimp only
  rw [if_pos (by omega)]
  omega
theorem four_nI {a b c d : Nat} (ha : a < 128) (hb : b < 128) (hc : c < 128) (hd : d < 128) : fourb (nI (a * 2 ^ 24 + b * 2 ^ 16 + c * 2 ^ 8 + d)) = [nI a, nI b, nI c, nI d] := by
  unfold fourb
  have h31 : a * 2 ^ 24 + b * 2 ^ 16 + c * 2 ^ 8 + d < 2 ^ 31 := by omega
  rw [pk_shrN h31 24 24 (by decide), pk_shrN h31 16 16 (by decide), pk_shrN h31 8 8 (by decide), pk_shrN h31 0 0 (by decide)]
  rw [b8_nI (by omega), b8_nI (by omega), b8_nI (by omega), b8_nI (by omega)]
  rw [show (a * 2 ^ 24 + b * 2 ^ 16 + c * 2 ^ 8 + d) / 2 ^ 24 % 256 = a from by omega, show (a * 2 ^ 24 + b * 2 ^ 16 + c * 2 ^ 8 + d) / 2 ^ 16 % 256 = b from by omega, show (a * 2 ^ 24 + b * 2 ^ 16 + c * 2 ^ 8 + d) / 2 ^ 8 % 256 = c from by omega, show (a * 2 ^ 24 + b * 2 ^ 16 + c * 2 ^ 8 + d) / 2 ^ 0 % 256 = d from by omega]
/-- letters of a text, spaces behind it -/
def pad (tx : List Int32) (i : Nat) : Nat := if i < tx.length then (tx.getD i 0).toInt.toNat else 32
def T7 (tx : List Int32) : Prop := ∀ i, i < tx.length → ∃ n, n < 128 ∧ tx.getD i 0 = nI n
theorem pad_lt {tx : List Int32} (h : T7 tx) (i : Nat) : pad tx i < 128 := by
  unfold pad
  split
  · rename_i hi
    obtain ⟨n, h1, h2⟩ := h i hi
    rw [h2, nI_toInt (by omega)]
    exact h1
  · decide
theorem pad_in {tx : List Int32} (h : T7 tx) {i : Nat} (hi : i < tx.length) : nI (pad tx i) = tx.getD i 0 := by
  unfold pad
  rw [if_pos hi]
  obtain ⟨n, h1, h2⟩ := h i hi
  rw [h2, nI_toInt (by omega)]
  rfl
/-- word j behind k letters, the text being looked at from p on -/
def Wc (tx : List Int32) (p j k : Nat) : Nat := (if 4 * j < k then pad tx (p + 4 * j) * 2 ^ 24 else 0) + (if 4 * j + 1 < k then pad tx (p + (4 * j + 1)) * 2 ^ 16 else 0) + (if 4 * j + 2 < k then pad tx (p + (4 * j + 2)) * 2 ^ 8 else 0) + (if 4 * j + 3 < k then pad tx (p + (4 * j + 3)) else 0)
theorem Wc_oth {tx : List Int32} {p j k : Nat} (h : j ≠ k / 4) : Wc tx p j (k + 1) = Wc tx p j k := by
  unfold Wc
  rcases (show j < k / 4 ∨ k / 4 < j by omega) with q | q
  · rw [if_pos (show 4 * j < k + 1 by omega), if_pos (show 4 * j < k by omega), if_pos (show 4 * j + 1 < k + 1 by omega), if_pos (show 4 * j + 1 < k by omega), if_pos (show 4 * j + 2 < k + 1 by omega), if_pos (show 4 * j + 2 < k by omega), if_pos (show 4 * j + 3 < k + 1 by omega), if_pos (show 4 * j + 3 < k by omega)]
  · rw [if_neg (show ¬ 4 * j < k + 1 by omega), if_neg (show ¬ 4 * j < k by omega), if_neg (show ¬ 4 * j + 1 < k + 1 by omega), if_neg (show ¬ 4 * j + 1 < k by omega), if_neg (show ¬ 4 * j + 2 < k + 1 by omega), if_neg (show ¬ 4 * j + 2 < k by omega), if_neg (show ¬ 4 * j + 3 < k + 1 by omega), if_neg (show ¬ 4 * j + 3 < k by omega)]
theorem Wc_step {tx : List Int32} (hT : T7 tx) {p k : Nat} : nI (Wc tx p (k / 4) k) ||| (nI (pad tx (p + k)) <<< ((zi 24 - zi 8 * (zi ((k : Int) % 4))) &&& 31)) = nI (Wc tx p (k / 4) (k + 1)) := by
  have h0 := pad_lt hT (p + 4 * (k / 4))
  have h1 := pad_lt hT (p + (4 * (k / 4) + 1))
  have h2 := pad_lt hT (p + (4 * (k / 4) + 2))
  have h3 := pad_lt hT (p + (4 * (k / 4) + 3))
  unfold Wc
  rcases (show k % 4 = 0 ∨ k % 4 = 1 ∨ k % 4 = 2 ∨ k % 4 = 3 by omega) with q | q | q | q
  · rw [show (k : Int) % 4 = 0 from by omega, show p + k = p + 4 * (k / 4) from by omega]
    rw [if_neg (show ¬ 4 * (k / 4) < k by omega), if_neg (show ¬ 4 * (k / 4) + 1 < k by omega), if_neg (show ¬ 4 * (k / 4) + 2 < k by omega), if_neg (show ¬ 4 * (k / 4) + 3 < k by omega), if_pos (show 4 * (k / 4) < k + 1 by omega), if_neg (show ¬ 4 * (k / 4) + 1 < k + 1 by omega), if_neg (show ¬ 4 * (k / 4) + 2 < k + 1 by omega), if_neg (show ¬ 4 * (k / 4) + 3 < k + 1 by omega)]
    generalize pad tx (p + 4 * (k / 4)) = a at h0
    rw [show (zi 24 - zi 8 * zi 0) &&& 31 = 24 from by decide, pk_shlN 24 24 (by decide) (by omega)]
    have := fa_or_sum (k := 32) 0 (show a * 2 ^ 24 < 2 ^ 32 by omega)
    rw [Nat.mul_zero, Nat.zero_add] at this
    rw [show 0 + 0 + 0 + 0 = 0 from rfl, this]
    simp only [Nat.add_zero]
  · rw [show (k : Int) % 4 = 1 from by omega, show p + k = p + (4 * (k / 4) + 1) from by omega]
    rw [if_pos (show 4 * (k / 4) < k by omega), if_neg (show ¬ 4 * (k / 4) + 1 < k by omega), if_neg (show ¬ 4 * (k / 4) + 2 < k by omega), if_neg (show ¬ 4 * (k / 4) + 3 < k by omega), if_pos (show 4 * (k / 4) < k + 1 by omega), if_pos (show 4 * (k / 4) + 1 < k + 1 by omega), if_neg (show ¬ 4 * (k / 4) + 2 < k + 1 by omega), if_neg (show ¬ 4 * (k / 4) + 3 < k + 1 by omega)]
    generalize pad tx (p + 4 * (k / 4)) = a at h0
    generalize pad tx (p + (4 * (k / 4) + 1)) = b at h1
    rw [show (zi 24 - zi 8 * zi 1) &&& 31 = 16 from by decide, pk_shlN 16 16 (by decide) (by omega)]
    have := fa_or_sum (k := 24) a (show b * 2 ^ 16 < 2 ^ 24 by omega)
    rw [show a * 2 ^ 24 + 0 + 0 + 0 = 2 ^ 24 * a from by omega, this]
    congr 1
    omega
  · rw [show (k : Int) % 4 = 2 from by omega, show p + k = p + (4 * (k / 4) + 2) from by omega]
    rw [if_pos (show 4 * (k / 4) < k by omega), if_pos (show 4 * (k / 4) + 1 < k by omega), if_neg (show ¬ 4 * (k / 4) + 2 < k by omega), if_neg (show ¬ 4 * (k / 4) + 3 < k by omega), if_pos (show 4 * (k / 4) < k + 1 by omega), if_pos (show 4 * (k / 4) + 1 < k + 1 by omega), if_pos (show 4 * (k / 4) + 2 < k + 1 by omega), if_neg (show ¬ 4 * (k / 4) + 3 < k + 1 by omega)]
    generalize pad tx (p + 4 * (k / 4)) = a at h0
    generalize pad tx (p + (4 * (k / 4) + 1)) = b at h1
    generalize pad tx (p + (4 * (k / 4) + 2)) = c at h2
    rw [show (zi 24 - zi 8 * zi 2) &&& 31 = 8 from by decide, pk_shlN 8 8 (by decide) (by omega)]
    have := fa_or_sum (k := 16) (a * 256 + b) (show c * 2 ^ 8 < 2 ^ 16 by omega)
    rw [show a * 2 ^ 24 + b * 2 ^ 16 + 0 + 0 = 2 ^ 16 * (a * 256 + b) from by omega, this]
    congr 1
    omega
  · rw [show (k : Int) % 4 = 3 from by omega, show p + k = p + (4 * (k / 4) + 3) from by omega]
    rw [if_pos (show 4 * (k / 4) < k by omega), if_pos (show 4 * (k / 4) + 1 < k by omega), if_pos (show 4 * (k / 4) + 2 < k by omega), if_neg (show ¬ 4 * (k / 4) + 3 < k by omega), if_pos (show 4 * (k / 4) < k + 1 by omega), if_pos (show 4 * (k / 4) + 1 < k + 1 by omega), if_pos (show 4 * (k / 4) + 2 < k + 1 by omega), if_pos (show 4 * (k / 4) + 3 < k + 1 by omega)]
    generalize pad tx (p + 4 * (k / 4)) = a at h0
    generalize pad tx (p + (4 * (k / 4) + 1)) = b at h1
    generalize pad tx (p + (4 * (k / 4) + 2)) = c at h2
    generalize pad tx (p + (4 * (k / 4) + 3)) = d at h3
    rw [show (zi 24 - zi 8 * zi 3) &&& 31 = 0 from by decide, pk_shlN 0 0 (by decide) (by omega)]
    have := fa_or_sum (k := 8) (a * 65536 + b * 256 + c) (show d * 2 ^ 0 < 2 ^ 8 by omega)
    rw [show a * 2 ^ 24 + b * 2 ^ 16 + c * 2 ^ 8 + 0 = 2 ^ 8 * (a * 65536 + b * 256 + c) from by omega, this]
    congr 1
    omega
theorem Wc_20 {tx : List Int32} (hT : T7 tx) {p j : Nat} (hj : j < 5) : fourb (nI (Wc tx p j 20)) = [nI (pad tx (p + 4 * j)), nI (pad tx (p + (4 * j + 1))), nI (pad tx (p + (4 * j + 2))), nI (pad tx (p + (4 * j + 3)))] := by
  unfold Wc
  rw [if_pos (by omega), if_pos (by omega), if_pos (by omega), if_pos (by omega)]
  exact four_nI (pad_lt hT _) (pad_lt hT _) (pad_lt hT _) (pad_lt hT _)
/-- a made text at sa, its bytes at sd -/
def SA (σ : zS) (sa sd : Nat) (tx : List Int32) : Prop := (σ.1 sa).1 = 14 ∧ σ.2.2.1 sa 0 = some sd ∧ σ.2.1 sa 1 = 0 ∧ σ.1 sd = (2, tx.length) ∧ ∀ i, i < tx.length → σ.2.1 sd i = tx.getD i 0
section SAq
variable {σ : zS} {sa sd : Nat} {tx : List Int32}
theorem sa_len (h : SA σ sa sd tx) : zck 9 σ sa (fK0_length_8abf5 σ sa) = some (σ, zi (tx.length : Nat)) := by
  obtain ⟨h1, h2, h3, h4, h5⟩ := h
  have e1 : zck 9 σ sa (fK0_length_8abf5 σ sa) = fK0_length_8abf5 σ sa := if_pos h1
  have e2 : zgR 9 0 σ sa = some sd := by
    unfold zgR
    rw [if_pos h1, h2]
  have e3 : zlen σ sd = some (nI tx.length) := by
    unfold zlen
    rw [h4, if_neg (by dsimp only; omega)]
    rfl
  have e4 : zck 9 σ sa (fK0_coder_7d493 σ sa) = some (σ, 0) := by
    unfold fK0_coder_7d493
    rw [show zck 9 σ sa (if (1 : Int32) = zi 0 then zrB σ (zi 1) else (zgI 9 1 σ sa).bind fun v1 => zrB σ v1) = _ from if_pos h1, if_neg (by decide)]
    unfold zgI
    rw [if_pos h1, Option.bind_some, h3]
    rfl
  rw [e1]
  unfold fK0_length_8abf5
  rw [e2, Option.bind_some, e3, Option.bind_some, e4, Option.bind_some]
  dsimp only
  rw [zi_nI, show ((0 : Int32) &&& 31) = 0 from by decide]
  congr 2
  apply Int32.toBitVec_inj.1
  rw [Int32.toBitVec_shiftRight]
  simp
theorem ch_all : ∀ n : Fin 128, ((nI n &&& zi 255 : Int32).toUInt32 % 65536).toInt32 = nI n := by decide +kernel
theorem ch_all2 : ∀ n : Fin 128, ((nI n).toUInt32 % 65536).toInt32 = nI n := by decide +kernel
theorem sa_at (h : SA σ sa sd tx) (hT : T7 tx) {i : Nat} (hi : i < tx.length) (hl : tx.length < 1000) : zck 9 σ sa (fK0_charAt_5068e σ sa (zi (i : Nat))) = some (σ, nI (pad tx i)) := by
  obtain ⟨h1, h2, h3, h4, h5⟩ := h
  have hp := pad_lt hT i
  have e2 : zgR 9 0 σ sa = some sd := by
    unfold zgR
    rw [if_pos h1, h2]
  have e3 : zlen σ sd = some (nI tx.length) := by
    unfold zlen
    rw [h4, if_neg (by dsimp only; omega)]
    rfl
  have e4 : zck 9 σ sa (fK0_isLatin1_aae02 σ sa) = some (σ, zi 1) := by
    unfold fK0_isLatin1_aae02
    rw [show zck 9 σ sa (if (1 : Int32) = zi 0 then zrZ σ (zi 0) else (zgI 9 1 σ sa).bind fun v1 => if v1 = zi 0 then zrZ σ (zi 1) else zrZ σ (zi 0)) = _ from if_pos h1, if_neg (by decide)]
    unfold zgI
    rw [if_pos h1, Option.bind_some, h3, if_pos (show (0 : Int32) = zi 0 from rfl)]
    exact zrZ_1 _
  have e5 : fJ0_checkIndex_df160 σ (zi (i : Nat)) (nI tx.length) = some σ := by
    unfold fJ0_checkIndex_df160 fJ3_checkIndex_8e157
    rw [← zi_nI, if_neg (by rw [zi_lt (by omega) (by omega) (by omega) (by omega)]; omega), if_pos (by rw [zi_lt (by omega) (by omega) (by omega) (by omega)]; omega), Option.bind_some]
  have e6 : zaB σ sd (zi (i : Nat)) = some (nI (pad tx i)) := by
    unfold zaB
    rw [h4, if_pos rfl, zi_nat (by omega) (by omega), Int.toNat_natCast, if_neg (by
      intro q
      rcases q with q | q
      · rw [show (0 : Int32) = zi 0 from rfl, zi_lt (by omega) (by omega) (by omega) (by omega)] at q; omega
      · dsimp only at q; omega), h5 i hi, pad_in hT hi]
  have c1 := ch_all ⟨pad tx i, hp⟩
  have c2 := ch_all2 ⟨pad tx i, hp⟩
  have z1 : zrC σ (nI (pad tx i)) = some (σ, nI (pad tx i)) := if_pos c2
  rw [show zck 9 σ sa (fK0_charAt_5068e σ sa (zi (i : Nat))) = fK0_charAt_5068e σ sa (zi (i : Nat)) from if_pos h1]
  unfold fK0_charAt_5068e
  rw [e4, Option.bind_some]
  dsimp only
  rw [if_neg (by decide), e2, Option.bind_some]
  unfold fK1_charAt_3b067
  rw [e3, Option.bind_some, e5, Option.bind_some, e6, Option.bind_some, c1, z1, Option.bind_some]
  exact z1
theorem SA_eq {τ : zS} (h : SA σ sa sd tx) (e1 : zeq σ τ sa (sa + 1)) (e2 : zeq σ τ sd (sd + 1)) : SA τ sa sd tx := by
  obtain ⟨h1, h2, h3, h4, h5⟩ := h
  have a := e1 sa (by omega) (by omega)
  have b := e2 sd (by omega) (by omega)
  exact ⟨by rw [a.1]; exact h1, by rw [a.2.2.1]; exact h2, by rw [a.2.1]; exact h3, by rw [b.1]; exact h4, fun i hi => by rw [b.2.1]; exact h5 i hi⟩
/-- the inner loop fills the five words -/
theorem ev_words {X A p : Nat} (h : SA σ sa sd tx) (hT : T7 tx) (hl : tx.length < 1000) (hp : p < 1000) (hA1 : A ≠ sa) (hA2 : A ≠ sd) (hk : σ.1 A = (1, 5)) (h0 : ∀ j, j < 5 → σ.2.1 A j = 0) :
    ∃ x, zloop (sL_feed_17 X sa (zi (p : Nat)) A) zfuel (σ, zi 0) = some x ∧ ∃ g, x = rp σ A g ∧ ∀ j, j < 5 → g j = nI (Wc tx p j 20) := by
  have e0 : rp σ A (σ.2.1 A) = σ := rp_self
  have hS : ∀ g, SA (rp σ A g) sa sd tx := fun g => SA_eq h (rp_zeq (by omega)) (rp_zeq (by omega))
  refine zloop_run (step := sL_feed_17 X sa (zi (p : Nat)) A) 20 (fun k s => ∃ g, s = (rp σ A g, zi (k : Int)) ∧ ∀ j, j < 5 → g j = nI (Wc tx p j k)) (fun x => ∃ g, x = rp σ A g ∧ ∀ j, j < 5 → g j = nI (Wc tx p j 20)) ?_ ?_ (fuel := zfuel) (by have : zfuel = 1000000 := rfl; omega) ⟨σ.2.1 A, by rw [e0]; rfl, fun j hj => by
    rw [h0 j hj]
    unfold Wc
    rw [if_neg (by omega), if_neg (by omega), if_neg (by omega), if_neg (by omega)]
    rfl⟩
  · rintro k s hk20 ⟨g, rfl, hg⟩
    refine Or.inl ⟨(rp σ A (qu g (k / 4) (nI (Wc tx p (k / 4) (k + 1)))), zi ((k + 1 : Nat) : Int)), ?_, _, rfl, fun j hj => ?_⟩
    · unfold sL_feed_17 sL_feed_17b
      dsimp only
      have ed : zi (k : Int) / zi 4 = zi ((k / 4 : Nat) : Int) := by
        rw [zi_div (by omega) (by omega) (by omega) (by omega)]
        rfl
      have ez : zi (p : Nat) + zi (k : Int) = zi ((p + k : Nat) : Int) := by
        rw [zi_add]
        rfl
      rw [if_neg (zi_nle (by omega) (by omega) (by omega)), ed, zaI_of (k / 4) (show (rp σ A g).1 A = (1, 5) from hk) rfl (by omega) (by omega), Option.bind_some, rp_at, hg _ (by omega), sa_len (hS g), Option.bind_some]
      dsimp only
      have fin : jL_feed_55_L17 (rp σ A g) X sa (zi (p : Nat)) A (zi (k : Int)) (nI (pad tx (p + k))) (nI (Wc tx p (k / 4) k)) (zi ((k / 4 : Nat) : Int)) A = some (.inl (rp σ A (qu g (k / 4) (nI (Wc tx p (k / 4) (k + 1)))), zi ((k + 1 : Nat) : Int))) := by
        unfold jL_feed_55_L17
        rw [zi_mod (by omega) (by omega) (by omega) (by omega), Wc_step hT, zsI_of (k / 4) (show (rp σ A g).1 A = (1, 5) from hk) rfl (by omega) (by omega), Option.bind_some, rp_upd, zi_add]
        rfl
      rw [ez]
      by_cases e : p + k < tx.length
      · rw [if_neg (zi_nle (by omega) (by omega) (by omega)), sa_at (hS g) hT e hl, Option.bind_some]
        exact fin
      · rw [if_pos (zi_yle (by omega) (by omega) (by omega))]
        have : nI (pad tx (p + k)) = zi 32 := by
          unfold pad
          rw [if_neg e]
          rfl
        rw [this] at fin
        exact fin
    · by_cases e : j = k / 4
      · rw [e, qu_at]
      · rw [qu_ne e, hg j hj, Wc_oth e]
  · rintro s ⟨g, rfl, hg⟩
    refine ⟨_, ?_, g, rfl, hg⟩
    unfold sL_feed_17 sL_feed_17b
    dsimp only
    rw [if_pos (by decide)]
end SAq
/-- what is fed in j rounds -/
def fedT (tx : List Int32) (j : Nat) : List Int32 := (List.range (20 * j)).map (fun i => nI (pad tx i))
theorem fed_step {tx : List Int32} (hT : T7 tx) {j : Nat} (hj : 20 * (j + 1) ≤ 300) : aFeed (fedT tx j) (nI (Wc tx (20 * j) 0 20)) (nI (Wc tx (20 * j) 1 20)) (nI (Wc tx (20 * j) 2 20)) (nI (Wc tx (20 * j) 3 20)) (nI (Wc tx (20 * j) 4 20)) = fedT tx (j + 1) := by
  have hlen : (fedT tx j).length = 20 * j := by
    unfold fedT
    simp
  unfold aFeed
  rw [if_pos (by omega), Wc_20 hT (by omega), Wc_20 hT (by omega), Wc_20 hT (by omega), Wc_20 hT (by omega), Wc_20 hT (by omega)]
  unfold fedT
  rw [show 20 * (j + 1) = 20 * j + 20 from by omega, List.range_add, List.map_append]
  simp only [List.append_assoc]
  congr 1
theorem fed_all {tx : List Int32} (hT : T7 tx) {j : Nat} (h : tx.length ≤ 20 * j) : (fedT tx j).take tx.length = tx := by
  unfold fedT
  rw [← List.map_take, List.take_range, Nat.min_eq_left h]
  apply List.ext_getElem?
  intro i
  rw [List.getElem?_map]
  by_cases e : i < tx.length
  · rw [List.getElem?_range e, List.getElem?_eq_getElem e]
    show some (nI (pad tx i)) = _
    rw [pad_in hT e, List.getD_eq_getElem?_getD, List.getElem?_eq_getElem e]
    rfl
  · rw [List.getElem?_eq_none (by simp; omega), List.getElem?_eq_none (by omega)]
    rfl
