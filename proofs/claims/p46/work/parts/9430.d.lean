/-! What the law's methods do to the abstract heap. -/
def sL_isOnce_18b (x0 : Nat) (x1 : Nat) (x2 : Int32) (σ : zS) (u3 : Int32) : Option ((zS × Int32) ⊕ (zS ⊕ zS)) :=
  (zck 8 σ x0 (fX9_sink σ x0 x2 ((zi 2)))).bind fun c2 => (if c2.2 ≤ u3 then some (.inr (.inr c2.1)) else (zck 8 c2.1 x0 (fX9_shown c2.1 x0 x2 u3 ((zi 0)))).bind fun c3 => (zaI c3.1 x1 c3.2).bind fun v4 => (zsI c3.1 x1 c3.2 (v4 + ((zi 1)))).bind fun σ5 => (zck 8 σ5 x0 (fX9_shown σ5 x0 x2 u3 ((zi 1)))).bind fun c6 => (zaI c6.1 x1 c3.2).bind fun v7 => (zck 8 c6.1 x0 (fX9_expected c6.1 x0 c3.2 v7)).bind fun c8 => (if c6.2 = c8.2 then (zck 8 c8.1 x0 (fX9_count c8.1 x0 ((zi 2)))).bind fun c9 => (znz c9.2).bind fun d10 => (if ((c3.2 / ((zi 4))) - (c3.2 / ((zi 4))) / c9.2 * c9.2) = x2 then some (.inl (c9.1, u3 + (zi 1))) else some (.inr (.inl c9.1))) else some (.inr (.inl c8.1))))
def sL_isOnce_18 (x0 : Nat) (x1 : Nat) (x2 : Int32) (z : (zS × Int32)) : Option ((zS × Int32) ⊕ (zS ⊕ zS)) := sL_isOnce_18b x0 x1 x2 z.1 z.2
def sL_isOnce_7b (x0 : Nat) (x1 : Nat) (σ : zS) (u2 : Int32) : Option ((zS × Int32) ⊕ (zS ⊕ zS)) :=
  (zck 8 σ x0 (fX9_count σ x0 ((zi 2)))).bind fun c1 => (if c1.2 ≤ u2 then some (.inr (.inr c1.1)) else (zloop (sL_isOnce_18 x0 x1 u2) zfuel (c1.1, (zi 0))).bind fun o14 => (match o14 with | (.inl z15) => some (.inr (.inl z15)) | (.inr z16) => some (.inl (z16, u2 + (zi 1)))))
def sL_isOnce_7 (x0 : Nat) (x1 : Nat) (z : (zS × Int32)) : Option ((zS × Int32) ⊕ (zS ⊕ zS)) := sL_isOnce_7b x0 x1 z.1 z.2
def sL_isOnce_95b (x0 : Nat) (x1 : Nat) (σ : zS) (u2 : Int32) : Option ((zS × Int32) ⊕ (zS ⊕ zS)) :=
  (if ((zi 16)) ≤ u2 then some (.inr (.inr σ)) else (zaI σ x1 u2).bind fun v21 => (zck 8 σ x0 (fX9_shownOf σ x0 u2)).bind fun c22 => (if v21 = c22.2 then some (.inl (c22.1, u2 + (zi 1))) else some (.inr (.inl c22.1))))
def sL_isOnce_95 (x0 : Nat) (x1 : Nat) (z : (zS × Int32)) : Option ((zS × Int32) ⊕ (zS ⊕ zS)) := sL_isOnce_95b x0 x1 z.1 z.2
def jL_isOnce_5 (σ : zS) (x0 : Nat) (x1 : Nat)  : Option (zS × Int32) :=
  (zloop (sL_isOnce_7 x0 x1) zfuel (σ, (zi 0))).bind fun o18 => (match o18 with | (.inl z19) => zrZ z19 ((zi 0)) | (.inr z20) => (zloop (sL_isOnce_95 x0 x1) zfuel (z20, (zi 0))).bind fun o25 => (match o25 with | (.inl z26) => zrZ z26 ((zi 0)) | (.inr z27) => zrZ z27 ((zi 1))))
def fK0_coder_7d493 (σ : zS) (x0 : Nat) : Option (zS × Int32) :=
  (if 1 = ((zi 0)) then zrB σ ((zi 1)) else (zgI 9 1 σ x0).bind fun v1 => zrB σ v1)
def fK0_length_8abf5 (σ : zS) (x0 : Nat) : Option (zS × Int32) :=
  (zgR 9 0 σ x0).bind fun v1 => (zlen σ v1).bind fun v2 => (zck 9 σ x0 (fK0_coder_7d493 σ x0 )).bind fun c3 => some (c3.1, v2 >>> (c3.2 &&& 31))
def fK0_isLatin1_aae02 (σ : zS) (x0 : Nat) : Option (zS × Int32) :=
  (if 1 = ((zi 0)) then zrZ σ ((zi 0)) else (zgI 9 1 σ x0).bind fun v1 => (if v1 = ((zi 0)) then zrZ σ ((zi 1)) else zrZ σ ((zi 0))))
def fK1_charAt_3b067 (σ : zS) (x0 : Nat) (x1 : Int32) : Option (zS × Int32) :=
  (zlen σ x0).bind fun v1 => (fJ0_checkIndex_df160 σ x1 v1).bind fun c2 => (zaB c2 x0 x1).bind fun v3 => zrC c2 (((v3 &&& ((zi 255)) : Int32).toUInt32 % 65536).toInt32)
def fK0_charAt_5068e (σ : zS) (x0 : Nat) (x1 : Int32) : Option (zS × Int32) :=
  (zck 9 σ x0 (fK0_isLatin1_aae02 σ x0 )).bind fun c1 => (if c1.2 = ((zi 0)) then (zgR 9 0 c1.1 x0).bind fun v2 => none else (zgR 9 0 c1.1 x0).bind fun v3 => (fK1_charAt_3b067 c1.1 v3 x1).bind fun c4 => zrC c4.1 c4.2)
def jL_feed_55_L17 (σ : zS) (x0 : Nat) (x1 : Nat) (x2 : Int32) (x3 : Nat) (x4 : Int32) (y0 : Int32) (y1 : Int32) (y2 : Int32) (y3 : Nat) : Option ((zS × Int32) ⊕ zS) :=
  (zsI σ y3 y2 (y1 ||| (y0 <<< ((((zi 24)) - (((zi 8)) * (x4 - x4 / ((zi 4)) * ((zi 4))))) &&& 31)))).bind fun σ3 => some (.inl (σ3, x4 + (zi 1)))
def sL_feed_17b (x0 : Nat) (x1 : Nat) (x2 : Int32) (x3 : Nat) (σ : zS) (u4 : Int32) : Option ((zS × Int32) ⊕ zS) :=
  (if ((zi 20)) ≤ u4 then some (.inr σ) else (zaI σ x3 (u4 / ((zi 4)))).bind fun v1 => (zck 9 σ x1 (fK0_length_8abf5 σ x1 )).bind fun c2 => (if c2.2 ≤ (x2 + u4) then jL_feed_55_L17 c2.1 x0 x1 x2 x3 u4 ((zi 32)) v1 (u4 / ((zi 4))) x3 else (zck 9 c2.1 x1 (fK0_charAt_5068e c2.1 x1 (x2 + u4))).bind fun c4 => jL_feed_55_L17 c4.1 x0 x1 x2 x3 u4 c4.2 v1 (u4 / ((zi 4))) x3))
def sL_feed_17 (x0 : Nat) (x1 : Nat) (x2 : Int32) (x3 : Nat) (z : (zS × Int32)) : Option ((zS × Int32) ⊕ zS) := sL_feed_17b x0 x1 x2 x3 z.1 z.2
