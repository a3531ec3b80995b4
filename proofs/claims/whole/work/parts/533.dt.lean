/-! What the methods that throw do to the abstract heap: f.. where they return, t.. which exception they throw (1 index, 2 argument, 3 state, 4 no such element). -/
def zn32 (x : UInt32) : Option UInt32 := if x &&& 0x7fffffff ≤ 0x7f800000 then some x else none
def zn64 (x : UInt64) : Option UInt64 := if x &&& 0x7fffffffffffffff ≤ 0x7ff0000000000000 then some x else none
theorem zn32_ok {x v : UInt32} (h : zn32 x = some v) : vf_n32 x ∧ x = v := by
  unfold zn32 at h
  split at h
  · rename_i q
    exact ⟨q, Option.some.inj h⟩
  · cases h
theorem zn64_ok {x v : UInt64} (h : zn64 x = some v) : vf_n64 x ∧ x = v := by
  unfold zn64 at h
  split at h
  · rename_i q
    exact ⟨q, Option.some.inj h⟩
  · cases h
def fX9_needSource (σ : zS) (x0 : Nat) (x1 : Int32) : Option zS :=
  (if x1 < ((zi 0)) then none else (zgR 8 8 σ x0).bind fun v1 => (zgI 7 0 σ v1).bind fun v2 => (if x1 < v2 then some σ else none))
def tX9_needSource (σ : zS) (x0 : Nat) (x1 : Int32) : Option Nat :=
  (if x1 < ((zi 0)) then some 1 else (zgR 8 8 σ x0).bind fun v1 => (zgI 7 0 σ v1).bind fun v2 => (if x1 < v2 then none else some 1))
def fX9_source (σ : zS) (x0 : Nat) (x1 : Int32) (x2 : Int32) : Option (zS × Int32) :=
  (zck 8 σ x0 (fX9_needSource σ x0 x1)).bind fun c1 => (if x2 = (zi 0) then (zgR 8 8 c1 x0).bind fun v3 => (zgR 7 2 c1 v3).bind fun v4 => (zaI c1 v4 x1).bind fun v5 => some (c1, v5) else (if x2 = (zi 1) then (zgR 8 8 c1 x0).bind fun v7 => (zgR 7 3 c1 v7).bind fun v8 => (zaI c1 v8 x1).bind fun v9 => some (c1, v9) else (if x2 = (zi 2) then (zgR 8 4 c1 x0).bind fun v11 => (zgR 1 9 c1 v11).bind fun v12 => (zaI c1 v12 x1).bind fun v13 => some (c1, v13) else (if x2 = (zi 3) then (zgR 8 4 c1 x0).bind fun v15 => (zgR 1 10 c1 v15).bind fun v16 => (zaI c1 v16 x1).bind fun v17 => some (c1, v17) else none))))
def tX9_source (σ : zS) (x0 : Nat) (x1 : Int32) (x2 : Int32) : Option Nat :=
  (match (tX9_needSource σ x0 x1) with | some k => some k | none => (zck 8 σ x0 (fX9_needSource σ x0 x1)).bind fun c1 => (if x2 = (zi 0) then (zgR 8 8 c1 x0).bind fun v3 => (zgR 7 2 c1 v3).bind fun v4 => (zaI c1 v4 x1).bind fun v5 => none else (if x2 = (zi 1) then (zgR 8 8 c1 x0).bind fun v7 => (zgR 7 3 c1 v7).bind fun v8 => (zaI c1 v8 x1).bind fun v9 => none else (if x2 = (zi 2) then (zgR 8 4 c1 x0).bind fun v11 => (zgR 1 9 c1 v11).bind fun v12 => (zaI c1 v12 x1).bind fun v13 => none else (if x2 = (zi 3) then (zgR 8 4 c1 x0).bind fun v15 => (zgR 1 10 c1 v15).bind fun v16 => (zaI c1 v16 x1).bind fun v17 => none else some 1)))))
def fX9_record (σ : zS) (x0 : Nat) (x1 : Int32) (x2 : Int32) (x3 : Int32) : Option (zS × Int32) :=
  (zck 8 σ x0 (fX9_needSource σ x0 x1)).bind fun c1 => (if x2 < ((zi 0)) then none else (zgR 8 8 c1 x0).bind fun v2 => (zgR 7 2 c1 v2).bind fun v3 => (zaI c1 v3 x1).bind fun v4 => (if v4 ≤ x2 then none else (if x3 < ((zi 0)) then none else (if x3 ≤ ((zi 1)) then (fX9_numberOf c1 x1 x2).bind fun c5 => (if x3 = ((zi 0)) then (zgR 8 8 c5.1 x0).bind fun v8 => (zck 7 c5.1 v8 (fX7_keyOf c5.1 v8 c5.2)).bind fun c9 => some (c9.1, c9.2) else (zgR 8 8 c5.1 x0).bind fun v6 => (zck 7 c5.1 v6 (fX7_valueOf c5.1 v6 c5.2)).bind fun c7 => some (c7.1, c7.2)) else none))))
def tX9_record (σ : zS) (x0 : Nat) (x1 : Int32) (x2 : Int32) (x3 : Int32) : Option Nat :=
  (match (tX9_needSource σ x0 x1) with | some k => some k | none => (zck 8 σ x0 (fX9_needSource σ x0 x1)).bind fun c1 => (if x2 < ((zi 0)) then some 1 else (zgR 8 8 c1 x0).bind fun v2 => (zgR 7 2 c1 v2).bind fun v3 => (zaI c1 v3 x1).bind fun v4 => (if v4 ≤ x2 then some 1 else (if x3 < ((zi 0)) then some 1 else (if x3 ≤ ((zi 1)) then (fX9_numberOf c1 x1 x2).bind fun c5 => (if x3 = ((zi 0)) then (zgR 8 8 c5.1 x0).bind fun v8 => (zck 7 c5.1 v8 (fX7_keyOf c5.1 v8 c5.2)).bind fun c9 => none else (zgR 8 8 c5.1 x0).bind fun v6 => (zck 7 c5.1 v6 (fX7_valueOf c5.1 v6 c5.2)).bind fun c7 => none) else some 1)))))
def fX9_needKey (σ : zS) (x0 : Int32) : Option zS :=
  (if x0 < ((zi 0)) then none else (if x0 < ((zi 16)) then some σ else none))
def tX9_needKey (σ : zS) (x0 : Int32) : Option Nat :=
  (if x0 < ((zi 0)) then some 2 else (if x0 < ((zi 16)) then none else some 2))
def fX9_owner (σ : zS) (x0 : Nat) (x1 : Int32) : Option (zS × Int32) :=
  (fX9_needKey σ x1).bind fun c1 => (zgR 8 4 c1 x0).bind fun v2 => (zgI 1 0 c1 v2).bind fun v3 => (fX9_ownerOf c1 x1 v3).bind fun c4 => some (c4.1, c4.2)
def tX9_owner (σ : zS) (x0 : Nat) (x1 : Int32) : Option Nat :=
  (match (tX9_needKey σ x1) with | some k => some k | none => (fX9_needKey σ x1).bind fun c1 => (zgR 8 4 c1 x0).bind fun v2 => (zgI 1 0 c1 v2).bind fun v3 => (fX9_ownerOf c1 x1 v3).bind fun c4 => none)
def fX9_sum (σ : zS) (x0 : Nat) (x1 : Int32) : Option (zS × Int32) :=
  (fX9_needKey σ x1).bind fun c1 => (zgR 8 4 c1 x0).bind fun v2 => (zgR 1 11 c1 v2).bind fun v3 => (zaI c1 v3 x1).bind fun v4 => some (c1, v4)
def tX9_sum (σ : zS) (x0 : Nat) (x1 : Int32) : Option Nat :=
  (match (tX9_needKey σ x1) with | some k => some k | none => (fX9_needKey σ x1).bind fun c1 => (zgR 8 4 c1 x0).bind fun v2 => (zgR 1 11 c1 v2).bind fun v3 => (zaI c1 v3 x1).bind fun v4 => none)
def fX9_needInstance (σ : zS) (x0 : Nat) (x1 : Int32) : Option zS :=
  (if x1 < ((zi 0)) then none else (zgR 8 4 σ x0).bind fun v1 => (zgI 1 0 σ v1).bind fun v2 => (if x1 < v2 then some σ else none))
def tX9_needInstance (σ : zS) (x0 : Nat) (x1 : Int32) : Option Nat :=
  (if x1 < ((zi 0)) then some 1 else (zgR 8 4 σ x0).bind fun v1 => (zgI 1 0 σ v1).bind fun v2 => (if x1 < v2 then none else some 1))
def fX9_instance (σ : zS) (x0 : Nat) (x1 : Int32) (x2 : Int32) : Option (zS × Int32) :=
  (zck 8 σ x0 (fX9_needInstance σ x0 x1)).bind fun c1 => (if x2 = (zi 0) then (zgR 8 4 c1 x0).bind fun v3 => (zgI 1 0 c1 v3).bind fun v4 => (fX9_groupsOf c1 x1 v4).bind fun c5 => some (c5.1, c5.2) else (if x2 = (zi 1) then (zgR 8 4 c1 x0).bind fun v7 => (zgR 1 12 c1 v7).bind fun v8 => (zaI c1 v8 x1).bind fun v9 => some (c1, v9) else (if x2 = (zi 2) then (zgR 8 4 c1 x0).bind fun v11 => (zgR 1 13 c1 v11).bind fun v12 => (zaI c1 v12 x1).bind fun v13 => some (c1, v13) else (if x2 = (zi 3) then (zgR 8 4 c1 x0).bind fun v15 => (zck 1 c1 v15 (fX1_recordsTo c1 v15 x1)).bind fun c16 => some (c16.1, c16.2) else (if x2 = (zi 4) then (zgR 8 4 c1 x0).bind fun v18 => (zck 1 c1 v18 (fX1_resultsFrom c1 v18 x1)).bind fun c19 => some (c19.1, c19.2) else none)))))
def tX9_instance (σ : zS) (x0 : Nat) (x1 : Int32) (x2 : Int32) : Option Nat :=
  (match (tX9_needInstance σ x0 x1) with | some k => some k | none => (zck 8 σ x0 (fX9_needInstance σ x0 x1)).bind fun c1 => (if x2 = (zi 0) then (zgR 8 4 c1 x0).bind fun v3 => (zgI 1 0 c1 v3).bind fun v4 => (fX9_groupsOf c1 x1 v4).bind fun c5 => none else (if x2 = (zi 1) then (zgR 8 4 c1 x0).bind fun v7 => (zgR 1 12 c1 v7).bind fun v8 => (zaI c1 v8 x1).bind fun v9 => none else (if x2 = (zi 2) then (zgR 8 4 c1 x0).bind fun v11 => (zgR 1 13 c1 v11).bind fun v12 => (zaI c1 v12 x1).bind fun v13 => none else (if x2 = (zi 3) then (zgR 8 4 c1 x0).bind fun v15 => (zck 1 c1 v15 (fX1_recordsTo c1 v15 x1)).bind fun c16 => none else (if x2 = (zi 4) then (zgR 8 4 c1 x0).bind fun v18 => (zck 1 c1 v18 (fX1_resultsFrom c1 v18 x1)).bind fun c19 => none else some 1))))))
def fX9_needSink (σ : zS) (x0 : Nat) (x1 : Int32) : Option zS :=
  (if x1 < ((zi 0)) then none else (zgR 8 8 σ x0).bind fun v1 => (zgI 7 1 σ v1).bind fun v2 => (if x1 < v2 then some σ else none))
def tX9_needSink (σ : zS) (x0 : Nat) (x1 : Int32) : Option Nat :=
  (if x1 < ((zi 0)) then some 1 else (zgR 8 8 σ x0).bind fun v1 => (zgI 7 1 σ v1).bind fun v2 => (if x1 < v2 then none else some 1))
def fX9_sink (σ : zS) (x0 : Nat) (x1 : Int32) (x2 : Int32) : Option (zS × Int32) :=
  (zck 8 σ x0 (fX9_needSink σ x0 x1)).bind fun c1 => (if x2 = (zi 0) then (zgR 8 4 c1 x0).bind fun v3 => (zgR 1 14 c1 v3).bind fun v4 => (zck 3 c1 v4 (fX3_sizeOf c1 v4 (((zi 24)) + x1))).bind fun c5 => some (c5.1, c5.2) else (if x2 = (zi 1) then (zgR 8 4 c1 x0).bind fun v7 => (zgR 1 14 c1 v7).bind fun v8 => (zck 3 c1 v8 (fX3_sizeOf c1 v8 (((zi 26)) + x1))).bind fun c9 => some (c9.1, c9.2) else (if x2 = (zi 2) then (zgR 8 4 c1 x0).bind fun v11 => (zgR 1 14 c1 v11).bind fun v12 => (zck 3 c1 v12 (fX3_sizeOf c1 v12 (((zi 28)) + x1))).bind fun c13 => some (c13.1, c13.2) else (if x2 = (zi 3) then (zgR 8 4 c1 x0).bind fun v15 => (zgR 1 13 c1 v15).bind fun v16 => (zaI c1 v16 (((zi 4)) + x1)).bind fun v17 => some (c1, v17) else none))))
def tX9_sink (σ : zS) (x0 : Nat) (x1 : Int32) (x2 : Int32) : Option Nat :=
  (match (tX9_needSink σ x0 x1) with | some k => some k | none => (zck 8 σ x0 (fX9_needSink σ x0 x1)).bind fun c1 => (if x2 = (zi 0) then (zgR 8 4 c1 x0).bind fun v3 => (zgR 1 14 c1 v3).bind fun v4 => (zck 3 c1 v4 (fX3_sizeOf c1 v4 (((zi 24)) + x1))).bind fun c5 => none else (if x2 = (zi 1) then (zgR 8 4 c1 x0).bind fun v7 => (zgR 1 14 c1 v7).bind fun v8 => (zck 3 c1 v8 (fX3_sizeOf c1 v8 (((zi 26)) + x1))).bind fun c9 => none else (if x2 = (zi 2) then (zgR 8 4 c1 x0).bind fun v11 => (zgR 1 14 c1 v11).bind fun v12 => (zck 3 c1 v12 (fX3_sizeOf c1 v12 (((zi 28)) + x1))).bind fun c13 => none else (if x2 = (zi 3) then (zgR 8 4 c1 x0).bind fun v15 => (zgR 1 13 c1 v15).bind fun v16 => (zaI c1 v16 (((zi 4)) + x1)).bind fun v17 => none else some 1)))))
def fX9_shown (σ : zS) (x0 : Nat) (x1 : Int32) (x2 : Int32) (x3 : Int32) : Option (zS × Int32) :=
  (zck 8 σ x0 (fX9_needSink σ x0 x1)).bind fun c1 => (if x3 < ((zi 0)) then none else (if x3 ≤ ((zi 1)) then (zgR 8 4 c1 x0).bind fun v2 => (zgR 1 14 c1 v2).bind fun v3 => (zck 3 c1 v3 (fX3_at c1 v3 (((zi 28)) + x1) x2)).bind fun c4 => (if c4.2 = ((zi (-1))) then none else (if x3 = ((zi 0)) then (zgR 8 8 c4.1 x0).bind fun v7 => (zck 7 c4.1 v7 (fX7_keyOf c4.1 v7 c4.2)).bind fun c8 => some (c8.1, c8.2) else (zgR 8 8 c4.1 x0).bind fun v5 => (zck 7 c4.1 v5 (fX7_resultOf c4.1 v5 c4.2)).bind fun c6 => some (c6.1, c6.2))) else none))
def tX9_shown (σ : zS) (x0 : Nat) (x1 : Int32) (x2 : Int32) (x3 : Int32) : Option Nat :=
  (match (tX9_needSink σ x0 x1) with | some k => some k | none => (zck 8 σ x0 (fX9_needSink σ x0 x1)).bind fun c1 => (if x3 < ((zi 0)) then some 1 else (if x3 ≤ ((zi 1)) then (zgR 8 4 c1 x0).bind fun v2 => (zgR 1 14 c1 v2).bind fun v3 => (zck 3 c1 v3 (fX3_at c1 v3 (((zi 28)) + x1) x2)).bind fun c4 => (if c4.2 = ((zi (-1))) then some 4 else (if x3 = ((zi 0)) then (zgR 8 8 c4.1 x0).bind fun v7 => (zck 7 c4.1 v7 (fX7_keyOf c4.1 v7 c4.2)).bind fun c8 => none else (zgR 8 8 c4.1 x0).bind fun v5 => (zck 7 c4.1 v5 (fX7_resultOf c4.1 v5 c4.2)).bind fun c6 => none)) else some 1)))
def fX9_inChannel (σ : zS) (x0 : Nat) (x1 : Int32) (x2 : Int32) (x3 : Int32) : Option (zS × Int32) :=
  (zck 8 σ x0 (fX9_needSource σ x0 x1)).bind fun c1 => (zck 8 c1 x0 (fX9_needInstance c1 x0 x2)).bind fun c2 => (zgR 8 4 c2 x0).bind fun v3 => (fX9_channel c2 x2 x1).bind fun c4 => (zck 1 c4.1 v3 (fX1_thingsIn c4.1 v3 c4.2 x3)).bind fun c5 => some (c5.1, c5.2)
def tX9_inChannel (σ : zS) (x0 : Nat) (x1 : Int32) (x2 : Int32) (x3 : Int32) : Option Nat :=
  (match (tX9_needSource σ x0 x1) with | some k => some k | none => (zck 8 σ x0 (fX9_needSource σ x0 x1)).bind fun c1 => (match (tX9_needInstance c1 x0 x2) with | some k => some k | none => (zck 8 c1 x0 (fX9_needInstance c1 x0 x2)).bind fun c2 => (zgR 8 4 c2 x0).bind fun v3 => (fX9_channel c2 x2 x1).bind fun c4 => (zck 1 c4.1 v3 (fX1_thingsIn c4.1 v3 c4.2 x3)).bind fun c5 => none))
def fX9_outChannel (σ : zS) (x0 : Nat) (x1 : Int32) (x2 : Int32) (x3 : Int32) : Option (zS × Int32) :=
  (zck 8 σ x0 (fX9_needInstance σ x0 x1)).bind fun c1 => (zck 8 c1 x0 (fX9_needSink c1 x0 x2)).bind fun c2 => (zgR 8 4 c2 x0).bind fun v3 => (fX9_channel c2 (((zi 4)) + x2) x1).bind fun c4 => (zck 1 c4.1 v3 (fX1_thingsIn c4.1 v3 c4.2 x3)).bind fun c5 => some (c5.1, c5.2)
def tX9_outChannel (σ : zS) (x0 : Nat) (x1 : Int32) (x2 : Int32) (x3 : Int32) : Option Nat :=
  (match (tX9_needInstance σ x0 x1) with | some k => some k | none => (zck 8 σ x0 (fX9_needInstance σ x0 x1)).bind fun c1 => (match (tX9_needSink c1 x0 x2) with | some k => some k | none => (zck 8 c1 x0 (fX9_needSink c1 x0 x2)).bind fun c2 => (zgR 8 4 c2 x0).bind fun v3 => (fX9_channel c2 (((zi 4)) + x2) x1).bind fun c4 => (zck 1 c4.1 v3 (fX1_thingsIn c4.1 v3 c4.2 x3)).bind fun c5 => none))
def fX9_progress (σ : zS) (x0 : Nat) (x1 : Int32) : Option (zS × Int32) :=
  (if x1 < ((zi 0)) then none else (if x1 ≤ ((zi 6)) then (zgR 8 4 σ x0).bind fun v1 => (zgR 1 15 σ v1).bind fun v2 => (zck 0 σ v2 (fX0_exists σ v2 )).bind fun c3 => (if c3.2 = ((zi 0)) then some (c3.1, (zi (-1))) else (if x1 = (zi 0) then (zgI 0 0 c3.1 v2).bind fun v5 => some (c3.1, v5) else (if x1 = (zi 1) then (zgI 0 1 c3.1 v2).bind fun v7 => some (c3.1, v7) else (if x1 = (zi 2) then (zgI 0 3 c3.1 v2).bind fun v9 => (if v9 = ((zi 0)) then some (c3.1, (zi 0)) else some (c3.1, (zi 1))) else (if x1 = (zi 3) then (zgI 0 5 c3.1 v2).bind fun v12 => (fJ6_bitCount_0f7a4 c3.1 v12).bind fun c13 => some (c13.1, c13.2) else (if x1 = (zi 4) then (zck 0 c3.1 v2 (fX0_arrivedFrom c3.1 v2 ((zi 0)) ((zi 4)))).bind fun c15 => some (c15.1, c15.2) else (if x1 = (zi 5) then (zck 0 c3.1 v2 (fX0_arrivedFrom c3.1 v2 ((zi 4)) ((zi 6)))).bind fun c17 => some (c17.1, c17.2) else (zgI 0 6 c3.1 v2).bind fun v18 => some (c3.1, v18)))))))) else none))
def tX9_progress (σ : zS) (x0 : Nat) (x1 : Int32) : Option Nat :=
  (if x1 < ((zi 0)) then some 2 else (if x1 ≤ ((zi 6)) then (zgR 8 4 σ x0).bind fun v1 => (zgR 1 15 σ v1).bind fun v2 => (zck 0 σ v2 (fX0_exists σ v2 )).bind fun c3 => (if c3.2 = ((zi 0)) then none else (if x1 = (zi 0) then (zgI 0 0 c3.1 v2).bind fun v5 => none else (if x1 = (zi 1) then (zgI 0 1 c3.1 v2).bind fun v7 => none else (if x1 = (zi 2) then (zgI 0 3 c3.1 v2).bind fun v9 => (if v9 = ((zi 0)) then none else none) else (if x1 = (zi 3) then (zgI 0 5 c3.1 v2).bind fun v12 => (fJ6_bitCount_0f7a4 c3.1 v12).bind fun c13 => none else (if x1 = (zi 4) then (zck 0 c3.1 v2 (fX0_arrivedFrom c3.1 v2 ((zi 0)) ((zi 4)))).bind fun c15 => none else (if x1 = (zi 5) then (zck 0 c3.1 v2 (fX0_arrivedFrom c3.1 v2 ((zi 4)) ((zi 6)))).bind fun c17 => none else (zgI 0 6 c3.1 v2).bind fun v18 => none))))))) else some 2))
def fX9_completed (σ : zS) (x0 : Nat) (x1 : Int32) : Option (zS × Int32) :=
  (if x1 < ((zi 0)) then none else (if x1 ≤ ((zi 5)) then (zgR 8 4 σ x0).bind fun v1 => (zgR 1 16 σ v1).bind fun v2 => (zck 0 σ v2 (fX0_exists σ v2 )).bind fun c3 => (if c3.2 = ((zi 0)) then some (c3.1, (zi (-1))) else (if x1 = (zi 0) then (zgI 0 0 c3.1 v2).bind fun v5 => some (c3.1, v5) else (if x1 = (zi 1) then (zgI 0 1 c3.1 v2).bind fun v7 => some (c3.1, v7) else (if x1 = (zi 2) then (zgI 0 2 c3.1 v2).bind fun v9 => some (c3.1, v9) else (if x1 = (zi 3) then (zgI 0 3 c3.1 v2).bind fun v11 => (if v11 = ((zi 0)) then some (c3.1, (zi 0)) else some (c3.1, (zi 1))) else (if x1 = (zi 4) then (zgI 0 6 c3.1 v2).bind fun v14 => some (c3.1, v14) else (zgI 0 4 c3.1 v2).bind fun v15 => (if v15 = ((zi 0)) then some (c3.1, (zi 0)) else some (c3.1, (zi 1))))))))) else none))
def tX9_completed (σ : zS) (x0 : Nat) (x1 : Int32) : Option Nat :=
  (if x1 < ((zi 0)) then some 2 else (if x1 ≤ ((zi 5)) then (zgR 8 4 σ x0).bind fun v1 => (zgR 1 16 σ v1).bind fun v2 => (zck 0 σ v2 (fX0_exists σ v2 )).bind fun c3 => (if c3.2 = ((zi 0)) then none else (if x1 = (zi 0) then (zgI 0 0 c3.1 v2).bind fun v5 => none else (if x1 = (zi 1) then (zgI 0 1 c3.1 v2).bind fun v7 => none else (if x1 = (zi 2) then (zgI 0 2 c3.1 v2).bind fun v9 => none else (if x1 = (zi 3) then (zgI 0 3 c3.1 v2).bind fun v11 => (if v11 = ((zi 0)) then none else none) else (if x1 = (zi 4) then (zgI 0 6 c3.1 v2).bind fun v14 => none else (zgI 0 4 c3.1 v2).bind fun v15 => (if v15 = ((zi 0)) then none else none))))))) else some 2))
def fX9_notedPosition (σ : zS) (x0 : Nat) (x1 : Int32) : Option (zS × Int32) :=
  (zck 8 σ x0 (fX9_needSource σ x0 x1)).bind fun c1 => (zgR 8 4 c1 x0).bind fun v2 => (zgR 1 16 c1 v2).bind fun v3 => (zck 0 c1 v3 (fX0_exists c1 v3 )).bind fun c4 => (if c4.2 = ((zi 0)) then some (c4.1, (zi 0)) else (zgR 8 4 c4.1 x0).bind fun v5 => (zgR 1 16 c4.1 v5).bind fun v6 => (zgR 0 8 c4.1 v6).bind fun v7 => (zaI c4.1 v7 x1).bind fun v8 => some (c4.1, v8))
def tX9_notedPosition (σ : zS) (x0 : Nat) (x1 : Int32) : Option Nat :=
  (match (tX9_needSource σ x0 x1) with | some k => some k | none => (zck 8 σ x0 (fX9_needSource σ x0 x1)).bind fun c1 => (zgR 8 4 c1 x0).bind fun v2 => (zgR 1 16 c1 v2).bind fun v3 => (zck 0 c1 v3 (fX0_exists c1 v3 )).bind fun c4 => (if c4.2 = ((zi 0)) then none else (zgR 8 4 c4.1 x0).bind fun v5 => (zgR 1 16 c4.1 v5).bind fun v6 => (zgR 0 8 c4.1 v6).bind fun v7 => (zaI c4.1 v7 x1).bind fun v8 => none))
def fX9_notedSum (σ : zS) (x0 : Nat) (x1 : Int32) : Option (zS × Int32) :=
  (fX9_needKey σ x1).bind fun c1 => (zgR 8 4 c1 x0).bind fun v2 => (zgR 1 16 c1 v2).bind fun v3 => (zck 0 c1 v3 (fX0_exists c1 v3 )).bind fun c4 => (if c4.2 = ((zi 0)) then some (c4.1, (zi 0)) else (zgR 8 4 c4.1 x0).bind fun v5 => (zgR 1 16 c4.1 v5).bind fun v6 => (zgR 0 9 c4.1 v6).bind fun v7 => (zaI c4.1 v7 x1).bind fun v8 => some (c4.1, v8))
def tX9_notedSum (σ : zS) (x0 : Nat) (x1 : Int32) : Option Nat :=
  (match (tX9_needKey σ x1) with | some k => some k | none => (fX9_needKey σ x1).bind fun c1 => (zgR 8 4 c1 x0).bind fun v2 => (zgR 1 16 c1 v2).bind fun v3 => (zck 0 c1 v3 (fX0_exists c1 v3 )).bind fun c4 => (if c4.2 = ((zi 0)) then none else (zgR 8 4 c4.1 x0).bind fun v5 => (zgR 1 16 c4.1 v5).bind fun v6 => (zgR 0 9 c4.1 v6).bind fun v7 => (zaI c4.1 v7 x1).bind fun v8 => none))
def jX9_shownOf_65_L44 (σ : zS) (x0 : Nat) (x1 : Int32) (x3 : Int32) (x4 : Int32) (x5 : Int32)  : Option ((zS × Int32 × Int32 × Int32) ⊕ (zS × Int32)) :=
  (zgR 8 4 σ x0).bind fun v12 => (zgR 1 14 σ v12).bind fun v13 => (zck 3 σ v13 (fX3_behind σ v13 x4)).bind fun c14 => some (.inl (c14.1, x3, c14.2, x5 + (zi (-1))))
def sX9_shownOf_44b (x0 : Nat) (x1 : Int32) (σ : zS) (u3 : Int32) (u4 : Int32) (u5 : Int32) : Option ((zS × Int32 × Int32 × Int32) ⊕ (zS × Int32)) :=
  (if u5 ≤ ((zi 0)) then some (.inr (σ, u3)) else (zgR 8 8 σ x0).bind fun v10 => (zck 7 σ v10 (fX7_keyOf σ v10 u4)).bind fun c11 => (if c11.2 = x1 then jX9_shownOf_65_L44 c11.1 x0 x1 (u3 + (zi 1)) u4 u5 else jX9_shownOf_65_L44 c11.1 x0 x1 u3 u4 u5))
def sX9_shownOf_44 (x0 : Nat) (x1 : Int32) (z : (zS × Int32 × Int32 × Int32)) : Option ((zS × Int32 × Int32 × Int32) ⊕ (zS × Int32)) := sX9_shownOf_44b x0 x1 z.1 z.2.1 z.2.2.1 z.2.2.2
def fX9_shownOf (σ : zS) (x0 : Nat) (x1 : Int32) : Option (zS × Int32) :=
  (fX9_needKey σ x1).bind fun c1 => (zgR 8 8 c1 x0).bind fun v2 => (zck 7 c1 v2 (fX7_sinkOf c1 v2 x1)).bind fun c3 => (zgR 8 4 c3.1 x0).bind fun v4 => (zgR 1 14 c3.1 v4).bind fun v5 => (zck 3 c3.1 v5 (fX3_firstOf c3.1 v5 (((zi 28)) + c3.2))).bind fun c6 => (zgR 8 4 c6.1 x0).bind fun v7 => (zgR 1 14 c6.1 v7).bind fun v8 => (zck 3 c6.1 v8 (fX3_sizeOf c6.1 v8 (((zi 28)) + c3.2))).bind fun c9 => (zloop (sX9_shownOf_44 x0 x1) zfuel (c9.1, (zi 0), c6.2, c9.2)).bind fun o17 => some (o17.1, o17.2)
def tX9_shownOf (σ : zS) (x0 : Nat) (x1 : Int32) : Option Nat :=
  (match (tX9_needKey σ x1) with | some k => some k | none => (fX9_needKey σ x1).bind fun c1 => (zgR 8 8 c1 x0).bind fun v2 => (zck 7 c1 v2 (fX7_sinkOf c1 v2 x1)).bind fun c3 => (zgR 8 4 c3.1 x0).bind fun v4 => (zgR 1 14 c3.1 v4).bind fun v5 => (zck 3 c3.1 v5 (fX3_firstOf c3.1 v5 (((zi 28)) + c3.2))).bind fun c6 => (zgR 8 4 c6.1 x0).bind fun v7 => (zgR 1 14 c6.1 v7).bind fun v8 => (zck 3 c6.1 v8 (fX3_sizeOf c6.1 v8 (((zi 28)) + c3.2))).bind fun c9 => none)
def fX9_expected (σ : zS) (x0 : Nat) (x1 : Int32) (x2 : Int32) : Option (zS × Int32) :=
  (fX9_needKey σ x1).bind fun c1 => (if ((zi 1)) ≤ x2 then (zgR 8 8 c1 x0).bind fun v2 => (zck 7 c1 v2 (fX7_resultBehind c1 v2 x1 x2)).bind fun c3 => some (c3.1, c3.2) else none)
def tX9_expected (σ : zS) (x0 : Nat) (x1 : Int32) (x2 : Int32) : Option Nat :=
  (match (tX9_needKey σ x1) with | some k => some k | none => (fX9_needKey σ x1).bind fun c1 => (if ((zi 1)) ≤ x2 then (zgR 8 8 c1 x0).bind fun v2 => (zck 7 c1 v2 (fX7_resultBehind c1 v2 x1 x2)).bind fun c3 => none else some 2))
def fX9_repeated (σ : zS) (x0 : Nat) : Option (zS × UInt32) :=
  (zgR 8 4 σ x0).bind fun v1 => (zgI 1 8 σ v1).bind fun v2 => (if v2 = ((zi 0)) then some (σ, 0) else (zgR 8 4 σ x0).bind fun v3 => (zgI 1 8 σ v3).bind fun v4 => (zgR 8 4 σ x0).bind fun v5 => (zck 1 σ v5 (fX1_positionsInAll σ v5 )).bind fun c6 => (zgR 8 4 c6.1 x0).bind fun v7 => (zgI 1 8 c6.1 v7).bind fun v8 => (zn32 (FP.fdiv (FP.i2f (v4 - c6.2)) (FP.i2f v8))).bind fun v9 => some (c6.1, v9))
def sX9_skew_4b (x0 : Nat) (σ : zS) (u1 : Int32) (u2 : Int32) : Option ((zS × Int32 × Int32) ⊕ (zS × Int32)) :=
  (zgR 8 4 σ x0).bind fun v1 => (zgI 1 0 σ v1).bind fun v2 => (if v2 ≤ u2 then some (.inr (σ, u1)) else (zgR 8 4 σ x0).bind fun v3 => (zgR 1 12 σ v3).bind fun v4 => (zaI σ v4 u2).bind fun v5 => some (.inl (σ, if u1 < v5 then v5 else u1, u2 + (zi 1))))
def sX9_skew_4 (x0 : Nat) (z : (zS × Int32 × Int32)) : Option ((zS × Int32 × Int32) ⊕ (zS × Int32)) := sX9_skew_4b x0 z.1 z.2.1 z.2.2
def fX9_skew (σ : zS) (x0 : Nat) : Option (zS × UInt64) :=
  (zloop (sX9_skew_4 x0) zfuel (σ, (zi 0), (zi 0))).bind fun o7 => (if o7.2 = ((zi 0)) then some (o7.1, 0) else (zgR 8 4 o7.1 x0).bind fun v8 => (zck 1 o7.1 v8 (fX1_handledInAll o7.1 v8 )).bind fun c9 => (zgR 8 4 c9.1 x0).bind fun v10 => (zgI 1 0 c9.1 v10).bind fun v11 => (zn64 (FP.ddiv (FP.i2d c9.2) (FP.i2d v11))).bind fun v12 => (zn64 (FP.ddiv (FP.i2d o7.2) v12)).bind fun v13 => some (c9.1, v13))
def fX9_needTicks (σ : zS) (x0 : Int32) : Option zS :=
  (if x0 < ((zi 1)) then none else (if x0 ≤ ((zi 500)) then some σ else none))
def tX9_needTicks (σ : zS) (x0 : Int32) : Option Nat :=
  (if x0 < ((zi 1)) then some 2 else (if x0 ≤ ((zi 500)) then none else some 2))
def sX9_run_25b (x0 : Nat) (x1 : Int32) (x2 : Int32) (σ : zS) (u3 : Int32) : Option ((zS × Int32) ⊕ zS) :=
  (if x1 ≤ u3 then some (.inr σ) else (zgR 8 4 σ x0).bind fun v7 => (zck 1 σ v7 (fX1_tick σ v7 )).bind fun c8 => some (.inl (c8, u3 + (zi 1))))
def sX9_run_25 (x0 : Nat) (x1 : Int32) (x2 : Int32) (z : (zS × Int32)) : Option ((zS × Int32) ⊕ zS) := sX9_run_25b x0 x1 x2 z.1 z.2
def fX9_run (σ : zS) (x0 : Nat) (x1 : Int32) : Option (zS × Int32) :=
  (fX9_needTicks σ x1).bind fun c1 => (zgR 8 3 c1 x0).bind fun v2 => (zgR 8 4 c1 x0).bind fun v3 => (zck 6 c1 v2 (fX6_remember c1 v2 v3)).bind fun c4 => (zgR 8 4 c4 x0).bind fun v5 => (zgI 1 6 c4 v5).bind fun v6 => (zloop (sX9_run_25 x0 x1 v6) zfuel (c4, (zi 0))).bind fun o10 => (zgR 8 4 o10 x0).bind fun v11 => (zgI 1 6 o10 v11).bind fun v12 => some (o10, v12 - v6)
def tX9_run (σ : zS) (x0 : Nat) (x1 : Int32) : Option Nat :=
  (match (tX9_needTicks σ x1) with | some k => some k | none => (fX9_needTicks σ x1).bind fun c1 => (zgR 8 3 c1 x0).bind fun v2 => (zgR 8 4 c1 x0).bind fun v3 => (zck 6 c1 v2 (fX6_remember c1 v2 v3)).bind fun c4 => (zgR 8 4 c4 x0).bind fun v5 => (zgI 1 6 c4 v5).bind fun v6 => none)
def fX9_begin (σ : zS) (x0 : Nat) (x1 : Int32) : Option (zS × Int32) :=
  (zgR 8 4 σ x0).bind fun v1 => (zgR 1 15 σ v1).bind fun v2 => (zck 0 σ v2 (fX0_exists σ v2 )).bind fun c3 => (if c3.2 = ((zi 0)) then (zgR 8 3 c3.1 x0).bind fun v4 => (zgR 8 4 c3.1 x0).bind fun v5 => (zck 6 c3.1 v4 (fX6_remember c3.1 v4 v5)).bind fun c6 => (zgR 8 4 c6 x0).bind fun v7 => (zck 1 c6 v7 (fX1_startCheckpoint c6 v7 x1)).bind fun c8 => (zgR 8 4 c8 x0).bind fun v9 => (zgR 1 15 c8 v9).bind fun v10 => (zgI 0 0 c8 v10).bind fun v11 => some (c8, v11) else none)
def tX9_begin (σ : zS) (x0 : Nat) (x1 : Int32) : Option Nat :=
  (zgR 8 4 σ x0).bind fun v1 => (zgR 1 15 σ v1).bind fun v2 => (zck 0 σ v2 (fX0_exists σ v2 )).bind fun c3 => (if c3.2 = ((zi 0)) then (zgR 8 3 c3.1 x0).bind fun v4 => (zgR 8 4 c3.1 x0).bind fun v5 => (zck 6 c3.1 v4 (fX6_remember c3.1 v4 v5)).bind fun c6 => (zgR 8 4 c6 x0).bind fun v7 => (zck 1 c6 v7 (fX1_startCheckpoint c6 v7 x1)).bind fun c8 => (zgR 8 4 c8 x0).bind fun v9 => (zgR 1 15 c8 v9).bind fun v10 => (zgI 0 0 c8 v10).bind fun v11 => none else some 3)
def fX9_rescale (σ : zS) (x0 : Nat) (x1 : Int32) : Option (zS × Int32) :=
  (if x1 < ((zi 1)) then none else (if x1 ≤ ((zi 4)) then (zgR 8 3 σ x0).bind fun v1 => (zgR 8 4 σ x0).bind fun v2 => (zck 6 σ v1 (fX6_remember σ v1 v2)).bind fun c3 => (zgR 8 4 c3 x0).bind fun v4 => (zgI 1 0 c3 v4).bind fun v5 => (fX9_groupsMoved c3 v5 x1).bind fun c6 => (zgR 8 4 c6.1 x0).bind fun v7 => (zck 1 c6.1 v7 (fX1_recoverWith c6.1 v7 x1)).bind fun c8 => some (c8, c6.2) else none))
def tX9_rescale (σ : zS) (x0 : Nat) (x1 : Int32) : Option Nat :=
  (if x1 < ((zi 1)) then some 2 else (if x1 ≤ ((zi 4)) then (zgR 8 3 σ x0).bind fun v1 => (zgR 8 4 σ x0).bind fun v2 => (zck 6 σ v1 (fX6_remember σ v1 v2)).bind fun c3 => (zgR 8 4 c3 x0).bind fun v4 => (zgI 1 0 c3 v4).bind fun v5 => (fX9_groupsMoved c3 v5 x1).bind fun c6 => (zgR 8 4 c6.1 x0).bind fun v7 => (zck 1 c6.1 v7 (fX1_recoverWith c6.1 v7 x1)).bind fun c8 => none else some 2))
def fX9_setRoom (σ : zS) (x0 : Nat) (x1 : Int32) : Option (zS × Int32) :=
  (if x1 < ((zi 1)) then none else (if x1 ≤ ((zi 9)) then (zgR 8 3 σ x0).bind fun v1 => (zgR 8 4 σ x0).bind fun v2 => (zck 6 σ v1 (fX6_remember σ v1 v2)).bind fun c3 => (zgR 8 4 c3 x0).bind fun v4 => (zgI 1 1 c3 v4).bind fun v5 => (zgR 8 4 c3 x0).bind fun v6 => (zpI 1 1 c3 v6 x1).bind fun σ7 => some (σ7, v5) else none))
def tX9_setRoom (σ : zS) (x0 : Nat) (x1 : Int32) : Option Nat :=
  (if x1 < ((zi 1)) then some 2 else (if x1 ≤ ((zi 9)) then (zgR 8 3 σ x0).bind fun v1 => (zgR 8 4 σ x0).bind fun v2 => (zck 6 σ v1 (fX6_remember σ v1 v2)).bind fun c3 => (zgR 8 4 c3 x0).bind fun v4 => (zgI 1 1 c3 v4).bind fun v5 => (zgR 8 4 c3 x0).bind fun v6 => none else some 2))
def fX9_setLag (σ : zS) (x0 : Nat) (x1 : Int32) (x2 : Int32) : Option (zS × Int32) :=
  (zck 8 σ x0 (fX9_needSource σ x0 x1)).bind fun c1 => (if x2 < ((zi 0)) then none else (if x2 ≤ ((zi 9)) then (zgR 8 3 c1 x0).bind fun v2 => (zgR 8 4 c1 x0).bind fun v3 => (zck 6 c1 v2 (fX6_remember c1 v2 v3)).bind fun c4 => (zgR 8 4 c4 x0).bind fun v5 => (zgR 1 9 c4 v5).bind fun v6 => (zaI c4 v6 x1).bind fun v7 => (zgR 8 4 c4 x0).bind fun v8 => (zgR 1 9 c4 v8).bind fun v9 => (zsI c4 v9 x1 x2).bind fun σ10 => some (σ10, v7) else none))
def tX9_setLag (σ : zS) (x0 : Nat) (x1 : Int32) (x2 : Int32) : Option Nat :=
  (match (tX9_needSource σ x0 x1) with | some k => some k | none => (zck 8 σ x0 (fX9_needSource σ x0 x1)).bind fun c1 => (if x2 < ((zi 0)) then some 2 else (if x2 ≤ ((zi 9)) then (zgR 8 3 c1 x0).bind fun v2 => (zgR 8 4 c1 x0).bind fun v3 => (zck 6 c1 v2 (fX6_remember c1 v2 v3)).bind fun c4 => (zgR 8 4 c4 x0).bind fun v5 => (zgR 1 9 c4 v5).bind fun v6 => (zaI c4 v6 x1).bind fun v7 => (zgR 8 4 c4 x0).bind fun v8 => (zgR 1 9 c4 v8).bind fun v9 => none else some 2)))
def fX9_setEvery (σ : zS) (x0 : Nat) (x1 : Int32) (x2 : Int32) : Option (zS × Int32) :=
  (if x1 < ((zi 0)) then none else (if x1 ≤ ((zi 99)) then (zgR 8 3 σ x0).bind fun v1 => (zgR 8 4 σ x0).bind fun v2 => (zck 6 σ v1 (fX6_remember σ v1 v2)).bind fun c3 => (zgR 8 4 c3 x0).bind fun v4 => (zgI 1 2 c3 v4).bind fun v5 => (zgR 8 4 c3 x0).bind fun v6 => (zpI 1 2 c3 v6 x1).bind fun σ7 => (zgR 8 4 σ7 x0).bind fun v8 => (zpZ 1 3 σ7 v8 x2).bind fun σ9 => some (σ9, v5) else none))
def tX9_setEvery (σ : zS) (x0 : Nat) (x1 : Int32) (x2 : Int32) : Option Nat :=
  (if x1 < ((zi 0)) then some 2 else (if x1 ≤ ((zi 99)) then (zgR 8 3 σ x0).bind fun v1 => (zgR 8 4 σ x0).bind fun v2 => (zck 6 σ v1 (fX6_remember σ v1 v2)).bind fun c3 => (zgR 8 4 c3 x0).bind fun v4 => (zgI 1 2 c3 v4).bind fun v5 => (zgR 8 4 c3 x0).bind fun v6 => none else some 2))
def fX9_undo (σ : zS) (x0 : Nat) : Option (zS × Int32) :=
  (zgR 8 3 σ x0).bind fun v1 => (zgI 6 0 σ v1).bind fun v2 => (if v2 = ((zi 0)) then none else (zgR 8 3 σ x0).bind fun v3 => (zgR 8 4 σ x0).bind fun v4 => (zck 6 σ v3 (fX6_giveBack σ v3 v4)).bind fun c5 => (zgR 8 3 c5 x0).bind fun v6 => (zgI 6 0 c5 v6).bind fun v7 => some (c5, v7))
def tX9_undo (σ : zS) (x0 : Nat) : Option Nat :=
  (zgR 8 3 σ x0).bind fun v1 => (zgI 6 0 σ v1).bind fun v2 => (if v2 = ((zi 0)) then some 3 else (zgR 8 3 σ x0).bind fun v3 => (zgR 8 4 σ x0).bind fun v4 => (zck 6 σ v3 (fX6_giveBack σ v3 v4)).bind fun c5 => (zgR 8 3 c5 x0).bind fun v6 => (zgI 6 0 c5 v6).bind fun v7 => none)
def fX9_completesIn (σ : zS) (x0 : Nat) (x1 : Int32) : Option (zS × Int32) :=
  (fX9_needTicks σ x1).bind fun c1 => (zgR 8 4 c1 x0).bind fun v2 => (zgR 1 15 c1 v2).bind fun v3 => (zck 0 c1 v3 (fX0_exists c1 v3 )).bind fun c4 => (if c4.2 = ((zi 0)) then some (c4.1, (zi (-1))) else (zgR 8 5 c4.1 x0).bind fun v5 => (zgR 8 4 c4.1 x0).bind fun v6 => (zck 1 c4.1 v5 (fX1_copyFrom c4.1 v5 v6)).bind fun c7 => (zgR 8 5 c7 x0).bind fun v8 => (zck 1 c7 v8 (fX1_ticksToCompletion c7 v8 x1)).bind fun c9 => some (c9.1, c9.2))
def tX9_completesIn (σ : zS) (x0 : Nat) (x1 : Int32) : Option Nat :=
  (match (tX9_needTicks σ x1) with | some k => some k | none => (fX9_needTicks σ x1).bind fun c1 => (zgR 8 4 c1 x0).bind fun v2 => (zgR 1 15 c1 v2).bind fun v3 => (zck 0 c1 v3 (fX0_exists c1 v3 )).bind fun c4 => (if c4.2 = ((zi 0)) then none else (zgR 8 5 c4.1 x0).bind fun v5 => (zgR 8 4 c4.1 x0).bind fun v6 => (zck 1 c4.1 v5 (fX1_copyFrom c4.1 v5 v6)).bind fun c7 => (zgR 8 5 c7 x0).bind fun v8 => (zck 1 c7 v8 (fX1_ticksToCompletion c7 v8 x1)).bind fun c9 => none))
def sX9_bestInstances_40b (x0 : Nat) (x1 : Int32) (x2 : Int32) (x3 : Int32) (x4 : Int32) (σ : zS) (u5 : Int32) : Option ((zS × Int32) ⊕ zS) :=
  (if x1 ≤ u5 then some (.inr σ) else (zgR 8 5 σ x0).bind fun v7 => (zck 1 σ v7 (fX1_tick σ v7 )).bind fun c8 => some (.inl (c8, u5 + (zi 1))))
def sX9_bestInstances_40 (x0 : Nat) (x1 : Int32) (x2 : Int32) (x3 : Int32) (x4 : Int32) (z : (zS × Int32)) : Option ((zS × Int32) ⊕ zS) := sX9_bestInstances_40b x0 x1 x2 x3 x4 z.1 z.2
def jX9_bestInstances_80_L11 (σ : zS) (x0 : Nat) (x1 : Int32) (x2 : Int32) (x3 : Int32) (x4 : Int32)  : Option ((zS × Int32 × Int32 × Int32) ⊕ (zS × Int32)) :=
  some (.inl (σ, x2, x3, x4 + (zi 1)))
def sX9_bestInstances_11b (x0 : Nat) (x1 : Int32) (σ : zS) (u2 : Int32) (u3 : Int32) (u4 : Int32) : Option ((zS × Int32 × Int32 × Int32) ⊕ (zS × Int32)) :=
  (if ((zi 4)) < u4 then some (.inr (σ, u2)) else (zgR 8 5 σ x0).bind fun v2 => (zgR 8 4 σ x0).bind fun v3 => (zck 1 σ v2 (fX1_copyFrom σ v2 v3)).bind fun c4 => (zgR 8 5 c4 x0).bind fun v5 => (zck 1 c4 v5 (fX1_recoverWith c4 v5 u4)).bind fun c6 => (zloop (sX9_bestInstances_40 x0 x1 u2 u3 u4) zfuel (c6, (zi 0))).bind fun o10 => (zgR 8 5 o10 x0).bind fun v11 => (zck 1 o10 v11 (fX1_handledInAll o10 v11 )).bind fun c12 => (if c12.2 ≤ u3 then jX9_bestInstances_80_L11 c12.1 x0 x1 u2 u3 u4 else jX9_bestInstances_80_L11 c12.1 x0 x1 u4 c12.2 u4))
def sX9_bestInstances_11 (x0 : Nat) (x1 : Int32) (z : (zS × Int32 × Int32 × Int32)) : Option ((zS × Int32 × Int32 × Int32) ⊕ (zS × Int32)) := sX9_bestInstances_11b x0 x1 z.1 z.2.1 z.2.2.1 z.2.2.2
def fX9_bestInstances (σ : zS) (x0 : Nat) (x1 : Int32) : Option (zS × Int32) :=
  (fX9_needTicks σ x1).bind fun c1 => (zloop (sX9_bestInstances_11 x0 x1) zfuel (c1, (zi 1), (zi (-1)), (zi 1))).bind fun o15 => some (o15.1, o15.2)
def tX9_bestInstances (σ : zS) (x0 : Nat) (x1 : Int32) : Option Nat :=
  (match (tX9_needTicks σ x1) with | some k => some k | none => (fX9_needTicks σ x1).bind fun c1 => none)
def sX9_printSink_43b (x0 : Nat) (σ : zS) (u2 : Int32) (u3 : Int32) : Option ((zS × Int32 × Int32) ⊕ zS) :=
  (if u3 ≤ ((zi 0)) then some (.inr σ) else (zgR 8 2 σ x0).bind fun v10 => (zck 4 σ v10 (fX4_add σ v10 ((zi 107)))).bind fun c11 => (zgR 8 2 c11 x0).bind fun v12 => (zgR 8 8 c11 x0).bind fun v13 => (zck 7 c11 v13 (fX7_keyOf c11 v13 u2)).bind fun c14 => (zck 4 c14.1 v12 (fX4_addNumber c14.1 v12 c14.2)).bind fun c15 => (zgR 8 2 c15 x0).bind fun v16 => (zck 4 c15 v16 (fX4_add c15 v16 ((zi 61)))).bind fun c17 => (zgR 8 2 c17 x0).bind fun v18 => (zgR 8 8 c17 x0).bind fun v19 => (zck 7 c17 v19 (fX7_resultOf c17 v19 u2)).bind fun c20 => (zck 4 c20.1 v18 (fX4_addNumber c20.1 v18 c20.2)).bind fun c21 => (zgR 8 2 c21 x0).bind fun v22 => (zck 4 c21 v22 (fX4_add c21 v22 ((zi 10)))).bind fun c23 => (zgR 8 4 c23 x0).bind fun v24 => (zgR 1 14 c23 v24).bind fun v25 => (zck 3 c23 v25 (fX3_behind c23 v25 u2)).bind fun c26 => some (.inl (c26.1, c26.2, u3 + (zi (-1)))))
def sX9_printSink_43 (x0 : Nat) (z : (zS × Int32 × Int32)) : Option ((zS × Int32 × Int32) ⊕ zS) := sX9_printSink_43b x0 z.1 z.2.1 z.2.2
def fX9_printSink (σ : zS) (x0 : Nat) (x1 : Int32) : Option (zS × Int32) :=
  (zck 8 σ x0 (fX9_needSink σ x0 x1)).bind fun c1 => (zgR 8 2 c1 x0).bind fun v2 => (zpI 4 1 c1 v2 ((zi 0))).bind fun σ3 => (zgR 8 4 σ3 x0).bind fun v4 => (zgR 1 14 σ3 v4).bind fun v5 => (zck 3 σ3 v5 (fX3_firstOf σ3 v5 (((zi 28)) + x1))).bind fun c6 => (zgR 8 4 c6.1 x0).bind fun v7 => (zgR 1 14 c6.1 v7).bind fun v8 => (zck 3 c6.1 v8 (fX3_sizeOf c6.1 v8 (((zi 28)) + x1))).bind fun c9 => (zloop (sX9_printSink_43 x0) zfuel (c9.1, c6.2, c9.2)).bind fun o28 => (zgR 8 2 o28 x0).bind fun v29 => (zgI 4 1 o28 v29).bind fun v30 => some (o28, v30)
def tX9_printSink (σ : zS) (x0 : Nat) (x1 : Int32) : Option Nat :=
  (match (tX9_needSink σ x0 x1) with | some k => some k | none => (zck 8 σ x0 (fX9_needSink σ x0 x1)).bind fun c1 => (zgR 8 2 c1 x0).bind fun v2 => none)
def fX9_restoreState (σ : zS) (x0 : Nat) : Option (zS × Int32) :=
  (zgI 8 7 σ x0).bind fun v1 => (if v1 = ((zi 0)) then none else (zgR 8 4 σ x0).bind fun v2 => (zgR 8 6 σ x0).bind fun v3 => (zck 1 σ v2 (fX1_copyFrom σ v2 v3)).bind fun c4 => (zgR 8 3 c4 x0).bind fun v5 => (zck 6 c4 v5 (fX6_forget c4 v5 )).bind fun c6 => (zgR 8 4 c6 x0).bind fun v7 => (zgI 1 4 c6 v7).bind fun v8 => some (c6, v8))
def tX9_restoreState (σ : zS) (x0 : Nat) : Option Nat :=
  (zgI 8 7 σ x0).bind fun v1 => (if v1 = ((zi 0)) then some 3 else (zgR 8 4 σ x0).bind fun v2 => (zgR 8 6 σ x0).bind fun v3 => (zck 1 σ v2 (fX1_copyFrom σ v2 v3)).bind fun c4 => (zgR 8 3 c4 x0).bind fun v5 => (zck 6 c4 v5 (fX6_forget c4 v5 )).bind fun c6 => (zgR 8 4 c6 x0).bind fun v7 => (zgI 1 4 c6 v7).bind fun v8 => none)
def fX10_repeated (σ : zS) (x0 : Nat) : Option (zS × UInt32) :=
  (zpI 9 0 σ x0 ((zi 0))).bind fun σ1 => (zgR 9 6 σ1 x0).bind fun v2 => (zaI σ1 v2 ((zi 8))).bind fun v3 => (if v3 = ((zi 0)) then some (σ1, 0) else (zck 9 σ1 x0 (fX10_sumOf σ1 x0 ((zi 13)) ((zi 4)))).bind fun c4 => (zn32 (FP.fdiv (FP.i2f (v3 - c4.2)) (FP.i2f v3))).bind fun v5 => some (c4.1, v5))
def jX10_skew_42_L9 (σ : zS) (x0 : Nat) (x1 : Int32) (x2 : Int32)  : Option ((zS × Int32 × Int32) ⊕ (zS × Int32)) :=
  some (.inl (σ, x1, x2 + (zi 1)))
def sX10_skew_9b (x0 : Nat) (σ : zS) (u1 : Int32) (u2 : Int32) : Option ((zS × Int32 × Int32) ⊕ (zS × Int32)) :=
  (zgR 9 6 σ x0).bind fun v2 => (zaI σ v2 ((zi 1))).bind fun v3 => (if v3 ≤ u2 then some (.inr (σ, u1)) else (zgR 9 6 σ x0).bind fun v4 => (zaI σ v4 (((zi 33)) + u2)).bind fun v5 => (if v5 ≤ u1 then jX10_skew_42_L9 σ x0 u1 u2 else (zgR 9 6 σ x0).bind fun v6 => (zaI σ v6 (((zi 33)) + u2)).bind fun v7 => jX10_skew_42_L9 σ x0 v7 u2))
def sX10_skew_9 (x0 : Nat) (z : (zS × Int32 × Int32)) : Option ((zS × Int32 × Int32) ⊕ (zS × Int32)) := sX10_skew_9b x0 z.1 z.2.1 z.2.2
def fX10_skew (σ : zS) (x0 : Nat) : Option (zS × UInt64) :=
  (zpI 9 0 σ x0 ((zi 0))).bind fun σ1 => (zloop (sX10_skew_9 x0) zfuel (σ1, (zi 0), (zi 0))).bind fun o10 => (if o10.2 = ((zi 0)) then some (o10.1, 0) else (zck 9 o10.1 x0 (fX10_allHandled o10.1 x0 )).bind fun c11 => (zgR 9 6 c11.1 x0).bind fun v12 => (zaI c11.1 v12 ((zi 1))).bind fun v13 => (zn64 (FP.ddiv (FP.i2d c11.2) (FP.i2d v13))).bind fun v14 => (zn64 (FP.ddiv (FP.i2d o10.2) v14)).bind fun v15 => some (c11.1, v15))
def fL_source (σ : zS) (x0 : Nat) (x1 : Int32) (x2 : Int32) (x3 : Nat) : Option (zS × Int32) :=
  (zck 8 σ x0 (fX9_source σ x0 x1 x2)).bind fun c1 => (zsJ c1.1 x3 ((zi 0)) c1.2.toInt64).bind fun σ2 => some (σ2, (zi 0))
def fL_record (σ : zS) (x0 : Nat) (x1 : Int32) (x2 : Int32) (x3 : Int32) (x4 : Nat) : Option (zS × Int32) :=
  (zck 8 σ x0 (fX9_record σ x0 x1 x2 x3)).bind fun c1 => (zsJ c1.1 x4 ((zi 0)) c1.2.toInt64).bind fun σ2 => some (σ2, (zi 0))
def fL_owner (σ : zS) (x0 : Nat) (x1 : Int32) (x2 : Nat) : Option (zS × Int32) :=
  (zck 8 σ x0 (fX9_owner σ x0 x1)).bind fun c1 => (zsJ c1.1 x2 ((zi 0)) c1.2.toInt64).bind fun σ2 => some (σ2, (zi 0))
def fL_sum (σ : zS) (x0 : Nat) (x1 : Int32) (x2 : Nat) : Option (zS × Int32) :=
  (zck 8 σ x0 (fX9_sum σ x0 x1)).bind fun c1 => (zsJ c1.1 x2 ((zi 0)) c1.2.toInt64).bind fun σ2 => some (σ2, (zi 0))
def fL_instance (σ : zS) (x0 : Nat) (x1 : Int32) (x2 : Int32) (x3 : Nat) : Option (zS × Int32) :=
  (zck 8 σ x0 (fX9_instance σ x0 x1 x2)).bind fun c1 => (zsJ c1.1 x3 ((zi 0)) c1.2.toInt64).bind fun σ2 => some (σ2, (zi 0))
def fL_sink (σ : zS) (x0 : Nat) (x1 : Int32) (x2 : Int32) (x3 : Nat) : Option (zS × Int32) :=
  (zck 8 σ x0 (fX9_sink σ x0 x1 x2)).bind fun c1 => (zsJ c1.1 x3 ((zi 0)) c1.2.toInt64).bind fun σ2 => some (σ2, (zi 0))
def fL_shown (σ : zS) (x0 : Nat) (x1 : Int32) (x2 : Int32) (x3 : Int32) (x4 : Nat) : Option (zS × Int32) :=
  (zck 8 σ x0 (fX9_shown σ x0 x1 x2 x3)).bind fun c1 => (zsJ c1.1 x4 ((zi 0)) c1.2.toInt64).bind fun σ2 => some (σ2, (zi 0))
def fL_inChannel (σ : zS) (x0 : Nat) (x1 : Int32) (x2 : Int32) (x3 : Int32) (x4 : Nat) : Option (zS × Int32) :=
  (zck 8 σ x0 (fX9_inChannel σ x0 x1 x2 x3)).bind fun c1 => (zsJ c1.1 x4 ((zi 0)) c1.2.toInt64).bind fun σ2 => some (σ2, (zi 0))
def fL_outChannel (σ : zS) (x0 : Nat) (x1 : Int32) (x2 : Int32) (x3 : Int32) (x4 : Nat) : Option (zS × Int32) :=
  (zck 8 σ x0 (fX9_outChannel σ x0 x1 x2 x3)).bind fun c1 => (zsJ c1.1 x4 ((zi 0)) c1.2.toInt64).bind fun σ2 => some (σ2, (zi 0))
def fL_progress (σ : zS) (x0 : Nat) (x1 : Int32) (x2 : Nat) : Option (zS × Int32) :=
  (zck 8 σ x0 (fX9_progress σ x0 x1)).bind fun c1 => (zsJ c1.1 x2 ((zi 0)) c1.2.toInt64).bind fun σ2 => some (σ2, (zi 0))
def fL_completed (σ : zS) (x0 : Nat) (x1 : Int32) (x2 : Nat) : Option (zS × Int32) :=
  (zck 8 σ x0 (fX9_completed σ x0 x1)).bind fun c1 => (zsJ c1.1 x2 ((zi 0)) c1.2.toInt64).bind fun σ2 => some (σ2, (zi 0))
def fL_notedPosition (σ : zS) (x0 : Nat) (x1 : Int32) (x2 : Nat) : Option (zS × Int32) :=
  (zck 8 σ x0 (fX9_notedPosition σ x0 x1)).bind fun c1 => (zsJ c1.1 x2 ((zi 0)) c1.2.toInt64).bind fun σ2 => some (σ2, (zi 0))
def fL_notedSum (σ : zS) (x0 : Nat) (x1 : Int32) (x2 : Nat) : Option (zS × Int32) :=
  (zck 8 σ x0 (fX9_notedSum σ x0 x1)).bind fun c1 => (zsJ c1.1 x2 ((zi 0)) c1.2.toInt64).bind fun σ2 => some (σ2, (zi 0))
def fL_shownOf (σ : zS) (x0 : Nat) (x1 : Int32) (x2 : Nat) : Option (zS × Int32) :=
  (zck 8 σ x0 (fX9_shownOf σ x0 x1)).bind fun c1 => (zsJ c1.1 x2 ((zi 0)) c1.2.toInt64).bind fun σ2 => some (σ2, (zi 0))
def fL_expected (σ : zS) (x0 : Nat) (x1 : Int32) (x2 : Int32) (x3 : Nat) : Option (zS × Int32) :=
  (zck 8 σ x0 (fX9_expected σ x0 x1 x2)).bind fun c1 => (zsJ c1.1 x3 ((zi 0)) c1.2.toInt64).bind fun σ2 => some (σ2, (zi 0))
def fL_run (σ : zS) (x0 : Nat) (x1 : Int32) (x2 : Nat) : Option (zS × Int32) :=
  (zck 8 σ x0 (fX9_run σ x0 x1)).bind fun c1 => (zsJ c1.1 x2 ((zi 0)) c1.2.toInt64).bind fun σ2 => some (σ2, (zi 0))
def fL_begin (σ : zS) (x0 : Nat) (x1 : Int32) (x2 : Nat) : Option (zS × Int32) :=
  (zck 8 σ x0 (fX9_begin σ x0 x1)).bind fun c1 => (zsJ c1.1 x2 ((zi 0)) c1.2.toInt64).bind fun σ2 => some (σ2, (zi 0))
def fL_rescale (σ : zS) (x0 : Nat) (x1 : Int32) (x2 : Nat) : Option (zS × Int32) :=
  (zck 8 σ x0 (fX9_rescale σ x0 x1)).bind fun c1 => (zsJ c1.1 x2 ((zi 0)) c1.2.toInt64).bind fun σ2 => some (σ2, (zi 0))
def fL_setRoom (σ : zS) (x0 : Nat) (x1 : Int32) (x2 : Nat) : Option (zS × Int32) :=
  (zck 8 σ x0 (fX9_setRoom σ x0 x1)).bind fun c1 => (zsJ c1.1 x2 ((zi 0)) c1.2.toInt64).bind fun σ2 => some (σ2, (zi 0))
def fL_setLag (σ : zS) (x0 : Nat) (x1 : Int32) (x2 : Int32) (x3 : Nat) : Option (zS × Int32) :=
  (zck 8 σ x0 (fX9_setLag σ x0 x1 x2)).bind fun c1 => (zsJ c1.1 x3 ((zi 0)) c1.2.toInt64).bind fun σ2 => some (σ2, (zi 0))
def fL_setEvery (σ : zS) (x0 : Nat) (x1 : Int32) (x2 : Int32) (x3 : Nat) : Option (zS × Int32) :=
  (zck 8 σ x0 (fX9_setEvery σ x0 x1 x2)).bind fun c1 => (zsJ c1.1 x3 ((zi 0)) c1.2.toInt64).bind fun σ2 => some (σ2, (zi 0))
def fL_undo (σ : zS) (x0 : Nat) (x1 : Nat) : Option (zS × Int32) :=
  (zck 8 σ x0 (fX9_undo σ x0 )).bind fun c1 => (zsJ c1.1 x1 ((zi 0)) c1.2.toInt64).bind fun σ2 => some (σ2, (zi 0))
def fL_completesIn (σ : zS) (x0 : Nat) (x1 : Int32) (x2 : Nat) : Option (zS × Int32) :=
  (zck 8 σ x0 (fX9_completesIn σ x0 x1)).bind fun c1 => (zsJ c1.1 x2 ((zi 0)) c1.2.toInt64).bind fun σ2 => some (σ2, (zi 0))
def fL_bestInstances (σ : zS) (x0 : Nat) (x1 : Int32) (x2 : Nat) : Option (zS × Int32) :=
  (zck 8 σ x0 (fX9_bestInstances σ x0 x1)).bind fun c1 => (zsJ c1.1 x2 ((zi 0)) c1.2.toInt64).bind fun σ2 => some (σ2, (zi 0))
def fL_printSink (σ : zS) (x0 : Nat) (x1 : Int32) (x2 : Nat) : Option (zS × Int32) :=
  (zck 8 σ x0 (fX9_printSink σ x0 x1)).bind fun c1 => (zsJ c1.1 x2 ((zi 0)) c1.2.toInt64).bind fun σ2 => some (σ2, (zi 0))
def fL_restoreState (σ : zS) (x0 : Nat) (x1 : Nat) : Option (zS × Int32) :=
  (zck 8 σ x0 (fX9_restoreState σ x0 )).bind fun c1 => (zsJ c1.1 x1 ((zi 0)) c1.2.toInt64).bind fun σ2 => some (σ2, (zi 0))
